/-! A run is set back to its beginning (reference): one side. -/
/-- one for a slot that counts -/
def fl1 (σ : MS) (s : Nat) : Nat := if kC σ s = 0 then 0 else 1
/-- midway: i slots are emptied -/
def Rs0 (i : Nat) (σ ρ : MS) : Prop := (ρ.2.1 96 = σ.2.1 113 ∧ ∀ j, j ≠ 96 → ρ.2.1 j = σ.2.1 j) ∧ (∀ j, j = 105 ∨ j = 56 ∨ j = 102 ∨ j = 103 ∨ j = 108 ∨ j = 106 ∨ j = 95 ∨ j = 63 ∨ j = 65 → ρ.1 j = 0) ∧ ρ.1 104 = -1 ∧ ρ.1 64 = nI (suN (fl1 σ) i) ∧ (∀ j, ¬ (j = 105 ∨ j = 56 ∨ j = 102 ∨ j = 103 ∨ j = 108 ∨ j = 106 ∨ j = 95 ∨ j = 63 ∨ j = 65 ∨ j = 104 ∨ j = 64) → ρ.1 j = σ.1 j) ∧ (∀ a, a ≠ 30 → ρ.2.2 a = σ.2.2 a) ∧ (∀ j, j = 1 ∨ j = 2 ∨ j = 3 → ρ.2.2 30 j = 0) ∧ (∀ j, 4 ≤ j → j < 4 + i → ρ.2.2 30 j = 0) ∧ ∀ j, ¬ (j = 1 ∨ j = 2 ∨ j = 3 ∨ (4 ≤ j ∧ j < 4 + i)) → ρ.2.2 30 j = σ.2.2 30 j
section RST
variable {σ ρ : MS} {Q : Int32 × MS → Prop}
theorem fl1_b (i : Nat) : suN (fl1 σ) i ≤ 1 * i := suN_bd (fun j _ => by unfold fl1; split <;> omega)
theorem Rs0_s {i : Nat} (h : Rs0 i σ ρ) : Rs0 (i + 1) σ (mSc (mAr ρ 30 (4 + i) 0) 64 (nI (suN (fl1 σ) (i + 1)))) := by
  obtain ⟨h1, h2, h3, h4, h5, h6, h7, h8, h9⟩ := h
  have rw30 : (mSc (mAr ρ 30 (4 + i) 0) 64 (nI (suN (fl1 σ) (i + 1)))).2.2 30 = upd (ρ.2.2 30) (4 + i) 0 := by
    show (mAr ρ 30 (4 + i) 0).2.2 30 = _
    rw [mAr_s]
  refine ⟨h1, fun j hj => ?_, ?_, rfl, fun j hj => ?_, fun a ha => ?_, fun j hj => ?_, fun j p q => ?_, fun j hj => ?_⟩
  · show upd ρ.1 64 _ j = _
    rw [upd_other (by omega)]; exact h2 j hj
  · show upd ρ.1 64 (nI (suN (fl1 σ) (i + 1))) 104 = -1
    rw [upd_other (by omega)]; exact h3
  · show upd ρ.1 64 _ j = _
    rw [upd_other (by omega)]; exact h5 j hj
  · show (mAr ρ 30 (4 + i) 0).2.2 a = _
    rw [mAr_o ha]; exact h6 a ha
  · rw [rw30, upd_other (by omega)]; exact h7 j hj
  · rw [rw30]
    by_cases e : j = 4 + i
    · rw [e, upd_same]
    · rw [upd_other e]; exact h8 j p (by omega)
  · rw [rw30, upd_other (by omega)]; exact h9 j (by omega)
/-- slots are emptied, those that count are counted -/
theorem s_rsL {ns : Nat} (h21 : σ.2.2 21 0 = nI ns) (hns : ns ≤ 60) (hQ : ∀ (ρ : MS) (N : Nat → Int32), Rs0 60 σ ρ → Tm (fun k => x_reset k 21 N ρ) Q) : ∀ (d i : Nat) (ρ : MS) (N : Nat → Int32), d + i = 60 → N 1 = nI i → Rs0 i σ ρ → Tm (fun k => x_reset k 16 N ρ) Q := by
  intro d
  induction d with
  | zero =>
    intro i ρ N hd n1 h
    have ei : i = 60 := by omega
    subst ei
    refine Tm_suc (fun k => by rw [x_reset]) ?_
    rw [n1]
    refine Tm_ite (fun _ => hQ ρ N h) (fun z => absurd (by decide) z)
  | succ d ih =>
    intro i ρ N hd n1 h
    have hb := fl1_b (σ := σ) i
    refine Tm_suc (fun k => by rw [x_reset]) ?_
    rw [n1]
    refine Tm_ite (fun z => ?_) (fun _ => ?_)
    · have := (show nI 60 ≤ nI i ↔ 60 ≤ i from n_le (by omega) (by omega)).mp z
      omega
    rw [show (4 : Int32) + nI i = nI (4 + i) from n_add (p := 4) (by omega)]
    refine Tm_chk (n_in (by omega) (by omega)) ?_
    rw [n_cl (p := 4 + i) (by omega)]
    show Tm (fun k => x_reset k 17 N (mAr ρ 30 (4 + i) 0)) Q
    have r21 : (mAr ρ 30 (4 + i) 0).2.2 21 = σ.2.2 21 := (mAr_o (by decide)).trans (h.2.2.2.2.2.1 21 (by decide))
    have r20 : (mAr ρ 30 (4 + i) 0).2.2 20 = σ.2.2 20 := (mAr_o (by decide)).trans (h.2.2.2.2.2.1 20 (by decide))
    have s64 : (mAr ρ 30 (4 + i) 0).1 64 = nI (suN (fl1 σ) i) := h.2.2.2.1
    have b19 : ∀ M : Nat → Int32, M 1 = nI i → M 100 = nI (fl1 σ i) → M 101 = nI (suN (fl1 σ) i) → Tm (fun k => x_reset k 19 M (mAr ρ 30 (4 + i) 0)) Q := fun M m1 m100 m101 => by
      have fb : fl1 σ i ≤ 1 := by unfold fl1; split <;> omega
      refine Tm_suc (fun k => by rw [x_reset]) ?_
      rw [m100, m101, n_add (by omega)]
      refine Tm_suc (fun k => by rw [x_reset]) ?_
      rw [m1, n_add1]
      exact ih (i + 1) (mSc (mAr ρ 30 (4 + i) 0) 64 (nI (suN (fl1 σ) (i + 1)))) _ (by omega) rfl (Rs0_s h)
    refine Tm_suc (fun k => by rw [x_reset]) ?_
    refine Tm_chk (by decide) ?_
    rw [show (0 : Int32).toNatClampNeg = 0 from by decide, r21, h21, n1, s64]
    refine Tm_ite (fun z => ?_) (fun z => ?_)
    · have z := (n_le (by omega) (by omega)).mp z
      have k0 : kC σ (60 * 0 + i) = 0 := kC_out (by omega) (by omega) (by rw [h21, n_cl (p := ns) (by omega)]; exact z)
      rw [show 60 * 0 + i = i by omega] at k0
      refine Tm_suc (fun k => by rw [x_reset]) ?_
      exact b19 _ n1 (by show (0 : Int32) = _; unfold fl1; rw [if_pos k0]; rfl) rfl
    · have z : i < ns := by
        have : ¬ ns ≤ i := fun q => z ((n_le (by omega) (by omega)).mpr q)
        omega
      have k0 : kC σ (60 * 0 + i) = σ.2.2 20 (60 * 0 + i) := kC_in (by omega) (by rw [h21, n_cl (p := ns) (by omega)]; exact z) (Nat.zero_le _)
      rw [show 60 * 0 + i = i by omega] at k0
      refine Tm_chk (n_in (by omega) (by omega)) ?_
      rw [n_cl (p := i) (by omega), r20]
      refine Tm_ite (fun y => ?_) (fun y => ?_)
      · refine Tm_suc (fun k => by rw [x_reset]) ?_
        exact b19 _ n1 (by show (0 : Int32) = _; unfold fl1; rw [if_pos (k0.trans y)]; rfl) rfl
      · exact b19 _ n1 (by show (1 : Int32) = _; unfold fl1; rw [if_neg (fun q => y (k0.symm.trans q))]; rfl) rfl
/-- the first statement is entered -/
theorem s_ent0 (h56 : ρ.1 56 = 0) (h1 : ρ.2.2 30 1 = 0) {L : Nat → Int32} (d2 : L 2 = -1) : Tm (fun k => x_enter k 0 L ρ) (fun r => r.2 = if L 1 = -1 then mSc ρ 102 1 else mAr ρ 30 0 (L 1)) := by
  refine Tm_suc (fun k => by rw [x_enter]) ?_
  refine Tm_ite (fun z => ?_) (fun z => ?_)
  · have fin : ∀ N : Nat → Int32, Tm (fun k => x_enter k 2 N (mSc ρ 102 1)) (fun r => r.2 = if L 1 = -1 then mSc ρ 102 1 else mAr ρ 30 0 (L 1)) := fun N => by
      refine Tm_suc (fun k => by rw [x_enter]) ?_
      exact Tm_some (by rw [if_pos z])
    have dn : ∀ N : Nat → Int32, N 1 = -1 → Tm (fun k => x_done k 0 N ρ) (fun r => r = (-1, mSc ρ 102 1)) := fun N n1 => by
      refine Tm_suc (fun k => by rw [x_done]) ?_
      rw [h56]
      refine Tm_ite (fun _ => ?_) (fun y => absurd (by decide) y)
      refine Tm_suc (fun k => by rw [x_done]) ?_
      rw [n1]
      refine Tm_ite (fun _ => ?_) (fun y => absurd rfl y)
      refine Tm_chk (by decide) ?_
      rw [show (1 : Int32).toNatClampNeg = 1 from by decide, h1]
      refine Tm_ite (fun _ => ?_) (fun y => absurd (by decide) y)
      refine Tm_suc (fun k => by rw [x_done]) ?_
      refine Tm_suc (fun k => by rw [x_done]) ?_
      exact Tm_some rfl
    refine Tm_suc (fun k => by rw [x_enter]) ?_
    rw [d2]
    have fd : ∀ N : Nat → Int32, N 1 = -1 → Tm (fun k => x_finished k 0 N ρ) (fun r => r.2 = mSc ρ 102 1) := fun N n1 => by
      refine Tm_suc (fun k => by rw [x_finished]) ?_
      rw [n1]
      refine Tm_suc (fun k => by rw [x_finished]) ?_
      refine Tm_ite (fun y => absurd (show (1 : Int32) = 0 from y) (by decide)) (fun _ => ?_)
      refine Tm_ob (dn _ rfl) (fun r hr => ?_)
      rw [hr]
      refine Tm_ite (fun _ => ?_) (fun y => absurd rfl y)
      refine Tm_suc (fun k => by rw [x_finished]) ?_
      refine Tm_suc (fun k => by rw [x_finished]) ?_
      refine Tm_ite (fun _ => ?_) (fun y => absurd rfl y)
      refine Tm_suc (fun k => by rw [x_finished]) ?_
      refine Tm_ite (fun _ => ?_) (fun y => absurd rfl y)
      refine Tm_suc (fun k => by rw [x_finished]) ?_
      refine Tm_suc (fun k => by rw [x_finished]) ?_
      refine Tm_ite (fun _ => ?_) (fun y => absurd rfl y)
      refine Tm_suc (fun k => by rw [x_finished]) ?_
      exact Tm_some rfl
    refine Tm_ob (fd _ rfl) (fun r hr => ?_)
    rw [hr]
    exact fin _
  · refine Tm_chk (by decide) ?_
    rw [show (0 : Int32).toNatClampNeg = 0 from by decide]
    refine Tm_suc (fun k => by rw [x_enter]) ?_
    exact Tm_some (by rw [if_neg z]; rfl)
section RS1
variable {L : Nat → Int32}
def mW9 (σ : MS) : MS := (σ.1, updW σ.2.1 96 (σ.2.1 113), σ.2.2)
theorem rs_0 (t : Tm (fun k => x_reset k 1 L (mW9 ρ)) Q) : Tm (fun k => x_reset k 0 L ρ) Q := Tm_suc (fun k => by rw [x_reset]; first | done | rfl) t
theorem rs_1 (t : Tm (fun k => x_reset k 2 L (mSc ρ 105 0)) Q) : Tm (fun k => x_reset k 1 L ρ) Q := Tm_suc (fun k => by rw [x_reset]; first | done | rfl) t
theorem rs_2 (t : Tm (fun k => x_reset k 3 L (mSc ρ 56 0)) Q) : Tm (fun k => x_reset k 2 L ρ) Q := Tm_suc (fun k => by rw [x_reset]; first | done | rfl) t
theorem rs_3 (t : Tm (fun k => x_reset k 4 L (mSc ρ 102 0)) Q) : Tm (fun k => x_reset k 3 L ρ) Q := Tm_suc (fun k => by rw [x_reset]; first | done | rfl) t
theorem rs_4 (t : Tm (fun k => x_reset k 5 L (mSc ρ 103 0)) Q) : Tm (fun k => x_reset k 4 L ρ) Q := Tm_suc (fun k => by rw [x_reset]; first | done | rfl) t
theorem rs_5 (t : Tm (fun k => x_reset k 6 L (mSc ρ 108 0)) Q) : Tm (fun k => x_reset k 5 L ρ) Q := Tm_suc (fun k => by rw [x_reset]; first | done | rfl) t
theorem rs_6 (t : Tm (fun k => x_reset k 7 L (mSc ρ 104 (-1))) Q) : Tm (fun k => x_reset k 6 L ρ) Q := Tm_suc (fun k => by rw [x_reset]; first | done | rfl) t
theorem rs_7 (t : Tm (fun k => x_reset k 8 L (mSc ρ 106 0)) Q) : Tm (fun k => x_reset k 7 L ρ) Q := Tm_suc (fun k => by rw [x_reset]; first | done | rfl) t
theorem rs_8 (t : Tm (fun k => x_reset k 9 L (mSc ρ 95 0)) Q) : Tm (fun k => x_reset k 8 L ρ) Q := Tm_suc (fun k => by rw [x_reset]; first | done | rfl) t
theorem rs_9 (t : Tm (fun k => x_reset k 10 L (mSc ρ 63 0)) Q) : Tm (fun k => x_reset k 9 L ρ) Q := Tm_suc (fun k => by rw [x_reset]; first | done | rfl) t
theorem rs_10 (t : Tm (fun k => x_reset k 11 L (mSc ρ 65 0)) Q) : Tm (fun k => x_reset k 10 L ρ) Q := Tm_suc (fun k => by rw [x_reset]; first | done | rfl) t
theorem rs_11 (t : Tm (fun k => x_reset k 12 L (mSc ρ 64 0)) Q) : Tm (fun k => x_reset k 11 L ρ) Q := Tm_suc (fun k => by rw [x_reset]; first | done | rfl) t
theorem rs_12 (t : Tm (fun k => x_reset k 13 L (mAr ρ 30 1 0)) Q) : Tm (fun k => x_reset k 12 L ρ) Q := Tm_suc (fun k => by rw [x_reset, if_pos (by decide)]; first | done | rfl) t
theorem rs_13 (t : Tm (fun k => x_reset k 14 L (mAr ρ 30 2 0)) Q) : Tm (fun k => x_reset k 13 L ρ) Q := Tm_suc (fun k => by rw [x_reset, if_pos (by decide)]; first | done | rfl) t
theorem rs_14 (t : Tm (fun k => x_reset k 15 L (mAr ρ 30 3 0)) Q) : Tm (fun k => x_reset k 14 L ρ) Q := Tm_suc (fun k => by rw [x_reset, if_pos (by decide)]; first | done | rfl) t
theorem rs_15 (t : Tm (fun k => x_reset k 16 (upd L 1 0) ρ) Q) : Tm (fun k => x_reset k 15 L ρ) Q := Tm_suc (fun k => by rw [x_reset]) t
end RS1
/-- set back -/
theorem s_reset {ns : Nat} (h21 : σ.2.2 21 0 = nI ns) (hns : ns ≤ 60) {L : Nat → Int32} : Tm (fun k => x_reset k 0 L σ) (fun r => ∃ ρ, Rs0 60 σ ρ ∧ r.2 = if σ.1 110 = -1 then mSc ρ 102 1 else mAr ρ 30 0 (σ.1 110)) := by
  have fin : ∀ (ρ : MS) (N : Nat → Int32), Rs0 60 σ ρ → Tm (fun k => x_reset k 21 N ρ) (fun r => ∃ ρ, Rs0 60 σ ρ ∧ r.2 = if σ.1 110 = -1 then mSc ρ 102 1 else mAr ρ 30 0 (σ.1 110)) := fun ρ N h => by
    have e110 : ρ.1 110 = σ.1 110 := h.2.2.2.2.1 110 (by omega)
    refine Tm_suc (fun k => by rw [x_reset]) ?_
    refine Tm_ob (s_ent0 (h.2.1 56 (by omega)) (h.2.2.2.2.2.2.1 1 (by omega)) rfl) (fun r hr => ?_)
    refine Tm_some ⟨ρ, h, ?_⟩
    show r.2 = _
    rw [hr, ← e110]
    rfl
  refine rs_0 (rs_1 (rs_2 (rs_3 (rs_4 (rs_5 (rs_6 (rs_7 (rs_8 (rs_9 (rs_10 (rs_11 (rs_12 (rs_13 (rs_14 (rs_15 ?_)))))))))))))))
  refine s_rsL h21 hns fin 60 0 _ _ (by omega) rfl ?_
  refine ⟨⟨?_, fun j hj => ?_⟩, fun j hj => ?_, rfl, rfl, fun j hj => ?_, fun a ha => ?_, fun j hj => ?_, fun j p q => by omega, fun j hj => ?_⟩
  · show updW σ.2.1 96 (σ.2.1 113) 96 = _
    unfold updW; rw [if_pos rfl]
  · show updW σ.2.1 96 (σ.2.1 113) j = _
    unfold updW; rw [if_neg hj]
  · rcases hj with e | e | e | e | e | e | e | e | e <;> (rw [e]; rfl)
  · show upd (upd (upd (upd (upd (upd (upd (upd (upd (upd (upd σ.1 105 0) 56 0) 102 0) 103 0) 108 0) 104 (-1)) 106 0) 95 0) 63 0) 65 0) 64 0 j = _
    rw [upd_other (by omega), upd_other (by omega), upd_other (by omega), upd_other (by omega), upd_other (by omega), upd_other (by omega), upd_other (by omega), upd_other (by omega), upd_other (by omega), upd_other (by omega), upd_other (by omega)]
  · show (mAr (mAr (mAr σ 30 1 0) 30 2 0) 30 3 0).2.2 a = _
    rw [mAr_o ha, mAr_o ha, mAr_o ha]
  · show (mAr (mAr (mAr σ 30 1 0) 30 2 0) 30 3 0).2.2 30 j = _
    rcases hj with e | e | e
    · rw [e, mAr_s, upd_other (by decide), mAr_s, upd_other (by decide), mAr_s, upd_same]
    · rw [e, mAr_s, upd_other (by decide), mAr_s, upd_same]
    · rw [e, mAr_s, upd_same]
  · show (mAr (mAr (mAr σ 30 1 0) 30 2 0) 30 3 0).2.2 30 j = _
    rw [mAr_s, upd_other (by omega), mAr_s, upd_other (by omega), mAr_s, upd_other (by omega)]
end RST
