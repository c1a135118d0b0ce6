/-- one append more behind m bytes -/
theorem grew_step {σ : CS} {m : Nat} {b : Nat → Int32} {r : RS} (hok : tOK σ) (hm : (σ.1 3701).toInt + m + 4 ≤ 32770) (h : tGrew σ m b r) (L : LV) : Tm (fun k => f_X2_append k 0 L r.2.1) (fun q => q.1 = (0, 0) ∧ tGrew σ (m + 4) (fun j => if j < m then b j else cByte (L.1 1) (24 - 8 * nI (j - m))) (q.1, q.2.1, (r.2.2.1 + q.2.2.1, r.2.2.2 + q.2.2.2))) := by
  obtain ⟨row, n, hst, hrow, hnew, hfit, a1, a2, a3, hc, hs⟩ := id h
  have hmi : (nI m).toInt = m := i_ofNat (by have := hok.1; omega)
  have hl : (r.2.1.1 3701) = σ.1 3701 + nI m := by rw [hst]; exact tC_len
  have h0 := hok.1
  have hli : (r.2.1.1 3701).toInt = (σ.1 3701).toInt + m := by rw [hl, i_add] <;> omega
  have hr : r.2.1.2.2.1 38 = row := by rw [hst]; exact tC_row
  have hnn : sN r.2.1 38 = n := by rw [hst]; exact tC_n
  refine Tm_mono (s_append L r.2.1 (by omega) (by omega) (by rw [hnn]; omega) (by rw [hnn]; omega) (by rw [hnn, hr]; exact hfit)) (fun q hq => ⟨hq.1, ?_⟩)
  exact tGrew_tr h0 (by show _ + ((4 : Nat) : Int) ≤ _; omega) h hq.2
theorem grew_zero {σ : CS} (hok : tOK σ) (v : Nat × Int32) : tGrew σ 0 (fun _ => 0) (v, σ, (0, 0)) := by
  refine ⟨σ.2.2.1 38, sN σ 38, ?_, fun _ _ => rfl, fun j hj => absurd hj (by omega), hok.2.2.2.2, Nat.le_refl _, hok.2.2.2.1, ?_, ?_, ?_⟩
  · show σ = _
    rw [show σ.1 3701 + nI 0 = σ.1 3701 from Int32.add_zero _, tC_self]
  · have := hok.2.1; show _ + ((0 : Nat) : Int) ≤ _; omega
  · show 0 + _ ≤ _; omega
  · show 0 + _ ≤ _; omega
/-- byte j of the five numbers that feed takes -/
def cFed (L : LV) (j : Nat) : Int32 := cByte (L.1 (1 + j / 4)) (24 - 8 * nI (j % 4))
theorem s_Cfeed (L : LV) (σ : CS) (hok : tOK σ) : Tm (fun k => f_X11_feed k 0 L σ) (fun r => if (σ.1 3701).toInt + 20 ≤ 32768 then r.1 = (0, σ.1 3701 + 20) ∧ tGrew σ 20 (cFed L) r else r = ((4, 0), σ, (1, 6))) := by
  have k20 : (20 : Int32).toInt = 20 := rfl
  have kM : (32768 : Int32).toInt = 32768 := rfl
  have h0 := hok.1
  have h1 := hok.2.2.1
  have hs : (σ.1 3701 + 20).toInt = (σ.1 3701).toInt + 20 := by rw [i_add] <;> rw [k20] <;> omega
  refine Tm_suc (fun k => by rw [f_X11_feed]) ?_
  refine Tm_ite (fun c => ?_) (fun c => ?_)
  · rw [i_le, hs, kM] at c
    refine Tm_suc (fun k => by rw [f_X11_feed]) ?_
    have fin : ∀ (q : RS) (r : RS) (x : Nat × Nat), r = (((0 : Nat), q.2.1.1 3701), q.2.1, x) → tGrew σ 20 (cFed L) (q.1, q.2.1, x) → (if (σ.1 3701).toInt + 20 ≤ 32768 then r.1 = (0, σ.1 3701 + 20) ∧ tGrew σ 20 (cFed L) r else r = ((4, 0), σ, (1, 6))) := by
      intro q r x hr hg
      subst hr
      rw [if_pos c]
      obtain ⟨row, n, hst, rest⟩ := hg
      refine ⟨?_, row, n, hst, rest⟩
      show ((0 : Nat), q.2.1.1 3701) = _
      rw [show q.2.1.1 3701 = σ.1 3701 + 20 from by rw [show q.2.1 = _ from hst]; exact tC_len]
    have stop : ∀ (r : RS), r.1 = ((0 : Nat), (0 : Int32)) → ¬ r.1.1 = 0 → False := fun r h h' => h' (by rw [h])
    have g0 := grew_zero hok (0, 0)
    refine Tm_ox (grew_step hok (by show _ + ((0 : Nat) : Int) + 4 ≤ _; omega) g0 (lI lZ 1 (L.1 1))) (fun r hr h => (stop r hr.1 h).elim) (fun r1 hr1 _ => ?_)
    have g1 := hr1.2
    refine Tm_ox (grew_step (r := (r1.1, r1.2.1, (0 + r1.2.2.1, 0 + r1.2.2.2))) hok (by show _ + ((4 : Nat) : Int) + 4 ≤ _; omega) g1 (lI lZ 1 (L.1 2))) (fun r hr h => (stop r hr.1 h).elim) (fun r2 hr2 _ => ?_)
    have g2 := hr2.2
    refine Tm_ox (grew_step (r := (r2.1, r2.2.1, (0 + r1.2.2.1 + r2.2.2.1, 0 + r1.2.2.2 + r2.2.2.2))) hok (by show _ + ((8 : Nat) : Int) + 4 ≤ _; omega) g2 (lI lZ 1 (L.1 3))) (fun r hr h => (stop r hr.1 h).elim) (fun r3 hr3 _ => ?_)
    have g3 := hr3.2
    refine Tm_ox (grew_step (r := (r3.1, r3.2.1, (0 + r1.2.2.1 + r2.2.2.1 + r3.2.2.1, 0 + r1.2.2.2 + r2.2.2.2 + r3.2.2.2))) hok (by show _ + ((12 : Nat) : Int) + 4 ≤ _; omega) g3 (lI lZ 1 (L.1 4))) (fun r hr h => (stop r hr.1 h).elim) (fun r4 hr4 _ => ?_)
    have g4 := hr4.2
    refine Tm_ox (grew_step (r := (r4.1, r4.2.1, (0 + r1.2.2.1 + r2.2.2.1 + r3.2.2.1 + r4.2.2.1, 0 + r1.2.2.2 + r2.2.2.2 + r3.2.2.2 + r4.2.2.2))) hok (by show _ + ((16 : Nat) : Int) + 4 ≤ _; omega) g4 (lI lZ 1 (L.1 5))) (fun r hr h => (stop r hr.1 h).elim) (fun r5 hr5 _ => ?_)
    have g5 := hr5.2
    refine Tm_some ?_
    refine fin r5 _ (r1.2.2.1 + (r2.2.2.1 + (r3.2.2.1 + (r4.2.2.1 + (r5.2.2.1 + 0)))), r1.2.2.2 + (r2.2.2.2 + (r3.2.2.2 + (r4.2.2.2 + (r5.2.2.2 + 0))))) rfl ?_
    have e1 : r1.2.2.1 + (r2.2.2.1 + (r3.2.2.1 + (r4.2.2.1 + (r5.2.2.1 + 0)))) = 0 + r1.2.2.1 + r2.2.2.1 + r3.2.2.1 + r4.2.2.1 + r5.2.2.1 := by omega
    have e2 : r1.2.2.2 + (r2.2.2.2 + (r3.2.2.2 + (r4.2.2.2 + (r5.2.2.2 + 0)))) = 0 + r1.2.2.2 + r2.2.2.2 + r3.2.2.2 + r4.2.2.2 + r5.2.2.2 := by omega
    rw [e1, e2]
    obtain ⟨row, n, hst, hrow, hnew, rest⟩ := g5
    refine ⟨row, n, hst, hrow, fun j hj => ?_, rest⟩
    rw [hnew j hj]
    simp only [lI_same]
    unfold cFed
    rcases (show j / 4 = 0 ∨ j / 4 = 1 ∨ j / 4 = 2 ∨ j / 4 = 3 ∨ j / 4 = 4 by omega) with e | e | e | e | e
    · rw [if_pos (by omega), if_pos (by omega), if_pos (by omega), if_pos (by omega), if_neg (by omega), e, show j - 0 = j % 4 by omega]
    · rw [if_pos (by omega), if_pos (by omega), if_pos (by omega), if_neg (by omega), e, show j - (0 + 4) = j % 4 by omega]
    · rw [if_pos (by omega), if_pos (by omega), if_neg (by omega), e, show j - (0 + 4 + 4) = j % 4 by omega]
    · rw [if_pos (by omega), if_neg (by omega), e, show j - (0 + 4 + 4 + 4) = j % 4 by omega]
    · rw [if_neg (by omega), e, show j - (0 + 4 + 4 + 4 + 4) = j % 4 by omega]
  · rw [i_le, hs, kM] at c
    refine Tm_some ?_
    rw [if_neg c]
