/-! The first state, on both sides. -/
theorem CGo_h {M : Nat → Int32} {g : Nat → Prop} {t p : Nat} {H : Int32} (e : M p = H) (h1 : uN H < 2147483648) (h2 : p + hdW (uN H) < t) (h3 : hdK (uN H) = 4 ∨ hdK (uN H) = 5 ∨ hdK (uN H) = 6) (h4 : hdT (uN H) ≤ 30 ∧ 1 ≤ hdS (uN H)) (h5 : hdL (uN H) = 0) (h6 : 5 ≤ hdK (uN H) → 1 ≤ hdT (uN H)) : CGo M g t p := by
  unfold CGo
  rw [e]
  refine ⟨h1, h2, Or.inr h3, h4, fun z => by omega, fun z => ⟨by omega, h6 z, fun i hi => by omega⟩, fun _ _ i hi => by omega⟩
theorem hq_0 : HQ (fun p => p < 3) [] 3 cs0 := by
  refine ⟨rfl, ⟨Nat.le_refl _, by decide⟩, Or.inl ⟨rfl, rfl, rfl⟩, ⟨by decide, by decide, by decide⟩, ⟨rfl, rfl, rfl⟩, rfl, fun p hp => ⟨Or.inl hp, ?_⟩⟩
  have hp' : p < 3 := hp
  have : p = 0 ∨ p = 1 ∨ p = 2 := by omega
  rcases this with rfl | rfl | rfl
  · exact CGo_h (H := 65540) rfl (by decide) (by decide) (by decide) (by decide) (by decide) (by decide)
  · exact CGo_h (H := 67174405) rfl (by decide) (by decide) (by decide) (by decide) (by decide) (by decide)
  · exact CGo_h (H := 67174414) rfl (by decide) (by decide) (by decide) (by decide) (by decide) (by decide)
theorem z_0 {k : Nat} (h : ¬ (k = 3 ∨ k = 67)) (i : Nat) : cs0.2.2.1 k i = 0 := by
  show (if k = 3 then (upd (upd (upd nZ 0 65540) 1 67174405) 2 67174414) else if k = 67 then (nFill (-2147483648) 27 nZ) else nZ) i = 0
  rw [if_neg (by omega), if_neg (by omega)]
theorem fit_0 : fits .byte (.int 0) = true := by decide
theorem by_0 : BY False cs0 := by
  refine ⟨fun i => ?_, fun i => ?_, fun i => ?_, by decide, by decide, fun _ => ⟨rfl, fun z => z.elim⟩⟩
  · rw [z_0 (by decide)]; exact fit_0
  · rw [z_0 (by decide)]; exact fit_0
  · rw [z_0 (by decide)]; exact fit_0
theorem hmx_0 : Hmx cs0 := by
  have g0 : Gv (fun p => p < 3) 0 := Or.inr ⟨by decide, by decide⟩
  refine ⟨fun p => p < 3, [], 3, KN, hq_0, ⟨⟨by decide, by decide⟩, by decide, by decide⟩, fun i hi => ?_, fun i hi => ?_, by decide, fun i hi => hi, fun i j _ _ e => e⟩
  · rw [z_0 (by decide)]
    exact ⟨Or.inl g0, fun _ => g0, fun v e => (by cases e)⟩
  · have e : cs0.2.2.1 67 i = -2147483648 := by
      show nFill (-2147483648) 27 nZ i = _
      exact if_pos hi
    rw [e]
    exact ⟨Or.inl (Gv_om _), fun _ => Gv_om _, fun v e => (by cases e)⟩
theorem f_0 {i : Nat} (h : ¬ (i = 1 ∨ i = 2406)) : cs0.1 i = 0 := by
  show (if i = 1 then (3 : Int32) else if i = 2406 then 256 else 0) = 0
  rw [if_neg (by omega), if_neg (by omega)]
theorem tok_0 : tOK cs0 := by
  unfold tOK
  rw [f_0 (by decide)]
  exact ⟨by decide, by decide +kernel, by decide, by decide +kernel, fun i hi => by rw [z_0 (by decide)]; exact fit_0⟩
theorem gen39 (w : Nat → Int64) : (if (39 : Nat) = 39 then w else (fun _ => 0)) = w := if_pos rfl
theorem lx_0 : cs0.2.2.2.1 39 = lxW := by
  have e : cs0.2.2.2.1 39 = (if (39 : Nat) = 39 then lxW else (fun _ => 0)) := by unfold cs0; with_reducible rfl
  rw [e, gen39]
theorem u_0 : uN (0 : Int32) = 0 := rfl
theorem ic_0 : IC none 0 cs0 := by
  have c1 : CdL (sCur cs0) 0 cs0 := by
    refine ⟨f_0 (by decide), Nat.zero_le _, Or.inr ⟨rfl, rfl⟩⟩
  have b1 : ∀ b, cs0.2.2.1 (pR18 b) 41 = 0 ∧ cs0.2.2.1 (pR14 b) 41 = 0 := fun b => ⟨z_0 (by cases b <;> decide) _, z_0 (by cases b <;> decide) _⟩
  have n1 : sN cs0 41 ≤ 21504 := by decide +kernel
  have n2 : sN cs0 42 = 64 := by decide +kernel
  have tok := tok_0
  have hm := hmx_0
  have byz := by_0
  have a1 : cs0.1 3701 = nI 0 := f_0 (i := 3701) (by decide)
  have a2 : cs0.2.2.2.1 39 = lxW := lx_0
  have a3 : sOt cs0 = !(sCur cs0) := rfl
  have a4 : 2 * 0 + 7 * (0 + 20 * (512 - 0)) ≤ 71682 := by omega
  have a5 : uN (cs0.1 7517) ≤ sN cs0 66 := by rw [f_0 (i := 7517) (by decide), u_0]; exact Nat.zero_le _
  have a6 : uN (cs0.1 7518) ≤ 2 := by rw [f_0 (i := 7518) (by decide), u_0]; omega
  have a7 : uN (cs0.1 7513) ≤ 8 := by rw [f_0 (i := 7513) (by decide), u_0]; omega
  have a8 : cs0.1 7510 = 0 := f_0 (i := 7510) (by decide)
  have a9 : cs0.1 7511 = 0 := f_0 (i := 7511) (by decide)
  have n0 : (0 : Nat) ≤ 20 * 0 := Nat.zero_le _
  generalize cs0 = σ at *
  exact ⟨0, 0, ⟨tok, a1, n0, a2⟩, ⟨a3, b1, n1, Or.inl n2, c1, a4⟩, ⟨a5, a6, a7⟩, ⟨hm, byz⟩, Or.inl ⟨a8, a9, rfl⟩⟩
theorem ib_0 : IB 0 cs0 ms0 := ⟨none, ic_0, rj_0, ⟨rfl, fun i hi => absurd hi (by show ¬ (i : Int) < 0; omega)⟩, ⟨fun _ => rfl, fun _ => rfl⟩, ⟨fun _ => rfl, fun _ => rfl⟩, rfl⟩
theorem ph_0 : PhC cs0 = 14 ∧ PhS cs0 = 550228 := by decide +kernel
