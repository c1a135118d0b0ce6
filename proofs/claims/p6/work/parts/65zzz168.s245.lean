/-! Statements on both sides (reference): a call gives back: its fors are closed, its frame is left. -/
theorem suN_blk {f g : Nat → Nat} {a : Nat} : ∀ {n : Nat}, a + 60 ≤ n → (∀ j, j < n → ¬ (a ≤ j ∧ j < a + 60) → f j = g j) → (∀ j, a ≤ j → j < a + 60 → g j = 0) → suN f n = suN g n + suN (fun j => f (a + j)) 60 := by
  have inn : ∀ (d : Nat), d ≤ 60 → (∀ j, j < a → f j = g j) → (∀ j, a ≤ j → j < a + 60 → g j = 0) → suN f (a + d) = suN g (a + d) + suN (fun j => f (a + j)) d := by
    intro d
    induction d with
    | zero => intro _ h _; show suN f a = suN g a + 0; rw [suN_c h]; omega
    | succ d ih =>
      intro hd h1 h2
      have := ih (by omega) h1 h2
      show suN f (a + d) + f (a + d) = suN g (a + d) + g (a + d) + (suN (fun j => f (a + j)) d + f (a + d))
      rw [this, h2 (a + d) (by omega) (by omega)]; omega
  intro n
  induction n with
  | zero => intro h; omega
  | succ n ih =>
    intro hn h1 h2
    by_cases e : a + 60 = n + 1
    · rw [← e]
      exact inn 60 (Nat.le_refl _) (fun j hj => h1 j (by omega) (by omega)) h2
    · have := ih (by omega) (fun j hj hh => h1 j (by omega) hh) h2
      show suN f n + f n = suN g n + g n + _
      rw [this, h1 n (by omega) (by omega)]; omega
section GBC
variable {T : Nat → Nat → Int32} {FN : Nat → Nat → Prop} {lc cn : Nat → Prop} {t w XC c : Nat} {F0 : List Nat} {σ1 σ2 : MS}
theorem suI_app {G F : List Nat} : suI T F ≤ suI T (G ++ F) := by
  induction G with
  | nil => exact Nat.le_refl _
  | cons m G ih => show suI T F ≤ itn T m + suI T (G ++ F); omega
theorem FSk_tl {A : Nat → Int32} {m : Nat} {F : List Nat} (h : FSk T A (m :: F)) : FSk T A F := h.2
/-- all fors of a call are closed -/
theorem E_gbClose {l2 : Nat} (hl2 : l2 < 50) {N1 N2 : Nat → Int32} (n2 : N1 2 = nI l2) (o2 : N2 2 = nI l2) {Q : Int32 × MS → Int32 × MS → Prop} (hS : Sc1 T FN lc cn σ1) (hS2 : Sc1 T FN lc cn σ2) (h1c : σ1.2.2 30 1 = nI (l2 + 1)) (h66 : σ1.2.2 30 (66 + 3 * l2) = nI F0.length) (hQ : ∀ (τ1 τ2 : MS), EI t w XC τ1 τ2 → UT τ1 → UT τ2 → FCt (fun i => i = 2 ∨ i = 3) σ1 τ1 → FCt (fun i => i = 2 ∨ i = 3) σ2 τ2 → τ1.2.2 30 2 = nI F0.length → τ1.2.2 30 3 = nI (suI T F0) → ItS τ1 (suI T F0) → T2 (fun k => x_giveBack k 2 N1 τ1) (fun k => x_giveBack k 2 N2 τ2) Q) : ∀ (G : List Nat) (τ1 τ2 : MS), (G ++ F0).length ≤ 1050 → suI T (G ++ F0) ≤ 3100 → (∀ m ∈ G, ∃ kk, ItL T FN lc cn kk (T 5 m)) → EI t w XC τ1 τ2 → UT τ1 → UT τ2 → FCt (fun i => i = 2 ∨ i = 3) σ1 τ1 → FCt (fun i => i = 2 ∨ i = 3) σ2 τ2 → τ1.2.2 30 2 = nI (G ++ F0).length → FSk T (τ1.2.2 30) (G ++ F0) → τ1.2.2 30 3 = nI (suI T (G ++ F0)) → ItS τ1 (suI T (G ++ F0)) → T2 (fun k => x_giveBack k 1 N1 τ1) (fun k => x_giveBack k 1 N2 τ2) Q := by
  intro G
  have e66 : (64 : Int32) + 3 * nI l2 + 2 = nI (66 + 3 * l2) := by
    rw [show (3 : Int32) * nI l2 = nI (3 * l2) from n_mulN 3 l2, show (64 : Int32) + nI (3 * l2) = nI (64 + 3 * l2) from n_add (p := 64) (by omega), show nI (64 + 3 * l2) + 2 = nI (64 + 3 * l2 + 2) from n_add (q := 2) (by omega)]
    congr 1; omega
  induction G with
  | nil =>
    intro τ1 τ2 hl hs hG hJ V1 V2 f1 f2 p2 pF p3 pit
    have hl : F0.length ≤ 1050 := hl
    have p2 : τ1.2.2 30 2 = nI F0.length := p2
    refine T2_suc (fun k => by rw [x_giveBack]) (fun k => by rw [x_giveBack]) ?_
    refine T2_chk (by decide) (by decide) ?_
    rw [n2, o2, e66]
    refine T2_chk (n_in (by omega) (by omega)) (n_in (by omega) (by omega)) ?_
    rw [show (2 : Int32).toNatClampNeg = 2 from by decide, n_cl (p := 66 + 3 * l2) (by omega), EI_30 hJ (i := 2) (by unfold Zn; omega) (InA_4 (by omega)), EI_30 hJ (i := 66 + 3 * l2) (by unfold Zn; omega) (InA_cl ((FC_30 f1 (i := 1) (by unfold Zn; omega) (by omega)).trans h1c) (by omega) (by omega)), p2, FC_30 f1 (i := 66 + 3 * l2) (by unfold Zn; omega) (by omega), h66]
    refine T2_ite Iff.rfl (fun _ _ => ?_) (fun z _ => absurd (Int32.le_refl _) z)
    exact hQ τ1 τ2 hJ V1 V2 f1 f2 p2 p3 pit
  | cons m G ih =>
    intro τ1 τ2 hl hs hG hJ V1 V2 f1 f2 p2 pF p3 pit
    have hl : (G ++ F0).length + 1 ≤ 1050 := hl
    have gl : F0.length ≤ (G ++ F0).length := by rw [List.length_append]; omega
    have p2 : τ1.2.2 30 2 = nI ((G ++ F0).length + 1) := p2
    have hs' : itn T m + suI T (G ++ F0) ≤ 3100 := hs
    refine T2_suc (fun k => by rw [x_giveBack]) (fun k => by rw [x_giveBack]) ?_
    refine T2_chk (by decide) (by decide) ?_
    rw [n2, o2, e66]
    refine T2_chk (n_in (by omega) (by omega)) (n_in (by omega) (by omega)) ?_
    rw [show (2 : Int32).toNatClampNeg = 2 from by decide, n_cl (p := 66 + 3 * l2) (by omega), EI_30 hJ (i := 2) (by unfold Zn; omega) (InA_4 (by omega)), EI_30 hJ (i := 66 + 3 * l2) (by unfold Zn; omega) (InA_cl ((FC_30 f1 (i := 1) (by unfold Zn; omega) (by omega)).trans h1c) (by omega) (by omega)), p2, FC_30 f1 (i := 66 + 3 * l2) (by unfold Zn; omega) (by omega), h66]
    refine T2_ite Iff.rfl (fun z _ => ?_) (fun _ _ => ?_)
    · have := (n_le (by omega) (by omega)).mp z
      omega
    obtain ⟨kk, hL⟩ := hG m (List.mem_cons_self ..)
    refine T2_ob (E_closeFor (m := m) (F := G ++ F0) (q := itn T m + suI T (G ++ F0)) (Sc1_fc hS f1 (fun i hi => by unfold Ict; omega)) hJ V1 V2 hl p2 pF p3 (by omega) hL) (fun r1 r2 hr => ?_)
    obtain ⟨c1, c2, c3, c4, c5, c6, c7, c8⟩ := hr
    exact ih r1.2 r2.2 (by omega) (by omega) (fun m hm => hG m (List.mem_cons_of_mem _ hm)) c1 c2 c3 (FC_tr f1 c4) (FC_tr f2 c5) c6 (FSk_c (by omega) (fun i h1 h2 => FC_30 c4 (by unfold Zn; omega) (by omega)) pF.2) c7 (c8 (ItS_mo pit (show suI T (G ++ F0) ≤ itn T m + suI T (G ++ F0) by omega)))
end GBC
