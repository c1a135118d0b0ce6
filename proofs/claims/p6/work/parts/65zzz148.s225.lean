/-! Evaluation on both sides (reference): all that begins; EVALUATION WHOLE (made in part by gen225.py). -/
section EVW
variable {T : Nat → Nat → Int32} {FN : Nat → Nat → Prop} {O r K d t u w XC : Nat} {lc : Nat → Prop} {σ σ1 σ2 τ1 τ2 : MS}
theorem bg_1 {k n : Nat} {L : Nat → Int32} (hL : L 1 = nI n) (hn : (1 ≤ n ∧ n < LNo T % 70001)) (h4 : σ.2.2 4 n = 1) : x_GV (k + 1) d 0 1 L σ = x_GV k d 0 2 L σ := by
  rw [e_begins_1, hL, if_pos (n_in (by omega) (by omega)), n_cl (by omega), h4, if_pos rfl]
theorem bg_2 {k n : Nat} {L : Nat → Int32} (hL : L 1 = nI n) (hn : (1 ≤ n ∧ n < LNo T % 70001)) (h4 : σ.2.2 4 n = 2) : x_GV (k + 1) d 0 1 L σ = x_GV k d 0 3 L σ := by
  rw [e_begins_1, hL, if_pos (n_in (by omega) (by omega)), n_cl (by omega), h4, if_neg (by decide), if_pos rfl]
theorem bg_3 {k n : Nat} {L : Nat → Int32} (hL : L 1 = nI n) (hn : (1 ≤ n ∧ n < LNo T % 70001)) (h4 : σ.2.2 4 n = 3) : x_GV (k + 1) d 0 1 L σ = x_GV k d 0 4 L σ := by
  rw [e_begins_1, hL, if_pos (n_in (by omega) (by omega)), n_cl (by omega), h4, if_neg (by decide), if_neg (by decide), if_pos rfl]
theorem bg_4 {k n : Nat} {L : Nat → Int32} (hL : L 1 = nI n) (hn : (1 ≤ n ∧ n < LNo T % 70001)) (h4 : σ.2.2 4 n = 4) : x_GV (k + 1) d 0 1 L σ = x_GV k d 0 5 L σ := by
  rw [e_begins_1, hL, if_pos (n_in (by omega) (by omega)), n_cl (by omega), h4, if_neg (by decide), if_neg (by decide), if_neg (by decide), if_pos rfl]
theorem bg_5 {k n : Nat} {L : Nat → Int32} (hL : L 1 = nI n) (hn : (1 ≤ n ∧ n < LNo T % 70001)) (h4 : σ.2.2 4 n = 5) : x_GV (k + 1) d 0 1 L σ = x_GV k d 0 6 L σ := by
  rw [e_begins_1, hL, if_pos (n_in (by omega) (by omega)), n_cl (by omega), h4, if_neg (by decide), if_neg (by decide), if_neg (by decide), if_neg (by decide), if_pos rfl]
theorem bg_6 {k n : Nat} {L : Nat → Int32} (hL : L 1 = nI n) (hn : (1 ≤ n ∧ n < LNo T % 70001)) (h4 : σ.2.2 4 n = 6) : x_GV (k + 1) d 0 1 L σ = x_GV k d 0 7 L σ := by
  rw [e_begins_1, hL, if_pos (n_in (by omega) (by omega)), n_cl (by omega), h4, if_neg (by decide), if_neg (by decide), if_neg (by decide), if_neg (by decide), if_neg (by decide), if_pos rfl]
theorem bg_7 {k n : Nat} {L : Nat → Int32} (hL : L 1 = nI n) (hn : (1 ≤ n ∧ n < LNo T % 70001)) (h4 : σ.2.2 4 n = 7) : x_GV (k + 1) d 0 1 L σ = x_GV k d 0 8 L σ := by
  rw [e_begins_1, hL, if_pos (n_in (by omega) (by omega)), n_cl (by omega), h4, if_neg (by decide), if_neg (by decide), if_neg (by decide), if_neg (by decide), if_neg (by decide), if_neg (by decide), if_pos rfl]
theorem bg_8 {k n : Nat} {L : Nat → Int32} (hL : L 1 = nI n) (hn : (1 ≤ n ∧ n < LNo T % 70001)) (h4 : σ.2.2 4 n = 8) : x_GV (k + 1) d 0 1 L σ = x_GV k d 0 9 L σ := by
  rw [e_begins_1, hL, if_pos (n_in (by omega) (by omega)), n_cl (by omega), h4, if_neg (by decide), if_neg (by decide), if_neg (by decide), if_neg (by decide), if_neg (by decide), if_neg (by decide), if_neg (by decide), if_pos rfl]
theorem bg_9 {k n : Nat} {L : Nat → Int32} (hL : L 1 = nI n) (hn : (1 ≤ n ∧ n < LNo T % 70001)) (h4 : σ.2.2 4 n = 9) : x_GV (k + 1) d 0 1 L σ = x_GV k d 0 16 L σ := by
  rw [e_begins_1, hL, if_pos (n_in (by omega) (by omega)), n_cl (by omega), h4, if_neg (by decide), if_neg (by decide), if_neg (by decide), if_neg (by decide), if_neg (by decide), if_neg (by decide), if_neg (by decide), if_neg (by decide), if_pos rfl]
theorem bg_10 {k n : Nat} {L : Nat → Int32} (hL : L 1 = nI n) (hn : (1 ≤ n ∧ n < LNo T % 70001)) (h4 : σ.2.2 4 n = 10) : x_GV (k + 1) d 0 1 L σ = x_GV k d 0 10 L σ := by
  rw [e_begins_1, hL, if_pos (n_in (by omega) (by omega)), n_cl (by omega), h4, if_neg (by decide), if_neg (by decide), if_neg (by decide), if_neg (by decide), if_neg (by decide), if_neg (by decide), if_neg (by decide), if_neg (by decide), if_neg (by decide), if_pos rfl]
theorem bg_11 {k n : Nat} {L : Nat → Int32} (hL : L 1 = nI n) (hn : (1 ≤ n ∧ n < LNo T % 70001)) (h4 : σ.2.2 4 n = 11) : x_GV (k + 1) d 0 1 L σ = x_GV k d 0 11 L σ := by
  rw [e_begins_1, hL, if_pos (n_in (by omega) (by omega)), n_cl (by omega), h4, if_neg (by decide), if_neg (by decide), if_neg (by decide), if_neg (by decide), if_neg (by decide), if_neg (by decide), if_neg (by decide), if_neg (by decide), if_neg (by decide), if_neg (by decide), if_pos rfl]
theorem bg_12 {k n : Nat} {L : Nat → Int32} (hL : L 1 = nI n) (hn : (1 ≤ n ∧ n < LNo T % 70001)) (h4 : σ.2.2 4 n = 12) : x_GV (k + 1) d 0 1 L σ = x_GV k d 0 15 L σ := by
  rw [e_begins_1, hL, if_pos (n_in (by omega) (by omega)), n_cl (by omega), h4, if_neg (by decide), if_neg (by decide), if_neg (by decide), if_neg (by decide), if_neg (by decide), if_neg (by decide), if_neg (by decide), if_neg (by decide), if_neg (by decide), if_neg (by decide), if_neg (by decide), if_pos rfl]
theorem bg_13 {k n : Nat} {L : Nat → Int32} (hL : L 1 = nI n) (hn : (1 ≤ n ∧ n < LNo T % 70001)) (h4 : σ.2.2 4 n = 13) : x_GV (k + 1) d 0 1 L σ = x_GV k d 0 12 L σ := by
  rw [e_begins_1, hL, if_pos (n_in (by omega) (by omega)), n_cl (by omega), h4, if_neg (by decide), if_neg (by decide), if_neg (by decide), if_neg (by decide), if_neg (by decide), if_neg (by decide), if_neg (by decide), if_neg (by decide), if_neg (by decide), if_neg (by decide), if_neg (by decide), if_neg (by decide), if_pos rfl]
theorem bg_14 {k n : Nat} {L : Nat → Int32} (hL : L 1 = nI n) (hn : (1 ≤ n ∧ n < LNo T % 70001)) (h4 : σ.2.2 4 n = 14) : x_GV (k + 1) d 0 1 L σ = x_GV k d 0 13 L σ := by
  rw [e_begins_1, hL, if_pos (n_in (by omega) (by omega)), n_cl (by omega), h4, if_neg (by decide), if_neg (by decide), if_neg (by decide), if_neg (by decide), if_neg (by decide), if_neg (by decide), if_neg (by decide), if_neg (by decide), if_neg (by decide), if_neg (by decide), if_neg (by decide), if_neg (by decide), if_neg (by decide), if_pos rfl]
theorem bg_15 {k n : Nat} {L : Nat → Int32} (hL : L 1 = nI n) (hn : (1 ≤ n ∧ n < LNo T % 70001)) (h4 : σ.2.2 4 n = 15) : x_GV (k + 1) d 0 1 L σ = x_GV k d 0 14 L σ := by
  rw [e_begins_1, hL, if_pos (n_in (by omega) (by omega)), n_cl (by omega), h4, if_neg (by decide), if_neg (by decide), if_neg (by decide), if_neg (by decide), if_neg (by decide), if_neg (by decide), if_neg (by decide), if_neg (by decide), if_neg (by decide), if_neg (by decide), if_neg (by decide), if_neg (by decide), if_neg (by decide), if_neg (by decide), if_pos rfl]
theorem bg_17 {k n : Nat} {L : Nat → Int32} (hL : L 1 = nI n) (hn : (1 ≤ n ∧ n < LNo T % 70001)) (h4 : σ.2.2 4 n = 17) : x_GV (k + 1) d 0 1 L σ = x_GV k d 0 16 L σ := by
  rw [e_begins_1, hL, if_pos (n_in (by omega) (by omega)), n_cl (by omega), h4, if_neg (by decide), if_neg (by decide), if_neg (by decide), if_neg (by decide), if_neg (by decide), if_neg (by decide), if_neg (by decide), if_neg (by decide), if_neg (by decide), if_neg (by decide), if_neg (by decide), if_neg (by decide), if_neg (by decide), if_neg (by decide), if_neg (by decide)]
theorem bg_18 {k n : Nat} {L : Nat → Int32} (hL : L 1 = nI n) (hn : (1 ≤ n ∧ n < LNo T % 70001)) (h4 : σ.2.2 4 n = 18) : x_GV (k + 1) d 0 1 L σ = x_GV k d 0 16 L σ := by
  rw [e_begins_1, hL, if_pos (n_in (by omega) (by omega)), n_cl (by omega), h4, if_neg (by decide), if_neg (by decide), if_neg (by decide), if_neg (by decide), if_neg (by decide), if_neg (by decide), if_neg (by decide), if_neg (by decide), if_neg (by decide), if_neg (by decide), if_neg (by decide), if_neg (by decide), if_neg (by decide), if_neg (by decide), if_neg (by decide)]
theorem bg_19 {k n : Nat} {L : Nat → Int32} (hL : L 1 = nI n) (hn : (1 ≤ n ∧ n < LNo T % 70001)) (h4 : σ.2.2 4 n = 19) : x_GV (k + 1) d 0 1 L σ = x_GV k d 0 16 L σ := by
  rw [e_begins_1, hL, if_pos (n_in (by omega) (by omega)), n_cl (by omega), h4, if_neg (by decide), if_neg (by decide), if_neg (by decide), if_neg (by decide), if_neg (by decide), if_neg (by decide), if_neg (by decide), if_neg (by decide), if_neg (by decide), if_neg (by decide), if_neg (by decide), if_neg (by decide), if_neg (by decide), if_neg (by decide), if_neg (by decide)]
theorem bg_20 {k n : Nat} {L : Nat → Int32} (hL : L 1 = nI n) (hn : (1 ≤ n ∧ n < LNo T % 70001)) (h4 : σ.2.2 4 n = 20) : x_GV (k + 1) d 0 1 L σ = x_GV k d 0 16 L σ := by
  rw [e_begins_1, hL, if_pos (n_in (by omega) (by omega)), n_cl (by omega), h4, if_neg (by decide), if_neg (by decide), if_neg (by decide), if_neg (by decide), if_neg (by decide), if_neg (by decide), if_neg (by decide), if_neg (by decide), if_neg (by decide), if_neg (by decide), if_neg (by decide), if_neg (by decide), if_neg (by decide), if_neg (by decide), if_neg (by decide)]
theorem PEb_of (hE : ∀ e, e < d → PE T FN e) : PEb T FN d := by
  intro f O r K lc x t w XC σ1 σ2 L1 L2 hW hP hI d1 d2
  cases f with
  | zero => exact hW.elim
  | succ f =>
  have hW : _ := hW
  unfold WN at hW
  rcases hW with ⟨z, _⟩ | ⟨z, _⟩ | ⟨_, n, xn, hn, hor⟩ | ⟨z, _⟩ | ⟨z, _⟩ | ⟨z, _⟩ | ⟨z, _⟩
  case inl => exact absurd z (by decide)
  case inr.inl => exact absurd z (by decide)
  case inr.inr.inr.inl => exact absurd z (by decide)
  case inr.inr.inr.inr.inl => exact absurd z (by decide)
  case inr.inr.inr.inr.inr.inl => exact absurd z (by decide)
  case inr.inr.inr.inr.inr.inr => exact absurd z (by decide)
  have ht := PC_t hP
  have hS1 := hP.1
  have hS2 := EI_ST hI hS1
  have d1 := d1.trans xn
  have d2 := d2.trans xn
  have t1 : ∀ v, T 4 n = v → σ1.2.2 4 n = v := fun v h => by rw [hS1.1 4 _ (by omega) (by omega) (by omega)]; exact h
  have t2 : ∀ v, T 4 n = v → σ2.2.2 4 n = v := fun v h => by rw [hS2.1 4 _ (by omega) (by omega) (by omega)]; exact h
  have hd3 : 3 ≤ d ∧ (1 ≤ O → 18 ≤ d) := by
    obtain ⟨_, _, _, _, _, h4, _, fu, dp, e, _, _, _, hd⟩ := hP
    exact ⟨by omega, fun _ => by omega⟩
  obtain ⟨e1, e2⟩ := EI_e hI
  refine T2_suc (fun k => e_begins_0 k _ _ _) (fun k => e_begins_0 k _ _ _) ?_
  rw [e1, e2]
  refine T2_ite Iff.rfl (fun _ _ => ?_) (fun z _ => absurd (by decide : (0 : Int32) ≤ 0) z)
  -- one operand
  have one : ∀ (O' r' : Nat), ((O' = O ∧ r' + 2 ≤ r) ∨ (O' < O ∧ r' ≤ 14)) → WN T FN f 0 O' r' K lc (T 6 n) → T2 (fun k => x_GV k d 0 16 L1 σ1) (fun k => x_GV k d 0 16 L2 σ2) (EQ (178000 + d) t w XC σ1 σ2) := by
    intro O' r' lo W6
    obtain ⟨e, rfl⟩ : ∃ e, d = e + 1 := ⟨d - 1, by omega⟩
    exact b_one (hE e (by omega)) hn lo W6 hP hI d1 d2
  rcases hor with ⟨x4, p, q, x5, x6, hq, hpq, hc⟩ | ⟨x4, p, q, x5, x6, hq, hpq⟩ | x4 | ⟨x4, s, x6, hs, x5⟩ | ⟨x4, hO, fn, m, c, x5, hFN, hm, x8, hcO, hc, W6⟩ | ⟨x4, _, O', r', lo, W6⟩ | ⟨x4, hO, m, hm, W6⟩ | ⟨x4, hO, W6, W7, W8⟩ | ⟨x4, hO, m, hm, hmK, W6, W7, W8⟩ | ⟨x4, hO, m, hm, hmK, W6, W7⟩ | ⟨x4, hO, W6⟩
  · refine T2_suc (fun k => bg_1 d1 hn (t1 _ x4)) (fun k => bg_1 d2 hn (t2 _ x4)) ?_
    exact b_num hP hI hn x5 x6 hq hpq hc (by omega) d1 d2
  · refine T2_suc (fun k => bg_2 d1 hn (t1 _ x4)) (fun k => bg_2 d2 hn (t2 _ x4)) ?_
    exact b_str hP hI hn x5 x6 hq hpq.1 hpq.2 (by omega) d1 d2
  · rcases x4 with x4 | x4 | x4 | ⟨x4, _⟩
    · refine T2_suc (fun k => bg_3 d1 hn (t1 _ x4)) (fun k => bg_3 d2 hn (t2 _ x4)) ?_
      refine T2_suc (fun k => e_begins_4 k _ _ _) (fun k => e_begins_4 k _ _ _) ?_
      refine T2_ob (E_pc (c := 0) (by decide) hI (by omega) rfl rfl) (fun s1 s2 hs => ?_)
      exact T2_some ⟨hs.1, hs.2.1, Or.inl ⟨w, Nat.le_refl _, hs.2.2⟩⟩
    · refine T2_suc (fun k => bg_4 d1 hn (t1 _ x4)) (fun k => bg_4 d2 hn (t2 _ x4)) ?_
      refine T2_suc (fun k => e_begins_5 k _ _ _) (fun k => e_begins_5 k _ _ _) ?_
      refine T2_ob (E_pc (c := 2) (by decide) hI (by omega) rfl rfl) (fun s1 s2 hs => ?_)
      exact T2_some ⟨hs.1, hs.2.1, Or.inl ⟨w, Nat.le_refl _, hs.2.2⟩⟩
    · refine T2_suc (fun k => bg_5 d1 hn (t1 _ x4)) (fun k => bg_5 d2 hn (t2 _ x4)) ?_
      refine T2_suc (fun k => e_begins_6 k _ _ _) (fun k => e_begins_6 k _ _ _) ?_
      refine T2_ob (E_pc (c := 1) (by decide) hI (by omega) rfl rfl) (fun s1 s2 hs => ?_)
      exact T2_some ⟨hs.1, hs.2.1, Or.inl ⟨w, Nat.le_refl _, hs.2.2⟩⟩
    · refine T2_suc (fun k => bg_6 d1 hn (t1 _ x4)) (fun k => bg_6 d2 hn (t2 _ x4)) ?_
      exact b_new hP hI (by omega)
  · refine T2_suc (fun k => bg_7 d1 hn (t1 _ x4)) (fun k => bg_7 d2 hn (t2 _ x4)) ?_
    exact b_var hP hI hn x6 hs x5 d1 d2
  · obtain ⟨e, rfl⟩ : ∃ e, d = e + 2 := ⟨d - 2, by have := hd3.2 hO; omega⟩
    refine T2_suc (fun k => bg_8 d1 hn (t1 _ x4)) (fun k => bg_8 d2 hn (t2 _ x4)) ?_
    refine T2_suc (fun k => e_begins_9 k _ _ _) (fun k => e_begins_9 k _ _ _) ?_
    refine T2_od ?_
    refine T2_ob (b_call (hE e (by omega)) hn hO x5 hFN x8 hcO hc W6 hP hI (by exact d1) (by exact d2)) (fun r1 r2 hr => ?_)
    exact T2_some (EQ_mo hr (by omega))
  · rcases x4 with x4 | x4 | x4 | x4 | x4
    · exact T2_suc (fun k => bg_9 d1 hn (t1 _ x4)) (fun k => bg_9 d2 hn (t2 _ x4)) (one O' r' lo W6)
    · exact T2_suc (fun k => bg_17 d1 hn (t1 _ x4)) (fun k => bg_17 d2 hn (t2 _ x4)) (one O' r' lo W6)
    · exact T2_suc (fun k => bg_18 d1 hn (t1 _ x4)) (fun k => bg_18 d2 hn (t2 _ x4)) (one O' r' lo W6)
    · exact T2_suc (fun k => bg_19 d1 hn (t1 _ x4)) (fun k => bg_19 d2 hn (t2 _ x4)) (one O' r' lo W6)
    · exact T2_suc (fun k => bg_20 d1 hn (t1 _ x4)) (fun k => bg_20 d2 hn (t2 _ x4)) (one O' r' lo W6)
  · obtain ⟨e, rfl⟩ : ∃ e, d = e + 2 := ⟨d - 2, by have := hd3.2 hO; omega⟩
    rcases x4 with x4 | x4
    · refine T2_suc (fun k => bg_10 d1 hn (t1 _ x4)) (fun k => bg_10 d2 hn (t2 _ x4)) ?_
      refine T2_suc (fun k => e_begins_10 k _ _ _) (fun k => e_begins_10 k _ _ _) ?_
      refine T2_od ?_
      refine T2_ob (b_set (hE e (by omega)) hn hO W6 hP hI (by exact d1) (by exact d2)) (fun r1 r2 hr => ?_)
      exact T2_some (EQ_mo hr (by omega))
    · refine T2_suc (fun k => bg_11 d1 hn (t1 _ x4)) (fun k => bg_11 d2 hn (t2 _ x4)) ?_
      refine T2_suc (fun k => e_begins_11 k _ _ _) (fun k => e_begins_11 k _ _ _) ?_
      refine T2_od ?_
      refine T2_ob (b_tup (hE e (by omega)) hn hO hm W6 hP hI (by exact d1) (by exact d2)) (fun r1 r2 hr => ?_)
      exact T2_some (EQ_mo hr (by omega))
  · obtain ⟨e, rfl⟩ : ∃ e, d = e + 2 := ⟨d - 2, by have := hd3.2 hO; omega⟩
    refine T2_suc (fun k => bg_12 d1 hn (t1 _ x4)) (fun k => bg_12 d2 hn (t2 _ x4)) ?_
    refine T2_suc (fun k => e_begins_15 k _ _ _) (fun k => e_begins_15 k _ _ _) ?_
    refine T2_od ?_
    refine T2_ob (b_bounds SGN_t (hE e (by omega)) hn hO W6 W7 W8 hP hI (by exact d1) (by exact d2)) (fun r1 r2 hr => ?_)
    exact T2_some (EQ_mo hr (by omega))
  · obtain ⟨c, rfl⟩ : ∃ c, d = c + 4 := ⟨d - 4, by have := hd3.2 hO; omega⟩
    refine T2_suc (fun k => bg_13 d1 hn (t1 _ x4)) (fun k => bg_13 d2 hn (t2 _ x4)) ?_
    refine T2_suc (fun k => e_begins_12 k _ _ _) (fun k => e_begins_12 k _ _ _) ?_
    refine T2_od ?_
    refine T2_ob (b_former (hE c (by omega)) (hE (c + 1) (by omega)) (hE (c + 2) (by omega)) hn hO hm hmK W6 W7 W8 hP hI (by exact d1) (by exact d2)) (fun r1 r2 hr => ?_)
    exact T2_some (EQ_mo hr (by omega))
  · obtain ⟨c, rfl⟩ : ∃ c, d = c + 4 := ⟨d - 4, by have := hd3.2 hO; omega⟩
    refine T2_suc (fun k => bg_14 d1 hn (t1 _ x4)) (fun k => bg_14 d2 hn (t2 _ x4)) ?_
    refine T2_suc (fun k => e_begins_13 k _ _ _) (fun k => e_begins_13 k _ _ _) ?_
    refine T2_od ?_
    refine T2_ob (b_quant (hE c (by omega)) (hE (c + 1) (by omega)) hn hO hm hmK W6 W7 hP hI (by exact d1) (by exact d2)) (fun r1 r2 hr => ?_)
    exact T2_some (EQ_mo hr (by omega))
  · obtain ⟨e, rfl⟩ : ∃ e, d = e + 2 := ⟨d - 2, by have := hd3.2 hO; omega⟩
    refine T2_suc (fun k => bg_15 d1 hn (t1 _ x4)) (fun k => bg_15 d2 hn (t2 _ x4)) ?_
    refine T2_suc (fun k => e_begins_14 k _ _ _) (fun k => e_begins_14 k _ _ _) ?_
    refine T2_od ?_
    refine T2_ob (b_choose (fun i hi => hE i (by omega)) hn hO W6 hP hI (by exact d1) (by exact d2)) (fun r1 r2 hr => ?_)
    exact T2_some (EQ_mo hr (by omega))
/-- EVALUATION: both sides end, alike -/
theorem PE_all : ∀ d, PE T FN d := by
  intro d
  induction d using Nat.strongRecOn with
  | ind d ih =>
    cases d with
    | zero =>
      intro f O r K lc x t w XC σ1 σ2 L1 L2 hW hP
      obtain ⟨_, _, _, _, _, h4, _, fu, dp, e, _, _, _, hd⟩ := hP
      omega
    | succ d => exact PE_of (PEb_of (fun e he => ih e (by omega))) (PEg_of (fun e he => ih e (by omega)))
end EVW
