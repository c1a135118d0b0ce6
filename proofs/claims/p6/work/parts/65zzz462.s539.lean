/-! The reference: whether there is a run stays over step and back; what view and value take (made by jx.py). -/
theorem kq_good : ∀ (k b : Nat) (L : Nat → Int32) (σ : MS), Kq (x_good k b L σ) (kq σ) := by
  intro k
  induction k with
  | zero => intro b L σ; exact Kq_no _
  | succ k ih =>
    intro b L σ
    match b with
    | 0 =>
      refine Kq_eq (by rw [x_good]) ?_
      exact Kq_c rfl (ih _ _ _)
    | 1 =>
      refine Kq_eq (by rw [x_good]) ?_
      exact Kq_ite (Kq_c rfl (ih _ _ _)) (Kq_c rfl (ih _ _ _))
    | 2 =>
      refine Kq_eq (by rw [x_good]) ?_
      exact Kq_c rfl (ih _ _ _)
    | 3 =>
      refine Kq_eq (by rw [x_good]) ?_
      exact Kq_ite (Kq_so rfl) (Kq_no _)
    | b + 4 =>
      refine Kq_eq (by rw [x_good]) (Kq_no _)
theorem kq_reset : ∀ (k b : Nat) (L : Nat → Int32) (σ : MS), Kq (x_reset k b L σ) (kq σ) := by
  intro k
  induction k with
  | zero => intro b L σ; exact Kq_no _
  | succ k ih =>
    intro b L σ
    match b with
    | 0 =>
      refine Kq_eq (by rw [x_reset]) ?_
      exact Kq_c rfl (ih _ _ _)
    | 1 =>
      refine Kq_eq (by rw [x_reset]) ?_
      exact Kq_c rfl (ih _ _ _)
    | 2 =>
      refine Kq_eq (by rw [x_reset]) ?_
      exact Kq_c rfl (ih _ _ _)
    | 3 =>
      refine Kq_eq (by rw [x_reset]) ?_
      exact Kq_c rfl (ih _ _ _)
    | 4 =>
      refine Kq_eq (by rw [x_reset]) ?_
      exact Kq_c rfl (ih _ _ _)
    | 5 =>
      refine Kq_eq (by rw [x_reset]) ?_
      exact Kq_c rfl (ih _ _ _)
    | 6 =>
      refine Kq_eq (by rw [x_reset]) ?_
      exact Kq_c rfl (ih _ _ _)
    | 7 =>
      refine Kq_eq (by rw [x_reset]) ?_
      exact Kq_c rfl (ih _ _ _)
    | 8 =>
      refine Kq_eq (by rw [x_reset]) ?_
      exact Kq_c rfl (ih _ _ _)
    | 9 =>
      refine Kq_eq (by rw [x_reset]) ?_
      exact Kq_c rfl (ih _ _ _)
    | 10 =>
      refine Kq_eq (by rw [x_reset]) ?_
      exact Kq_c rfl (ih _ _ _)
    | 11 =>
      refine Kq_eq (by rw [x_reset]) ?_
      exact Kq_c rfl (ih _ _ _)
    | 12 =>
      refine Kq_eq (by rw [x_reset]) ?_
      exact Kq_ite (Kq_c rfl (ih _ _ _)) (Kq_no _)
    | 13 =>
      refine Kq_eq (by rw [x_reset]) ?_
      exact Kq_ite (Kq_c rfl (ih _ _ _)) (Kq_no _)
    | 14 =>
      refine Kq_eq (by rw [x_reset]) ?_
      exact Kq_ite (Kq_c rfl (ih _ _ _)) (Kq_no _)
    | 15 =>
      refine Kq_eq (by rw [x_reset]) ?_
      exact Kq_c rfl (ih _ _ _)
    | 16 =>
      refine Kq_eq (by rw [x_reset]) ?_
      exact Kq_ite (Kq_c rfl (ih _ _ _)) (Kq_ite (Kq_c rfl (ih _ _ _)) (Kq_no _))
    | 17 =>
      refine Kq_eq (by rw [x_reset]) ?_
      exact Kq_ite (Kq_ite (Kq_c rfl (ih _ _ _)) (Kq_ite (Kq_ite (Kq_c rfl (ih _ _ _)) (Kq_c rfl (ih _ _ _))) (Kq_no _))) (Kq_no _)
    | 18 =>
      refine Kq_eq (by rw [x_reset]) ?_
      exact Kq_c rfl (ih _ _ _)
    | 19 =>
      refine Kq_eq (by rw [x_reset]) ?_
      exact Kq_c rfl (ih _ _ _)
    | 20 =>
      refine Kq_eq (by rw [x_reset]) ?_
      exact Kq_c rfl (ih _ _ _)
    | 21 =>
      refine Kq_eq (by rw [x_reset]) ?_
      exact Kq_ob (Kq_c rfl (kq_enter _ _ _ _)) (fun _ h634 => Kq_so h634)
    | b + 22 =>
      refine Kq_eq (by rw [x_reset]) (Kq_no _)
theorem kq_step : ∀ (k b : Nat) (L : Nat → Int32) (σ : MS), Kq (x_step k b L σ) (kq σ) := by
  intro k
  induction k with
  | zero => intro b L σ; exact Kq_no _
  | succ k ih =>
    intro b L σ
    match b with
    | 0 =>
      refine Kq_eq (by rw [x_step]) ?_
      exact Kq_ite (Kq_c rfl (ih _ _ _)) (Kq_c rfl (ih _ _ _))
    | 1 =>
      refine Kq_eq (by rw [x_step]) ?_
      exact Kq_ite (Kq_c rfl (ih _ _ _)) (Kq_ite (Kq_c rfl (ih _ _ _)) (Kq_c rfl (ih _ _ _)))
    | 2 =>
      refine Kq_eq (by rw [x_step]) ?_
      exact Kq_c rfl (ih _ _ _)
    | 3 =>
      refine Kq_eq (by rw [x_step]) ?_
      exact Kq_c rfl (ih _ _ _)
    | 4 =>
      refine Kq_eq (by rw [x_step]) ?_
      exact Kq_ob (Kq_c rfl (kq_good _ _ _ _)) (fun _ h635 => Kq_ite (Kq_so h635) (Kq_c h635 (ih _ _ _)))
    | 5 =>
      refine Kq_eq (by rw [x_step]) ?_
      exact Kq_c rfl (ih _ _ _)
    | 6 =>
      refine Kq_eq (by rw [x_step]) ?_
      exact Kq_ite (Kq_c rfl (ih _ _ _)) (Kq_ite (Kq_ite (Kq_ob (Kq_c rfl (kq_begin _ _ _ _)) (fun _ h636 => Kq_c h636 (ih _ _ _))) (Kq_no _)) (Kq_c rfl (ih _ _ _)))
    | 7 =>
      refine Kq_eq (by rw [x_step]) ?_
      exact Kq_ite (Kq_c rfl (ih _ _ _)) (Kq_c rfl (ih _ _ _))
    | 8 =>
      refine Kq_eq (by rw [x_step]) ?_
      exact Kq_ite (Kq_c rfl (ih _ _ _)) (Kq_c rfl (ih _ _ _))
    | 9 =>
      refine Kq_eq (by rw [x_step]) ?_
      exact Kq_c rfl (ih _ _ _)
    | 10 =>
      refine Kq_eq (by rw [x_step]) ?_
      exact Kq_so rfl
    | b + 11 =>
      refine Kq_eq (by rw [x_step]) (Kq_no _)
theorem kq_back : ∀ (k b : Nat) (L : Nat → Int32) (σ : MS), Kq (x_back k b L σ) (kq σ) := by
  intro k
  induction k with
  | zero => intro b L σ; exact Kq_no _
  | succ k ih =>
    intro b L σ
    match b with
    | 0 =>
      refine Kq_eq (by rw [x_back]) ?_
      exact Kq_ite (Kq_c rfl (ih _ _ _)) (Kq_c rfl (ih _ _ _))
    | 1 =>
      refine Kq_eq (by rw [x_back]) ?_
      exact Kq_ite (Kq_c rfl (ih _ _ _)) (Kq_ite (Kq_c rfl (ih _ _ _)) (Kq_c rfl (ih _ _ _)))
    | 2 =>
      refine Kq_eq (by rw [x_back]) ?_
      exact Kq_c rfl (ih _ _ _)
    | 3 =>
      refine Kq_eq (by rw [x_back]) ?_
      exact Kq_c rfl (ih _ _ _)
    | 4 =>
      refine Kq_eq (by rw [x_back]) ?_
      exact Kq_ob (Kq_c rfl (kq_good _ _ _ _)) (fun _ h637 => Kq_ite (Kq_so h637) (Kq_c h637 (ih _ _ _)))
    | 5 =>
      refine Kq_eq (by rw [x_back]) ?_
      exact Kq_ob (Kq_c rfl (kq_reset _ _ _ _)) (fun _ h638 => Kq_c h638 (ih _ _ _))
    | 6 =>
      refine Kq_eq (by rw [x_back]) ?_
      exact Kq_ite (Kq_c rfl (ih _ _ _)) (Kq_ite (Kq_ob (Kq_c rfl (kq_begin _ _ _ _)) (fun _ h639 => Kq_c h639 (ih _ _ _))) (Kq_no _))
    | 7 =>
      refine Kq_eq (by rw [x_back]) ?_
      exact Kq_so rfl
    | b + 8 =>
      refine Kq_eq (by rw [x_back]) (Kq_no _)
section VWX
variable {T : Nat → Nat → Int32} {FN : Nat → Nat → Prop} {S : Nat → Nat → Nat → Nat → Prop} {gl : List Gn} {pr : Nat → Nat} {b : BT} {ns n f : Nat} {Tp : Nat → Int32} {σ σa ρ ω : MS} {C K : Nat → Int32} {e0 z0 x66 : Int32} {sd : Int64} {m : Nat}
theorem s_view2 (hR : RIc T FN C K e0 z0 x66 0 sd σ) (hb : 1 ≤ b.1 ∧ b.1 + 33735 ≤ 70000 ∧ b.2.1 + 32768 ≤ 70000) (hg : PG gl pr b σ) (hTp : TpO Tp n σ) (hv : VwO gl pr b σ) (h111 : ¬ σ.1 111 = 0) {L : Nat → Int32} : Tm (fun k => x_view k 0 L σ) (fun r => (r = (0, mSc σ 2 2) ∧ σ.1 73 = 8) ∨ (¬ σ.1 73 = 8 ∧ VwP gl pr b σ r.2 ∧ ∃ x, gX Tp n (30 * n + 21) (gl, [], [], 42, false, false, pr) b = some x ∧ ((x = none ∧ r.2.1 73 = σ.1 73) ∨ (¬ x = none ∧ r.2.1 73 = σ.1 73 + 1)))) := by
  obtain ⟨⟨n1, n2⟩, tp3, tpb⟩ := hTp
  obtain ⟨V, v1, v2, v3⟩ := hv
  refine Tm_suc (fun k => by rw [x_view]) ?_
  refine Tm_ite (fun z => absurd z h111) (fun _ => ?_)
  refine Tm_suc (fun k => by rw [x_view]) ?_
  refine Tm_ite (fun z => ?_) (fun z => ?_)
  · refine Tm_suc (fun k => by rw [x_view]) ?_
    refine Tm_ob (s_good _ _) (fun r hr => ?_)
    rw [hr]
    refine Tm_ite (fun _ => ?_) (fun v => absurd rfl v)
    exact Tm_some (Or.inl ⟨rfl, z⟩)
  have nz := z
  have hV8 : V < 8 := by
    rw [v1] at z
    have : ¬ V = 8 := fun e => z (by rw [e]; rfl)
    omega
  refine Tm_suc (fun k => by rw [x_view]) ?_
  refine Tm_suc (fun k => by rw [x_view]) ?_
  refine Tm_ob (s_good _ _) (fun r hr => ?_)
  rw [hr]
  refine Tm_ite (fun z => absurd (show (1 : Int32) = 0 from z) (by decide)) (fun _ => ?_)
  show Tm (fun k => x_view k 4 (upd L 100 0) (mSc σ 2 0)) _
  refine Tm_suc (fun k => by rw [x_view]) ?_
  show Tm (fun k => x_view k 5 (upd (upd (upd L 100 0) 1 (σ.1 22)) 2 (σ.1 24)) (mSc (mSc σ 2 0) 11 0)) _
  refine Tm_suc (fun k => by rw [x_view]) ?_
  obtain ⟨x, hx⟩ := gX_tot (T := Tp) (n := n) (gl, [], [], 42, false, decide (0 = 1), pr) b hb.1
  have hgA : PG gl pr b (mSc (mSc σ 2 0) 11 0) := ⟨hg.1, PB_c (σ := σ) rfl rfl (fun _ _ => rfl) hg.2.1, hg.2.2.1, hg.2.2.2⟩
  have ha : ∀ j, ¬ (j = 2 ∨ j = 11) → (mSc (mSc σ 2 0) 11 0).1 j = σ.1 j := fun j hj => by
    show upd (upd σ.1 2 0) 11 0 j = _
    rw [upd_other (by omega), upd_other (by omega)]
  refine Tm_ob (p_readExp (dr := 0) (σ := mSc (mSc σ 2 0) 11 0) hx ⟨n1, n2⟩ tp3 hgA (by omega) rfl (by omega) (by omega)) (fun r1 hr1 => ?_)
  obtain ⟨fx, _, hx2⟩ := hr1
  show Tm (fun k => x_view k 6 (upd (upd (upd (upd L 100 0) 1 (σ.1 22)) 2 (σ.1 24)) 3 (σ.1 4)) (mSc r1.2 22 (σ.1 22))) _
  refine Tm_suc (fun k => by rw [x_view]) ?_
  show Tm (fun k => x_view k 7 (upd (upd (upd (upd L 100 0) 1 (σ.1 22)) 2 (σ.1 24)) 3 (σ.1 4)) (mSc (mSc r1.2 22 (σ.1 22)) 24 (σ.1 24))) _
  obtain ⟨τ, hτ⟩ : ∃ τ, τ = mSc (mSc r1.2 22 (σ.1 22)) 24 (σ.1 24) := ⟨_, rfl⟩
  rw [← hτ]
  have ts : ∀ j, ¬ (j = 22 ∨ j = 24) → τ.1 j = r1.2.1 j := fun j hj => by
    rw [hτ]
    show upd (upd r1.2.1 22 _) 24 _ j = _
    rw [upd_other (by omega), upd_other (by omega)]
  have t22 : τ.1 22 = σ.1 22 := by rw [hτ]; rfl
  have t24 : τ.1 24 = σ.1 24 := by rw [hτ]; rfl
  have tr : τ.2 = r1.2.2 := by rw [hτ]; rfl
  have rx : ∀ a, ¬ ((4 ≤ a ∧ a ≤ 9) ∨ a = 12 ∨ (20 ≤ a ∧ a ≤ 27)) → τ.2.2 a = σ.2.2 a := fun a h => by
    rw [tr]; exact fx.2.2.1 a h
  have t73 : τ.1 73 = nI V := (ts 73 (by omega)).trans ((fx.1 73 (by decide)).trans v1)
  refine Tm_suc (fun k => by rw [x_view]) ?_
  cases x with
  | none =>
    refine Tm_ite (fun z => absurd ((ts 10 (by omega)).symm.trans z) hx2) (fun _ => ?_)
    refine Tm_suc (fun k => by rw [x_view]) ?_
    refine Tm_some (Or.inr ⟨nz, ?_, _, hx, Or.inl ⟨rfl, t73.trans v1.symm⟩⟩)
    show VwP gl pr b σ (mSc τ 4 0)
    exact vw_p (ρ := r1.2) hR hg (by omega) ha rfl fx (fun j hj => (show (mSc τ 4 0).1 j = τ.1 j from upd_other (by omega)).trans (ts j (by omega))) (fun a _ => by show τ.2.2 a = _; rw [tr]) (by show τ.2.1 = _; rw [tr]) t22 t24 (fun a i h1 h2 => Or.inl (by show τ.2.2 a i = _; rw [rx a (by omega)])) (VwO_c (σ := σ) (t73.trans v1.symm) (rx 54 (by decide)) (rx 55 (by decide)) ⟨V, v1, v2, v3⟩) rfl
  | some t =>
    refine Tm_ite (fun _ => ?_) (fun z => absurd ((ts 10 (by omega)).trans hx2.1) z)
    refine Tm_suc (fun k => by rw [x_view]) ?_
    -- the end: the view is there
    have fin : ∀ (N : Nat → Int32) (υ : MS), N 3 = nI n → (∀ j, υ.1 j = τ.1 j) → υ.2.1 = τ.2.1 → (∀ a, a ≠ 54 → υ.2.2 a = τ.2.2 a) → (∀ k, k < n → υ.2.2 54 (32768 * V + k) = Tp k) → (∀ y, y < 32768 * V → υ.2.2 54 y = σ.2.2 54 y) → Tm (fun k => x_view k 12 N υ) (fun r => (r = (0, mSc σ 2 2) ∧ σ.1 73 = 8) ∨ (¬ σ.1 73 = 8 ∧ VwP gl pr b σ r.2 ∧ ∃ x, gX Tp n (30 * n + 21) (gl, [], [], 42, false, false, pr) b = some x ∧ ((x = none ∧ r.2.1 73 = σ.1 73) ∨ (¬ x = none ∧ r.2.1 73 = σ.1 73 + 1)))) := fun N υ n3 us ul ur uc uo => by
      have u73 : υ.1 73 = nI V := (us 73).trans t73
      have ix : ¬ (nI V < 0 ∨ 8 ≤ (nI V).toNatClampNeg) := n_in (by omega) (by omega)
      refine Tm_suc (fun k => by rw [x_view]) ?_
      rw [u73, n3]
      refine Tm_chk ix ?_
      rw [n_cl (p := V) (by omega)]
      show Tm (fun k => x_view k 13 N (mAr υ 55 V (nI n))) _
      refine Tm_suc (fun k => by rw [x_view]) ?_
      rw [show (mAr υ 55 V (nI n)).1 73 = nI V from u73]
      refine Tm_chk ix ?_
      rw [n_cl (p := V) (by omega)]
      show Tm (fun k => x_view k 14 N (mAr (mAr υ 55 V (nI n)) 36 V 0)) _
      refine Tm_suc (fun k => by rw [x_view]) ?_
      rw [show (mAr (mAr υ 55 V (nI n)) 36 V 0).1 73 = nI V from u73]
      refine Tm_chk ix ?_
      rw [n_cl (p := V) (by omega)]
      show Tm (fun k => x_view k 15 N (mAr (mAr (mAr υ 55 V (nI n)) 36 V 0) 37 V 0)) _
      refine Tm_suc (fun k => by rw [x_view]) ?_
      rw [show (mAr (mAr (mAr υ 55 V (nI n)) 36 V 0) 37 V 0).1 73 = nI V from u73]
      refine Tm_chk ix ?_
      rw [n_cl (p := V) (by omega)]
      show Tm (fun k => x_view k 16 N (mAr (mAr (mAr (mAr υ 55 V (nI n)) 36 V 0) 37 V 0) 38 V 0)) _
      refine Tm_suc (fun k => by rw [x_view]) ?_
      rw [show (mAr (mAr (mAr (mAr υ 55 V (nI n)) 36 V 0) 37 V 0) 38 V 0).1 73 = nI V from u73]
      refine Tm_chk ix ?_
      rw [n_cl (p := V) (by omega)]
      show Tm (fun k => x_view k 17 N (mAr (mAr (mAr (mAr (mAr υ 55 V (nI n)) 36 V 0) 37 V 0) 38 V 0) 39 V (vp_nar .boolean 0))) _
      obtain ⟨χ, hχ⟩ : ∃ χ, χ = mAr (mAr (mAr (mAr (mAr υ 55 V (nI n)) 36 V 0) 37 V 0) 38 V 0) 39 V (vp_nar .boolean 0) := ⟨_, rfl⟩
      rw [← hχ]
      have cs : ∀ j, χ.1 j = τ.1 j := fun j => by rw [hχ]; exact us j
      have cl : χ.2.1 = τ.2.1 := by rw [hχ]; exact ul
      have cr : ∀ a, ¬ ((36 ≤ a ∧ a ≤ 39) ∨ a = 55) → χ.2.2 a = υ.2.2 a := fun a h => by
        rw [hχ, mAr_o (by omega), mAr_o (by omega), mAr_o (by omega), mAr_o (by omega), mAr_o (by omega)]
      have c55 : χ.2.2 55 = upd (υ.2.2 55) V (nI n) := by
        rw [hχ, mAr_o (by decide), mAr_o (by decide), mAr_o (by decide), mAr_o (by decide), mAr_s]
      have cv : ∀ a i, 36 ≤ a → a ≤ 38 → χ.2.2 a i = σ.2.2 a i ∨ χ.2.2 a i = 0 := fun a i h1 h2 => by
        have e0 : υ.2.2 a i = σ.2.2 a i := by rw [ur a (by omega), rx a (by omega)]
        have : a = 36 ∨ a = 37 ∨ a = 38 := by omega
        by_cases ei : i = V
        · refine Or.inr ?_
          rw [hχ, ei]
          rcases this with rfl | rfl | rfl
          · rw [mAr_o (by decide), mAr_o (by decide), mAr_o (by decide), mAr_s, upd_same]
          · rw [mAr_o (by decide), mAr_o (by decide), mAr_s, upd_same]
          · rw [mAr_o (by decide), mAr_s, upd_same]
        · refine Or.inl ?_
          rw [hχ]
          rcases this with rfl | rfl | rfl
          · rw [mAr_o (by decide), mAr_o (by decide), mAr_o (by decide), mAr_s, upd_other ei, mAr_o (by decide)]; exact e0
          · rw [mAr_o (by decide), mAr_o (by decide), mAr_s, upd_other ei, mAr_o (by decide), mAr_o (by decide)]; exact e0
          · rw [mAr_o (by decide), mAr_s, upd_other ei, mAr_o (by decide), mAr_o (by decide), mAr_o (by decide)]; exact e0
      refine Tm_suc (fun k => by rw [x_view]) ?_
      show Tm (fun k => x_view k 18 N (mSc χ 4 0)) _
      refine Tm_suc (fun k => by rw [x_view]) ?_
      rw [show (mSc χ 4 0).1 73 = nI V from (cs 73).trans t73, n_add1]
      show Tm (fun k => x_view k 19 N (mSc (mSc χ 4 0) 73 (nI (V + 1)))) _
      refine Tm_suc (fun k => by rw [x_view]) ?_
      refine Tm_some (Or.inr ⟨nz, ?_, _, hx, Or.inr ⟨fun z => (by cases z), (show nI (V + 1) = σ.1 73 + 1 by rw [v1, n_add1])⟩⟩)
      show VwP gl pr b σ (mSc (mSc χ 4 0) 73 (nI (V + 1)))
      refine vw_p (ρ := r1.2) hR hg (by omega) ha rfl fx (fun j hj => ?_) (fun a h => ?_) ?_ ((cs 22).trans t22) ((cs 24).trans t24) cv ⟨V + 1, rfl, by omega, fun v hv => ?_⟩ rfl
      · show upd (upd χ.1 4 0) 73 _ j = _
        rw [upd_other (by omega), upd_other (by omega), cs j, ts j (by omega)]
      · show χ.2.2 a = _
        rw [cr a (by omega), ur a (by omega), tr]
      · show χ.2.1 = _
        rw [cl, tr]
      · have e54 : ∀ y, χ.2.2 54 y = υ.2.2 54 y := fun y => by rw [cr 54 (by omega)]
        by_cases ev : v = V
        · subst ev
          refine ⟨n, ?_, n2, fun i hi => ?_, ?_⟩
          · show χ.2.2 55 v = _
            rw [c55, upd_same]
          · show ∃ d, d ≤ 300 ∧ χ.2.2 54 (32768 * v + i) = nI d
            rw [e54, uc i hi]; exact tpb i hi
          · refine ⟨30 * n + 21, t, ?_⟩
            show gX (fun i => χ.2.2 54 (32768 * v + i)) n _ _ b = _
            rw [gX_c (T' := Tp) (fun i hi => by rw [e54, uc i hi])]
            exact hx
        · obtain ⟨nv, a1, a2, a3, f', t', a4⟩ := v3 v (by omega)
          have old : ∀ i, i < nv → χ.2.2 54 (32768 * v + i) = σ.2.2 54 (32768 * v + i) := fun i hi => by
            have : 32768 * v + 32768 ≤ 32768 * V := by
              have : v + 1 ≤ V := by omega
              calc 32768 * v + 32768 = 32768 * (v + 1) := by omega
                _ ≤ 32768 * V := Nat.mul_le_mul_left _ this
            rw [e54, uo _ (by omega)]
          refine ⟨nv, ?_, a2, fun i hi => ?_, f', t', ?_⟩
          · show χ.2.2 55 v = _
            rw [c55, upd_other ev, ur 55 (by decide), rx 55 (by decide)]; exact a1
          · show ∃ d, d ≤ 300 ∧ χ.2.2 54 (32768 * v + i) = nI d
            rw [old i hi]; exact a3 i hi
          · show gX (fun i => χ.2.2 54 (32768 * v + i)) nv _ _ b = _
            rw [gX_c (T' := fun i => σ.2.2 54 (32768 * v + i)) (fun i hi => old i hi)]
            exact a4
    -- the text is copied
    have lp : ∀ (d i : Nat) (N : Nat → Int32) (υ : MS), d + i = n → N 3 = nI n → N 4 = nI i → (∀ j, υ.1 j = τ.1 j) → υ.2.1 = τ.2.1 → (∀ a, a ≠ 54 → υ.2.2 a = τ.2.2 a) → (∀ k, k < i → υ.2.2 54 (32768 * V + k) = Tp k) → (∀ y, y < 32768 * V → υ.2.2 54 y = σ.2.2 54 y) → Tm (fun k => x_view k 10 N υ) (fun r => (r = (0, mSc σ 2 2) ∧ σ.1 73 = 8) ∨ (¬ σ.1 73 = 8 ∧ VwP gl pr b σ r.2 ∧ ∃ x, gX Tp n (30 * n + 21) (gl, [], [], 42, false, false, pr) b = some x ∧ ((x = none ∧ r.2.1 73 = σ.1 73) ∨ (¬ x = none ∧ r.2.1 73 = σ.1 73 + 1)))) := by
      intro d
      induction d with
      | zero =>
        intro i N υ hi n3 n4 us ul ur uc uo
        refine Tm_suc (fun k => by rw [x_view]) ?_
        rw [n3, n4]
        refine Tm_ite (fun _ => ?_) (fun z => absurd ((n_le (by omega) (by omega)).mpr (by omega)) z)
        exact fin N υ n3 us ul ur (fun k hk => uc k (by omega)) uo
      | succ d ih =>
        intro i N υ hi n3 n4 us ul ur uc uo
        have u73 : υ.1 73 = nI V := (us 73).trans t73
        refine Tm_suc (fun k => by rw [x_view]) ?_
        rw [n3, n4, u73, show (32768 : Int32) * nI V = nI (32768 * V) from n_mulN 32768 V, n_add (p := 32768 * V) (by omega)]
        refine Tm_ite (fun z => absurd ((n_le (by omega) (by omega)).mp z) (by omega)) (fun _ => ?_)
        refine Tm_chk (n_in (by omega) (by omega)) ?_
        refine Tm_chk (n_in (by omega) (by omega)) ?_
        rw [n_cl (p := i) (by omega), n_cl (p := 32768 * V + i) (by omega)]
        show Tm (fun k => x_view k 11 N (mAr υ 54 (32768 * V + i) (υ.2.2 3 i))) _
        refine Tm_suc (fun k => by rw [x_view]) ?_
        rw [n4, n_add1]
        have u3 : υ.2.2 3 i = Tp i := by rw [ur 3 (by decide), rx 3 (by decide), tp3]
        refine ih (i + 1) _ _ (by omega) n3 rfl us ul (fun a h => (mAr_o h).trans (ur a h)) (fun k hk => ?_) (fun y hy => ?_)
        · rw [mAr_s]
          by_cases e : k = i
          · rw [e, upd_same]; exact u3
          · rw [upd_other (by omega)]; exact uc k (by omega)
        · rw [mAr_s, upd_other (by omega)]; exact uo y hy
    exact lp n 0 _ τ (by omega) n1 rfl (fun _ => rfl) rfl (fun _ _ => rfl) (fun k hk => absurd hk (Nat.not_lt_zero k)) (fun y _ => by rw [rx 54 (by decide)])
end VWX
section VSX
variable {T : Nat → Nat → Int32} {FN : Nat → Nat → Prop} {S : Nat → Nat → Nat → Nat → Prop} {gl : List Gn} {pr : Nat → Nat} {b : BT} {ns n : Nat} {Tp : Nat → Int32} {σ τ ω : MS} {C K : Nat → Int32} {e0 z0 x66 : Int32} {sd : Int64} {m : Nat} {L : Nat → Int32} {X B h : Nat} {g : Nat → Prop} {l : List Nat}
theorem s_value2 (hM : MI 0 X g l B h σ) (hg : PG gl pr b σ) (hb : b.2.1 ≤ 70000) (hn : mN σ n) (h112 : ¬ σ.1 112 = 0) : Tm (fun k => x_value k 0 L σ) (fun r => (r.2 = mSc (mVl σ) 2 2 ∧ ¬ (∃ x, x ∈ gl ∧ x.2.2.1 = 1 ∧ mNm (mVl σ) 0 n x.2.1 x.1.length)) ∨ ((∃ v, Vd g v ∧ ShF (mSc (mVl σ) 4 0) v r.2) ∧ ∃ x, x ∈ gl ∧ x.2.2.1 = 1 ∧ mNm (mVl σ) 0 n x.2.1 x.1.length)) := by
  obtain ⟨_, _, ⟨g1, g2, g3⟩, _⟩ := hg
  refine Tm_suc (fun k => by rw [x_value]) ?_
  refine Tm_ite (fun z => absurd z h112) (fun _ => ?_)
  refine Tm_suc (fun k => by rw [x_value]) ?_
  refine Tm_ob (s_good _ _) (fun r hr => ?_)
  rw [hr]
  refine Tm_ite (fun z => absurd (show (1 : Int32) = 0 from z) (by decide)) (fun _ => ?_)
  refine Tm_suc (fun k => by rw [x_value]) ?_
  refine Tm_suc (fun k => by rw [x_value]) ?_
  show Tm (fun k => x_value k 5 (upd L 100 0) (mVl σ)) _
  refine Tm_suc (fun k => by rw [x_value]) ?_
  have s25 : (mVl σ).1 25 = nI gl.length := g1
  have s8 : (mVl σ).1 8 = nI 0 := rfl
  have s9 : (mVl σ).1 9 = nI n := hn.1
  have lp : ∀ (d i : Nat) (N : Nat → Int32), d + i = gl.length → N 1 = nI i → (∀ (k : Nat) (x : Gn), k < i → gl[k]? = some x → x.2.2.1 = 1 → ¬ mNm (mVl σ) 0 n x.2.1 x.1.length) → Tm (fun k => x_value k 6 N (mVl σ)) (fun r => (r.2 = mSc (mVl σ) 2 2 ∧ ¬ (∃ x, x ∈ gl ∧ x.2.2.1 = 1 ∧ mNm (mVl σ) 0 n x.2.1 x.1.length)) ∨ ((∃ v, Vd g v ∧ ShF (mSc (mVl σ) 4 0) v r.2) ∧ ∃ x, x ∈ gl ∧ x.2.2.1 = 1 ∧ mNm (mVl σ) 0 n x.2.1 x.1.length)) := by
    intro d
    induction d with
    | zero =>
      intro i N hd n1 no
      refine Tm_suc (fun k => by rw [x_value]) ?_
      rw [s25, n1]
      refine Tm_ite (fun _ => ?_) (fun z => absurd ((n_le (by omega) (by omega)).mpr (by omega)) z)
      refine Tm_suc (fun k => by rw [x_value]) ?_
      refine Tm_suc (fun k => by rw [x_value]) (Tm_some (Or.inl ⟨rfl, fun ⟨x, x1, x2, x3⟩ => ?_⟩))
      obtain ⟨k, hk, ek⟩ := List.mem_iff_getElem.1 x1
      exact no k x (by omega) (by rw [List.getElem?_eq_getElem hk, ek]) x2 x3
    | succ d ih =>
      intro i N hd n1 no
      have ix : ¬ (nI i < 0 ∨ 200 ≤ (nI i).toNatClampNeg) := n_in (by omega) (by omega)
      obtain ⟨x, hx⟩ : ∃ x, gl[i]? = some x := ⟨gl[i]'(by omega), List.getElem?_eq_getElem (by omega)⟩
      have nx : (x.2.2.1 = 1 → ¬ mNm (mVl σ) 0 n x.2.1 x.1.length) → Tm (fun k => x_value k 8 N (mVl σ)) (fun r => (r.2 = mSc (mVl σ) 2 2 ∧ ¬ (∃ x, x ∈ gl ∧ x.2.2.1 = 1 ∧ mNm (mVl σ) 0 n x.2.1 x.1.length)) ∨ ((∃ v, Vd g v ∧ ShF (mSc (mVl σ) 4 0) v r.2) ∧ ∃ x, x ∈ gl ∧ x.2.2.1 = 1 ∧ mNm (mVl σ) 0 n x.2.1 x.1.length)) := fun nn => by
        refine Tm_suc (fun k => by rw [x_value]) ?_
        rw [n1, n_add1]
        refine ih (i + 1) _ (by omega) rfl (fun k y hk ey => ?_)
        by_cases e : k = i
        · rw [e, hx] at ey
          cases ey
          exact nn
        · exact no k y (by omega) ey
      obtain ⟨q1, q2, q3, q4, q5, q6, q7, q8, _⟩ := g3 i x hx
      refine Tm_suc (fun k => by rw [x_value]) ?_
      rw [s25, n1]
      refine Tm_ite (fun z => absurd ((n_le (by omega) (by omega)).mp z) (by omega)) (fun _ => ?_)
      refine Tm_chk ix ?_
      refine Tm_ite (fun e1 => ?_) (fun e1 => nx (fun z => absurd (show (mVl σ).2.2 13 (nI i).toNatClampNeg = 1 by rw [n_cl (p := i) (by omega), show (mVl σ).2.2 13 i = nI x.2.2.1 from q1, z]; rfl) e1))
      have k1 : x.2.2.1 = 1 := by
        have e2 : (mVl σ).2.2 13 (nI i).toNatClampNeg = 1 := e1
        rw [n_cl (p := i) (by omega), show (mVl σ).2.2 13 i = nI x.2.2.1 from q1] at e2
        exact (n_eq (p := x.2.2.1) (q := 1) (by omega) (by decide)).mp e2
      refine Tm_chk ix ?_
      refine Tm_chk ix ?_
      rw [n_cl (p := i) (by omega), show (mVl σ).2.2 14 i = nI x.2.1 from q2, show (mVl σ).2.2 15 i = nI x.1.length from q3]
      refine Tm_ob (s_isNamed (σ := mVl σ) (f := 0) (e := n) s8 s9 (by omega) hn.2 (p := x.2.1) (l := x.1.length) (by omega) _ rfl rfl) (fun r6 hr6 => ?_)
      rw [hr6.1]
      refine Tm_ite (fun z => nx (fun _ y => absurd z (hr6.2.2 y))) (fun z => ?_)
      have nmx := hr6.2.1 z
      show Tm (fun k => x_value k 7 N (mSc (mVl σ) 4 0)) _
      refine Tm_suc (fun k => by rw [x_value]) ?_
      rw [n1]
      refine Tm_chk ix ?_
      rw [n_cl (p := i) (by omega), show (mSc (mVl σ) 4 0).2.2 16 i = nI x.2.2.2 from q4, show (4 : Int32) + nI x.2.2.2 = nI (4 + x.2.2.2) from n_add (p := 4) (by omega)]
      refine Tm_chk (n_in (by omega) (by omega)) ?_
      rw [n_cl (p := 4 + x.2.2.2) (by omega)]
      obtain ⟨a, a1, a2⟩ := hM.2.2.1 30 (4 + x.2.2.2) (Or.inr (Or.inl ⟨rfl, Or.inl ⟨by omega, by omega⟩⟩))
      have hS : HS g l B h (mSc (mVl σ) 4 0) := HS_c hM.1 rfl rfl rfl
      refine Tm_ob (s_show hS a2 (show (upd (fun _ => 0) 1 ((mSc (mVl σ) 4 0).2.2 30 (4 + x.2.2.2)) : Nat → Int32) 1 = nI a from a1)) (fun r hr => ?_)
      exact Tm_some (Or.inr ⟨⟨nI a, ⟨a, rfl, a2⟩, hr⟩, x, List.mem_of_getElem? hx, k1, nmx⟩)
  exact lp gl.length 0 _ (by omega) rfl (fun k x hk => absurd hk (Nat.not_lt_zero _))
end VSX
