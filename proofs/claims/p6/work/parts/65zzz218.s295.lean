/-! view, whole (reference). -/
/-- a text was read for a view, nothing was worked -/
def VwP (gl : List Gn) (pr : Nat → Nat) (b : BT) (σ ω : MS) : Prop := AEq σ ω ∧ PG gl pr b ω ∧ (∃ (g : Nat → Prop) (l : List Nat) (B h X : Nat), MI 0 X g l B h ω) ∧ (UT σ → UT ω) ∧ ω.1 56 = σ.1 56 ∧ VwO gl pr b ω ∧ (∀ j, j = 25 ∨ j = 31 ∨ j = 44 ∨ j = 111 ∨ j = 112 ∨ j = 115 ∨ j = 120 → ω.1 j = σ.1 j) ∧ (∀ a, a = 1 ∨ a = 3 ∨ (13 ≤ a ∧ a ≤ 19) ∨ a = 52 ∨ a = 53 ∨ a = 57 → ω.2.2 a = σ.2.2 a) ∧ ω.1 4 = 0
section VWW
variable {T : Nat → Nat → Int32} {FN : Nat → Nat → Prop} {S : Nat → Nat → Nat → Nat → Prop} {gl : List Gn} {pr : Nat → Nat} {b : BT} {ns n f : Nat} {Tp : Nat → Int32} {σ σa ρ ω : MS} {C K : Nat → Int32} {e0 z0 x66 : Int32} {sd : Int64} {m : Nat}
theorem vw_p (hR : RIc T FN C K e0 z0 x66 0 sd σ) (hg : PG gl pr b σ) (hb : b.1 ≤ 70000 ∧ b.2.1 ≤ 70000) (ha : ∀ j, ¬ (j = 2 ∨ j = 11) → σa.1 j = σ.1 j) (ha2 : σa.2 = σ.2) (hX : FrX b.1 b.2.1 σa ρ) (wn : ∀ j, ¬ (j = 2 ∨ j = 4 ∨ j = 11 ∨ j = 22 ∨ j = 24 ∨ j = 73) → ω.1 j = ρ.1 j) (wr : ∀ a, ¬ ((36 ≤ a ∧ a ≤ 39) ∨ a = 54 ∨ a = 55) → ω.2.2 a = ρ.2.2 a) (wl : ω.2.1 = ρ.2.1) (w22 : ω.1 22 = σ.1 22) (w24 : ω.1 24 = σ.1 24) (wv : ∀ a i, 36 ≤ a → a ≤ 38 → ω.2.2 a i = σ.2.2 a i ∨ ω.2.2 a i = 0) (hV : VwO gl pr b ω) (w4 : ω.1 4 = 0) : VwP gl pr b σ ω := by
  obtain ⟨a1, a2⟩ := vw_ae hR.2.2.2.2.2.2.2.2.1 hR.2.2.1 hg hb ha ha2 hX wn wr wl w22 w24
  obtain ⟨⟨g, l, B, h, X, hM⟩, _⟩ := hR
  obtain ⟨x1, x2, x3, x4, x5, x6, x7⟩ := hX
  have sa : ∀ a, σa.2.2 a = σ.2.2 a := fun a => by rw [ha2]
  have nn : ∀ j, ¬ ((2 ≤ j ∧ j ≤ 13) ∨ j = 22 ∨ j = 24 ∨ j = 37 ∨ j = 38 ∨ j = 42 ∨ j = 43 ∨ (45 ≤ j ∧ j ≤ 48) ∨ j = 52 ∨ j = 73) → ω.1 j = σ.1 j := fun j hj => (wn j (by omega)).trans ((x1 j (by omega)).trans (ha j (by omega)))
  have h3 : ∀ j, ¬ ((4 ≤ j ∧ j ≤ 9) ∨ j = 12 ∨ (20 ≤ j ∧ j ≤ 27) ∨ (36 ≤ j ∧ j ≤ 39) ∨ j = 54 ∨ j = 55) → ω.2.2 j = σ.2.2 j := fun j hj => (wr j (by omega)).trans ((x3 j (by omega)).trans (sa j))
  refine ⟨a1, a2, ⟨g, l, B, h, 870000, MI_vw hM (nn 54 (by decide)) (nn 55 (by decide)) (nn 63 (by decide)) (nn 72 (by decide)) (fun a ha => h3 a (by omega)) wv⟩, fun hU => UT_k hU (nn 63 (by decide)) (nn 64 (by decide)) (nn 65 (by decide)) (h3 28 (by decide)) (fun a h1 h2 => h3 a (by omega)) (kC_ae a1), nn 56 (by decide), hV, fun j hj => nn j (by omega), fun a ha => h3 a (by omega), w4⟩
theorem s_view (hR : RIc T FN C K e0 z0 x66 0 sd σ) (hb : 1 ≤ b.1 ∧ b.1 + 33735 ≤ 70000 ∧ b.2.1 + 32768 ≤ 70000) (hg : PG gl pr b σ) (hTp : TpO Tp n σ) (hv : VwO gl pr b σ) (h111 : ¬ σ.1 111 = 0) {L : Nat → Int32} : Tm (fun k => x_view k 0 L σ) (fun r => r = (0, mSc σ 2 2) ∨ VwP gl pr b σ r.2) := by
  obtain ⟨⟨n1, n2⟩, tp3, tpb⟩ := hTp
  obtain ⟨V, v1, v2, v3⟩ := hv
  refine Tm_suc (fun k => by rw [x_view]) ?_
  refine Tm_ite (fun z => absurd z h111) (fun _ => ?_)
  refine Tm_suc (fun k => by rw [x_view]) ?_
  refine Tm_ite (fun z => ?_) (fun z => ?_)
  · refine Tm_suc (fun k => by rw [x_view]) ?_
    refine Tm_ob (s_good _ _) (fun r hr => ?_)
    rw [hr]
    refine Tm_ite (fun _ => ?_) (fun v => absurd rfl v)
    exact Tm_some (Or.inl rfl)
  have hV8 : V < 8 := by
    rw [v1] at z
    have : ¬ V = 8 := fun e => z (by rw [e]; rfl)
    omega
  refine Tm_suc (fun k => by rw [x_view]) ?_
  refine Tm_suc (fun k => by rw [x_view]) ?_
  refine Tm_ob (s_good _ _) (fun r hr => ?_)
  rw [hr]
  refine Tm_ite (fun z => absurd (show (1 : Int32) = 0 from z) (by decide)) (fun _ => ?_)
  show Tm (fun k => x_view k 4 (upd L 100 0) (mSc σ 2 0)) _
  refine Tm_suc (fun k => by rw [x_view]) ?_
  show Tm (fun k => x_view k 5 (upd (upd (upd L 100 0) 1 (σ.1 22)) 2 (σ.1 24)) (mSc (mSc σ 2 0) 11 0)) _
  refine Tm_suc (fun k => by rw [x_view]) ?_
  obtain ⟨x, hx⟩ := gX_tot (T := Tp) (n := n) (gl, [], [], 42, false, decide (0 = 1), pr) b hb.1
  have hgA : PG gl pr b (mSc (mSc σ 2 0) 11 0) := ⟨hg.1, PB_c (σ := σ) rfl rfl (fun _ _ => rfl) hg.2.1, hg.2.2.1, hg.2.2.2⟩
  have ha : ∀ j, ¬ (j = 2 ∨ j = 11) → (mSc (mSc σ 2 0) 11 0).1 j = σ.1 j := fun j hj => by
    show upd (upd σ.1 2 0) 11 0 j = _
    rw [upd_other (by omega), upd_other (by omega)]
  refine Tm_ob (p_readExp (dr := 0) (σ := mSc (mSc σ 2 0) 11 0) hx ⟨n1, n2⟩ tp3 hgA (by omega) rfl (by omega) (by omega)) (fun r1 hr1 => ?_)
  obtain ⟨fx, _, hx2⟩ := hr1
  show Tm (fun k => x_view k 6 (upd (upd (upd (upd L 100 0) 1 (σ.1 22)) 2 (σ.1 24)) 3 (σ.1 4)) (mSc r1.2 22 (σ.1 22))) _
  refine Tm_suc (fun k => by rw [x_view]) ?_
  show Tm (fun k => x_view k 7 (upd (upd (upd (upd L 100 0) 1 (σ.1 22)) 2 (σ.1 24)) 3 (σ.1 4)) (mSc (mSc r1.2 22 (σ.1 22)) 24 (σ.1 24))) _
  obtain ⟨τ, hτ⟩ : ∃ τ, τ = mSc (mSc r1.2 22 (σ.1 22)) 24 (σ.1 24) := ⟨_, rfl⟩
  rw [← hτ]
  have ts : ∀ j, ¬ (j = 22 ∨ j = 24) → τ.1 j = r1.2.1 j := fun j hj => by
    rw [hτ]
    show upd (upd r1.2.1 22 _) 24 _ j = _
    rw [upd_other (by omega), upd_other (by omega)]
  have t22 : τ.1 22 = σ.1 22 := by rw [hτ]; rfl
  have t24 : τ.1 24 = σ.1 24 := by rw [hτ]; rfl
  have tr : τ.2 = r1.2.2 := by rw [hτ]; rfl
  have rx : ∀ a, ¬ ((4 ≤ a ∧ a ≤ 9) ∨ a = 12 ∨ (20 ≤ a ∧ a ≤ 27)) → τ.2.2 a = σ.2.2 a := fun a h => by
    rw [tr]; exact fx.2.2.1 a h
  have t73 : τ.1 73 = nI V := (ts 73 (by omega)).trans ((fx.1 73 (by decide)).trans v1)
  refine Tm_suc (fun k => by rw [x_view]) ?_
  cases x with
  | none =>
    refine Tm_ite (fun z => absurd ((ts 10 (by omega)).symm.trans z) hx2) (fun _ => ?_)
    refine Tm_suc (fun k => by rw [x_view]) ?_
    refine Tm_some (Or.inr ?_)
    show VwP gl pr b σ (mSc τ 4 0)
    exact vw_p (ρ := r1.2) hR hg (by omega) ha rfl fx (fun j hj => (show (mSc τ 4 0).1 j = τ.1 j from upd_other (by omega)).trans (ts j (by omega))) (fun a _ => by show τ.2.2 a = _; rw [tr]) (by show τ.2.1 = _; rw [tr]) t22 t24 (fun a i h1 h2 => Or.inl (by show τ.2.2 a i = _; rw [rx a (by omega)])) (VwO_c (σ := σ) (t73.trans v1.symm) (rx 54 (by decide)) (rx 55 (by decide)) ⟨V, v1, v2, v3⟩) rfl
  | some t =>
    refine Tm_ite (fun _ => ?_) (fun z => absurd ((ts 10 (by omega)).trans hx2.1) z)
    refine Tm_suc (fun k => by rw [x_view]) ?_
    -- the end: the view is there
    have fin : ∀ (N : Nat → Int32) (υ : MS), N 3 = nI n → (∀ j, υ.1 j = τ.1 j) → υ.2.1 = τ.2.1 → (∀ a, a ≠ 54 → υ.2.2 a = τ.2.2 a) → (∀ k, k < n → υ.2.2 54 (32768 * V + k) = Tp k) → (∀ y, y < 32768 * V → υ.2.2 54 y = σ.2.2 54 y) → Tm (fun k => x_view k 12 N υ) (fun r => r = (0, mSc σ 2 2) ∨ VwP gl pr b σ r.2) := fun N υ n3 us ul ur uc uo => by
      have u73 : υ.1 73 = nI V := (us 73).trans t73
      have ix : ¬ (nI V < 0 ∨ 8 ≤ (nI V).toNatClampNeg) := n_in (by omega) (by omega)
      refine Tm_suc (fun k => by rw [x_view]) ?_
      rw [u73, n3]
      refine Tm_chk ix ?_
      rw [n_cl (p := V) (by omega)]
      show Tm (fun k => x_view k 13 N (mAr υ 55 V (nI n))) _
      refine Tm_suc (fun k => by rw [x_view]) ?_
      rw [show (mAr υ 55 V (nI n)).1 73 = nI V from u73]
      refine Tm_chk ix ?_
      rw [n_cl (p := V) (by omega)]
      show Tm (fun k => x_view k 14 N (mAr (mAr υ 55 V (nI n)) 36 V 0)) _
      refine Tm_suc (fun k => by rw [x_view]) ?_
      rw [show (mAr (mAr υ 55 V (nI n)) 36 V 0).1 73 = nI V from u73]
      refine Tm_chk ix ?_
      rw [n_cl (p := V) (by omega)]
      show Tm (fun k => x_view k 15 N (mAr (mAr (mAr υ 55 V (nI n)) 36 V 0) 37 V 0)) _
      refine Tm_suc (fun k => by rw [x_view]) ?_
      rw [show (mAr (mAr (mAr υ 55 V (nI n)) 36 V 0) 37 V 0).1 73 = nI V from u73]
      refine Tm_chk ix ?_
      rw [n_cl (p := V) (by omega)]
      show Tm (fun k => x_view k 16 N (mAr (mAr (mAr (mAr υ 55 V (nI n)) 36 V 0) 37 V 0) 38 V 0)) _
      refine Tm_suc (fun k => by rw [x_view]) ?_
      rw [show (mAr (mAr (mAr (mAr υ 55 V (nI n)) 36 V 0) 37 V 0) 38 V 0).1 73 = nI V from u73]
      refine Tm_chk ix ?_
      rw [n_cl (p := V) (by omega)]
      show Tm (fun k => x_view k 17 N (mAr (mAr (mAr (mAr (mAr υ 55 V (nI n)) 36 V 0) 37 V 0) 38 V 0) 39 V (vp_nar .boolean 0))) _
      obtain ⟨χ, hχ⟩ : ∃ χ, χ = mAr (mAr (mAr (mAr (mAr υ 55 V (nI n)) 36 V 0) 37 V 0) 38 V 0) 39 V (vp_nar .boolean 0) := ⟨_, rfl⟩
      rw [← hχ]
      have cs : ∀ j, χ.1 j = τ.1 j := fun j => by rw [hχ]; exact us j
      have cl : χ.2.1 = τ.2.1 := by rw [hχ]; exact ul
      have cr : ∀ a, ¬ ((36 ≤ a ∧ a ≤ 39) ∨ a = 55) → χ.2.2 a = υ.2.2 a := fun a h => by
        rw [hχ, mAr_o (by omega), mAr_o (by omega), mAr_o (by omega), mAr_o (by omega), mAr_o (by omega)]
      have c55 : χ.2.2 55 = upd (υ.2.2 55) V (nI n) := by
        rw [hχ, mAr_o (by decide), mAr_o (by decide), mAr_o (by decide), mAr_o (by decide), mAr_s]
      have cv : ∀ a i, 36 ≤ a → a ≤ 38 → χ.2.2 a i = σ.2.2 a i ∨ χ.2.2 a i = 0 := fun a i h1 h2 => by
        have e0 : υ.2.2 a i = σ.2.2 a i := by rw [ur a (by omega), rx a (by omega)]
        have : a = 36 ∨ a = 37 ∨ a = 38 := by omega
        by_cases ei : i = V
        · refine Or.inr ?_
          rw [hχ, ei]
          rcases this with rfl | rfl | rfl
          · rw [mAr_o (by decide), mAr_o (by decide), mAr_o (by decide), mAr_s, upd_same]
          · rw [mAr_o (by decide), mAr_o (by decide), mAr_s, upd_same]
          · rw [mAr_o (by decide), mAr_s, upd_same]
        · refine Or.inl ?_
          rw [hχ]
          rcases this with rfl | rfl | rfl
          · rw [mAr_o (by decide), mAr_o (by decide), mAr_o (by decide), mAr_s, upd_other ei, mAr_o (by decide)]; exact e0
          · rw [mAr_o (by decide), mAr_o (by decide), mAr_s, upd_other ei, mAr_o (by decide), mAr_o (by decide)]; exact e0
          · rw [mAr_o (by decide), mAr_s, upd_other ei, mAr_o (by decide), mAr_o (by decide), mAr_o (by decide)]; exact e0
      refine Tm_suc (fun k => by rw [x_view]) ?_
      show Tm (fun k => x_view k 18 N (mSc χ 4 0)) _
      refine Tm_suc (fun k => by rw [x_view]) ?_
      rw [show (mSc χ 4 0).1 73 = nI V from (cs 73).trans t73, n_add1]
      show Tm (fun k => x_view k 19 N (mSc (mSc χ 4 0) 73 (nI (V + 1)))) _
      refine Tm_suc (fun k => by rw [x_view]) ?_
      refine Tm_some (Or.inr ?_)
      show VwP gl pr b σ (mSc (mSc χ 4 0) 73 (nI (V + 1)))
      refine vw_p (ρ := r1.2) hR hg (by omega) ha rfl fx (fun j hj => ?_) (fun a h => ?_) ?_ ((cs 22).trans t22) ((cs 24).trans t24) cv ⟨V + 1, rfl, by omega, fun v hv => ?_⟩ rfl
      · show upd (upd χ.1 4 0) 73 _ j = _
        rw [upd_other (by omega), upd_other (by omega), cs j, ts j (by omega)]
      · show χ.2.2 a = _
        rw [cr a (by omega), ur a (by omega), tr]
      · show χ.2.1 = _
        rw [cl, tr]
      · have e54 : ∀ y, χ.2.2 54 y = υ.2.2 54 y := fun y => by rw [cr 54 (by omega)]
        by_cases ev : v = V
        · subst ev
          refine ⟨n, ?_, n2, fun i hi => ?_, ?_⟩
          · show χ.2.2 55 v = _
            rw [c55, upd_same]
          · show ∃ d, d ≤ 300 ∧ χ.2.2 54 (32768 * v + i) = nI d
            rw [e54, uc i hi]; exact tpb i hi
          · refine ⟨30 * n + 21, t, ?_⟩
            show gX (fun i => χ.2.2 54 (32768 * v + i)) n _ _ b = _
            rw [gX_c (T' := Tp) (fun i hi => by rw [e54, uc i hi])]
            exact hx
        · obtain ⟨nv, a1, a2, a3, f', t', a4⟩ := v3 v (by omega)
          have old : ∀ i, i < nv → χ.2.2 54 (32768 * v + i) = σ.2.2 54 (32768 * v + i) := fun i hi => by
            have : 32768 * v + 32768 ≤ 32768 * V := by
              have : v + 1 ≤ V := by omega
              calc 32768 * v + 32768 = 32768 * (v + 1) := by omega
                _ ≤ 32768 * V := Nat.mul_le_mul_left _ this
            rw [e54, uo _ (by omega)]
          refine ⟨nv, ?_, a2, fun i hi => ?_, f', t', ?_⟩
          · show χ.2.2 55 v = _
            rw [c55, upd_other ev, ur 55 (by decide), rx 55 (by decide)]; exact a1
          · show ∃ d, d ≤ 300 ∧ χ.2.2 54 (32768 * v + i) = nI d
            rw [old i hi]; exact a3 i hi
          · show gX (fun i => χ.2.2 54 (32768 * v + i)) nv _ _ b = _
            rw [gX_c (T' := fun i => σ.2.2 54 (32768 * v + i)) (fun i hi => old i hi)]
            exact a4
    -- the text is copied
    have lp : ∀ (d i : Nat) (N : Nat → Int32) (υ : MS), d + i = n → N 3 = nI n → N 4 = nI i → (∀ j, υ.1 j = τ.1 j) → υ.2.1 = τ.2.1 → (∀ a, a ≠ 54 → υ.2.2 a = τ.2.2 a) → (∀ k, k < i → υ.2.2 54 (32768 * V + k) = Tp k) → (∀ y, y < 32768 * V → υ.2.2 54 y = σ.2.2 54 y) → Tm (fun k => x_view k 10 N υ) (fun r => r = (0, mSc σ 2 2) ∨ VwP gl pr b σ r.2) := by
      intro d
      induction d with
      | zero =>
        intro i N υ hi n3 n4 us ul ur uc uo
        refine Tm_suc (fun k => by rw [x_view]) ?_
        rw [n3, n4]
        refine Tm_ite (fun _ => ?_) (fun z => absurd ((n_le (by omega) (by omega)).mpr (by omega)) z)
        exact fin N υ n3 us ul ur (fun k hk => uc k (by omega)) uo
      | succ d ih =>
        intro i N υ hi n3 n4 us ul ur uc uo
        have u73 : υ.1 73 = nI V := (us 73).trans t73
        refine Tm_suc (fun k => by rw [x_view]) ?_
        rw [n3, n4, u73, show (32768 : Int32) * nI V = nI (32768 * V) from n_mulN 32768 V, n_add (p := 32768 * V) (by omega)]
        refine Tm_ite (fun z => absurd ((n_le (by omega) (by omega)).mp z) (by omega)) (fun _ => ?_)
        refine Tm_chk (n_in (by omega) (by omega)) ?_
        refine Tm_chk (n_in (by omega) (by omega)) ?_
        rw [n_cl (p := i) (by omega), n_cl (p := 32768 * V + i) (by omega)]
        show Tm (fun k => x_view k 11 N (mAr υ 54 (32768 * V + i) (υ.2.2 3 i))) _
        refine Tm_suc (fun k => by rw [x_view]) ?_
        rw [n4, n_add1]
        have u3 : υ.2.2 3 i = Tp i := by rw [ur 3 (by decide), rx 3 (by decide), tp3]
        refine ih (i + 1) _ _ (by omega) n3 rfl us ul (fun a h => (mAr_o h).trans (ur a h)) (fun k hk => ?_) (fun y hy => ?_)
        · rw [mAr_s]
          by_cases e : k = i
          · rw [e, upd_same]; exact u3
          · rw [upd_other (by omega)]; exact uc k (by omega)
        · rw [mAr_s, upd_other (by omega)]; exact uo y hy
    exact lp n 0 _ τ (by omega) n1 rfl (fun _ => rfl) rfl (fun _ _ => rfl) (fun k hk => absurd hk (Nat.not_lt_zero k)) (fun y _ => by rw [rx 54 (by decide)])
end VWW
