/-! A round (reference): what a view shows now against what it showed. -/
section RDT
variable {T : Nat → Nat → Int32} {FN : Nat → Nat → Prop} {S : Nat → Nat → Nat → Nat → Prop} {σ τ ω : MS} {C K : Nat → Int32} {e0 z0 x66 : Int32} {sd : Int64} {m X B h v a : Nat} {g : Nat → Prop} {l : List Nat} {Q : Int32 × MS → Prop} {N : Nat → Int32}
/-- an operation whose pile is empty -/
def OpR (g : Nat → Prop) (B h : Nat) (τ : MS) (r : Int32 × MS) : Prop := ∃ g' l' u, HG g B h τ r.2 g' l' u ∧ FW 0 τ r.2 ∧ r.2.2.1 = τ.2.1 ∧ r.2.1 59 = nI 0 ∧ ErB r.2 ∧ Vd g' r.1
theorem rd_set (hS : HS g l B h τ) (h59 : τ.1 59 = nI 0) (hE : ErB τ) {L : Nat → Int32} (d1 : L 1 = nI 0) : Tm (fun k => x_setOf k 0 L τ) (OpR g B h τ) := by
  refine Tm_mono (Tm_pq (s_setOf (f := 0) (n := 0) hS hE h59 (by omega) (by omega) (fun i hi => absurd hi (Nat.not_lt_zero i)) d1) (fun k r e => wl_setOf k _ _ _ r e)) (fun r hr => ?_)
  obtain ⟨⟨g', l', u, a1, a2, a3, a4, a5, a6⟩, w⟩ := hr
  exact ⟨g', l', u, a1, a2, w, a3, a4, a6⟩
theorem rd_sift (hS : HS g l B h τ) (h59 : τ.1 59 = nI 0) (hE : ErB τ) {x y : Nat} (hx : g x) (hkx : kdN (τ.2.2 28) x = 6) (hy : g y) (hky : kdN (τ.2.2 28) y = 6) {L : Nat → Int32} (d1 : L 1 = nI x) (d2 : L 2 = nI y) : Tm (fun k => x_sift k 0 L τ) (OpR g B h τ) := by
  refine Tm_mono (Tm_pq (s_sift (t := 0) ⟨hS, h59, by omega, hE⟩ hx (by omega) hy (by omega) d1 d2) (fun k r e => wl_sift k _ _ _ r e)) (fun r hr => ?_)
  obtain ⟨⟨g', l', u, a1, a2, a3, a4, a5, a6⟩, w⟩ := hr
  exact ⟨g', l', u, a1, a2, w, a3, a4, a6⟩
/-- the three values of a view are set -/
theorem rd_24 (hW : SWf T FN S) (hM : MI 0 X g l B h τ) (hP : PSt T FN S C K e0 z0 x66 0 sd m τ) (hv : v < 8) (n6 : N 6 = nI v) (v7 : Vd g (N 7)) (v11 : Vd g (N 11)) (v100 : Vd g (N 100)) (cont : ∀ (N' : Nat → Int32) (τ' : MS), PSt T FN S C K e0 z0 x66 0 sd m τ' → OR τ τ' → N' 6 = nI (v + 1) → (∀ j, 2 ≤ j → j ≤ 5 → N' j = N j) → Tm (fun k => x_round k 7 N' τ') Q) : Tm (fun k => x_round k 24 N τ) Q := by
  have ix : ¬ (nI v < 0 ∨ 8 ≤ (nI v).toNatClampNeg) := n_in (by omega) (by omega)
  refine Tm_suc (fun k => by rw [x_round]) ?_
  rw [n6]
  refine Tm_chk ix ?_
  rw [n_cl (p := v) (by omega)]
  show Tm (fun k => x_round k 25 (upd N 12 (N 100)) (mAr τ 36 v (N 7))) _
  refine Tm_suc (fun k => by rw [x_round]) ?_
  rw [show (upd N 12 (N 100)) 6 = nI v from n6, show (upd N 12 (N 100)) 11 = N 11 from rfl]
  refine Tm_chk ix ?_
  rw [n_cl (p := v) (by omega)]
  show Tm (fun k => x_round k 26 (upd N 12 (N 100)) (mAr (mAr τ 36 v (N 7)) 37 v (N 11))) _
  refine Tm_suc (fun k => by rw [x_round]) ?_
  rw [show (upd N 12 (N 100)) 6 = nI v from n6, show (upd N 12 (N 100)) 12 = N 100 from rfl]
  refine Tm_chk ix ?_
  rw [n_cl (p := v) (by omega)]
  show Tm (fun k => x_round k 27 (upd N 12 (N 100)) (mAr (mAr (mAr τ 36 v (N 7)) 37 v (N 11)) 38 v (N 100))) _
  obtain ⟨χ, hχ⟩ : ∃ χ, χ = mAr (mAr (mAr τ 36 v (N 7)) 37 v (N 11)) 38 v (N 100) := ⟨_, rfl⟩
  rw [← hχ]
  have cs : χ.1 = τ.1 := by rw [hχ]; rfl
  have cl : χ.2.1 = τ.2.1 := by rw [hχ]; rfl
  have cr : ∀ x, ¬ (36 ≤ x ∧ x ≤ 38) → χ.2.2 x = τ.2.2 x := fun x hx => by
    rw [hχ, mAr_o (by omega), mAr_o (by omega), mAr_o (by omega)]
  have cv : ∀ x i, 36 ≤ x → x ≤ 38 → (i = v ∧ Vd g (χ.2.2 x i)) ∨ χ.2.2 x i = τ.2.2 x i := fun x i h1 h2 => by
    have : x = 36 ∨ x = 37 ∨ x = 38 := by omega
    by_cases ei : i = v
    · refine Or.inl ⟨ei, ?_⟩
      rw [hχ, ei]
      rcases this with rfl | rfl | rfl
      · rw [mAr_o (by decide), mAr_o (by decide), mAr_s, upd_same]; exact v7
      · rw [mAr_o (by decide), mAr_s, upd_same]; exact v11
      · rw [mAr_s, upd_same]; exact v100
    · refine Or.inr ?_
      rw [hχ]
      rcases this with rfl | rfl | rfl
      · rw [mAr_o (by decide), mAr_o (by decide), mAr_s, upd_other ei]
      · rw [mAr_o (by decide), mAr_s, upd_other ei, mAr_o (by decide)]
      · rw [mAr_s, upd_other ei, mAr_o (by decide), mAr_o (by decide)]
  have hMχ : MI 0 870000 g l B h χ := by
    obtain ⟨m1, m2, m3, m4⟩ := hM
    have rp : ∀ x i, RtP 0 χ x i ↔ RtP 0 τ x i := RtP_x (by rw [cs]) (by rw [cs]) (cr 30 (by omega)) (cr 31 (by omega))
    refine MI_any (HS_c m1 (by rw [cs]) (by rw [cs]) (cr 28 (by omega))) (RtQ_c (by rw [cs]) (by rw [cs]) (cr 30 (by omega)) (cr 31 (by omega)) m2) (fun x i z => ?_)
    have vd := m3 x i ((rp x i).mp z)
    by_cases e : 36 ≤ x ∧ x ≤ 38
    · rcases cv x i e.1 e.2 with y | y
      · exact y.2
      · rw [y]; exact vd
    · rw [cr x e]; exact vd
  have hPχ : PSt T FN S C K e0 z0 x66 0 sd m χ := PSt_sm hW ⟨fun j _ => by rw [cs], fun x hx => cr x (by omega), cl⟩ ⟨g, l, B, h, 870000, hMχ⟩ hP
  have hO : OR τ χ := ⟨fun j _ => by rw [cs], fun x hx => cr x (by omega), fun x i h1 h2 _ _ => by rw [cr x (by omega)], fun i _ => by rw [cr 12 (by omega)]⟩
  have b29 : ∀ M : Nat → Int32, M 6 = nI v → (∀ j, 2 ≤ j → j ≤ 5 → M j = N j) → Tm (fun k => x_round k 29 M χ) Q := fun M m6 mj => by
    refine Tm_suc (fun k => by rw [x_round]) ?_
    rw [m6, n_add1]
    refine cont _ χ hPχ hO rfl (fun j h1 h2 => ?_)
    rw [upd_other (by omega), upd_other (by omega)]; exact mj j h1 h2
  refine Tm_suc (fun k => by rw [x_round]) ?_
  refine Tm_ite (fun _ => ?_) (fun _ => ?_)
  · refine Tm_suc (fun k => by rw [x_round]) ?_
    refine b29 _ n6 (fun j h1 h2 => ?_)
    rw [upd_other (by omega), upd_other (by omega), upd_other (by omega), upd_other (by omega)]
  · refine b29 _ n6 (fun j h1 h2 => ?_)
    rw [upd_other (by omega), upd_other (by omega), upd_other (by omega)]
/-- sets both, or the choice is not to be made -/
def Bth (g : Nat → Prop) (H : Nat → Int32) (N : Nat → Int32) (a w : Nat) : Prop := N 10 = 0 ∨ (g a ∧ g w ∧ kdN H a = 6 ∧ kdN H w = 6)
/-- what went -/
theorem rd_21 (hW : SWf T FN S) (hM : MI 0 X g l B h τ) (hP : PSt T FN S C K e0 z0 x66 0 sd m τ) (h59 : τ.1 59 = nI 0) (hE : ErB τ) (hv : v < 8) (n6 : N 6 = nI v) {w : Nat} (n7 : N 7 = nI a) (ha : a < 3 ∨ g a) (n8 : N 8 = nI w) (hw : w < 3 ∨ g w) (hB : Bth g (τ.2.2 28) N a w) (v100 : Vd g (N 100)) (cont : ∀ (N' : Nat → Int32) (τ' : MS), PSt T FN S C K e0 z0 x66 0 sd m τ' → OR τ τ' → N' 6 = nI (v + 1) → (∀ j, 2 ≤ j → j ≤ 5 → N' j = N j) → Tm (fun k => x_round k 7 N' τ') Q) : Tm (fun k => x_round k 21 N τ) Q := by
  have op : ∀ r, OpR g B h τ r → Tm (fun k => x_round k 24 (upd (upd N 11 (N 100)) 100 r.1) r.2) Q := fun r hr => by
    obtain ⟨g', l', u, a1, a2, a3, a4, a5, a6⟩ := hr
    obtain ⟨p1, p2, p3⟩ := PSt_vo hW hM a1 a2 a3 hP
    have up : ∀ y, Vd g y → Vd g' y := fun y z => by
      obtain ⟨k, k1, k2⟩ := z
      exact ⟨k, k1, k2.imp id (a1.2.1 k)⟩
    refine rd_24 hW p2 p1 hv n6 (up _ ⟨a, n7, ha⟩) (up _ v100) a6 (fun N' τ' c1 c2 c3 c4 => cont N' τ' c1 (OR_tr p3 c2) c3 (fun j h1 h2 => ?_))
    rw [c4 j h1 h2, upd_other (by omega), upd_other (by omega)]
  refine Tm_suc (fun k => by rw [x_round]) ?_
  refine Tm_ite (fun _ => ?_) (fun _ => ?_)
  · exact Tm_ob (rd_set hM.1 h59 hE rfl) (fun r hr => op r hr)
  · refine Tm_suc (fun k => by rw [x_round]) ?_
    rw [show (upd N 11 (N 100)) 10 = N 10 from rfl, show (upd N 11 (N 100)) 8 = N 8 from rfl, show (upd N 11 (N 100)) 7 = N 7 from rfl]
    refine Tm_ite (fun _ => ?_) (fun z => ?_)
    · refine Tm_suc (fun k => by rw [x_round]) ?_
      refine rd_24 hW hM hP hv n6 ⟨a, n7, ha⟩ v100 ⟨w, n8, hw⟩ (fun N' τ' c1 c2 c3 c4 => cont N' τ' c1 c2 c3 (fun j h1 h2 => ?_))
      rw [c4 j h1 h2, upd_other (by omega), upd_other (by omega)]
    · rcases hB with y | ⟨y1, y2, y3, y4⟩
      · exact absurd y z
      · exact Tm_ob (rd_sift hM.1 h59 hE y2 y4 y1 y3 (show (upd (upd (upd (fun _ => 0) 1 (N 8)) 2 (N 7)) 3 0 : Nat → Int32) 1 = nI w from n8) (show (upd (upd (upd (fun _ => 0) 1 (N 8)) 2 (N 7)) 3 0 : Nat → Int32) 2 = nI a from n7)) (fun r hr => op r hr)
/-- what came -/
theorem rd_18 (hW : SWf T FN S) (hM : MI 0 X g l B h τ) (hP : PSt T FN S C K e0 z0 x66 0 sd m τ) (h59 : τ.1 59 = nI 0) (hE : ErB τ) (hv : v < 8) (n6 : N 6 = nI v) {w : Nat} (n7 : N 7 = nI a) (ha : a < 3 ∨ g a) (n8 : N 8 = nI w) (hw : w < 3 ∨ g w) (hB : Bth g (τ.2.2 28) N a w) (cont : ∀ (N' : Nat → Int32) (τ' : MS), PSt T FN S C K e0 z0 x66 0 sd m τ' → OR τ τ' → N' 6 = nI (v + 1) → (∀ j, 2 ≤ j → j ≤ 5 → N' j = N j) → Tm (fun k => x_round k 7 N' τ') Q) : Tm (fun k => x_round k 18 N τ) Q := by
  have op : ∀ r, OpR g B h τ r → Tm (fun k => x_round k 21 (upd N 100 r.1) r.2) Q := fun r hr => by
    obtain ⟨g', l', u, a1, a2, a3, a4, a5, a6⟩ := hr
    obtain ⟨p1, p2, p3⟩ := PSt_vo hW hM a1 a2 a3 hP
    obtain ⟨ka, ka2⟩ := kd_gr hM.1 a1 ha
    obtain ⟨kw, kw2⟩ := kd_gr hM.1 a1 hw
    have hB' : Bth g' (r.2.2.2 28) (upd N 100 r.1) a w := by
      rcases hB with y | ⟨y1, y2, y3, y4⟩
      · exact Or.inl y
      · exact Or.inr ⟨a1.2.1 a y1, a1.2.1 w y2, ka2.trans y3, kw2.trans y4⟩
    refine rd_21 hW p2 p1 a4 a5 hv n6 n7 ka n8 kw hB' a6 (fun N' τ' c1 c2 c3 c4 => cont N' τ' c1 (OR_tr p3 c2) c3 (fun j h1 h2 => ?_))
    rw [c4 j h1 h2, upd_other (by omega)]
  refine Tm_suc (fun k => by rw [x_round]) ?_
  refine Tm_ite (fun _ => ?_) (fun _ => ?_)
  · exact Tm_ob (rd_set hM.1 h59 hE rfl) (fun r hr => op r hr)
  · refine Tm_suc (fun k => by rw [x_round]) ?_
    refine Tm_ite (fun _ => ?_) (fun z => ?_)
    · refine Tm_suc (fun k => by rw [x_round]) ?_
      refine rd_21 hW hM hP h59 hE hv n6 n7 ha n8 hw (hB.imp id id) ⟨a, n7, ha⟩ (fun N' τ' c1 c2 c3 c4 => cont N' τ' c1 c2 c3 (fun j h1 h2 => ?_))
      rw [c4 j h1 h2, upd_other (by omega)]
    · rcases hB with y | ⟨y1, y2, y3, y4⟩
      · exact absurd y z
      · exact Tm_ob (rd_sift hM.1 h59 hE y1 y3 y2 y4 (show (upd (upd (upd (fun _ => 0) 1 (N 7)) 2 (N 8)) 3 0 : Nat → Int32) 1 = nI a from n7) (show (upd (upd (upd (fun _ => 0) 1 (N 7)) 2 (N 8)) 3 0 : Nat → Int32) 2 = nI w from n8)) (fun r hr => op r hr)
/-- behind an evaluation: what the view shows, up to the next one -/
theorem rd_12 (hW : SWf T FN S) (hM : MI 0 X g l B h τ) (hP : PSt T FN S C K e0 z0 x66 0 sd m τ) (hE : ErB τ) (hv : v < 8) (n6 : N 6 = nI v) (n7 : N 7 = nI a) (ha : a < 3 ∨ g a) (cont : ∀ (N' : Nat → Int32) (τ' : MS), PSt T FN S C K e0 z0 x66 0 sd m τ' → OR τ τ' → N' 6 = nI (v + 1) → (∀ j, 2 ≤ j → j ≤ 5 → N' j = N j) → Tm (fun k => x_round k 7 N' τ') Q) : Tm (fun k => x_round k 12 N τ) Q := by
  have ix : ¬ (nI v < 0 ∨ 8 ≤ (nI v).toNatClampNeg) := n_in (by omega) (by omega)
  refine Tm_suc (fun k => by rw [x_round]) ?_
  rw [n6]
  refine Tm_chk ix ?_
  rw [n_cl (p := v) (by omega)]
  show Tm (fun k => x_round k 13 N (mAr τ 39 v (vp_nar .boolean 1))) _
  obtain ⟨χ, hχ⟩ : ∃ χ, χ = mAr τ 39 v (vp_nar .boolean 1) := ⟨_, rfl⟩
  rw [← hχ]
  have cs : χ.1 = τ.1 := by rw [hχ]; rfl
  have cl : χ.2.1 = τ.2.1 := by rw [hχ]; rfl
  have cr : ∀ x, x ≠ 39 → χ.2.2 x = τ.2.2 x := fun x hx => by rw [hχ, mAr_o hx]
  have hMχ : MI 0 870000 g l B h χ := MI_vw hM (by rw [cs]) (by rw [cs]) (by rw [cs]) (by rw [cs]) (fun x hx => cr x (by omega)) (fun x i h1 h2 => Or.inl (by rw [cr x (by omega)]))
  have hPχ : PSt T FN S C K e0 z0 x66 0 sd m χ := PSt_sm hW ⟨fun j _ => by rw [cs], fun x hx => cr x (by omega), cl⟩ ⟨g, l, B, h, 870000, hMχ⟩ hP
  have hO : OR τ χ := ⟨fun j _ => by rw [cs], fun x hx => cr x (by omega), fun x i h1 h2 _ _ => by rw [cr x (by omega)], fun i _ => by rw [cr 12 (by omega)]⟩
  obtain ⟨w, w1, w2⟩ := hMχ.2.2.1 36 v (Or.inr (Or.inr (Or.inr (Or.inr (Or.inr (Or.inl ⟨rfl, hv⟩))))))
  -- from the end of the choice on
  have b17 : ∀ M : Nat → Int32, M 6 = nI v → M 7 = nI a → M 8 = nI w → (M 100 = 0 ∨ (g a ∧ g w ∧ kdN (χ.2.2 28) a = 6 ∧ kdN (χ.2.2 28) w = 6)) → (∀ j, 2 ≤ j → j ≤ 5 → M j = N j) → Tm (fun k => x_round k 17 M χ) Q := fun M m6 m7 m8 mB mj => by
    refine Tm_suc (fun k => by rw [x_round]) ?_
    show Tm (fun k => x_round k 18 (upd M 10 (M 100)) (mSc χ 59 0)) _
    have hMz : MI 0 870000 g l B h (mSc χ 59 0) := MI_c hMχ rfl rfl rfl rfl rfl
    have hPz : PSt T FN S C K e0 z0 x66 0 sd m (mSc χ 59 0) := PSt_sm (σ := χ) hW ⟨fun j hj => by show upd χ.1 59 0 j = _; rw [upd_other (by omega)], fun x hx => rfl, rfl⟩ ⟨g, l, B, h, 870000, hMz⟩ hPχ
    have hEz : ErB (mSc χ 59 0) := by
      obtain ⟨e, e1, e2⟩ := hE
      exact ⟨e, by show χ.1 56 = _; rw [cs]; exact e1, e2⟩
    have hOz : OR χ (mSc χ 59 0) := ⟨fun j hj => by show upd χ.1 59 0 j = _; rw [upd_other (by omega)], fun _ _ => rfl, fun _ _ _ _ _ _ => rfl, fun _ _ => rfl⟩
    refine rd_18 hW hMz hPz rfl hEz hv m6 m7 ha m8 w2 mB (fun N' τ' c1 c2 c3 c4 => cont N' τ' c1 (OR_tr hO (OR_tr hOz c2)) c3 (fun j h1 h2 => ?_))
    rw [c4 j h1 h2, upd_other (by omega)]; exact mj j h1 h2
  have b16 : ∀ M : Nat → Int32, M 6 = nI v → M 7 = nI a → M 8 = nI w → (∀ j, 2 ≤ j → j ≤ 5 → M j = N j) → Tm (fun k => x_round k 16 M χ) Q := fun M m6 m7 m8 mj => by
    refine Tm_suc (fun k => by rw [x_round]) ?_
    exact b17 _ m6 m7 m8 (Or.inl rfl) (fun j h1 h2 => by rw [upd_other (by omega)]; exact mj j h1 h2)
  have b15 : ∀ M : Nat → Int32, M 6 = nI v → M 7 = nI a → M 8 = nI w → (∀ j, 2 ≤ j → j ≤ 5 → M j = N j) → Tm (fun k => x_round k 15 M χ) Q := fun M m6 m7 m8 mj => by
    refine Tm_suc (fun k => by rw [x_round]) ?_
    refine Tm_ob (s_kind hMχ.1 ha (show (upd (fun _ => 0) 1 (M 7) : Nat → Int32) 1 = nI a from m7)) (fun r1 hr1 => ?_)
    rw [hr1]
    have gd : ∀ x, (x < 3 ∨ g x) → kdN (χ.2.2 28) x = 6 → g x := fun x hx hk => by
      rcases hx with c | c
      · unfold kdN at hk
        by_cases c0 : x = 0
        · rw [if_pos c0] at hk; omega
        · rw [if_neg c0, if_pos c] at hk; omega
      · exact c
    have kb : ∀ x, (x < 3 ∨ g x) → kdN (χ.2.2 28) x < 2147483648 := fun x hx => by
      unfold kdN
      by_cases c0 : x = 0
      · rw [if_pos c0]; omega
      · rw [if_neg c0]
        by_cases c : x < 3
        · rw [if_pos c]; omega
        · rw [if_neg c]
          have := (χ.2.2 28 x).toInt_lt
          show (χ.2.2 28 x).toInt.toNat < 2147483648
          omega
    refine Tm_ite (fun z => ?_) (fun _ => ?_)
    · have za := (n_eq (q := 6) (kb a ha) (by decide)).mp z
      refine Tm_ob (s_kind hMχ.1 w2 (show (upd (fun _ => 0) 1 (M 8) : Nat → Int32) 1 = nI w from m8)) (fun r3 hr3 => ?_)
      rw [hr3]
      refine Tm_ite (fun z2 => ?_) (fun _ => ?_)
      · have zw := (n_eq (q := 6) (kb w w2) (by decide)).mp z2
        exact b17 _ m6 m7 m8 (Or.inr ⟨gd a ha za, gd w w2 zw, za, zw⟩) (fun j h1 h2 => by rw [upd_other (by omega), upd_other (by omega)]; exact mj j h1 h2)
      · exact b16 _ m6 m7 m8 (fun j h1 h2 => by rw [upd_other (by omega)]; exact mj j h1 h2)
    · exact b16 _ m6 m7 m8 (fun j h1 h2 => by rw [upd_other (by omega)]; exact mj j h1 h2)
  refine Tm_suc (fun k => by rw [x_round]) ?_
  rw [n6]
  refine Tm_chk ix ?_
  rw [n_cl (p := v) (by omega), w1]
  refine Tm_ob (s_compareV hMχ.1 ha w2 (show (upd (upd (fun _ => 0) 1 (N 7)) 2 (nI w) : Nat → Int32) 1 = nI a from n7) rfl) (fun r2 hr2 => ?_)
  rw [hr2]
  refine Tm_ite (fun _ => ?_) (fun _ => ?_)
  · refine Tm_suc (fun k => by rw [x_round]) ?_
    exact b15 _ n6 n7 rfl (fun j h1 h2 => by rw [upd_other (by omega), upd_other (by omega)])
  · exact b15 _ n6 n7 rfl (fun j h1 h2 => by rw [upd_other (by omega), upd_other (by omega)])
end RDT
