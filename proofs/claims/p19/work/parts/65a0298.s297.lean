section JnS297
/-! A round (reference): what a view shows now against what it showed. -/
section RDT
variable {T : Nat → Nat → Int32} {FN : Nat → Nat → Prop} {S : Nat → Nat → Nat → Nat → Prop} {σ τ ω : MS} {C K : Nat → Int32} {e0 z0 x66 : Int32} {sd : Int64} {m X B h v a : Nat} {g : Nat → Prop} {l : List Nat} {Q : Int32 × MS → Prop} {N : Nat → Int32}
/-- an operation whose pile is empty -/
def OpR (g : Nat → Prop) (B h : Nat) (τ : MS) (r : Int32 × MS) : Prop := ∃ g' l' u, HG g B h τ r.2 g' l' u ∧ FW 0 τ r.2 ∧ r.2.2.1 = τ.2.1 ∧ r.2.1 59 = nI 0 ∧ ErB r.2 ∧ Vd g' r.1
theorem rd_set (hS : HS g l B h τ) (h59 : τ.1 59 = nI 0) (hE : ErB τ) {L : Nat → Int32} (d1 : L 1 = nI 0) : Tm (fun k => x_setOf k 0 L τ) (OpR g B h τ) := by
  refine Tm_mono (Tm_pq (s_setOf (f := 0) (n := 0) hS hE h59 (by omega) (by omega) (fun i hi => absurd hi (Nat.not_lt_zero i)) d1) (fun k r e => wl_setOf k _ _ _ r e)) (fun r hr => ?_)
  obtain ⟨⟨g', l', u, a1, a2, a3, a4, a5, a6⟩, w⟩ := hr
  exact ⟨g', l', u, a1, a2, w, a3, a4, a6⟩
theorem rd_sift (hS : HS g l B h τ) (h59 : τ.1 59 = nI 0) (hE : ErB τ) {x y : Nat} (hx : g x) (hkx : kdN (τ.2.2 28) x = 6) (hy : g y) (hky : kdN (τ.2.2 28) y = 6) {L : Nat → Int32} (d1 : L 1 = nI x) (d2 : L 2 = nI y) : Tm (fun k => x_sift k 0 L τ) (OpR g B h τ) := by
  refine Tm_mono (Tm_pq (s_sift (t := 0) ⟨hS, h59, by omega, hE⟩ hx (by omega) hy (by omega) d1 d2) (fun k r e => wl_sift k _ _ _ r e)) (fun r hr => ?_)
  obtain ⟨⟨g', l', u, a1, a2, a3, a4, a5, a6⟩, w⟩ := hr
  exact ⟨g', l', u, a1, a2, w, a3, a4, a6⟩
/-- the three values of a view are set -/
theorem rd_24 (hW : SWf T FN S) (hM : MI 0 X g l B h τ) (hP : PSt T FN S C K e0 z0 x66 0 sd m τ) (hv : v < 8) (n6 : N 6 = nI v) (v7 : Vd g (N 7)) (v11 : Vd g (N 11)) (v100 : Vd g (N 100)) (cont : ∀ (N' : Nat → Int32) (τ' : MS), PSt T FN S C K e0 z0 x66 0 sd m τ' → OR τ τ' → N' 6 = nI (v + 1) → (∀ j, 2 ≤ j → j ≤ 5 → N' j = N j) → Tm (fun k => x_round k 7 N' τ') Q) : Tm (fun k => x_round k 24 N τ) Q := by
  have ix : ¬ (nI v < 0 ∨ 8 ≤ (nI v).toNatClampNeg) := n_in (by omega) (by omega)
  refine Tm_suc (fun k => by rw [x_round]) ?_
  rw [n6]
  refine Tm_chk ix ?_
  rw [n_cl (p := v) (by omega)]
  show Tm (fun k => x_round k 25 (upd N 12 (N 100)) (mAr τ 36 v (N 7))) _
  refine Tm_suc (fun k => by rw [x_round]) ?_
  rw [show (upd N 12 (N 100)) 6 = nI v from n6, show (upd N 12 (N 100)) 11 = N 11 from rfl]
  refine Tm_chk ix ?_
  rw [n_cl (p := v) (by omega)]
  show Tm (fun k => x_round k 26 (upd N 12 (N 100)) (mAr (mAr τ 36 v (N 7)) 37 v (N 11))) _
  refine Tm_suc (fun k => by rw [x_round]) ?_
  rw [show (upd N 12 (N 100)) 6 = nI v from n6, show (upd N 12 (N 100)) 12 = N 100 from rfl]
  refine Tm_chk ix ?_
  rw [n_cl (p := v) (by omega)]
  show Tm (fun k => x_round k 27 (upd N 12 (N 100)) (mAr (mAr (mAr τ 36 v (N 7)) 37 v (N 11)) 38 v (N 100))) _
  obtain ⟨χ, hχ⟩ : ∃ χ, χ = mAr (mAr (mAr τ 36 v (N 7)) 37 v (N 11)) 38 v (N 100) := ⟨_, rfl⟩
  rw [← hχ]
  have cs : χ.1 = τ.1 := by rw [hχ]; rfl
  have cl : χ.2.1 = τ.2.1 := by rw [hχ]; rfl
  have cr : ∀ x, ¬ (36 ≤ x ∧ x ≤ 38) → χ.2.2 x = τ.2.2 x := fun x hx => by
    rw [hχ, mAr_o (by omega), mAr_o (by omega), mAr_o (by omega)]
  have cv : ∀ x i, 36 ≤ x → x ≤ 38 → (i = v ∧ Vd g (χ.2.2 x i)) ∨ χ.2.2 x i = τ.2.2 x i := fun x i h1 h2 => by
    have : x = 36 ∨ x = 37 ∨ x = 38 := by omega
    by_cases ei : i = v
    · refine Or.inl ⟨ei, ?_⟩
      rw [hχ, ei]
      rcases this with rfl | rfl | rfl
      · rw [mAr_o (by decide), mAr_o (by decide), mAr_s, upd_same]; exact v7
      · rw [mAr_o (by decide), mAr_s, upd_same]; exact v11
      · rw [mAr_s, upd_same]; exact v100
    · refine Or.inr ?_
      rw [hχ]
      rcases this with rfl | rfl | rfl
      · rw [mAr_o (by decide), mAr_o (by decide), mAr_s, upd_other ei]
      · rw [mAr_o (by decide), mAr_s, upd_other ei, mAr_o (by decide)]
      · rw [mAr_s, upd_other ei, mAr_o (by decide), mAr_o (by decide)]
  have hMχ : MI 0 870000 g l B h χ := by
    obtain ⟨m1, m2, m3, m4⟩ := hM
    have rp : ∀ x i, RtP 0 χ x i ↔ RtP 0 τ x i := RtP_x (by rw [cs]) (by rw [cs]) (cr 30 (by omega)) (cr 31 (by omega))
    refine MI_any (HS_c m1 (by rw [cs]) (by rw [cs]) (cr 28 (by omega))) (RtQ_c (by rw [cs]) (by rw [cs]) (cr 30 (by omega)) (cr 31 (by omega)) m2) (fun x i z => ?_)
    have vd := m3 x i ((rp x i).mp z)
    by_cases e : 36 ≤ x ∧ x ≤ 38
    · rcases cv x i e.1 e.2 with y | y
      · exact y.2
      · rw [y]; exact vd
    · rw [cr x e]; exact vd
  have hPχ : PSt T FN S C K e0 z0 x66 0 sd m χ := PSt_sm hW ⟨fun j _ => by rw [cs], fun x hx => cr x (by omega), cl⟩ ⟨g, l, B, h, 870000, hMχ⟩ hP
  have hO : OR τ χ := ⟨fun j _ => by rw [cs], fun x hx => cr x (by omega), fun x i h1 h2 _ _ => by rw [cr x (by omega)], fun i _ => by rw [cr 12 (by omega)]⟩
  have b29 : ∀ M : Nat → Int32, M 6 = nI v → (∀ j, 2 ≤ j → j ≤ 5 → M j = N j) → Tm (fun k => x_round k 29 M χ) Q := fun M m6 mj => by
    refine Tm_suc (fun k => by rw [x_round]) ?_
    rw [m6, n_add1]
    refine cont _ χ hPχ hO rfl (fun j h1 h2 => ?_)
    rw [upd_other (by omega), upd_other (by omega)]; exact mj j h1 h2
  refine Tm_suc (fun k => by rw [x_round]) ?_
  refine Tm_ite (fun _ => ?_) (fun _ => ?_)
  · refine Tm_suc (fun k => by rw [x_round]) ?_
    refine b29 _ n6 (fun j h1 h2 => ?_)
    rw [upd_other (by omega), upd_other (by omega), upd_other (by omega), upd_other (by omega)]
  · refine b29 _ n6 (fun j h1 h2 => ?_)
    rw [upd_other (by omega), upd_other (by omega), upd_other (by omega)]
/-- sets both, or the choice is not to be made -/
def Bth (g : Nat → Prop) (H : Nat → Int32) (N : Nat → Int32) (a w : Nat) : Prop := N 10 = 0 ∨ (g a ∧ g w ∧ kdN H a = 6 ∧ kdN H w = 6)
/-- what went -/
theorem rd_21 (hW : SWf T FN S) (hM : MI 0 X g l B h τ) (hP : PSt T FN S C K e0 z0 x66 0 sd m τ) (h59 : τ.1 59 = nI 0) (hE : ErB τ) (hv : v < 8) (n6 : N 6 = nI v) {w : Nat} (n7 : N 7 = nI a) (ha : a < 3 ∨ g a) (n8 : N 8 = nI w) (hw : w < 3 ∨ g w) (hB : Bth g (τ.2.2 28) N a w) (v100 : Vd g (N 100)) (cont : ∀ (N' : Nat → Int32) (τ' : MS), PSt T FN S C K e0 z0 x66 0 sd m τ' → OR τ τ' → N' 6 = nI (v + 1) → (∀ j, 2 ≤ j → j ≤ 5 → N' j = N j) → Tm (fun k => x_round k 7 N' τ') Q) : Tm (fun k => x_round k 21 N τ) Q := by
  have op : ∀ r, OpR g B h τ r → Tm (fun k => x_round k 24 (upd (upd N 11 (N 100)) 100 r.1) r.2) Q := fun r hr => by
    obtain ⟨g', l', u, a1, a2, a3, a4, a5, a6⟩ := hr
    obtain ⟨p1, p2, p3⟩ := PSt_vo hW hM a1 a2 a3 hP
    have up : ∀ y, Vd g y → Vd g' y := fun y z => by
      obtain ⟨k, k1, k2⟩ := z
      exact ⟨k, k1, k2.imp id (a1.2.1 k)⟩
    refine rd_24 hW p2 p1 hv n6 (up _ ⟨a, n7, ha⟩) (up _ v100) a6 (fun N' τ' c1 c2 c3 c4 => cont N' τ' c1 (OR_tr p3 c2) c3 (fun j h1 h2 => ?_))
    rw [c4 j h1 h2, upd_other (by omega), upd_other (by omega)]
  refine Tm_suc (fun k => by rw [x_round]) ?_
  refine Tm_ite (fun _ => ?_) (fun _ => ?_)
  · exact Tm_ob (rd_set hM.1 h59 hE rfl) (fun r hr => op r hr)
  · refine Tm_suc (fun k => by rw [x_round]) ?_
    rw [show (upd N 11 (N 100)) 10 = N 10 from rfl, show (upd N 11 (N 100)) 8 = N 8 from rfl, show (upd N 11 (N 100)) 7 = N 7 from rfl]
    refine Tm_ite (fun _ => ?_) (fun z => ?_)
    · refine Tm_suc (fun k => by rw [x_round]) ?_
      refine rd_24 hW hM hP hv n6 ⟨a, n7, ha⟩ v100 ⟨w, n8, hw⟩ (fun N' τ' c1 c2 c3 c4 => cont N' τ' c1 c2 c3 (fun j h1 h2 => ?_))
      rw [c4 j h1 h2, upd_other (by omega), upd_other (by omega)]
    · rcases hB with y | ⟨y1, y2, y3, y4⟩
      · exact absurd y z
      · exact Tm_ob (rd_sift hM.1 h59 hE y2 y4 y1 y3 (show (upd (upd (upd (fun _ => 0) 1 (N 8)) 2 (N 7)) 3 0 : Nat → Int32) 1 = nI w from n8) (show (upd (upd (upd (fun _ => 0) 1 (N 8)) 2 (N 7)) 3 0 : Nat → Int32) 2 = nI a from n7)) (fun r hr => op r hr)
/-- what came -/
theorem rd_18 (hW : SWf T FN S) (hM : MI 0 X g l B h τ) (hP : PSt T FN S C K e0 z0 x66 0 sd m τ) (h59 : τ.1 59 = nI 0) (hE : ErB τ) (hv : v < 8) (n6 : N 6 = nI v) {w : Nat} (n7 : N 7 = nI a) (ha : a < 3 ∨ g a) (n8 : N 8 = nI w) (hw : w < 3 ∨ g w) (hB : Bth g (τ.2.2 28) N a w) (cont : ∀ (N' : Nat → Int32) (τ' : MS), PSt T FN S C K e0 z0 x66 0 sd m τ' → OR τ τ' → N' 6 = nI (v + 1) → (∀ j, 2 ≤ j → j ≤ 5 → N' j = N j) → Tm (fun k => x_round k 7 N' τ') Q) : Tm (fun k => x_round k 18 N τ) Q := by
  have op : ∀ r, OpR g B h τ r → Tm (fun k => x_round k 21 (upd N 100 r.1) r.2) Q := fun r hr => by
    obtain ⟨g', l', u, a1, a2, a3, a4, a5, a6⟩ := hr
    obtain ⟨p1, p2, p3⟩ := PSt_vo hW hM a1 a2 a3 hP
    obtain ⟨ka, ka2⟩ := kd_gr hM.1 a1 ha
    obtain ⟨kw, kw2⟩ := kd_gr hM.1 a1 hw
    have hB' : Bth g' (r.2.2.2 28) (upd N 100 r.1) a w := by
      rcases hB with y | ⟨y1, y2, y3, y4⟩
      · exact Or.inl y
      · exact Or.inr ⟨a1.2.1 a y1, a1.2.1 w y2, ka2.trans y3, kw2.trans y4⟩
    refine rd_21 hW p2 p1 a4 a5 hv n6 n7 ka n8 kw hB' a6 (fun N' τ' c1 c2 c3 c4 => cont N' τ' c1 (OR_tr p3 c2) c3 (fun j h1 h2 => ?_))
    rw [c4 j h1 h2, upd_other (by omega)]
  refine Tm_suc (fun k => by rw [x_round]) ?_
  refine Tm_ite (fun _ => ?_) (fun _ => ?_)
  · exact Tm_ob (rd_set hM.1 h59 hE rfl) (fun r hr => op r hr)
  · refine Tm_suc (fun k => by rw [x_round]) ?_
    refine Tm_ite (fun _ => ?_) (fun z => ?_)
    · refine Tm_suc (fun k => by rw [x_round]) ?_
      refine rd_21 hW hM hP h59 hE hv n6 n7 ha n8 hw (hB.imp id id) ⟨a, n7, ha⟩ (fun N' τ' c1 c2 c3 c4 => cont N' τ' c1 c2 c3 (fun j h1 h2 => ?_))
      rw [c4 j h1 h2, upd_other (by omega)]
    · rcases hB with y | ⟨y1, y2, y3, y4⟩
      · exact absurd y z
      · exact Tm_ob (rd_sift hM.1 h59 hE y1 y3 y2 y4 (show (upd (upd (upd (fun _ => 0) 1 (N 7)) 2 (N 8)) 3 0 : Nat → Int32) 1 = nI a from n7) (show (upd (upd (upd (fun _ => 0) 1 (N 7)) 2 (N 8)) 3 0 : Nat → Int32) 2 = nI w from n8)) (fun r hr => op r hr)
/-- behind an evaluation: what the view shows, up to the next one -/
theorem rd_12 (hW : SWf T FN S) (hM : MI 0 X g l B h τ) (hP : PSt T FN S C K e0 z0 x66 0 sd m τ) (hE : ErB τ) (hv : v < 8) (n6 : N 6 = nI v) (n7 : N 7 = nI a) (ha : a < 3 ∨ g a) (cont : ∀ (N' : Nat → Int32) (τ' : MS), PSt T FN S C K e0 z0 x66 0 sd m τ' → OR τ τ' → N' 6 = nI (v + 1) → (∀ j, 2 ≤ j → j ≤ 5 → N' j = N j) → Tm (fun k => x_round k 7 N' τ') Q) : Tm (fun k => x_round k 12 N τ) Q := by
  have ix : ¬ (nI v < 0 ∨ 8 ≤ (nI v).toNatClampNeg) := n_in (by omega) (by omega)
  refine Tm_suc (fun k => by rw [x_round]) ?_
  rw [n6]
  refine Tm_chk ix ?_
  rw [n_cl (p := v) (by omega)]
  show Tm (fun k => x_round k 13 N (mAr τ 39 v (vp_nar .boolean 1))) _
  obtain ⟨χ, hχ⟩ : ∃ χ, χ = mAr τ 39 v (vp_nar .boolean 1) := ⟨_, rfl⟩
  rw [← hχ]
  have cs : χ.1 = τ.1 := by rw [hχ]; rfl
  have cl : χ.2.1 = τ.2.1 := by rw [hχ]; rfl
  have cr : ∀ x, x ≠ 39 → χ.2.2 x = τ.2.2 x := fun x hx => by rw [hχ, mAr_o hx]
  have hMχ : MI 0 870000 g l B h χ := MI_vw hM (by rw [cs]) (by rw [cs]) (by rw [cs]) (by rw [cs]) (fun x hx => cr x (by omega)) (fun x i h1 h2 => Or.inl (by rw [cr x (by omega)]))
  have hPχ : PSt T FN S C K e0 z0 x66 0 sd m χ := PSt_sm hW ⟨fun j _ => by rw [cs], fun x hx => cr x (by omega), cl⟩ ⟨g, l, B, h, 870000, hMχ⟩ hP
  have hO : OR τ χ := ⟨fun j _ => by rw [cs], fun x hx => cr x (by omega), fun x i h1 h2 _ _ => by rw [cr x (by omega)], fun i _ => by rw [cr 12 (by omega)]⟩
  obtain ⟨w, w1, w2⟩ := hMχ.2.2.1 36 v (Or.inr (Or.inr (Or.inr (Or.inr (Or.inr (Or.inl ⟨rfl, hv⟩))))))
  -- from the end of the choice on
  have b17 : ∀ M : Nat → Int32, M 6 = nI v → M 7 = nI a → M 8 = nI w → (M 100 = 0 ∨ (g a ∧ g w ∧ kdN (χ.2.2 28) a = 6 ∧ kdN (χ.2.2 28) w = 6)) → (∀ j, 2 ≤ j → j ≤ 5 → M j = N j) → Tm (fun k => x_round k 17 M χ) Q := fun M m6 m7 m8 mB mj => by
    refine Tm_suc (fun k => by rw [x_round]) ?_
    show Tm (fun k => x_round k 18 (upd M 10 (M 100)) (mSc χ 59 0)) _
    have hMz : MI 0 870000 g l B h (mSc χ 59 0) := MI_c hMχ rfl rfl rfl rfl rfl
    have hPz : PSt T FN S C K e0 z0 x66 0 sd m (mSc χ 59 0) := PSt_sm (σ := χ) hW ⟨fun j hj => by show upd χ.1 59 0 j = _; rw [upd_other (by omega)], fun x hx => rfl, rfl⟩ ⟨g, l, B, h, 870000, hMz⟩ hPχ
    have hEz : ErB (mSc χ 59 0) := by
      obtain ⟨e, e1, e2⟩ := hE
      exact ⟨e, by show χ.1 56 = _; rw [cs]; exact e1, e2⟩
    have hOz : OR χ (mSc χ 59 0) := ⟨fun j hj => by show upd χ.1 59 0 j = _; rw [upd_other (by omega)], fun _ _ => rfl, fun _ _ _ _ _ _ => rfl, fun _ _ => rfl⟩
    refine rd_18 hW hMz hPz rfl hEz hv m6 m7 ha m8 w2 mB (fun N' τ' c1 c2 c3 c4 => cont N' τ' c1 (OR_tr hO (OR_tr hOz c2)) c3 (fun j h1 h2 => ?_))
    rw [c4 j h1 h2, upd_other (by omega)]; exact mj j h1 h2
  have b16 : ∀ M : Nat → Int32, M 6 = nI v → M 7 = nI a → M 8 = nI w → (∀ j, 2 ≤ j → j ≤ 5 → M j = N j) → Tm (fun k => x_round k 16 M χ) Q := fun M m6 m7 m8 mj => by
    refine Tm_suc (fun k => by rw [x_round]) ?_
    exact b17 _ m6 m7 m8 (Or.inl rfl) (fun j h1 h2 => by rw [upd_other (by omega)]; exact mj j h1 h2)
  have b15 : ∀ M : Nat → Int32, M 6 = nI v → M 7 = nI a → M 8 = nI w → (∀ j, 2 ≤ j → j ≤ 5 → M j = N j) → Tm (fun k => x_round k 15 M χ) Q := fun M m6 m7 m8 mj => by
    refine Tm_suc (fun k => by rw [x_round]) ?_
    refine Tm_ob (s_kind hMχ.1 ha (show (upd (fun _ => 0) 1 (M 7) : Nat → Int32) 1 = nI a from m7)) (fun r1 hr1 => ?_)
    rw [hr1]
    have gd : ∀ x, (x < 3 ∨ g x) → kdN (χ.2.2 28) x = 6 → g x := fun x hx hk => by
      rcases hx with c | c
      · unfold kdN at hk
        by_cases c0 : x = 0
        · rw [if_pos c0] at hk; omega
        · rw [if_neg c0, if_pos c] at hk; omega
      · exact c
    have kb : ∀ x, (x < 3 ∨ g x) → kdN (χ.2.2 28) x < 2147483648 := fun x hx => by
      unfold kdN
      by_cases c0 : x = 0
      · rw [if_pos c0]; omega
      · rw [if_neg c0]
        by_cases c : x < 3
        · rw [if_pos c]; omega
        · rw [if_neg c]
          have := (χ.2.2 28 x).toInt_lt
          show (χ.2.2 28 x).toInt.toNat < 2147483648
          omega
    refine Tm_ite (fun z => ?_) (fun _ => ?_)
    · have za := (n_eq (q := 6) (kb a ha) (by decide)).mp z
      refine Tm_ob (s_kind hMχ.1 w2 (show (upd (fun _ => 0) 1 (M 8) : Nat → Int32) 1 = nI w from m8)) (fun r3 hr3 => ?_)
      rw [hr3]
      refine Tm_ite (fun z2 => ?_) (fun _ => ?_)
      · have zw := (n_eq (q := 6) (kb w w2) (by decide)).mp z2
        exact b17 _ m6 m7 m8 (Or.inr ⟨gd a ha za, gd w w2 zw, za, zw⟩) (fun j h1 h2 => by rw [upd_other (by omega), upd_other (by omega)]; exact mj j h1 h2)
      · exact b16 _ m6 m7 m8 (fun j h1 h2 => by rw [upd_other (by omega)]; exact mj j h1 h2)
    · exact b16 _ m6 m7 m8 (fun j h1 h2 => by rw [upd_other (by omega)]; exact mj j h1 h2)
  refine Tm_suc (fun k => by rw [x_round]) ?_
  rw [n6]
  refine Tm_chk ix ?_
  rw [n_cl (p := v) (by omega), w1]
  refine Tm_ob (s_compareV hMχ.1 ha w2 (show (upd (upd (fun _ => 0) 1 (N 7)) 2 (nI w) : Nat → Int32) 1 = nI a from n7) rfl) (fun r2 hr2 => ?_)
  rw [hr2]
  refine Tm_ite (fun _ => ?_) (fun _ => ?_)
  · refine Tm_suc (fun k => by rw [x_round]) ?_
    exact b15 _ n6 n7 rfl (fun j h1 h2 => by rw [upd_other (by omega), upd_other (by omega)])
  · exact b15 _ n6 n7 rfl (fun j h1 h2 => by rw [upd_other (by omega), upd_other (by omega)])
end RDT
end JnS297
section JnS298
/-! A kept text becomes the tape again (reference). -/
def LdF (σ : MS) (U : Nat → Int32) (n : Nat) (ω : MS) : Prop := ω.1 4 = nI n ∧ (∀ j, j ≠ 4 → ω.1 j = σ.1 j) ∧ ω.2.1 = σ.2.1 ∧ (∀ a, a ≠ 3 → ω.2.2 a = σ.2.2 a) ∧ ∀ i, i < n → ω.2.2 3 i = U i
section LDS
variable {σ : MS} {n p : Nat} {L : Nat → Int32}
theorem s_load53 (hn : n ≤ 32768) (hp : p + n ≤ 32768) (l2 : L 2 = nI p) (l3 : L 3 = nI n) : Tm (fun k => x_load__53 k 0 L σ) (fun r => LdF σ (fun i => σ.2.2 53 (p + i)) n r.2) := by
  refine Tm_suc (fun k => by rw [x_load__53]) ?_
  have lp : ∀ (d i : Nat) (N : Nat → Int32) (υ : MS), d + i = n → N 2 = nI p → N 3 = nI n → N 4 = nI i → υ.1 = σ.1 → υ.2.1 = σ.2.1 → (∀ a, a ≠ 3 → υ.2.2 a = σ.2.2 a) → (∀ k, k < i → υ.2.2 3 k = σ.2.2 53 (p + k)) → Tm (fun k => x_load__53 k 1 N υ) (fun r => LdF σ (fun i => σ.2.2 53 (p + i)) n r.2) := by
    intro d
    induction d with
    | zero =>
      intro i N υ hi n2 n3 n4 us ul ur uc
      refine Tm_suc (fun k => by rw [x_load__53]) ?_
      rw [n3, n4]
      refine Tm_ite (fun _ => ?_) (fun z => absurd ((n_le (by omega) (by omega)).mpr (by omega)) z)
      refine Tm_suc (fun k => by rw [x_load__53]) ?_
      rw [n3]
      refine Tm_some ⟨rfl, fun j hj => ?_, ul, ur, fun k hk => uc k (by omega)⟩
      show upd υ.1 4 (nI n) j = _
      rw [upd_other hj, us]
    | succ d ih =>
      intro i N υ hi n2 n3 n4 us ul ur uc
      refine Tm_suc (fun k => by rw [x_load__53]) ?_
      rw [n2, n3, n4, n_add (p := p) (by omega)]
      refine Tm_ite (fun z => absurd ((n_le (by omega) (by omega)).mp z) (by omega)) (fun _ => ?_)
      refine Tm_chk (n_in (by omega) (by omega)) ?_
      refine Tm_chk (n_in (by omega) (by omega)) ?_
      rw [n_cl (p := i) (by omega), n_cl (p := p + i) (by omega)]
      show Tm (fun k => x_load__53 k 2 N (mAr υ 3 i (υ.2.2 53 (p + i)))) _
      refine Tm_suc (fun k => by rw [x_load__53]) ?_
      rw [n4, n_add1]
      refine ih (i + 1) _ _ (by omega) n2 n3 rfl us ul (fun a h => (mAr_o h).trans (ur a h)) (fun k hk => ?_)
      rw [mAr_s]
      by_cases e : k = i
      · rw [e, upd_same, ur 53 (by decide)]
      · rw [upd_other e]; exact uc k (by omega)
  exact lp n 0 _ σ (by omega) l2 l3 rfl rfl rfl (fun _ _ => rfl) (fun k hk => absurd hk (Nat.not_lt_zero k))
theorem s_load54 (hn : n ≤ 32768) (hp : p + n ≤ 262144) (l2 : L 2 = nI p) (l3 : L 3 = nI n) : Tm (fun k => x_load__54 k 0 L σ) (fun r => LdF σ (fun i => σ.2.2 54 (p + i)) n r.2) := by
  refine Tm_suc (fun k => by rw [x_load__54]) ?_
  have lp : ∀ (d i : Nat) (N : Nat → Int32) (υ : MS), d + i = n → N 2 = nI p → N 3 = nI n → N 4 = nI i → υ.1 = σ.1 → υ.2.1 = σ.2.1 → (∀ a, a ≠ 3 → υ.2.2 a = σ.2.2 a) → (∀ k, k < i → υ.2.2 3 k = σ.2.2 54 (p + k)) → Tm (fun k => x_load__54 k 1 N υ) (fun r => LdF σ (fun i => σ.2.2 54 (p + i)) n r.2) := by
    intro d
    induction d with
    | zero =>
      intro i N υ hi n2 n3 n4 us ul ur uc
      refine Tm_suc (fun k => by rw [x_load__54]) ?_
      rw [n3, n4]
      refine Tm_ite (fun _ => ?_) (fun z => absurd ((n_le (by omega) (by omega)).mpr (by omega)) z)
      refine Tm_suc (fun k => by rw [x_load__54]) ?_
      rw [n3]
      refine Tm_some ⟨rfl, fun j hj => ?_, ul, ur, fun k hk => uc k (by omega)⟩
      show upd υ.1 4 (nI n) j = _
      rw [upd_other hj, us]
    | succ d ih =>
      intro i N υ hi n2 n3 n4 us ul ur uc
      refine Tm_suc (fun k => by rw [x_load__54]) ?_
      rw [n2, n3, n4, n_add (p := p) (by omega)]
      refine Tm_ite (fun z => absurd ((n_le (by omega) (by omega)).mp z) (by omega)) (fun _ => ?_)
      refine Tm_chk (n_in (by omega) (by omega)) ?_
      refine Tm_chk (n_in (by omega) (by omega)) ?_
      rw [n_cl (p := i) (by omega), n_cl (p := p + i) (by omega)]
      show Tm (fun k => x_load__54 k 2 N (mAr υ 3 i (υ.2.2 54 (p + i)))) _
      refine Tm_suc (fun k => by rw [x_load__54]) ?_
      rw [n4, n_add1]
      refine ih (i + 1) _ _ (by omega) n2 n3 rfl us ul (fun a h => (mAr_o h).trans (ur a h)) (fun k hk => ?_)
      rw [mAr_s]
      by_cases e : k = i
      · rw [e, upd_same, ur 54 (by decide)]
      · rw [upd_other e]; exact uc k (by omega)
  exact lp n 0 _ σ (by omega) l2 l3 rfl rfl rfl (fun _ _ => rfl) (fun k hk => absurd hk (Nat.not_lt_zero k))
theorem s_load56 (hn : n ≤ 32768) (hp : p + n ≤ 32768) (l2 : L 2 = nI p) (l3 : L 3 = nI n) : Tm (fun k => x_load__56 k 0 L σ) (fun r => LdF σ (fun i => σ.2.2 56 (p + i)) n r.2) := by
  refine Tm_suc (fun k => by rw [x_load__56]) ?_
  have lp : ∀ (d i : Nat) (N : Nat → Int32) (υ : MS), d + i = n → N 2 = nI p → N 3 = nI n → N 4 = nI i → υ.1 = σ.1 → υ.2.1 = σ.2.1 → (∀ a, a ≠ 3 → υ.2.2 a = σ.2.2 a) → (∀ k, k < i → υ.2.2 3 k = σ.2.2 56 (p + k)) → Tm (fun k => x_load__56 k 1 N υ) (fun r => LdF σ (fun i => σ.2.2 56 (p + i)) n r.2) := by
    intro d
    induction d with
    | zero =>
      intro i N υ hi n2 n3 n4 us ul ur uc
      refine Tm_suc (fun k => by rw [x_load__56]) ?_
      rw [n3, n4]
      refine Tm_ite (fun _ => ?_) (fun z => absurd ((n_le (by omega) (by omega)).mpr (by omega)) z)
      refine Tm_suc (fun k => by rw [x_load__56]) ?_
      rw [n3]
      refine Tm_some ⟨rfl, fun j hj => ?_, ul, ur, fun k hk => uc k (by omega)⟩
      show upd υ.1 4 (nI n) j = _
      rw [upd_other hj, us]
    | succ d ih =>
      intro i N υ hi n2 n3 n4 us ul ur uc
      refine Tm_suc (fun k => by rw [x_load__56]) ?_
      rw [n2, n3, n4, n_add (p := p) (by omega)]
      refine Tm_ite (fun z => absurd ((n_le (by omega) (by omega)).mp z) (by omega)) (fun _ => ?_)
      refine Tm_chk (n_in (by omega) (by omega)) ?_
      refine Tm_chk (n_in (by omega) (by omega)) ?_
      rw [n_cl (p := i) (by omega), n_cl (p := p + i) (by omega)]
      show Tm (fun k => x_load__56 k 2 N (mAr υ 3 i (υ.2.2 56 (p + i)))) _
      refine Tm_suc (fun k => by rw [x_load__56]) ?_
      rw [n4, n_add1]
      refine ih (i + 1) _ _ (by omega) n2 n3 rfl us ul (fun a h => (mAr_o h).trans (ur a h)) (fun k hk => ?_)
      rw [mAr_s]
      by_cases e : k = i
      · rw [e, upd_same, ur 56 (by decide)]
      · rw [upd_other e]; exact uc k (by omega)
  exact lp n 0 _ σ (by omega) l2 l3 rfl rfl rfl (fun _ _ => rfl) (fun k hk => absurd hk (Nat.not_lt_zero k))
end LDS
end JnS298
section JnS299
/-! A round (reference): one view. -/
section RDI
variable {T : Nat → Nat → Int32} {FN : Nat → Nat → Prop} {S : Nat → Nat → Nat → Nat → Prop} {gl : List Gn} {pr : Nat → Nat} {b : BT} {ns n : Nat} {χ : MS} {C K : Nat → Int32} {e0 z0 x66 : Int32} {sd : Int64} {m V v : Nat} {Q : Int32 × MS → Prop} {N : Nat → Int32}
theorem rd_it (pi : PrI T FN S gl pr b ns) (hP : PSt T FN S C K e0 z0 x66 0 sd m χ) (hg : PG gl pr b χ) (hV : VwO gl pr b χ) (h73 : χ.1 73 = nI V) (hvV : v < V) (hV8 : V ≤ 8) (n3 : N 3 = χ.1 22) (n4 : N 4 = χ.1 24) (n6 : N 6 = nI v) (cont : ∀ (N' : Nat → Int32) (τ' : MS), PSt T FN S C K e0 z0 x66 0 sd m τ' → OR χ τ' → N' 6 = nI (v + 1) → (∀ j, 2 ≤ j → j ≤ 5 → N' j = N j) → Tm (fun k => x_round k 7 N' τ') Q) : Tm (fun k => x_round k 7 N χ) Q := by
  obtain ⟨⟨hW, _, _⟩, _, ⟨_, _, e1, e2, e3⟩, _⟩ := id pi
  obtain ⟨V', v1, _, v3⟩ := hV
  have eV : V' = V := (n_eq (by omega) (by omega)).mp (v1.symm.trans h73)
  subst eV
  obtain ⟨nv, a1, a2, a3, f, t, a4⟩ := v3 v hvV
  refine Tm_suc (fun k => by rw [x_round]) ?_
  rw [h73, n6]
  refine Tm_ite (fun z => absurd ((n_le (by omega) (by omega)).mp z) (by omega)) (fun _ => ?_)
  refine Tm_chk (n_in (by omega) (by omega)) ?_
  rw [n_cl (p := v) (by omega), a1, show (32768 : Int32) * nI v = nI (32768 * v) from n_mulN 32768 v]
  refine Tm_ob (s_load54 (σ := χ) (p := 32768 * v) a2 (by omega) rfl rfl) (fun r3 hr3 => ?_)
  obtain ⟨d1, d2, d3, d4, d5⟩ := hr3
  -- the text is the tape
  obtain ⟨g0, l0, B0, h0, X0, hM0⟩ := hP.1.1
  have hM1 : MI 0 X0 g0 l0 B0 h0 r3.2 := MI_x hM0 (d2 54 (by decide)) (d2 55 (by decide)) (d2 63 (by decide)) (d2 72 (by decide)) (fun a h1 h2 => d4 a (by omega))
  have hP1 : PSt T FN S C K e0 z0 x66 0 sd m r3.2 := PSt_sm (σ := χ) hW ⟨fun j hj => d2 j (by omega), fun a ha => d4 a (by omega), d3⟩ ⟨g0, l0, B0, h0, X0, hM1⟩ hP
  have hO1 : OR χ r3.2 := ⟨fun j hj => d2 j (by omega), fun a ha => d4 a (by omega), fun a i h1 h2 _ _ => by rw [d4 a (by omega)], fun i _ => by rw [d4 12 (by decide)]⟩
  have hg1 : PG gl pr b r3.2 := PG_or hO1 (by omega) hg
  have hx : gX (r3.2.2.2 3) nv f (gl, [], [], 42, false, decide (0 = 1), pr) b = some (Sum.inr t) := by
    rw [gX_c (T' := fun i => χ.2.2 54 (32768 * v + i)) (fun i hi => d5 i hi)]
    exact a4
  have hxf : gX (r3.2.2.2 3) nv f (gl, [], [], 42, false, false, pr) b = some (Sum.inr t) := hx
  refine Tm_ob (p_readExp (dr := 0) (σ := r3.2) hx ⟨d1, a2⟩ rfl hg1 (by omega) rfl (by omega) (by omega)) (fun r4 hr4 => ?_)
  obtain ⟨fx, _, k10, k1, kB, k4, k5, k6⟩ := hr4
  obtain ⟨tr, l1, l2, l3, l4⟩ := rd_tree (dr := false) pi a2 (fun i hi => by rw [d5 i hi]; exact a3 i hi) hxf
  refine Tm_ob (rd_go (dr := false) (σ := r3.2) (σa := r3.2) (ρ := r4.2) (ρ1 := r4.2) pi hP1 (fun _ _ => rfl) rfl fx kB tr l1 l2 l3 l4 (fun _ _ => rfl) rfl (L := upd (fun _ => 0) 1 r4.1) k1) (fun r5 hr5 => ?_)
  obtain ⟨υ, q0, q1, q2, q3, q4, q5⟩ := hr5
  rw [q0, n3]
  show Tm (fun k => x_round k 8 N (mSc (mSc υ 69 0) 22 (χ.1 22))) _
  refine Tm_suc (fun k => by rw [x_round]) ?_
  rw [n4]
  show Tm (fun k => x_round k 9 N (mSc (mSc (mSc υ 69 0) 22 (χ.1 22)) 24 (χ.1 24))) _
  obtain ⟨τ, hτ⟩ : ∃ τ, τ = mSc (mSc (mSc υ 69 0) 22 (χ.1 22)) 24 (χ.1 24) := ⟨_, rfl⟩
  rw [← hτ]
  have ts : ∀ j, ¬ (j = 22 ∨ j = 24 ∨ j = 69) → τ.1 j = υ.1 j := fun j hj => by
    rw [hτ]
    show upd (upd (upd υ.1 69 0) 22 _) 24 _ j = _
    rw [upd_other (by omega), upd_other (by omega), upd_other (by omega)]
  have t22 : τ.1 22 = χ.1 22 := by rw [hτ]; rfl
  have t24 : τ.1 24 = χ.1 24 := by rw [hτ]; rfl
  have tr2 : τ.2 = υ.2 := by rw [hτ]; rfl
  obtain ⟨m1, m2⟩ := kv_m q5
  -- from the end of the evaluation on
  have go : ∀ (M : Nat → Int32) (ω : MS) (g : Nat → Prop) (l : List Nat) (B h X a : Nat), (∀ j, ¬ (j = 22 ∨ j = 24 ∨ j = 56 ∨ j = 59 ∨ j = 69) → ω.1 j = υ.1 j) → ω.2 = υ.2 → ω.1 22 = χ.1 22 → ω.1 24 = χ.1 24 → ω.1 56 = 0 → MI 0 X g l B h ω → (a < 3 ∨ g a) → M 6 = nI v → M 7 = nI a → (∀ j, 2 ≤ j → j ≤ 5 → M j = N j) → Tm (fun k => x_round k 12 M ω) Q := fun M ω g l B h X a ws w2 w22 w24 w56 hM ha m6 m7 mj => by
    have key := wk_end (σ := r3.2) (σa := r3.2) (ρ := r4.2) (ρ1 := r4.2) (υ := υ) (ω := ω) pi hP1 hg1 (fun _ _ => rfl) rfl fx (fun _ _ => rfl) rfl q1 q2 q5 q4.2 (fun j hj => ws j (by omega)) (fun a _ => by rw [w2]) (by rw [w2]) (w22.trans (d2 22 (by decide)).symm) (w24.trans (d2 24 (by decide)).symm) (by rw [w2, q4.1 rfl, fx.2.1]) ⟨g, l, B, h, X, hM⟩
    obtain ⟨kP, kO⟩ := key
    have hO2 : OR χ ω := by
      refine OR_tr hO1 ⟨fun j hj => ?_, fun a ha => ?_, kO.2.2.1, kO.2.2.2⟩
      · by_cases c : j = 120
        · rw [c, ws 120 (by omega), m1 120 (by omega), fx.1 120 (by decide)]
        · exact kO.1 j (by omega)
      · by_cases c : a = 56 ∨ a = 57
        · rw [w2, m2 a (by omega), fx.2.2.1 a (by omega)]
        · exact kO.2.1 a (by omega)
    exact rd_12 hW hM kP ⟨0, w56, by omega⟩ (by omega) m6 m7 ha (fun N' τ' c1 c2 c3 c4 => cont N' τ' c1 (OR_tr hO2 c2) c3 (fun j h1 h2 => (c4 j h1 h2).trans (mj j h1 h2)))
  refine Tm_suc (fun k => by rw [x_round]) ?_
  rcases q3 with ⟨w', q3⟩ | q3
  · obtain ⟨g1, l1', B1, h1, X1, _, _, _, _, _, mm, _, _, _, _, t1, er, _⟩ := q3
    refine Tm_ite (fun _ => ?_) (fun z => absurd (by rw [ts 56 (by omega), er]; decide) z)
    refine Tm_suc (fun k => by rw [x_round]) ?_
    refine Tm_ob (s_pop (u := 0) ((ts 59 (by omega)).trans t1) (by omega) _) (fun r6 hr6 => ?_)
    rw [hr6]
    obtain ⟨a, aa1, aa2⟩ := mm.2.2.1 29 0 (Or.inl ⟨rfl, by omega⟩)
    refine Tm_suc (fun k => by rw [x_round]) ?_
    show Tm (fun k => x_round k 12 (upd (upd N 100 (τ.2.2 29 0)) 7 (τ.2.2 29 0)) (mSc (mSc τ 59 (nI 0)) 56 0)) _
    have ws : ∀ j, ¬ (j = 22 ∨ j = 24 ∨ j = 56 ∨ j = 59 ∨ j = 69) → (mSc (mSc τ 59 (nI 0)) 56 0).1 j = υ.1 j := fun j hj => by
      show upd (upd τ.1 59 _) 56 0 j = _
      rw [upd_other (by omega), upd_other (by omega)]
      exact ts j (by omega)
    refine go _ _ g1 l1' B1 h1 X1 a ws tr2 t22 t24 rfl (MI_x (MI_mo mm (Nat.zero_le _)) (ws 54 (by omega)) (ws 55 (by omega)) (ws 63 (by omega)) (ws 72 (by omega)) (fun x _ _ => by show τ.2.2 x = _; rw [tr2])) aa2 n6 ?_ (fun j h1 h2 => ?_)
    · show τ.2.2 29 0 = nI a
      rw [tr2]; exact aa1
    · rw [upd_other (by omega), upd_other (by omega)]
  · obtain ⟨g1, l1', B1, h1, t', mm, t1, _, _, ne, ⟨e, ee, e11⟩, _⟩ := q3
    refine Tm_ite (fun z => absurd z ?_) (fun _ => ?_)
    · rw [ts 56 (by omega), ee]
      intro z
      have := (n_le (p := e) (q := 0) (by omega) (by decide)).mp z
      exact ne (by rw [ee, show e = 0 by omega]; rfl)
    refine Tm_suc (fun k => by rw [x_round]) ?_
    show Tm (fun k => x_round k 12 (upd (upd N 100 0) 7 0) (mSc τ 56 0)) _
    have ws : ∀ j, ¬ (j = 22 ∨ j = 24 ∨ j = 56 ∨ j = 59 ∨ j = 69) → (mSc τ 56 0).1 j = υ.1 j := fun j hj => by
      show upd τ.1 56 0 j = _
      rw [upd_other (by omega)]
      exact ts j (by omega)
    refine go _ _ g1 l1' B1 h1 870000 0 ws tr2 t22 t24 rfl (MI_x (MI_mo mm (Nat.zero_le _)) (ws 54 (by omega)) (ws 55 (by omega)) (ws 63 (by omega)) (ws 72 (by omega)) (fun x _ _ => by show τ.2.2 x = _; rw [tr2])) (Or.inl (by decide)) n6 rfl (fun j h1 h2 => ?_)
    rw [upd_other (by omega), upd_other (by omega)]
end RDI
end JnS299
section JnS300
/-! round, whole (reference). -/
section RDW
variable {T : Nat → Nat → Int32} {FN : Nat → Nat → Prop} {S : Nat → Nat → Nat → Nat → Prop} {gl : List Gn} {pr : Nat → Nat} {b : BT} {ns n : Nat} {Tp : Nat → Int32} {σ : MS} {C K : Nat → Int32} {e0 z0 x66 : Int32} {sd : Int64} {m : Nat} {L : Nat → Int32}
theorem s_roundN (h112 : σ.1 112 = 0) : Tm (fun k => x_round k 0 L σ) (fun r => r = (0, mSc σ 2 1)) := by
  refine Tm_suc (fun k => by rw [x_round]) ?_
  refine Tm_ite (fun _ => ?_) (fun z => absurd h112 z)
  refine Tm_suc (fun k => by rw [x_round]) ?_
  refine Tm_suc (fun k => by rw [x_round]) ?_
  refine Tm_ob (s_good _ _) (fun r hr => ?_)
  rw [hr]
  refine Tm_ite (fun _ => ?_) (fun v => absurd rfl v)
  exact Tm_some rfl
theorem s_round (pi : PrI T FN S gl pr b ns) (hP : PSt T FN S C K e0 z0 x66 0 sd m σ) (hg : PG gl pr b σ) (hTp : TpO Tp n σ) (hV : VwO gl pr b σ) (h112 : ¬ σ.1 112 = 0) : Tm (fun k => x_round k 0 L σ) (fun r => PSt T FN S C K e0 z0 x66 0 sd m r.2 ∧ PG gl pr b r.2 ∧ VwO gl pr b r.2 ∧ (∃ Tp', TpO Tp' n r.2 ∧ ∀ i, i < n → Tp' i = Tp i) ∧ (∀ j, j = 22 ∨ j = 24 ∨ j = 25 ∨ j = 31 ∨ j = 44 ∨ j = 73 ∨ j = 111 ∨ j = 112 ∨ j = 115 ∨ j = 120 → r.2.1 j = σ.1 j) ∧ (∀ a, a = 52 ∨ a = 53 ∨ a = 57 → r.2.2.2 a = σ.2.2 a)) := by
  obtain ⟨⟨hW, _, _⟩, _, ⟨_, _, e1, e2, e3⟩, _⟩ := id pi
  obtain ⟨⟨n1, n2⟩, tp3, tpb⟩ := hTp
  have hV0 := hV
  obtain ⟨V, v1, v2, v3⟩ := hV
  refine Tm_suc (fun k => by rw [x_round]) ?_
  refine Tm_ite (fun z => absurd z h112) (fun _ => ?_)
  refine Tm_suc (fun k => by rw [x_round]) ?_
  refine Tm_ob (s_good _ _) (fun r hr => ?_)
  rw [hr]
  refine Tm_ite (fun z => absurd (show (1 : Int32) = 0 from z) (by decide)) (fun _ => ?_)
  show Tm (fun k => x_round k 3 (upd L 100 0) (mSc σ 2 0)) _
  refine Tm_suc (fun k => by rw [x_round]) ?_
  rw [show (mSc σ 2 0).1 4 = nI n from n1]
  -- behind the copying
  have six : ∀ (N : Nat → Int32) (υ : MS), N 2 = nI n → υ.1 = (mSc σ 2 0).1 → υ.2.1 = σ.2.1 → (∀ a, a ≠ 56 → υ.2.2 a = σ.2.2 a) → (∀ k, k < n → υ.2.2 56 k = Tp k) → Tm (fun k => x_round k 6 N υ) (fun r => PSt T FN S C K e0 z0 x66 0 sd m r.2 ∧ PG gl pr b r.2 ∧ VwO gl pr b r.2 ∧ (∃ Tp', TpO Tp' n r.2 ∧ ∀ i, i < n → Tp' i = Tp i) ∧ (∀ j, j = 22 ∨ j = 24 ∨ j = 25 ∨ j = 31 ∨ j = 44 ∨ j = 73 ∨ j = 111 ∨ j = 112 ∨ j = 115 ∨ j = 120 → r.2.1 j = σ.1 j) ∧ (∀ a, a = 52 ∨ a = 53 ∨ a = 57 → r.2.2.2 a = σ.2.2 a)) := fun N υ n2' us ul ur uc => by
    have s : ∀ j, j ≠ 2 → υ.1 j = σ.1 j := fun j hj => by rw [us]; exact upd_other hj
    obtain ⟨g0, l0, B0, h0, X0, hM0⟩ := hP.1.1
    have hMu : MI 0 X0 g0 l0 B0 h0 υ := MI_x hM0 (s 54 (by decide)) (s 55 (by decide)) (s 63 (by decide)) (s 72 (by decide)) (fun a h1 h2 => ur a (by omega))
    have hPu : PSt T FN S C K e0 z0 x66 0 sd m υ := PSt_sm (σ := σ) hW ⟨fun j hj => s j (by omega), fun a ha => ur a (by omega), ul⟩ ⟨g0, l0, B0, h0, X0, hMu⟩ hP
    have hgu : PG gl pr b υ := by
      obtain ⟨p1, p2, ⟨g1, g2, g3⟩, p4⟩ := hg
      refine ⟨(ur 1 (by decide)).trans p1, PB_c (σ := σ) (s 22 (by decide)) (s 24 (by decide)) (fun j hj => ur j (by omega)) p2, ⟨(s 25 (by decide)).trans g1, g2, ?_⟩, ?_⟩
      · rw [ur 13 (by decide), ur 14 (by decide), ur 15 (by decide), ur 16 (by decide)]; exact g3
      · rw [ur 18 (by decide)]; exact p4
    have hVu : VwO gl pr b υ := VwO_c (σ := σ) (s 73 (by decide)) (ur 54 (by decide)) (ur 55 (by decide)) hV0
    have u73 : υ.1 73 = nI V := (s 73 (by decide)).trans v1
    have lp : ∀ (d v : Nat) (M : Nat → Int32) (χ : MS), d + v = V → PSt T FN S C K e0 z0 x66 0 sd m χ → OR υ χ → M 2 = nI n → M 3 = υ.1 22 → M 4 = υ.1 24 → M 6 = nI v → Tm (fun k => x_round k 7 M χ) (fun r => PSt T FN S C K e0 z0 x66 0 sd m r.2 ∧ PG gl pr b r.2 ∧ VwO gl pr b r.2 ∧ (∃ Tp', TpO Tp' n r.2 ∧ ∀ i, i < n → Tp' i = Tp i) ∧ (∀ j, j = 22 ∨ j = 24 ∨ j = 25 ∨ j = 31 ∨ j = 44 ∨ j = 73 ∨ j = 111 ∨ j = 112 ∨ j = 115 ∨ j = 120 → r.2.1 j = σ.1 j) ∧ (∀ a, a = 52 ∨ a = 53 ∨ a = 57 → r.2.2.2 a = σ.2.2 a)) := by
      intro d
      induction d with
      | zero =>
        intro v M χ hd hPc hO m2 m3 m4 m6
        have c73 : χ.1 73 = nI V := (hO.1 73 (by omega)).trans u73
        refine Tm_suc (fun k => by rw [x_round]) ?_
        rw [c73, m6]
        refine Tm_ite (fun _ => ?_) (fun z => absurd ((n_le (by omega) (by omega)).mpr (by omega)) z)
        refine Tm_suc (fun k => by rw [x_round]) ?_
        refine Tm_ob (s_load56 (σ := χ) (n := n) (p := 0) n2 (by omega) rfl (show (upd (upd (fun _ => 0) 2 0) 3 (M 2) : Nat → Int32) 3 = nI n from m2)) (fun r1 hr1 => ?_)
        obtain ⟨d1, d2, d3, d4, d5⟩ := hr1
        show Tm (fun k => x_round k 31 M (mSc r1.2 11 (M 5))) _
        refine Tm_suc (fun k => by rw [x_round]) ?_
        have ws : ∀ j, ¬ (j = 4 ∨ j = 11) → (mSc r1.2 11 (M 5)).1 j = χ.1 j := fun j hj => by
          show upd r1.2.1 11 _ j = _
          rw [upd_other (by omega)]; exact d2 j (by omega)
        obtain ⟨g1, l1, B1, h1, X1, hM1⟩ := hPc.1.1
        have hgc := PG_or hO (by omega) hgu
        have t3 : ∀ i, i < n → (mSc r1.2 11 (M 5)).2.2 3 i = Tp i := fun i hi => by
          show r1.2.2.2 3 i = _
          rw [d5 i hi]
          show χ.2.2 56 (0 + i) = _
          rw [hO.2.1 56 (by omega), Nat.zero_add]; exact uc i hi
        refine Tm_some ⟨PSt_sm (σ := χ) hW ⟨fun j hj => ws j (by omega), fun a ha => d4 a (by omega), d3⟩ ⟨g1, l1, B1, h1, X1, MI_x hM1 (ws 54 (by omega)) (ws 55 (by omega)) (ws 63 (by omega)) (ws 72 (by omega)) (fun a h1 h2 => d4 a (by omega))⟩ hPc, PG_or (σ := χ) ⟨fun j hj => ws j (by omega), fun a ha => d4 a (by omega), fun a i h1 h2 _ _ => by show r1.2.2.2 a i = _; rw [d4 a (by omega)], fun i _ => by show r1.2.2.2 12 i = _; rw [d4 12 (by decide)]⟩ (by omega) hgc, VwO_c (σ := χ) (ws 73 (by omega)) (d4 54 (by decide)) (d4 55 (by decide)) (VwO_or hO hVu), ⟨r1.2.2.2 3, ⟨⟨d1, n2⟩, rfl, fun i hi => ?_⟩, t3⟩, fun j hj => ?_, fun a ha => ?_⟩
        · obtain ⟨x, x1, x2⟩ := tpb i hi
          exact ⟨x, x1, (t3 i hi).trans x2⟩
        · exact (ws j (by omega)).trans ((hO.1 j (by omega)).trans (s j (by omega)))
        · exact (d4 a (by omega)).trans ((hO.2.1 a (by omega)).trans (ur a (by omega)))
      | succ d ih =>
        intro v M χ hd hPc hO m2 m3 m4 m6
        refine rd_it pi hPc (PG_or hO (by omega) hgu) (VwO_or hO hVu) ((hO.1 73 (by omega)).trans u73) (by omega) v2 (m3.trans (hO.1 22 (by omega)).symm) (m4.trans (hO.1 24 (by omega)).symm) m6 (fun N' τ' c1 c2 c3 c4 => ?_)
        exact ih (v + 1) N' τ' (by omega) c1 (OR_tr hO c2) ((c4 2 (by omega) (by omega)).trans m2) ((c4 3 (by omega) (by omega)).trans m3) ((c4 4 (by omega) (by omega)).trans m4) c3
    refine Tm_suc (fun k => by rw [x_round]) ?_
    exact lp V 0 _ υ (by omega) hPu OR_rf n2' rfl rfl rfl
  have cp : ∀ (d i : Nat) (N : Nat → Int32) (υ : MS), d + i = n → N 2 = nI n → N 3 = nI i → υ.1 = (mSc σ 2 0).1 → υ.2.1 = σ.2.1 → (∀ a, a ≠ 56 → υ.2.2 a = σ.2.2 a) → (∀ k, k < i → υ.2.2 56 k = Tp k) → Tm (fun k => x_round k 4 N υ) (fun r => PSt T FN S C K e0 z0 x66 0 sd m r.2 ∧ PG gl pr b r.2 ∧ VwO gl pr b r.2 ∧ (∃ Tp', TpO Tp' n r.2 ∧ ∀ i, i < n → Tp' i = Tp i) ∧ (∀ j, j = 22 ∨ j = 24 ∨ j = 25 ∨ j = 31 ∨ j = 44 ∨ j = 73 ∨ j = 111 ∨ j = 112 ∨ j = 115 ∨ j = 120 → r.2.1 j = σ.1 j) ∧ (∀ a, a = 52 ∨ a = 53 ∨ a = 57 → r.2.2.2 a = σ.2.2 a)) := by
    intro d
    induction d with
    | zero =>
      intro i N υ hi n2' n3' us ul ur uc
      refine Tm_suc (fun k => by rw [x_round]) ?_
      rw [n2', n3']
      refine Tm_ite (fun _ => ?_) (fun z => absurd ((n_le (by omega) (by omega)).mpr (by omega)) z)
      exact six N υ n2' us ul ur (fun k hk => uc k (by omega))
    | succ d ih =>
      intro i N υ hi n2' n3' us ul ur uc
      refine Tm_suc (fun k => by rw [x_round]) ?_
      rw [n2', n3']
      refine Tm_ite (fun z => absurd ((n_le (by omega) (by omega)).mp z) (by omega)) (fun _ => ?_)
      refine Tm_chk (n_in (by omega) (by omega)) ?_
      refine Tm_chk (n_in (by omega) (by omega)) ?_
      rw [n_cl (p := i) (by omega)]
      show Tm (fun k => x_round k 5 N (mAr υ 56 i (υ.2.2 3 i))) _
      refine Tm_suc (fun k => by rw [x_round]) ?_
      rw [n3', n_add1]
      refine ih (i + 1) _ _ (by omega) n2' rfl us ul (fun a h => (mAr_o h).trans (ur a h)) (fun k hk => ?_)
      rw [mAr_s]
      by_cases e : k = i
      · rw [e, upd_same, ur 3 (by decide), tp3]
      · rw [upd_other e]; exact uc k (by omega)
  exact cp n 0 _ (mSc σ 2 0) (by omega) rfl rfl rfl rfl (fun _ _ => rfl) (fun k hk => absurd hk (Nat.not_lt_zero k))
end RDW
end JnS300
section JnS301
/-! Calls that ask alone (reference): fault, count, shape, shown, order. -/
section ASK
variable {σ : MS} {L : Nat → Int32} {X B h : Nat} {g : Nat → Prop} {l : List Nat}
theorem s_fault_ : Tm (fun k => x_fault_ k 0 L σ) (fun r => r = (σ.1 11, mSc σ 2 0)) := by
  refine Tm_suc (fun k => by rw [x_fault_]) ?_
  refine Tm_suc (fun k => by rw [x_fault_]) ?_
  exact Tm_some rfl
theorem s_count : Tm (fun k => x_count k 0 L σ) (fun r => ∃ c, r.2 = mSc σ 2 c) := by
  have no : ∀ N : Nat → Int32, Tm (fun k => x_count k 1 N σ) (fun r => ∃ c, r.2 = mSc σ 2 c) := fun N => by
    refine Tm_suc (fun k => by rw [x_count]) ?_
    refine Tm_suc (fun k => by rw [x_count]) ?_
    refine Tm_ob (s_good _ _) (fun r hr => ?_)
    rw [hr]
    refine Tm_ite (fun _ => ?_) (fun v => absurd rfl v)
    exact Tm_some ⟨1, rfl⟩
  have e8 : ∀ (N : Nat → Int32) (b : Nat), b = 8 ∨ b = 11 ∨ b = 14 → Tm (fun k => x_count k b N (mSc σ 2 0)) (fun r => ∃ c, r.2 = mSc σ 2 c) := fun N b hb => by
    rcases hb with rfl | rfl | rfl
    · exact Tm_suc (fun k => by rw [x_count]) (Tm_some ⟨0, rfl⟩)
    · exact Tm_suc (fun k => by rw [x_count]) (Tm_some ⟨0, rfl⟩)
    · exact Tm_suc (fun k => by rw [x_count]) (Tm_some ⟨0, rfl⟩)
  have yes : ∀ N : Nat → Int32, Tm (fun k => x_count k 2 N σ) (fun r => ∃ c, r.2 = mSc σ 2 c) := fun N => by
    refine Tm_suc (fun k => by rw [x_count]) ?_
    refine Tm_suc (fun k => by rw [x_count]) ?_
    refine Tm_ob (s_good _ _) (fun r hr => ?_)
    rw [hr]
    refine Tm_ite (fun z => absurd (show (1 : Int32) = 0 from z) (by decide)) (fun _ => ?_)
    show Tm (fun k => x_count k 4 (upd N 100 0) (mSc σ 2 0)) _
    refine Tm_suc (fun k => by rw [x_count]) ?_
    refine Tm_ite (fun _ => ?_) (fun _ => ?_)
    · exact Tm_suc (fun k => by rw [x_count]) (Tm_some ⟨0, rfl⟩)
    refine Tm_ite (fun _ => ?_) (fun _ => ?_)
    · refine Tm_suc (fun k => by rw [x_count]) ?_
      refine Tm_ite (fun _ => ?_) (fun _ => e8 _ 8 (by omega))
      exact Tm_suc (fun k => by rw [x_count]) (e8 _ 8 (by omega))
    refine Tm_ite (fun _ => ?_) (fun _ => ?_)
    · refine Tm_suc (fun k => by rw [x_count]) ?_
      refine Tm_ite (fun _ => ?_) (fun _ => ?_)
      · exact Tm_suc (fun k => by rw [x_count]) (e8 _ 11 (by omega))
      · exact Tm_chk (by decide) (e8 _ 11 (by omega))
    refine Tm_ite (fun _ => ?_) (fun _ => ?_)
    · refine Tm_suc (fun k => by rw [x_count]) ?_
      refine Tm_ite (fun _ => ?_) (fun _ => e8 _ 14 (by omega))
      exact Tm_suc (fun k => by rw [x_count]) (e8 _ 14 (by omega))
    · exact Tm_suc (fun k => by rw [x_count]) (Tm_some ⟨0, rfl⟩)
  refine Tm_suc (fun k => by rw [x_count]) ?_
  exact Tm_ite (fun _ => no L) (fun _ => Tm_ite (fun _ => yes L) (fun _ => no L))
theorem s_shown (h120 : ∃ q, σ.1 120 = nI q ∧ q ≤ 12000) : Tm (fun k => x_shown k 0 L σ) (fun r => ∃ c, r.2 = mSc σ 2 c) := by
  have no : ∀ N : Nat → Int32, Tm (fun k => x_shown k 1 N σ) (fun r => ∃ c, r.2 = mSc σ 2 c) := fun N => by
    refine Tm_suc (fun k => by rw [x_shown]) ?_
    refine Tm_suc (fun k => by rw [x_shown]) ?_
    refine Tm_ob (s_good _ _) (fun r hr => ?_)
    rw [hr]
    refine Tm_ite (fun _ => ?_) (fun v => absurd rfl v)
    refine Tm_suc (fun k => by rw [x_shown]) ?_
    exact Tm_suc (fun k => by rw [x_shown]) (Tm_some ⟨1, rfl⟩)
  obtain ⟨q, q1, q2⟩ := h120
  refine Tm_suc (fun k => by rw [x_shown]) ?_
  refine Tm_ite (fun _ => no L) (fun z1 => Tm_ite (fun z2 => ?_) (fun _ => no L))
  rw [q1] at z2
  refine Tm_suc (fun k => by rw [x_shown]) ?_
  refine Tm_suc (fun k => by rw [x_shown]) ?_
  refine Tm_ob (s_good _ _) (fun r hr => ?_)
  rw [hr]
  refine Tm_ite (fun z => absurd (show (1 : Int32) = 0 from z) (by decide)) (fun _ => ?_)
  have hl : ¬ (L 1 < 0 ∨ 12000 ≤ (L 1).toNatClampNeg) := by
    have h0 : 0 ≤ (L 1).toInt := by
      rw [i_lt] at z1
      have z : (0 : Int32).toInt = 0 := rfl
      omega
    obtain ⟨p, hp, hp2⟩ : ∃ p, L 1 = nI p ∧ p < 2147483648 := ⟨(L 1).toInt.toNat, n_ofpos h0, by have := (L 1).toInt_lt; omega⟩
    rw [hp] at z2 ⊢
    have := (n_lt (by omega) (by omega)).mp z2
    exact n_in (by omega) (by omega)
  refine Tm_chk hl ?_
  exact Tm_suc (fun k => by rw [x_shown]) (Tm_some ⟨0, rfl⟩)
theorem s_order (hM : MI 0 X g l B h σ) : Tm (fun k => x_order k 0 L σ) (fun r => r.2 = mSc σ 2 0) := by
  refine Tm_suc (fun k => by rw [x_order]) ?_
  show Tm (fun k => x_order k 1 L (mSc σ 2 0)) _
  have hS : HS g l B h (mSc σ 2 0) := HS_c hM.1 rfl rfl rfl
  have v : ∀ i, i < 2 → Vd g (σ.2.2 40 i) := fun i hi => hM.2.2.1 40 i (Or.inr (Or.inr (Or.inr (Or.inr (Or.inr (Or.inr (Or.inr (Or.inr ⟨rfl, hi⟩))))))))
  obtain ⟨a, a1, a2⟩ := v 0 (by decide)
  obtain ⟨b, b1, b2⟩ := v 1 (by decide)
  have e5 : ∀ N : Nat → Int32, Tm (fun k => x_order k 5 N (mSc σ 2 0)) (fun r => r.2 = mSc σ 2 0) := fun N => Tm_suc (fun k => by rw [x_order]) (Tm_some rfl)
  refine Tm_suc (fun k => by rw [x_order]) ?_
  refine Tm_ite (fun _ => ?_) (fun _ => Tm_some rfl)
  refine Tm_suc (fun k => by rw [x_order]) ?_
  refine Tm_chk (by decide) ?_
  refine Tm_chk (by decide) ?_
  rw [show (0 : Int32).toNatClampNeg = 0 from by decide, show (1 : Int32).toNatClampNeg = 1 from by decide]
  refine Tm_ob (s_compareV hS a2 b2 a1 b1) (fun r3 hr3 => ?_)
  rw [hr3]
  refine Tm_ite (fun _ => ?_) (fun _ => e5 _)
  refine Tm_suc (fun k => by rw [x_order]) ?_
  refine Tm_ite (fun _ => ?_) (fun _ => e5 _)
  exact Tm_suc (fun k => by rw [x_order]) (e5 _)
theorem s_shape (hM : MI 0 X g l B h σ) : Tm (fun k => x_shape k 0 L σ) (fun r => ∃ c, r.2 = mSc σ 2 c) := by
  have no : ∀ N : Nat → Int32, Tm (fun k => x_shape k 1 N σ) (fun r => ∃ c, r.2 = mSc σ 2 c) := fun N => by
    refine Tm_suc (fun k => by rw [x_shape]) ?_
    refine Tm_suc (fun k => by rw [x_shape]) ?_
    refine Tm_ob (s_good _ _) (fun r hr => ?_)
    rw [hr]
    refine Tm_ite (fun _ => ?_) (fun v => absurd rfl v)
    exact Tm_some ⟨1, rfl⟩
  have hS : HS g l B h (mSc σ 2 0) := HS_c hM.1 rfl rfl rfl
  obtain ⟨a, a1, a2⟩ := hM.2.2.1 40 0 (Or.inr (Or.inr (Or.inr (Or.inr (Or.inr (Or.inr (Or.inr (Or.inr ⟨rfl, by omega⟩))))))))
  have ab := HS_vb hS a2
  have e10 : ∀ N : Nat → Int32, Tm (fun k => x_shape k 10 N (mSc σ 2 0)) (fun r => ∃ c, r.2 = mSc σ 2 c) := fun N => Tm_suc (fun k => by rw [x_shape]) (Tm_some ⟨0, rfl⟩)
  refine Tm_suc (fun k => by rw [x_shape]) ?_
  refine Tm_ite (fun _ => no L) (fun _ => Tm_ite (fun _ => ?_) (fun _ => no L))
  refine Tm_suc (fun k => by rw [x_shape]) ?_
  refine Tm_suc (fun k => by rw [x_shape]) ?_
  refine Tm_ob (s_good _ _) (fun r hr => ?_)
  rw [hr]
  refine Tm_ite (fun z => absurd (show (1 : Int32) = 0 from z) (by decide)) (fun _ => ?_)
  show Tm (fun k => x_shape k 4 (upd L 100 0) (mSc σ 2 0)) _
  refine Tm_suc (fun k => by rw [x_shape]) ?_
  refine Tm_ite (fun _ => Tm_some ⟨0, rfl⟩) (fun _ => ?_)
  refine Tm_suc (fun k => by rw [x_shape]) ?_
  refine Tm_ite (fun _ => Tm_some ⟨0, rfl⟩) (fun _ => ?_)
  refine Tm_suc (fun k => by rw [x_shape]) ?_
  refine Tm_chk (by decide) ?_
  rw [show (0 : Int32).toNatClampNeg = 0 from by decide]
  have e0 : (mSc σ 2 0).2.2 40 0 = nI a := a1
  rw [e0]
  refine Tm_ob (s_kind hS a2 rfl) (fun r2 hr2 => ?_)
  rw [hr2]
  refine Tm_ite (fun _ => e10 _) (fun _ => ?_)
  refine Tm_suc (fun k => by rw [x_shape]) ?_
  refine Tm_ite (fun _ => ?_) (fun _ => ?_)
  · refine Tm_ob (s_size hS a2 rfl) (fun r3 hr3 => ?_)
    rw [hr3]
    exact e10 _
  · refine Tm_suc (fun k => by rw [x_shape]) ?_
    refine Tm_ite (fun _ => ?_) (fun z => ?_)
    · exact Tm_suc (fun k => by rw [x_shape]) (e10 _)
    · refine Tm_chk ?_ (e10 _)
      show ¬ (nI a + 1 < 0 ∨ 1740000 ≤ (nI a + 1).toNatClampNeg)
      rw [n_add1]
      refine n_in (by omega) ?_
      have z : ¬ nI (kdN ((mSc σ 2 0).2.2 28) a) < 4 := z
      rcases a2 with c | c
      · exfalso
        apply z
        unfold kdN
        by_cases c0 : a = 0
        · rw [if_pos c0]; decide
        · rw [if_neg c0, if_pos c]; decide
      · obtain ⟨k, n', s, hh, go, b1, b2⟩ := HS_at hS c
        have h1 := hS.2.1
        have h2 := hS.2.2.2.1
        omega
end ASK
end JnS301
section JnS302
/-! A value of the run, of a view, is shown (reference): value, seen. -/
section VSN
variable {T : Nat → Nat → Int32} {FN : Nat → Nat → Prop} {S : Nat → Nat → Nat → Nat → Prop} {gl : List Gn} {pr : Nat → Nat} {b : BT} {ns n : Nat} {Tp : Nat → Int32} {σ τ ω : MS} {C K : Nat → Int32} {e0 z0 x66 : Int32} {sd : Int64} {m : Nat} {L : Nat → Int32} {X B h : Nat} {g : Nat → Prop} {l : List Nat}
/-- a value is shown: values stay -/
theorem MI_sf {v : Int32} (hM : MI 0 X g l B h σ) (hv : Vd g v) (hs : ShF σ v ω) : MI 0 870000 g l B h ω := by
  obtain ⟨f1, f2, f3, f4, f5, f6, f7⟩ := hs
  refine MI_sh hM (f1 54 (by decide)) (f1 55 (by decide)) (f1 63 (by decide)) (f1 72 (by decide)) (fun a h1 h2 => f3 a (by omega)) (by rw [f4]; exact hv) (by rw [f5]; exact hM.2.2.1 40 0 (Or.inr (Or.inr (Or.inr (Or.inr (Or.inr (Or.inr (Or.inr (Or.inr ⟨rfl, by omega⟩)))))))))
theorem SmR_sf {v : Int32} (hs : ShF σ v ω) : SmR σ ω := ⟨fun j hj => hs.1 j (by omega), fun a ha => hs.2.2.1 a (by omega), hs.2.1⟩
/-- seen: refused, or a value of a view is shown -/
theorem s_seen (hM : MI 0 X g l B h σ) (h73 : ∃ V, σ.1 73 = nI V ∧ V ≤ 8) : Tm (fun k => x_seen k 0 L σ) (fun r => (∃ c, r.2 = mSc σ 2 c) ∨ ∃ v, Vd g v ∧ ShF (mSc σ 2 0) v r.2) := by
  obtain ⟨V, v1, v2⟩ := h73
  have no : ∀ (N : Nat → Int32) (c : Int32), c = 1 ∨ c = 2 → N 100 = c → Tm (fun k => x_seen k 4 N σ) (fun r => (∃ c, r.2 = mSc σ 2 c) ∨ ∃ v, Vd g v ∧ ShF (mSc σ 2 0) v r.2) := fun N c hc hN => by
    refine Tm_suc (fun k => by rw [x_seen]) ?_
    rw [hN]
    refine Tm_ob (s_good _ _) (fun r hr => ?_)
    rw [hr]
    rcases hc with rfl | rfl
    · refine Tm_ite (fun _ => ?_) (fun v => absurd rfl v)
      exact Tm_some (Or.inl ⟨1, rfl⟩)
    · refine Tm_ite (fun _ => ?_) (fun v => absurd rfl v)
      exact Tm_some (Or.inl ⟨2, rfl⟩)
  have no1 : ∀ N : Nat → Int32, Tm (fun k => x_seen k 1 N σ) (fun r => (∃ c, r.2 = mSc σ 2 c) ∨ ∃ v, Vd g v ∧ ShF (mSc σ 2 0) v r.2) := fun N => Tm_suc (fun k => by rw [x_seen]) (no _ 1 (Or.inl rfl) rfl)
  refine Tm_suc (fun k => by rw [x_seen]) ?_
  refine Tm_ite (fun _ => no1 L) (fun z1 => Tm_ite (fun _ => no1 L) (fun z2 => Tm_ite (fun _ => no1 L) (fun z3 => Tm_ite (fun _ => ?_) (fun _ => no1 L))))
  have hl : ∃ p, L 1 = nI p ∧ p < 8 := by
    have h0 : 0 ≤ (L 1).toInt := by
      rw [i_lt] at z1
      have z : (0 : Int32).toInt = 0 := rfl
      omega
    obtain ⟨p, hp, hp2⟩ : ∃ p, L 1 = nI p ∧ p < 2147483648 := ⟨(L 1).toInt.toNat, n_ofpos h0, by have := (L 1).toInt_lt; omega⟩
    refine ⟨p, hp, ?_⟩
    rw [v1, hp] at z2
    have : ¬ V ≤ p := fun q => z2 ((n_le (by omega) (by omega)).mpr q)
    omega
  obtain ⟨p, hp, p8⟩ := hl
  have ix : ¬ (nI p < 0 ∨ 8 ≤ (nI p).toNatClampNeg) := n_in (by omega) (by omega)
  have hMz : MI 0 X g l B h (mSc σ 2 0) := MI_c hM rfl rfl rfl rfl rfl
  have rt : ∀ a, a = 36 ∨ a = 37 ∨ a = 38 → Vd g (σ.2.2 a p) := fun a ha => by
    rcases ha with rfl | rfl | rfl
    · exact hM.2.2.1 36 p (Or.inr (Or.inr (Or.inr (Or.inr (Or.inr (Or.inl ⟨rfl, p8⟩))))))
    · exact hM.2.2.1 37 p (Or.inr (Or.inr (Or.inr (Or.inr (Or.inr (Or.inr (Or.inl ⟨rfl, p8⟩)))))))
    · exact hM.2.2.1 38 p (Or.inr (Or.inr (Or.inr (Or.inr (Or.inr (Or.inr (Or.inr (Or.inl ⟨rfl, p8⟩))))))))
  have e8 : ∀ (N : Nat → Int32) (v : Int32), Vd g v → N 100 = v → Tm (fun k => x_seen k 8 N (mSc σ 2 0)) (fun r => (∃ c, r.2 = mSc σ 2 c) ∨ ∃ v, Vd g v ∧ ShF (mSc σ 2 0) v r.2) := fun N v hv hN => by
    obtain ⟨a, a1, a2⟩ := hv
    refine Tm_suc (fun k => by rw [x_seen]) ?_
    refine Tm_ob (s_show hMz.1 a2 (show (upd (fun _ => 0) 1 (N 100) : Nat → Int32) 1 = nI a from hN.trans a1)) (fun r hr => ?_)
    exact Tm_some (Or.inr ⟨nI a, ⟨a, rfl, a2⟩, hr⟩)
  refine Tm_suc (fun k => by rw [x_seen]) ?_
  rw [hp]
  refine Tm_chk ix ?_
  refine Tm_ite (fun _ => no _ 2 (Or.inr rfl) rfl) (fun _ => ?_)
  refine Tm_suc (fun k => by rw [x_seen]) ?_
  refine Tm_suc (fun k => by rw [x_seen]) ?_
  refine Tm_ob (s_good _ _) (fun r hr => ?_)
  rw [hr]
  refine Tm_ite (fun z => absurd (show (1 : Int32) = 0 from z) (by decide)) (fun _ => ?_)
  show Tm (fun k => x_seen k 5 (upd L 100 0) (mSc σ 2 0)) _
  have l1 : (upd L 100 0) 1 = nI p := hp
  refine Tm_suc (fun k => by rw [x_seen]) ?_
  rw [l1]
  refine Tm_ite (fun _ => Tm_chk ix ?_) (fun _ => ?_)
  · rw [n_cl (p := p) (by omega)]
    exact e8 _ _ (rt 36 (by omega)) rfl
  refine Tm_suc (fun k => by rw [x_seen]) ?_
  rw [l1]
  refine Tm_ite (fun _ => Tm_chk ix ?_) (fun _ => ?_)
  · rw [n_cl (p := p) (by omega)]
    exact e8 _ _ (rt 37 (by omega)) rfl
  refine Tm_suc (fun k => by rw [x_seen]) ?_
  rw [l1]
  refine Tm_chk ix ?_
  rw [n_cl (p := p) (by omega)]
  exact e8 _ _ (rt 38 (by omega)) rfl
theorem s_valueN (h112 : σ.1 112 = 0) : Tm (fun k => x_value k 0 L σ) (fun r => r = (0, mSc σ 2 1)) := by
  refine Tm_suc (fun k => by rw [x_value]) ?_
  refine Tm_ite (fun _ => ?_) (fun z => absurd h112 z)
  refine Tm_suc (fun k => by rw [x_value]) ?_
  refine Tm_suc (fun k => by rw [x_value]) ?_
  refine Tm_ob (s_good _ _) (fun r hr => ?_)
  rw [hr]
  refine Tm_ite (fun _ => ?_) (fun v => absurd rfl v)
  exact Tm_some rfl
/-- the state of value before anything is shown -/
def mVl (σ : MS) : MS := mSc (mSc (mSc σ 2 0) 8 0) 9 (σ.1 4)
theorem s_value (hM : MI 0 X g l B h σ) (hg : PG gl pr b σ) (hb : b.2.1 ≤ 70000) (hn : mN σ n) (h112 : ¬ σ.1 112 = 0) : Tm (fun k => x_value k 0 L σ) (fun r => r.2 = mSc (mVl σ) 2 2 ∨ ∃ v, Vd g v ∧ ShF (mSc (mVl σ) 4 0) v r.2) := by
  obtain ⟨_, _, ⟨g1, g2, g3⟩, _⟩ := hg
  refine Tm_suc (fun k => by rw [x_value]) ?_
  refine Tm_ite (fun z => absurd z h112) (fun _ => ?_)
  refine Tm_suc (fun k => by rw [x_value]) ?_
  refine Tm_ob (s_good _ _) (fun r hr => ?_)
  rw [hr]
  refine Tm_ite (fun z => absurd (show (1 : Int32) = 0 from z) (by decide)) (fun _ => ?_)
  refine Tm_suc (fun k => by rw [x_value]) ?_
  refine Tm_suc (fun k => by rw [x_value]) ?_
  show Tm (fun k => x_value k 5 (upd L 100 0) (mVl σ)) _
  refine Tm_suc (fun k => by rw [x_value]) ?_
  have s25 : (mVl σ).1 25 = nI gl.length := g1
  have s8 : (mVl σ).1 8 = nI 0 := rfl
  have s9 : (mVl σ).1 9 = nI n := hn.1
  have lp : ∀ (d i : Nat) (N : Nat → Int32), d + i = gl.length → N 1 = nI i → Tm (fun k => x_value k 6 N (mVl σ)) (fun r => r.2 = mSc (mVl σ) 2 2 ∨ ∃ v, Vd g v ∧ ShF (mSc (mVl σ) 4 0) v r.2) := by
    intro d
    induction d with
    | zero =>
      intro i N hd n1
      refine Tm_suc (fun k => by rw [x_value]) ?_
      rw [s25, n1]
      refine Tm_ite (fun _ => ?_) (fun z => absurd ((n_le (by omega) (by omega)).mpr (by omega)) z)
      refine Tm_suc (fun k => by rw [x_value]) ?_
      exact Tm_suc (fun k => by rw [x_value]) (Tm_some (Or.inl rfl))
    | succ d ih =>
      intro i N hd n1
      have ix : ¬ (nI i < 0 ∨ 200 ≤ (nI i).toNatClampNeg) := n_in (by omega) (by omega)
      have nx : Tm (fun k => x_value k 8 N (mVl σ)) (fun r => r.2 = mSc (mVl σ) 2 2 ∨ ∃ v, Vd g v ∧ ShF (mSc (mVl σ) 4 0) v r.2) := by
        refine Tm_suc (fun k => by rw [x_value]) ?_
        rw [n1, n_add1]
        exact ih (i + 1) _ (by omega) rfl
      obtain ⟨x, hx⟩ : ∃ x, gl[i]? = some x := ⟨gl[i]'(by omega), List.getElem?_eq_getElem (by omega)⟩
      obtain ⟨q1, q2, q3, q4, q5, q6, q7, q8, _⟩ := g3 i x hx
      refine Tm_suc (fun k => by rw [x_value]) ?_
      rw [s25, n1]
      refine Tm_ite (fun z => absurd ((n_le (by omega) (by omega)).mp z) (by omega)) (fun _ => ?_)
      refine Tm_chk ix ?_
      refine Tm_ite (fun _ => ?_) (fun _ => nx)
      refine Tm_chk ix ?_
      refine Tm_chk ix ?_
      rw [n_cl (p := i) (by omega), show (mVl σ).2.2 14 i = nI x.2.1 from q2, show (mVl σ).2.2 15 i = nI x.1.length from q3]
      refine Tm_ob (s_isNamed (σ := mVl σ) (f := 0) (e := n) s8 s9 (by omega) hn.2 (p := x.2.1) (l := x.1.length) (by omega) _ rfl rfl) (fun r6 hr6 => ?_)
      rw [hr6.1]
      refine Tm_ite (fun _ => nx) (fun _ => ?_)
      show Tm (fun k => x_value k 7 N (mSc (mVl σ) 4 0)) _
      refine Tm_suc (fun k => by rw [x_value]) ?_
      rw [n1]
      refine Tm_chk ix ?_
      rw [n_cl (p := i) (by omega), show (mSc (mVl σ) 4 0).2.2 16 i = nI x.2.2.2 from q4, show (4 : Int32) + nI x.2.2.2 = nI (4 + x.2.2.2) from n_add (p := 4) (by omega)]
      refine Tm_chk (n_in (by omega) (by omega)) ?_
      rw [n_cl (p := 4 + x.2.2.2) (by omega)]
      obtain ⟨a, a1, a2⟩ := hM.2.2.1 30 (4 + x.2.2.2) (Or.inr (Or.inl ⟨rfl, Or.inl ⟨by omega, by omega⟩⟩))
      have hS : HS g l B h (mSc (mVl σ) 4 0) := HS_c hM.1 rfl rfl rfl
      refine Tm_ob (s_show hS a2 (show (upd (fun _ => 0) 1 ((mSc (mVl σ) 4 0).2.2 30 (4 + x.2.2.2)) : Nat → Int32) 1 = nI a from a1)) (fun r hr => ?_)
      exact Tm_some (Or.inr ⟨nI a, ⟨a, rfl, a2⟩, hr⟩)
  exact lp gl.length 0 _ (by omega) rfl
end VSN
end JnS302
section JnS303
/-! What is read of a text: its bytes alone (statements). -/
section CGS
variable {T T' : Nat → Int32} {n : Nat}
theorem gTg_c (h : ∀ i, i < n → T i = T' i) : gTg T n = gTg T' n := by
  funext f E o q v b
  unfold gTg
  by_cases c : tkK T n q = 26
  · have c' : tkK T' n q = 26 := by rw [← tkK_c h]; exact c
    rw [if_pos c, if_pos c', tkS_c h (by omega), gT_c h, G_c h]
  · have c' : ¬ tkK T' n q = 26 := by rw [← tkK_c h]; exact c
    rw [if_neg c, if_neg c']
theorem GA_c (h : ∀ i, i < n → T i = T' i) (md : Nat → Nat) (np : Nat) (E : En) : ∀ f, GA T n md np E f = GA T' n md np E f := by
  intro f
  induction f with
  | zero => funext o q v i e c b; simp only [GA]
  | succ f ih =>
    funext o q v i e c b
    unfold GA
    rw [tkK_c h, gT_c h, G_c h, ih]
theorem GA_cc (h : ∀ i, i < n → T i = T' i) : GA T n = GA T' n := by
  funext md np E f
  exact GA_c h md np E f
theorem gCl_c (h : ∀ i, i < n → T i = T' i) : gCl T n = gCl T' n := by
  funext f md np p tg E o q v b
  unfold gCl
  rw [tkK_c h, gT_c h, gW_c h, GA_cc h]
theorem GPr_c (h : ∀ i, i < n → T i = T' i) (E : En) : ∀ f, GPr T n E f = GPr T' n E f := by
  intro f
  induction f with
  | zero => funext o q v e b; simp only [GPr]
  | succ f ih =>
    funext o q v e b
    unfold GPr
    rw [tkK_c h, gT_c h, G_c h, ih]
theorem gS13_c (h : ∀ i, i < n → T i = T' i) : gS13 T n = gS13 T' n := by
  funext q v e b
  unfold gS13
  rw [gW_c h]
theorem gSm0_c (h : ∀ i, i < n → T i = T' i) : gSm0 T n = gSm0 T' n := by
  funext f E o w q v b
  unfold gSm0
  rw [tkK_c h, gT_c h, gW_c h, G_c h, GPr_c h, gS13_c h]
theorem gSm_c (h : ∀ i, i < n → T i = T' i) : gSm T n = gSm T' n := by
  funext f lp E o q v b
  unfold gSm
  rw [tkK_c h, gT_c h, gSm0_c h]
theorem gHo_c (h : ∀ i, i < n → T i = T' i) : gHo T n = gHo T' n := by
  funext f E o q v b
  unfold gHo
  rw [tkK_c h, gT_c h, gTg_c h]
theorem GPt_c (h : ∀ i, i < n → T i = T' i) (E : En) : ∀ f, GPt T n E f = GPt T' n E f := by
  intro f
  induction f with
  | zero => funext o q v i e b; simp only [GPt]
  | succ f ih =>
    funext o q v i e b
    unfold GPt
    rw [tkK_c h, gT_c h, gHo_c h, ih]
theorem gPa_c (h : ∀ i, i < n → T i = T' i) : gPa T n = gPa T' n := by
  funext f E o q v b
  unfold gPa
  rw [gT_c h, gW_c h, G_c h, GPt_c h]
theorem gE13_c (h : ∀ i, i < n → T i = T' i) : gE13 T n = gE13 T' n := by
  funext f E o q v b a c z
  unfold gE13
  rw [gW_c h, G_c h]
theorem gCa_c (h : ∀ i, i < n → T i = T' i) {f : Nat} {MD : Nat → Nat → Nat} {tg : Int32} {E : En} {o q v : Nat} {b : BT} (hk : ¬ tkK T n q = 0) : gCa T n f MD tg E o q v b = gCa T' n f MD tg E o q v b := by
  unfold gCa
  rw [tkS_c h hk, gCl_c h]
theorem gAs_c (h : ∀ i, i < n → T i = T' i) : gAs T n = gAs T' n := by
  funext f MD E o i e q v b
  have kq : tkK T n q = tkK T' n q := by rw [tkK_c h]
  unfold gAs
  by_cases c : tkK T n q = 26
  · rw [gCa_c h (by omega), tkS_c h (by omega), kq, gT_c h, gW_c h, gE13_c h]
  · have c' : ¬ tkK T' n q = 26 := by rw [← kq]; exact c
    rw [if_neg (show ¬ (tkK T n q = 26 ∧ (fd E (tkS T n q)).1 = 3) from fun z => c z.1), if_neg (show ¬ (tkK T' n q = 26 ∧ (fd E (tkS T' n q)).1 = 3) from fun z => c' z.1), kq, gT_c h, gW_c h, gE13_c h]
theorem gBh_c (h : ∀ i, i < n → T i = T' i) : gBh T n = gBh T' n := by
  funext f MD E o i e q v b
  unfold gBh
  rw [tkK_c h, gT_c h, gW_c h, gE13_c h, gTg_c h, gAs_c h]
theorem gBg_c (h : ∀ i, i < n → T i = T' i) {f : Nat} {MD : Nat → Nat → Nat} {E : En} {o q v : Nat} {b : BT} (hk : ¬ tkK T n q = 0) : gBg T n f MD E o q v b = gBg T' n f MD E o q v b := by
  unfold gBg
  rw [tkS_c h hk, gCa_c h hk, gTg_c h, gBh_c h]
theorem hT_c (h : ∀ i, i < n → T i = T' i) : hT T n = hT T' n := by
  funext q k
  unfold hT
  rw [tkK_c h, tkN_c h]
theorem hW_c (h : ∀ i, i < n → T i = T' i) : hW T n = hW T' n := by
  funext t q k
  unfold hW
  rw [tkK_c h, hT_c h]
theorem hE_c (h : ∀ i, i < n → T i = T' i) : hE T n = hE T' n := by
  funext q k
  unfold hE
  rw [hW_c h]
theorem GS_c (h : ∀ i, i < n → T i = T' i) (MD : Nat → Nat → Nat) : ∀ f, GS T n MD f = GS T' n MD f := by
  intro f
  induction f with
  | zero => funext nt E lp o q v pe i l b s; simp only [GS]
  | succ f ih =>
    funext nt E lp o q v pe i l b s
    have kq : tkK T n q = tkK T' n q := by rw [tkK_c h]
    match nt with
    | 0 => simp only [GS]; rw [tkK_c h, ih]
    | 1 =>
      simp only [GS]
      by_cases c : tkK T n q = 26
      · rw [gBg_c h (by omega), tkK_c h, gPa_c h, gSm_c h, ih]
      · have c' : ¬ tkK T' n q = 26 := by rw [← kq]; exact c
        rw [if_neg c, if_neg c', tkK_c h, gPa_c h, gSm_c h, ih]
    | 2 => simp only [GS]; rw [tkK_c h, hT_c h, hE_c h, ih]
    | 3 => simp only [GS]; rw [tkK_c h, hT_c h, hW_c h, G_c h, ih]
    | 4 => simp only [GS]; rw [hT_c h, hW_c h, hE_c h, G_c h, ih]
    | 5 => simp only [GS]; rw [tkK_c h, hT_c h, hW_c h, hE_c h, G_c h, ih]
    | _ + 6 => simp only [GS]
theorem pT_c {β : Type} (h : ∀ i, i < n → T i = T' i) : pT (β := β) T n = pT T' n := by
  funext q k
  unfold pT
  rw [tkK_c h, tkN_c h]
theorem pW_c {β : Type} (h : ∀ i, i < n → T i = T' i) : pW (β := β) T n = pW T' n := by
  funext t q k
  unfold pW
  rw [tkK_c h, pT_c h]
theorem tvF_c (h : ∀ i, i < n → T i = T' i) : tvF T n = tvF T' n := by
  funext E q v
  have kq : tkK T n q = tkK T' n q := by rw [tkK_c h]
  unfold tvF
  by_cases c : tkK T n q = 26
  · have c' : tkK T' n q = 26 := by rw [← kq]; exact c
    rw [if_pos c, if_pos c', tkS_c h (show ¬ tkK T n q = 0 by omega), tkN_c h]
  · have c' : ¬ tkK T' n q = 26 := by rw [← kq]; exact c
    rw [if_neg c, if_neg c']
theorem teF_c (h : ∀ i, i < n → T i = T' i) : teF T n = teF T' n := by
  funext E q v
  have kq : tkK T n q = tkK T' n q := by rw [tkK_c h]
  unfold teF
  by_cases c : tkK T n q = 26
  · have c' : tkK T' n q = 26 := by rw [← kq]; exact c
    rw [if_pos c, if_pos c', tkS_c h (show ¬ tkK T n q = 0 by omega), tkN_c h]
  · have c' : ¬ tkK T' n q = 26 := by rw [← kq]; exact c
    rw [if_neg c, if_neg c']
theorem paF_c (h : ∀ i, i < n → T i = T' i) : paF T n = paF T' n := by
  funext E q
  have kq : tkK T n q = tkK T' n q := by rw [tkK_c h]
  unfold paF
  by_cases c : tkK T n q = 26
  · have c' : tkK T' n q = 26 := by rw [← kq]; exact c
    rw [if_pos c, if_pos c', tkS_c h (show ¬ tkK T n q = 0 by omega)]
  · have c' : ¬ tkK T' n q = 26 := by rw [← kq]; exact c
    rw [if_neg c, if_neg c']
theorem caF_c (h : ∀ i, i < n → T i = T' i) : caF T n = caF T' n := by
  funext E q
  have kq : tkK T n q = tkK T' n q := by rw [tkK_c h]
  unfold caF
  by_cases c : tkK T n q = 26
  · have c' : tkK T' n q = 26 := by rw [← kq]; exact c
    rw [if_pos c, if_pos c', tkS_c h (show ¬ tkK T n q = 0 by omega)]
  · have c' : ¬ tkK T' n q = 26 := by rw [← kq]; exact c
    rw [if_neg c, if_neg c']
theorem gTl_c {β : Type} (h : ∀ i, i < n → T i = T' i) : gTl (β := β) T n = gTl T' n := by
  funext E q v b k
  have kq : tkK T n q = tkK T' n q := by rw [tkK_c h]
  unfold gTl
  by_cases c : tkK T n q = 26
  · simp only [tlC, eTl, bTl, tkS_c h (show ¬ tkK T n q = 0 by omega), keep_c h (show ¬ tkK T n q = 0 by omega), kq, pT_c h, tvF_c h]
  · have c' : ¬ tkK T' n q = 26 := by rw [← kq]; exact c
    rw [if_neg (fun z => c z.1), if_neg (fun z => c' z.1), tvF_c h]
theorem gTe_c {β : Type} (h : ∀ i, i < n → T i = T' i) : gTe (β := β) T n = gTe T' n := by
  funext E q v b k
  have kq : tkK T n q = tkK T' n q := by rw [tkK_c h]
  unfold gTe
  by_cases c : tkK T n q = 26
  · simp only [teC, eTe, bTl, tkS_c h (show ¬ tkK T n q = 0 by omega), keep_c h (show ¬ tkK T n q = 0 by omega), kq, pT_c h, teF_c h]
  · have c' : ¬ tkK T' n q = 26 := by rw [← kq]; exact c
    rw [if_neg (fun z => c z.1), if_neg (fun z => c' z.1), teF_c h]
theorem GVr_c (h : ∀ i, i < n → T i = T' i) : ∀ f, GVr T n f = GVr T' n f := by
  intro f
  induction f with
  | zero => funext E q v b; simp only [GVr]
  | succ f ih =>
    funext E q v b
    unfold GVr
    rw [gTe_c h, gTl_c h, tkK_c h, pT_c h, pW_c h, ih]
theorem gPI_c {β : Type} (h : ∀ i, i < n → T i = T' i) : gPI (β := β) T n = gPI T' n := by
  funext pr E c q v b k
  unfold gPI gPJ
  rw [tkK_c h, pT_c h, gTl_c h, paF_c h]
theorem GPm_c (h : ∀ i, i < n → T i = T' i) (pr : Bool) (p : Nat) : ∀ f, GPm T n pr p f = GPm T' n pr p f := by
  intro f
  induction f with
  | zero => funext E c md q v b; simp only [GPm]
  | succ f ih =>
    funext E c md q v b
    unfold GPm
    rw [gPI_c h, tkK_c h, pT_c h, ih]
theorem GVs_c (h : ∀ i, i < n → T i = T' i) : ∀ f, GVs T n f = GVs T' n f := by
  intro f
  induction f with
  | zero => funext E q v b; simp only [GVs]
  | succ f ih =>
    funext E q v b
    unfold GVs
    rw [tkK_c h, pT_c h, GVr_c h, ih]
theorem gBod_c (h : ∀ i, i < n → T i = T' i) : gBod T n = gBod T' n := by
  funext pr MD E q v b s
  unfold gBod
  rw [pW_c h, GVs_c h, GS_c h, G_c h]
theorem gCb_c (h : ∀ i, i < n → T i = T' i) : gCb T n = gCb T' n := by
  funext pr E MD c pc v b b1 s F E1 q
  unfold gCb
  rw [pT_c h, GPm_c h, gBod_c h]
theorem gCal_c (h : ∀ i, i < n → T i = T' i) : gCal T n = gCal T' n := by
  funext pr E MD c pc v b s F q
  unfold gCal
  rw [pT_c h, gCb_c h]
  congr 1
  funext q1
  have kq : tkK T n q1 = tkK T' n q1 := by rw [tkK_c h]
  by_cases e : tkK T n q1 = 26
  · simp only [nmC, eC1, tkS_c h (show ¬ tkK T n q1 = 0 by omega), keep_c h (show ¬ tkK T n q1 = 0 by omega), tkK_c h, caF_c h]
  · have e' : ¬ tkK T' n q1 = 26 := by rw [← kq]; exact e
    rw [if_neg (fun z => e z.1), if_neg (fun z => e' z.1), caF_c h]
theorem GDs_c (h : ∀ i, i < n → T i = T' i) : ∀ f, GDs T n f = GDs T' n f := by
  intro f
  induction f with
  | zero => funext g; simp only [GDs]
  | succ f ih =>
    funext g
    unfold GDs
    rw [tkK_c h, pT_c h, GVr_c h, gCal_c h, ih]
theorem gPrg_c (h : ∀ i, i < n → T i = T' i) : gPrg T n = gPrg T' n := by
  funext g
  unfold gPrg
  have e : GS T n = GS T' n := by
    funext MD f
    exact GS_c h MD f
  rw [tkK_c h, sk_c h, GDs_c h, e]
end CGS
end JnS303
section JnS304
/-! Targets that the grammar lays: a chain of parts, and how many bytes its keys take. -/
section TGL
variable {FN : Nat → Nat → Prop} {fl lc : Nat → Prop} {un vv vw vx : Nat} {O O' r r' K K' lo e a s c d kk k n : Nat} {b b' b'' : BT} {T T' : Nat → Nat → Int32} {x y z w : Int32} {ch ch' : Nat → Nat}
theorem lcW_U {j : Nat} (h : lcW fl un T' j) : lcU un T' j := by
  rcases h with h | h | h | h
  · exact Or.inl h
  · exact Or.inr (Or.inl h)
  · exact Or.inr (Or.inr (Or.inl h))
  · exact Or.inr (Or.inr (Or.inr h.1))
theorem Wx_of (hO : O ≤ 20) (hK : K ≤ 60) (hr : r ≤ 14) (h : WX T' FN O r K (lcW fl un T') x) : Wx0 T' FN (lcU un T') x := by
  obtain ⟨F, w⟩ := WX_mo (K' := K) (O' := O) (r' := 14) (WX_lc (fun j z => lcW_U z) h) (Nat.le_refl K) (Or.inl ⟨rfl, hr⟩)
  exact ⟨O, K, hO, hK, F, w⟩
theorem kys_c : ∀ j, (∀ i, i ≤ j → ch' i = ch i) → kys T ch' j = kys T ch j := by
  intro j
  induction j with
  | zero => intro _; rfl
  | succ j ih =>
    intro h
    show kys T ch' j + _ = kys T ch j + _
    rw [ih (fun i hi => h i (by omega)), h (j + 1) (Nat.le_refl _)]
/-- a part more -/
theorem Tgt_s (h : Tgt T FN lc k ch) (hn : 1 ≤ n ∧ n < LNo T % 70001) (h6 : T 6 n = nI (ch k)) (h9 : T 9 (ch k) = nI n) (h4 : T 4 n = 21 ∨ T 4 n = 22 ∨ T 4 n = 23) (w7 : Wx0 T FN lc (T 7 n)) (w8 : T 4 n = 22 → Wx0 T FN lc (T 8 n)) : ∃ ch' : Nat → Nat, Tgt T FN lc (k + 1) ch' ∧ kys T ch' (k + 1) = kys T ch k + (if T 4 n = 22 then 2 else 1) ∧ ch' 0 = ch 0 ∧ ch' (k + 1) = n := by
  have e1 : ∀ i, i ≤ k → (fun i => if i ≤ k then ch i else n) i = ch i := fun i hi => if_pos hi
  have e2 : (fun i => if i ≤ k then ch i else n) (k + 1) = n := if_neg (by omega)
  refine ⟨fun i => if i ≤ k then ch i else n, ?_, ?_, e1 0 (Nat.zero_le _), e2⟩
  · generalize (fun i => if i ≤ k then ch i else n) = ch' at e1 e2
    refine ⟨fun i hi => ?_, ?_, fun i hi => ?_⟩
    · by_cases c : i ≤ k
      · rw [e1 i c]; exact h.1 i c
      · rw [show i = k + 1 by omega, e2]; exact hn
    · rw [e1 0 (Nat.zero_le _)]; exact h.2.1
    · by_cases c : i < k
      · rw [e1 (i + 1) (by omega), e1 i (by omega)]; exact h.2.2 i c
      · have ei : i = k := by omega
        subst ei
        rw [e2, e1 i (Nat.le_refl _)]
        exact ⟨h6, h9, h4, w7, w8⟩
  · generalize (fun i => if i ≤ k then ch i else n) = ch' at e1 e2
    show kys T ch' k + (if T 4 (ch' (k + 1)) = 22 then 2 else 1) = _
    rw [kys_c k e1, e2]
/-- a target that was laid last: its variable a (of the program: x nought; slot s), kk keys -/
def LTg (FN : Nat → Nat → Prop) (un vv lo : Nat) (b : BT) (e a s kk : Nat) (x : Int32) : Prop := 1 ≤ lo ∧ lo ≤ e ∧ e < b.1 ∧ b.2.2.1 9 e = -1 ∧ ∀ T', Agr T' un vv b lo e → ∃ k ch, ch k = e ∧ ch 0 = a ∧ Tgt T' FN (lcU un T') k ch ∧ kys T' ch k = kk ∧ T' 5 a = x ∧ T' 6 a = nI s
theorem LTg_0 (h1 : 1 ≤ lo) (hl : lo ≤ b.1) (hs : s < 60) (hx : x = 0 ∨ ¬ un = 0) : LTg FN un vv lo (bNode b 7 x (nI s) z) b.1 b.1 s 0 x := by
  refine ⟨h1, hl, Nat.lt_succ_self _, nd_t.2.2.2.2.2, fun T' hA => ?_⟩
  obtain ⟨n4, n5, n6, n7, _⟩ := nd_at hA hl
  exact ⟨0, fun _ => b.1, rfl, rfl, ⟨fun i _ => ⟨Nat.le_trans h1 hl, hA.2.2.2.1⟩, ⟨n4, s, n6, hs, hx.imp (fun z => n5.trans z) (fun z => Or.inl ⟨rfl, z⟩)⟩, fun i hi => absurd hi (Nat.not_lt_zero _)⟩, rfl, n5, n6⟩
theorem LTg_ov {kd : Int32} (h : LTg FN un vv lo b e a s kk x) (hF : Frm un vv b e b') (hs : LPt FN fl un vw O' r' K' b.1 b' c) (hv : vv ≤ vw) (hO : O' ≤ 20) (hK : K' ≤ 60) (hr : r' ≤ 14) (hk : kd = 21 ∨ kd = 23) : LTg FN un vw lo (bOver b' kd y e (nI c)) b'.1 a s (kk + 1) x := by
  obtain ⟨p1, p2, p3, p4, p5⟩ := id h
  obtain ⟨s1, s2, s3, s4, s5⟩ := id hs
  have hb := hF.1
  refine ⟨p1, by omega, Nat.lt_succ_self _, ?_, fun T' hA => ?_⟩
  · unfold bOver; rw [bSet_o (by omega)]; exact nd_t.2.2.2.2.2
  obtain ⟨n4, n5, n6, n7, n9⟩ := ov_at hA p2 (by omega)
  obtain ⟨k0, ch, c1, c2, c3, c4, c5, c6⟩ := p5 T' (Agr_dn hA (Frm_tr hF (Frm_over (vv := vv)) (Nat.le_refl _) (Or.inl rfl)) hv p1 (Or.inr hb) (Nat.le_refl _))
  have ws := Wx_of hO hK hr (s5 T' (Agr_hi hA Frm_over (Nat.le_refl _) p1 (Nat.le_refl _) (by omega) (by omega)))
  obtain ⟨ch', d1, d2, d3, d4⟩ := Tgt_s (n := b'.1) c3 ⟨by omega, hA.2.2.2.1⟩ (by rw [c1]; exact n6) (by rw [c1]; exact n9) (by rw [n4]; rcases hk with rfl | rfl <;> decide) (by rw [n7]; exact ws) (fun z => by rw [n4] at z; rcases hk with rfl | rfl <;> exact absurd z (by decide))
  refine ⟨k0 + 1, ch', d4, d3.trans c2, d1, ?_, c5, c6⟩
  rw [d2, c4, n4, if_neg (by rcases hk with rfl | rfl <;> decide)]
theorem LTg_sli (h : LTg FN un vv lo b e a s kk x) (hF : Frm un vv b e b') (hs : LPt FN fl un vw O' r' K' b.1 b' c) (hF2 : Frm un vw b' 0 b'') (hs2 : LPt FN fl un vx O' r' K b'.1 b'' d) (hv : vv ≤ vw) (hv2 : vw ≤ vx) (hO : O' ≤ 20) (hK : K' ≤ 60) (hK2 : K ≤ 60) (hr : r' ≤ 14) : LTg FN un vx lo (bSet (bOver b'' 22 y e (nI c)) 8 b''.1 (nI d)) b''.1 a s (kk + 2) x := by
  obtain ⟨p1, p2, p3, p4, p5⟩ := id h
  obtain ⟨s1, s2', s3, s4, s5⟩ := id hs
  obtain ⟨u1, u2, u3, u4, u5⟩ := id hs2
  have hb := hF.1
  have hb2 := hF2.1
  have fo : ∀ {vy : Nat}, Frm un vy b'' e (bSet (bOver b'' 22 y e (nI c)) 8 b''.1 (nI d)) := Frm_set8 (Nat.le_refl _) Frm_over
  refine ⟨p1, by omega, Nat.lt_succ_self _, ?_, fun T' hA => ?_⟩
  · rw [bSet_o (by omega)]; unfold bOver; rw [bSet_o (by omega)]; exact nd_t.2.2.2.2.2
  have rd : ∀ a i, 4 ≤ a → a ≤ 9 → lo ≤ i → i < b''.1 + 1 → ¬ (a = 9 ∧ i = b''.1) → ¬ (a = 8 ∧ i = b''.1) → T' a i = (bOver b'' 22 y e (nI c)).2.2.1 a i := fun a i q1 q2 q3 q4 q5 q6 => by
    rw [hA.1 a i q1 q2 q3 q4 q5, bSet_o q6]
  obtain ⟨t4, t5, t6, t7, t8, _⟩ := nd_t (b := b'') (k := 22) (x := y) (y := nI e) (z := nI c)
  have n4 : T' 4 b''.1 = 22 := by rw [rd 4 _ (by decide) (by decide) (by omega) (by omega) (by omega) (by omega)]; unfold bOver; rw [bSet_o (by omega)]; exact t4
  have n6 : T' 6 b''.1 = nI e := by rw [rd 6 _ (by decide) (by decide) (by omega) (by omega) (by omega) (by omega)]; unfold bOver; rw [bSet_o (by omega)]; exact t6
  have n7 : T' 7 b''.1 = nI c := by rw [rd 7 _ (by decide) (by decide) (by omega) (by omega) (by omega) (by omega)]; unfold bOver; rw [bSet_o (by omega)]; exact t7
  have n8 : T' 8 b''.1 = nI d := by rw [hA.1 8 _ (by decide) (by decide) (by omega) (Nat.lt_succ_self _) (by omega), bSet_s]
  have n9 : T' 9 e = nI b''.1 := by rw [rd 9 _ (by decide) (by decide) p2 (by omega) (by omega) (by omega)]; unfold bOver; rw [bSet_s]
  obtain ⟨k0, ch, c1, c2, c3, c4, c5, c6⟩ := p5 T' (Agr_dn hA (Frm_tr (Frm_tr hF hF2 hv (Or.inr (Or.inr rfl))) (fo (vy := vx)) (by omega) (Or.inl rfl)) (by omega) p1 (Or.inr (by omega)) (Nat.le_refl _))
  have ws := Wx_of hO hK hr (s5 T' (Agr_hi hA (Frm_tr (Frm_wk hF2) (fo (vy := vx)) hv2 (Or.inl rfl)) hv2 p1 (by omega) (by omega) (by omega)))
  have wu := Wx_of hO hK2 hr (u5 T' (Agr_hi hA fo (Nat.le_refl _) p1 (Nat.le_refl _) (by omega) (by omega)))
  obtain ⟨ch', d1, d2, d3, d4⟩ := Tgt_s (n := b''.1) c3 ⟨by omega, hA.2.2.2.1⟩ (by rw [c1]; exact n6) (by rw [c1]; exact n9) (by rw [n4]; decide) (by rw [n7]; exact ws) (fun _ => by rw [n8]; exact wu)
  refine ⟨k0 + 1, ch', d4, d3.trans c2, d1, ?_, c5, c6⟩
  rw [d2, c4, n4, if_pos rfl]
end TGL
/-- parts of a target -/
theorem g_tgt {T : Nat → Int32} {n : Nat} {FN : Nat → Nat → Prop} (hT : ∀ i, i < n → ∃ d, d ≤ 300 ∧ T i = nI d) : ∀ (f : Nat) (E : En) (o q v i e : Nat) (b : BT) (r : RT) (lo a s kk : Nat) (x : Int32), q ≤ n → v ≤ 60 → o ≤ 20 → b.1 + n < 70000 + q → b.2.1 + n ≤ 70000 + q → 1 ≤ b.1 → EnOK FN E → G T n f 12 E o q v i e 0 0 b = some (Sum.inr r) → LTg FN E.2.2.2.1 v lo b e a s kk x → ∃ kk', Frm E.2.2.2.1 v b e r.2.2.2.2.1 ∧ LTg FN E.2.2.2.1 r.2.1 lo r.2.2.2.2.1 r.2.2.2.1 a s kk' x ∧ 2 * kk' + q ≤ 2 * kk + r.1 := by
  intro f
  induction f with
  | zero => intro E o q v i e b r lo a s kk x _ _ _ _ _ _ _ hG; exact absurd hG (by unfold G; intro h; cases h)
  | succ f ihf =>
    intro E o q v i e b r lo a s kk x hq hv ho hbn hbp hb1 hE hG hL
    have mo := g_mono T n f
    have ih := g_tree (FN := FN) hT f
    rw [G_12] at hG
    have n1 := hL.1
    have n2 := hL.2.1
    have n3 := hL.2.2.1
    by_cases y1 : tkK T n q = 6 ∨ tkK T n q = 8
    · rw [if_pos y1] at hG
      obtain ⟨o2, hG⟩ := gO_s hG
      obtain ⟨t3, hG⟩ := gT_s hG
      have u3 := tkN_b T n q (by omega)
      have v3 := u3.2.2.2 (by rcases y1 with z | z <;> (rw [z]; decide))
      try dsimp only at hG
      obtain ⟨s4, g4, hG⟩ := gb_s hG
      have x4 := mo _ _ _ _ _ _ _ _ _ _ s4 (by omega) (by omega) g4 1 (by omega) (Nat.le_refl 1) (trivial)
      obtain ⟨a4, b4, c4, d4, e4, f4, h4, i4⟩ := (x4.1 : Mo n _ _ _ s4)
      have y4' := ih 0 _ _ _ _ _ _ _ _ _ s4 (0) (_) (_) (by omega) (by omega) (by omega) (by omega) (by omega) (by omega) (hE) g4 (⟨rfl, rfl⟩)
      have y4 : Frm E.2.2.2.1 v b 0 s4.2.2.2.2.1 ∧ LPt FN (eFl E) E.2.2.2.1 s4.2.1 (20 - (o + 1)) 14 (60 - v) b.1 s4.2.2.2.2.1 s4.2.2.2.1 := y4'
      have j4 : b.1 ≤ s4.2.2.2.1 ∧ s4.2.2.2.1 < s4.2.2.2.2.1.1 := ⟨y4.2.2.1, y4.2.2.2.1⟩
      try dsimp only at hG
      by_cases y5 : tkK T n q = 6 ∧ tkK T n s4.1 = 16
      · rw [if_pos y5] at hG
        obtain ⟨t6, hG⟩ := gT_s hG
        have u6 := tkN_b T n s4.1 (by omega)
        have v6 := u6.2.2.2 (by rw [y5.2]; decide)
        try dsimp only at hG
        obtain ⟨s7, g7, hG⟩ := gb_s hG
        have x7 := mo _ _ _ _ _ _ _ _ _ _ s7 (by omega) (by omega) g7 1 (by omega) (Nat.le_refl 1) (trivial)
        obtain ⟨a7, b7, c7, d7, e7, f7, h7, i7⟩ := (x7.1 : Mo n _ _ _ s7)
        have y7' := ih 0 _ _ _ _ _ _ _ _ _ s7 (0) (_) (_) (by omega) (by omega) (by omega) (by omega) (by omega) (by omega) (hE) g7 (⟨rfl, rfl⟩)
        have y7 : Frm E.2.2.2.1 s4.2.1 s4.2.2.2.2.1 0 s7.2.2.2.2.1 ∧ LPt FN (eFl E) E.2.2.2.1 s7.2.1 (20 - (o + 1)) 14 (60 - s4.2.1) s4.2.2.2.2.1.1 s7.2.2.2.2.1 s7.2.2.2.1 := y7'
        have j7 : s4.2.2.2.2.1.1 ≤ s7.2.2.2.1 ∧ s7.2.2.2.1 < s7.2.2.2.2.1.1 := ⟨y7.2.2.1, y7.2.2.2.1⟩
        try dsimp only at hG
        obtain ⟨w8, t8, hG⟩ := gW_s hG
        have u8 := tkN_b T n s7.1 (by omega)
        have v8 := u8.2.2.2 (by rw [w8]; decide)
        try dsimp only at hG
        have L2 := LTg_sli (y := 0) hL (Frm_wk y4.1) y4.2 y7.1 y7.2 (by omega) (by omega) (by omega) (by omega) (by omega) (by decide)
        obtain ⟨kk', r1, r2, r3⟩ := ihf _ _ _ _ _ _ _ r lo a s (kk + 2) x u8.2.1 (by omega) ho (by simp only [bSet_1, bOver_1]; omega) (by simp only [bSet_p, bOver_p]; omega) (by simp only [bSet_1, bOver_1]; omega) hE hG L2
        exact ⟨kk', Frm_ta (Frm_ta (Frm_ta (Frm_wk y4.1) (Frm_wk y7.1) (Or.inl rfl)) (Frm_set8 (vv := v) (b := s7.2.2.2.2.1) (Nat.le_refl _) (Frm_over (vv := v))) (Or.inl rfl)) r1 (Or.inr (Or.inl (by omega))), r2, by omega⟩
      · rw [if_neg y5] at hG
        obtain ⟨w10, t10, hG⟩ := gW_s hG
        have u10 := tkN_b T n s4.1 (by omega)
        have v10 := u10.2.2.2 (by rw [w10]; split <;> decide)
        try dsimp only at hG
        have L2 := LTg_ov (y := 0) (kd := if tkK T n q = 8 then 23 else 21) hL (Frm_wk y4.1) y4.2 (by omega) (by omega) (by omega) (by decide) (by split; exact Or.inr rfl; exact Or.inl rfl)
        obtain ⟨kk', r1, r2, r3⟩ := ihf _ _ _ _ _ _ _ r lo a s (kk + 1) x u10.2.1 (by omega) ho (by simp only [bOver_1]; omega) (by simp only [bOver_p]; omega) (by simp only [bOver_1]; omega) hE hG L2
        exact ⟨kk', Frm_ta (Frm_ta (Frm_wk y4.1) (Frm_over (vv := v)) (Or.inl rfl)) r1 (Or.inr (Or.inl (by omega))), r2, by omega⟩
    · rw [if_neg y1] at hG
      cases hG
      exact ⟨kk, Frm_rf, hL, Nat.le_refl _⟩
end JnS304
section JnS305
/-! What is laid doesn't hang on what lay there before: two readings of one text over unlike tables. -/
/-- a relation of what is laid, by the variables told, that goes through all that is laid of unit un -/
def RC (un : Nat) (R : Nat → BT → BT → Prop) : Prop :=
  (∀ v b b', R v b b' → b.1 = b'.1 ∧ b.2.1 = b'.2.1) ∧
  (∀ v b b' k x y z, R v b b' → R v (bNode b k x y z) (bNode b' k x y z)) ∧
  (∀ v b b' j l x, R v b b' → R v (bSet b j l x) (bSet b' j l x)) ∧
  (∀ v b b' T f m, R v b b' → R v (bKeep b T f m) (bKeep b' T f m)) ∧
  (∀ v b b' x, R v b b' → R (v + 1) (bSlot b (60 * un + v) x) (bSlot b' (60 * un + v) x))
/-- answers alike -/
def Rg (R : Nat → BT → BT → Prop) (x x' : RG) : Prop := (x = none ∧ x' = none) ∨ (∃ e0, x = some (Sum.inl e0) ∧ x' = some (Sum.inl e0)) ∨ ∃ q v i e b b' nm, x = some (Sum.inr (q, v, i, e, b, nm)) ∧ x' = some (Sum.inr (q, v, i, e, b', nm)) ∧ R v b b'
section RGS
variable {T : Nat → Int32} {n un : Nat} {R : Nat → BT → BT → Prop} {x x' y y' : RG} {v : Nat} {b b' : BT}
theorem Rg_0 : Rg R none none := Or.inl ⟨rfl, rfl⟩
theorem Rg_n {e0 : Nat × Nat} : Rg R (some (Sum.inl e0)) (some (Sum.inl e0)) := Or.inr (Or.inl ⟨e0, rfl, rfl⟩)
theorem Rg_ss {q i e : Nat} {nm : List Nm} (h : R v b b') : Rg R (some (Sum.inr (q, v, i, e, b, nm))) (some (Sum.inr (q, v, i, e, b', nm))) := Or.inr (Or.inr ⟨q, v, i, e, b, b', nm, rfl, rfl, h⟩)
theorem Rg_gb {k k' : RT → RG} (hC : RC un R) (h : Rg R x x') (hk : ∀ (q v i e : Nat) (b b' : BT) (nm : List Nm), R v b b' → b.1 = b'.1 → b.2.1 = b'.2.1 → Rg R (k (q, v, i, e, b, nm)) (k' (q, v, i, e, b', nm))) : Rg R (gb x k) (gb x' k') := by
  rcases h with ⟨h1, h2⟩ | ⟨e0, h1, h2⟩ | ⟨q, v, i, e, b, b', nm, h1, h2, h3⟩
  · rw [h1, h2]; exact Rg_0
  · rw [h1, h2]; exact Rg_n
  · rw [h1, h2]; exact hk q v i e b b' nm h3 (hC.1 v b b' h3).1 (hC.1 v b b' h3).2
theorem Rg_ite {c : Prop} [Decidable c] (h : Rg R x x') (h' : Rg R y y') : Rg R (if c then x else y) (if c then x' else y') := by
  by_cases z : c
  · rw [if_pos z, if_pos z]; exact h
  · rw [if_neg z, if_neg z]; exact h'
theorem Rg_gT {q : Nat} {k k' : Nat → RG} (h : ∀ q1, Rg R (k q1) (k' q1)) : Rg R (gT T n q k) (gT T n q k') := Rg_ite Rg_n (h _)
theorem Rg_gW {t q : Nat} {k k' : Nat → RG} (h : ∀ q1, Rg R (k q1) (k' q1)) : Rg R (gW T n t q k) (gW T n t q k') := Rg_ite (Rg_gT h) Rg_n
theorem Rg_gO {o q : Nat} (h : Rg R x x') : Rg R (gO o q x) (gO o q x') := Rg_ite Rg_n h
theorem R_ite {c : Prop} [Decidable c] {a a' : BT} (h : R v b b') (h' : R v a a') : R v (if c then b else a) (if c then b' else a') := by
  by_cases z : c
  · rw [if_pos z, if_pos z]; exact h
  · rw [if_neg z, if_neg z]; exact h'
theorem R_node (hC : RC un R) {k x y z : Int32} (h : R v b b') : R v (bNode b k x y z) (bNode b' k x y z) := hC.2.1 v b b' k x y z h
theorem R_set (hC : RC un R) {j l : Nat} {x : Int32} (h : R v b b') : R v (bSet b j l x) (bSet b' j l x) := hC.2.2.1 v b b' j l x h
theorem R_keep (hC : RC un R) {f m : Nat} (h : R v b b') : R v (bKeep b T f m) (bKeep b' T f m) := hC.2.2.2.1 v b b' T f m h
theorem R_over (hC : RC un R) {k x z : Int32} {l : Nat} (h : R v b b') : R v (bOver b k x l z) (bOver b' k x l z) := by
  unfold bOver
  rw [(hC.1 v b b' h).1]
  exact R_set hC (R_node hC h)
theorem R_wrap (hC : RC un R) {k x y z u : Int32} (h : R v b b') : R v (bWrap b k x y z u) (bWrap b' k x y z u) := by
  unfold bWrap
  rw [(hC.1 v b b' h).1]
  exact R_set hC (R_node hC h)
theorem Rg_gN {E : En} {c g q : Nat} {k k' : Nat → Nat → Nat → BT → Nm → RG} (hC : RC un R) (hun : E.2.2.2.1 = un) (h : R v b b') (hk : ∀ (q1 e1 : Nat) (b1 b1' : BT) (nm : Nm), R (v + 1) b1 b1' → b1.1 = b1'.1 → b1.2.1 = b1'.2.1 → Rg R (k q1 (v + 1) e1 b1 nm) (k' q1 (v + 1) e1 b1' nm)) : Rg R (gN T n E c g q v b k) (gN T n E c g q v b' k') := by
  unfold gN
  refine Rg_ite (Rg_ite Rg_n (Rg_ite Rg_n (Rg_gT (fun q1 => ?_)))) Rg_n
  have e := hC.1 v b b' h
  rw [← e.1, ← e.2, hun]
  have h2 : R (v + 1) (bNode (bKeep (bSlot b (60 * un + v) (nI g)) T q (tkE T n q - q)) 31 (if un = 0 then 0 else 1) (nI v) 0) (bNode (bKeep (bSlot b' (60 * un + v) (nI g)) T q (tkE T n q - q)) 31 (if un = 0 then 0 else 1) (nI v) 0) := R_node hC (R_keep hC (hC.2.2.2.2 v b b' (nI g) h))
  exact hk q1 b.1 _ _ _ h2 (hC.1 _ _ _ h2).1 (hC.1 _ _ _ h2).2
abbrev GR (T : Nat → Int32) (n un : Nat) (R : Nat → BT → BT → Prop) (f : Nat) : Prop := ∀ (nt : Nat) (E : En) (o q v i e c g : Nat) (b b' : BT), E.2.2.2.1 = un → R v b b' → Rg R (G T n f nt E o q v i e c g b) (G T n f nt E o q v i e c g b')
theorem GR_0 (hC : RC un R) {f : Nat} (ih : GR T n un R f) {E : En} {o q v i e c g : Nat} {b b' : BT} (hun : E.2.2.2.1 = un) (h : R v b b') (s1 : b.1 = b'.1) (s2 : b.2.1 = b'.2.1) : Rg R (G T n (f + 1) 0 E o q v i e c g b) (G T n (f + 1) 0 E o q v i e c g b') := by
  rw [G_0, G_0]
  try simp only [← s1, ← s2]
  repeat' (first
    | with_reducible exact Rg_n
    | with_reducible assumption
    | with_reducible refine Rg_gT (fun q1 => ?_)
    | with_reducible refine Rg_gW (fun q1 => ?_)
    | with_reducible refine Rg_gO ?_
    | with_reducible refine Rg_ite ?_ ?_
    | (with_reducible refine Rg_gb hC (ih _ _ _ _ _ _ _ _ _ _ _ ?_ ?_) (fun q1 v1 i1 e1 b1 b1' nm hR h1 h2 => ?_)); rotate_left 2; (try dsimp only); (try simp only [← h1, ← h2]); rotate_right 2
    | (with_reducible refine Rg_gN hC ?_ ?_ (fun q1 e1 b1 b1' nm hR h1 h2 => ?_)); rotate_left 2; (try dsimp only); (try simp only [← h1, ← h2]); rotate_right 2
    | with_reducible refine ih _ _ _ _ _ _ _ _ _ _ _ ?_ ?_
    | with_reducible refine Rg_ss ?_
    | with_reducible refine R_over hC ?_
    | with_reducible refine R_wrap hC ?_
    | with_reducible refine R_node hC ?_
    | with_reducible refine R_keep hC ?_
    | with_reducible refine R_set hC ?_
    | with_reducible refine R_ite ?_ ?_
    | exact hun)
theorem GR_1 (hC : RC un R) {f : Nat} (ih : GR T n un R f) {E : En} {o q v i e c g : Nat} {b b' : BT} (hun : E.2.2.2.1 = un) (h : R v b b') (s1 : b.1 = b'.1) (s2 : b.2.1 = b'.2.1) : Rg R (G T n (f + 1) 1 E o q v i e c g b) (G T n (f + 1) 1 E o q v i e c g b') := by
  rw [G_1, G_1]
  try simp only [← s1, ← s2]
  repeat' (first
    | with_reducible exact Rg_n
    | with_reducible assumption
    | with_reducible refine Rg_gT (fun q1 => ?_)
    | with_reducible refine Rg_gW (fun q1 => ?_)
    | with_reducible refine Rg_gO ?_
    | with_reducible refine Rg_ite ?_ ?_
    | (with_reducible refine Rg_gb hC (ih _ _ _ _ _ _ _ _ _ _ _ ?_ ?_) (fun q1 v1 i1 e1 b1 b1' nm hR h1 h2 => ?_)); rotate_left 2; (try dsimp only); (try simp only [← h1, ← h2]); rotate_right 2
    | (with_reducible refine Rg_gN hC ?_ ?_ (fun q1 e1 b1 b1' nm hR h1 h2 => ?_)); rotate_left 2; (try dsimp only); (try simp only [← h1, ← h2]); rotate_right 2
    | with_reducible refine ih _ _ _ _ _ _ _ _ _ _ _ ?_ ?_
    | with_reducible refine Rg_ss ?_
    | with_reducible refine R_over hC ?_
    | with_reducible refine R_wrap hC ?_
    | with_reducible refine R_node hC ?_
    | with_reducible refine R_keep hC ?_
    | with_reducible refine R_set hC ?_
    | with_reducible refine R_ite ?_ ?_
    | exact hun)
theorem GR_2 (hC : RC un R) {f : Nat} (ih : GR T n un R f) {E : En} {o q v i e c g : Nat} {b b' : BT} (hun : E.2.2.2.1 = un) (h : R v b b') (s1 : b.1 = b'.1) (s2 : b.2.1 = b'.2.1) : Rg R (G T n (f + 1) 2 E o q v i e c g b) (G T n (f + 1) 2 E o q v i e c g b') := by
  rw [G_2, G_2]
  try simp only [← s1, ← s2]
  repeat' (first
    | with_reducible exact Rg_n
    | with_reducible assumption
    | with_reducible refine Rg_gT (fun q1 => ?_)
    | with_reducible refine Rg_gW (fun q1 => ?_)
    | with_reducible refine Rg_gO ?_
    | with_reducible refine Rg_ite ?_ ?_
    | (with_reducible refine Rg_gb hC (ih _ _ _ _ _ _ _ _ _ _ _ ?_ ?_) (fun q1 v1 i1 e1 b1 b1' nm hR h1 h2 => ?_)); rotate_left 2; (try dsimp only); (try simp only [← h1, ← h2]); rotate_right 2
    | (with_reducible refine Rg_gN hC ?_ ?_ (fun q1 e1 b1 b1' nm hR h1 h2 => ?_)); rotate_left 2; (try dsimp only); (try simp only [← h1, ← h2]); rotate_right 2
    | with_reducible refine ih _ _ _ _ _ _ _ _ _ _ _ ?_ ?_
    | with_reducible refine Rg_ss ?_
    | with_reducible refine R_over hC ?_
    | with_reducible refine R_wrap hC ?_
    | with_reducible refine R_node hC ?_
    | with_reducible refine R_keep hC ?_
    | with_reducible refine R_set hC ?_
    | with_reducible refine R_ite ?_ ?_
    | exact hun)
theorem GR_3 (hC : RC un R) {f : Nat} (ih : GR T n un R f) {E : En} {o q v i e c g : Nat} {b b' : BT} (hun : E.2.2.2.1 = un) (h : R v b b') (s1 : b.1 = b'.1) (s2 : b.2.1 = b'.2.1) : Rg R (G T n (f + 1) 3 E o q v i e c g b) (G T n (f + 1) 3 E o q v i e c g b') := by
  rw [G_3, G_3]
  try simp only [← s1, ← s2]
  repeat' (first
    | with_reducible exact Rg_n
    | with_reducible assumption
    | with_reducible refine Rg_gT (fun q1 => ?_)
    | with_reducible refine Rg_gW (fun q1 => ?_)
    | with_reducible refine Rg_gO ?_
    | with_reducible refine Rg_ite ?_ ?_
    | (with_reducible refine Rg_gb hC (ih _ _ _ _ _ _ _ _ _ _ _ ?_ ?_) (fun q1 v1 i1 e1 b1 b1' nm hR h1 h2 => ?_)); rotate_left 2; (try dsimp only); (try simp only [← h1, ← h2]); rotate_right 2
    | (with_reducible refine Rg_gN hC ?_ ?_ (fun q1 e1 b1 b1' nm hR h1 h2 => ?_)); rotate_left 2; (try dsimp only); (try simp only [← h1, ← h2]); rotate_right 2
    | with_reducible refine ih _ _ _ _ _ _ _ _ _ _ _ ?_ ?_
    | with_reducible refine Rg_ss ?_
    | with_reducible refine R_over hC ?_
    | with_reducible refine R_wrap hC ?_
    | with_reducible refine R_node hC ?_
    | with_reducible refine R_keep hC ?_
    | with_reducible refine R_set hC ?_
    | with_reducible refine R_ite ?_ ?_
    | exact hun)
theorem GR_4 (hC : RC un R) {f : Nat} (ih : GR T n un R f) {E : En} {o q v i e c g : Nat} {b b' : BT} (hun : E.2.2.2.1 = un) (h : R v b b') (s1 : b.1 = b'.1) (s2 : b.2.1 = b'.2.1) : Rg R (G T n (f + 1) 4 E o q v i e c g b) (G T n (f + 1) 4 E o q v i e c g b') := by
  rw [G_4, G_4]
  try simp only [← s1, ← s2]
  repeat' (first
    | with_reducible exact Rg_n
    | with_reducible assumption
    | with_reducible refine Rg_gT (fun q1 => ?_)
    | with_reducible refine Rg_gW (fun q1 => ?_)
    | with_reducible refine Rg_gO ?_
    | with_reducible refine Rg_ite ?_ ?_
    | (with_reducible refine Rg_gb hC (ih _ _ _ _ _ _ _ _ _ _ _ ?_ ?_) (fun q1 v1 i1 e1 b1 b1' nm hR h1 h2 => ?_)); rotate_left 2; (try dsimp only); (try simp only [← h1, ← h2]); rotate_right 2
    | (with_reducible refine Rg_gN hC ?_ ?_ (fun q1 e1 b1 b1' nm hR h1 h2 => ?_)); rotate_left 2; (try dsimp only); (try simp only [← h1, ← h2]); rotate_right 2
    | with_reducible refine ih _ _ _ _ _ _ _ _ _ _ _ ?_ ?_
    | with_reducible refine Rg_ss ?_
    | with_reducible refine R_over hC ?_
    | with_reducible refine R_wrap hC ?_
    | with_reducible refine R_node hC ?_
    | with_reducible refine R_keep hC ?_
    | with_reducible refine R_set hC ?_
    | with_reducible refine R_ite ?_ ?_
    | exact hun)
theorem GR_5 (hC : RC un R) {f : Nat} (ih : GR T n un R f) {E : En} {o q v i e c g : Nat} {b b' : BT} (hun : E.2.2.2.1 = un) (h : R v b b') (s1 : b.1 = b'.1) (s2 : b.2.1 = b'.2.1) : Rg R (G T n (f + 1) 5 E o q v i e c g b) (G T n (f + 1) 5 E o q v i e c g b') := by
  rw [G_5, G_5]
  try simp only [← s1, ← s2]
  repeat' (first
    | with_reducible exact Rg_n
    | with_reducible assumption
    | with_reducible refine Rg_gT (fun q1 => ?_)
    | with_reducible refine Rg_gW (fun q1 => ?_)
    | with_reducible refine Rg_gO ?_
    | with_reducible refine Rg_ite ?_ ?_
    | (with_reducible refine Rg_gb hC (ih _ _ _ _ _ _ _ _ _ _ _ ?_ ?_) (fun q1 v1 i1 e1 b1 b1' nm hR h1 h2 => ?_)); rotate_left 2; (try dsimp only); (try simp only [← h1, ← h2]); rotate_right 2
    | (with_reducible refine Rg_gN hC ?_ ?_ (fun q1 e1 b1 b1' nm hR h1 h2 => ?_)); rotate_left 2; (try dsimp only); (try simp only [← h1, ← h2]); rotate_right 2
    | with_reducible refine ih _ _ _ _ _ _ _ _ _ _ _ ?_ ?_
    | with_reducible refine Rg_ss ?_
    | with_reducible refine R_over hC ?_
    | with_reducible refine R_wrap hC ?_
    | with_reducible refine R_node hC ?_
    | with_reducible refine R_keep hC ?_
    | with_reducible refine R_set hC ?_
    | with_reducible refine R_ite ?_ ?_
    | exact hun)
theorem GR_6 (hC : RC un R) {f : Nat} (ih : GR T n un R f) {E : En} {o q v i e c g : Nat} {b b' : BT} (hun : E.2.2.2.1 = un) (h : R v b b') (s1 : b.1 = b'.1) (s2 : b.2.1 = b'.2.1) : Rg R (G T n (f + 1) 6 E o q v i e c g b) (G T n (f + 1) 6 E o q v i e c g b') := by
  rw [G_6, G_6]
  try simp only [← s1, ← s2]
  repeat' (first
    | with_reducible exact Rg_n
    | with_reducible assumption
    | with_reducible refine Rg_gT (fun q1 => ?_)
    | with_reducible refine Rg_gW (fun q1 => ?_)
    | with_reducible refine Rg_gO ?_
    | with_reducible refine Rg_ite ?_ ?_
    | (with_reducible refine Rg_gb hC (ih _ _ _ _ _ _ _ _ _ _ _ ?_ ?_) (fun q1 v1 i1 e1 b1 b1' nm hR h1 h2 => ?_)); rotate_left 2; (try dsimp only); (try simp only [← h1, ← h2]); rotate_right 2
    | (with_reducible refine Rg_gN hC ?_ ?_ (fun q1 e1 b1 b1' nm hR h1 h2 => ?_)); rotate_left 2; (try dsimp only); (try simp only [← h1, ← h2]); rotate_right 2
    | with_reducible refine ih _ _ _ _ _ _ _ _ _ _ _ ?_ ?_
    | with_reducible refine Rg_ss ?_
    | with_reducible refine R_over hC ?_
    | with_reducible refine R_wrap hC ?_
    | with_reducible refine R_node hC ?_
    | with_reducible refine R_keep hC ?_
    | with_reducible refine R_set hC ?_
    | with_reducible refine R_ite ?_ ?_
    | exact hun)
theorem GR_7 (hC : RC un R) {f : Nat} (ih : GR T n un R f) {E : En} {o q v i e c g : Nat} {b b' : BT} (hun : E.2.2.2.1 = un) (h : R v b b') (s1 : b.1 = b'.1) (s2 : b.2.1 = b'.2.1) : Rg R (G T n (f + 1) 7 E o q v i e c g b) (G T n (f + 1) 7 E o q v i e c g b') := by
  rw [G_7, G_7]
  try simp only [← s1, ← s2]
  repeat' (first
    | with_reducible exact Rg_n
    | with_reducible assumption
    | with_reducible refine Rg_gT (fun q1 => ?_)
    | with_reducible refine Rg_gW (fun q1 => ?_)
    | with_reducible refine Rg_gO ?_
    | with_reducible refine Rg_ite ?_ ?_
    | (with_reducible refine Rg_gb hC (ih _ _ _ _ _ _ _ _ _ _ _ ?_ ?_) (fun q1 v1 i1 e1 b1 b1' nm hR h1 h2 => ?_)); rotate_left 2; (try dsimp only); (try simp only [← h1, ← h2]); rotate_right 2
    | (with_reducible refine Rg_gN hC ?_ ?_ (fun q1 e1 b1 b1' nm hR h1 h2 => ?_)); rotate_left 2; (try dsimp only); (try simp only [← h1, ← h2]); rotate_right 2
    | with_reducible refine ih _ _ _ _ _ _ _ _ _ _ _ ?_ ?_
    | with_reducible refine Rg_ss ?_
    | with_reducible refine R_over hC ?_
    | with_reducible refine R_wrap hC ?_
    | with_reducible refine R_node hC ?_
    | with_reducible refine R_keep hC ?_
    | with_reducible refine R_set hC ?_
    | with_reducible refine R_ite ?_ ?_
    | exact hun)
theorem GR_8 (hC : RC un R) {f : Nat} (ih : GR T n un R f) {E : En} {o q v i e c g : Nat} {b b' : BT} (hun : E.2.2.2.1 = un) (h : R v b b') (s1 : b.1 = b'.1) (s2 : b.2.1 = b'.2.1) : Rg R (G T n (f + 1) 8 E o q v i e c g b) (G T n (f + 1) 8 E o q v i e c g b') := by
  rw [G_8, G_8]
  try simp only [← s1, ← s2]
  repeat' (first
    | with_reducible exact Rg_n
    | with_reducible assumption
    | with_reducible refine Rg_gT (fun q1 => ?_)
    | with_reducible refine Rg_gW (fun q1 => ?_)
    | with_reducible refine Rg_gO ?_
    | with_reducible refine Rg_ite ?_ ?_
    | (with_reducible refine Rg_gb hC (ih _ _ _ _ _ _ _ _ _ _ _ ?_ ?_) (fun q1 v1 i1 e1 b1 b1' nm hR h1 h2 => ?_)); rotate_left 2; (try dsimp only); (try simp only [← h1, ← h2]); rotate_right 2
    | (with_reducible refine Rg_gN hC ?_ ?_ (fun q1 e1 b1 b1' nm hR h1 h2 => ?_)); rotate_left 2; (try dsimp only); (try simp only [← h1, ← h2]); rotate_right 2
    | with_reducible refine ih _ _ _ _ _ _ _ _ _ _ _ ?_ ?_
    | with_reducible refine Rg_ss ?_
    | with_reducible refine R_over hC ?_
    | with_reducible refine R_wrap hC ?_
    | with_reducible refine R_node hC ?_
    | with_reducible refine R_keep hC ?_
    | with_reducible refine R_set hC ?_
    | with_reducible refine R_ite ?_ ?_
    | exact hun)
theorem GR_9 (hC : RC un R) {f : Nat} (ih : GR T n un R f) {E : En} {o q v i e c g : Nat} {b b' : BT} (hun : E.2.2.2.1 = un) (h : R v b b') (s1 : b.1 = b'.1) (s2 : b.2.1 = b'.2.1) : Rg R (G T n (f + 1) 9 E o q v i e c g b) (G T n (f + 1) 9 E o q v i e c g b') := by
  rw [G_9, G_9]
  try simp only [← s1, ← s2]
  repeat' (first
    | with_reducible exact Rg_n
    | with_reducible assumption
    | with_reducible refine Rg_gT (fun q1 => ?_)
    | with_reducible refine Rg_gW (fun q1 => ?_)
    | with_reducible refine Rg_gO ?_
    | with_reducible refine Rg_ite ?_ ?_
    | (with_reducible refine Rg_gb hC (ih _ _ _ _ _ _ _ _ _ _ _ ?_ ?_) (fun q1 v1 i1 e1 b1 b1' nm hR h1 h2 => ?_)); rotate_left 2; (try dsimp only); (try simp only [← h1, ← h2]); rotate_right 2
    | (with_reducible refine Rg_gN hC ?_ ?_ (fun q1 e1 b1 b1' nm hR h1 h2 => ?_)); rotate_left 2; (try dsimp only); (try simp only [← h1, ← h2]); rotate_right 2
    | with_reducible refine ih _ _ _ _ _ _ _ _ _ _ _ ?_ ?_
    | with_reducible refine Rg_ss ?_
    | with_reducible refine R_over hC ?_
    | with_reducible refine R_wrap hC ?_
    | with_reducible refine R_node hC ?_
    | with_reducible refine R_keep hC ?_
    | with_reducible refine R_set hC ?_
    | with_reducible refine R_ite ?_ ?_
    | exact hun)
theorem GR_10 (hC : RC un R) {f : Nat} (ih : GR T n un R f) {E : En} {o q v i e c g : Nat} {b b' : BT} (hun : E.2.2.2.1 = un) (h : R v b b') (s1 : b.1 = b'.1) (s2 : b.2.1 = b'.2.1) : Rg R (G T n (f + 1) 10 E o q v i e c g b) (G T n (f + 1) 10 E o q v i e c g b') := by
  rw [G_10, G_10]
  try simp only [← s1, ← s2]
  repeat' (first
    | with_reducible exact Rg_n
    | with_reducible assumption
    | with_reducible refine Rg_gT (fun q1 => ?_)
    | with_reducible refine Rg_gW (fun q1 => ?_)
    | with_reducible refine Rg_gO ?_
    | with_reducible refine Rg_ite ?_ ?_
    | (with_reducible refine Rg_gb hC (ih _ _ _ _ _ _ _ _ _ _ _ ?_ ?_) (fun q1 v1 i1 e1 b1 b1' nm hR h1 h2 => ?_)); rotate_left 2; (try dsimp only); (try simp only [← h1, ← h2]); rotate_right 2
    | (with_reducible refine Rg_gN hC ?_ ?_ (fun q1 e1 b1 b1' nm hR h1 h2 => ?_)); rotate_left 2; (try dsimp only); (try simp only [← h1, ← h2]); rotate_right 2
    | with_reducible refine ih _ _ _ _ _ _ _ _ _ _ _ ?_ ?_
    | with_reducible refine Rg_ss ?_
    | with_reducible refine R_over hC ?_
    | with_reducible refine R_wrap hC ?_
    | with_reducible refine R_node hC ?_
    | with_reducible refine R_keep hC ?_
    | with_reducible refine R_set hC ?_
    | with_reducible refine R_ite ?_ ?_
    | exact hun)
theorem GR_11 (hC : RC un R) {f : Nat} (ih : GR T n un R f) {E : En} {o q v i e c g : Nat} {b b' : BT} (hun : E.2.2.2.1 = un) (h : R v b b') (s1 : b.1 = b'.1) (s2 : b.2.1 = b'.2.1) : Rg R (G T n (f + 1) 11 E o q v i e c g b) (G T n (f + 1) 11 E o q v i e c g b') := by
  rw [G_11, G_11]
  try simp only [← s1, ← s2]
  repeat' (first
    | with_reducible exact Rg_n
    | with_reducible assumption
    | with_reducible refine Rg_gT (fun q1 => ?_)
    | with_reducible refine Rg_gW (fun q1 => ?_)
    | with_reducible refine Rg_gO ?_
    | with_reducible refine Rg_ite ?_ ?_
    | (with_reducible refine Rg_gb hC (ih _ _ _ _ _ _ _ _ _ _ _ ?_ ?_) (fun q1 v1 i1 e1 b1 b1' nm hR h1 h2 => ?_)); rotate_left 2; (try dsimp only); (try simp only [← h1, ← h2]); rotate_right 2
    | (with_reducible refine Rg_gN hC ?_ ?_ (fun q1 e1 b1 b1' nm hR h1 h2 => ?_)); rotate_left 2; (try dsimp only); (try simp only [← h1, ← h2]); rotate_right 2
    | with_reducible refine ih _ _ _ _ _ _ _ _ _ _ _ ?_ ?_
    | with_reducible refine Rg_ss ?_
    | with_reducible refine R_over hC ?_
    | with_reducible refine R_wrap hC ?_
    | with_reducible refine R_node hC ?_
    | with_reducible refine R_keep hC ?_
    | with_reducible refine R_set hC ?_
    | with_reducible refine R_ite ?_ ?_
    | exact hun)
theorem GR_12 (hC : RC un R) {f : Nat} (ih : GR T n un R f) {E : En} {o q v i e c g : Nat} {b b' : BT} (hun : E.2.2.2.1 = un) (h : R v b b') (s1 : b.1 = b'.1) (s2 : b.2.1 = b'.2.1) : Rg R (G T n (f + 1) 12 E o q v i e c g b) (G T n (f + 1) 12 E o q v i e c g b') := by
  rw [G_12, G_12]
  try simp only [← s1, ← s2]
  repeat' (first
    | with_reducible exact Rg_n
    | with_reducible assumption
    | with_reducible refine Rg_gT (fun q1 => ?_)
    | with_reducible refine Rg_gW (fun q1 => ?_)
    | with_reducible refine Rg_gO ?_
    | with_reducible refine Rg_ite ?_ ?_
    | (with_reducible refine Rg_gb hC (ih _ _ _ _ _ _ _ _ _ _ _ ?_ ?_) (fun q1 v1 i1 e1 b1 b1' nm hR h1 h2 => ?_)); rotate_left 2; (try dsimp only); (try simp only [← h1, ← h2]); rotate_right 2
    | (with_reducible refine Rg_gN hC ?_ ?_ (fun q1 e1 b1 b1' nm hR h1 h2 => ?_)); rotate_left 2; (try dsimp only); (try simp only [← h1, ← h2]); rotate_right 2
    | with_reducible refine ih _ _ _ _ _ _ _ _ _ _ _ ?_ ?_
    | with_reducible refine Rg_ss ?_
    | with_reducible refine R_over hC ?_
    | with_reducible refine R_wrap hC ?_
    | with_reducible refine R_node hC ?_
    | with_reducible refine R_keep hC ?_
    | with_reducible refine R_set hC ?_
    | with_reducible refine R_ite ?_ ?_
    | exact hun)
theorem GR_13 (hC : RC un R) {f : Nat} (ih : GR T n un R f) {E : En} {o q v i e c g : Nat} {b b' : BT} (hun : E.2.2.2.1 = un) (h : R v b b') (s1 : b.1 = b'.1) (s2 : b.2.1 = b'.2.1) : Rg R (G T n (f + 1) 13 E o q v i e c g b) (G T n (f + 1) 13 E o q v i e c g b') := by
  rw [G_13, G_13]
  try simp only [← s1, ← s2]
  repeat' (first
    | with_reducible exact Rg_n
    | with_reducible assumption
    | with_reducible refine Rg_gT (fun q1 => ?_)
    | with_reducible refine Rg_gW (fun q1 => ?_)
    | with_reducible refine Rg_gO ?_
    | with_reducible refine Rg_ite ?_ ?_
    | (with_reducible refine Rg_gb hC (ih _ _ _ _ _ _ _ _ _ _ _ ?_ ?_) (fun q1 v1 i1 e1 b1 b1' nm hR h1 h2 => ?_)); rotate_left 2; (try dsimp only); (try simp only [← h1, ← h2]); rotate_right 2
    | (with_reducible refine Rg_gN hC ?_ ?_ (fun q1 e1 b1 b1' nm hR h1 h2 => ?_)); rotate_left 2; (try dsimp only); (try simp only [← h1, ← h2]); rotate_right 2
    | with_reducible refine ih _ _ _ _ _ _ _ _ _ _ _ ?_ ?_
    | with_reducible refine Rg_ss ?_
    | with_reducible refine R_over hC ?_
    | with_reducible refine R_wrap hC ?_
    | with_reducible refine R_node hC ?_
    | with_reducible refine R_keep hC ?_
    | with_reducible refine R_set hC ?_
    | with_reducible refine R_ite ?_ ?_
    | exact hun)
theorem GR_14 (hC : RC un R) {f : Nat} (ih : GR T n un R f) {E : En} {o q v i e c g : Nat} {b b' : BT} (hun : E.2.2.2.1 = un) (h : R v b b') (s1 : b.1 = b'.1) (s2 : b.2.1 = b'.2.1) : Rg R (G T n (f + 1) 14 E o q v i e c g b) (G T n (f + 1) 14 E o q v i e c g b') := by
  rw [G_14, G_14]
  try simp only [← s1, ← s2]
  repeat' (first
    | with_reducible exact Rg_n
    | with_reducible assumption
    | with_reducible refine Rg_gT (fun q1 => ?_)
    | with_reducible refine Rg_gW (fun q1 => ?_)
    | with_reducible refine Rg_gO ?_
    | with_reducible refine Rg_ite ?_ ?_
    | (with_reducible refine Rg_gb hC (ih _ _ _ _ _ _ _ _ _ _ _ ?_ ?_) (fun q1 v1 i1 e1 b1 b1' nm hR h1 h2 => ?_)); rotate_left 2; (try dsimp only); (try simp only [← h1, ← h2]); rotate_right 2
    | (with_reducible refine Rg_gN hC ?_ ?_ (fun q1 e1 b1 b1' nm hR h1 h2 => ?_)); rotate_left 2; (try dsimp only); (try simp only [← h1, ← h2]); rotate_right 2
    | with_reducible refine ih _ _ _ _ _ _ _ _ _ _ _ ?_ ?_
    | with_reducible refine Rg_ss ?_
    | with_reducible refine R_over hC ?_
    | with_reducible refine R_wrap hC ?_
    | with_reducible refine R_node hC ?_
    | with_reducible refine R_keep hC ?_
    | with_reducible refine R_set hC ?_
    | with_reducible refine R_ite ?_ ?_
    | exact hun)
theorem GR_15 (hC : RC un R) {f : Nat} (ih : GR T n un R f) {E : En} {o q v i e c g : Nat} {b b' : BT} (hun : E.2.2.2.1 = un) (h : R v b b') (s1 : b.1 = b'.1) (s2 : b.2.1 = b'.2.1) : Rg R (G T n (f + 1) 15 E o q v i e c g b) (G T n (f + 1) 15 E o q v i e c g b') := by
  rw [G_15, G_15]
  try simp only [← s1, ← s2]
  repeat' (first
    | with_reducible exact Rg_n
    | with_reducible assumption
    | with_reducible refine Rg_gT (fun q1 => ?_)
    | with_reducible refine Rg_gW (fun q1 => ?_)
    | with_reducible refine Rg_gO ?_
    | with_reducible refine Rg_ite ?_ ?_
    | (with_reducible refine Rg_gb hC (ih _ _ _ _ _ _ _ _ _ _ _ ?_ ?_) (fun q1 v1 i1 e1 b1 b1' nm hR h1 h2 => ?_)); rotate_left 2; (try dsimp only); (try simp only [← h1, ← h2]); rotate_right 2
    | (with_reducible refine Rg_gN hC ?_ ?_ (fun q1 e1 b1 b1' nm hR h1 h2 => ?_)); rotate_left 2; (try dsimp only); (try simp only [← h1, ← h2]); rotate_right 2
    | with_reducible refine ih _ _ _ _ _ _ _ _ _ _ _ ?_ ?_
    | with_reducible refine Rg_ss ?_
    | with_reducible refine R_over hC ?_
    | with_reducible refine R_wrap hC ?_
    | with_reducible refine R_node hC ?_
    | with_reducible refine R_keep hC ?_
    | with_reducible refine R_set hC ?_
    | with_reducible refine R_ite ?_ ?_
    | exact hun)
theorem GR_16 (hC : RC un R) {f : Nat} (ih : GR T n un R f) {E : En} {o q v i e c g : Nat} {b b' : BT} (hun : E.2.2.2.1 = un) (h : R v b b') (s1 : b.1 = b'.1) (s2 : b.2.1 = b'.2.1) : Rg R (G T n (f + 1) 16 E o q v i e c g b) (G T n (f + 1) 16 E o q v i e c g b') := by
  rw [G_16, G_16]
  try simp only [← s1, ← s2]
  repeat' (first
    | with_reducible exact Rg_n
    | with_reducible assumption
    | with_reducible refine Rg_gT (fun q1 => ?_)
    | with_reducible refine Rg_gW (fun q1 => ?_)
    | with_reducible refine Rg_gO ?_
    | with_reducible refine Rg_ite ?_ ?_
    | (with_reducible refine Rg_gb hC (ih _ _ _ _ _ _ _ _ _ _ _ ?_ ?_) (fun q1 v1 i1 e1 b1 b1' nm hR h1 h2 => ?_)); rotate_left 2; (try dsimp only); (try simp only [← h1, ← h2]); rotate_right 2
    | (with_reducible refine Rg_gN hC ?_ ?_ (fun q1 e1 b1 b1' nm hR h1 h2 => ?_)); rotate_left 2; (try dsimp only); (try simp only [← h1, ← h2]); rotate_right 2
    | with_reducible refine ih _ _ _ _ _ _ _ _ _ _ _ ?_ ?_
    | with_reducible refine Rg_ss ?_
    | with_reducible refine R_over hC ?_
    | with_reducible refine R_wrap hC ?_
    | with_reducible refine R_node hC ?_
    | with_reducible refine R_keep hC ?_
    | with_reducible refine R_set hC ?_
    | with_reducible refine R_ite ?_ ?_
    | exact hun)
theorem GR_17 (hC : RC un R) {f : Nat} (ih : GR T n un R f) {E : En} {o q v i e c g : Nat} {b b' : BT} (hun : E.2.2.2.1 = un) (h : R v b b') (s1 : b.1 = b'.1) (s2 : b.2.1 = b'.2.1) : Rg R (G T n (f + 1) 17 E o q v i e c g b) (G T n (f + 1) 17 E o q v i e c g b') := by
  rw [G_17, G_17]
  try simp only [← s1, ← s2]
  repeat' (first
    | with_reducible exact Rg_n
    | with_reducible assumption
    | with_reducible refine Rg_gT (fun q1 => ?_)
    | with_reducible refine Rg_gW (fun q1 => ?_)
    | with_reducible refine Rg_gO ?_
    | with_reducible refine Rg_ite ?_ ?_
    | (with_reducible refine Rg_gb hC (ih _ _ _ _ _ _ _ _ _ _ _ ?_ ?_) (fun q1 v1 i1 e1 b1 b1' nm hR h1 h2 => ?_)); rotate_left 2; (try dsimp only); (try simp only [← h1, ← h2]); rotate_right 2
    | (with_reducible refine Rg_gN hC ?_ ?_ (fun q1 e1 b1 b1' nm hR h1 h2 => ?_)); rotate_left 2; (try dsimp only); (try simp only [← h1, ← h2]); rotate_right 2
    | with_reducible refine ih _ _ _ _ _ _ _ _ _ _ _ ?_ ?_
    | with_reducible refine Rg_ss ?_
    | with_reducible refine R_over hC ?_
    | with_reducible refine R_wrap hC ?_
    | with_reducible refine R_node hC ?_
    | with_reducible refine R_keep hC ?_
    | with_reducible refine R_set hC ?_
    | with_reducible refine R_ite ?_ ?_
    | exact hun)
theorem GR_18 (hC : RC un R) {f : Nat} (ih : GR T n un R f) {E : En} {o q v i e c g : Nat} {b b' : BT} (hun : E.2.2.2.1 = un) (h : R v b b') (s1 : b.1 = b'.1) (s2 : b.2.1 = b'.2.1) : Rg R (G T n (f + 1) 18 E o q v i e c g b) (G T n (f + 1) 18 E o q v i e c g b') := by
  rw [G_18, G_18]
  try simp only [← s1, ← s2]
  repeat' (first
    | with_reducible exact Rg_n
    | with_reducible assumption
    | with_reducible refine Rg_gT (fun q1 => ?_)
    | with_reducible refine Rg_gW (fun q1 => ?_)
    | with_reducible refine Rg_gO ?_
    | with_reducible refine Rg_ite ?_ ?_
    | (with_reducible refine Rg_gb hC (ih _ _ _ _ _ _ _ _ _ _ _ ?_ ?_) (fun q1 v1 i1 e1 b1 b1' nm hR h1 h2 => ?_)); rotate_left 2; (try dsimp only); (try simp only [← h1, ← h2]); rotate_right 2
    | (with_reducible refine Rg_gN hC ?_ ?_ (fun q1 e1 b1 b1' nm hR h1 h2 => ?_)); rotate_left 2; (try dsimp only); (try simp only [← h1, ← h2]); rotate_right 2
    | with_reducible refine ih _ _ _ _ _ _ _ _ _ _ _ ?_ ?_
    | with_reducible refine Rg_ss ?_
    | with_reducible refine R_over hC ?_
    | with_reducible refine R_wrap hC ?_
    | with_reducible refine R_node hC ?_
    | with_reducible refine R_keep hC ?_
    | with_reducible refine R_set hC ?_
    | with_reducible refine R_ite ?_ ?_
    | exact hun)
theorem G_R (hC : RC un R) : ∀ f, GR T n un R f := by
  intro f
  induction f with
  | zero => intro nt E o q v i e c g b b' _ _; unfold G; exact Rg_0
  | succ f ih =>
    intro nt E o q v i e c g b b' hun h
    have e0 := hC.1 v b b' h
    match nt with
    | 0 => exact GR_0 hC ih hun h e0.1 e0.2
    | 1 => exact GR_1 hC ih hun h e0.1 e0.2
    | 2 => exact GR_2 hC ih hun h e0.1 e0.2
    | 3 => exact GR_3 hC ih hun h e0.1 e0.2
    | 4 => exact GR_4 hC ih hun h e0.1 e0.2
    | 5 => exact GR_5 hC ih hun h e0.1 e0.2
    | 6 => exact GR_6 hC ih hun h e0.1 e0.2
    | 7 => exact GR_7 hC ih hun h e0.1 e0.2
    | 8 => exact GR_8 hC ih hun h e0.1 e0.2
    | 9 => exact GR_9 hC ih hun h e0.1 e0.2
    | 10 => exact GR_10 hC ih hun h e0.1 e0.2
    | 11 => exact GR_11 hC ih hun h e0.1 e0.2
    | 12 => exact GR_12 hC ih hun h e0.1 e0.2
    | 13 => exact GR_13 hC ih hun h e0.1 e0.2
    | 14 => exact GR_14 hC ih hun h e0.1 e0.2
    | 15 => exact GR_15 hC ih hun h e0.1 e0.2
    | 16 => exact GR_16 hC ih hun h e0.1 e0.2
    | 17 => exact GR_17 hC ih hun h e0.1 e0.2
    | 18 => exact GR_18 hC ih hun h e0.1 e0.2
    | m + 19 => simp only [G]; exact Rg_0
end RGS
end JnS305
