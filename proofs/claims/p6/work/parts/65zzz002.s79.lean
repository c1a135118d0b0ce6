/-! A local variable is told (reference). -/
section TLO
variable {T : Nat → Int32} {n : Nat} {E : En} {o q v : Nat} {b : BT} {σ : MS}
theorem v_wantName {w : Nat} (h : PS T n E o q v b σ) (L : Nat → Int32) : Tm (fun k => x_wantName k 0 L σ) (fun r => (¬ tkK T n q = 26 ∧ Bb b.1 r.2 ∧ FrV w σ r.2) ∨ (tkK T n q = 26 ∧ r.2 = σ)) := by
  have c := cur_kind (PS_cur h)
  refine Tm_suc (fun k => by rw [x_wantName]) ?_
  refine Tm_ite (fun _ => ?_) (fun c => absurd (PS_ok h) c)
  refine Tm_ite (fun d => ?_) (fun d => ?_)
  · refine Tm_suc (fun k => by rw [x_wantName]) ?_
    exact Tm_some (Or.inr ⟨c.2.1.mp d, rfl⟩)
  · refine Tm_ob (s_cannot _ σ) (fun r hr => ?_)
    refine Tm_suc (fun k => by rw [x_wantName]) ?_
    refine Tm_some (Or.inl ⟨fun z => d (c.2.1.mpr z), ?_⟩)
    subst hr
    exact ⟨(flt_b (M := 0) (P := 0) (w := 0) (PS_ok h) (PS_m h) _ _).1, FrV_flt _ _⟩
theorem fl_s {σ ρ : MS} (h2 : ρ.2 = σ.2) (hs : ∀ j, ¬ (10 ≤ j ∧ j ≤ 12) → ρ.1 j = σ.1 j) (x y : Int32) : (mFlt ρ x y).2 = σ.2 ∧ (∀ j, ¬ (10 ≤ j ∧ j ≤ 12) → (mFlt ρ x y).1 j = σ.1 j) ∧ ¬ (mFlt ρ x y).1 10 = 0 := by
  unfold mFlt
  by_cases h : ρ.1 10 = 0
  · rw [if_pos h]
    refine ⟨h2, fun j hj => ?_, ?_⟩
    · show upd (upd (upd ρ.1 10 1) 11 x) 12 y j = σ.1 j
      rw [upd_other (by omega), upd_other (by omega), upd_other (by omega)]; exact hs j hj
    · show ¬ upd (upd (upd ρ.1 10 1) 11 x) 12 y 10 = 0
      rw [upd_other (by decide), upd_other (by decide), upd_same]; decide
  · rw [if_neg h]; exact ⟨h2, hs, h⟩
theorem v_newSlot {w : Nat} (h : PS T n E o q v b σ) {L : Nat → Int32} (hL : L 1 = nI 1) : Tm (fun k => x_newSlot k 0 L σ) (fun r => (v = 60 ∧ Bb b.1 r.2 ∧ FrV w σ r.2) ∨ (v < 60 ∧ r = (nI v, mSlot σ E.2.2.2.1 v (nI 1)) ∧ PS T n E o q (v + 1) (bSlot b (60 * E.2.2.2.1 + v) (nI 1)) r.2)) := by
  have h0 := h
  obtain ⟨f1, f2, f3, f4, f5⟩ := h.2.2.2.1
  by_cases hv : v = 60
  · have hi : ¬ (nI E.2.2.2.1 < 0 ∨ 43 ≤ (nI E.2.2.2.1).toNatClampNeg) := n_in (by omega) (by omega)
    have hc : (nI E.2.2.2.1).toNatClampNeg = E.2.2.2.1 := n_cl (by omega)
    refine Tm_suc (fun k => by rw [x_newSlot]) ?_
    rw [f1]
    refine Tm_chk hi ?_
    rw [hc, f3]
    refine Tm_ite (fun c => ?_) (fun c => absurd (by rw [hv]; rfl) c)
    refine Tm_ob (s_fault _ σ) (fun r hr => ?_)
    rw [if_pos (PS_ok h0)] at hr
    subst hr
    have ff : ∀ x y : Int32, ((upd (upd (upd σ.1 10 1) 11 x) 12 y, σ.2) : MS) = mFlt σ x y := fun x y => (if_pos (PS_ok h0)).symm
    refine Tm_some (Or.inl ⟨hv, ?_⟩)
    rw [ff]
    exact ⟨(flt_b (M := 0) (P := 0) (w := 0) (PS_ok h0) (PS_m h0) _ _).1, FrV_flt _ _⟩
  · refine Tm_mono (p_newSlot (M := 0) (P := 0) h0 (g := 1) (by omega) hL) (fun r hr => ?_)
    rcases hr.2 with ⟨z, _⟩ | z
    · exact absurd z hv
    · exact Or.inr z
abbrev PoL (T : Nat → Int32) (n : Nat) (E : En) (o q v : Nat) (b : BT) (σ : MS) (r : Int32 × MS) : Prop := FrV E.2.2.2.1 σ r.2 ∧ ((¬ (tlC T n E q v ∧ ¬ tkK T n (tkN T n q) = 0) ∧ Bb b.1 r.2) ∨ ((tlC T n E q v ∧ ¬ tkK T n (tkN T n q) = 0) ∧ PS T n (eTl T n E q v b) o (tkN T n q) (v + 1) (bTl T n E q v b) r.2))
theorem p_tellLocal (h : PS T n E o q v b σ) (hp : b.2.1 + (n - q) ≤ 70000) {L : Nat → Int32} (hL : L 1 = 1) : Tm (fun k => x_tellLocal k 0 L σ) (PoL T n E o q v b σ) := by
  have h0 := h
  obtain ⟨⟨⟨a1, a2⟩, a3, a4, a5, ⟨c1, c2, c3, c4, c5, c6⟩, a6⟩, ⟨d1, d2⟩, ⟨e1, e2, e3, e4, e5⟩, ⟨f1, f2, f3, f4, f5⟩, ⟨⟨g1, g2, g3⟩, ⟨g4, g5, g6⟩, ⟨g7, g8, g9⟩⟩, ⟨i1, i2, i3⟩⟩ := h
  have hE := tkE_b T n q c1
  have hrow := rows_mRow (by omega) E.2.1 g3
  have hdup := dup_iff (c := 0) (f := q) (e := tkE T n q) a3 (by omega) e5 E.2.1 g3
  rw [Nat.sub_zero, List.take_length] at hdup
  -- a fault: the rest is gone through
  have bl : ∀ (m k : Nat) (N : Nat → Int32) (ρ : MS), m + k = E.2.1.length → N 2 = nI k → ρ.2 = σ.2 → (∀ j, ¬ (10 ≤ j ∧ j ≤ 12) → ρ.1 j = σ.1 j) → ¬ ρ.1 10 = 0 → Tm (fun f => x_tellLocal f 2 N ρ) (fun r => r.2 = ρ) := by
    intro m
    induction m with
    | zero =>
      intro k N ρ hk hN h2 hs hb
      refine Tm_suc (fun k => by rw [x_tellLocal]) ?_
      rw [hs 38 (by decide), g1, hN]
      refine Tm_ite (fun _ => ?_) (fun z => absurd ((n_le (by omega) (by omega)).mpr (by omega)) z)
      refine Tm_suc (fun k => by rw [x_tellLocal]) ?_
      refine Tm_ite (fun z => absurd z hb) (fun _ => ?_)
      refine Tm_suc (fun k => by rw [x_tellLocal]) ?_
      refine Tm_ite (fun z => absurd z hb) (fun _ => ?_)
      refine Tm_suc (fun k => by rw [x_tellLocal]) ?_
      exact Tm_some rfl
    | succ m ih =>
      intro k N ρ hk hN h2 hs hb
      obtain ⟨pp, ll, r1, r2, r3⟩ := hrow k (by omega)
      have h22 : ρ.2.2 = σ.2.2 := by rw [h2]
      refine Tm_suc (fun k => by rw [x_tellLocal]) ?_
      rw [hs 38 (by decide), g1, hN]
      refine Tm_ite (fun z => absurd ((n_le (by omega) (by omega)).mp z) (by omega)) (fun _ => ?_)
      refine Tm_chk (n_in (by omega) (by omega)) ?_
      refine Tm_chk (n_in (by omega) (by omega)) ?_
      rw [n_cl (p := k) (by omega), h22, r1, r2]
      refine Tm_ob (s_isNamed (σ := ρ) (f := q) (e := tkE T n q) (p := pp) (l := ll) ((hs 8 (by decide)).trans c2) ((hs 9 (by decide)).trans c4) hE.1 (by omega) r3 _ rfl rfl) (fun r4 hr4 => ?_)
      obtain ⟨u, τ⟩ := r4
      have hr41 : τ = ρ := hr4.1
      subst hr41
      have next : Tm (fun f => x_tellLocal f 3 N τ) (fun r => r.2 = τ) := by
        refine Tm_suc (fun k => by rw [x_tellLocal]) ?_
        exact ih (k + 1) _ τ (by omega) (by rw [upd_same, hN, n_add1]) h2 hs hb
      refine Tm_ite (fun _ => next) (fun _ => ?_)
      refine Tm_ob (s_fault _ τ) (fun r6 hr6 => ?_)
      rw [if_neg hb] at hr6
      subst hr6
      exact next
  have fin : ∀ N : Nat → Int32, N 1 = 1 → (∀ j, j < E.2.1.length → ¬ mIs σ q (tkE T n q - q) 22 23 j) → tkK T n q = 26 → Tm (fun f => x_tellLocal f 4 N σ) (PoL T n E o q v b σ) := by
    intro N hN1 hno hK
    have hsome : (E.2.1.find? (fun x => decide (x.1 = tkS T n q))).isSome = false := by
      apply eq_false_of_ne_true
      intro z
      obtain ⟨k, k1, k2, k3⟩ := hdup.mp z
      exact hno k k2 k3
    refine Tm_suc (fun k => by rw [x_tellLocal]) ?_
    refine Tm_ite (fun _ => ?_) (fun z => absurd a5 z)
    refine Tm_suc (fun k => by rw [x_tellLocal]) ?_
    refine Tm_ob (v_newSlot (w := E.2.2.2.1) h0 (by rw [upd_same]; exact hN1)) (fun r1 hr1 => ?_)
    rcases hr1 with ⟨hv, hB, hV⟩ | ⟨hv, hr, hS1⟩
    · refine Tm_suc (fun k => by rw [x_tellLocal]) ?_
      refine Tm_ite (fun z => absurd z hB.1) (fun _ => ?_)
      refine Tm_suc (fun k => by rw [x_tellLocal]) ?_
      exact Tm_some ⟨hV, Or.inl ⟨fun z => z.1.2.2 hv, hB⟩⟩
    · subst hr
      have hS1 : PS T n E o q (v + 1) (bSlot b (60 * E.2.2.2.1 + v) 1) (mSlot σ E.2.2.2.1 v (nI 1)) := hS1
      refine Tm_suc (fun k => by rw [x_tellLocal]) ?_
      refine Tm_ite (fun _ => ?_) (fun z => absurd (PS_ok hS1) z)
      refine Tm_ob (p_keep (M := 0) (P := 0) (w := E.2.2.2.1) hS1 (Nat.zero_le _) (f := q) (e := tkE T n q) hE.1 (by omega) (by rw [bSlot_p]; omega) (by rw [upd_other (by decide), upd_same]; exact c2) (by rw [upd_same]; exact c4)) (fun r2 hr2 => ?_)
      obtain ⟨hr2, hS2, hF2⟩ := hr2
      have k38 : r2.2.1 38 = nI E.2.1.length := hS2.2.2.2.2.1.1.1
      have k8 : r2.2.1 8 = nI q := hS2.1.2.2.2.2.1.2.1
      have k9 : r2.2.1 9 = nI (tkE T n q) := hS2.1.2.2.2.2.1.2.2.2.1
      have k1 : r2.1 = nI b.2.1 := by rw [hr2]; rfl
      have hV2 : FrV E.2.2.2.1 σ r2.2 := by rw [hr2]; exact FrV_tr (FrV_slot hv _) (FrV_pool _)
      rw [k8, k9, k1, n_sub (by omega) hE.1]
      refine Tm_ob (s_see (r := E.2.1.length) k38 (by omega) _) (fun r3 hr3 => ?_)
      subst hr3
      have hsl : (tkS T n q).length = tkE T n q - q := seg_len _ _ _
      have hS3 := PS_see hS2 (tkS T n q, b.2.1, v) (by omega) (by show b.2.1 + (tkS T n q).length ≤ b.2.1 + (tkE T n q - q); rw [hsl]; exact Nat.le_refl _) hv (fun i hi => by
        have hi : i < (tkS T n q).length := hi
        rw [hsl] at hi
        show (if b.2.1 ≤ b.2.1 + i ∧ b.2.1 + i < b.2.1 + (tkE T n q - q) then T (q + (b.2.1 + i - b.2.1)) else _) = (tkS T n q).getD i 0
        rw [if_pos (by omega), show b.2.1 + i - b.2.1 = i by omega]
        exact (seg_at hi).symm)
      rw [hsl] at hS3
      have hst : mSeeP r2.2 E.2.1.length ((upd (upd (upd (fun _ => (0 : Int32)) 1 (nI b.2.1)) 2 (nI (tkE T n q - q))) 3 (upd N 100 (nI v) 100)) 1) ((upd (upd (upd (fun _ => (0 : Int32)) 1 (nI b.2.1)) 2 (nI (tkE T n q - q))) 3 (upd N 100 (nI v) 100)) 2) ((upd (upd (upd (fun _ => (0 : Int32)) 1 (nI b.2.1)) 2 (nI (tkE T n q - q))) 3 (upd N 100 (nI v) 100)) 3) = mSeeP r2.2 E.2.1.length (nI b.2.1) (nI (tkE T n q - q)) (nI v) := rfl
      rw [hst]
      refine Tm_ob (v_take (w := E.2.2.2.1) hS3 _) (fun r9 hr9 => ?_)
      refine Tm_suc (fun k => by rw [x_tellLocal]) ?_
      refine Tm_some ⟨FrV_tr hV2 (FrV_tr FrV_see hr9.1), ?_⟩
      rcases hr9.2 with ⟨z, hB⟩ | ⟨z, hS9⟩
      · exact Or.inl ⟨fun y => y.2 z, by rw [bKeep_1, bSlot_1] at hB; exact hB⟩
      · exact Or.inr ⟨⟨⟨hK, hsome, by omega⟩, z⟩, hS9⟩
  have gl : tkK T n q = 26 → ∀ (m k : Nat) (N : Nat → Int32), m + k = E.2.1.length → N 2 = nI k → N 1 = 1 → (∀ j, j < k → ¬ mIs σ q (tkE T n q - q) 22 23 j) → Tm (fun f => x_tellLocal f 2 N σ) (PoL T n E o q v b σ) := by
    intro hK m
    induction m with
    | zero =>
      intro k N hk hN hN1 hno
      refine Tm_suc (fun k => by rw [x_tellLocal]) ?_
      rw [g1, hN]
      exact Tm_ite (fun _ => fin N hN1 (fun j h2 => hno j (by omega)) hK) (fun z => absurd ((n_le (by omega) (by omega)).mpr (by omega)) z)
    | succ m ih =>
      intro k N hk hN hN1 hno
      obtain ⟨pp, ll, r1, r2, r3⟩ := hrow k (by omega)
      refine Tm_suc (fun k => by rw [x_tellLocal]) ?_
      rw [g1, hN]
      refine Tm_ite (fun z => absurd ((n_le (by omega) (by omega)).mp z) (by omega)) (fun _ => ?_)
      refine Tm_chk (n_in (by omega) (by omega)) ?_
      refine Tm_chk (n_in (by omega) (by omega)) ?_
      rw [n_cl (p := k) (by omega), r1, r2]
      refine Tm_ob (s_isNamed (f := q) (e := tkE T n q) (p := pp) (l := ll) c2 c4 hE.1 (by omega) r3 _ rfl rfl) (fun r4 hr4 => ?_)
      obtain ⟨u, τ⟩ := r4
      have hr41 : τ = σ := hr4.1
      subst hr41
      have hiff := mIs_iff (f := q) (m := tkE T n q - q) (show mRow τ 22 23 k pp ll from ⟨r1, r2, r3⟩)
      refine Tm_ite (fun z => ?_) (fun z => ?_)
      · refine Tm_suc (fun k => by rw [x_tellLocal]) ?_
        refine ih (k + 1) _ (by omega) (by rw [upd_same, hN, n_add1]) (by rw [upd_other (by decide)]; exact hN1) (fun j h2 => ?_)
        by_cases hj : j = k
        · subst hj; exact fun y => hr4.2.mpr (hiff.mp y) z
        · exact hno j (by omega)
      · have hin : mIs τ q (tkE T n q - q) 22 23 k := hiff.mpr (hr4.2.mp z)
        have hD : (E.2.1.find? (fun x => decide (x.1 = tkS T n q))).isSome = true := hdup.mpr ⟨k, Nat.zero_le _, by omega, hin⟩
        refine Tm_ob (s_fault _ τ) (fun r6 hr6 => ?_)
        have hr6 : r6 = (0, mFlt τ 4 (τ.1 8)) := hr6
        subst hr6
        obtain ⟨k1, k2, k3⟩ := fl_s (σ := τ) (ρ := τ) rfl (fun _ _ => rfl) 4 (τ.1 8)
        refine Tm_suc (fun k => by rw [x_tellLocal]) ?_
        refine Tm_mono (bl m (k + 1) _ _ (by omega) (by rw [upd_same, hN, n_add1]) k1 k2 k3) (fun r hr => ?_)
        refine ⟨?_, Or.inl ⟨fun y => absurd (y.1.2.1.symm.trans hD) (by decide), ?_⟩⟩
        · rw [hr]; exact FrV_flt _ _
        · rw [hr]; exact (flt_b (M := 0) (P := 0) (w := 0) a5 e1 _ _).1
  refine Tm_suc (fun k => by rw [x_tellLocal]) ?_
  refine Tm_ob (v_wantName (w := E.2.2.2.1) h0 _) (fun r hr => ?_)
  rcases hr with ⟨x1, x2, x3⟩ | ⟨x1, x2⟩
  · refine Tm_ite (fun z => absurd z x2.1) (fun _ => ?_)
    exact Tm_some ⟨x3, Or.inl ⟨fun y => x1 y.1.1, x2⟩⟩
  · rw [x2]
    refine Tm_ite (fun _ => ?_) (fun z => absurd a5 z)
    refine Tm_suc (fun k => by rw [x_tellLocal]) ?_
    exact gl x1 _ 0 _ rfl upd_same (by rw [upd_other (by decide)]; exact hL) (fun j hj => absurd hj (Nat.not_lt_zero _))
end TLO
