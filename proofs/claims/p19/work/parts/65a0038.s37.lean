section JnS37
/-! tellName. -/
section TELL
variable {T : Nat → Int32} {n : Nat} {E : En} {o q v M P : Nat} {b : BT} {σ : MS}
theorem p_wantName {w : Nat} (h : PS T n E o q v b σ) (L : Nat → Int32) : Tm (fun k => x_wantName k 0 L σ) (fun r => FrM M P w σ r.2 ∧ ((¬ tkK T n q = 26 ∧ Bb (2, q) b.1 r.2) ∨ (tkK T n q = 26 ∧ r.2 = σ))) := by
  have c := cur_kind (PS_cur h)
  refine Tm_suc (fun k => by rw [x_wantName]) ?_
  refine Tm_ite (fun _ => ?_) (fun c => absurd (PS_ok h) c)
  refine Tm_ite (fun d => ?_) (fun d => ?_)
  · refine Tm_suc (fun k => by rw [x_wantName]) ?_
    exact Tm_some ⟨FrM_rf, Or.inr ⟨c.2.1.mp d, rfl⟩⟩
  · refine Tm_ob (p_cannot (M := M) (P := P) (w := w) h _) (fun r hr => ?_)
    refine Tm_suc (fun k => by rw [x_wantName]) ?_
    exact Tm_some ⟨hr.2, Or.inl ⟨fun z => d (c.2.1.mpr z), hr.1⟩⟩
/-- a name of the row is told twice -/
theorem dup_iff {j1 j2 j3 f e p c : Nat} {pool : Nat → Int32} (hT : σ.2.2 3 = T) (hp : p ≤ 70000) (hpl : ∀ i, i < p → σ.2.2 12 i = pool i) : ∀ l : List Nm, rowsOK (σ.2.2 j1) (σ.2.2 j2) (σ.2.2 j3) pool p l → (((l.take (l.length - c)).find? (fun x => decide (x.1 = seg T f e))).isSome = true ↔ ∃ k, c ≤ k ∧ k < l.length ∧ mIs σ f (e - f) j1 j2 k)
  | [], _ => ⟨fun h => by rw [List.take_nil] at h; exact absurd (show false = true from h) Bool.false_ne_true, fun ⟨k, _, h, _⟩ => absurd h (Nat.not_lt_zero k)⟩
  | x :: l, ⟨⟨a, b, _, d, _, g⟩, h⟩ => by
    have ih := dup_iff (c := c) (f := f) (e := e) hT hp hpl l h
    have hx := mIs_row (f := f) (e := e) hT a b (by omega) (fun i hi => by rw [hpl _ (by omega)]; exact g i hi)
    have hlen : (x :: l).length = l.length + 1 := rfl
    rw [hlen]
    by_cases hc : c ≤ l.length
    · rw [show l.length + 1 - c = (l.length - c) + 1 by omega, List.take_succ_cons, List.find?_cons]
      by_cases he : x.1 = seg T f e
      · rw [decide_eq_true he]
        exact ⟨fun _ => ⟨l.length, hc, by omega, hx.mpr he⟩, fun _ => rfl⟩
      · rw [decide_eq_false he]
        show ((l.take (l.length - c)).find? (fun x => decide (x.1 = seg T f e))).isSome = true ↔ _
        rw [ih]
        constructor
        · rintro ⟨k, k1, k2, k3⟩; exact ⟨k, k1, by omega, k3⟩
        · rintro ⟨k, k1, k2, k3⟩
          refine ⟨k, k1, ?_, k3⟩
          by_cases hk : k = l.length
          · subst hk; exact absurd (hx.mp k3) he
          · omega
    · rw [show l.length + 1 - c = 0 by omega, List.take_zero]
      exact ⟨fun h => absurd (show false = true from h) Bool.false_ne_true, fun ⟨k, k1, k2, _⟩ => absurd k2 (by omega)⟩
abbrev tellC (T : Nat → Int32) (n : Nat) (E : En) (c q v : Nat) : Prop := tkK T n q = 26 ∧ ((E.2.2.1.take (E.2.2.1.length - c)).find? (fun x => decide (x.1 = tkS T n q))).isSome = false ∧ ¬ v = 60 ∧ ¬ tkK T n (tkN T n q) = 0
theorem p_tellName (h : PS T n E o q v b σ) (hP : P ≤ b.2.1) (hM : M ≤ b.1) (hm : b.1 + 1 < 70000) (hp : b.2.1 + (n - q) ≤ 70000) {c g : Nat} (hc : c ≤ E.2.2.1.length) (hg : g ≤ 1) {L : Nat → Int32} (hL1 : L 1 = nI c) (hL2 : L 2 = nI g) :
    Tm (fun k => x_tellName k 0 L σ) (fun r => FrM M P E.2.2.2.1 σ r.2 ∧ ((¬ tellC T n E c q v ∧ ∃ m, Bb (tlF T n E c q v) m r.2 ∧ b.1 ≤ m ∧ m ≤ b.1 + 1) ∨ (tellC T n E c q v ∧ r.1 = nI b.1 ∧ PS T n (rowN E [(tkS T n q, b.2.1, v)]) o (tkN T n q) (v + 1) (bNode (bKeep (bSlot b (60 * E.2.2.2.1 + v) (nI g)) T q (tkE T n q - q)) 31 (if E.2.2.2.1 = 0 then 0 else 1) (nI v) 0) r.2))) := by
  have h0 := h
  obtain ⟨⟨⟨a1, a2⟩, a3, a4, a5, ⟨c1, c2, c3, c4, c5, c6⟩, a6⟩, ⟨d1, d2⟩, ⟨e1, e2, e3, e4, e5⟩, ⟨f1, f2, f3, f4, f5⟩, ⟨⟨g1, g2, g3⟩, ⟨g4, g5, g6⟩, ⟨g7, g8, g9⟩⟩, ⟨i1, i2, i3⟩⟩ := h
  have hE := tkE_b T n q c1
  have hrow := rows_mRow (by omega) E.2.2.1 g6
  have hdup := dup_iff (c := c) (f := q) (e := tkE T n q) a3 (by omega) e5 E.2.2.1 g6
  -- a fault: the rest of the row is gone through
  have bl : ∀ (m k : Nat) (N : Nat → Int32) (ρ : MS), m + k = E.2.2.1.length → N 3 = nI k → ρ.2 = σ.2 → (∀ j, ¬ (10 ≤ j ∧ j ≤ 12) → ρ.1 j = σ.1 j) → ¬ ρ.1 10 = 0 → Tm (fun f => x_tellName f 2 N ρ) (fun r => r = (0, ρ)) := by
    intro m
    induction m with
    | zero =>
      intro k N ρ hk hN h2 hs hb
      refine Tm_suc (fun k => by rw [x_tellName]) ?_
      rw [hs 52 (by decide), g4, hN]
      refine Tm_ite (fun _ => ?_) (fun z => absurd ((n_le (by omega) (by omega)).mpr (by omega)) z)
      refine Tm_suc (fun k => by rw [x_tellName]) ?_
      refine Tm_ite (fun z => absurd z hb) (fun _ => ?_)
      refine Tm_suc (fun k => by rw [x_tellName]) ?_
      exact Tm_ite (fun z => absurd z hb) (fun _ => Tm_some rfl)
    | succ m ih =>
      intro k N ρ hk hN h2 hs hb
      obtain ⟨pp, ll, r1, r2, r3⟩ := hrow k (by omega)
      have h22 : ρ.2.2 = σ.2.2 := by rw [h2]
      refine Tm_suc (fun k => by rw [x_tellName]) ?_
      rw [hs 52 (by decide), g4, hN]
      refine Tm_ite (fun z => absurd ((n_le (by omega) (by omega)).mp z) (by omega)) (fun _ => ?_)
      refine Tm_chk (n_in (by omega) (by omega)) ?_
      refine Tm_chk (n_in (by omega) (by omega)) ?_
      rw [n_cl (p := k) (by omega), h22, r1, r2]
      refine Tm_ob (s_isNamed (σ := ρ) (f := q) (e := tkE T n q) (p := pp) (l := ll) ((hs 8 (by decide)).trans c2) ((hs 9 (by decide)).trans c4) hE.1 (by omega) r3 _ rfl rfl) (fun r4 hr4 => ?_)
      obtain ⟨u, τ⟩ := r4
      have hr41 : τ = ρ := hr4.1
      subst hr41
      have next : Tm (fun f => x_tellName f 3 N τ) (fun r => r = (0, τ)) := by
        refine Tm_suc (fun k => by rw [x_tellName]) ?_
        exact ih (k + 1) _ τ (by omega) (by rw [upd_same, hN, n_add1]) h2 hs hb
      refine Tm_ite (fun _ => next) (fun _ => ?_)
      refine Tm_ob (s_fault _ τ) (fun r6 hr6 => ?_)
      rw [if_neg hb] at hr6
      subst hr6
      exact next
  -- the end
  have fin : ∀ N : Nat → Int32, N 2 = nI g → (∀ j, c ≤ j → j < E.2.2.1.length → ¬ mIs σ q (tkE T n q - q) 25 26 j) → tkK T n q = 26 → Tm (fun f => x_tellName f 4 N σ) (fun r => FrM M P E.2.2.2.1 σ r.2 ∧ ((¬ tellC T n E c q v ∧ ∃ m, Bb (tlF T n E c q v) m r.2 ∧ b.1 ≤ m ∧ m ≤ b.1 + 1) ∨ (tellC T n E c q v ∧ r.1 = nI b.1 ∧ PS T n (rowN E [(tkS T n q, b.2.1, v)]) o (tkN T n q) (v + 1) (bNode (bKeep (bSlot b (60 * E.2.2.2.1 + v) (nI g)) T q (tkE T n q - q)) 31 (if E.2.2.2.1 = 0 then 0 else 1) (nI v) 0) r.2))) := by
    intro N hN2 hno hK
    have hsome : ((E.2.2.1.take (E.2.2.1.length - c)).find? (fun x => decide (x.1 = tkS T n q))).isSome = false := by
      apply eq_false_of_ne_true
      intro z
      obtain ⟨k, k1, k2, k3⟩ := hdup.mp z
      exact hno k k1 k2 k3
    refine Tm_suc (fun k => by rw [x_tellName]) ?_
    refine Tm_ite (fun _ => ?_) (fun z => absurd a5 z)
    refine Tm_suc (fun k => by rw [x_tellName]) ?_
    refine Tm_ob (p_newSlot (M := M) (P := P) h0 hg (by rw [upd_same]; exact hN2)) (fun r1 hr1 => ?_)
    obtain ⟨hF1, hr1⟩ := hr1
    rcases hr1 with ⟨hv, hB⟩ | ⟨hv, hr, hS1⟩
    · refine Tm_suc (fun k => by rw [x_tellName]) ?_
      refine Tm_ite (fun z => absurd z hB.1) (fun _ => ?_)
      exact Tm_some ⟨hF1, Or.inl ⟨fun z => z.2.2.1 hv, _, (by rw [tlF_8 hK hsome hv]; exact hB), Nat.le_refl _, by omega⟩⟩
    · subst hr
      refine Tm_suc (fun k => by rw [x_tellName]) ?_
      refine Tm_ite (fun _ => ?_) (fun z => absurd (PS_ok hS1) z)
      have hN3 : upd (upd N 100 (nI v)) 3 (upd N 100 (nI v) 100) 3 = nI v := by rw [upd_same, upd_same]
      generalize upd (upd N 100 (nI v)) 3 (upd N 100 (nI v) 100) = N1 at hN3
      refine Tm_suc (fun k => by rw [x_tellName]) ?_
      refine Tm_ob (p_keep (M := M) (P := P) (w := E.2.2.2.1) hS1 hP (f := q) (e := tkE T n q) hE.1 (by omega) (by rw [bSlot_p]; omega) (by rw [upd_other (by decide), upd_same]; exact c2) (by rw [upd_same]; exact c4)) (fun r2 hr2 => ?_)
      obtain ⟨hr2, hS2, hF2⟩ := hr2
      have h52 : (mSlot σ E.2.2.2.1 v (nI g)).1 52 = nI E.2.2.1.length := g4
      have k52 : r2.2.1 52 = nI E.2.2.1.length := hS2.2.2.2.2.1.2.1.1
      have k8 : r2.2.1 8 = nI q := hS2.1.2.2.2.2.1.2.1
      have k9 : r2.2.1 9 = nI (tkE T n q) := hS2.1.2.2.2.2.1.2.2.2.1
      have k1 : r2.1 = nI b.2.1 := by rw [hr2]; rfl
      have hi : ¬ (nI E.2.2.1.length < 0 ∨ 4000 ≤ (nI E.2.2.1.length).toNatClampNeg) := n_in (by omega) (by omega)
      have hcl : (nI E.2.2.1.length).toNatClampNeg = E.2.2.1.length := n_cl (by omega)
      rw [h52, k1]
      refine Tm_chk hi ?_
      refine Tm_suc (fun k => by rw [x_tellName]) ?_
      show Tm (fun k => if ¬ (r2.2.1 52 < 0 ∨ 4000 ≤ (r2.2.1 52).toNatClampNeg) then x_tellName k 9 N1 (r2.2.1, r2.2.2.1, updG (updG r2.2.2.2 25 (upd (r2.2.2.2 25) (nI E.2.2.1.length).toNatClampNeg (nI b.2.1))) 26 (upd ((updG r2.2.2.2 25 (upd (r2.2.2.2 25) (nI E.2.2.1.length).toNatClampNeg (nI b.2.1))) 26) (r2.2.1 52).toNatClampNeg (r2.2.1 9 - r2.2.1 8))) else none) _
      rw [k52, k8, k9, n_sub (by omega) hE.1]
      refine Tm_chk hi ?_
      refine Tm_suc (fun k => by rw [x_tellName]) ?_
      refine Tm_chk (c := ¬ (r2.2.1 52 < 0 ∨ 4000 ≤ (r2.2.1 52).toNatClampNeg)) (by rw [k52]; exact hi) ?_
      refine Tm_suc (fun k => by rw [x_tellName]) ?_
      -- the row is laid
      have hst : ((upd r2.2.1 52 (r2.2.1 52 + 1), r2.2.2.1, updG (updG (updG r2.2.2.2 25 (upd (r2.2.2.2 25) (nI E.2.2.1.length).toNatClampNeg (nI b.2.1))) 26 (upd ((updG r2.2.2.2 25 (upd (r2.2.2.2 25) (nI E.2.2.1.length).toNatClampNeg (nI b.2.1))) 26) (nI E.2.2.1.length).toNatClampNeg (nI (tkE T n q - q)))) 27 (upd ((updG (updG r2.2.2.2 25 (upd (r2.2.2.2 25) (nI E.2.2.1.length).toNatClampNeg (nI b.2.1))) 26 (upd ((updG r2.2.2.2 25 (upd (r2.2.2.2 25) (nI E.2.2.1.length).toNatClampNeg (nI b.2.1))) 26) (nI E.2.2.1.length).toNatClampNeg (nI (tkE T n q - q)))) 27) (r2.2.1 52).toNatClampNeg (N1 3))) : MS) = mRowP r2.2 E.2.2.1.length (nI b.2.1) (nI (tkE T n q - q)) (nI v) := by
        rw [k52, hcl, hN3, n_add1]; rfl
      show Tm (fun k => x_tellName k 11 N1 (upd r2.2.1 52 (r2.2.1 52 + 1), r2.2.2.1, updG (updG (updG r2.2.2.2 25 (upd (r2.2.2.2 25) (nI E.2.2.1.length).toNatClampNeg (nI b.2.1))) 26 (upd ((updG r2.2.2.2 25 (upd (r2.2.2.2 25) (nI E.2.2.1.length).toNatClampNeg (nI b.2.1))) 26) (nI E.2.2.1.length).toNatClampNeg (nI (tkE T n q - q)))) 27 (upd ((updG (updG r2.2.2.2 25 (upd (r2.2.2.2 25) (nI E.2.2.1.length).toNatClampNeg (nI b.2.1))) 26 (upd ((updG r2.2.2.2 25 (upd (r2.2.2.2 25) (nI E.2.2.1.length).toNatClampNeg (nI b.2.1))) 26) (nI E.2.2.1.length).toNatClampNeg (nI (tkE T n q - q)))) 27) (r2.2.1 52).toNatClampNeg (N1 3)))) _
      rw [hst]
      have hsl : (tkS T n q).length = tkE T n q - q := seg_len _ _ _
      have hS3 := PS_row hS2 (tkS T n q, b.2.1, v) (by omega) (by show b.2.1 + (tkS T n q).length ≤ b.2.1 + (tkE T n q - q); rw [hsl]; exact Nat.le_refl _) hv (fun i hi => by
        have hi : i < (tkS T n q).length := hi
        rw [hsl] at hi
        show (if b.2.1 ≤ b.2.1 + i ∧ b.2.1 + i < b.2.1 + (tkE T n q - q) then T (q + (b.2.1 + i - b.2.1)) else _) = (tkS T n q).getD i 0
        rw [if_pos (by omega), show b.2.1 + i - b.2.1 = i by omega]
        exact (seg_at hi).symm)
      rw [hsl] at hS3
      have hF3 : FrM M P E.2.2.2.1 σ (mRowP r2.2 E.2.2.1.length (nI b.2.1) (nI (tkE T n q - q)) (nI v)) := FrM_tr hF1 (FrM_tr hF2 FrM_row)
      generalize mRowP r2.2 E.2.2.1.length (nI b.2.1) (nI (tkE T n q - q)) (nI v) = ρ at hS3 hF3
      -- the node, then the next token
      have last : ∀ N : Nat → Int32, N 101 = 31 → N 100 = (if E.2.2.2.1 = 0 then 0 else 1) → N 3 = nI v → Tm (fun f => x_tellName f 13 N ρ) (fun r => FrM M P E.2.2.2.1 σ r.2 ∧ ((¬ tellC T n E c q v ∧ ∃ m, Bb (tlF T n E c q v) m r.2 ∧ b.1 ≤ m ∧ m ≤ b.1 + 1) ∨ (tellC T n E c q v ∧ r.1 = nI b.1 ∧ PS T n (rowN E [(tkS T n q, b.2.1, v)]) o (tkN T n q) (v + 1) (bNode (bKeep (bSlot b (60 * E.2.2.2.1 + v) (nI g)) T q (tkE T n q - q)) 31 (if E.2.2.2.1 = 0 then 0 else 1) (nI v) 0) r.2))) := by
        intro N n1 n2 n3
        refine Tm_suc (fun k => by rw [x_tellName]) ?_
        refine Tm_ob (p_node (M := M) (P := P) (w := E.2.2.2.1) hS3 (by rw [bKeep_1, bSlot_1]; omega) (by rw [bKeep_1, bSlot_1]; omega) _) (fun r8 hr8 => ?_)
        obtain ⟨hr81, hS8, hF8⟩ := hr8
        have m1 : (upd (upd (upd (upd (fun _ => (0 : Int32)) 1 (N 101)) 2 (N 100)) 3 (N 3)) 4 0) 1 = 31 := by rw [upd_other (by decide), upd_other (by decide), upd_other (by decide), upd_same]; exact n1
        have m2 : (upd (upd (upd (upd (fun _ => (0 : Int32)) 1 (N 101)) 2 (N 100)) 3 (N 3)) 4 0) 2 = (if E.2.2.2.1 = 0 then 0 else 1) := by rw [upd_other (by decide), upd_other (by decide), upd_same]; exact n2
        have m3 : (upd (upd (upd (upd (fun _ => (0 : Int32)) 1 (N 101)) 2 (N 100)) 3 (N 3)) 4 0) 3 = nI v := by rw [upd_other (by decide), upd_same]; exact n3
        rw [m1, m2, m3] at hS8
        refine Tm_ob (p_take (M := M) (P := P) (w := E.2.2.2.1) hS8 _) (fun r9 hr9 => ?_)
        refine Tm_some ⟨FrM_tr hF3 (FrM_tr hF8 hr9.1), ?_⟩
        rcases hr9.2 with ⟨z, hB⟩ | ⟨z, hS9⟩
        · exact Or.inl ⟨fun y => y.2.2.2 z, _, (by rw [tlF_1 hK hsome (by omega)]; exact hB), by rw [bNode_1, bKeep_1, bSlot_1]; omega, by rw [bNode_1, bKeep_1, bSlot_1]; omega⟩
        · exact Or.inr ⟨⟨hK, hsome, by omega, z⟩, hr81, hS9⟩
      refine Tm_suc (fun k => by rw [x_tellName]) ?_
      have k37 : ρ.1 37 = nI E.2.2.2.1 := hS3.2.2.2.1.1
      rw [k37]
      refine Tm_ite (fun z => ?_) (fun z => ?_)
      · have z : nI E.2.2.2.1 ≤ nI 0 := z
        rw [n_le (by omega) (by omega)] at z
        refine Tm_suc (fun k => by rw [x_tellName]) ?_
        refine last _ ?_ ?_ ?_
        · rw [upd_same, upd_same]
        · rw [upd_other (by decide), upd_same, if_pos (by omega)]
        · rw [upd_other (by decide), upd_other (by decide), upd_other (by decide)]; exact hN3
      · have z : ¬ nI E.2.2.2.1 ≤ nI 0 := z
        rw [n_le (by omega) (by omega)] at z
        refine last _ ?_ ?_ ?_
        · rw [upd_same]
        · rw [upd_other (by decide), upd_same, if_neg (by omega)]
        · rw [upd_other (by decide), upd_other (by decide)]; exact hN3
  have gl : tkK T n q = 26 → ∀ (m k : Nat) (N : Nat → Int32), m + k = E.2.2.1.length → c ≤ k → N 3 = nI k → N 2 = nI g → (∀ j, c ≤ j → j < k → ¬ mIs σ q (tkE T n q - q) 25 26 j) → Tm (fun f => x_tellName f 2 N σ) (fun r => FrM M P E.2.2.2.1 σ r.2 ∧ ((¬ tellC T n E c q v ∧ ∃ m, Bb (tlF T n E c q v) m r.2 ∧ b.1 ≤ m ∧ m ≤ b.1 + 1) ∨ (tellC T n E c q v ∧ r.1 = nI b.1 ∧ PS T n (rowN E [(tkS T n q, b.2.1, v)]) o (tkN T n q) (v + 1) (bNode (bKeep (bSlot b (60 * E.2.2.2.1 + v) (nI g)) T q (tkE T n q - q)) 31 (if E.2.2.2.1 = 0 then 0 else 1) (nI v) 0) r.2))) := by
    intro hK m
    induction m with
    | zero =>
      intro k N hk hck hN hN2 hno
      refine Tm_suc (fun k => by rw [x_tellName]) ?_
      rw [g4, hN]
      refine Tm_ite (fun _ => fin N hN2 (fun j h1 h2 => hno j h1 (by omega)) hK) (fun z => absurd ((n_le (by omega) (by omega)).mpr (by omega)) z)
    | succ m ih =>
      intro k N hk hck hN hN2 hno
      obtain ⟨pp, ll, r1, r2, r3⟩ := hrow k (by omega)
      refine Tm_suc (fun k => by rw [x_tellName]) ?_
      rw [g4, hN]
      refine Tm_ite (fun z => absurd ((n_le (by omega) (by omega)).mp z) (by omega)) (fun _ => ?_)
      refine Tm_chk (n_in (by omega) (by omega)) ?_
      refine Tm_chk (n_in (by omega) (by omega)) ?_
      rw [n_cl (p := k) (by omega), r1, r2]
      refine Tm_ob (s_isNamed (f := q) (e := tkE T n q) (p := pp) (l := ll) c2 c4 hE.1 (by omega) r3 _ rfl rfl) (fun r4 hr4 => ?_)
      obtain ⟨u, τ⟩ := r4
      have hr41 : τ = σ := hr4.1
      subst hr41
      have hiff := mIs_iff (f := q) (m := tkE T n q - q) (show mRow τ 25 26 k pp ll from ⟨r1, r2, r3⟩)
      refine Tm_ite (fun z => ?_) (fun z => ?_)
      · refine Tm_suc (fun k => by rw [x_tellName]) ?_
        refine ih (k + 1) _ (by omega) (by omega) (by rw [upd_same, hN, n_add1]) (by rw [upd_other (by decide)]; exact hN2) (fun j h1 h2 => ?_)
        by_cases hj : j = k
        · subst hj; exact fun y => hr4.2.mpr (hiff.mp y) z
        · exact hno j h1 (by omega)
      · have hm4 := hiff.mpr (hr4.2.mp z)
        refine Tm_ob (s_fault _ τ) (fun r6 hr6 => ?_)
        have hfl := flt_b (M := M) (P := P) (w := E.2.2.2.1) (yf := (4, q)) a5 e1 (x := upd (upd (fun _ => (0 : Int32)) 1 4) 2 (τ.1 8) 1) (y := upd (upd (fun _ => (0 : Int32)) 1 4) 2 (τ.1 8) 2) (by rfl) (by rw [upd_same]; exact c2)
        have hr62 : r6.2 = mFlt τ (upd (upd (fun _ => (0 : Int32)) 1 4) 2 (τ.1 8) 1) (upd (upd (fun _ => (0 : Int32)) 1 4) 2 (τ.1 8) 2) := by rw [hr6]; rfl
        rw [← hr62] at hfl
        refine Tm_suc (fun k => by rw [x_tellName]) ?_
        refine Tm_mono (bl m (k + 1) _ r6.2 (by omega) (by rw [upd_same, hN, n_add1]) ?_ (fun j hj => ?_) hfl.1.1) (fun r hr => ?_)
        · rw [hr62]; unfold mFlt; rw [if_pos a5]
        · rw [hr62]; unfold mFlt; rw [if_pos a5]
          show upd (upd (upd τ.1 10 1) 11 _) 12 _ j = _
          rw [upd_other (by omega), upd_other (by omega), upd_other (by omega)]
        · rw [hr]
          refine ⟨hfl.2, Or.inl ⟨fun y => ?_, _, (by rw [tlF_4 hK (hdup.mpr ⟨k, hck, by omega, hm4⟩)]; exact hfl.1), Nat.le_refl _, by omega⟩⟩
          have := hdup.mpr ⟨k, hck, by omega, hm4⟩
          have y2 := y.2.1
          rw [show tkS T n q = seg T q (tkE T n q) from rfl, this] at y2
          exact absurd y2 (by decide)
  refine Tm_suc (fun k => by rw [x_tellName]) ?_
  refine Tm_ob (p_wantName (M := M) (P := P) (w := E.2.2.2.1) h0 _) (fun r1 hr1 => ?_)
  rcases hr1.2 with ⟨hK, hB⟩ | ⟨hK, hr⟩
  · refine Tm_ite (fun z => absurd z hB.1) (fun _ => ?_)
    exact Tm_some ⟨hr1.1, Or.inl ⟨fun z => hK z.1, _, (by rw [tlF_2 hK]; exact hB), Nat.le_refl _, by omega⟩⟩
  · obtain ⟨u, τ⟩ := r1
    have hr : τ = σ := hr
    subst hr
    refine Tm_ite (fun _ => ?_) (fun z => absurd a5 z)
    refine Tm_suc (fun k => by rw [x_tellName]) ?_
    exact gl hK (E.2.2.1.length - c) c _ (by omega) (Nat.le_refl _) (by rw [upd_same]; exact hL1) (by rw [upd_other (by decide)]; exact hL2) (fun j h1 h2 => by omega)
end TELL
end JnS37
section JnS38
/-! Patterns. -/
theorem g_ns18 (T : Nat → Int32) (n : Nat) : ∀ (f : Nat) (E : En) (o q v e c g : Nat) (b : BT) (r : RT), G T n f 18 E o q v 0 e c g b = some (Sum.inr r) → v + r.2.2.2.2.2.length ≤ r.2.1
  | 0 => fun E o q v e c g b r hG => by simp only [G] at hG; cases hG
  | f + 1 => fun E o q v e c g b r hG => by
    rw [G_18] at hG
    by_cases c1 : tkK T n q = 12
    · rw [if_pos c1] at hG
      obtain ⟨_, hG⟩ := gT_s hG
      obtain ⟨_, _, hG⟩ := gN_s hG
      obtain ⟨s, h1, hG⟩ := gb_s hG
      have := g_ns18 T n f _ _ _ _ _ _ _ _ _ h1
      cases hG
      show v + (s.2.2.2.2.2 ++ [_]).length ≤ s.2.1
      rw [List.length_append]
      show v + (s.2.2.2.2.2.length + 1) ≤ _
      omega
    · rw [if_neg c1] at hG
      cases hG
      exact Nat.le_refl v
section PAT
variable {T : Nat → Int32} {n : Nat} {o M P c g : Nat}
theorem b_wantName {σ : MS} (h : ¬ σ.1 10 = 0) (L : Nat → Int32) : Tm (fun k => x_wantName k 0 L σ) (fun r => r.2 = σ) := by
  refine Tm_suc (fun k => by rw [x_wantName]) ?_
  refine Tm_ite (fun c => absurd c h) (fun _ => ?_)
  refine Tm_suc (fun k => by rw [x_wantName]) ?_
  exact Tm_some rfl
theorem b_tellName {σ : MS} (h : ¬ σ.1 10 = 0) (L : Nat → Int32) : Tm (fun k => x_tellName k 0 L σ) (fun r => r = (0, σ)) := by
  refine Tm_suc (fun k => by rw [x_tellName]) ?_
  refine Tm_ob (b_wantName h _) (fun r hr => ?_)
  obtain ⟨u, τ⟩ := r
  have hr : τ = σ := hr
  subst hr
  exact Tm_ite (fun c => absurd c h) (fun _ => Tm_some rfl)
theorem rowN_rowN {E : En} {a d : List Nm} : rowN (rowN E a) d = rowN E (d ++ a) := by
  unfold rowN; rw [List.append_assoc]
theorem rowN_nil {E : En} : rowN E [] = E := rfl
theorem seeN_nil {E : En} : seeN E [] = E := rfl
/-- names of a pattern behind the first -/
theorem pat_loop : ∀ (f : Nat) (E : En) (q v e : Nat) (b : BT) (y : Fl RT), G T n f 18 E o q v 0 e c g b = some y → ∀ (σ : MS) (N : Nat → Int32) (Q : Int32 × MS → Prop), PS T n E o q v b σ → 1 ≤ M → M ≤ b.1 → P ≤ b.2.1 → b.1 + (n + 1 - q) + 3 ≤ 70000 → b.2.1 + (n - q) ≤ 70000 → c ≤ E.2.2.1.length → g ≤ 1 → N 1 = nI c → N 2 = nI g → N 4 = nI e → M ≤ e → e < b.1 →
    (∀ (ρ : MS) (N' : Nat → Int32), N' 3 = N 3 → FrM M P E.2.2.2.1 σ ρ → (match y with
      | Sum.inl yf => ∃ m, Bb yf m ρ ∧ M ≤ m ∧ m ≤ b.1 + (n + 1 - q) + 1
      | Sum.inr s => PS T n (rowN E s.2.2.2.2.2) o s.1 s.2.1 s.2.2.2.2.1 ρ) → Tm (fun k => x_pattern k 5 N' ρ) Q) → Tm (fun k => x_pattern k 2 N σ) Q
  | 0 => fun E q v e b y hG => by simp only [G] at hG; cases hG
  | f + 1 => fun E q v e b y hG σ N Q hS h1 hM hP hn hp hc hg hN1 hN2 hN4 he1 he2 hout => by
    rw [G_18] at hG
    have hq := PS_q hS
    have hv := PS_v hS
    have hu := tkN_b T n q hq.1
    refine Tm_suc (fun k => by rw [x_pattern]) ?_
    refine Tm_ite (fun _ => ?_) (fun z => absurd (PS_ok hS) z)
    refine Tm_ob (p_sign hS (s := 12) (by decide) (by decide) rfl) (fun r2 hr2 => ?_)
    obtain ⟨u, τ⟩ := r2
    obtain ⟨h3, hr2⟩ := hr2
    have h3 : τ = σ := h3
    subst h3
    refine Tm_ite (fun z => ?_) (fun z => ?_)
    · rw [if_neg (fun y => hr2.mpr y z)] at hG
      cases hG
      exact hout τ N rfl FrM_rf (by show PS T n (rowN E []) o q v b τ; rw [rowN_nil]; exact hS)
    have hK := hr2.mp z
    rw [if_pos hK] at hG
    have hu4 := hu.2.2.2 (by omega)
    -- a fault: out of the loop
    have out : ∀ {yf : Nat × Nat} (ρ : MS) (N' : Nat → Int32) (m : Nat), y = Sum.inl yf → N' 3 = N 3 → Bb yf m ρ → M ≤ m → m ≤ b.1 + (n + 1 - q) + 1 → FrM M P E.2.2.2.1 τ ρ → Tm (fun k => x_pattern k 4 N' ρ) Q := fun ρ N' m hy hN' hB hMm hm hF => by
      subst hy
      refine Tm_suc (fun k => by rw [x_pattern]) ?_
      refine Tm_suc (fun k => by rw [x_pattern]) ?_
      refine Tm_ite (fun z => absurd z hB.1) (fun _ => ?_)
      exact hout ρ N' hN' hF ⟨m, hB, hMm, hm⟩
    refine Tm_ob (p_take (M := M) (P := P) (w := E.2.2.2.1) hS _) (fun r4 hr4 => ?_)
    rcases gT_any hG with ⟨t1, hy⟩ | ⟨t1, hG⟩
    · rcases hr4.2 with ⟨_, hB⟩ | ⟨z, _⟩
      · refine Tm_ob (b_tellName hB.1 _) (fun r5 hr5 => ?_)
        subst hr5
        refine Tm_ite (fun z => absurd z hB.1) (fun _ => ?_)
        exact out r4.2 _ _ hy (upd_other (by decide)) hB hM (by omega) hr4.1
      · exact absurd t1 z
    rcases hr4.2 with ⟨z, _⟩ | ⟨_, hS4⟩
    · exact absurd z t1
    have hw := tkN_b T n (tkN T n q) hu.2.1
    have hwE := tkE_b T n (tkN T n q) hu.2.1
    refine Tm_ob (p_tellName (M := M) (P := P) hS4 hP hM (by omega) (by omega) hc hg (by rw [upd_other (by decide), upd_same]; exact hN1) (by rw [upd_same]; exact hN2)) (fun r5 hr5 => ?_)
    rcases gN_any hG with ⟨t2, hy⟩ | ⟨t2, hG⟩
    · rcases hr5.2 with ⟨_, m, hB, hm1, hm2⟩ | ⟨z, _⟩
      · refine Tm_ite (fun z => absurd z hB.1) (fun _ => ?_)
        exact out r5.2 _ m hy (upd_other (by decide)) hB (by omega) (by omega) (FrM_tr hr4.1 hr5.1)
      · exact absurd z t2
    rcases hr5.2 with ⟨z, _⟩ | ⟨_, hr51, hS5⟩
    · exact absurd t2 z
    have hwu := hw.2.2.2 (by have := t2.1; omega)
    refine Tm_ite (fun _ => ?_) (fun z => absurd (PS_ok hS5) z)
    rw [hN4, hr51]
    refine Tm_chk (n_in (by omega) (by omega)) ?_
    rw [n_cl (p := e) (by omega)]
    refine Tm_suc (fun k => by rw [x_pattern]) ?_
    refine Tm_suc (fun k => by rw [x_pattern]) ?_
    have hS6 := PS_set (l := e) hS5 (j := 9) (by decide) (by decide) (nI b.1)
    have hF6 : FrM M P E.2.2.2.1 τ (mSet r5.2 9 e (nI b.1)) := FrM_tr hr4.1 (FrM_tr hr5.1 (FrM_set (by decide) (by decide) (Or.inr he1) _))
    have hb1 : (bSet (bNode (bKeep (bSlot b (60 * E.2.2.2.1 + v) (nI g)) T (tkN T n q) (tkE T n (tkN T n q) - tkN T n q)) 31 (if E.2.2.2.1 = 0 then 0 else 1) (nI v) 0) 9 e (nI b.1)).1 = b.1 + 1 := rfl
    have hbp : (bSet (bNode (bKeep (bSlot b (60 * E.2.2.2.1 + v) (nI g)) T (tkN T n q) (tkE T n (tkN T n q) - tkN T n q)) 31 (if E.2.2.2.1 = 0 then 0 else 1) (nI v) 0) 9 e (nI b.1)).2.1 = b.2.1 + (tkE T n (tkN T n q) - tkN T n q) := rfl
    have fin : ∀ (y' : Fl RT), G T n f 18 (rowN E [(tkS T n (tkN T n q), b.2.1, v)]) o (tkN T n (tkN T n q)) (v + 1) 0 b.1 c g (bSet (bNode (bKeep (bSlot b (60 * E.2.2.2.1 + v) (nI g)) T (tkN T n q) (tkE T n (tkN T n q) - tkN T n q)) 31 (if E.2.2.2.1 = 0 then 0 else 1) (nI v) 0) 9 e (nI b.1)) = some y' → (match y' with | Sum.inl yf => y = Sum.inl yf | Sum.inr r => y = Sum.inr (r.1, r.2.1, 0, 0, r.2.2.2.2.1, r.2.2.2.2.2 ++ [(tkS T n (tkN T n q), b.2.1, v)])) → Tm (fun k => x_pattern k 2 (upd (upd N 5 (nI b.1)) 4 (upd N 5 (nI b.1) 5)) (mSet r5.2 9 e (nI b.1))) Q := fun y' hy' hyy => by
      refine pat_loop f _ _ _ _ _ y' hy' _ _ Q hS6 h1 (by rw [hb1]; omega) (by rw [hbp]; omega) (by rw [hb1]; omega) (by rw [hbp]; omega) (by show c ≤ E.2.2.1.length + 1; omega) hg ?_ ?_ ?_ (by omega) (by rw [hb1]; omega) (fun ρ N' hN' hF hm => ?_)
      · rw [upd_other (by decide), upd_other (by decide)]; exact hN1
      · rw [upd_other (by decide), upd_other (by decide)]; exact hN2
      · rw [upd_same, upd_same]
      refine hout ρ N' (hN'.trans (by rw [upd_other (by decide), upd_other (by decide)])) (FrM_tr hF6 hF) ?_
      cases y' with
      | inl yf =>
        have hyy : y = Sum.inl yf := hyy
        subst hyy
        obtain ⟨m, k1, k2, k3⟩ := hm
        exact ⟨m, k1, k2, by rw [hb1] at k3; omega⟩
      | inr r =>
        have hyy : y = Sum.inr (r.1, r.2.1, 0, 0, r.2.2.2.2.1, r.2.2.2.2.2 ++ [(tkS T n (tkN T n q), b.2.1, v)]) := hyy
        subst hyy
        have hm : PS T n (rowN (rowN E [(tkS T n (tkN T n q), b.2.1, v)]) r.2.2.2.2.2) o r.1 r.2.1 r.2.2.2.2.1 ρ := hm
        rw [rowN_rowN] at hm
        exact hm
    rcases gb_any hG with ⟨yf, h7, hy⟩ | ⟨s, h7, hG⟩
    · exact fin (Sum.inl yf) h7 hy
    · exact fin (Sum.inr s) h7 (Option.some.inj hG).symm
/-- a pattern, from its [ on; behind it K -/
theorem p_pattern {f q v : Nat} {E : En} {b : BT} {x : Fl RT} {σ : MS} {K : Nat → RT → Nat → Nm → RG}
    (hG : gO o q (gT T n q (fun q1 => gN T n E c g q1 v b (fun q2 v2 e2 b2 nm => gb (G T n f 18 (rowN E [nm]) (o + 1) q2 v2 0 e2 c g b2) (fun r => gW T n 11 r.1 (fun q3 => K q3 r e2 nm))))) = some x)
    (hK : tkK T n q = 10) (hS : PS T n E o q v b σ) (h1 : 1 ≤ M) (hM : M ≤ b.1) (hP : P ≤ b.2.1) (hn : b.1 + (n + 1 - q) + 4 ≤ 70000) (hp : b.2.1 + (n - q) ≤ 70000) (hc : c ≤ E.2.2.1.length) (hg : g ≤ 1) {L : Nat → Int32} (hL1 : L 1 = nI c) (hL2 : L 2 = nI g) :
    Tm (fun k => x_pattern k 0 L σ) (fun r => FrM M P E.2.2.2.1 σ r.2 ∧ ((∃ m yf, x = Sum.inl yf ∧ Bb yf m r.2 ∧ M ≤ m ∧ m ≤ b.1 + (n + 1 - q) + 1) ∨ ∃ (q3 : Nat) (s : RT) (e2 : Nat) (nm : Nm), K q3 s e2 nm = some x ∧ PS T n (rowN E (s.2.2.2.2.2 ++ [nm])) o q3 s.2.1 s.2.2.2.2.1 r.2 ∧ r.1 = nI e2 ∧ M ≤ e2 ∧ e2 < s.2.2.2.2.1.1 ∧ q < q3 ∧ b.1 ≤ s.2.2.2.2.1.1 ∧ s.2.2.2.2.1.1 + q + 1 ≤ b.1 + q3 ∧ b.2.1 ≤ s.2.2.2.2.1.2.1 ∧ s.2.2.2.2.1.2.1 + q ≤ b.2.1 + q3 ∧ v + (s.2.2.2.2.2 ++ [nm]).length ≤ s.2.1)) := by
  have hq := PS_q hS
  have hv := PS_v hS
  have hu := tkN_b T n q hq.1
  have hu4 := hu.2.2.2 (by omega)
  have hw := tkN_b T n (tkN T n q) hu.2.1
  have hwE := tkE_b T n (tkN T n q) hu.2.1
  -- behind a fault
  have bend : ∀ {yf : Nat × Nat} (ρ : MS) (m : Nat) (N : Nat → Int32), x = Sum.inl yf → Bb yf m ρ → M ≤ m → m ≤ b.1 + (n + 1 - q) + 1 → FrM M P E.2.2.2.1 σ ρ → Tm (fun k => x_pattern k 5 N ρ) (fun r => FrM M P E.2.2.2.1 σ r.2 ∧ ((∃ m yf, x = Sum.inl yf ∧ Bb yf m r.2 ∧ M ≤ m ∧ m ≤ b.1 + (n + 1 - q) + 1) ∨ ∃ (q3 : Nat) (s : RT) (e2 : Nat) (nm : Nm), K q3 s e2 nm = some x ∧ PS T n (rowN E (s.2.2.2.2.2 ++ [nm])) o q3 s.2.1 s.2.2.2.2.1 r.2 ∧ r.1 = nI e2 ∧ M ≤ e2 ∧ e2 < s.2.2.2.2.1.1 ∧ q < q3 ∧ b.1 ≤ s.2.2.2.2.1.1 ∧ s.2.2.2.2.1.1 + q + 1 ≤ b.1 + q3 ∧ b.2.1 ≤ s.2.2.2.2.1.2.1 ∧ s.2.2.2.2.1.2.1 + q ≤ b.2.1 + q3 ∧ v + (s.2.2.2.2.2 ++ [nm]).length ≤ s.2.1)) := fun ρ m N hx hB hMm hm hF => by
    refine Tm_suc (fun k => by rw [x_pattern]) ?_
    refine Tm_ob (b_want hB.1 _) (fun r1 hr1 => ?_)
    obtain ⟨u, τ⟩ := r1
    have hr1 : τ = ρ := hr1
    subst hr1
    refine Tm_suc (fun k => by rw [x_pattern]) ?_
    exact Tm_some ⟨FrM_tr hF (FrM_opn _), Or.inl ⟨m, _, hx, Bb_opn hB _, hMm, hm⟩⟩
  have bone : ∀ {yf : Nat × Nat} (ρ : MS) (N : Nat → Int32), x = Sum.inl yf → Bb yf b.1 ρ → FrM M P E.2.2.2.1 σ ρ → Tm (fun k => x_pattern k 1 N ρ) (fun r => FrM M P E.2.2.2.1 σ r.2 ∧ ((∃ m yf, x = Sum.inl yf ∧ Bb yf m r.2 ∧ M ≤ m ∧ m ≤ b.1 + (n + 1 - q) + 1) ∨ ∃ (q3 : Nat) (s : RT) (e2 : Nat) (nm : Nm), K q3 s e2 nm = some x ∧ PS T n (rowN E (s.2.2.2.2.2 ++ [nm])) o q3 s.2.1 s.2.2.2.2.1 r.2 ∧ r.1 = nI e2 ∧ M ≤ e2 ∧ e2 < s.2.2.2.2.1.1 ∧ q < q3 ∧ b.1 ≤ s.2.2.2.2.1.1 ∧ s.2.2.2.2.1.1 + q + 1 ≤ b.1 + q3 ∧ b.2.1 ≤ s.2.2.2.2.1.2.1 ∧ s.2.2.2.2.1.2.1 + q ≤ b.2.1 + q3 ∧ v + (s.2.2.2.2.2 ++ [nm]).length ≤ s.2.1)) := fun ρ N hx hB hF => by
    refine Tm_suc (fun k => by rw [x_pattern]) ?_
    refine Tm_ob (b_tellName hB.1 _) (fun r5 hr5 => ?_)
    subst hr5
    refine Tm_suc (fun k => by rw [x_pattern]) ?_
    refine Tm_ite (fun z => absurd z hB.1) (fun _ => ?_)
    exact bend ρ _ _ hx hB hM (by omega) hF
  refine Tm_suc (fun k => by rw [x_pattern]) ?_
  refine Tm_ob (p_open (M := M) (P := P) (w := E.2.2.2.1) hS _) (fun r1 hr1 => ?_)
  rcases gO_any hG with ⟨t0, hx⟩ | ⟨t0, hG⟩
  · rcases hr1.2 with ⟨_, hB⟩ | ⟨z, _⟩
    · exact Tm_ite (fun c => absurd c hB.1) (fun _ => bone r1.2 _ hx hB hr1.1)
    · omega
  rcases hr1.2 with ⟨z, _⟩ | ⟨ho2, hS1, _⟩
  · exact absurd z t0
  refine Tm_ite (fun _ => ?_) (fun c => absurd (PS_ok hS1) c)
  refine Tm_ob (p_take (M := M) (P := P) (w := E.2.2.2.1) hS1 _) (fun r3 hr3 => ?_)
  rcases gT_any hG with ⟨t1, hx⟩ | ⟨t1, hG⟩
  · rcases hr3.2 with ⟨_, hB⟩ | ⟨z, _⟩
    · exact bone r3.2 _ hx hB (FrM_tr hr1.1 hr3.1)
    · exact absurd t1 z
  rcases hr3.2 with ⟨z, _⟩ | ⟨_, hS3⟩
  · exact absurd z t1
  refine Tm_suc (fun k => by rw [x_pattern]) ?_
  refine Tm_ob (p_tellName (M := M) (P := P) hS3 hP hM (by omega) (by omega) hc hg (by rw [upd_other (by decide), upd_same]; exact hL1) (by rw [upd_same]; exact hL2)) (fun r5 hr5 => ?_)
  have hF5 := FrM_tr hr1.1 (FrM_tr hr3.1 hr5.1)
  rcases gN_any hG with ⟨t2, hx⟩ | ⟨t2, hG⟩
  · rcases hr5.2 with ⟨_, m, hB, hm1, hm2⟩ | ⟨z, _⟩
    · refine Tm_suc (fun k => by rw [x_pattern]) ?_
      refine Tm_ite (fun z => absurd z hB.1) (fun _ => ?_)
      exact bend r5.2 m _ hx hB (by omega) (by omega) hF5
    · exact absurd z t2
  rcases hr5.2 with ⟨z, _⟩ | ⟨_, hr51, hS5⟩
  · exact absurd t2 z
  have hwu := hw.2.2.2 (by have := t2.1; omega)
  have hb1 : (bNode (bKeep (bSlot b (60 * E.2.2.2.1 + v) (nI g)) T (tkN T n q) (tkE T n (tkN T n q) - tkN T n q)) 31 (if E.2.2.2.1 = 0 then 0 else 1) (nI v) 0).1 = b.1 + 1 := rfl
  have hbp : (bNode (bKeep (bSlot b (60 * E.2.2.2.1 + v) (nI g)) T (tkN T n q) (tkE T n (tkN T n q) - tkN T n q)) 31 (if E.2.2.2.1 = 0 then 0 else 1) (nI v) 0).2.1 = b.2.1 + (tkE T n (tkN T n q) - tkN T n q) := rfl
  -- the loop gives a fault or a row
  obtain ⟨y, h7, hy⟩ : ∃ y, G T n f 18 (rowN E [(tkS T n (tkN T n q), b.2.1, v)]) (o + 1) (tkN T n (tkN T n q)) (v + 1) 0 b.1 c g (bNode (bKeep (bSlot b (60 * E.2.2.2.1 + v) (nI g)) T (tkN T n q) (tkE T n (tkN T n q) - tkN T n q)) 31 (if E.2.2.2.1 = 0 then 0 else 1) (nI v) 0) = some y ∧ (match y with | Sum.inl yf => x = Sum.inl yf | Sum.inr r => gW T n 11 r.1 (fun q3 => K q3 r b.1 (tkS T n (tkN T n q), b.2.1, v)) = some x) := by
    rcases gb_any hG with ⟨yf, h7, hy⟩ | ⟨s, h7, hG⟩
    · exact ⟨Sum.inl yf, h7, hy⟩
    · exact ⟨Sum.inr s, h7, hG⟩
  refine pat_loop (M := M) (P := P) f _ _ _ _ _ y h7 r5.2 _ _ hS5 h1 (by rw [hb1]; omega) (by rw [hbp]; omega) (by rw [hb1]; omega) (by rw [hbp]; omega) (by show c ≤ E.2.2.1.length + 1; omega) hg ?_ ?_ ?_ hM (by rw [hb1]; omega) (fun ρ N' hN' hF hm => ?_)
  · rw [upd_other (by decide), upd_other (by decide)]; exact hL1
  · rw [upd_other (by decide), upd_other (by decide)]; exact hL2
  · rw [upd_same]; exact hr51
  cases y with
  | inl yf =>
    have hx : x = Sum.inl yf := hy
    obtain ⟨m, k1, k2, k3⟩ := hm
    exact bend ρ m N' hx k1 k2 (by rw [hb1] at k3; omega) (FrM_tr hF5 hF)
  | inr s =>
    have hG : gW T n 11 s.1 (fun q3 => K q3 s b.1 (tkS T n (tkN T n q), b.2.1, v)) = some x := hy
    have hm : PS T n (rowN (rowN E [(tkS T n (tkN T n q), b.2.1, v)]) s.2.2.2.2.2) (o + 1) s.1 s.2.1 s.2.2.2.2.1 ρ := hm
    rw [rowN_rowN] at hm
    obtain ⟨x1, _⟩ := g_mono T n f 18 _ _ _ _ _ _ _ _ _ s hw.2.1 (PS_v hS5) h7 M (by rw [hb1]; omega) h1 trivial
    obtain ⟨a1, a2, a3, a4, a5, a6, a7, a8⟩ := (x1 : Mo n _ _ _ s)
    rw [hb1] at a5 a6
    rw [hbp] at a7 a8
    have hws := tkN_b T n s.1 a2
    clear hr5
    have z1 : M ≤ s.2.2.2.2.1.1 := by omega
    have z2 : s.2.2.2.2.1.1 ≤ b.1 + (n + 1 - q) + 1 := by omega
    refine Tm_suc (fun k => by rw [x_pattern]) ?_
    refine Tm_ob (p_want (M := M) (P := P) (w := E.2.2.2.1) hm (s := 11) (by decide) (by decide) rfl) (fun r6 hr6 => ?_)
    refine Tm_suc (fun k => by rw [x_pattern]) ?_
    have hF6 : FrM M P E.2.2.2.1 σ (mOpn r6.2 (r6.2.1 13 - 1)) := FrM_tr hF5 (FrM_tr hF (FrM_tr hr6.1 (FrM_opn _)))
    rcases gW_any hG with ⟨t6, hx⟩ | ⟨t6, hG⟩
    · rcases hr6.2 with ⟨_, hB⟩ | ⟨z, _⟩
      · exact Tm_some ⟨hF6, Or.inl ⟨s.2.2.2.2.1.1, _, hx, Bb_opn hB _, z1, z2⟩⟩
      · exact absurd z t6
    rcases hr6.2 with ⟨z, _⟩ | ⟨_, hS6⟩
    · exact absurd t6 z
    have hws4 := hws.2.2.2 (by rw [t6.1]; decide)
    refine Tm_some ⟨hF6, Or.inr ⟨_, s, b.1, _, hG, PS_clo hS6, ?_, hM, by omega, by omega, by omega, by omega, by omega, by omega, ?_⟩⟩
    rotate_left
    · have := g_ns18 T n f _ _ _ _ _ _ _ _ _ h7
      rw [List.length_append]
      show v + (s.2.2.2.2.2.length + 1) ≤ s.2.1
      omega
    show N' 3 = nI b.1
    rw [hN', upd_other (by decide), upd_same]; exact hr51
end PAT
end JnS38
section JnS39
/-! Rows of iters: names that are told have slots of their own; they are seen. -/
theorem mo_v {T : Nat → Int32} {n f nt : Nat} {E : En} {o q v : Nat} {b : BT} {s : RT} (hq : q ≤ n) (hv : v ≤ 60) (h1 : 1 ≤ b.1) (h : G T n f nt E o q v 0 0 0 0 b = some (Sum.inr s)) (h0 : Nd0 nt 1 b 0 0 0) (hmo : MoN nt n b q v s → Mo n b q v s) : q ≤ s.1 ∧ s.1 ≤ n ∧ v ≤ s.2.1 ∧ s.2.1 ≤ 60 := by
  obtain ⟨x1, _⟩ := g_mono T n f nt E o q v 0 0 0 0 b s hq hv h 1 h1 (by decide) h0
  obtain ⟨a1, a2, a3, a4, _⟩ := hmo x1
  exact ⟨a1, a2, a3, by omega⟩
/-- the row at a place within -/
theorem rows_mid {A B C pool : Nat → Int32} {p : Nat} {x : Nm} {l2 : List Nm} : ∀ l1 : List Nm, rowsOK A B C pool p (l1 ++ x :: l2) → A l2.length = nI x.2.1 ∧ B l2.length = nI x.1.length ∧ C l2.length = nI x.2.2 ∧ x.2.1 + x.1.length ≤ p ∧ x.2.2 < 60 ∧ ∀ i, i < x.1.length → pool (x.2.1 + i) = x.1.getD i 0
  | [], h => h.1
  | y :: l1, h => rows_mid l1 h.2
theorem rows_suf {A B C pool : Nat → Int32} {p : Nat} {l2 : List Nm} : ∀ l1 : List Nm, rowsOK A B C pool p (l1 ++ l2) → rowsOK A B C pool p l2
  | [], h => h
  | y :: l1, h => rows_suf l1 h.2
section SEE
variable {T : Nat → Int32} {n : Nat} {o q v M P w d : Nat} {b : BT}
theorem see_loop {gl : List Gn} {S R : List Nm} {X : Nat × Bool × Bool × (Nat → Nat)} {σ0 : MS} (Q : Int32 × MS → Prop) : ∀ (m : Nat) (rest don : List Nm) (σ : MS) (N : Nat → Int32), rest.length = m → PS T n (gl, don ++ S, rest ++ (don ++ R), X) o q v b σ → N 11 = nI (don.length + R.length) → rest.length + don.length + S.length ≤ v → FrM M P w σ0 σ →
    (∀ (ρ : MS) (N' : Nat → Int32), (∀ j, j ≠ 11 → N' j = N j) → PS T n (gl, rest ++ (don ++ S), rest ++ (don ++ R), X) o q v b ρ → FrM M P w σ0 ρ → Tm (fun k => x_GE k d 4 9 N' ρ) Q) → Tm (fun k => x_GE k d 4 8 N σ) Q := by
  intro m
  induction m with
  | zero =>
    intro rest don σ N hm hS hN hl hF hout
    have hr : rest = [] := List.length_eq_zero_iff.mp hm
    subst hr
    have h52 : σ.1 52 = nI (don ++ R).length := hS.2.2.2.2.1.2.1.1
    have hlen : (don ++ R).length = don.length + R.length := List.length_append
    have hb : (don ++ R).length ≤ v := hS.2.2.2.2.1.2.1.2.1
    have hv := PS_v hS
    refine Tm_suc (fun k => by rw [xE_4]) ?_
    refine Tm_ite (c := σ.1 52 ≤ N 11) (fun _ => hout σ N (fun _ _ => rfl) hS hF) (fun z => absurd ?_ z)
    rw [h52, hN, hlen]
    exact (n_le (by omega) (by omega)).mpr (Nat.le_refl _)
  | succ m ih =>
    intro rest don σ N hm hS hN hl hF hout
    have hne : rest ≠ [] := fun z => by rw [z] at hm; exact absurd hm.symm (Nat.succ_ne_zero m)
    obtain ⟨r', x, rfl⟩ : ∃ r' x, rest = r' ++ [x] := ⟨rest.dropLast, rest.getLast hne, (List.dropLast_concat_getLast hne).symm⟩
    have hr' : r'.length = m := by rw [List.length_append] at hm; exact Nat.succ.inj hm
    have eL : (r' ++ [x]) ++ (don ++ R) = r' ++ x :: (don ++ R) := by rw [List.append_assoc]; rfl
    have h52 : σ.1 52 = nI ((r' ++ [x]) ++ (don ++ R)).length := hS.2.2.2.2.1.2.1.1
    have hb : ((r' ++ [x]) ++ (don ++ R)).length ≤ v := hS.2.2.2.2.1.2.1.2.1
    have hrows : rowsOK (σ.2.2 25) (σ.2.2 26) (σ.2.2 27) b.2.2.2.1 b.2.1 ((r' ++ [x]) ++ (don ++ R)) := hS.2.2.2.2.1.2.1.2.2
    rw [eL] at h52 hb hrows
    have hlen : (r' ++ x :: (don ++ R)).length = r'.length + (don.length + R.length + 1) := by rw [List.length_append, List.length_cons, List.length_append]
    have hx := rows_mid r' hrows
    have hdl : (don ++ R).length = don.length + R.length := List.length_append
    rw [hdl] at hx
    have hv := PS_v hS
    have hsl : (r' ++ [x]).length = m + 1 := hm
    have h38 : σ.1 38 = nI (don ++ S).length := hS.2.2.2.2.1.1.1
    have hds : (don ++ S).length = don.length + S.length := List.length_append
    refine Tm_suc (fun k => by rw [xE_4]) ?_
    refine Tm_ite (c := σ.1 52 ≤ N 11) (fun z => ?_) (fun _ => ?_)
    · rw [h52, hN, hlen, n_le (by omega) (by omega)] at z; omega
    refine Tm_ite (c := σ.1 10 = 0) (fun _ => ?_) (fun z => absurd (PS_ok hS) z)
    rw [hN]
    refine Tm_chk (n_in (by omega) (by omega)) ?_
    refine Tm_chk (n_in (by omega) (by omega)) ?_
    refine Tm_chk (n_in (by omega) (by omega)) ?_
    rw [n_cl (p := don.length + R.length) (by omega), hx.1, hx.2.1, hx.2.2.1]
    refine Tm_ob (s_see h38 (by omega) _) (fun r6 hr6 => ?_)
    subst hr6
    have hS2 := PS_see hS x (by show (don ++ S).length + 1 ≤ v; omega) hx.2.2.2.1 hx.2.2.2.2.1 hx.2.2.2.2.2
    have eE : seeN (gl, don ++ S, (r' ++ [x]) ++ (don ++ R), X) [x] = (gl, (x :: don) ++ S, r' ++ ((x :: don) ++ R), X) := by
      show (gl, [x] ++ (don ++ S), (r' ++ [x]) ++ (don ++ R), X) = _
      rw [eL]; rfl
    rw [eE] at hS2
    refine ih r' (x :: don) _ _ hr' hS2 (by rw [upd_same, n_add1]; show nI (don.length + R.length + 1) = nI (don.length + 1 + R.length); congr 1; omega) (by show r'.length + (don.length + 1) + S.length ≤ v; omega) (FrM_tr hF FrM_see) (fun ρ N' hN' hSρ hFρ => ?_)
    refine hout ρ N' (fun j hj => (hN' j hj).trans (upd_other hj)) ?_ hFρ
    have e1 : r' ++ ((x :: don) ++ S) = (r' ++ [x]) ++ (don ++ S) := by rw [List.append_assoc]; rfl
    have e2 : r' ++ ((x :: don) ++ R) = (r' ++ [x]) ++ (don ++ R) := by rw [List.append_assoc]; rfl
    rw [e1, e2] at hSρ
    exact hSρ
end SEE
end JnS39
section JnS40
variable {yf : Nat × Nat}
/-! Iters. -/
def dropR (E : En) (c : Nat) : En := (E.1, E.2.1, E.2.2.1.drop (E.2.2.1.length - c), E.2.2.2)
def PoI (T : Nat → Int32) (n : Nat) (E : En) (c o M P k : Nat) (σ0 : MS) : Fl RT → Int32 × MS → Prop
  | Sum.inl yf, r => (∃ m, Bb yf m r.2 ∧ m ≤ k ∧ M ≤ m) ∧ FrM M P E.2.2.2.1 σ0 r.2
  | Sum.inr t, r => PS T n (seeN (dropR E c) t.2.2.2.2.2) o t.1 t.2.1 t.2.2.2.2.1 r.2 ∧ r.1 = nI t.2.2.2.1 ∧ FrM M P E.2.2.2.1 σ0 r.2
def S17 (T : Nat → Int32) (n f : Nat) : Prop := ∀ (E : En) (o q v i e c g : Nat) (b : BT) (x : Fl RT), G T n f 17 E o q v i e c g b = some x → ∀ (σ : MS) (L : Nat → Int32) (d M P : Nat), PS T n E o q v b σ → 1 ≤ M → M ≤ b.1 → P ≤ b.2.1 → b.1 + (n + 1 - q) + 3 * (d + 2) ≤ 70000 → b.2.1 + (n - q) ≤ 70000 → 12 * (21 - o) + 8 ≤ d → c ≤ E.2.2.1.length → g ≤ 1 → L 1 = nI g → L 2 = nI c → L 3 = hd i → (i = 0 ∨ (M ≤ i ∧ i < b.1 ∧ M ≤ e ∧ e < b.1 ∧ L 4 = nI e)) → ¬ L 5 = 0 → Tm (fun k => x_GE k d 4 1 L σ) (PoI T n E c o M P (b.1 + (n + 1 - q) + 3 * (d + 1)) σ x)
theorem hd_no {i : Nat} (h : i < 70000) : (hd i = -1 ↔ i = 0) := by
  unfold hd
  by_cases c : i = 0
  · rw [if_pos c]; exact ⟨fun _ => c, fun _ => rfl⟩
  · rw [if_neg c]
    refine ⟨fun z => ?_, fun z => absurd z c⟩
    have := (i_eq.mp z)
    rw [n_int (by omega), show ((-1 : Int32)).toInt = -1 from rfl] at this
    omega
theorem hd_pos {i : Nat} (h : ¬ i = 0) : hd i = nI i := if_neg h
theorem Tm_yes {α : Type} {c : Prop} {_ : Decidable c} {g h : Nat → Option α} {Q : α → Prop} (hc : c) (t : Tm g Q) : Tm (fun k => if c then g k else h k) Q := by
  simp only [if_pos hc]; exact t
theorem Tm_no {α : Type} {c : Prop} {_ : Decidable c} {g h : Nat → Option α} {Q : α → Prop} (hc : ¬ c) (t : Tm h Q) : Tm (fun k => if c then g k else h k) Q := by
  simp only [if_neg hc]; exact t
section ITERS
variable {T : Nat → Int32} {n f : Nat}
theorem PS_rw {E : En} {o q v : Nat} {b : BT} {σ : MS} {l1 l2 : List Nm} (h : PS T n E o q v b σ) (hl : E.2.2.1 = l1 ++ l2) : PS T n (E.1, E.2.1, l2, E.2.2.2) o q v b (upd σ.1 52 (nI l2.length), σ.2.1, σ.2.2) := by
  obtain ⟨hT, hO, hB, hV, ⟨⟨g1, g2, g3⟩, ⟨g4, g5, g6⟩, ⟨g7, g8, g9⟩⟩, hF⟩ := h
  rw [hl] at g5 g6
  have r : ∀ j, j ≠ 52 → ((upd σ.1 52 (nI l2.length), σ.2.1, σ.2.2) : MS).1 j = σ.1 j := fun j hj => upd_other hj
  refine ⟨PT_c (fun j _ _ => r j (by omega)) rfl rfl hT, ⟨(r 13 (by decide)).trans hO.1, hO.2⟩, PB_c (r 22 (by decide)) (r 24 (by decide)) (fun _ _ => rfl) hB, PV_c (r 37 (by decide)) rfl rfl hV, ⟨⟨(r 38 (by decide)).trans g1, g2, g3⟩, ⟨(upd_same : upd σ.1 52 (nI l2.length) 52 = _), ?_, rows_suf l1 g6⟩, ⟨(r 25 (by decide)).trans g7, g8, g9⟩⟩, PF_c (r 43 (by decide)) (r 42 (by decide)) rfl hF⟩
  rw [List.length_append] at g5
  show l2.length ≤ v
  omega
theorem e_17 (H6 : S6 T n f) (H17 : S17 T n f) : S17 T n (f + 1) := by
  intro E o q v i e c g b x hG σ L d M P hS h1 hM hP hn hp hdd hc hg hL1 hL2 hL3 hie hL5
  obtain ⟨d, rfl⟩ : ∃ d', d = d' + 1 := ⟨d - 1, by omega⟩
  rw [G_17] at hG
  have hq := PS_q hS
  have hv := PS_v hS
  have ho := PS_o hS
  have hu := tkN_b T n q hq.1
  have hsn : E.2.1.length ≤ v := hS.2.2.2.2.1.1.2.1
  have hrw : E.2.2.1.length ≤ v := hS.2.2.2.2.1.2.1.2.1
  have h52 : σ.1 52 = nI E.2.2.1.length := hS.2.2.2.2.1.2.1.1
  -- behind a fault
  have b13 : ∀ {yf : Nat × Nat} (ρ : MS) (m : Nat) (N : Nat → Int32), Bb yf m ρ → M ≤ m → m ≤ b.1 + (n + 1 - q) + 3 * (d + 1 + 1) → FrM M P E.2.2.2.1 σ ρ → Tm (fun k => x_GE k (d + 1) 4 13 N ρ) (PoI T n E c o M P (b.1 + (n + 1 - q) + 3 * (d + 1 + 1)) σ (Sum.inl yf)) := fun ρ m N hB hMm hm hF => by
    refine Tm_suc (fun k => by rw [xE_4]) ?_
    show Tm (fun k => x_GE k (d + 1) 4 14 N (upd ρ.1 52 (N 2), ρ.2.1, ρ.2.2)) _
    refine Tm_suc (fun k => by rw [xE_4]) ?_
    refine Tm_some ⟨⟨m, ⟨?_, ?_⟩, hm, hMm⟩, FrM_tr hF (FrM_sc (fun j hj => upd_other (by omega)))⟩
    · show ¬ upd ρ.1 52 (N 2) 10 = 0
      rw [upd_other (by decide)]; exact hB.1
    · show upd ρ.1 52 (N 2) 22 = _ ∧ upd ρ.1 52 (N 2) 11 = _ ∧ upd ρ.1 52 (N 2) 12 = _
      rw [upd_other (by decide), upd_other (by decide), upd_other (by decide)]; exact hB.2
  have b1 : ∀ {yf : Nat × Nat} (ρ : MS) (m : Nat) (N : Nat → Int32), Bb yf m ρ → M ≤ m → m ≤ b.1 + (n + 1 - q) + 3 * (d + 1 + 1) → FrM M P E.2.2.2.1 σ ρ → Tm (fun k => x_GE k (d + 1) 4 1 N ρ) (PoI T n E c o M P (b.1 + (n + 1 - q) + 3 * (d + 1 + 1)) σ (Sum.inl yf)) := fun ρ m N hB hMm hm hF => by
    refine Tm_suc (fun k => by rw [xE_4]) ?_
    refine Tm_ite (c := N 5 = 0) (fun _ => b13 ρ m _ hB hMm hm hF) (fun _ => ?_)
    exact Tm_ite (c := ρ.1 10 = 0) (fun z => absurd z hB.1) (fun _ => b13 ρ m _ hB hMm hm hF)
  have b9 : ∀ {yf : Nat × Nat} (ρ : MS) (m : Nat) (N : Nat → Int32), Bb yf m ρ → M ≤ m → m ≤ b.1 + (n + 1 - q) + 3 * (d + 1 + 1) → FrM M P E.2.2.2.1 σ ρ → Tm (fun k => x_GE k (d + 1) 4 9 N ρ) (PoI T n E c o M P (b.1 + (n + 1 - q) + 3 * (d + 1 + 1)) σ (Sum.inl yf)) := fun ρ m N hB hMm hm hF => by
    refine Tm_suc (fun k => by rw [xE_4]) ?_
    refine Tm_ite (c := ρ.1 10 = 0) (fun z => absurd z hB.1) (fun _ => ?_)
    refine Tm_suc (fun k => by rw [xE_4]) ?_
    show Tm (fun k => x_GE k (d + 1) 4 11 (upd N 100 0) ρ) _
    refine Tm_suc (fun k => by rw [xE_4]) ?_
    show Tm (fun k => if upd N 100 0 100 = 0 then x_GE k (d + 1) 4 12 (upd (upd N 100 0) 5 (upd N 100 0 100)) ρ else ob (x_take k 0 (fun _ => 0) ρ) (fun r2 => x_GE k (d + 1) 4 12 (upd (upd N 100 0) 5 (upd N 100 0 100)) r2.2)) _
    refine Tm_ite (fun _ => ?_) (fun z => absurd upd_same z)
    refine Tm_suc (fun k => by rw [xE_4]) ?_
    exact b1 ρ m _ hB hMm hm hF
  have b7 : ∀ {yf : Nat × Nat} (ρ : MS) (m : Nat) (N : Nat → Int32), Bb yf m ρ → M ≤ m → m ≤ b.1 + (n + 1 - q) + 3 * (d + 1 + 1) → FrM M P E.2.2.2.1 σ ρ → Tm (fun k => x_GE k (d + 1) 4 7 N ρ) (PoI T n E c o M P (b.1 + (n + 1 - q) + 3 * (d + 1 + 1)) σ (Sum.inl yf)) := fun ρ m N hB hMm hm hF => by
    refine Tm_suc (fun k => by rw [xE_4]) ?_
    show Tm (fun k => x_GE k (d + 1) 4 8 (upd (upd N 4 (N 10)) 11 (N 6)) ρ) _
    refine Tm_suc (fun k => by rw [xE_4]) ?_
    refine Tm_ite (fun _ => b9 ρ m _ hB hMm hm hF) (fun _ => ?_)
    exact Tm_ite (c := ρ.1 10 = 0) (fun z => absurd z hB.1) (fun _ => b9 ρ m _ hB hMm hm hF)
  -- the node of an iter, behind a fault
  have bn : ∀ {yf : Nat × Nat} (ρ : MS) (m : Nat) (N Z : Nat → Int32) (y : Int32), N 3 = hd i → (i = 0 ∨ N 4 = nI e) → Bb yf m ρ → M ≤ m → m + 1 ≤ b.1 + (n + 1 - q) + 3 * (d + 1 + 1) → FrM M P E.2.2.2.1 σ ρ → Tm (fun k => ob (x_node k 0 Z ρ) (fun r3 => if N 3 = -1 then x_GE k (d + 1) 4 7 (upd (upd (upd N 9 y) 10 r3.1) 3 r3.1) r3.2 else x_GE k (d + 1) 4 6 (upd (upd N 9 y) 10 r3.1) r3.2)) (PoI T n E c o M P (b.1 + (n + 1 - q) + 3 * (d + 1 + 1)) σ (Sum.inl yf)) := fun ρ m N Z y hN3 hN4 hB hMm hm hF => by
    refine Tm_ob (b_node (M := M) (P := P) (w := E.2.2.2.1) hB (by omega) hMm _) (fun r3 hr3 => ?_)
    refine Tm_ite (fun _ => b7 r3.2 _ _ hr3.2.1 (by omega) hm (FrM_tr hF hr3.2.2)) (fun z => ?_)
    have hi : ¬ i = 0 := fun y => z (by rw [hN3, y]; rfl)
    rcases hie with hi2 | ⟨_, _, i3, i4, _⟩
    · exact absurd hi2 hi
    rcases hN4 with hi2 | hN4
    · exact absurd hi2 hi
    refine Tm_suc (fun k => by rw [xE_4]) ?_
    have e4 : (upd (upd N 9 y) 10 r3.1) 4 = nI e := by rw [upd_other (by decide), upd_other (by decide)]; exact hN4
    show Tm (fun k => if ¬ ((upd (upd N 9 y) 10 r3.1) 4 < 0 ∨ 70000 ≤ ((upd (upd N 9 y) 10 r3.1) 4).toNatClampNeg) then x_GE k (d + 1) 4 7 (upd (upd N 9 y) 10 r3.1) (mSet r3.2 9 ((upd (upd N 9 y) 10 r3.1) 4).toNatClampNeg ((upd (upd N 9 y) 10 r3.1) 10)) else none) _
    rw [e4]
    refine Tm_chk (n_in (by omega) (by omega)) ?_
    rw [n_cl (p := e) (by omega)]
    exact b7 (mSet r3.2 9 e _) _ _ (Bb_set hr3.2.1) (by omega) hm (FrM_tr hF (FrM_tr hr3.2.2 (FrM_set (by decide) (by decide) (Or.inr i3) _)))
  have b5 : ∀ {yf : Nat × Nat} (ρ : MS) (m : Nat) (N : Nat → Int32), N 3 = hd i → (i = 0 ∨ N 4 = nI e) → Bb yf m ρ → M ≤ m → m + 1 ≤ b.1 + (n + 1 - q) + 3 * (d + 1 + 1) → FrM M P E.2.2.2.1 σ ρ → Tm (fun k => x_GE k (d + 1) 4 5 N ρ) (PoI T n E c o M P (b.1 + (n + 1 - q) + 3 * (d + 1 + 1)) σ (Sum.inl yf)) := fun ρ m N hN3 hN4 hB hMm hm hF => by
    refine Tm_suc (fun k => by rw [xE_4]) ?_
    refine Tm_ob (b_wantWord hB.1 _) (fun r1 hr1 => ?_)
    obtain ⟨u, τ⟩ := r1
    have hr1 : τ = ρ := hr1
    subst hr1
    show Tm (fun k => ob (x_GE k d 14 0 (fun _ => 0) τ) _) _
    obtain ⟨d', hd'⟩ : ∃ d', d = d' + 3 := ⟨d - 3, by omega⟩
    refine Tm_ob (by rw [hd']; exact b_sum hB.1) (fun r7 hr7 => ?_)
    subst hr7
    exact bn τ m N _ 0 hN3 hN4 hB hMm hm hF
  -- behind the names: in, a sum, the node, the names are seen, perhaps one more
  have mid : ∀ (ρ : MS) (N : Nat → Int32) (ns : List Nm) (q3 v3 e2 mode : Nat) (b3 : BT), N 1 = nI g → N 2 = nI c → N 3 = hd i → (i = 0 ∨ N 4 = nI e) → N 6 = nI E.2.2.1.length → N 7 = nI mode → N 8 = nI e2 → PS T n (rowN E ns) o q3 v3 b3 ρ → v + ns.length ≤ v3 → q < q3 → b.1 ≤ b3.1 → b3.1 + q ≤ b.1 + q3 → b.2.1 ≤ b3.2.1 → b3.2.1 + q ≤ b.2.1 + q3 → FrM M P E.2.2.2.1 σ ρ →
      gW T n 46 q3 (fun q4 => gb (G T n f 6 (rowN E ns) o q4 v3 0 0 0 0 b3) (fun s =>
        if tkK T n s.1 = 12 then gT T n s.1 (fun q5 => gb (G T n f 17 (rowN (seeN E ns) ns) o q5 s.2.1 (if i = 0 then s.2.2.2.2.1.1 else i) s.2.2.2.2.1.1 c g (if i = 0 then bNode s.2.2.2.2.1 30 (nI mode) (nI e2) (nI s.2.2.2.1) else bSet (bNode s.2.2.2.2.1 30 (nI mode) (nI e2) (nI s.2.2.2.1)) 9 e (nI s.2.2.2.2.1.1))) (fun t => some (Sum.inr (t.1, t.2.1, 0, t.2.2.2.1, t.2.2.2.2.1, t.2.2.2.2.2 ++ ns))))
        else some (Sum.inr (s.1, s.2.1, 0, (if i = 0 then s.2.2.2.2.1.1 else i), (if i = 0 then bNode s.2.2.2.2.1 30 (nI mode) (nI e2) (nI s.2.2.2.1) else bSet (bNode s.2.2.2.2.1 30 (nI mode) (nI e2) (nI s.2.2.2.1)) 9 e (nI s.2.2.2.2.1.1)), ns)))) = some x →
      Tm (fun k => x_GE k (d + 1) 4 5 N ρ) (PoI T n E c o M P (b.1 + (n + 1 - q) + 3 * (d + 1 + 1)) σ x) := fun ρ N ns q3 v3 e2 mode b3 n1 n2 n3 n4 n6 n7 n8 hS3 hvn hqq z1 z2 z3 z4 hF hG => by
    have hq3 := PS_q hS3
    have hv3 := PS_v hS3
    have hu3 := tkN_b T n q3 hq3.1
    refine Tm_suc (fun k => by rw [xE_4]) ?_
    refine Tm_ob (p_wantWord (M := M) (P := P) (w := E.2.2.2.1) hS3 (s := 14) (by decide) rfl) (fun r1 hr1 => ?_)
    show Tm (fun k => ob (x_GE k d 14 0 (fun _ => 0) r1.2) _) _
    rcases gW_any hG with ⟨t1, rfl⟩ | ⟨t1, hG⟩
    · rcases hr1.2 with ⟨_, hB⟩ | ⟨z, _⟩
      · obtain ⟨d', hd'⟩ : ∃ d', d = d' + 3 := ⟨d - 3, by omega⟩
        refine Tm_ob (by rw [hd']; exact b_sum hB.1) (fun r7 hr7 => ?_)
        subst hr7
        exact bn r1.2 b3.1 N _ 0 n3 n4 hB (by omega) (by omega) (FrM_tr hF hr1.1)
      · exact absurd z t1
    rcases hr1.2 with ⟨z, _⟩ | ⟨_, hS4⟩
    · exact absurd t1 z
    have hu4 := hu3.2.2.2 (by rw [t1.1]; decide)
    rcases gb_any hG with ⟨yf, h7, rfl⟩ | ⟨s, h7, hG⟩
    · refine Tm_ob (H6 _ _ _ _ _ _ _ _ h7 r1.2 _ d M P hS4 h1 (by omega) (by omega) (by omega) (by omega) (by omega) trivial) (fun r7 hr7 => ?_)
      obtain ⟨⟨m1, hm, hmk, hMm⟩, _, hF7⟩ := hr7
      exact bn r7.2 m1 N _ r7.1 n3 n4 hm hMm (by omega) (FrM_tr hF (FrM_tr hr1.1 hF7))
    obtain ⟨⟨a1, a2, a3, a4, a5, a6, a7, a8⟩, a9⟩ := mo_of (M := M) hu3.2.1 hv3 h7 (by omega) h1 trivial (fun h => h) (fun h => h)
    refine Tm_ob (H6 _ _ _ _ _ _ _ _ h7 r1.2 _ d M P hS4 h1 (by omega) (by omega) (by omega) (by omega) (by omega) trivial) (fun r7 hr7 => ?_)
    obtain ⟨hS7, hr71, hF7⟩ := hr7
    have hF7 : FrM M P E.2.2.2.1 σ r7.2 := FrM_tr hF (FrM_tr hr1.1 hF7)
    have hv7 := PS_v hS7
    refine Tm_ob (p_node (M := M) (P := P) (w := E.2.2.2.1) hS7 (by omega) (by omega) _) (fun r8 hr8 => ?_)
    obtain ⟨hr81, hS8, hF8⟩ := hr8
    have m2 : (upd (upd (upd (upd (fun _ => (0 : Int32)) 1 30) 2 (N 7)) 3 (N 8)) 4 r7.1) 2 = nI mode := by rw [upd_other (by decide), upd_other (by decide), upd_same]; exact n7
    have m3 : (upd (upd (upd (upd (fun _ => (0 : Int32)) 1 30) 2 (N 7)) 3 (N 8)) 4 r7.1) 3 = nI e2 := by rw [upd_other (by decide), upd_same]; exact n8
    have m4 : (upd (upd (upd (upd (fun _ => (0 : Int32)) 1 30) 2 (N 7)) 3 (N 8)) 4 r7.1) 4 = nI s.2.2.2.1 := by rw [upd_same]; exact hr71
    rw [m2, m3, m4] at hS8
    -- from 7 on: bb is what is laid, h the list's head
    have seven : ∀ (ρ2 : MS) (N2 : Nat → Int32) (bb : BT) (h : Nat), N2 1 = nI g → N2 2 = nI c → N2 3 = nI h → N2 6 = nI E.2.2.1.length → N2 10 = nI s.2.2.2.2.1.1 → PS T n (rowN E ns) o s.1 s.2.1 bb ρ2 → ¬ h = 0 → M ≤ h → h < bb.1 → bb.1 = s.2.2.2.2.1.1 + 1 → bb.2.1 = s.2.2.2.2.1.2.1 → FrM M P E.2.2.2.1 σ ρ2 →
        (if tkK T n s.1 = 12 then gT T n s.1 (fun q5 => gb (G T n f 17 (rowN (seeN E ns) ns) o q5 s.2.1 h s.2.2.2.2.1.1 c g bb) (fun t => some (Sum.inr (t.1, t.2.1, 0, t.2.2.2.1, t.2.2.2.2.1, t.2.2.2.2.2 ++ ns)))) else some (Sum.inr (s.1, s.2.1, 0, h, bb, ns))) = some x →
        Tm (fun k => x_GE k (d + 1) 4 7 N2 ρ2) (PoI T n E c o M P (b.1 + (n + 1 - q) + 3 * (d + 1 + 1)) σ x) := fun ρ2 N2 bb h p1 p2 p3 p6 p10 hS2 hh0 hMh hhb hbb hbp hF2 hG => by
      refine Tm_suc (fun k => by rw [xE_4]) ?_
      refine see_loop (S := E.2.1) (R := E.2.2.1) (gl := E.1) (X := E.2.2.2) (M := M) (P := P) (w := E.2.2.2.1) (σ0 := σ) _ ns.length ns [] ρ2 _ rfl hS2 (by rw [upd_same, p6]; show nI E.2.2.1.length = nI (0 + E.2.2.1.length); congr 1; omega) (by show ns.length + 0 + E.2.1.length ≤ s.2.1; omega) hF2 (fun ρ3 N3 hN3 hS3' hF3 => ?_)
      have g1 : N3 1 = nI g := by rw [hN3 1 (by decide), upd_other (by decide), upd_other (by decide)]; exact p1
      have g2 : N3 2 = nI c := by rw [hN3 2 (by decide), upd_other (by decide), upd_other (by decide)]; exact p2
      have g3 : N3 3 = nI h := by rw [hN3 3 (by decide), upd_other (by decide), upd_other (by decide)]; exact p3
      have g4 : N3 4 = nI s.2.2.2.2.1.1 := by rw [hN3 4 (by decide), upd_other (by decide), upd_same]; exact p10
      have hS9 : PS T n (rowN (seeN E ns) ns) o s.1 s.2.1 bb ρ3 := hS3'
      have hws := tkN_b T n s.1 a2
      refine Tm_suc (fun k => by rw [xE_4]) ?_
      refine Tm_ite (c := ρ3.1 10 = 0) (fun _ => ?_) (fun z => absurd (PS_ok hS9) z)
      refine Tm_ob (p_sign hS9 (s := 12) (by decide) (by decide) rfl) (fun r2 hr2 => ?_)
      obtain ⟨u, τ⟩ := r2
      obtain ⟨h3, hr2⟩ := hr2
      have h3 : τ = ρ3 := h3
      subst h3
      refine Tm_ite (fun z => ?_) (fun z => ?_)
      · rw [if_neg (fun y => hr2.mpr y z)] at hG
        cases hG
        refine Tm_suc (fun k => by rw [xE_4]) ?_
        show Tm (fun k => x_GE k (d + 1) 4 11 (upd N3 100 0) τ) _
        refine Tm_suc (fun k => by rw [xE_4]) ?_
        show Tm (fun k => if upd N3 100 0 100 = 0 then x_GE k (d + 1) 4 12 (upd (upd N3 100 0) 5 (upd N3 100 0 100)) τ else ob (x_take k 0 (fun _ => 0) τ) (fun r2 => x_GE k (d + 1) 4 12 (upd (upd N3 100 0) 5 (upd N3 100 0 100)) r2.2)) _
        refine Tm_ite (fun _ => ?_) (fun z => absurd upd_same z)
        refine Tm_suc (fun k => by rw [xE_4]) ?_
        show Tm (fun k => x_GE k (d + 1) 4 1 (upd (upd N3 100 0) 5 (upd N3 100 0 100)) τ) _
        refine Tm_suc (fun k => by rw [xE_4]) ?_
        show Tm (fun k => x_GE k (d + 1) 4 13 (upd (upd N3 100 0) 5 (upd N3 100 0 100)) τ) _
        refine Tm_suc (fun k => by rw [xE_4]) ?_
        show Tm (fun k => x_GE k (d + 1) 4 14 (upd (upd N3 100 0) 5 (upd N3 100 0 100)) (upd τ.1 52 (upd (upd N3 100 0) 5 (upd N3 100 0 100) 2), τ.2.1, τ.2.2)) _
        refine Tm_suc (fun k => by rw [xE_4]) ?_
        have hsplit : (rowN (seeN E ns) ns).2.2.1 = (ns ++ E.2.2.1.take (E.2.2.1.length - c)) ++ E.2.2.1.drop (E.2.2.1.length - c) := by
          rw [List.append_assoc, List.take_append_drop]; rfl
        have hlen : (E.2.2.1.drop (E.2.2.1.length - c)).length = c := by rw [List.length_drop]; omega
        have hfin := PS_rw hS9 hsplit
        rw [hlen] at hfin
        have e2' : upd (upd N3 100 0) 5 (upd N3 100 0 100) 2 = nI c := by rw [upd_other (by decide), upd_other (by decide)]; exact g2
        have e3' : upd (upd N3 100 0) 5 (upd N3 100 0 100) 3 = nI h := by rw [upd_other (by decide), upd_other (by decide)]; exact g3
        show Tm (fun k => some (upd (upd N3 100 0) 5 (upd N3 100 0 100) 3, ((upd τ.1 52 (upd (upd N3 100 0) 5 (upd N3 100 0 100) 2), τ.2.1, τ.2.2) : MS))) _
        rw [e2', e3']
        exact Tm_some ⟨hfin, rfl, FrM_tr hF3 (FrM_sc (fun j hj => upd_other (by omega)))⟩
      · have hK := hr2.mp z
        rw [if_pos hK] at hG
        have hws4 := hws.2.2.2 (by rw [hK]; decide)
        refine Tm_suc (fun k => by rw [xE_4]) ?_
        show Tm (fun k => ob (x_take k 0 (fun _ => 0) τ) (fun r2 => x_GE k (d + 1) 4 12 (upd (upd N3 100 1) 5 (upd N3 100 1 100)) r2.2)) _
        refine Tm_ob (p_take (M := M) (P := P) (w := E.2.2.2.1) hS9 _) (fun r4 hr4 => ?_)
        refine Tm_suc (fun k => by rw [xE_4]) ?_
        rcases gT_any hG with ⟨t4, rfl⟩ | ⟨t4, hG⟩
        · rcases hr4.2 with ⟨_, hB⟩ | ⟨y, _⟩
          · exact b1 r4.2 _ _ hB (by omega) (by omega) (FrM_tr hF3 hr4.1)
          · exact absurd t4 y
        rcases hr4.2 with ⟨y, _⟩ | ⟨_, hS10⟩
        · exact absurd y t4
        -- the next iter of the row
        obtain ⟨y, h9, hy⟩ : ∃ y, G T n f 17 (rowN (seeN E ns) ns) o (tkN T n s.1) s.2.1 h s.2.2.2.2.1.1 c g bb = some y ∧ (match y with | Sum.inl yf => x = Sum.inl yf | Sum.inr t => x = Sum.inr (t.1, t.2.1, 0, t.2.2.2.1, t.2.2.2.2.1, t.2.2.2.2.2 ++ ns)) := by
          rcases gb_any hG with ⟨yf, h9, hy⟩ | ⟨t, h9, hG⟩
          · exact ⟨Sum.inl yf, h9, hy⟩
          · exact ⟨Sum.inr t, h9, (Option.some.inj hG).symm⟩
        have hlen2 : (rowN (seeN E ns) ns).2.2.1.length = ns.length + E.2.2.1.length := List.length_append
        refine Tm_mono (H17 _ _ _ _ _ _ _ _ _ y h9 r4.2 _ (d + 1) M P hS10 h1 (by omega) (by omega) (by omega) (by omega) (by omega) (by rw [hlen2]; omega) hg ?_ ?_ ?_ (Or.inr ⟨hMh, hhb, by omega, by omega, ?_⟩) ?_) (fun r hr => ?_)
        · rw [upd_other (by decide), upd_other (by decide)]; exact g1
        · rw [upd_other (by decide), upd_other (by decide)]; exact g2
        · rw [upd_other (by decide), upd_other (by decide), g3, hd_pos hh0]
        · rw [upd_other (by decide), upd_other (by decide)]; exact g4
        · rw [upd_same, upd_same]; decide
        cases y with
        | inl yf =>
          have hy : x = Sum.inl yf := hy
          subst hy
          obtain ⟨⟨m, k1, k2, k3⟩, k4⟩ := hr
          exact ⟨⟨m, k1, by omega, k3⟩, FrM_tr hF3 (FrM_tr hr4.1 k4)⟩
        | inr t =>
          have hy : x = Sum.inr (t.1, t.2.1, 0, t.2.2.2.1, t.2.2.2.2.1, t.2.2.2.2.2 ++ ns) := hy
          subst hy
          obtain ⟨k1, k2, k3⟩ := hr
          refine ⟨?_, k2, FrM_tr hF3 (FrM_tr hr4.1 k3)⟩
          have eE : seeN (dropR (rowN (seeN E ns) ns) c) t.2.2.2.2.2 = seeN (dropR E c) (t.2.2.2.2.2 ++ ns) := by
            show (E.1, t.2.2.2.2.2 ++ (ns ++ E.2.1), (ns ++ E.2.2.1).drop ((ns ++ E.2.2.1).length - c), E.2.2.2) = (E.1, (t.2.2.2.2.2 ++ ns) ++ E.2.1, E.2.2.1.drop (E.2.2.1.length - c), E.2.2.2)
            rw [List.append_assoc, List.length_append, show ns.length + E.2.2.1.length - c = ns.length + (E.2.2.1.length - c) by omega, List.drop_append]
            rw [show ns.length + (E.2.2.1.length - c) - ns.length = E.2.2.1.length - c by omega, List.drop_eq_nil_of_le (by omega), List.nil_append]
          rw [eE] at k1
          exact k1
    rw [hr81]
    by_cases hi : i = 0
    · simp only [if_pos hi] at hG
      refine Tm_ite (fun _ => ?_) (fun z => absurd (by rw [n3, hi]; rfl) z)
      refine seven r8.2 _ _ s.2.2.2.2.1.1 ?_ ?_ ?_ ?_ ?_ hS8 (by omega) (by omega) (by rw [bNode_1]; omega) rfl rfl (FrM_tr hF7 hF8) hG
      · rw [upd_other (by decide), upd_other (by decide), upd_other (by decide)]; exact n1
      · rw [upd_other (by decide), upd_other (by decide), upd_other (by decide)]; exact n2
      · rw [upd_same]
      · rw [upd_other (by decide), upd_other (by decide), upd_other (by decide)]; exact n6
      · rw [upd_other (by decide), upd_same]
    · simp only [if_neg hi] at hG
      rcases hie with hi2 | ⟨i1, i2, i3, i4, _⟩
      · exact absurd hi2 hi
      rcases n4 with hi2 | n4
      · exact absurd hi2 hi
      refine Tm_ite (fun z => absurd ((hd_no (by omega)).mp (by rw [← n3]; exact z)) hi) (fun _ => ?_)
      have q1 : (upd (upd N 9 r7.1) 10 (nI s.2.2.2.2.1.1)) 1 = nI g := by rw [upd_other (by decide), upd_other (by decide)]; exact n1
      have q2 : (upd (upd N 9 r7.1) 10 (nI s.2.2.2.2.1.1)) 2 = nI c := by rw [upd_other (by decide), upd_other (by decide)]; exact n2
      have q3' : (upd (upd N 9 r7.1) 10 (nI s.2.2.2.2.1.1)) 3 = nI i := by rw [upd_other (by decide), upd_other (by decide), n3, hd_pos hi]
      have q4 : (upd (upd N 9 r7.1) 10 (nI s.2.2.2.2.1.1)) 4 = nI e := by rw [upd_other (by decide), upd_other (by decide)]; exact n4
      have q6 : (upd (upd N 9 r7.1) 10 (nI s.2.2.2.2.1.1)) 6 = nI E.2.2.1.length := by rw [upd_other (by decide), upd_other (by decide)]; exact n6
      have q10 : (upd (upd N 9 r7.1) 10 (nI s.2.2.2.2.1.1)) 10 = nI s.2.2.2.2.1.1 := upd_same
      generalize upd (upd N 9 r7.1) 10 (nI s.2.2.2.2.1.1) = N5 at q1 q2 q3' q4 q6 q10
      refine Tm_suc (fun k => by rw [xE_4]) ?_
      show Tm (fun k => if ¬ (N5 4 < 0 ∨ 70000 ≤ (N5 4).toNatClampNeg) then x_GE k (d + 1) 4 7 N5 (mSet r8.2 9 (N5 4).toNatClampNeg (N5 10)) else none) _
      rw [q4, q10]
      refine Tm_chk (n_in (by omega) (by omega)) ?_
      rw [n_cl (p := e) (by omega)]
      exact seven (mSet r8.2 9 e (nI s.2.2.2.2.1.1)) N5 _ i q1 q2 q3' q6 q10 (PS_set hS8 (by decide) (by decide) _) hi i1 (by rw [bSet_1, bNode_1]; omega) rfl rfl (FrM_tr hF7 (FrM_tr hF8 (FrM_set (by decide) (by decide) (Or.inr i3) _))) hG
  have hi4 : i = 0 ∨ L 4 = nI e := by
    rcases hie with z | z
    · exact Or.inl z
    · exact Or.inr z.2.2.2.2
  refine Tm_suc (fun k => by rw [xE_4]) ?_
  refine Tm_ite (c := L 5 = 0) (fun z => absurd z hL5) (fun _ => ?_)
  refine Tm_ite (c := σ.1 10 = 0) (fun _ => ?_) (fun z => absurd (PS_ok hS) z)
  refine Tm_ob (p_sign hS (s := 10) (by decide) (by decide) rfl) (fun r3 hr3 => ?_)
  obtain ⟨u, τ⟩ := r3
  obtain ⟨h3, hr3⟩ := hr3
  have h3 : τ = σ := h3
  subst h3
  rw [h52]
  refine Tm_ite (fun z => ?_) (fun z => ?_)
  · -- one name
    rw [if_neg (fun y => hr3.mpr y z)] at hG
    refine Tm_suc (fun k => by rw [xE_4]) ?_
    show Tm (fun k => x_GE k (d + 1) 4 3 (upd (upd L 6 (nI E.2.2.1.length)) 100 0) τ) _
    refine Tm_suc (fun k => by rw [xE_4]) ?_
    show Tm (fun k => x_GE k (d + 1) 4 4 (upd (upd (upd (upd L 6 (nI E.2.2.1.length)) 100 0) 7 (upd (upd L 6 (nI E.2.2.1.length)) 100 0 100)) 8 (-1)) τ) _
    have q1 : (upd (upd (upd (upd L 6 (nI E.2.2.1.length)) 100 0) 7 (upd (upd L 6 (nI E.2.2.1.length)) 100 0 100)) 8 (-1)) 1 = nI g := by rw [upd_other (by decide), upd_other (by decide), upd_other (by decide), upd_other (by decide)]; exact hL1
    have q2 : (upd (upd (upd (upd L 6 (nI E.2.2.1.length)) 100 0) 7 (upd (upd L 6 (nI E.2.2.1.length)) 100 0 100)) 8 (-1)) 2 = nI c := by rw [upd_other (by decide), upd_other (by decide), upd_other (by decide), upd_other (by decide)]; exact hL2
    have q3' : (upd (upd (upd (upd L 6 (nI E.2.2.1.length)) 100 0) 7 (upd (upd L 6 (nI E.2.2.1.length)) 100 0 100)) 8 (-1)) 3 = hd i := by rw [upd_other (by decide), upd_other (by decide), upd_other (by decide), upd_other (by decide)]; exact hL3
    have q4 : i = 0 ∨ (upd (upd (upd (upd L 6 (nI E.2.2.1.length)) 100 0) 7 (upd (upd L 6 (nI E.2.2.1.length)) 100 0 100)) 8 (-1)) 4 = nI e := by rw [upd_other (by decide), upd_other (by decide), upd_other (by decide), upd_other (by decide)]; exact hi4
    have q6 : (upd (upd (upd (upd L 6 (nI E.2.2.1.length)) 100 0) 7 (upd (upd L 6 (nI E.2.2.1.length)) 100 0 100)) 8 (-1)) 6 = nI E.2.2.1.length := by rw [upd_other (by decide), upd_other (by decide), upd_other (by decide), upd_same]
    have q7 : (upd (upd (upd (upd L 6 (nI E.2.2.1.length)) 100 0) 7 (upd (upd L 6 (nI E.2.2.1.length)) 100 0 100)) 8 (-1)) 7 = nI 0 := by rw [upd_other (by decide), upd_same, upd_same]; rfl
    generalize upd (upd (upd (upd L 6 (nI E.2.2.1.length)) 100 0) 7 (upd (upd L 6 (nI E.2.2.1.length)) 100 0 100)) 8 (-1) = N1 at q1 q2 q3' q4 q6 q7
    refine Tm_suc (fun k => by rw [xE_4]) ?_
    refine Tm_ob (p_tellName (M := M) (P := P) hS hP hM (by omega) hp hc hg (by rw [upd_other (by decide), upd_same]; exact q2) (by rw [upd_same]; exact q1)) (fun r5 hr5 => ?_)
    have s1 : upd N1 8 r5.1 1 = nI g := by rw [upd_other (by decide)]; exact q1
    have s2 : upd N1 8 r5.1 2 = nI c := by rw [upd_other (by decide)]; exact q2
    have s3 : upd N1 8 r5.1 3 = hd i := by rw [upd_other (by decide)]; exact q3'
    have s4 : i = 0 ∨ upd N1 8 r5.1 4 = nI e := by rw [upd_other (by decide)]; exact q4
    have s6 : upd N1 8 r5.1 6 = nI E.2.2.1.length := by rw [upd_other (by decide)]; exact q6
    have s7 : upd N1 8 r5.1 7 = nI 0 := by rw [upd_other (by decide)]; exact q7
    rcases gN_any hG with ⟨t2, rfl⟩ | ⟨t2, hG⟩
    · rcases hr5.2 with ⟨_, m, hB, hm1, hm2⟩ | ⟨y, _⟩
      · exact b5 r5.2 m _ s3 s4 hB (by omega) (by omega) hr5.1
      · exact absurd y t2
    rcases hr5.2 with ⟨y, _⟩ | ⟨_, hr51, hS5⟩
    · exact absurd t2 y
    have hu4 := hu.2.2.2 (by rw [t2.1]; decide)
    have hE := tkE_b T n q hq.1
    exact mid r5.2 _ [(tkS T n q, b.2.1, v)] (tkN T n q) (v + 1) b.1 0 _ s1 s2 s3 s4 s6 s7 (by rw [upd_same]; exact hr51) hS5 (Nat.le_refl _) (by omega) (by rw [bNode_1, bKeep_1, bSlot_1]; omega) (by rw [bNode_1, bKeep_1, bSlot_1]; omega) (by rw [bNode_p, bKeep_p, bSlot_p]; omega) (by rw [bNode_p, bKeep_p, bSlot_p]; omega) hr5.1 hG
  · -- a pattern
    have hK := hr3.mp z
    rw [if_pos hK] at hG
    refine Tm_suc (fun k => by rw [xE_4]) ?_
    have q1 : (upd (upd L 6 (nI E.2.2.1.length)) 100 1) 1 = nI g := by rw [upd_other (by decide), upd_other (by decide)]; exact hL1
    have q2 : (upd (upd L 6 (nI E.2.2.1.length)) 100 1) 2 = nI c := by rw [upd_other (by decide), upd_other (by decide)]; exact hL2
    have q3' : (upd (upd L 6 (nI E.2.2.1.length)) 100 1) 3 = hd i := by rw [upd_other (by decide), upd_other (by decide)]; exact hL3
    have q4 : i = 0 ∨ (upd (upd L 6 (nI E.2.2.1.length)) 100 1) 4 = nI e := by rw [upd_other (by decide), upd_other (by decide)]; exact hi4
    have q6 : (upd (upd L 6 (nI E.2.2.1.length)) 100 1) 6 = nI E.2.2.1.length := by rw [upd_other (by decide), upd_same]
    have q100 : (upd (upd L 6 (nI E.2.2.1.length)) 100 1) 100 = nI 1 := upd_same
    generalize upd (upd L 6 (nI E.2.2.1.length)) 100 1 = N1 at q1 q2 q3' q4 q6 q100
    refine Tm_ite (c := N1 100 = 1) (fun _ => ?_) (fun y => absurd q100 y)
    refine Tm_ob (p_pattern (M := M) (P := P) (c := c) (g := g) (f := f) (K := fun q3 r e2 nm => gW T n 46 q3 (fun q4 => gb (G T n f 6 (rowN E (r.2.2.2.2.2 ++ [nm])) o q4 r.2.1 0 0 0 0 r.2.2.2.2.1) (fun s =>
          if tkK T n s.1 = 12 then gT T n s.1 (fun q5 => gb (G T n f 17 (rowN (seeN E (r.2.2.2.2.2 ++ [nm])) (r.2.2.2.2.2 ++ [nm])) o q5 s.2.1 (if i = 0 then s.2.2.2.2.1.1 else i) s.2.2.2.2.1.1 c g (if i = 0 then bNode s.2.2.2.2.1 30 1 (nI e2) (nI s.2.2.2.1) else bSet (bNode s.2.2.2.2.1 30 1 (nI e2) (nI s.2.2.2.1)) 9 e (nI s.2.2.2.2.1.1))) (fun t => some (Sum.inr (t.1, t.2.1, 0, t.2.2.2.1, t.2.2.2.2.1, t.2.2.2.2.2 ++ (r.2.2.2.2.2 ++ [nm])))))
          else some (Sum.inr (s.1, s.2.1, 0, (if i = 0 then s.2.2.2.2.1.1 else i), (if i = 0 then bNode s.2.2.2.2.1 30 1 (nI e2) (nI s.2.2.2.1) else bSet (bNode s.2.2.2.2.1 30 1 (nI e2) (nI s.2.2.2.1)) 9 e (nI s.2.2.2.2.1.1)), r.2.2.2.2.2 ++ [nm]))))) hG hK hS h1 hM hP (by omega) hp hc hg (by rw [upd_other (by decide), upd_same]; exact q2) (by rw [upd_same]; exact q1)) (fun r5 hr5 => ?_)
    have s1 : upd (upd N1 7 (N1 100)) 8 r5.1 1 = nI g := by rw [upd_other (by decide), upd_other (by decide)]; exact q1
    have s2 : upd (upd N1 7 (N1 100)) 8 r5.1 2 = nI c := by rw [upd_other (by decide), upd_other (by decide)]; exact q2
    have s3 : upd (upd N1 7 (N1 100)) 8 r5.1 3 = hd i := by rw [upd_other (by decide), upd_other (by decide)]; exact q3'
    have s4 : i = 0 ∨ upd (upd N1 7 (N1 100)) 8 r5.1 4 = nI e := by rw [upd_other (by decide), upd_other (by decide)]; exact q4
    have s6 : upd (upd N1 7 (N1 100)) 8 r5.1 6 = nI E.2.2.1.length := by rw [upd_other (by decide), upd_other (by decide)]; exact q6
    have s7 : upd (upd N1 7 (N1 100)) 8 r5.1 7 = nI 1 := by rw [upd_other (by decide), upd_same]; exact q100
    rcases hr5.2 with ⟨m, yf, hx, hB, hm1, hm2⟩ | ⟨q5, s, e2, nm, hK2, hS5, hr51, k1, k2, k3, k4, k5, k6, k7, k8⟩
    · subst hx
      exact b5 r5.2 m _ s3 s4 hB hm1 (by omega) hr5.1
    · exact mid r5.2 _ (s.2.2.2.2.2 ++ [nm]) q5 s.2.1 e2 1 _ s1 s2 s3 s4 s6 s7 (by rw [upd_same]; exact hr51) hS5 k8 k3 k4 (by omega) k6 k7 hr5.1 hK2
end ITERS
end JnS40
section JnS41
variable {yf : Nat × Nat}
/-! Names in exps, calls of funcs. -/
theorem n_pos {c : Nat} (h : c < 2147483648) : ((0 : Int32) < nI c ↔ 0 < c) := by
  rw [show (0 : Int32) = nI 0 from rfl, n_lt (by omega) h]
theorem n_le0 {c : Nat} (h : c < 2147483648) : (nI c ≤ 0 ↔ c = 0) := by
  rw [show (0 : Int32) = nI 0 from rfl, n_le h (by omega)]; omega
theorem n_eq0 {c : Nat} (h : c < 2147483648) : (nI c = 0 ↔ c = 0) := by
  rw [show (0 : Int32) = nI 0 from rfl, n_eq h (by omega)]
section CALLS
variable {T : Nat → Int32} {n o M P d : Nat} {E : En}
/-- exps of a call: out of the loop with a fault, or with so many -/
theorem args_loop : ∀ (f : Nat), (∀ f', f' < f → S0 T n f') → ∀ (q v i e c : Nat) (b : BT) (y : Fl RT), G T n f 14 E o q v i e c 0 b = some y → ∀ (σ : MS) (N : Nat → Int32) (Q : Int32 × MS → Prop), PS T n E o q v b σ → 1 ≤ M → M ≤ b.1 → P ≤ b.2.1 → b.1 + (n + 1 - q) + 3 * (d + 3) ≤ 70000 → b.2.1 + (n - q) ≤ 70000 → 12 * (21 - o) + 11 ≤ d → c ≤ q → N 6 = hd i → N 8 = nI c → (c = 0 → i = 0) → (¬ c = 0 → N 7 = nI e ∧ M ≤ e ∧ e < b.1 ∧ M ≤ i ∧ i < b.1) →
    (∀ (ρ : MS) (N' : Nat → Int32), N' 3 = N 3 → N' 5 = N 5 → FrM M P E.2.2.2.1 σ ρ → (match y with
      | Sum.inl yf => ∃ m, Bb yf m ρ ∧ M ≤ m ∧ m ≤ b.1 + (n + 1 - q) + 3 * (d + 1)
      | Sum.inr s => PS T n E o s.1 s.2.1 s.2.2.2.2.1 ρ ∧ N' 6 = hd s.2.2.2.1 ∧ N' 8 = nI s.2.2.1) → Tm (fun k => x_GE k (d + 1) 6 15 N' ρ) Q) → Tm (fun k => x_GE k (d + 1) 6 8 N σ) Q
  | 0 => fun _ q v i e c b y hG => by simp only [G] at hG; cases hG
  | f + 1 => fun H q v i e c b y hG σ N Q hS h1 hM hP hn hp hdd hcq hN6 hN8 hci hN7 hout => by
    rw [G_14] at hG
    have hq := PS_q hS
    have hv := PS_v hS
    have hu := tkN_b T n q hq.1
    have ih := args_loop f (fun f' hf' => H f' (by omega))
    have H0 := H f (by omega)
    -- behind an exp that ended in a fault
    have bout : ∀ {yf : Nat × Nat} (ρ : MS) (m : Nat) (N' : Nat → Int32) (c' : Nat), y = Sum.inl yf → N' 3 = N 3 → N' 5 = N 5 → N' 8 = nI c' → c' < 2147483648 → (¬ c' = 0 → N' 7 = nI e ∧ M ≤ e ∧ e < b.1) → Bb yf m ρ → M ≤ m → m ≤ b.1 + (n + 1 - q) + 3 * (d + 1) → FrM M P E.2.2.2.1 σ ρ → Tm (fun k => x_GE k (d + 1) 6 13 N' ρ) Q := fun {yf} ρ m N' c' hy k3 k5 k8 hc' k7 hB hMm hm hF => by
      subst hy
      have last : ∀ (ρ' : MS) (N' : Nat → Int32), N' 3 = N 3 → N' 5 = N 5 → Bb yf m ρ' → FrM M P E.2.2.2.1 σ ρ' → Tm (fun k => x_GE k (d + 1) 6 14 N' ρ') Q := fun ρ' N' k3 k5 hB hF => by
        refine Tm_suc (fun k => by rw [xE_6]) ?_
        show Tm (fun k => x_GE k (d + 1) 6 8 (upd (upd N' 7 (N' 9)) 8 (N' 8 + 1)) ρ') _
        refine Tm_suc (fun k => by rw [xE_6]) ?_
        refine Tm_ite (c := ρ'.1 10 = 0) (fun z => absurd z hB.1) (fun _ => ?_)
        exact hout ρ' _ (by rw [upd_other (by decide), upd_other (by decide)]; exact k3) (by rw [upd_other (by decide), upd_other (by decide)]; exact k5) hF ⟨m, hB, hMm, hm⟩
      refine Tm_suc (fun k => by rw [xE_6]) ?_
      refine Tm_ite (c := N' 8 ≤ 0) (fun _ => last ρ _ (by rw [upd_other (by decide)]; exact k3) (by rw [upd_other (by decide)]; exact k5) hB hF) (fun z => ?_)
      rw [k8, n_le0 hc'] at z
      obtain ⟨k7, k71, k72⟩ := k7 z
      rw [k7]
      refine Tm_chk (n_in (by omega) (by omega)) ?_
      rw [n_cl (p := e) (by omega)]
      exact last (mSet ρ 9 e (N' 9)) _ (by rw [upd_other (by decide)]; exact k3) (by rw [upd_other (by decide)]; exact k5) (Bb_set hB) (FrM_tr hF (FrM_set (by decide) (by decide) (Or.inr k71) _))
    refine Tm_suc (fun k => by rw [xE_6]) ?_
    refine Tm_ite (c := σ.1 10 = 0) (fun _ => ?_) (fun z => absurd (PS_ok hS) z)
    by_cases c0 : c = 0
    · subst c0
      rw [if_pos rfl] at hG
      have hi0 := hci rfl
      subst hi0
      refine Tm_ite (c := (0 : Int32) < N 8) (fun z => absurd z (by rw [hN8]; decide)) (fun _ => ?_)
      refine Tm_ob (p_sign hS (s := 7) (by decide) (by decide) rfl) (fun r3 hr3 => ?_)
      obtain ⟨u, τ⟩ := r3
      obtain ⟨h3, hr3⟩ := hr3
      have h3 : τ = σ := h3
      subst h3
      refine Tm_ite (fun z => ?_) (fun z => ?_)
      · rw [if_neg (fun y => hr3.mpr y z)] at hG
        refine Tm_suc (fun k => by rw [xE_6]) ?_
        refine Tm_ite (c := N 8 = 0) (fun _ => ?_) (fun z => absurd (by rw [hN8]; rfl) z)
        refine Tm_suc (fun k => by rw [xE_6]) ?_
        refine Tm_ite (c := N 8 ≤ 0) (fun _ => ?_) (fun z => absurd (by rw [hN8]; decide) z)
        refine Tm_suc (fun k => by rw [xE_6]) ?_
        show Tm (fun k => ob (x_GE k d 3 0 (fun _ => 0) τ) _) _
        rcases gb_any hG with ⟨yf, h7, hy⟩ | ⟨s, h7, hG⟩
        · refine Tm_ob (H0 _ _ _ _ _ _ _ _ h7 τ _ d M P hS h1 hM hP (by omega) hp (by omega) trivial) (fun r7 hr7 => ?_)
          obtain ⟨⟨m1, hm, hmk, hMm⟩, _, hF7⟩ := hr7
          refine Tm_ite (c := N 8 = 0) (fun _ => ?_) (fun z => absurd (by rw [hN8]; rfl) z)
          exact bout r7.2 m1 _ 0 hy (by rw [upd_other (by decide), upd_other (by decide)]) (by rw [upd_other (by decide), upd_other (by decide)]) (by rw [upd_other (by decide), upd_other (by decide)]; exact hN8) (by decide) (fun z => absurd rfl z) hm hMm (by omega) hF7
        obtain ⟨⟨a1, a2, a3, a4, a5, a6, a7, a8⟩, a9⟩ := mo_of (M := M) hq.1 hv h7 hM h1 trivial (fun h => h) (fun h => h)
        refine Tm_ob (H0 _ _ _ _ _ _ _ _ h7 τ _ d M P hS h1 hM hP (by omega) hp (by omega) trivial) (fun r7 hr7 => ?_)
        obtain ⟨hS7, hr71, hF7⟩ := hr7
        refine Tm_ite (c := N 8 = 0) (fun _ => ?_) (fun z => absurd (by rw [hN8]; rfl) z)
        have q8 : upd (upd N 9 r7.1) 100 r7.1 8 = nI 0 := by rw [upd_other (by decide), upd_other (by decide)]; exact hN8
        have q9 : upd (upd N 9 r7.1) 100 r7.1 9 = nI s.2.2.2.1 := by rw [upd_other (by decide), upd_same]; exact hr71
        have q100 : upd (upd N 9 r7.1) 100 r7.1 100 = nI s.2.2.2.1 := by rw [upd_same]; exact hr71
        have q3 : upd (upd N 9 r7.1) 100 r7.1 3 = N 3 := by rw [upd_other (by decide), upd_other (by decide)]
        have q5 : upd (upd N 9 r7.1) 100 r7.1 5 = N 5 := by rw [upd_other (by decide), upd_other (by decide)]
        generalize upd (upd N 9 r7.1) 100 r7.1 = N1 at q8 q9 q100 q3 q5
        refine Tm_suc (fun k => by rw [xE_6]) ?_
        refine Tm_ite (c := N1 8 ≤ 0) (fun _ => ?_) (fun z => absurd (by rw [q8]; decide) z)
        refine Tm_suc (fun k => by rw [xE_6]) ?_
        have hlt : 1 ≤ s.1 := by
          -- an exp has a byte
          have := (mo_of (M := b.1) hq.1 hv h7 (Nat.le_refl _) (by omega) trivial (fun h => h) (fun h => h)).2
          omega
        refine ih _ _ _ _ _ _ y hG r7.2 _ Q hS7 h1 (by omega) (by omega) (by omega) (by omega) hdd hlt ?_ ?_ (fun z => absurd z (by decide)) (fun _ => ⟨?_, a9.1, a9.2, a9.1, a9.2⟩) (fun ρ N' k3 k5 hF hm => ?_)
        · rw [upd_other (by decide), upd_other (by decide), upd_same, q100, hd_pos (by omega)]
        · rw [upd_same, upd_other (by decide), q8]; rfl
        · rw [upd_other (by decide), upd_same, upd_other (by decide)]; exact q9
        refine hout ρ N' (k3.trans (by rw [upd_other (by decide), upd_other (by decide), upd_other (by decide)]; exact q3)) (k5.trans (by rw [upd_other (by decide), upd_other (by decide), upd_other (by decide)]; exact q5)) (FrM_tr hF7 hF) ?_
        cases y with
        | inl yf => obtain ⟨m, m1, m2, m3⟩ := hm; exact ⟨m, m1, m2, by omega⟩
        | inr t => exact hm
      · rw [if_pos (hr3.mp z)] at hG
        cases hG
        exact hout τ N rfl rfl FrM_rf ⟨hS, hN6, hN8⟩
    · rw [if_neg c0] at hG
      obtain ⟨hN7, e1, e2, i1, i2⟩ := hN7 c0
      refine Tm_ite (c := (0 : Int32) < N 8) (fun _ => ?_) (fun z => absurd (by rw [hN8, n_pos (by omega)]; omega) z)
      refine Tm_suc (fun k => by rw [xE_6]) ?_
      refine Tm_ite (c := N 8 = 0) (fun z => absurd ((n_eq0 (by omega)).mp (by rw [← hN8]; exact z)) c0) (fun _ => ?_)
      refine Tm_ob (p_sign hS (s := 12) (by decide) (by decide) rfl) (fun r3 hr3 => ?_)
      obtain ⟨u, τ⟩ := r3
      obtain ⟨h3, hr3⟩ := hr3
      have h3 : τ = σ := h3
      subst h3
      refine Tm_ite (fun z => ?_) (fun z => ?_)
      · rw [if_neg (fun y => hr3.mpr y z)] at hG
        cases hG
        exact hout τ N rfl rfl FrM_rf ⟨hS, hN6, hN8⟩
      have hK := hr3.mp z
      rw [if_pos hK] at hG
      have hu4 := hu.2.2.2 (by rw [hK]; decide)
      refine Tm_suc (fun k => by rw [xE_6]) ?_
      refine Tm_ite (c := N 8 ≤ 0) (fun z => absurd ((n_le0 (by omega)).mp (by rw [← hN8]; exact z)) c0) (fun _ => ?_)
      refine Tm_ob (p_take (M := M) (P := P) (w := E.2.2.2.1) hS _) (fun r4 hr4 => ?_)
      refine Tm_suc (fun k => by rw [xE_6]) ?_
      show Tm (fun k => ob (x_GE k d 3 0 (fun _ => 0) r4.2) _) _
      have step : ∀ {yf : Nat × Nat} (r7 : Int32 × MS) (m : Nat), y = Sum.inl yf → Bb yf m r7.2 → M ≤ m → m ≤ b.1 + (n + 1 - q) + 3 * (d + 1) → FrM M P E.2.2.2.1 τ r7.2 → Tm (fun k => if N 8 = 0 then x_GE k (d + 1) 6 13 (upd (upd N 9 r7.1) 100 r7.1) r7.2 else x_GE k (d + 1) 6 12 (upd N 9 r7.1) r7.2) Q := fun {yf} r7 m hy hB hMm hm hF => by
        refine Tm_ite (fun z => absurd ((n_eq0 (by omega)).mp (by rw [← hN8]; exact z)) c0) (fun _ => ?_)
        refine Tm_suc (fun k => by rw [xE_6]) ?_
        exact bout r7.2 m _ c hy (by rw [upd_other (by decide), upd_other (by decide)]) (by rw [upd_other (by decide), upd_other (by decide)]) (by rw [upd_other (by decide), upd_other (by decide)]; exact hN8) (by omega) (fun _ => ⟨by rw [upd_other (by decide), upd_other (by decide)]; exact hN7, e1, e2⟩) hB hMm hm hF
      rcases gT_any hG with ⟨t4, hy⟩ | ⟨t4, hG⟩
      · rcases hr4.2 with ⟨_, hB⟩ | ⟨z, _⟩
        · obtain ⟨d', hd'⟩ : ∃ d', d = d' + 7 := ⟨d - 7, by omega⟩
          refine Tm_ob (by rw [hd']; exact b_exp hB.1) (fun r7 hr7 => ?_)
          subst hr7
          exact step (0, r4.2) _ hy hB hM (by omega) hr4.1
        · exact absurd t4 z
      rcases hr4.2 with ⟨z, _⟩ | ⟨_, hS4⟩
      · exact absurd z t4
      rcases gb_any hG with ⟨yf, h7, hy⟩ | ⟨s, h7, hG⟩
      · refine Tm_ob (H0 _ _ _ _ _ _ _ _ h7 r4.2 _ d M P hS4 h1 hM hP (by omega) (by omega) (by omega) trivial) (fun r7 hr7 => ?_)
        obtain ⟨⟨m1, hm, hmk, hMm⟩, _, hF7⟩ := hr7
        exact step r7 m1 hy hm hMm (by omega) (FrM_tr hr4.1 hF7)
      obtain ⟨⟨a1, a2, a3, a4, a5, a6, a7, a8⟩, a9⟩ := mo_of (M := M) hu.2.1 hv h7 hM h1 trivial (fun h => h) (fun h => h)
      refine Tm_ob (H0 _ _ _ _ _ _ _ _ h7 r4.2 _ d M P hS4 h1 hM hP (by omega) (by omega) (by omega) trivial) (fun r7 hr7 => ?_)
      obtain ⟨hS7, hr71, hF7⟩ := hr7
      refine Tm_ite (c := N 8 = 0) (fun z => absurd ((n_eq0 (by omega)).mp (by rw [← hN8]; exact z)) c0) (fun _ => ?_)
      refine Tm_suc (fun k => by rw [xE_6]) ?_
      have q8 : upd (upd N 9 r7.1) 100 (upd N 9 r7.1 6) 8 = nI c := by rw [upd_other (by decide), upd_other (by decide)]; exact hN8
      have q9 : upd (upd N 9 r7.1) 100 (upd N 9 r7.1 6) 9 = nI s.2.2.2.1 := by rw [upd_other (by decide), upd_same]; exact hr71
      have q100 : upd (upd N 9 r7.1) 100 (upd N 9 r7.1 6) 100 = hd i := by rw [upd_same, upd_other (by decide)]; exact hN6
      have q7 : upd (upd N 9 r7.1) 100 (upd N 9 r7.1 6) 7 = nI e := by rw [upd_other (by decide), upd_other (by decide)]; exact hN7
      have q3 : upd (upd N 9 r7.1) 100 (upd N 9 r7.1 6) 3 = N 3 := by rw [upd_other (by decide), upd_other (by decide)]
      have q5 : upd (upd N 9 r7.1) 100 (upd N 9 r7.1 6) 5 = N 5 := by rw [upd_other (by decide), upd_other (by decide)]
      show Tm (fun k => x_GE k (d + 1) 6 13 (upd (upd N 9 r7.1) 100 (upd N 9 r7.1 6)) r7.2) _
      generalize upd (upd N 9 r7.1) 100 (upd N 9 r7.1 6) = N1 at q8 q9 q100 q7 q3 q5
      refine Tm_suc (fun k => by rw [xE_6]) ?_
      refine Tm_ite (c := N1 8 ≤ 0) (fun z => absurd ((n_le0 (by omega)).mp (by rw [← q8]; exact z)) c0) (fun _ => ?_)
      rw [q7, q9]
      refine Tm_chk (n_in (by omega) (by omega)) ?_
      rw [n_cl (p := e) (by omega)]
      refine Tm_suc (fun k => by rw [xE_6]) ?_
      have hF8 : FrM M P E.2.2.2.1 τ (mSet r7.2 9 e (nI s.2.2.2.1)) := FrM_tr hr4.1 (FrM_tr hF7 (FrM_set (by decide) (by decide) (Or.inr e1) _))
      refine ih _ _ _ _ _ _ y hG (mSet r7.2 9 e (nI s.2.2.2.1)) _ Q (PS_set hS7 (by decide) (by decide) _) h1 (by rw [bSet_1]; omega) (by rw [bSet_p]; omega) (by rw [bSet_1]; omega) (by rw [bSet_p]; omega) hdd (by omega) ?_ ?_ (fun z => absurd z (by omega)) (fun _ => ⟨?_, a9.1, by rw [bSet_1]; exact a9.2, i1, by rw [bSet_1]; omega⟩) (fun ρ N' k3 k5 hF hm => ?_)
      · rw [upd_other (by decide), upd_other (by decide), upd_same]; exact q100
      · rw [upd_same, upd_other (by decide), q8, n_add1]
      · rw [upd_other (by decide), upd_same, upd_other (by decide)]; exact q9
      refine hout ρ N' (k3.trans (by rw [upd_other (by decide), upd_other (by decide), upd_other (by decide)]; exact q3)) (k5.trans (by rw [upd_other (by decide), upd_other (by decide), upd_other (by decide)]; exact q5)) (FrM_tr hF8 hF) ?_
      cases y with
      | inl yf => obtain ⟨m, m1, m2, m3⟩ := hm; exact ⟨m, m1, m2, by rw [bSet_1] at m3; omega⟩
      | inr t => exact hm
end CALLS
end JnS41
section JnS42
variable {yf : Nat × Nat}
/-! A name that begins an operand. -/
theorem fd_loc (E : En) (s : List Int32) : (fd E s).2.2 = 0 ∨ (fd E s).2.2 = 1 := by
  unfold fd
  cases E.2.1.find? (fun x => decide (x.1 = s)) with
  | some x =>
    by_cases h : E.2.2.2.1 = 0
    · exact Or.inl (if_pos h)
    · exact Or.inr (if_neg h)
  | none => cases E.1.find? (fun x => decide (x.1 = s)) with
    | some x => exact Or.inl rfl
    | none => exact Or.inl rfl
/-- so many exps are no more than bytes -/
theorem g_cnt (T : Nat → Int32) (n : Nat) : ∀ (f : Nat) (E : En) (o q v i e c : Nat) (b : BT) (r : RT), G T n f 14 E o q v i e c 0 b = some (Sum.inr r) → q ≤ n → c ≤ q → v ≤ 60 → 1 ≤ b.1 → r.2.2.1 ≤ r.1
  | 0 => fun E o q v i e c b r hG => by simp only [G] at hG; cases hG
  | f + 1 => fun E o q v i e c b r hG hq hc hv hb => by
    rw [G_14] at hG
    by_cases c0 : c = 0
    · rw [if_pos c0] at hG
      by_cases k7 : tkK T n q = 7
      · rw [if_pos k7] at hG; cases hG; exact Nat.zero_le _
      · rw [if_neg k7] at hG
        obtain ⟨s, h7, hG⟩ := gb_s hG
        obtain ⟨⟨a1, a2, a3, a4, a5, a6, a7, a8⟩, a9⟩ := mo_of (M := b.1) hq hv h7 (Nat.le_refl _) hb trivial (fun h => h) (fun h => h)
        exact g_cnt T n f _ _ _ _ _ _ _ _ _ hG a2 (by omega) (by omega) (by omega)
    · rw [if_neg c0] at hG
      by_cases k12 : tkK T n q = 12
      · rw [if_pos k12] at hG
        obtain ⟨_, hG⟩ := gT_s hG
        obtain ⟨s, h7, hG⟩ := gb_s hG
        have hu := tkN_b T n q hq
        obtain ⟨⟨a1, a2, a3, a4, a5, a6, a7, a8⟩, a9⟩ := mo_of (M := b.1) hu.2.1 hv h7 (Nat.le_refl _) hb trivial (fun h => h) (fun h => h)
        exact g_cnt T n f _ _ _ _ _ _ _ _ _ hG a2 (by omega) (by omega) (by rw [bSet_1]; omega)
      · rw [if_neg k12] at hG; cases hG; exact hc
section CALLS
variable {T : Nat → Int32} {n o M P d : Nat} {E : En}
theorem m_name {f q v : Nat} {b : BT} {x : Fl RT} {σ : MS} {L : Nat → Int32} (H : ∀ f', f' < f → S0 T n f')
    (hG : gT T n q (fun q1 =>
        if (fd E (tkS T n q)).1 = 1 then some (Sum.inr (q1, v, 1, b.1, bNode b 7 (fd E (tkS T n q)).2.2 (nI (fd E (tkS T n q)).2.1) 0, []))
        else if (fd E (tkS T n q)).1 = 2 ∧ tkK T n q1 = 6 then gO o q1 (gT T n q1 (fun q2 => gb (G T n f 14 E (o + 1) q2 v 0 0 0 0 b) (fun r =>
          if tkK T n r.1 = 7 ∧ r.2.2.1 = E.2.2.2.2.2.2 (fd E (tkS T n q)).2.1 then gT T n r.1 (fun q3 => some (Sum.inr (q3, r.2.1, 0, r.2.2.2.2.1.1, bWrap r.2.2.2.2.1 8 (nI (fd E (tkS T n q)).2.1) (hd r.2.2.2.1) (nI r.2.2.1) (nI (o + 1)), []))) else some (Sum.inl (if tkK T n r.1 = 7 then 6 else 2, r.1)))))
        else some (Sum.inl (5, q))) = some x)
    (hK : tkK T n q = 26) (hS : PS T n E o q v b σ) (h1 : 1 ≤ M) (hM : M ≤ b.1) (hP : P ≤ b.2.1) (hn : b.1 + (n + 1 - q) + 3 * (d + 3) ≤ 70000) (hp : b.2.1 + (n - q) ≤ 70000) (hdd : 12 * (21 - o) + 2 ≤ d + 1) : Tm (fun k => x_GE k (d + 1) 6 0 L σ) (Po T n E o M P (b.1 + (n + 1 - q) + 3 * (d + 2)) σ x) := by
  have hq := PS_q hS
  have hv := PS_v hS
  have ho := PS_o hS
  have hu := tkN_b T n q hq.1
  have hu4 := hu.2.2.2 (by rw [hK]; decide)
  -- from 15 on, behind a fault
  have b17 : ∀ {yf : Nat × Nat} (ρ : MS) (m : Nat) (N : Nat → Int32), Bb yf m ρ → M ≤ m → m + 1 ≤ b.1 + (n + 1 - q) + 3 * (d + 2) → FrM M P E.2.2.2.1 σ ρ → Tm (fun k => x_GE k (d + 1) 6 17 N ρ) (Po T n E o M P (b.1 + (n + 1 - q) + 3 * (d + 2)) σ (Sum.inl yf)) := fun {yf} ρ m N hB hMm hm hF => by
    refine Tm_suc (fun k => by rw [xE_6]) ?_
    refine Tm_ite (c := ρ.1 10 = 0) (fun z => absurd z hB.1) (fun _ => ?_)
    refine Tm_suc (fun k => by rw [xE_6]) ?_
    show Tm (fun k => x_GE k (d + 1) 6 19 N (mOpn ρ (ρ.1 13 - 1))) _
    refine Tm_suc (fun k => by rw [xE_6]) ?_
    refine Tm_ob (b_wrapped (M := M) (P := P) (w := E.2.2.2.1) (Bb_opn hB _) (by omega) hMm _) (fun r8 hr8 => ?_)
    exact Tm_some ⟨⟨_, hr8.2.1, hm, by omega⟩, ⟨_, hr8.1, by omega, Or.inr hMm⟩, FrM_tr hF (FrM_tr (FrM_opn _) hr8.2.2)⟩
  have b16 : ∀ {yf : Nat × Nat} (ρ : MS) (m : Nat) (N : Nat → Int32), Bb yf m ρ → M ≤ m → m + 1 ≤ b.1 + (n + 1 - q) + 3 * (d + 2) → FrM M P E.2.2.2.1 σ ρ → Tm (fun k => x_GE k (d + 1) 6 16 N ρ) (Po T n E o M P (b.1 + (n + 1 - q) + 3 * (d + 2)) σ (Sum.inl yf)) := fun {yf} ρ m N hB hMm hm hF => by
    refine Tm_suc (fun k => by rw [xE_6]) ?_
    exact Tm_ite (c := ρ.1 10 = 0) (fun z => absurd z hB.1) (fun _ => b17 ρ m N hB hMm hm hF)
  have b15 : ∀ {yf : Nat × Nat} (ρ : MS) (m : Nat) (N : Nat → Int32), Bb yf m ρ → M ≤ m → m + 1 ≤ b.1 + (n + 1 - q) + 3 * (d + 2) → FrM M P E.2.2.2.1 σ ρ → Tm (fun k => x_GE k (d + 1) 6 15 N ρ) (Po T n E o M P (b.1 + (n + 1 - q) + 3 * (d + 2)) σ (Sum.inl yf)) := fun {yf} ρ m N hB hMm hm hF => by
    refine Tm_suc (fun k => by rw [xE_6]) ?_
    exact Tm_ite (c := ρ.1 10 = 0) (fun z => absurd z hB.1) (fun _ => b16 ρ m N hB hMm hm hF)
  have b7 : ∀ {yf : Nat × Nat} (ρ : MS) (m : Nat) (N : Nat → Int32), Bb yf m ρ → M ≤ m → m + 1 ≤ b.1 + (n + 1 - q) + 3 * (d + 2) → FrM M P E.2.2.2.1 σ ρ → Tm (fun k => x_GE k (d + 1) 6 7 N ρ) (Po T n E o M P (b.1 + (n + 1 - q) + 3 * (d + 2)) σ (Sum.inl yf)) := fun {yf} ρ m N hB hMm hm hF => by
    refine Tm_suc (fun k => by rw [xE_6]) ?_
    show Tm (fun k => x_GE k (d + 1) 6 8 (upd (upd (upd N 6 (-1)) 7 (-1)) 8 0) ρ) _
    refine Tm_suc (fun k => by rw [xE_6]) ?_
    exact Tm_ite (c := ρ.1 10 = 0) (fun z => absurd z hB.1) (fun _ => b15 ρ m _ hB hMm hm hF)
  have b2 : ∀ {yf : Nat × Nat} (ρ : MS) (N : Nat → Int32), Bb yf b.1 ρ → FrM M P E.2.2.2.1 σ ρ → Tm (fun k => x_GE k (d + 1) 6 2 N ρ) (Po T n E o M P (b.1 + (n + 1 - q) + 3 * (d + 2)) σ (Sum.inl yf)) := fun {yf} ρ N hB hF => by
    refine Tm_suc (fun k => by rw [xE_6]) ?_
    exact Tm_ite (c := ρ.1 10 = 0) (fun z => absurd z hB.1) (fun _ => Tm_some ⟨⟨_, hB, by omega, hM⟩, ⟨0, rfl, by decide, Or.inl rfl⟩, hF⟩)
  refine Tm_suc (fun k => by rw [xE_6]) ?_
  refine Tm_ob (p_find (M := M) (P := P) (w := E.2.2.2.1) hS (by omega) _) (fun r1 hr1 => ?_)
  obtain ⟨hS1, hF1, hsame, h46, hF3, h47, hcal⟩ := hr1
  have hloc := fd_loc E (tkS T n q)
  refine Tm_ob (p_take (M := M) (P := P) (w := E.2.2.2.1) hS1 _) (fun r2 hr2 => ?_)
  have hF2 := FrM_tr hF1 hr2.1
  have n1 : upd (upd (upd (upd L 1 (σ.1 8)) 2 (r1.2.1 46)) 3 (r1.2.1 47)) 4 (r1.2.1 48) 1 = nI q := by rw [upd_other (by decide), upd_other (by decide), upd_other (by decide), upd_same]; exact PS_8 hS
  have n2 : upd (upd (upd (upd L 1 (σ.1 8)) 2 (r1.2.1 46)) 3 (r1.2.1 47)) 4 (r1.2.1 48) 2 = nI (fd E (tkS T n q)).1 := by rw [upd_other (by decide), upd_other (by decide), upd_same]; exact h46
  have n3 : upd (upd (upd (upd L 1 (σ.1 8)) 2 (r1.2.1 46)) 3 (r1.2.1 47)) 4 (r1.2.1 48) 3 = r1.2.1 47 := by rw [upd_other (by decide), upd_same]
  have n4 : upd (upd (upd (upd L 1 (σ.1 8)) 2 (r1.2.1 46)) 3 (r1.2.1 47)) 4 (r1.2.1 48) 4 = r1.2.1 48 := upd_same
  generalize upd (upd (upd (upd L 1 (σ.1 8)) 2 (r1.2.1 46)) 3 (r1.2.1 47)) 4 (r1.2.1 48) = N at n1 n2 n3 n4
  rcases gT_any hG with ⟨t0, rfl⟩ | ⟨t0, hG⟩
  · rcases hr2.2 with ⟨_, hB⟩ | ⟨z, _⟩
    · exact Tm_ite (c := r2.2.1 10 = 0) (fun z => absurd z hB.1) (fun _ => b2 r2.2 N hB hF2)
    · exact absurd t0 z
  rcases hr2.2 with ⟨z, _⟩ | ⟨_, hS2⟩
  · exact absurd z t0
  have hw := tkN_b T n (tkN T n q) hu.2.1
  rw [h46]
  generalize hFd : fd E (tkS T n q) = F at hG h46 hF3 h47 hcal hloc n2
  -- a fault at the name
  have flt : x = Sum.inl (5, q) → Tm (fun k => x_GE k (d + 1) 6 1 N r2.2) (Po T n E o M P (b.1 + (n + 1 - q) + 3 * (d + 2)) σ x) := fun hx => by
    subst hx
    refine Tm_suc (fun k => by rw [xE_6]) ?_
    refine Tm_ob (p_fault (M := M) (P := P) (w := E.2.2.2.1) (yf := (5, q)) hS2 _ (by rfl) (by rw [upd_same]; exact n1)) (fun r6 hr6 => ?_)
    exact b2 r6.2 N hr6.1 (FrM_tr hF2 hr6.2)
  refine Tm_ite (c := r2.2.1 10 = 0) (fun _ => ?_) (fun z => absurd (PS_ok hS2) z)
  refine Tm_ite (c := nI F.1 = 0) (fun z => ?_) (fun z => ?_)
  · rw [n_eq0 (by omega)] at z
    rw [if_neg (by omega), if_neg (by omega)] at hG
    exact flt (Option.some.inj hG).symm
  rw [n_eq0 (by omega)] at z
  obtain ⟨h47, h48, hF60⟩ := h47 z
  refine Tm_ite (c := nI F.1 = 3) (fun z3 => ?_) (fun z3 => ?_)
  · have z3 : nI F.1 = nI 3 := z3
    rw [n_eq (by omega) (by omega)] at z3
    rw [if_neg (by omega), if_neg (by omega)] at hG
    exact flt (Option.some.inj hG).symm
  have z3 : ¬ nI F.1 = nI 3 := z3
  rw [n_eq (by omega) (by omega)] at z3
  refine Tm_ite (c := nI F.1 = 2) (fun z2 => ?_) (fun z2 => ?_)
  · -- a func
    have z2 : nI F.1 = nI 2 := z2
    rw [n_eq (by omega) (by omega)] at z2
    obtain ⟨hF41, h18, hp8⟩ := hcal z (by omega)
    refine Tm_ob (p_sign hS2 (s := 6) (by decide) (by decide) rfl) (fun r7 hr7 => ?_)
    obtain ⟨u, τ⟩ := r7
    obtain ⟨h3, hr7⟩ := hr7
    have h3 : τ = r2.2 := h3
    subst h3
    refine Tm_ite (fun z => ?_) (fun z => ?_)
    · rw [if_neg (by omega), if_neg (fun y => hr7.mpr y.2 z)] at hG
      exact flt (Option.some.inj hG).symm
    have hK6 := hr7.mp z
    rw [if_neg (by omega), if_pos ⟨z2, hK6⟩] at hG
    have hw4 := hw.2.2.2 (by rw [hK6]; decide)
    refine Tm_suc (fun k => by rw [xE_6]) ?_
    refine Tm_ite (c := r2.2.1 10 = 0) (fun _ => ?_) (fun z => absurd (PS_ok hS2) z)
    refine Tm_suc (fun k => by rw [xE_6]) ?_
    refine Tm_ite (c := N 2 = 1) (fun y => ?_) (fun _ => ?_)
    · rw [n2] at y
      have y : nI F.1 = nI 1 := y
      rw [n_eq (by omega) (by omega)] at y; omega
    refine Tm_suc (fun k => by rw [xE_6]) ?_
    refine Tm_ob (p_open (M := M) (P := P) (w := E.2.2.2.1) hS2 _) (fun r8 hr8 => ?_)
    rcases gO_any hG with ⟨o0, rfl⟩ | ⟨o0, hG⟩
    · rcases hr8.2 with ⟨_, hB⟩ | ⟨y, _⟩
      · exact Tm_ite (c := r8.2.1 10 = 0) (fun c => absurd c hB.1) (fun _ => b7 r8.2 _ _ hB hM (by omega) (FrM_tr hF2 hr8.1))
      · omega
    rcases hr8.2 with ⟨y, _⟩ | ⟨ho2, hS8, h13⟩
    · exact absurd y o0
    refine Tm_ite (c := r8.2.1 10 = 0) (fun _ => ?_) (fun c => absurd (PS_ok hS8) c)
    refine Tm_ob (p_take (M := M) (P := P) (w := E.2.2.2.1) hS8 _) (fun r9 hr9 => ?_)
    have hF9 := FrM_tr hF2 (FrM_tr hr8.1 hr9.1)
    rcases gT_any hG with ⟨t9, rfl⟩ | ⟨t9, hG⟩
    · rcases hr9.2 with ⟨_, hB⟩ | ⟨y, _⟩
      · exact b7 r9.2 _ _ hB hM (by omega) hF9
      · exact absurd t9 y
    rcases hr9.2 with ⟨y, _⟩ | ⟨_, hS9⟩
    · exact absurd y t9
    rw [h13]
    have k3 : upd N 5 (nI (o + 1)) 3 = nI F.2.1 := by rw [upd_other (by decide), n3]; exact h47
    have k5 : upd N 5 (nI (o + 1)) 5 = nI (o + 1) := upd_same
    generalize upd N 5 (nI (o + 1)) = N5 at k3 k5
    refine Tm_suc (fun k => by rw [xE_6]) ?_
    obtain ⟨y, hGa, hy⟩ : ∃ y, G T n f 14 E (o + 1) (tkN T n (tkN T n q)) v 0 0 0 0 b = some y ∧ (match y with | Sum.inl yf => x = Sum.inl yf | Sum.inr r => (if tkK T n r.1 = 7 ∧ r.2.2.1 = E.2.2.2.2.2.2 F.2.1 then gT T n r.1 (fun q3 => some (Sum.inr (q3, r.2.1, 0, r.2.2.2.2.1.1, bWrap r.2.2.2.2.1 8 (nI F.2.1) (hd r.2.2.2.1) (nI r.2.2.1) (nI (o + 1)), []))) else some (Sum.inl (if tkK T n r.1 = 7 then 6 else 2, r.1))) = some x) := by
      rcases gb_any hG with ⟨yf, h9, hy⟩ | ⟨t, h9, hG⟩
      · exact ⟨Sum.inl yf, h9, hy⟩
      · exact ⟨Sum.inr t, h9, hG⟩
    refine args_loop (M := M) (P := P) (d := d) f H _ _ _ _ _ _ y hGa r9.2 (upd (upd (upd N5 6 (-1)) 7 (-1)) 8 0) _ hS9 h1 hM hP (by omega) (by omega) (by omega) (by omega) (by rw [upd_other (by decide), upd_other (by decide), upd_same]; rfl) (by rw [upd_same]; rfl) (fun _ => rfl) (fun z => absurd rfl z) (fun ρ N' m3 m5 hF hm => ?_)
    have m3 : N' 3 = nI F.2.1 := by rw [m3, upd_other (by decide), upd_other (by decide), upd_other (by decide)]; exact k3
    have m5 : N' 5 = nI (o + 1) := by rw [m5, upd_other (by decide), upd_other (by decide), upd_other (by decide)]; exact k5
    have hFρ := FrM_tr hF9 hF
    cases y with
    | inl yf =>
      have hx : x = Sum.inl yf := hy
      subst hx
      obtain ⟨m, j1, j2, j3⟩ := hm
      exact b15 ρ m N' j1 j2 (by omega) hFρ
    | inr s =>
      have hG : (if tkK T n s.1 = 7 ∧ s.2.2.1 = E.2.2.2.2.2.2 F.2.1 then gT T n s.1 (fun q3 => some (Sum.inr (q3, s.2.1, 0, s.2.2.2.2.1.1, bWrap s.2.2.2.2.1 8 (nI F.2.1) (hd s.2.2.2.1) (nI s.2.2.1) (nI (o + 1)), []))) else some (Sum.inl (if tkK T n s.1 = 7 then 6 else 2, s.1))) = some x := hy
      obtain ⟨hSs, m6, m8⟩ := hm
      obtain ⟨x1, x2⟩ := g_mono T n f 14 _ _ _ _ _ _ _ _ _ s hw.2.1 hv hGa M hM h1 (Or.inl rfl)
      obtain ⟨a1, a2, a3, a4, a5, a6, a7, a8⟩ := (x1 : Mo n _ _ _ s)
      have hc14 : s.2.2.1 ≤ s.1 := g_cnt T n f _ _ _ _ _ _ _ _ _ hGa hw.2.1 (Nat.zero_le _) hv (by omega)
      have hws := tkN_b T n s.1 a2
      refine Tm_suc (fun k => by rw [xE_6]) ?_
      refine Tm_ite (c := ρ.1 10 = 0) (fun _ => ?_) (fun z => absurd (PS_ok hSs) z)
      refine Tm_ob (p_sign hSs (s := 7) (by decide) (by decide) rfl) (fun ra hra => ?_)
      obtain ⟨u, τ⟩ := ra
      obtain ⟨h3, hra⟩ := hra
      have h3 : τ = ρ := h3
      subst h3
      refine Tm_ite (fun z => ?_) (fun z => ?_)
      · rw [if_neg (fun y => hra.mpr y.1 z), if_neg (fun y => hra.mpr y z)] at hG
        have hx := (Option.some.inj hG).symm
        subst hx
        refine Tm_ob (p_cannot (M := M) (P := P) (w := E.2.2.2.1) hSs _) (fun rc hrc => ?_)
        exact b16 rc.2 _ N' hrc.1 (by omega) (by omega) (FrM_tr hFρ hrc.2)
      have hK7 := hra.mp z
      have e18 : τ.2.2 18 F.2.1 = nI (E.2.2.2.2.2.2 F.2.1) := by rw [hFρ.2.2.1 18 (by decide)]; exact h18
      refine Tm_suc (fun k => by rw [xE_6]) ?_
      refine Tm_ite (c := τ.1 10 = 0) (fun _ => ?_) (fun z => absurd (PS_ok hSs) z)
      rw [m3]
      refine Tm_chk (n_in (by omega) (by omega)) ?_
      rw [n_cl (p := F.2.1) (by omega), e18, m8]
      refine Tm_ite (c := nI s.2.2.1 = nI (E.2.2.2.2.2.2 F.2.1)) (fun z => ?_) (fun z => ?_)
      · rw [n_eq (by omega) (by omega)] at z
        rw [if_pos ⟨hK7, z⟩] at hG
        have hws4 := hws.2.2.2 (by rw [hK7]; decide)
        refine Tm_suc (fun k => by rw [xE_6]) ?_
        refine Tm_ite (c := τ.1 10 = 0) (fun _ => ?_) (fun z => absurd (PS_ok hSs) z)
        refine Tm_ob (p_take (M := M) (P := P) (w := E.2.2.2.1) hSs _) (fun rt hrt => ?_)
        refine Tm_suc (fun k => by rw [xE_6]) ?_
        show Tm (fun k => x_GE k (d + 1) 6 19 N' (mOpn rt.2 (rt.2.1 13 - 1))) _
        refine Tm_suc (fun k => by rw [xE_6]) ?_
        rcases gT_any hG with ⟨t6, rfl⟩ | ⟨t6, hG⟩
        · rcases hrt.2 with ⟨_, hB⟩ | ⟨y, _⟩
          · refine Tm_ob (b_wrapped (M := M) (P := P) (w := E.2.2.2.1) (Bb_opn hB _) (by omega) (by omega) _) (fun r8 hr8 => ?_)
            exact Tm_some ⟨⟨_, hr8.2.1, by omega, by omega⟩, ⟨_, hr8.1, by omega, Or.inr (by omega)⟩, FrM_tr hFρ (FrM_tr hrt.1 (FrM_tr (FrM_opn _) hr8.2.2))⟩
          · exact absurd t6 y
        rcases hrt.2 with ⟨y, _⟩ | ⟨_, hSt⟩
        · exact absurd y t6
        refine Tm_ob (p_wrapped (M := M) (P := P) (w := E.2.2.2.1) (PS_clo hSt) (by omega) (by omega) _) (fun r8 hr8 => ?_)
        obtain ⟨hr81, hS8', hF8⟩ := hr8
        cases hG
        refine Tm_some ⟨?_, hr81, FrM_tr hFρ (FrM_tr hrt.1 (FrM_tr (FrM_opn _) hF8))⟩
        have w2 : (upd (upd (upd (upd (upd (fun _ => (0 : Int32)) 1 8) 2 (N' 3)) 3 (N' 6)) 4 (N' 8)) 5 (N' 5)) 2 = nI F.2.1 := by rw [upd_other (by decide), upd_other (by decide), upd_other (by decide), upd_same]; exact m3
        have w3 : (upd (upd (upd (upd (upd (fun _ => (0 : Int32)) 1 8) 2 (N' 3)) 3 (N' 6)) 4 (N' 8)) 5 (N' 5)) 3 = hd s.2.2.2.1 := by rw [upd_other (by decide), upd_other (by decide), upd_same]; exact m6
        have w4 : (upd (upd (upd (upd (upd (fun _ => (0 : Int32)) 1 8) 2 (N' 3)) 3 (N' 6)) 4 (N' 8)) 5 (N' 5)) 4 = nI s.2.2.1 := by rw [upd_other (by decide), upd_same]; exact m8
        have w5 : (upd (upd (upd (upd (upd (fun _ => (0 : Int32)) 1 8) 2 (N' 3)) 3 (N' 6)) 4 (N' 8)) 5 (N' 5)) 5 = nI (o + 1) := by rw [upd_same]; exact m5
        rw [w2, w3, w4, w5] at hS8'
        exact hS8'
      · rw [n_eq (by omega) (by omega)] at z
        rw [if_neg (fun y => z y.2), if_pos hK7] at hG
        have hx := (Option.some.inj hG).symm
        subst hx
        refine Tm_ob (p_fault (M := M) (P := P) (w := E.2.2.2.1) (yf := (6, s.1)) hSs _ (by rfl) (by exact PS_8 hSs)) (fun rc hrc => ?_)
        exact b17 rc.2 _ N' hrc.1 (by omega) (by omega) (FrM_tr hFρ hrc.2)
  · -- a variable
    have z2 : ¬ nI F.1 = nI 2 := z2
    rw [n_eq (by omega) (by omega)] at z2
    have hF1' : F.1 = 1 := by omega
    rw [if_pos hF1'] at hG
    cases hG
    refine Tm_suc (fun k => by rw [xE_6]) ?_
    refine Tm_ite (c := r2.2.1 10 = 0) (fun _ => ?_) (fun z => absurd (PS_ok hS2) z)
    refine Tm_suc (fun k => by rw [xE_6]) ?_
    refine Tm_ite (c := N 2 = 1) (fun _ => ?_) (fun y => absurd (by rw [n2, hF1']; rfl) y)
    have last : ∀ N' : Nat → Int32, N' 101 = 7 → N' 100 = F.2.2 → N' 3 = nI F.2.1 → Tm (fun k => x_GE k (d + 1) 6 5 N' r2.2) (Po T n E o M P (b.1 + (n + 1 - q) + 3 * (d + 2)) σ (Sum.inr (tkN T n q, v, 1, b.1, bNode b 7 F.2.2 (nI F.2.1) 0, []))) := fun N' j1 j2 j3 => by
      refine Tm_suc (fun k => by rw [xE_6]) ?_
      refine Tm_ob (p_node (M := M) (P := P) (w := E.2.2.2.1) hS2 (by omega) hM _) (fun r8 hr8 => ?_)
      obtain ⟨hr81, hS8, hF8⟩ := hr8
      refine Tm_some ⟨?_, hr81, FrM_tr hF2 hF8⟩
      have w1 : (upd (upd (upd (upd (fun _ => (0 : Int32)) 1 (N' 101)) 2 (N' 100)) 3 (N' 3)) 4 0) 1 = 7 := by rw [upd_other (by decide), upd_other (by decide), upd_other (by decide), upd_same]; exact j1
      have w2 : (upd (upd (upd (upd (fun _ => (0 : Int32)) 1 (N' 101)) 2 (N' 100)) 3 (N' 3)) 4 0) 2 = F.2.2 := by rw [upd_other (by decide), upd_other (by decide), upd_same]; exact j2
      have w3 : (upd (upd (upd (upd (fun _ => (0 : Int32)) 1 (N' 101)) 2 (N' 100)) 3 (N' 3)) 4 0) 3 = nI F.2.1 := by rw [upd_other (by decide), upd_same]; exact j3
      rw [w1, w2, w3] at hS8
      exact hS8
    refine Tm_ite (c := N 4 = 0) (fun y => ?_) (fun y => ?_)
    · rw [n4, h48] at y
      refine Tm_suc (fun k => by rw [xE_6]) ?_
      refine last _ (by rw [upd_same, upd_same]) (by rw [upd_other (by decide), upd_same, y]) ?_
      rw [upd_other (by decide), upd_other (by decide), upd_other (by decide), n3]; exact h47
    · rw [n4, h48] at y
      have y1 : F.2.2 = 1 := hloc.resolve_left y
      refine last _ upd_same (by rw [upd_other (by decide), upd_same, y1]) ?_
      rw [upd_other (by decide), upd_other (by decide), n3]; exact h47
end CALLS
end JnS42
