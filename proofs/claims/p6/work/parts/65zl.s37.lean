/-! tellName. -/
section TELL
variable {T : Nat → Int32} {n : Nat} {E : En} {o q v M P : Nat} {b : BT} {σ : MS}
theorem p_wantName {w : Nat} (h : PS T n E o q v b σ) (L : Nat → Int32) : Tm (fun k => x_wantName k 0 L σ) (fun r => FrM M P w σ r.2 ∧ ((¬ tkK T n q = 26 ∧ Bb b.1 r.2) ∨ (tkK T n q = 26 ∧ r.2 = σ))) := by
  have c := cur_kind (PS_cur h)
  refine Tm_suc (fun k => by rw [x_wantName]) ?_
  refine Tm_ite (fun _ => ?_) (fun c => absurd (PS_ok h) c)
  refine Tm_ite (fun d => ?_) (fun d => ?_)
  · refine Tm_suc (fun k => by rw [x_wantName]) ?_
    exact Tm_some ⟨FrM_rf, Or.inr ⟨c.2.1.mp d, rfl⟩⟩
  · refine Tm_ob (p_cannot (M := M) (P := P) (w := w) h _) (fun r hr => ?_)
    refine Tm_suc (fun k => by rw [x_wantName]) ?_
    exact Tm_some ⟨hr.2, Or.inl ⟨fun z => d (c.2.1.mpr z), hr.1⟩⟩
/-- a name of the row is told twice -/
theorem dup_iff {j1 j2 j3 f e p c : Nat} {pool : Nat → Int32} (hT : σ.2.2 3 = T) (hp : p ≤ 70000) (hpl : ∀ i, i < p → σ.2.2 12 i = pool i) : ∀ l : List Nm, rowsOK (σ.2.2 j1) (σ.2.2 j2) (σ.2.2 j3) pool p l → (((l.take (l.length - c)).find? (fun x => decide (x.1 = seg T f e))).isSome = true ↔ ∃ k, c ≤ k ∧ k < l.length ∧ mIs σ f (e - f) j1 j2 k)
  | [], _ => ⟨fun h => by rw [List.take_nil] at h; exact absurd (show false = true from h) Bool.false_ne_true, fun ⟨k, _, h, _⟩ => absurd h (Nat.not_lt_zero k)⟩
  | x :: l, ⟨⟨a, b, _, d, _, g⟩, h⟩ => by
    have ih := dup_iff (c := c) (f := f) (e := e) hT hp hpl l h
    have hx := mIs_row (f := f) (e := e) hT a b (by omega) (fun i hi => by rw [hpl _ (by omega)]; exact g i hi)
    have hlen : (x :: l).length = l.length + 1 := rfl
    rw [hlen]
    by_cases hc : c ≤ l.length
    · rw [show l.length + 1 - c = (l.length - c) + 1 by omega, List.take_succ_cons, List.find?_cons]
      by_cases he : x.1 = seg T f e
      · rw [decide_eq_true he]
        exact ⟨fun _ => ⟨l.length, hc, by omega, hx.mpr he⟩, fun _ => rfl⟩
      · rw [decide_eq_false he]
        show ((l.take (l.length - c)).find? (fun x => decide (x.1 = seg T f e))).isSome = true ↔ _
        rw [ih]
        constructor
        · rintro ⟨k, k1, k2, k3⟩; exact ⟨k, k1, by omega, k3⟩
        · rintro ⟨k, k1, k2, k3⟩
          refine ⟨k, k1, ?_, k3⟩
          by_cases hk : k = l.length
          · subst hk; exact absurd (hx.mp k3) he
          · omega
    · rw [show l.length + 1 - c = 0 by omega, List.take_zero]
      exact ⟨fun h => absurd (show false = true from h) Bool.false_ne_true, fun ⟨k, k1, k2, _⟩ => absurd k2 (by omega)⟩
abbrev tellC (T : Nat → Int32) (n : Nat) (E : En) (c q v : Nat) : Prop := tkK T n q = 26 ∧ ((E.2.2.1.take (E.2.2.1.length - c)).find? (fun x => decide (x.1 = tkS T n q))).isSome = false ∧ ¬ v = 60 ∧ ¬ tkK T n (tkN T n q) = 0
theorem p_tellName (h : PS T n E o q v b σ) (hP : P ≤ b.2.1) (hM : M ≤ b.1) (hm : b.1 + 1 < 70000) (hp : b.2.1 + (n - q) ≤ 70000) {c g : Nat} (hc : c ≤ E.2.2.1.length) (hg : g ≤ 1) {L : Nat → Int32} (hL1 : L 1 = nI c) (hL2 : L 2 = nI g) :
    Tm (fun k => x_tellName k 0 L σ) (fun r => FrM M P E.2.2.2.1 σ r.2 ∧ ((¬ tellC T n E c q v ∧ ∃ m, Bb m r.2 ∧ b.1 ≤ m ∧ m ≤ b.1 + 1) ∨ (tellC T n E c q v ∧ r.1 = nI b.1 ∧ PS T n (rowN E [(tkS T n q, b.2.1, v)]) o (tkN T n q) (v + 1) (bNode (bKeep (bSlot b (60 * E.2.2.2.1 + v) (nI g)) T q (tkE T n q - q)) 31 (if E.2.2.2.1 = 0 then 0 else 1) (nI v) 0) r.2))) := by
  have h0 := h
  obtain ⟨⟨⟨a1, a2⟩, a3, a4, a5, ⟨c1, c2, c3, c4, c5, c6⟩, a6⟩, ⟨d1, d2⟩, ⟨e1, e2, e3, e4, e5⟩, ⟨f1, f2, f3, f4, f5⟩, ⟨⟨g1, g2, g3⟩, ⟨g4, g5, g6⟩, ⟨g7, g8, g9⟩⟩, ⟨i1, i2, i3⟩⟩ := h
  have hE := tkE_b T n q c1
  have hrow := rows_mRow (by omega) E.2.2.1 g6
  have hdup := dup_iff (c := c) (f := q) (e := tkE T n q) a3 (by omega) e5 E.2.2.1 g6
  -- a fault: the rest of the row is gone through
  have bl : ∀ (m k : Nat) (N : Nat → Int32) (ρ : MS), m + k = E.2.2.1.length → N 3 = nI k → ρ.2 = σ.2 → (∀ j, ¬ (10 ≤ j ∧ j ≤ 12) → ρ.1 j = σ.1 j) → ¬ ρ.1 10 = 0 → Tm (fun f => x_tellName f 2 N ρ) (fun r => r = (0, ρ)) := by
    intro m
    induction m with
    | zero =>
      intro k N ρ hk hN h2 hs hb
      refine Tm_suc (fun k => by rw [x_tellName]) ?_
      rw [hs 52 (by decide), g4, hN]
      refine Tm_ite (fun _ => ?_) (fun z => absurd ((n_le (by omega) (by omega)).mpr (by omega)) z)
      refine Tm_suc (fun k => by rw [x_tellName]) ?_
      refine Tm_ite (fun z => absurd z hb) (fun _ => ?_)
      refine Tm_suc (fun k => by rw [x_tellName]) ?_
      exact Tm_ite (fun z => absurd z hb) (fun _ => Tm_some rfl)
    | succ m ih =>
      intro k N ρ hk hN h2 hs hb
      obtain ⟨pp, ll, r1, r2, r3⟩ := hrow k (by omega)
      have h22 : ρ.2.2 = σ.2.2 := by rw [h2]
      refine Tm_suc (fun k => by rw [x_tellName]) ?_
      rw [hs 52 (by decide), g4, hN]
      refine Tm_ite (fun z => absurd ((n_le (by omega) (by omega)).mp z) (by omega)) (fun _ => ?_)
      refine Tm_chk (n_in (by omega) (by omega)) ?_
      refine Tm_chk (n_in (by omega) (by omega)) ?_
      rw [n_cl (p := k) (by omega), h22, r1, r2]
      refine Tm_ob (s_isNamed (σ := ρ) (f := q) (e := tkE T n q) (p := pp) (l := ll) ((hs 8 (by decide)).trans c2) ((hs 9 (by decide)).trans c4) hE.1 (by omega) r3 _ rfl rfl) (fun r4 hr4 => ?_)
      obtain ⟨u, τ⟩ := r4
      have hr41 : τ = ρ := hr4.1
      subst hr41
      have next : Tm (fun f => x_tellName f 3 N τ) (fun r => r = (0, τ)) := by
        refine Tm_suc (fun k => by rw [x_tellName]) ?_
        exact ih (k + 1) _ τ (by omega) (by rw [upd_same, hN, n_add1]) h2 hs hb
      refine Tm_ite (fun _ => next) (fun _ => ?_)
      refine Tm_ob (s_fault _ τ) (fun r6 hr6 => ?_)
      rw [if_neg hb] at hr6
      subst hr6
      exact next
  -- the end
  have fin : ∀ N : Nat → Int32, N 2 = nI g → (∀ j, c ≤ j → j < E.2.2.1.length → ¬ mIs σ q (tkE T n q - q) 25 26 j) → tkK T n q = 26 → Tm (fun f => x_tellName f 4 N σ) (fun r => FrM M P E.2.2.2.1 σ r.2 ∧ ((¬ tellC T n E c q v ∧ ∃ m, Bb m r.2 ∧ b.1 ≤ m ∧ m ≤ b.1 + 1) ∨ (tellC T n E c q v ∧ r.1 = nI b.1 ∧ PS T n (rowN E [(tkS T n q, b.2.1, v)]) o (tkN T n q) (v + 1) (bNode (bKeep (bSlot b (60 * E.2.2.2.1 + v) (nI g)) T q (tkE T n q - q)) 31 (if E.2.2.2.1 = 0 then 0 else 1) (nI v) 0) r.2))) := by
    intro N hN2 hno hK
    have hsome : ((E.2.2.1.take (E.2.2.1.length - c)).find? (fun x => decide (x.1 = tkS T n q))).isSome = false := by
      apply eq_false_of_ne_true
      intro z
      obtain ⟨k, k1, k2, k3⟩ := hdup.mp z
      exact hno k k1 k2 k3
    refine Tm_suc (fun k => by rw [x_tellName]) ?_
    refine Tm_ite (fun _ => ?_) (fun z => absurd a5 z)
    refine Tm_suc (fun k => by rw [x_tellName]) ?_
    refine Tm_ob (p_newSlot (M := M) (P := P) h0 hg (by rw [upd_same]; exact hN2)) (fun r1 hr1 => ?_)
    obtain ⟨hF1, hr1⟩ := hr1
    rcases hr1 with ⟨hv, hB⟩ | ⟨hv, hr, hS1⟩
    · refine Tm_suc (fun k => by rw [x_tellName]) ?_
      refine Tm_ite (fun z => absurd z hB.1) (fun _ => ?_)
      exact Tm_some ⟨hF1, Or.inl ⟨fun z => z.2.2.1 hv, _, hB, Nat.le_refl _, by omega⟩⟩
    · subst hr
      refine Tm_suc (fun k => by rw [x_tellName]) ?_
      refine Tm_ite (fun _ => ?_) (fun z => absurd (PS_ok hS1) z)
      have hN3 : upd (upd N 100 (nI v)) 3 (upd N 100 (nI v) 100) 3 = nI v := by rw [upd_same, upd_same]
      generalize upd (upd N 100 (nI v)) 3 (upd N 100 (nI v) 100) = N1 at hN3
      refine Tm_suc (fun k => by rw [x_tellName]) ?_
      refine Tm_ob (p_keep (M := M) (P := P) (w := E.2.2.2.1) hS1 hP (f := q) (e := tkE T n q) hE.1 (by omega) (by rw [bSlot_p]; omega) (by rw [upd_other (by decide), upd_same]; exact c2) (by rw [upd_same]; exact c4)) (fun r2 hr2 => ?_)
      obtain ⟨hr2, hS2, hF2⟩ := hr2
      have h52 : (mSlot σ E.2.2.2.1 v (nI g)).1 52 = nI E.2.2.1.length := g4
      have k52 : r2.2.1 52 = nI E.2.2.1.length := hS2.2.2.2.2.1.2.1.1
      have k8 : r2.2.1 8 = nI q := hS2.1.2.2.2.2.1.2.1
      have k9 : r2.2.1 9 = nI (tkE T n q) := hS2.1.2.2.2.2.1.2.2.2.1
      have k1 : r2.1 = nI b.2.1 := by rw [hr2]; rfl
      have hi : ¬ (nI E.2.2.1.length < 0 ∨ 4000 ≤ (nI E.2.2.1.length).toNatClampNeg) := n_in (by omega) (by omega)
      have hcl : (nI E.2.2.1.length).toNatClampNeg = E.2.2.1.length := n_cl (by omega)
      rw [h52, k1]
      refine Tm_chk hi ?_
      refine Tm_suc (fun k => by rw [x_tellName]) ?_
      show Tm (fun k => if ¬ (r2.2.1 52 < 0 ∨ 4000 ≤ (r2.2.1 52).toNatClampNeg) then x_tellName k 9 N1 (r2.2.1, r2.2.2.1, updG (updG r2.2.2.2 25 (upd (r2.2.2.2 25) (nI E.2.2.1.length).toNatClampNeg (nI b.2.1))) 26 (upd ((updG r2.2.2.2 25 (upd (r2.2.2.2 25) (nI E.2.2.1.length).toNatClampNeg (nI b.2.1))) 26) (r2.2.1 52).toNatClampNeg (r2.2.1 9 - r2.2.1 8))) else none) _
      rw [k52, k8, k9, n_sub (by omega) hE.1]
      refine Tm_chk hi ?_
      refine Tm_suc (fun k => by rw [x_tellName]) ?_
      refine Tm_chk (c := ¬ (r2.2.1 52 < 0 ∨ 4000 ≤ (r2.2.1 52).toNatClampNeg)) (by rw [k52]; exact hi) ?_
      refine Tm_suc (fun k => by rw [x_tellName]) ?_
      -- the row is laid
      have hst : ((upd r2.2.1 52 (r2.2.1 52 + 1), r2.2.2.1, updG (updG (updG r2.2.2.2 25 (upd (r2.2.2.2 25) (nI E.2.2.1.length).toNatClampNeg (nI b.2.1))) 26 (upd ((updG r2.2.2.2 25 (upd (r2.2.2.2 25) (nI E.2.2.1.length).toNatClampNeg (nI b.2.1))) 26) (nI E.2.2.1.length).toNatClampNeg (nI (tkE T n q - q)))) 27 (upd ((updG (updG r2.2.2.2 25 (upd (r2.2.2.2 25) (nI E.2.2.1.length).toNatClampNeg (nI b.2.1))) 26 (upd ((updG r2.2.2.2 25 (upd (r2.2.2.2 25) (nI E.2.2.1.length).toNatClampNeg (nI b.2.1))) 26) (nI E.2.2.1.length).toNatClampNeg (nI (tkE T n q - q)))) 27) (r2.2.1 52).toNatClampNeg (N1 3))) : MS) = mRowP r2.2 E.2.2.1.length (nI b.2.1) (nI (tkE T n q - q)) (nI v) := by
        rw [k52, hcl, hN3, n_add1]; rfl
      show Tm (fun k => x_tellName k 11 N1 (upd r2.2.1 52 (r2.2.1 52 + 1), r2.2.2.1, updG (updG (updG r2.2.2.2 25 (upd (r2.2.2.2 25) (nI E.2.2.1.length).toNatClampNeg (nI b.2.1))) 26 (upd ((updG r2.2.2.2 25 (upd (r2.2.2.2 25) (nI E.2.2.1.length).toNatClampNeg (nI b.2.1))) 26) (nI E.2.2.1.length).toNatClampNeg (nI (tkE T n q - q)))) 27 (upd ((updG (updG r2.2.2.2 25 (upd (r2.2.2.2 25) (nI E.2.2.1.length).toNatClampNeg (nI b.2.1))) 26 (upd ((updG r2.2.2.2 25 (upd (r2.2.2.2 25) (nI E.2.2.1.length).toNatClampNeg (nI b.2.1))) 26) (nI E.2.2.1.length).toNatClampNeg (nI (tkE T n q - q)))) 27) (r2.2.1 52).toNatClampNeg (N1 3)))) _
      rw [hst]
      have hsl : (tkS T n q).length = tkE T n q - q := seg_len _ _ _
      have hS3 := PS_row hS2 (tkS T n q, b.2.1, v) (by omega) (by show b.2.1 + (tkS T n q).length ≤ b.2.1 + (tkE T n q - q); rw [hsl]; exact Nat.le_refl _) hv (fun i hi => by
        have hi : i < (tkS T n q).length := hi
        rw [hsl] at hi
        show (if b.2.1 ≤ b.2.1 + i ∧ b.2.1 + i < b.2.1 + (tkE T n q - q) then T (q + (b.2.1 + i - b.2.1)) else _) = (tkS T n q).getD i 0
        rw [if_pos (by omega), show b.2.1 + i - b.2.1 = i by omega]
        exact (seg_at hi).symm)
      rw [hsl] at hS3
      have hF3 : FrM M P E.2.2.2.1 σ (mRowP r2.2 E.2.2.1.length (nI b.2.1) (nI (tkE T n q - q)) (nI v)) := FrM_tr hF1 (FrM_tr hF2 FrM_row)
      generalize mRowP r2.2 E.2.2.1.length (nI b.2.1) (nI (tkE T n q - q)) (nI v) = ρ at hS3 hF3
      -- the node, then the next token
      have last : ∀ N : Nat → Int32, N 101 = 31 → N 100 = (if E.2.2.2.1 = 0 then 0 else 1) → N 3 = nI v → Tm (fun f => x_tellName f 13 N ρ) (fun r => FrM M P E.2.2.2.1 σ r.2 ∧ ((¬ tellC T n E c q v ∧ ∃ m, Bb m r.2 ∧ b.1 ≤ m ∧ m ≤ b.1 + 1) ∨ (tellC T n E c q v ∧ r.1 = nI b.1 ∧ PS T n (rowN E [(tkS T n q, b.2.1, v)]) o (tkN T n q) (v + 1) (bNode (bKeep (bSlot b (60 * E.2.2.2.1 + v) (nI g)) T q (tkE T n q - q)) 31 (if E.2.2.2.1 = 0 then 0 else 1) (nI v) 0) r.2))) := by
        intro N n1 n2 n3
        refine Tm_suc (fun k => by rw [x_tellName]) ?_
        refine Tm_ob (p_node (M := M) (P := P) (w := E.2.2.2.1) hS3 (by rw [bKeep_1, bSlot_1]; omega) (by rw [bKeep_1, bSlot_1]; omega) _) (fun r8 hr8 => ?_)
        obtain ⟨hr81, hS8, hF8⟩ := hr8
        have m1 : (upd (upd (upd (upd (fun _ => (0 : Int32)) 1 (N 101)) 2 (N 100)) 3 (N 3)) 4 0) 1 = 31 := by rw [upd_other (by decide), upd_other (by decide), upd_other (by decide), upd_same]; exact n1
        have m2 : (upd (upd (upd (upd (fun _ => (0 : Int32)) 1 (N 101)) 2 (N 100)) 3 (N 3)) 4 0) 2 = (if E.2.2.2.1 = 0 then 0 else 1) := by rw [upd_other (by decide), upd_other (by decide), upd_same]; exact n2
        have m3 : (upd (upd (upd (upd (fun _ => (0 : Int32)) 1 (N 101)) 2 (N 100)) 3 (N 3)) 4 0) 3 = nI v := by rw [upd_other (by decide), upd_same]; exact n3
        rw [m1, m2, m3] at hS8
        refine Tm_ob (p_take (M := M) (P := P) (w := E.2.2.2.1) hS8 _) (fun r9 hr9 => ?_)
        refine Tm_some ⟨FrM_tr hF3 (FrM_tr hF8 hr9.1), ?_⟩
        rcases hr9.2 with ⟨z, hB⟩ | ⟨z, hS9⟩
        · exact Or.inl ⟨fun y => y.2.2.2 z, _, hB, by rw [bNode_1, bKeep_1, bSlot_1]; omega, by rw [bNode_1, bKeep_1, bSlot_1]; omega⟩
        · exact Or.inr ⟨⟨hK, hsome, by omega, z⟩, hr81, hS9⟩
      refine Tm_suc (fun k => by rw [x_tellName]) ?_
      have k37 : ρ.1 37 = nI E.2.2.2.1 := hS3.2.2.2.1.1
      rw [k37]
      refine Tm_ite (fun z => ?_) (fun z => ?_)
      · have z : nI E.2.2.2.1 ≤ nI 0 := z
        rw [n_le (by omega) (by omega)] at z
        refine Tm_suc (fun k => by rw [x_tellName]) ?_
        refine last _ ?_ ?_ ?_
        · rw [upd_same, upd_same]
        · rw [upd_other (by decide), upd_same, if_pos (by omega)]
        · rw [upd_other (by decide), upd_other (by decide), upd_other (by decide)]; exact hN3
      · have z : ¬ nI E.2.2.2.1 ≤ nI 0 := z
        rw [n_le (by omega) (by omega)] at z
        refine last _ ?_ ?_ ?_
        · rw [upd_same]
        · rw [upd_other (by decide), upd_same, if_neg (by omega)]
        · rw [upd_other (by decide), upd_other (by decide)]; exact hN3
  have gl : tkK T n q = 26 → ∀ (m k : Nat) (N : Nat → Int32), m + k = E.2.2.1.length → c ≤ k → N 3 = nI k → N 2 = nI g → (∀ j, c ≤ j → j < k → ¬ mIs σ q (tkE T n q - q) 25 26 j) → Tm (fun f => x_tellName f 2 N σ) (fun r => FrM M P E.2.2.2.1 σ r.2 ∧ ((¬ tellC T n E c q v ∧ ∃ m, Bb m r.2 ∧ b.1 ≤ m ∧ m ≤ b.1 + 1) ∨ (tellC T n E c q v ∧ r.1 = nI b.1 ∧ PS T n (rowN E [(tkS T n q, b.2.1, v)]) o (tkN T n q) (v + 1) (bNode (bKeep (bSlot b (60 * E.2.2.2.1 + v) (nI g)) T q (tkE T n q - q)) 31 (if E.2.2.2.1 = 0 then 0 else 1) (nI v) 0) r.2))) := by
    intro hK m
    induction m with
    | zero =>
      intro k N hk hck hN hN2 hno
      refine Tm_suc (fun k => by rw [x_tellName]) ?_
      rw [g4, hN]
      refine Tm_ite (fun _ => fin N hN2 (fun j h1 h2 => hno j h1 (by omega)) hK) (fun z => absurd ((n_le (by omega) (by omega)).mpr (by omega)) z)
    | succ m ih =>
      intro k N hk hck hN hN2 hno
      obtain ⟨pp, ll, r1, r2, r3⟩ := hrow k (by omega)
      refine Tm_suc (fun k => by rw [x_tellName]) ?_
      rw [g4, hN]
      refine Tm_ite (fun z => absurd ((n_le (by omega) (by omega)).mp z) (by omega)) (fun _ => ?_)
      refine Tm_chk (n_in (by omega) (by omega)) ?_
      refine Tm_chk (n_in (by omega) (by omega)) ?_
      rw [n_cl (p := k) (by omega), r1, r2]
      refine Tm_ob (s_isNamed (f := q) (e := tkE T n q) (p := pp) (l := ll) c2 c4 hE.1 (by omega) r3 _ rfl rfl) (fun r4 hr4 => ?_)
      obtain ⟨u, τ⟩ := r4
      have hr41 : τ = σ := hr4.1
      subst hr41
      have hiff := mIs_iff (f := q) (m := tkE T n q - q) (show mRow τ 25 26 k pp ll from ⟨r1, r2, r3⟩)
      refine Tm_ite (fun z => ?_) (fun z => ?_)
      · refine Tm_suc (fun k => by rw [x_tellName]) ?_
        refine ih (k + 1) _ (by omega) (by omega) (by rw [upd_same, hN, n_add1]) (by rw [upd_other (by decide)]; exact hN2) (fun j h1 h2 => ?_)
        by_cases hj : j = k
        · subst hj; exact fun y => hr4.2.mpr (hiff.mp y) z
        · exact hno j h1 (by omega)
      · have hm4 := hiff.mpr (hr4.2.mp z)
        refine Tm_ob (s_fault _ τ) (fun r6 hr6 => ?_)
        have hfl := flt_b (M := M) (P := P) (w := E.2.2.2.1) a5 e1 (upd (upd (fun _ => (0 : Int32)) 1 4) 2 (τ.1 8) 1) (upd (upd (fun _ => (0 : Int32)) 1 4) 2 (τ.1 8) 2)
        have hr62 : r6.2 = mFlt τ (upd (upd (fun _ => (0 : Int32)) 1 4) 2 (τ.1 8) 1) (upd (upd (fun _ => (0 : Int32)) 1 4) 2 (τ.1 8) 2) := by rw [hr6]; rfl
        rw [← hr62] at hfl
        refine Tm_suc (fun k => by rw [x_tellName]) ?_
        refine Tm_mono (bl m (k + 1) _ r6.2 (by omega) (by rw [upd_same, hN, n_add1]) ?_ (fun j hj => ?_) hfl.1.1) (fun r hr => ?_)
        · rw [hr62]; unfold mFlt; rw [if_pos a5]
        · rw [hr62]; unfold mFlt; rw [if_pos a5]
          show upd (upd (upd τ.1 10 1) 11 _) 12 _ j = _
          rw [upd_other (by omega), upd_other (by omega), upd_other (by omega)]
        · rw [hr]
          refine ⟨hfl.2, Or.inl ⟨fun y => ?_, _, hfl.1, Nat.le_refl _, by omega⟩⟩
          have := hdup.mpr ⟨k, hck, by omega, hm4⟩
          have y2 := y.2.1
          rw [show tkS T n q = seg T q (tkE T n q) from rfl, this] at y2
          exact absurd y2 (by decide)
  refine Tm_suc (fun k => by rw [x_tellName]) ?_
  refine Tm_ob (p_wantName (M := M) (P := P) (w := E.2.2.2.1) h0 _) (fun r1 hr1 => ?_)
  rcases hr1.2 with ⟨hK, hB⟩ | ⟨hK, hr⟩
  · refine Tm_ite (fun z => absurd z hB.1) (fun _ => ?_)
    exact Tm_some ⟨hr1.1, Or.inl ⟨fun z => hK z.1, _, hB, Nat.le_refl _, by omega⟩⟩
  · obtain ⟨u, τ⟩ := r1
    have hr : τ = σ := hr
    subst hr
    refine Tm_ite (fun _ => ?_) (fun z => absurd a5 z)
    refine Tm_suc (fun k => by rw [x_tellName]) ?_
    exact gl hK (E.2.2.1.length - c) c _ (by omega) (Nat.le_refl _) (by rw [upd_same]; exact hL1) (by rw [upd_other (by decide)]; exact hL2) (fun j h1 h2 => by omega)
end TELL
