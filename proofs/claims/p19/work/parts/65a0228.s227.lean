section JnS227
/-! What is laid is a tree: tables that agree with what is laid, node by node. -/
/-- which names don't count, of unit un (1 + s: of the program; 61 + s: of a proc, a function); 0: whether locals may be read -/
def lcW (fl : Nat → Prop) (un : Nat) (T' : Nat → Nat → Int32) (j : Nat) : Prop := (j = 0 ∧ ¬ un = 0) ∨ (un = 0 ∧ 1 ≤ j ∧ j ≤ 60 ∧ T' 20 (j - 1) = 0) ∨ (¬ un = 0 ∧ 61 ≤ j ∧ j ≤ 120 ∧ T' 20 (60 * un + (j - 61)) = 0) ∨ (200 ≤ j ∧ fl j)
/-- where statements stand: all may be made -/
def lcU (un : Nat) (T' : Nat → Nat → Int32) (j : Nat) : Prop := (j = 0 ∧ ¬ un = 0) ∨ (un = 0 ∧ 1 ≤ j ∧ j ≤ 60 ∧ T' 20 (j - 1) = 0) ∨ (¬ un = 0 ∧ 61 ≤ j ∧ j ≤ 120 ∧ T' 20 (60 * un + (j - 61)) = 0) ∨ 200 ≤ j
/-- T' has what is laid from lo on (slots of unit un below vv); what stands behind top is open -/
def Agr (T' : Nat → Nat → Int32) (un vv : Nat) (b : BT) (lo top : Nat) : Prop := (∀ a i, 4 ≤ a → a ≤ 9 → lo ≤ i → i < b.1 → ¬ (a = 9 ∧ i = top) → T' a i = b.2.2.1 a i) ∧ (∀ i, i < b.2.1 → T' 12 i = b.2.2.2.1 i) ∧ (∀ s, s < vv → T' 20 (60 * un + s) = b.2.2.2.2 (60 * un + s)) ∧ b.1 ≤ LNo T' % 70001 ∧ b.2.1 ≤ LPo T' % 70001
/-- what was laid stays (slots of unit un below vv), but for what stands behind e -/
def Frm (un vv : Nat) (b : BT) (e : Nat) (b' : BT) : Prop := b.1 ≤ b'.1 ∧ b.2.1 ≤ b'.2.1 ∧ (∀ a i, i < b.1 → ¬ (a = 9 ∧ (i = e ∨ i = 0)) → b'.2.2.1 a i = b.2.2.1 a i) ∧ (∀ i, i < b.2.1 → b'.2.2.2.1 i = b.2.2.2.1 i) ∧ ∀ s, s < vv → b'.2.2.2.2 (60 * un + s) = b.2.2.2.2 (60 * un + s)
/-- e is what was laid last: a tree -/
def LPt (FN : Nat → Nat → Prop) (fl : Nat → Prop) (un vv : Nat) (O r K lo : Nat) (b : BT) (e : Nat) : Prop := 1 ≤ lo ∧ lo ≤ e ∧ e < b.1 ∧ b.2.2.1 9 e = -1 ∧ ∀ T', Agr T' un vv b lo e → WX T' FN O r K (lcW fl un T') (nI e)
section TRE
variable {FN : Nat → Nat → Prop} {fl : Nat → Prop} {un vv vw : Nat} {O O' r r' K K' lo lo' e e' s N l m c f top : Nat} {b b' b'' : BT} {T' : Nat → Nat → Int32} {k x y z u : Int32} {T : Nat → Int32}
theorem Frm_rf : Frm un vv b e b := ⟨Nat.le_refl _, Nat.le_refl _, fun _ _ _ _ => rfl, fun _ _ => rfl, fun _ _ => rfl⟩
theorem Frm_tr (h1 : Frm un vv b e b') (h2 : Frm un vw b' e' b'') (hv : vv ≤ vw) (he : e' = e ∨ b.1 ≤ e' ∨ e' = 0) : Frm un vv b e b'' := by
  obtain ⟨a1, a2, a3, a4, a5⟩ := h1
  obtain ⟨c1, c2, c3, c4, c5⟩ := h2
  refine ⟨by omega, by omega, fun a i hi hx => ?_, fun i hi => ?_, fun s hs => ?_⟩
  · rw [c3 a i (by omega) (by omega), a3 a i hi hx]
  · rw [c4 i (by omega), a4 i hi]
  · rw [c5 s (by omega), a5 s hs]
theorem Frm_wk (h : Frm un vv b 0 b') : Frm un vv b e b' := ⟨h.1, h.2.1, fun a i hi hx => h.2.2.1 a i hi (fun z => hx ⟨z.1, by omega⟩), h.2.2.2⟩
theorem Frm_v (h : Frm un vw b e b') (hv : vv ≤ vw) : Frm un vv b e b' := ⟨h.1, h.2.1, h.2.2.1, h.2.2.2.1, fun s hs => h.2.2.2.2 s (by omega)⟩
theorem Frm_node : Frm un vv b e (bNode b k x y z) := by
  refine ⟨Nat.le_succ _, Nat.le_refl _, fun a i hi _ => ?_, fun i hi => rfl, fun _ _ => rfl⟩
  have hne : i ≠ b.1 := by omega
  show updG (updG (updG (updG (updG (updG b.2.2.1 4 _) 5 _) 6 _) 7 _) 8 _) 9 _ a i = _
  unfold updG
  by_cases h9 : a = 9
  · subst h9; rw [if_pos rfl, upd_other hne]
  rw [if_neg h9]
  by_cases h8 : a = 8
  · subst h8; rw [if_pos rfl, upd_other hne]
  rw [if_neg h8]
  by_cases h7 : a = 7
  · subst h7; rw [if_pos rfl, upd_other hne]
  rw [if_neg h7]
  by_cases h6 : a = 6
  · subst h6; rw [if_pos rfl, upd_other hne]
  rw [if_neg h6]
  by_cases h5 : a = 5
  · subst h5; rw [if_pos rfl, upd_other hne]
  rw [if_neg h5]
  by_cases h4 : a = 4
  · subst h4; rw [if_pos rfl, upd_other hne]
  rw [if_neg h4]
theorem Frm_set9 : Frm un vv b e (bSet b 9 e x) := by
  refine ⟨Nat.le_refl _, Nat.le_refl _, fun a i hi hx => ?_, fun i hi => rfl, fun _ _ => rfl⟩
  show updG b.2.2.1 9 (upd (b.2.2.1 9) e x) a i = _
  unfold updG
  by_cases h9 : a = 9
  · subst h9; rw [if_pos rfl, upd_other (by omega)]
  · rw [if_neg h9]
theorem Frm_set8 {j : Nat} (hj : b.1 ≤ l) (hF : Frm un vv b e b') : Frm un vv b e (bSet b' j l x) := by
  refine ⟨hF.1, hF.2.1, fun a i hi hx => ?_, hF.2.2.2⟩
  show updG b'.2.2.1 j (upd (b'.2.2.1 j) l x) a i = _
  unfold updG
  by_cases h9 : a = j
  · subst h9; rw [if_pos rfl, upd_other (by omega)]; exact hF.2.2.1 a i hi hx
  · rw [if_neg h9]; exact hF.2.2.1 a i hi hx
theorem Frm_over : Frm un vv b e (bOver b k x e z) := Frm_tr Frm_node Frm_set9 (Nat.le_refl vv) (Or.inl rfl)
theorem Frm_wrap : Frm un vv b e (bWrap b k x y z u) := Frm_set8 (Nat.le_refl _) Frm_node
theorem Frm_keep : Frm un vv b e (bKeep b T f m) := ⟨Nat.le_refl _, Nat.le_add_right _ _, fun _ _ _ _ => rfl, fun i hi => if_neg (by omega), fun _ _ => rfl⟩
theorem Frm_slot : Frm un vv b e (bSlot b (60 * un + vv) x) := ⟨Nat.le_refl _, Nat.le_refl _, fun _ _ _ _ => rfl, fun _ _ => rfl, fun s hs => upd_other (by omega)⟩
theorem Agr_dn (hA : Agr T' un vw b' lo top) (hF : Frm un vv b e b') (hv : vv ≤ vw) (h1 : 1 ≤ lo) (ht : top = e ∨ b.1 ≤ top) (hl : lo ≤ lo') : Agr T' un vv b lo' e := by
  obtain ⟨a1, a2, a3, a4, a5⟩ := hF
  have l1 := hA.2.2.2.1
  have l2 := hA.2.2.2.2
  refine ⟨fun a i h4 h9 hi hb hx => ?_, fun i hi => ?_, fun s hs => ?_, by omega, by omega⟩
  · rw [hA.1 a i h4 h9 (by omega) (by omega) (by omega), a3 a i hb (by omega)]
  · rw [hA.2.1 i (by omega), a4 i hi]
  · rw [hA.2.2.1 s (by omega), a5 s hs]
/-- nodes behind e: all of them -/
theorem Agr_hi (hA : Agr T' un vw b' lo top) (hF : Frm un vv b e b') (hv : vv ≤ vw) (h1 : 1 ≤ lo) (ht : b.1 ≤ top) (hl : lo ≤ lo') (he : e < lo') : Agr T' un vv b lo' s := by
  obtain ⟨a1, a2, a3, a4, a5⟩ := hF
  have l1 := hA.2.2.2.1
  have l2 := hA.2.2.2.2
  refine ⟨fun a i h4 h9 hi hb hx => ?_, fun i hi => ?_, fun s hs => ?_, by omega, by omega⟩
  · rw [hA.1 a i h4 h9 (by omega) (by omega) (by omega), a3 a i hb (by omega)]
  · rw [hA.2.1 i (by omega), a4 i hi]
  · rw [hA.2.2.1 s (by omega), a5 s hs]
theorem nd_t : (bNode b k x y z).2.2.1 4 b.1 = k ∧ (bNode b k x y z).2.2.1 5 b.1 = x ∧ (bNode b k x y z).2.2.1 6 b.1 = y ∧ (bNode b k x y z).2.2.1 7 b.1 = z ∧ (bNode b k x y z).2.2.1 8 b.1 = -1 ∧ (bNode b k x y z).2.2.1 9 b.1 = -1 := by
  refine ⟨?_, ?_, ?_, ?_, ?_, ?_⟩
  · show upd (b.2.2.1 4) b.1 k b.1 = k
    exact upd_same
  · show upd (b.2.2.1 5) b.1 x b.1 = x
    exact upd_same
  · show upd (b.2.2.1 6) b.1 y b.1 = y
    exact upd_same
  · show upd (b.2.2.1 7) b.1 z b.1 = z
    exact upd_same
  · show upd (b.2.2.1 8) b.1 (-1) b.1 = (-1)
    exact upd_same
  · show upd (b.2.2.1 9) b.1 (-1) b.1 = (-1)
    exact upd_same
theorem bSet_o {j a i : Nat} (h : ¬ (a = j ∧ i = l)) : (bSet b j l x).2.2.1 a i = b.2.2.1 a i := by
  show updG b.2.2.1 j (upd (b.2.2.1 j) l x) a i = _
  unfold updG
  by_cases h9 : a = j
  · subst h9; rw [if_pos rfl, upd_other (by omega)]
  · rw [if_neg h9]
theorem bSet_s {j : Nat} : (bSet b j l x).2.2.1 j l = x := by
  show updG b.2.2.1 j (upd (b.2.2.1 j) l x) j l = _
  unfold updG
  rw [if_pos rfl, upd_same]
theorem nd_at (hA : Agr T' un vv (bNode b k x y z) lo b.1) (hl : lo ≤ b.1) : T' 4 b.1 = k ∧ T' 5 b.1 = x ∧ T' 6 b.1 = y ∧ T' 7 b.1 = z ∧ T' 8 b.1 = -1 := by
  obtain ⟨n4, n5, n6, n7, n8, _⟩ := nd_t (b := b) (k := k) (x := x) (y := y) (z := z)
  have lt : b.1 < (bNode b k x y z).1 := Nat.lt_succ_self _
  exact ⟨(hA.1 4 b.1 (by decide) (by decide) hl lt (by omega)).trans n4, (hA.1 5 b.1 (by decide) (by decide) hl lt (by omega)).trans n5, (hA.1 6 b.1 (by decide) (by decide) hl lt (by omega)).trans n6, (hA.1 7 b.1 (by decide) (by decide) hl lt (by omega)).trans n7, (hA.1 8 b.1 (by decide) (by decide) hl lt (by omega)).trans n8⟩
theorem wr_at (hA : Agr T' un vv (bWrap b k x y z u) lo b.1) (hl : lo ≤ b.1) : T' 4 b.1 = k ∧ T' 5 b.1 = x ∧ T' 6 b.1 = y ∧ T' 7 b.1 = z ∧ T' 8 b.1 = u := by
  obtain ⟨n4, n5, n6, n7, n8, _⟩ := nd_t (b := b) (k := k) (x := x) (y := y) (z := z)
  have lt : b.1 < (bWrap b k x y z u).1 := Nat.lt_succ_self _
  refine ⟨(hA.1 4 b.1 (by decide) (by decide) hl lt (by omega)).trans ?_, (hA.1 5 b.1 (by decide) (by decide) hl lt (by omega)).trans ?_, (hA.1 6 b.1 (by decide) (by decide) hl lt (by omega)).trans ?_, (hA.1 7 b.1 (by decide) (by decide) hl lt (by omega)).trans ?_, (hA.1 8 b.1 (by decide) (by decide) hl lt (by omega)).trans ?_⟩
  · unfold bWrap; rw [bSet_o (by omega)]; exact n4
  · unfold bWrap; rw [bSet_o (by omega)]; exact n5
  · unfold bWrap; rw [bSet_o (by omega)]; exact n6
  · unfold bWrap; rw [bSet_o (by omega)]; exact n7
  · unfold bWrap; rw [bSet_s]
theorem ov_at (hA : Agr T' un vv (bOver b k x l z) lo b.1) (hl : lo ≤ l) (hb : l < b.1) : T' 4 b.1 = k ∧ T' 5 b.1 = x ∧ T' 6 b.1 = nI l ∧ T' 7 b.1 = z ∧ T' 9 l = nI b.1 := by
  obtain ⟨n4, n5, n6, n7, n8, _⟩ := nd_t (b := b) (k := k) (x := x) (y := nI l) (z := z)
  have lt : b.1 < (bOver b k x l z).1 := Nat.lt_succ_self _
  refine ⟨(hA.1 4 b.1 (by decide) (by decide) (by omega) lt (by omega)).trans ?_, (hA.1 5 b.1 (by decide) (by decide) (by omega) lt (by omega)).trans ?_, (hA.1 6 b.1 (by decide) (by decide) (by omega) lt (by omega)).trans ?_, (hA.1 7 b.1 (by decide) (by decide) (by omega) lt (by omega)).trans ?_, (hA.1 9 l (by decide) (by decide) hl (by omega) (by omega)).trans ?_⟩
  · unfold bOver; rw [bSet_o (by omega)]; exact n4
  · unfold bOver; rw [bSet_o (by omega)]; exact n5
  · unfold bOver; rw [bSet_o (by omega)]; exact n6
  · unfold bOver; rw [bSet_o (by omega)]; exact n7
  · unfold bOver; rw [bSet_s]
theorem LP_mo (h : LPt FN fl un vv O r K lo b e) (hK : K ≤ K') (hx : Lx O r O' r') : LPt FN fl un vv O' r' K' lo b e := ⟨h.1, h.2.1, h.2.2.1, h.2.2.2.1, fun T' hA => WX_mo (h.2.2.2.2 T' hA) hK hx⟩
/-- a part of what is laid later -/
theorem LP_at (h : LPt FN fl un vv O r K lo b e) (hF : Frm un vv b e b') (hA : Agr T' un vw b' lo' top) (hv : vv ≤ vw) (h1 : 1 ≤ lo') (hl : lo' ≤ lo) (ht : b.1 ≤ top ∨ top = 0) : WX T' FN O r K (lcW fl un T') (nI e) := by
  refine h.2.2.2.2 T' ?_
  obtain ⟨a1, a2, a3, a4, a5⟩ := hF
  have l1 := hA.2.2.2.1
  have l2 := hA.2.2.2.2
  refine ⟨fun a i h4 h9 hi hb hx => ?_, fun i hi => ?_, fun s hs => ?_, by omega, by omega⟩
  · rw [hA.1 a i h4 h9 (by omega) (by omega) (by omega), a3 a i hb (by omega)]
  · rw [hA.2.1 i (by omega), a4 i hi]
  · rw [hA.2.2.1 s (by omega), a5 s hs]
theorem ov_no (h : k = 1 ∨ k = 2 ∨ k = 3 ∨ k = 4 ∨ k = 5 ∨ k = 6 ∨ k = 7 ∨ k = 8 ∨ k = 9 ∨ k = 10 ∨ k = 11 ∨ k = 12 ∨ k = 13 ∨ k = 14 ∨ k = 15 ∨ k = 17 ∨ k = 18 ∨ k = 19 ∨ k = 20) : ¬ Ov k := by
  rcases h with rfl | rfl | rfl | rfl | rfl | rfl | rfl | rfl | rfl | rfl | rfl | rfl | rfl | rfl | rfl | rfl | rfl | rfl | rfl <;> (unfold Ov; decide)
/-- one node that begins -/
theorem LP_nd (h1 : 1 ≤ lo) (hl : lo ≤ b.1) (hN : b.1 < 70000) (h4 : 4 ≤ r) (hk : ¬ Ov k) (h : ∀ T', Agr T' un vv (bNode b k x y z) lo b.1 → T' 4 b.1 = k → T' 5 b.1 = x → T' 6 b.1 = y → T' 7 b.1 = z → ∃ F, WN T' FN F 1 O r K (lcW fl un T') (nI b.1)) : LPt FN fl un vv O r K lo (bNode b k x y z) b.1 := by
  refine ⟨h1, hl, Nat.lt_succ_self _, nd_t.2.2.2.2.2, fun T' hA => ?_⟩
  obtain ⟨n4, n5, n6, n7, _⟩ := nd_at hA hl
  obtain ⟨F, w⟩ := h T' hA n4 n5 n6 n7
  exact WX_1 h4 ⟨by omega, hA.2.2.2.1⟩ (by rw [n4]; exact hk) w
theorem LP_wr (h1 : 1 ≤ lo) (hl : lo ≤ b.1) (hN : b.1 < 70000) (h4 : 4 ≤ r) (hk : ¬ Ov k) (h : ∀ T', Agr T' un vv (bWrap b k x y z u) lo b.1 → T' 4 b.1 = k → T' 5 b.1 = x → T' 6 b.1 = y → T' 7 b.1 = z → T' 8 b.1 = u → ∃ F, WN T' FN F 1 O r K (lcW fl un T') (nI b.1)) : LPt FN fl un vv O r K lo (bWrap b k x y z u) b.1 := by
  refine ⟨h1, hl, Nat.lt_succ_self _, ?_, fun T' hA => ?_⟩
  · unfold bWrap; rw [bSet_o (by omega)]; exact nd_t.2.2.2.2.2
  obtain ⟨n4, n5, n6, n7, n8⟩ := wr_at hA hl
  obtain ⟨F, w⟩ := h T' hA n4 n5 n6 n7 n8
  exact WX_1 h4 ⟨by omega, hA.2.2.2.1⟩ (by rw [n4]; exact hk) w
/-- one operand -/
theorem LP_un (h : LPt FN fl un vv O' r' K' lo b e) (hK : K' ≤ K) (hk : k = 9 ∨ k = 17 ∨ k = 18 ∨ k = 19 ∨ k = 20) (hO : O' < O) (hr' : r' ≤ 14) (h4 : 4 ≤ r) (hN : b.1 < 70000) (hl : lo' ≤ lo) (h1 : 1 ≤ lo') (hfl : k = 9 → fl 201 ∨ ∃ v, x = nI v ∧ ((39 ≤ v ∧ v ≤ 47) ∨ v = 50)) : LPt FN fl un vv O r K lo' (bNode b k x (nI e) z) b.1 := by
  have hb := h.2.2.1
  have hb2 := h.2.1
  refine LP_nd h1 (by omega) hN h4 (by rcases hk with rfl | rfl | rfl | rfl | rfl <;> (unfold Ov; decide)) (fun T' hA n4 n5 n6 n7 => ?_)
  obtain ⟨F, w⟩ := WX_mo (LP_at h Frm_node hA (Nat.le_refl _) h1 hl (Or.inl (Nat.le_refl _))) hK Lx_rf
  refine ⟨F + 1, ?_⟩
  unfold WN
  refine Or.inr (Or.inr (Or.inl ⟨rfl, b.1, rfl, ⟨by omega, hA.2.2.2.1⟩, Or.inr (Or.inr (Or.inr (Or.inr (Or.inr (Or.inl ⟨?_, ?_, O', r', Or.inr ⟨hO, hr'⟩, ?_⟩)))))⟩))
  · rw [n4]; exact hk
  · rw [n4, n5]; exact fun a => (hfl a).imp (fun c => Or.inr (Or.inr (Or.inr ⟨by decide, c⟩))) id
  · rw [n6]; exact w
theorem LP_cst (h1 : 1 ≤ lo) (hl : lo ≤ b.1) (hN : b.1 < 70000) (h4 : 4 ≤ r) (hk : k = 3 ∨ k = 4 ∨ k = 5) : LPt FN fl un vv O r K lo (bNode b k x y z) b.1 := by
  refine LP_nd h1 hl hN h4 (by rcases hk with rfl | rfl | rfl <;> (unfold Ov; decide)) (fun T' hA n4 n5 n6 n7 => ⟨1, ?_⟩)
  unfold WN
  refine Or.inr (Or.inr (Or.inl ⟨rfl, b.1, rfl, ⟨by omega, hA.2.2.2.1⟩, Or.inr (Or.inr (Or.inl ?_))⟩))
  rw [n4]
  rcases hk with h | h | h
  · exact Or.inl h
  · exact Or.inr (Or.inl h)
  · exact Or.inr (Or.inr (Or.inl h))
theorem LP_new (h1 : 1 ≤ lo) (hl : lo ≤ b.1) (hN : b.1 < 70000) (h4 : 4 ≤ r) (hf : fl 200) : LPt FN fl un vv O r K lo (bNode b 6 x y z) b.1 := by
  refine LP_nd h1 hl hN h4 (ov_no (by decide)) (fun T' hA n4 n5 n6 n7 => ⟨1, ?_⟩)
  unfold WN
  exact Or.inr (Or.inr (Or.inl ⟨rfl, b.1, rfl, ⟨by omega, hA.2.2.2.1⟩, Or.inr (Or.inr (Or.inl (Or.inr (Or.inr (Or.inr ⟨n4, Or.inr (Or.inr (Or.inr ⟨Nat.le_refl _, hf⟩))⟩)))))⟩))
theorem LP_var (h1 : 1 ≤ lo) (hl : lo ≤ b.1) (hN : b.1 < 70000) (h4 : 4 ≤ r) (hs : s < 60) (hx : x = 0 ∨ ¬ un = 0) : LPt FN fl un vv O r K lo (bNode b 7 x (nI s) z) b.1 := by
  refine LP_nd h1 hl hN h4 (ov_no (by decide)) (fun T' hA n4 n5 n6 n7 => ⟨1, ?_⟩)
  unfold WN
  exact Or.inr (Or.inr (Or.inl ⟨rfl, b.1, rfl, ⟨by omega, hA.2.2.2.1⟩, Or.inr (Or.inr (Or.inr (Or.inl ⟨n4, s, n6, hs, by rw [n5]; exact hx.imp id (fun z => Or.inl ⟨rfl, z⟩)⟩)))⟩))
theorem LP_num (h1 : 1 ≤ lo) (hl : lo ≤ b.1) (hN : b.1 < 70000) (h4 : 4 ≤ r) (hm : m ≤ 60) (hp : b.2.1 + m ≤ 70000) (hd : ∀ i, i < m → ∃ d, d ≤ 300 ∧ T (f + i) = nI d) : LPt FN fl un vv O r K lo (bNode (bKeep b T f m) 1 (nI b.2.1) (nI m) z) b.1 := by
  refine LP_nd (b := bKeep b T f m) h1 hl hN h4 (ov_no (by decide)) (fun T' hA n4 n5 n6 n7 => ⟨1, ?_⟩)
  unfold WN
  refine Or.inr (Or.inr (Or.inl ⟨rfl, b.1, rfl, ⟨by omega, hA.2.2.2.1⟩, Or.inl ⟨n4, b.2.1, m, n5, n6, hm, hA.2.2.2.2, fun i hi => ?_⟩⟩))
  obtain ⟨d, d1, d2⟩ := hd i hi
  refine ⟨d, d1, ?_⟩
  rw [hA.2.1 (b.2.1 + i) (by show b.2.1 + i < b.2.1 + m; omega), ← d2]
  show (if b.2.1 ≤ b.2.1 + i ∧ b.2.1 + i < b.2.1 + m then T (f + (b.2.1 + i - b.2.1)) else b.2.2.2.1 (b.2.1 + i)) = T (f + i)
  rw [if_pos ⟨by omega, by omega⟩, show b.2.1 + i - b.2.1 = i by omega]
theorem LP_str (h1 : 1 ≤ lo) (hl : lo ≤ b.1) (hN : b.1 < 70000) (h4 : 4 ≤ r) (hm : m ≤ 60000) (hp : b.2.1 + m ≤ 70000) : LPt FN fl un vv O r K lo (bNode (bKeep b T f m) 2 (nI b.2.1) (nI m) z) b.1 := by
  refine LP_nd (b := bKeep b T f m) h1 hl hN h4 (ov_no (by decide)) (fun T' hA n4 n5 n6 n7 => ⟨1, ?_⟩)
  unfold WN
  exact Or.inr (Or.inr (Or.inl ⟨rfl, b.1, rfl, ⟨by omega, hA.2.2.2.1⟩, Or.inr (Or.inl ⟨n4, b.2.1, m, n5, n6, hm, hp, Or.inr hA.2.2.2.2⟩)⟩))
theorem LP_call (h1 : 1 ≤ lo) (hl : lo ≤ b.1) (hN : b.1 < 70000) (h4 : 4 ≤ r) {fn : Nat} (hO : 1 ≤ O) (hF : FN fn m) (hm : m ≤ 60) (hc : 21 ≤ c + O) (hc2 : c ≤ 30) (h : ∀ T', Agr T' un vv b lo 0 → ∃ F, WN T' FN F 3 (O - 1) m K (lcW fl un T') y) : LPt FN fl un vv O r K lo (bWrap b 8 (nI fn) y z (nI c)) b.1 := by
  refine LP_wr h1 hl hN h4 (ov_no (by decide)) (fun T' hA n4 n5 n6 n7 n8 => ?_)
  obtain ⟨F, w⟩ := h T' (Agr_dn hA Frm_wrap (Nat.le_refl _) h1 (Or.inr (Nat.le_refl _)) (Nat.le_refl _))
  refine ⟨F + 1, ?_⟩
  unfold WN
  exact Or.inr (Or.inr (Or.inl ⟨rfl, b.1, rfl, ⟨by omega, hA.2.2.2.1⟩, Or.inr (Or.inr (Or.inr (Or.inr (Or.inl ⟨n4, hO, fn, m, c, n5, hF, hm, n8, hc, hc2, by rw [n6]; exact w⟩))))⟩))
theorem LP_brk (h1 : 1 ≤ lo) (hl : lo ≤ b.1) (hN : b.1 < 70000) (h4 : 4 ≤ r) (hk : k = 10 ∨ k = 11) (hO : 1 ≤ O) (hm : m ≤ 70000) (h : ∀ T', Agr T' un vv b lo 0 → ∃ F, WN T' FN F 3 (O - 1) m K (lcW fl un T') y) : LPt FN fl un vv O r K lo (bNode b k x y z) b.1 := by
  refine LP_nd h1 hl hN h4 (by rcases hk with rfl | rfl <;> (unfold Ov; decide)) (fun T' hA n4 n5 n6 n7 => ?_)
  obtain ⟨F, w⟩ := h T' (Agr_dn hA Frm_node (Nat.le_refl _) h1 (Or.inr (Nat.le_refl _)) (Nat.le_refl _))
  refine ⟨F + 1, ?_⟩
  unfold WN
  exact Or.inr (Or.inr (Or.inl ⟨rfl, b.1, rfl, ⟨by omega, hA.2.2.2.1⟩, Or.inr (Or.inr (Or.inr (Or.inr (Or.inr (Or.inr (Or.inl ⟨by rw [n4]; exact hk, hO, m, hm, by rw [n6]; exact w⟩))))))⟩))
theorem LP_rng (h1 : 1 ≤ lo) (hl : lo ≤ b.1) (hN : b.1 < 70000) (h4 : 4 ≤ r) (hO : 1 ≤ O) (h : ∀ T', Agr T' un vv b lo 0 → WX T' FN (O - 1) 14 K (lcW fl un T') y ∧ (z = -1 ∨ WX T' FN (O - 1) 14 K (lcW fl un T') z) ∧ WX T' FN (O - 1) 14 K (lcW fl un T') u) : LPt FN fl un vv O r K lo (bWrap b 12 x y z u) b.1 := by
  refine LP_wr h1 hl hN h4 (ov_no (by decide)) (fun T' hA n4 n5 n6 n7 n8 => ?_)
  obtain ⟨⟨F6, w6⟩, w7, F8, w8⟩ := h T' (Agr_dn hA Frm_wrap (Nat.le_refl _) h1 (Or.inr (Nat.le_refl _)) (Nat.le_refl _))
  have w7 : ∃ F7, z = -1 ∨ WN T' FN F7 0 (O - 1) 14 K (lcW fl un T') z := by
    rcases w7 with w7 | ⟨F7, w7⟩
    · exact ⟨0, Or.inl w7⟩
    · exact ⟨F7, Or.inr w7⟩
  obtain ⟨F7, w7⟩ := w7
  refine ⟨max F6 (max F7 F8) + 1, ?_⟩
  unfold WN
  refine Or.inr (Or.inr (Or.inl ⟨rfl, b.1, rfl, ⟨by omega, hA.2.2.2.1⟩, Or.inr (Or.inr (Or.inr (Or.inr (Or.inr (Or.inr (Or.inr (Or.inl ⟨n4, hO, ?_, ?_, ?_⟩)))))))⟩))
  · rw [n6]; exact WN_f w6 (by omega)
  · rw [n7]; exact w7.imp id (fun w => WN_f w (by omega))
  · rw [n8]; exact WN_f w8 (by omega)
theorem LP_for (h1 : 1 ≤ lo) (hl : lo ≤ b.1) (hN : b.1 < 70000) (h4 : 4 ≤ r) (hO : 1 ≤ O) (h : ∀ T', Agr T' un vv b lo 0 → ∃ m, 1 ≤ m ∧ m ≤ K ∧ (∃ F, WN T' FN F 4 (O - 1) m K (lcW fl un T') y) ∧ (z = -1 ∨ WX T' FN (O - 1) 14 (K - m) (lcW fl un T') z) ∧ WX T' FN (O - 1) 14 (K - m) (lcW fl un T') u) : LPt FN fl un vv O r K lo (bWrap b 13 x y z u) b.1 := by
  refine LP_wr h1 hl hN h4 (ov_no (by decide)) (fun T' hA n4 n5 n6 n7 n8 => ?_)
  obtain ⟨m, m1, m2, ⟨F6, w6⟩, w7, F8, w8⟩ := h T' (Agr_dn hA Frm_wrap (Nat.le_refl _) h1 (Or.inr (Nat.le_refl _)) (Nat.le_refl _))
  have w7 : ∃ F7, z = -1 ∨ WN T' FN F7 0 (O - 1) 14 (K - m) (lcW fl un T') z := by
    rcases w7 with w7 | ⟨F7, w7⟩
    · exact ⟨0, Or.inl w7⟩
    · exact ⟨F7, Or.inr w7⟩
  obtain ⟨F7, w7⟩ := w7
  refine ⟨max F6 (max F7 F8) + 1, ?_⟩
  unfold WN
  refine Or.inr (Or.inr (Or.inl ⟨rfl, b.1, rfl, ⟨by omega, hA.2.2.2.1⟩, Or.inr (Or.inr (Or.inr (Or.inr (Or.inr (Or.inr (Or.inr (Or.inr (Or.inl ⟨n4, hO, m, m1, m2, ?_, ?_, ?_⟩))))))))⟩))
  · rw [n6]; exact WN_f w6 (by omega)
  · rw [n7]; exact w7.imp id (fun w => WN_f w (by omega))
  · rw [n8]; exact WN_f w8 (by omega)
theorem LP_qua (h1 : 1 ≤ lo) (hl : lo ≤ b.1) (hN : b.1 < 70000) (h4 : 4 ≤ r) (hO : 1 ≤ O) (h : ∀ T', Agr T' un vv b lo 0 → ∃ m, 1 ≤ m ∧ m ≤ K ∧ (∃ F, WN T' FN F 4 (O - 1) m K (lcW fl un T') y) ∧ WX T' FN (O - 1) 14 (K - m) (lcW fl un T') z) : LPt FN fl un vv O r K lo (bNode b 14 x y z) b.1 := by
  refine LP_nd h1 hl hN h4 (ov_no (by decide)) (fun T' hA n4 n5 n6 n7 => ?_)
  obtain ⟨m, m1, m2, ⟨F6, w6⟩, F7, w7⟩ := h T' (Agr_dn hA Frm_node (Nat.le_refl _) h1 (Or.inr (Nat.le_refl _)) (Nat.le_refl _))
  refine ⟨max F6 F7 + 1, ?_⟩
  unfold WN
  refine Or.inr (Or.inr (Or.inl ⟨rfl, b.1, rfl, ⟨by omega, hA.2.2.2.1⟩, Or.inr (Or.inr (Or.inr (Or.inr (Or.inr (Or.inr (Or.inr (Or.inr (Or.inr (Or.inl ⟨n4, hO, m, m1, m2, ?_, ?_⟩)))))))))⟩))
  · rw [n6]; exact WN_f w6 (by omega)
  · rw [n7]; exact WN_f w7 (by omega)
theorem LP_if (h1 : 1 ≤ lo) (hl : lo ≤ b.1) (hN : b.1 < 70000) (h4 : 4 ≤ r) (hO : 1 ≤ O) (h : ∀ T', Agr T' un vv b lo 0 → ∃ F, WN T' FN F 5 (O - 1) 0 K (lcW fl un T') y) : LPt FN fl un vv O r K lo (bNode b 15 x y z) b.1 := by
  refine LP_nd h1 hl hN h4 (ov_no (by decide)) (fun T' hA n4 n5 n6 n7 => ?_)
  obtain ⟨F, w⟩ := h T' (Agr_dn hA Frm_node (Nat.le_refl _) h1 (Or.inr (Nat.le_refl _)) (Nat.le_refl _))
  refine ⟨F + 1, ?_⟩
  unfold WN
  exact Or.inr (Or.inr (Or.inl ⟨rfl, b.1, rfl, ⟨by omega, hA.2.2.2.1⟩, Or.inr (Or.inr (Or.inr (Or.inr (Or.inr (Or.inr (Or.inr (Or.inr (Or.inr (Or.inr ⟨n4, hO, by rw [n6]; exact w⟩)))))))))⟩))
/-- an operator behind e, its right operand s laid since -/
theorem LP_ov (h : LPt FN fl un vv O r K lo b e) (hF : Frm un vv b e b') (hs : LPt FN fl un vw O' r' K' b.1 b' s) (hv : vv ≤ vw) (hK : K' ≤ K) (hlx : (O' = O ∧ r' + 2 ≤ r) ∨ (O' < O ∧ r' ≤ 14)) (hk : k = 16 ∨ k = 21 ∨ k = 23 ∨ k = 24 ∨ k = 25) (hN : b'.1 < 70000) : LPt FN fl un vw O r K lo (bOver b' k x e (nI s)) b'.1 := by
  obtain ⟨p1, p2, p3, p4, p5⟩ := id h
  obtain ⟨s1, s2, s3, s4, s5⟩ := id hs
  have hb := hF.1
  refine ⟨p1, by omega, Nat.lt_succ_self _, ?_, fun T' hA => ?_⟩
  · unfold bOver; rw [bSet_o (by omega)]; exact nd_t.2.2.2.2.2
  obtain ⟨n4, n5, n6, n7, n9⟩ := ov_at hA p2 (by omega)
  have we : WX T' FN O r K (lcW fl un T') (nI e) := LP_at h (Frm_tr hF (Frm_over (vv := vv)) (Nat.le_refl _) (Or.inl rfl)) hA hv p1 (Nat.le_refl _) (Or.inl hb)
  obtain ⟨F, ws⟩ := WX_mo (s5 T' (Agr_hi hA Frm_over (Nat.le_refl _) p1 (Nat.le_refl _) (by omega) (by omega))) hK Lx_rf
  refine WX_ov (f := F + 1) ⟨by omega, Nat.lt_trans (show e < b'.1 by omega) hA.2.2.2.1⟩ ⟨by omega, hA.2.2.2.1⟩ we n6 n9 ?_ ?_
  · rw [n4]; rcases hk with rfl | rfl | rfl | rfl | rfl <;> (unfold Ov; decide)
  · unfold WN
    refine Or.inr (Or.inl ⟨rfl, b'.1, rfl, ⟨by omega, hA.2.2.2.1⟩, Or.inr ⟨?_, ⟨O', r', hlx, ?_⟩, fun y => ?_⟩⟩)
    · rw [n4]; rcases hk with rfl | rfl | rfl | rfl | rfl <;> decide
    · rw [n7]; exact ws
    · rw [n4] at y
      rcases hk with rfl | rfl | rfl | rfl | rfl <;> exact absurd y (by decide)
/-- brackets around e -/
theorem LP_par (h : LPt FN fl un vv O' r' K' lo b e) (hK : K' ≤ K) (hlx : Lx O' r' O r) (hN : b.1 < 70000) : LPt FN fl un vv O r K lo (bOver b 26 x e z) b.1 := by
  have h := LP_mo h hK hlx
  obtain ⟨p1, p2, p3, p4, p5⟩ := id h
  refine ⟨p1, by omega, Nat.lt_succ_self _, ?_, fun T' hA => ?_⟩
  · unfold bOver; rw [bSet_o (by omega)]; exact nd_t.2.2.2.2.2
  obtain ⟨n4, n5, n6, n7, n9⟩ := ov_at hA p2 p3
  have we : WX T' FN O r K (lcW fl un T') (nI e) := LP_at h Frm_over hA (Nat.le_refl _) p1 (Nat.le_refl _) (Or.inl (Nat.le_refl _))
  refine WX_ov (f := 1) ⟨by omega, Nat.lt_trans (show e < b.1 by omega) hA.2.2.2.1⟩ ⟨by omega, hA.2.2.2.1⟩ we n6 n9 ?_ ?_
  · rw [n4]; unfold Ov; decide
  · unfold WN
    exact Or.inr (Or.inl ⟨rfl, b.1, rfl, ⟨by omega, hA.2.2.2.1⟩, Or.inl n4⟩)
/-- a slice of e -/
theorem LP_sli {s2 vx : Nat} (h : LPt FN fl un vv O r K lo b e) (hF : Frm un vv b e b') (hs : LPt FN fl un vw O' r' K' b.1 b' s) (hF2 : Frm un vw b' 0 b'') (hs2 : LPt FN fl un vx O' r' K' b'.1 b'' s2) (hv : vv ≤ vw) (hv2 : vw ≤ vx) (hK : K' ≤ K) (hlx : (O' = O ∧ r' + 2 ≤ r) ∨ (O' < O ∧ r' ≤ 14)) (hN : b''.1 < 70000) : LPt FN fl un vx O r K lo (bSet (bOver b'' 22 x e (nI s)) 8 b''.1 (nI s2)) b''.1 := by
  obtain ⟨p1, p2, p3, p4, p5⟩ := id h
  obtain ⟨s1, s2', s3, s4, s5⟩ := id hs
  obtain ⟨u1, u2, u3, u4, u5⟩ := id hs2
  have hb := hF.1
  have hb2 := hF2.1
  have fo : Frm un vx b'' e (bSet (bOver b'' 22 x e (nI s)) 8 b''.1 (nI s2)) := Frm_set8 (Nat.le_refl _) Frm_over
  refine ⟨p1, by omega, Nat.lt_succ_self _, ?_, fun T' hA => ?_⟩
  · rw [bSet_o (by omega)]; unfold bOver; rw [bSet_o (by omega)]; exact nd_t.2.2.2.2.2
  have rd : ∀ a i, 4 ≤ a → a ≤ 9 → lo ≤ i → i < b''.1 + 1 → ¬ (a = 9 ∧ i = b''.1) → ¬ (a = 8 ∧ i = b''.1) → T' a i = (bOver b'' 22 x e (nI s)).2.2.1 a i := fun a i q1 q2 q3 q4 q5 q6 => by
    rw [hA.1 a i q1 q2 q3 q4 q5, bSet_o q6]
  obtain ⟨t4, t5, t6, t7, t8, _⟩ := nd_t (b := b'') (k := 22) (x := x) (y := nI e) (z := nI s)
  have n4 : T' 4 b''.1 = 22 := by rw [rd 4 _ (by decide) (by decide) (by omega) (by omega) (by omega) (by omega)]; unfold bOver; rw [bSet_o (by omega)]; exact t4
  have n6 : T' 6 b''.1 = nI e := by rw [rd 6 _ (by decide) (by decide) (by omega) (by omega) (by omega) (by omega)]; unfold bOver; rw [bSet_o (by omega)]; exact t6
  have n7 : T' 7 b''.1 = nI s := by rw [rd 7 _ (by decide) (by decide) (by omega) (by omega) (by omega) (by omega)]; unfold bOver; rw [bSet_o (by omega)]; exact t7
  have n8 : T' 8 b''.1 = nI s2 := by rw [hA.1 8 _ (by decide) (by decide) (by omega) (Nat.lt_succ_self _) (by omega), bSet_s]
  have n9 : T' 9 e = nI b''.1 := by rw [rd 9 _ (by decide) (by decide) p2 (by omega) (by omega) (by omega)]; unfold bOver; rw [bSet_s]
  have we : WX T' FN O r K (lcW fl un T') (nI e) := LP_at h (Frm_tr (Frm_tr hF hF2 hv (Or.inr (Or.inr rfl))) fo (by omega) (Or.inl rfl)) hA (by omega) p1 (Nat.le_refl _) (Or.inl (by omega))
  obtain ⟨F, ws⟩ := WX_mo (s5 T' (Agr_hi hA (Frm_tr (Frm_wk hF2) fo hv2 (Or.inl rfl)) hv2 p1 (by omega) (by omega) (by omega))) hK Lx_rf
  obtain ⟨F2, wu⟩ := WX_mo (u5 T' (Agr_hi hA fo (Nat.le_refl _) p1 (Nat.le_refl _) (by omega) (by omega))) hK Lx_rf
  refine WX_ov (f := max F F2 + 1) ⟨by omega, Nat.lt_trans (show e < b''.1 by omega) hA.2.2.2.1⟩ ⟨by omega, hA.2.2.2.1⟩ we n6 n9 ?_ ?_
  · rw [n4]; unfold Ov; decide
  · unfold WN
    refine Or.inr (Or.inl ⟨rfl, b''.1, rfl, ⟨by omega, hA.2.2.2.1⟩, Or.inr ⟨?_, ⟨O', r', hlx, ?_⟩, fun y => ⟨O', r', hlx, ?_⟩⟩⟩)
    · rw [n4]; decide
    · rw [n7]; exact WN_f ws (by omega)
    · rw [n8]; exact WN_f wu (by omega)
end TRE
end JnS227
section JnS228
/-! What is laid is a tree: lists of exps, branches, names, iterators; what is around. -/
/-- a list from i to e; what stands behind e is open -/
def LL (P : (Nat → Nat → Int32) → Nat → Nat → Prop) (un vv lo : Nat) (b : BT) (i e c : Nat) : Prop := 1 ≤ lo ∧ lo ≤ e ∧ e < b.1 ∧ b.2.2.1 9 e = -1 ∧ ∀ T', Agr T' un vv b lo e → LSe (P T') T' c i e
/-- exps -/
def PX (FN : Nat → Nat → Prop) (fl : Nat → Prop) (un O K : Nat) (T' : Nat → Nat → Int32) (_ e : Nat) : Prop := (1 ≤ e ∧ e < LNo T' % 70001) ∧ WX T' FN O 14 K (lcW fl un T') (nI e)
/-- branches -/
def PB2 (FN : Nat → Nat → Prop) (fl : Nat → Prop) (un O K : Nat) (T' : Nat → Nat → Int32) (_ e : Nat) : Prop := (1 ≤ e ∧ e < LNo T' % 70001) ∧ WX T' FN O 14 K (lcW fl un T') (T' 5 e) ∧ WX T' FN O 14 K (lcW fl un T') (T' 6 e)
/-- names (g: whether they count) -/
def PNm (un g : Nat) (T' : Nat → Nat → Int32) (_ e : Nat) : Prop := (1 ≤ e ∧ e < LNo T' % 70001) ∧ ∃ s, T' 6 e = nI s ∧ s < 60 ∧ (T' 5 e = if un = 0 then 0 else 1) ∧ T' 20 (60 * un + s) = nI g
/-- the names of an iterator -/
def PNl (un g : Nat) (T' : Nat → Nat → Int32) (a : Nat) : Prop := ∃ c e, c < 60 ∧ LSe (PNm un g T') T' c a e ∧ T' 9 e = -1
/-- iterators -/
def PJ (FN : Nat → Nat → Prop) (fl : Nat → Prop) (un g O K : Nat) (T' : Nat → Nat → Int32) (j e : Nat) : Prop := (1 ≤ e ∧ e < LNo T' % 70001) ∧ 1 ≤ K - j ∧ (∃ a, T' 6 e = nI a ∧ PNl un g T' a) ∧ WX T' FN O 14 (K - j) (lcW fl un T') (T' 7 e)
section LIS
variable {FN : Nat → Nat → Prop} {fl : Nat → Prop} {un vv vw vx : Nat} {O O' r r' K K' lo lo' i e e' s N l m c f g top top' : Nat} {b b' b'' : BT} {T' : Nat → Nat → Int32} {k x y z u : Int32} {P : (Nat → Nat → Int32) → Nat → Nat → Prop}
theorem Agr_g (hA : Agr T' un vw b' lo top) (hF : Frm un vv b e b') (hv : vv ≤ vw) (h1 : 1 ≤ lo) (hl : lo ≤ lo') (he : e < lo' ∨ e = top') (ht : top = top' ∨ b.1 ≤ top ∨ top = 0) : Agr T' un vv b lo' top' := by
  obtain ⟨a1, a2, a3, a4, a5⟩ := hF
  have l1 := hA.2.2.2.1
  have l2 := hA.2.2.2.2
  refine ⟨fun a i h4 h9 hi hb hx => ?_, fun i hi => ?_, fun s hs => ?_, by omega, by omega⟩
  · rw [hA.1 a i h4 h9 (by omega) (by omega) (by omega), a3 a i hb (by omega)]
  · rw [hA.2.1 i (by omega), a4 i hi]
  · rw [hA.2.2.1 s (by omega), a5 s hs]
/-- a new node behind the list -/
theorem LL_app (h : LL P un vv lo b i e c) (hF : Frm un vv b 0 b') (hv : vv ≤ vw) (hN : b.1 ≤ N) (hN2 : N < b'.1) (h9 : b'.2.2.1 9 N = -1) (hP : ∀ T', Agr T' un vw (bSet b' 9 e (nI N)) lo N → P T' (c + 1) N) : LL P un vw lo (bSet b' 9 e (nI N)) i N (c + 1) := by
  obtain ⟨a1, a2, a3, a4, a5⟩ := h
  have hb := hF.1
  refine ⟨a1, by omega, hN2, ?_, fun T' hA => ⟨e, a5 T' (Agr_g hA (Frm_tr (Frm_wk hF) (Frm_set9 (vv := vv)) (Nat.le_refl _) (Or.inl rfl)) hv a1 (Nat.le_refl _) (Or.inr rfl) (Or.inr (Or.inl hN))), ?_, hP T' hA⟩⟩
  · rw [bSet_o (by omega)]; exact h9
  · rw [hA.1 9 e (by decide) (by decide) a2 (by show e < b'.1; omega) (by omega), bSet_s]
theorem LL_w (h : LL P un vv lo b i e c) (hA : Agr T' un vv b lo 0) : LSe (P T') T' c i e ∧ T' 9 e = -1 := by
  obtain ⟨a1, a2, a3, a4, a5⟩ := h
  exact ⟨a5 T' ⟨fun a j h4 h9 hj hb hx => hA.1 a j h4 h9 hj hb (by omega), hA.2⟩, (hA.1 9 e (by decide) (by decide) a2 a3 (by omega)).trans a4⟩
theorem LL_1 (h : LPt FN fl un vv O r K' lo b e) (hK : K' ≤ K) (hr : r ≤ 14) (hb : b.1 ≤ 70000) : LL (PX FN fl un O K) un vv lo b e e 0 := by
  obtain ⟨a1, a2, a3, a4, a5⟩ := h
  exact ⟨a1, a2, a3, a4, fun T' hA => ⟨rfl, ⟨by omega, Nat.lt_of_lt_of_le a3 hA.2.2.2.1⟩, WX_mo (a5 T' hA) hK (Or.inl ⟨rfl, hr⟩)⟩⟩
theorem LL_x (h : LL (PX FN fl un O K) un vv lo b i e c) (hF : Frm un vv b 0 b') (hs : LPt FN fl un vw O r K' b.1 b' s) (hv : vv ≤ vw) (hK : K' ≤ K) (hr : r ≤ 14) (hb : b'.1 ≤ 70000) : LL (PX FN fl un O K) un vw lo (bSet b' 9 e (nI s)) i s (c + 1) := by
  have a1 := h.1
  have a2 := h.2.1
  have a3 := h.2.2.1
  have hb1 := hF.1
  obtain ⟨s1, s2, s3, s4, s5⟩ := hs
  exact LL_app h hF hv s2 s3 s4 (fun T' hA => ⟨⟨by omega, Nat.lt_of_lt_of_le s3 hA.2.2.2.1⟩, WX_mo (s5 T' (Agr_g hA (Frm_set9 (vv := vw)) (Nat.le_refl _) a1 (by omega) (Or.inl (by omega)) (Or.inl rfl))) hK (Or.inl ⟨rfl, hr⟩)⟩)
theorem LL_3 (h : LL (PX FN fl un O K) un vv lo b i e c) (hA : Agr T' un vv b lo 0) : ∃ F, WN T' FN F 3 O (c + 1) K (lcW fl un T') (nI i) := by
  obtain ⟨h1, h2⟩ := LL_w h hA
  have := LS_3 c 0 i e h1 ⟨1, by rw [h2]; exact WN_end (Or.inl rfl)⟩
  rw [Nat.zero_add] at this
  exact this
/-- the first branch -/
theorem LB_1 {v : Nat} (hs : LPt FN fl un vv O r K' lo b s) (hF : Frm un vv b 0 b') (hv : LPt FN fl un vw O r' K' b.1 b' v) (hvw : vv ≤ vw) (hK : K' ≤ K) (hr : r ≤ 14) (hr' : r' ≤ 14) (hb : b'.1 < 70000) : LL (PB2 FN fl un O K) un vw lo (bNode b' 33 (nI s) (nI v) 0) b'.1 b'.1 0 := by
  have a1 := hs.1
  have a2 := hs.2.1
  have a3 := hs.2.2.1
  have b1 := hF.1
  refine ⟨a1, by omega, Nat.lt_succ_self _, nd_t.2.2.2.2.2, fun T' hA => ⟨rfl, ⟨by omega, hA.2.2.2.1⟩, ?_, ?_⟩⟩
  · rw [(nd_at hA (by omega)).2.1]
    exact WX_mo (LP_at hs (Frm_tr (Frm_wk hF) (Frm_node (vv := vv)) (Nat.le_refl _) (Or.inl rfl)) hA hvw a1 (Nat.le_refl _) (Or.inl b1)) hK (Or.inl ⟨rfl, hr⟩)
  · rw [(nd_at hA (by omega)).2.2.1]
    exact WX_mo (LP_at hv Frm_node hA (Nat.le_refl _) a1 (by omega) (Or.inl (Nat.le_refl _))) hK (Or.inl ⟨rfl, hr'⟩)
/-- one more branch -/
theorem LB_x {v : Nat} (h : LL (PB2 FN fl un O K) un vv lo b i e c) (hF : Frm un vv b 0 b') (hs : LPt FN fl un vw O r K' b.1 b' s) (hF2 : Frm un vw b' 0 b'') (hv : LPt FN fl un vx O r' K' b'.1 b'' v) (h1 : vv ≤ vw) (h2 : vw ≤ vx) (hK : K' ≤ K) (hr : r ≤ 14) (hr' : r' ≤ 14) (hb : b''.1 < 70000) : LL (PB2 FN fl un O K) un vx lo (bSet (bNode b'' 33 (nI s) (nI v) 0) 9 e (nI b''.1)) i b''.1 (c + 1) := by
  have a1 := h.1
  have a2 := h.2.1
  have a3 := h.2.2.1
  have f1 := hF.1
  have f2 := hF2.1
  have g : ∀ w, Frm un w b'' e (bSet (bNode b'' 33 (nI s) (nI v) 0) 9 e (nI b''.1)) := fun w => Frm_tr Frm_node Frm_set9 (Nat.le_refl w) (Or.inl rfl)
  refine LL_app h (Frm_tr (Frm_tr hF hF2 h1 (Or.inl rfl)) (Frm_node (vv := vv)) (Nat.le_refl _) (Or.inr (Or.inr rfl))) (by omega) (by omega) (Nat.lt_succ_self _) nd_t.2.2.2.2.2 (fun T' hA => ⟨⟨by omega, hA.2.2.2.1⟩, ?_, ?_⟩)
  · have t5 : T' 5 b''.1 = nI s := by rw [hA.1 5 _ (by decide) (by decide) (by omega) (Nat.lt_succ_self _) (by omega), bSet_o (by omega)]; exact nd_t.2.1
    rw [t5]
    exact WX_mo (hs.2.2.2.2 T' (Agr_g hA (Frm_tr (Frm_wk hF2) (g vw) (Nat.le_refl _) (Or.inl rfl)) h2 a1 (by omega) (Or.inl (by omega)) (Or.inr (Or.inl f2)))) hK (Or.inl ⟨rfl, hr⟩)
  · have t6 : T' 6 b''.1 = nI v := by rw [hA.1 6 _ (by decide) (by decide) (by omega) (Nat.lt_succ_self _) (by omega), bSet_o (by omega)]; exact nd_t.2.2.1
    rw [t6]
    exact WX_mo (hv.2.2.2.2 T' (Agr_g hA (g vx) (Nat.le_refl _) a1 (by omega) (Or.inl (by omega)) (Or.inr (Or.inl (Nat.le_refl _))))) hK (Or.inl ⟨rfl, hr'⟩)
/-- branches, and what stands behind else -/
theorem LB_5 {v : Nat} (h : LL (PB2 FN fl un O K) un vv lo b i e c) (hF : Frm un vv b 0 b') (hv : LPt FN fl un vw O r K' b.1 b' v) (h1 : vv ≤ vw) (hK : K' ≤ K) (hr : r ≤ 14) (hb : b'.1 < 70000) (hA : Agr T' un vw (bSet (bNode b' 33 (-1) (nI v) 0) 9 e (nI b'.1)) lo 0) : ∃ F, WN T' FN F 5 O 0 K (lcW fl un T') (nI i) := by
  obtain ⟨a1, a2, a3, a4, a5⟩ := h
  have f1 := hF.1
  have g : ∀ w, Frm un w b' e (bSet (bNode b' 33 (-1) (nI v) 0) 9 e (nI b'.1)) := fun w => Frm_tr Frm_node Frm_set9 (Nat.le_refl w) (Or.inl rfl)
  have t5 : T' 5 b'.1 = -1 := by rw [hA.1 5 _ (by decide) (by decide) (by omega) (Nat.lt_succ_self _) (by omega), bSet_o (by omega)]; exact nd_t.2.1
  have t6 : T' 6 b'.1 = nI v := by rw [hA.1 6 _ (by decide) (by decide) (by omega) (Nat.lt_succ_self _) (by omega), bSet_o (by omega)]; exact nd_t.2.2.1
  have t9 : T' 9 e = nI b'.1 := by rw [hA.1 9 _ (by decide) (by decide) a2 (by show e < b'.1 + 1; omega) (by omega), bSet_s]
  obtain ⟨F, w⟩ := WX_mo (hv.2.2.2.2 T' (Agr_g hA (g vw) (Nat.le_refl _) a1 (by omega) (Or.inl (by omega)) (Or.inr (Or.inr rfl)))) hK (Or.inl ⟨rfl, hr⟩)
  refine LS_5 c i e (a5 T' (Agr_g hA (Frm_tr (Frm_wk hF) (g vv) (Nat.le_refl _) (Or.inl rfl)) h1 a1 (Nat.le_refl _) (Or.inr rfl) (Or.inr (Or.inr rfl)))) ⟨F + 1, ?_⟩
  rw [t9]
  unfold WN
  exact Or.inr (Or.inr (Or.inr (Or.inr (Or.inr (Or.inl ⟨rfl, b'.1, rfl, ⟨by omega, hA.2.2.2.1⟩, by rw [t6]; exact w, Or.inl t5⟩)))))
/-- what a name's telling leaves -/
abbrev bNm (b : BT) (un vv g : Nat) (T : Nat → Int32) (f m : Nat) : BT := bNode (bKeep (bSlot b (60 * un + vv) (nI g)) T f m) 31 (if un = 0 then 0 else 1) (nI vv) 0
theorem Frm_nm {T : Nat → Int32} : Frm un vv b 0 (bNm b un vv g T f m) := Frm_tr (Frm_tr Frm_slot (Frm_keep (vv := vv)) (Nat.le_refl _) (Or.inl rfl)) (Frm_node (vv := vv)) (Nat.le_refl _) (Or.inl rfl)
/-- the first name -/
theorem LN_1 {T : Nat → Int32} (h1 : 1 ≤ b.1) (hv : vv < 60) (hb : b.1 < 70000) : LL (PNm un g) un (vv + 1) b.1 (bNm b un vv g T f m) b.1 b.1 0 := by
  refine ⟨h1, Nat.le_refl _, Nat.lt_succ_self _, nd_t.2.2.2.2.2, fun T' hA => ⟨rfl, ⟨by omega, hA.2.2.2.1⟩, vv, (nd_at hA (Nat.le_refl _)).2.2.1, hv, (nd_at hA (Nat.le_refl _)).2.1, ?_⟩⟩
  rw [hA.2.2.1 vv (by omega)]
  exact upd_same
theorem LN_x {T : Nat → Int32} (h : LL (PNm un g) un vv lo b i e c) (hv : vv < 60) (hb : b.1 < 70000) : LL (PNm un g) un (vv + 1) lo (bSet (bNm b un vv g T f m) 9 e (nI b.1)) i b.1 (c + 1) := by
  have a2 := h.2.1
  have a3 := h.2.2.1
  refine LL_app h Frm_nm (by omega) (Nat.le_refl _) (Nat.lt_succ_self _) nd_t.2.2.2.2.2 (fun T' hA => ⟨⟨by omega, hA.2.2.2.1⟩, vv, ?_, hv, ?_, ?_⟩)
  · exact (hA.1 6 b.1 (by decide) (by decide) (by omega) (show b.1 < b.1 + 1 by omega) (by omega)).trans ((bSet_o (by omega)).trans (nd_t (b := bKeep (bSlot b (60 * un + vv) (nI g)) T f m)).2.2.1)
  · exact (hA.1 5 b.1 (by decide) (by decide) (by omega) (show b.1 < b.1 + 1 by omega) (by omega)).trans ((bSet_o (by omega)).trans (nd_t (b := bKeep (bSlot b (60 * un + vv) (nI g)) T f m)).2.1)
  · rw [hA.2.2.1 vv (by omega)]; exact upd_same
theorem PNm_lc {j : Nat} (h : PNm un 0 T' j e) : (1 ≤ e ∧ e < LNo T' % 70001) ∧ ∃ s, T' 6 e = nI s ∧ s < 60 ∧ ((T' 5 e = 0 ∨ lcW fl un T' 0) ∧ lcW fl un T' (if T' 5 e = 0 then 1 + s else 61 + s)) := by
  obtain ⟨h1, s, h6, hs, h5, h20⟩ := h
  refine ⟨h1, s, h6, hs, ?_⟩
  by_cases c : un = 0
  · rw [if_pos c] at h5
    refine ⟨Or.inl h5, ?_⟩
    rw [if_pos h5]
    refine Or.inr (Or.inl ⟨c, by omega, by omega, ?_⟩)
    rw [c] at h20
    rw [show 1 + s - 1 = s by omega]
    rw [Nat.mul_zero, Nat.zero_add] at h20
    exact h20
  · rw [if_neg c] at h5
    have h5' : ¬ T' 5 e = 0 := by rw [h5]; decide
    refine ⟨Or.inr (Or.inl ⟨rfl, c⟩), ?_⟩
    rw [if_neg h5']
    refine Or.inr (Or.inr (Or.inl ⟨c, by omega, by omega, ?_⟩))
    rw [show 61 + s - 61 = s by omega]; exact h20
theorem LSe_mo {P Q : Nat → Nat → Prop} {T : Nat → Nat → Int32} (h : ∀ j e, P j e → Q j e) : ∀ {c i e : Nat}, LSe P T c i e → LSe Q T c i e
  | 0, _, _, z => ⟨z.1, h _ _ z.2⟩
  | _ + 1, _, _, ⟨e', z1, z2, z3⟩ => ⟨e', LSe_mo h z1, z2, h _ _ z3⟩
theorem PNl_6 {a : Nat} (h : PNl un 0 T' a) : ∃ q F, (1 ≤ q ∧ q ≤ 70000) ∧ WN T' FN F 6 O q K (lcW fl un T') (nI a) := by
  obtain ⟨c, e, hc, h1, h2⟩ := h
  obtain ⟨F, w⟩ := LS_6 (FN := FN) (O := O) (K := K) (lc := lcW fl un T') c 0 a e (LSe_mo (fun j e z => PNm_lc z) h1) ⟨1, by rw [h2]; exact WN_end (Or.inr (Or.inr rfl))⟩
  exact ⟨0 + c + 1, F, by omega, w⟩
/-- an iterator: its names (from a on), its exp -/
theorem PJ_of {a j : Nat} (hK : 1 ≤ K - j) (hn : ∀ T', Agr T' un vv b lo 0 → PNl un g T' a) (hF : Frm un vv b 0 b') (hs : LPt FN fl un vw O r K' b.1 b' s) (hvw : vv ≤ vw) (hK2 : K' ≤ K - j) (hr : r ≤ 14) {b2 : BT} (hb : b'.1 < b2.1) (h1 : 1 ≤ lo) (hl : lo ≤ b.1) (hG : ∀ w, Frm un w b' e b2) (he : e < lo) (hA : Agr T' un vw b2 lo top) (ht : b'.1 ≤ top ∨ top = 0) (t6 : T' 6 b'.1 = nI a) (t7 : T' 7 b'.1 = nI s) : PJ FN fl un g O K T' j b'.1 := by
  have f1 := hF.1
  refine ⟨⟨by omega, Nat.lt_of_lt_of_le hb hA.2.2.2.1⟩, hK, ⟨a, t6, hn T' (Agr_g hA (Frm_tr (Frm_wk hF) (hG vv) (Nat.le_refl _) (Or.inl rfl)) hvw h1 (Nat.le_refl _) (Or.inl he) (by omega))⟩, ?_⟩
  rw [t7]
  exact WX_mo (hs.2.2.2.2 T' (Agr_g hA (hG vw) (Nat.le_refl _) h1 hl (Or.inl (by omega)) (by omega))) hK2 (Or.inl ⟨rfl, hr⟩)
theorem LI_1 {a : Nat} (hK : 1 ≤ K) (hn : ∀ T', Agr T' un vv b lo 0 → PNl un g T' a) (hF : Frm un vv b 0 b') (hs : LPt FN fl un vw O r K' b.1 b' s) (hvw : vv ≤ vw) (hK2 : K' ≤ K) (hr : r ≤ 14) (hb : b'.1 < 70000) (h1 : 1 ≤ lo) (hl : lo ≤ b.1) : LL (PJ FN fl un g O K) un vw lo (bNode b' 30 x (nI a) (nI s)) b'.1 b'.1 0 := by
  have f1 := hF.1
  refine ⟨h1, by omega, Nat.lt_succ_self _, nd_t.2.2.2.2.2, fun T' hA => ⟨rfl, ?_⟩⟩
  have nd := nd_at hA (by omega)
  exact PJ_of (e := 0) (j := 0) (b2 := bNode b' 30 x (nI a) (nI s)) hK hn hF hs hvw hK2 hr (Nat.lt_succ_self _) h1 hl (fun w => Frm_node) (by omega) hA (Or.inl (Nat.le_refl _)) nd.2.2.1 nd.2.2.2.1
/-- one more; its names are laid behind lo' -/
theorem LI_x {a v0 : Nat} (h : LL (PJ FN fl un g O K) un v0 lo b i e c) (hK : c + 2 ≤ K) (hF0 : Frm un v0 b 0 b') (hv0 : v0 ≤ vv) (hn : ∀ T', Agr T' un vv b' b.1 0 → PNl un g T' a) (hF : Frm un vv b' 0 b'') (hs : LPt FN fl un vw O r K' b'.1 b'' s) (hvw : vv ≤ vw) (hK2 : K' ≤ K - (c + 1)) (hr : r ≤ 14) (hb : b''.1 < 70000) : LL (PJ FN fl un g O K) un vw lo (bSet (bNode b'' 30 x (nI a) (nI s)) 9 e (nI b''.1)) i b''.1 (c + 1) := by
  have a1 := h.1
  have a2 := h.2.1
  have a3 := h.2.2.1
  have f0 := hF0.1
  have f1 := hF.1
  have g' : ∀ w, Frm un w b'' e (bSet (bNode b'' 30 x (nI a) (nI s)) 9 e (nI b''.1)) := fun w => Frm_tr Frm_node Frm_set9 (Nat.le_refl w) (Or.inl rfl)
  refine LL_app h (Frm_tr (Frm_tr hF0 hF hv0 (Or.inl rfl)) (Frm_node (vv := v0)) (Nat.le_refl _) (Or.inl rfl)) (by omega) (by omega) (Nat.lt_succ_self _) nd_t.2.2.2.2.2 (fun T' hA => ?_)
  have t6 : T' 6 b''.1 = nI a := by rw [hA.1 6 _ (by decide) (by decide) (by omega) (Nat.lt_succ_self _) (by omega), bSet_o (by omega)]; exact nd_t.2.2.1
  have t7 : T' 7 b''.1 = nI s := by rw [hA.1 7 _ (by decide) (by decide) (by omega) (Nat.lt_succ_self _) (by omega), bSet_o (by omega)]; exact nd_t.2.2.2.1
  have hA' : Agr T' un vw (bSet (bNode b'' 30 x (nI a) (nI s)) 9 e (nI b''.1)) b.1 b''.1 := ⟨fun a' j h4 h9 hj hb2 hx => hA.1 a' j h4 h9 (by omega) hb2 hx, hA.2⟩
  exact PJ_of (lo := b.1) (b2 := bSet (bNode b'' 30 x (nI a) (nI s)) 9 e (nI b''.1)) (by omega) hn hF hs hvw hK2 hr (Nat.lt_succ_self _) (by omega) f0 g' a3 hA' (Or.inl (Nat.le_refl _)) t6 t7
/-- iterators of a former -/
theorem PJs_4 (h : LSe (PJ FN fl un 0 O K T') T' c i e) (h9 : T' 9 e = -1) : ∃ F, WN T' FN F 4 O (c + 1) K (lcW fl un T') (nI i) := by
  have h' : LSe (fun j e => PIt T' FN O (K - j) (lcW fl un T') e) T' c i e := LSe_mo (fun j e z => ⟨z.1, z.2.1, by
    obtain ⟨a, t6, hn⟩ := z.2.2.1
    rw [t6]; exact PNl_6 hn, z.2.2.2⟩) h
  have := LS_4 (FN := FN) (O := O) (K := K) c 0 i e h' ⟨1, by rw [h9]; exact WN_end (Or.inr (Or.inl rfl))⟩
  rw [Nat.zero_add] at this
  exact this
end LIS
/-- what is around is as it should be -/
def EnOK (FN : Nat → Nat → Prop) (E : En) : Prop := (∀ x ∈ E.2.1, x.2.2 < 60) ∧ (∀ x ∈ E.1, x.2.2.1 = 1 → x.2.2.2 < 60) ∧ (∀ x ∈ E.1, x.2.2.1 = 2 → FN x.2.2.2 (E.2.2.2.2.2.2 x.2.2.2) ∧ E.2.2.2.2.2.2 x.2.2.2 ≤ 60)
section ENO
variable {FN : Nat → Nat → Prop} {E : En} {ns : List Nm} {bs : List Int32}
theorem EnOK_see (h : EnOK FN E) (hn : ∀ x ∈ ns, x.2.2 < 60) : EnOK FN (seeN E ns) := ⟨fun x hx => by
  rcases List.mem_append.mp (show x ∈ ns ++ E.2.1 from hx) with z | z
  · exact hn x z
  · exact h.1 x z, h.2.1, h.2.2⟩
theorem EnOK_row (h : EnOK FN E) : EnOK FN (rowN E ns) := h
theorem fd_1 (h : EnOK FN E) (h1 : (fd E bs).1 = 1) : (fd E bs).2.1 < 60 ∧ ((fd E bs).2.2 = 0 ∨ ¬ E.2.2.2.1 = 0) := by
  unfold fd at h1 ⊢
  cases hf : E.2.1.find? (fun x => decide (x.1 = bs)) with
  | some x =>
    refine ⟨h.1 x (List.mem_of_find?_eq_some hf), ?_⟩
    show (if E.2.2.2.1 = 0 then (0 : Int32) else 1) = 0 ∨ ¬ E.2.2.2.1 = 0
    by_cases c : E.2.2.2.1 = 0
    · rw [if_pos c]; exact Or.inl rfl
    · exact Or.inr c
  | none =>
    rw [hf] at h1
    cases hg : E.1.find? (fun x => decide (x.1 = bs)) with
    | some x =>
      rw [hg] at h1
      exact ⟨h.2.1 x (List.mem_of_find?_eq_some hg) h1, Or.inl rfl⟩
    | none => rw [hg] at h1; exact absurd (show (0 : Nat) = 1 from h1) (by decide)
theorem fd_2 (h : EnOK FN E) (h1 : (fd E bs).1 = 2) : FN (fd E bs).2.1 (E.2.2.2.2.2.2 (fd E bs).2.1) ∧ E.2.2.2.2.2.2 (fd E bs).2.1 ≤ 60 := by
  unfold fd at h1 ⊢
  cases hf : E.2.1.find? (fun x => decide (x.1 = bs)) with
  | some x => rw [hf] at h1; exact absurd (show (1 : Nat) = 2 from h1) (by decide)
  | none =>
    rw [hf] at h1
    cases hg : E.1.find? (fun x => decide (x.1 = bs)) with
    | some x =>
      rw [hg] at h1
      exact h.2.2 x (List.mem_of_find?_eq_some hg) h1
    | none => rw [hg] at h1; exact absurd (show (0 : Nat) = 2 from h1) (by decide)
end ENO
/-- a number has sixty digits at the most -/
theorem tk_27 {T : Nat → Int32} {n q : Nat} (h : tkK T n q = 27) : tkE T n q - q ≤ 60 := by
  unfold tkK tkE at *
  unfold tokM at *
  by_cases c0 : q = n
  · rw [if_pos c0] at h ⊢; unfold tkc at h; simp at h
  rw [if_neg c0] at h ⊢
  by_cases c1 : isL (rB T n q)
  · rw [if_pos c1] at h
    by_cases d : nameE T n (n + 1) q - q ≤ 16
    · by_cases e : wordI (seg T q (nameE T n (n + 1) q)) = -1
      · simp only [if_pos d, if_pos e] at h; unfold tkc at h; simp at h
      · simp only [if_pos d, if_neg e] at h; unfold tkc at h; simp at h; omega
    · simp only [if_neg d] at h; unfold tkc at h; simp at h
  rw [if_neg c1] at h ⊢
  by_cases c2 : isD (rB T n q)
  · rw [if_pos c2] at h ⊢
    by_cases d : digE T n (n + 1) q - q ≤ 60
    · exact d
    · simp only [if_neg d] at h; unfold tkc at h; simp at h
  rw [if_neg c2] at h ⊢
  by_cases c3 : rB T n q = 34
  · rw [if_pos c3] at h
    by_cases d : (strE T n (n + 1) (q + 1) < n ∧ T (strE T n (n + 1) (q + 1)) = 34) ∧ strE T n (n + 1) (q + 1) - q - 1 ≤ 100
    · simp only [if_pos d] at h; unfold tkc at h; simp at h
    · simp only [if_neg d] at h; unfold tkc at h; simp at h
  rw [if_neg c3] at h ⊢
  dsimp only at *
  by_cases d : signF (rB T n q) (rB T n (q + 1)) = 1 ∨ signF (rB T n q) (rB T n (q + 1)) = 5 ∨ signF (rB T n q) (rB T n (q + 1)) = 16 ∨ signF (rB T n q) (rB T n (q + 1)) = 18 ∨ signF (rB T n q) (rB T n (q + 1)) = 20 ∨ signF (rB T n q) (rB T n (q + 1)) = 22
  · rw [if_pos d]; omega
  · rw [if_neg d]; omega
end JnS228
