/-! What is laid is a tree: lists of exps, branches, names, iterators; what is around. -/
/-- a list from i to e; what stands behind e is open -/
def LL (P : (Nat → Nat → Int32) → Nat → Nat → Prop) (un vv lo : Nat) (b : BT) (i e c : Nat) : Prop := 1 ≤ lo ∧ lo ≤ e ∧ e < b.1 ∧ b.2.2.1 9 e = -1 ∧ ∀ T', Agr T' un vv b lo e → LSe (P T') T' c i e
/-- exps -/
def PX (FN : Nat → Nat → Prop) (fl : Nat → Prop) (un O K : Nat) (T' : Nat → Nat → Int32) (_ e : Nat) : Prop := (1 ≤ e ∧ e < LNo T' % 70001) ∧ WX T' FN O 14 K (lcW fl un T') (nI e)
/-- branches -/
def PB2 (FN : Nat → Nat → Prop) (fl : Nat → Prop) (un O K : Nat) (T' : Nat → Nat → Int32) (_ e : Nat) : Prop := (1 ≤ e ∧ e < LNo T' % 70001) ∧ WX T' FN O 14 K (lcW fl un T') (T' 5 e) ∧ WX T' FN O 14 K (lcW fl un T') (T' 6 e)
/-- names (g: whether they count) -/
def PNm (un g : Nat) (T' : Nat → Nat → Int32) (_ e : Nat) : Prop := (1 ≤ e ∧ e < LNo T' % 70001) ∧ ∃ s, T' 6 e = nI s ∧ s < 60 ∧ (T' 5 e = if un = 0 then 0 else 1) ∧ T' 20 (60 * un + s) = nI g
/-- the names of an iterator -/
def PNl (un g : Nat) (T' : Nat → Nat → Int32) (a : Nat) : Prop := ∃ c e, c < 60 ∧ LSe (PNm un g T') T' c a e ∧ T' 9 e = -1
/-- iterators -/
def PJ (FN : Nat → Nat → Prop) (fl : Nat → Prop) (un g O K : Nat) (T' : Nat → Nat → Int32) (j e : Nat) : Prop := (1 ≤ e ∧ e < LNo T' % 70001) ∧ 1 ≤ K - j ∧ (∃ a, T' 6 e = nI a ∧ PNl un g T' a) ∧ WX T' FN O 14 (K - j) (lcW fl un T') (T' 7 e)
section LIS
variable {FN : Nat → Nat → Prop} {fl : Nat → Prop} {un vv vw vx : Nat} {O O' r r' K K' lo lo' i e e' s N l m c f g top top' : Nat} {b b' b'' : BT} {T' : Nat → Nat → Int32} {k x y z u : Int32} {P : (Nat → Nat → Int32) → Nat → Nat → Prop}
theorem Agr_g (hA : Agr T' un vw b' lo top) (hF : Frm un vv b e b') (hv : vv ≤ vw) (h1 : 1 ≤ lo) (hl : lo ≤ lo') (he : e < lo' ∨ e = top') (ht : top = top' ∨ b.1 ≤ top ∨ top = 0) : Agr T' un vv b lo' top' := by
  obtain ⟨a1, a2, a3, a4, a5⟩ := hF
  have l1 := hA.2.2.2.1
  have l2 := hA.2.2.2.2
  refine ⟨fun a i h4 h9 hi hb hx => ?_, fun i hi => ?_, fun s hs => ?_, by omega, by omega⟩
  · rw [hA.1 a i h4 h9 (by omega) (by omega) (by omega), a3 a i hb (by omega)]
  · rw [hA.2.1 i (by omega), a4 i hi]
  · rw [hA.2.2.1 s (by omega), a5 s hs]
/-- a new node behind the list -/
theorem LL_app (h : LL P un vv lo b i e c) (hF : Frm un vv b 0 b') (hv : vv ≤ vw) (hN : b.1 ≤ N) (hN2 : N < b'.1) (h9 : b'.2.2.1 9 N = -1) (hP : ∀ T', Agr T' un vw (bSet b' 9 e (nI N)) lo N → P T' (c + 1) N) : LL P un vw lo (bSet b' 9 e (nI N)) i N (c + 1) := by
  obtain ⟨a1, a2, a3, a4, a5⟩ := h
  have hb := hF.1
  refine ⟨a1, by omega, hN2, ?_, fun T' hA => ⟨e, a5 T' (Agr_g hA (Frm_tr (Frm_wk hF) (Frm_set9 (vv := vv)) (Nat.le_refl _) (Or.inl rfl)) hv a1 (Nat.le_refl _) (Or.inr rfl) (Or.inr (Or.inl hN))), ?_, hP T' hA⟩⟩
  · rw [bSet_o (by omega)]; exact h9
  · rw [hA.1 9 e (by decide) (by decide) a2 (by show e < b'.1; omega) (by omega), bSet_s]
theorem LL_w (h : LL P un vv lo b i e c) (hA : Agr T' un vv b lo 0) : LSe (P T') T' c i e ∧ T' 9 e = -1 := by
  obtain ⟨a1, a2, a3, a4, a5⟩ := h
  exact ⟨a5 T' ⟨fun a j h4 h9 hj hb hx => hA.1 a j h4 h9 hj hb (by omega), hA.2⟩, (hA.1 9 e (by decide) (by decide) a2 a3 (by omega)).trans a4⟩
theorem LL_1 (h : LPt FN fl un vv O r K' lo b e) (hK : K' ≤ K) (hr : r ≤ 14) (hb : b.1 ≤ 70000) : LL (PX FN fl un O K) un vv lo b e e 0 := by
  obtain ⟨a1, a2, a3, a4, a5⟩ := h
  exact ⟨a1, a2, a3, a4, fun T' hA => ⟨rfl, ⟨by omega, Nat.lt_of_lt_of_le a3 hA.2.2.2.1⟩, WX_mo (a5 T' hA) hK (Or.inl ⟨rfl, hr⟩)⟩⟩
theorem LL_x (h : LL (PX FN fl un O K) un vv lo b i e c) (hF : Frm un vv b 0 b') (hs : LPt FN fl un vw O r K' b.1 b' s) (hv : vv ≤ vw) (hK : K' ≤ K) (hr : r ≤ 14) (hb : b'.1 ≤ 70000) : LL (PX FN fl un O K) un vw lo (bSet b' 9 e (nI s)) i s (c + 1) := by
  have a1 := h.1
  have a2 := h.2.1
  have a3 := h.2.2.1
  have hb1 := hF.1
  obtain ⟨s1, s2, s3, s4, s5⟩ := hs
  exact LL_app h hF hv s2 s3 s4 (fun T' hA => ⟨⟨by omega, Nat.lt_of_lt_of_le s3 hA.2.2.2.1⟩, WX_mo (s5 T' (Agr_g hA (Frm_set9 (vv := vw)) (Nat.le_refl _) a1 (by omega) (Or.inl (by omega)) (Or.inl rfl))) hK (Or.inl ⟨rfl, hr⟩)⟩)
theorem LL_3 (h : LL (PX FN fl un O K) un vv lo b i e c) (hA : Agr T' un vv b lo 0) : ∃ F, WN T' FN F 3 O (c + 1) K (lcW fl un T') (nI i) := by
  obtain ⟨h1, h2⟩ := LL_w h hA
  have := LS_3 c 0 i e h1 ⟨1, by rw [h2]; exact WN_end (Or.inl rfl)⟩
  rw [Nat.zero_add] at this
  exact this
/-- the first branch -/
theorem LB_1 {v : Nat} (hs : LPt FN fl un vv O r K' lo b s) (hF : Frm un vv b 0 b') (hv : LPt FN fl un vw O r' K' b.1 b' v) (hvw : vv ≤ vw) (hK : K' ≤ K) (hr : r ≤ 14) (hr' : r' ≤ 14) (hb : b'.1 < 70000) : LL (PB2 FN fl un O K) un vw lo (bNode b' 33 (nI s) (nI v) 0) b'.1 b'.1 0 := by
  have a1 := hs.1
  have a2 := hs.2.1
  have a3 := hs.2.2.1
  have b1 := hF.1
  refine ⟨a1, by omega, Nat.lt_succ_self _, nd_t.2.2.2.2.2, fun T' hA => ⟨rfl, ⟨by omega, hA.2.2.2.1⟩, ?_, ?_⟩⟩
  · rw [(nd_at hA (by omega)).2.1]
    exact WX_mo (LP_at hs (Frm_tr (Frm_wk hF) (Frm_node (vv := vv)) (Nat.le_refl _) (Or.inl rfl)) hA hvw a1 (Nat.le_refl _) (Or.inl b1)) hK (Or.inl ⟨rfl, hr⟩)
  · rw [(nd_at hA (by omega)).2.2.1]
    exact WX_mo (LP_at hv Frm_node hA (Nat.le_refl _) a1 (by omega) (Or.inl (Nat.le_refl _))) hK (Or.inl ⟨rfl, hr'⟩)
/-- one more branch -/
theorem LB_x {v : Nat} (h : LL (PB2 FN fl un O K) un vv lo b i e c) (hF : Frm un vv b 0 b') (hs : LPt FN fl un vw O r K' b.1 b' s) (hF2 : Frm un vw b' 0 b'') (hv : LPt FN fl un vx O r' K' b'.1 b'' v) (h1 : vv ≤ vw) (h2 : vw ≤ vx) (hK : K' ≤ K) (hr : r ≤ 14) (hr' : r' ≤ 14) (hb : b''.1 < 70000) : LL (PB2 FN fl un O K) un vx lo (bSet (bNode b'' 33 (nI s) (nI v) 0) 9 e (nI b''.1)) i b''.1 (c + 1) := by
  have a1 := h.1
  have a2 := h.2.1
  have a3 := h.2.2.1
  have f1 := hF.1
  have f2 := hF2.1
  have g : ∀ w, Frm un w b'' e (bSet (bNode b'' 33 (nI s) (nI v) 0) 9 e (nI b''.1)) := fun w => Frm_tr Frm_node Frm_set9 (Nat.le_refl w) (Or.inl rfl)
  refine LL_app h (Frm_tr (Frm_tr hF hF2 h1 (Or.inl rfl)) (Frm_node (vv := vv)) (Nat.le_refl _) (Or.inr (Or.inr rfl))) (by omega) (by omega) (Nat.lt_succ_self _) nd_t.2.2.2.2.2 (fun T' hA => ⟨⟨by omega, hA.2.2.2.1⟩, ?_, ?_⟩)
  · have t5 : T' 5 b''.1 = nI s := by rw [hA.1 5 _ (by decide) (by decide) (by omega) (Nat.lt_succ_self _) (by omega), bSet_o (by omega)]; exact nd_t.2.1
    rw [t5]
    exact WX_mo (hs.2.2.2.2 T' (Agr_g hA (Frm_tr (Frm_wk hF2) (g vw) (Nat.le_refl _) (Or.inl rfl)) h2 a1 (by omega) (Or.inl (by omega)) (Or.inr (Or.inl f2)))) hK (Or.inl ⟨rfl, hr⟩)
  · have t6 : T' 6 b''.1 = nI v := by rw [hA.1 6 _ (by decide) (by decide) (by omega) (Nat.lt_succ_self _) (by omega), bSet_o (by omega)]; exact nd_t.2.2.1
    rw [t6]
    exact WX_mo (hv.2.2.2.2 T' (Agr_g hA (g vx) (Nat.le_refl _) a1 (by omega) (Or.inl (by omega)) (Or.inr (Or.inl (Nat.le_refl _))))) hK (Or.inl ⟨rfl, hr'⟩)
/-- branches, and what stands behind else -/
theorem LB_5 {v : Nat} (h : LL (PB2 FN fl un O K) un vv lo b i e c) (hF : Frm un vv b 0 b') (hv : LPt FN fl un vw O r K' b.1 b' v) (h1 : vv ≤ vw) (hK : K' ≤ K) (hr : r ≤ 14) (hb : b'.1 < 70000) (hA : Agr T' un vw (bSet (bNode b' 33 (-1) (nI v) 0) 9 e (nI b'.1)) lo 0) : ∃ F, WN T' FN F 5 O 0 K (lcW fl un T') (nI i) := by
  obtain ⟨a1, a2, a3, a4, a5⟩ := h
  have f1 := hF.1
  have g : ∀ w, Frm un w b' e (bSet (bNode b' 33 (-1) (nI v) 0) 9 e (nI b'.1)) := fun w => Frm_tr Frm_node Frm_set9 (Nat.le_refl w) (Or.inl rfl)
  have t5 : T' 5 b'.1 = -1 := by rw [hA.1 5 _ (by decide) (by decide) (by omega) (Nat.lt_succ_self _) (by omega), bSet_o (by omega)]; exact nd_t.2.1
  have t6 : T' 6 b'.1 = nI v := by rw [hA.1 6 _ (by decide) (by decide) (by omega) (Nat.lt_succ_self _) (by omega), bSet_o (by omega)]; exact nd_t.2.2.1
  have t9 : T' 9 e = nI b'.1 := by rw [hA.1 9 _ (by decide) (by decide) a2 (by show e < b'.1 + 1; omega) (by omega), bSet_s]
  obtain ⟨F, w⟩ := WX_mo (hv.2.2.2.2 T' (Agr_g hA (g vw) (Nat.le_refl _) a1 (by omega) (Or.inl (by omega)) (Or.inr (Or.inr rfl)))) hK (Or.inl ⟨rfl, hr⟩)
  refine LS_5 c i e (a5 T' (Agr_g hA (Frm_tr (Frm_wk hF) (g vv) (Nat.le_refl _) (Or.inl rfl)) h1 a1 (Nat.le_refl _) (Or.inr rfl) (Or.inr (Or.inr rfl)))) ⟨F + 1, ?_⟩
  rw [t9]
  unfold WN
  exact Or.inr (Or.inr (Or.inr (Or.inr (Or.inr (Or.inl ⟨rfl, b'.1, rfl, ⟨by omega, hA.2.2.2.1⟩, by rw [t6]; exact w, Or.inl t5⟩)))))
/-- what a name's telling leaves -/
abbrev bNm (b : BT) (un vv g : Nat) (T : Nat → Int32) (f m : Nat) : BT := bNode (bKeep (bSlot b (60 * un + vv) (nI g)) T f m) 31 (if un = 0 then 0 else 1) (nI vv) 0
theorem Frm_nm {T : Nat → Int32} : Frm un vv b 0 (bNm b un vv g T f m) := Frm_tr (Frm_tr Frm_slot (Frm_keep (vv := vv)) (Nat.le_refl _) (Or.inl rfl)) (Frm_node (vv := vv)) (Nat.le_refl _) (Or.inl rfl)
/-- the first name -/
theorem LN_1 {T : Nat → Int32} (h1 : 1 ≤ b.1) (hv : vv < 60) (hb : b.1 < 70000) : LL (PNm un g) un (vv + 1) b.1 (bNm b un vv g T f m) b.1 b.1 0 := by
  refine ⟨h1, Nat.le_refl _, Nat.lt_succ_self _, nd_t.2.2.2.2.2, fun T' hA => ⟨rfl, ⟨by omega, hA.2.2.2.1⟩, vv, (nd_at hA (Nat.le_refl _)).2.2.1, hv, (nd_at hA (Nat.le_refl _)).2.1, ?_⟩⟩
  rw [hA.2.2.1 vv (by omega)]
  exact upd_same
theorem LN_x {T : Nat → Int32} (h : LL (PNm un g) un vv lo b i e c) (hv : vv < 60) (hb : b.1 < 70000) : LL (PNm un g) un (vv + 1) lo (bSet (bNm b un vv g T f m) 9 e (nI b.1)) i b.1 (c + 1) := by
  have a2 := h.2.1
  have a3 := h.2.2.1
  refine LL_app h Frm_nm (by omega) (Nat.le_refl _) (Nat.lt_succ_self _) nd_t.2.2.2.2.2 (fun T' hA => ⟨⟨by omega, hA.2.2.2.1⟩, vv, ?_, hv, ?_, ?_⟩)
  · exact (hA.1 6 b.1 (by decide) (by decide) (by omega) (show b.1 < b.1 + 1 by omega) (by omega)).trans ((bSet_o (by omega)).trans (nd_t (b := bKeep (bSlot b (60 * un + vv) (nI g)) T f m)).2.2.1)
  · exact (hA.1 5 b.1 (by decide) (by decide) (by omega) (show b.1 < b.1 + 1 by omega) (by omega)).trans ((bSet_o (by omega)).trans (nd_t (b := bKeep (bSlot b (60 * un + vv) (nI g)) T f m)).2.1)
  · rw [hA.2.2.1 vv (by omega)]; exact upd_same
theorem PNm_lc {j : Nat} (h : PNm un 0 T' j e) : (1 ≤ e ∧ e < LNo T' % 70001) ∧ ∃ s, T' 6 e = nI s ∧ s < 60 ∧ ((T' 5 e = 0 ∨ lcW fl un T' 0) ∧ lcW fl un T' (if T' 5 e = 0 then 1 + s else 61 + s)) := by
  obtain ⟨h1, s, h6, hs, h5, h20⟩ := h
  refine ⟨h1, s, h6, hs, ?_⟩
  by_cases c : un = 0
  · rw [if_pos c] at h5
    refine ⟨Or.inl h5, ?_⟩
    rw [if_pos h5]
    refine Or.inr (Or.inl ⟨c, by omega, by omega, ?_⟩)
    rw [c] at h20
    rw [show 1 + s - 1 = s by omega]
    rw [Nat.mul_zero, Nat.zero_add] at h20
    exact h20
  · rw [if_neg c] at h5
    have h5' : ¬ T' 5 e = 0 := by rw [h5]; decide
    refine ⟨Or.inr (Or.inl ⟨rfl, c⟩), ?_⟩
    rw [if_neg h5']
    refine Or.inr (Or.inr (Or.inl ⟨c, by omega, by omega, ?_⟩))
    rw [show 61 + s - 61 = s by omega]; exact h20
theorem LSe_mo {P Q : Nat → Nat → Prop} {T : Nat → Nat → Int32} (h : ∀ j e, P j e → Q j e) : ∀ {c i e : Nat}, LSe P T c i e → LSe Q T c i e
  | 0, _, _, z => ⟨z.1, h _ _ z.2⟩
  | _ + 1, _, _, ⟨e', z1, z2, z3⟩ => ⟨e', LSe_mo h z1, z2, h _ _ z3⟩
theorem PNl_6 {a : Nat} (h : PNl un 0 T' a) : ∃ q F, (1 ≤ q ∧ q ≤ 70000) ∧ WN T' FN F 6 O q K (lcW fl un T') (nI a) := by
  obtain ⟨c, e, hc, h1, h2⟩ := h
  obtain ⟨F, w⟩ := LS_6 (FN := FN) (O := O) (K := K) (lc := lcW fl un T') c 0 a e (LSe_mo (fun j e z => PNm_lc z) h1) ⟨1, by rw [h2]; exact WN_end (Or.inr (Or.inr rfl))⟩
  exact ⟨0 + c + 1, F, by omega, w⟩
/-- an iterator: its names (from a on), its exp -/
theorem PJ_of {a j : Nat} (hK : 1 ≤ K - j) (hn : ∀ T', Agr T' un vv b lo 0 → PNl un g T' a) (hF : Frm un vv b 0 b') (hs : LPt FN fl un vw O r K' b.1 b' s) (hvw : vv ≤ vw) (hK2 : K' ≤ K - j) (hr : r ≤ 14) {b2 : BT} (hb : b'.1 < b2.1) (h1 : 1 ≤ lo) (hl : lo ≤ b.1) (hG : ∀ w, Frm un w b' e b2) (he : e < lo) (hA : Agr T' un vw b2 lo top) (ht : b'.1 ≤ top ∨ top = 0) (t6 : T' 6 b'.1 = nI a) (t7 : T' 7 b'.1 = nI s) : PJ FN fl un g O K T' j b'.1 := by
  have f1 := hF.1
  refine ⟨⟨by omega, Nat.lt_of_lt_of_le hb hA.2.2.2.1⟩, hK, ⟨a, t6, hn T' (Agr_g hA (Frm_tr (Frm_wk hF) (hG vv) (Nat.le_refl _) (Or.inl rfl)) hvw h1 (Nat.le_refl _) (Or.inl he) (by omega))⟩, ?_⟩
  rw [t7]
  exact WX_mo (hs.2.2.2.2 T' (Agr_g hA (hG vw) (Nat.le_refl _) h1 hl (Or.inl (by omega)) (by omega))) hK2 (Or.inl ⟨rfl, hr⟩)
theorem LI_1 {a : Nat} (hK : 1 ≤ K) (hn : ∀ T', Agr T' un vv b lo 0 → PNl un g T' a) (hF : Frm un vv b 0 b') (hs : LPt FN fl un vw O r K' b.1 b' s) (hvw : vv ≤ vw) (hK2 : K' ≤ K) (hr : r ≤ 14) (hb : b'.1 < 70000) (h1 : 1 ≤ lo) (hl : lo ≤ b.1) : LL (PJ FN fl un g O K) un vw lo (bNode b' 30 x (nI a) (nI s)) b'.1 b'.1 0 := by
  have f1 := hF.1
  refine ⟨h1, by omega, Nat.lt_succ_self _, nd_t.2.2.2.2.2, fun T' hA => ⟨rfl, ?_⟩⟩
  have nd := nd_at hA (by omega)
  exact PJ_of (e := 0) (j := 0) (b2 := bNode b' 30 x (nI a) (nI s)) hK hn hF hs hvw hK2 hr (Nat.lt_succ_self _) h1 hl (fun w => Frm_node) (by omega) hA (Or.inl (Nat.le_refl _)) nd.2.2.1 nd.2.2.2.1
/-- one more; its names are laid behind lo' -/
theorem LI_x {a v0 : Nat} (h : LL (PJ FN fl un g O K) un v0 lo b i e c) (hK : c + 2 ≤ K) (hF0 : Frm un v0 b 0 b') (hv0 : v0 ≤ vv) (hn : ∀ T', Agr T' un vv b' b.1 0 → PNl un g T' a) (hF : Frm un vv b' 0 b'') (hs : LPt FN fl un vw O r K' b'.1 b'' s) (hvw : vv ≤ vw) (hK2 : K' ≤ K - (c + 1)) (hr : r ≤ 14) (hb : b''.1 < 70000) : LL (PJ FN fl un g O K) un vw lo (bSet (bNode b'' 30 x (nI a) (nI s)) 9 e (nI b''.1)) i b''.1 (c + 1) := by
  have a1 := h.1
  have a2 := h.2.1
  have a3 := h.2.2.1
  have f0 := hF0.1
  have f1 := hF.1
  have g' : ∀ w, Frm un w b'' e (bSet (bNode b'' 30 x (nI a) (nI s)) 9 e (nI b''.1)) := fun w => Frm_tr Frm_node Frm_set9 (Nat.le_refl w) (Or.inl rfl)
  refine LL_app h (Frm_tr (Frm_tr hF0 hF hv0 (Or.inl rfl)) (Frm_node (vv := v0)) (Nat.le_refl _) (Or.inl rfl)) (by omega) (by omega) (Nat.lt_succ_self _) nd_t.2.2.2.2.2 (fun T' hA => ?_)
  have t6 : T' 6 b''.1 = nI a := by rw [hA.1 6 _ (by decide) (by decide) (by omega) (Nat.lt_succ_self _) (by omega), bSet_o (by omega)]; exact nd_t.2.2.1
  have t7 : T' 7 b''.1 = nI s := by rw [hA.1 7 _ (by decide) (by decide) (by omega) (Nat.lt_succ_self _) (by omega), bSet_o (by omega)]; exact nd_t.2.2.2.1
  have hA' : Agr T' un vw (bSet (bNode b'' 30 x (nI a) (nI s)) 9 e (nI b''.1)) b.1 b''.1 := ⟨fun a' j h4 h9 hj hb2 hx => hA.1 a' j h4 h9 (by omega) hb2 hx, hA.2⟩
  exact PJ_of (lo := b.1) (b2 := bSet (bNode b'' 30 x (nI a) (nI s)) 9 e (nI b''.1)) (by omega) hn hF hs hvw hK2 hr (Nat.lt_succ_self _) (by omega) f0 g' a3 hA' (Or.inl (Nat.le_refl _)) t6 t7
/-- iterators of a former -/
theorem PJs_4 (h : LSe (PJ FN fl un 0 O K T') T' c i e) (h9 : T' 9 e = -1) : ∃ F, WN T' FN F 4 O (c + 1) K (lcW fl un T') (nI i) := by
  have h' : LSe (fun j e => PIt T' FN O (K - j) (lcW fl un T') e) T' c i e := LSe_mo (fun j e z => ⟨z.1, z.2.1, by
    obtain ⟨a, t6, hn⟩ := z.2.2.1
    rw [t6]; exact PNl_6 hn, z.2.2.2⟩) h
  have := LS_4 (FN := FN) (O := O) (K := K) c 0 i e h' ⟨1, by rw [h9]; exact WN_end (Or.inr (Or.inl rfl))⟩
  rw [Nat.zero_add] at this
  exact this
end LIS
/-- what is around is as it should be -/
def EnOK (FN : Nat → Nat → Prop) (E : En) : Prop := (∀ x ∈ E.2.1, x.2.2 < 60) ∧ (∀ x ∈ E.1, x.2.2.1 = 1 → x.2.2.2 < 60) ∧ (∀ x ∈ E.1, x.2.2.1 = 2 → FN x.2.2.2 (E.2.2.2.2.2.2 x.2.2.2) ∧ E.2.2.2.2.2.2 x.2.2.2 ≤ 60)
section ENO
variable {FN : Nat → Nat → Prop} {E : En} {ns : List Nm} {bs : List Int32}
theorem EnOK_see (h : EnOK FN E) (hn : ∀ x ∈ ns, x.2.2 < 60) : EnOK FN (seeN E ns) := ⟨fun x hx => by
  rcases List.mem_append.mp (show x ∈ ns ++ E.2.1 from hx) with z | z
  · exact hn x z
  · exact h.1 x z, h.2.1, h.2.2⟩
theorem EnOK_row (h : EnOK FN E) : EnOK FN (rowN E ns) := h
theorem fd_1 (h : EnOK FN E) (h1 : (fd E bs).1 = 1) : (fd E bs).2.1 < 60 ∧ ((fd E bs).2.2 = 0 ∨ ¬ E.2.2.2.1 = 0) := by
  unfold fd at h1 ⊢
  cases hf : E.2.1.find? (fun x => decide (x.1 = bs)) with
  | some x =>
    refine ⟨h.1 x (List.mem_of_find?_eq_some hf), ?_⟩
    show (if E.2.2.2.1 = 0 then (0 : Int32) else 1) = 0 ∨ ¬ E.2.2.2.1 = 0
    by_cases c : E.2.2.2.1 = 0
    · rw [if_pos c]; exact Or.inl rfl
    · exact Or.inr c
  | none =>
    rw [hf] at h1
    cases hg : E.1.find? (fun x => decide (x.1 = bs)) with
    | some x =>
      rw [hg] at h1
      exact ⟨h.2.1 x (List.mem_of_find?_eq_some hg) h1, Or.inl rfl⟩
    | none => rw [hg] at h1; exact absurd (show (0 : Nat) = 1 from h1) (by decide)
theorem fd_2 (h : EnOK FN E) (h1 : (fd E bs).1 = 2) : FN (fd E bs).2.1 (E.2.2.2.2.2.2 (fd E bs).2.1) ∧ E.2.2.2.2.2.2 (fd E bs).2.1 ≤ 60 := by
  unfold fd at h1 ⊢
  cases hf : E.2.1.find? (fun x => decide (x.1 = bs)) with
  | some x => rw [hf] at h1; exact absurd (show (1 : Nat) = 2 from h1) (by decide)
  | none =>
    rw [hf] at h1
    cases hg : E.1.find? (fun x => decide (x.1 = bs)) with
    | some x =>
      rw [hg] at h1
      exact h.2.2 x (List.mem_of_find?_eq_some hg) h1
    | none => rw [hg] at h1; exact absurd (show (0 : Nat) = 2 from h1) (by decide)
end ENO
/-- a number has sixty digits at the most -/
theorem tk_27 {T : Nat → Int32} {n q : Nat} (h : tkK T n q = 27) : tkE T n q - q ≤ 60 := by
  unfold tkK tkE at *
  unfold tokM at *
  by_cases c0 : q = n
  · rw [if_pos c0] at h ⊢; unfold tkc at h; simp at h
  rw [if_neg c0] at h ⊢
  by_cases c1 : isL (rB T n q)
  · rw [if_pos c1] at h
    by_cases d : nameE T n (n + 1) q - q ≤ 16
    · by_cases e : wordI (seg T q (nameE T n (n + 1) q)) = -1
      · simp only [if_pos d, if_pos e] at h; unfold tkc at h; simp at h
      · simp only [if_pos d, if_neg e] at h; unfold tkc at h; simp at h; omega
    · simp only [if_neg d] at h; unfold tkc at h; simp at h
  rw [if_neg c1] at h ⊢
  by_cases c2 : isD (rB T n q)
  · rw [if_pos c2] at h ⊢
    by_cases d : digE T n (n + 1) q - q ≤ 60
    · exact d
    · simp only [if_neg d] at h; unfold tkc at h; simp at h
  rw [if_neg c2] at h ⊢
  by_cases c3 : rB T n q = 34
  · rw [if_pos c3] at h
    by_cases d : (strE T n (n + 1) (q + 1) < n ∧ T (strE T n (n + 1) (q + 1)) = 34) ∧ strE T n (n + 1) (q + 1) - q - 1 ≤ 100
    · simp only [if_pos d] at h; unfold tkc at h; simp at h
    · simp only [if_neg d] at h; unfold tkc at h; simp at h
  rw [if_neg c3] at h ⊢
  dsimp only at *
  by_cases d : signF (rB T n q) (rB T n (q + 1)) = 1 ∨ signF (rB T n q) (rB T n (q + 1)) = 5 ∨ signF (rB T n q) (rB T n (q + 1)) = 16 ∨ signF (rB T n q) (rB T n (q + 1)) = 18 ∨ signF (rB T n q) (rB T n (q + 1)) = 20 ∨ signF (rB T n q) (rB T n (q + 1)) = 22
  · rw [if_pos d]; omega
  · rw [if_neg d]; omega
