/-! The class: exps are read as the grammar says. -/
section CWE
variable {σ0 τ : CS} {L : LV} {b : Bool} {T : Nat → Int32} {n q q0 q1 v0 u al o v mk p sz a1 a2 f F e o0 ls lv l lJ B BI i e0 nt ntI : Nat} {cs : List Int32} {tb : List Ent} {C : Prop} {E : En} {gl : Nat × (Nat → Nat → Prop)} {Vm : Nat → Prop} {bt : BT} {xF x : Option RT} {s S' S : List Wt}
/-- what may stand behind operands of a level -/
def Nxk (l : Nat) (s : List Wt) (k : Nat) : Prop := kl k ≤ l ∨ (kl k = 4 ∧ l ≤ 3 ∧ RlT s)
/-- whether it is a variable with its parts -/
def Tgq (T : Nat → Int32) (n u p : Nat) (gl : Nat × (Nat → Nat → Prop)) (Vm : Nat → Prop) (tb : List Ent) (sz mk q0 q i : Nat) (S' : List Wt) (cs : List Int32) (τ : CS) : Prop := (i = 0 ∨ ¬ q = q0 → ¬ τ.1 4016 = nI q0) ∧ (¬ i = 0 → S' = []) ∧ (¬ i = 0 ∧ q = q0 → TgI T n u p gl Vm tb q0 sz mk cs i τ)
/-- how it goes on behind an operand -/
def CxK (T : Nat → Int32) (n : Nat) (b : Bool) (u al : Nat) (σ0 : CS) (tb : List Ent) (gl : Nat × (Nat → Nat → Prop)) (Vm : Nat → Prop) (o0 mk p sz q0 v0 : Nat) (E : En) (xF : Option RT) (ls e l q : Nat) (x : Option RT) (S : List Wt) : Prop := (x = none → xF = none) ∧ ∀ r, x = some r → ∀ (S' : List Wt) (cs' : List Int32) (n1 n2 : Nat) (L' : LV) (τ' : CS), AfS T n b u al σ0 tb gl Vm o0 mk p sz q0 v0 ls n1 n2 (S' ++ S) r.1 r.2.1 cs' L' τ' → (∀ e, e ∈ S' → l ≤ e.1) → Nxk l (S' ++ S) (tkK T n r.1) → Tgq T n u p gl Vm tb sz mk q0 q r.2.2.1 S' cs' τ' → Tm (fun k => AfT e L' τ' k) (Xq T n b u al σ0 tb gl Vm o0 mk p sz q0 v0 xF n1 n2)
/-- an operand of the grammar -/
def CX (T : Nat → Int32) (n : Nat) (b : Bool) (u al : Nat) (σ0 : CS) (tb : List Ent) (gl : Nat × (Nat → Nat → Prop)) (Vm : Nat → Prop) (o0 mk p sz q0 v0 : Nat) (E : En) (xF : Option RT) (ls e f nt l B : Nat) : Prop := ls ≤ l → ∀ (q v : Nat) (bt : BT) (x : Option RT) (S : List Wt) (cs : List Int32) (a1 a2 : Nat) (L : LV) (τ : CS), G T n f nt E (o0 + wO S) q v 0 0 0 0 bt = some x → HdS T n b u al σ0 tb gl Vm o0 mk p sz q0 v0 ls a1 a2 S q v cs L τ → ((nt ≤ 4 → topL ls S ≤ 2) ∧ (5 ≤ nt → tkK T n q = 66 → ¬ topL ls S ≤ 2)) → (∀ e s, S = e :: s → e.1 < B) → CxK T n b u al σ0 tb gl Vm o0 mk p sz q0 v0 E xF ls e l q x S → Tm (fun k => f_F2 k (e + 6) 1 3 L τ) (Xq T n b u al σ0 tb gl Vm o0 mk p sz q0 v0 xF a1 a2)
/-- what comes behind one -/
def CL (T : Nat → Int32) (n : Nat) (b : Bool) (u al : Nat) (σ0 : CS) (tb : List Ent) (gl : Nat × (Nat → Nat → Prop)) (Vm : Nat → Prop) (o0 mk p sz q0 v0 : Nat) (E : En) (xF : Option RT) (ls e f nt l lJ B : Nat) : Prop := ls ≤ l → ∀ (q1 q v i e0 : Nat) (bt : BT) (x : Option RT) (S' S : List Wt) (cs : List Int32) (a1 a2 : Nat) (L : LV) (τ : CS), G T n f nt E (o0 + wO S) q v i e0 0 0 bt = some x → AfS T n b u al σ0 tb gl Vm o0 mk p sz q0 v0 ls a1 a2 (S' ++ S) q v cs L τ → (∀ e, e ∈ S' → l ≤ e.1) → Nxk lJ (S' ++ S) (tkK T n q) → Tgq T n u p gl Vm tb sz mk q0 q1 i S' cs τ → (∀ e s, S = e :: s → e.1 < B) → CxK T n b u al σ0 tb gl Vm o0 mk p sz q0 v0 E xF ls e l q1 x S → Tm (fun k => AfT e L τ k) (Xq T n b u al σ0 tb gl Vm o0 mk p sz q0 v0 xF a1 a2)
theorem RlT_as {w : Wt} (h : RlT (S' ++ w :: S)) : RlT (S' ++ [w] ++ S) := by
  rw [List.append_assoc]; exact h
theorem Nxk_as {w : Wt} {k : Nat} (h : Nxk l (S' ++ w :: S) k) : Nxk l (S' ++ [w] ++ S) k := by
  rw [List.append_assoc]; exact h
theorem AfS_as {w : Wt} (h : AfS T n b u al σ0 tb gl Vm o0 mk p sz q0 v0 ls a1 a2 (S' ++ w :: S) q v cs L τ) : AfS T n b u al σ0 tb gl Vm o0 mk p sz q0 v0 ls a1 a2 (S' ++ [w] ++ S) q v cs L τ := by
  rw [List.append_assoc]; exact h
theorem mem_as {w : Wt} (h : ∀ e, e ∈ S' → l ≤ e.1) (hw : l ≤ w.1) : ∀ e, e ∈ S' ++ [w] → l ≤ e.1 := fun e he => by
  rcases List.mem_append.1 he with z | z
  · exact h e z
  · rw [List.mem_singleton.1 z]; exact hw
/-- behind an operator there is no target any more -/
theorem Tgq_0 {q2 : Nat} {S2 : List Wt} (h : Tgq T n u p gl Vm tb sz mk q0 q2 i S' cs τ) (ne : ¬ q2 = q0) : Tgq T n u p gl Vm tb sz mk q0 q1 0 S2 cs τ := ⟨fun _ => h.1 (Or.inr ne), fun z => absurd rfl z, fun z => absurd rfl z.1⟩
/-- rows of operators: or, and, sums, terms -/
theorem cl_gen {tok : Prop} {_ : Decidable tok} {bb : RT → BT} (xb : XB n o0 q0 v0 mk p sz tb.length ls e) (ihI : CX T n b u al σ0 tb gl Vm o0 mk p sz q0 v0 E xF ls e f ntI lJ BI) (ihL : CL T n b u al σ0 tb gl Vm o0 mk p sz q0 v0 E xF ls e f nt l lJ l) (hl : (l = 0 ∧ lJ = 1 ∧ ntI = 2 ∧ BI = 1) ∨ (l = 1 ∧ lJ = 2 ∧ ntI = 4 ∧ BI = 3) ∨ (l = 4 ∧ lJ = 5 ∧ ntI = 8 ∧ BI = 5) ∨ (l = 5 ∧ lJ = 6 ∧ ntI = 10 ∧ BI = 7)) (hls : ls ≤ l) (hG : (if tok then gT T n q (fun q1 => gb (G T n f ntI E (o0 + wO S) q1 v 0 0 0 0 bt) (fun r => G T n f nt E (o0 + wO S) r.1 r.2.1 0 r.2.2.2.2.1.1 0 0 (bb r))) else some (some (q, v, i, e0, bt, []))) = some x) (ht : tok → kl (tkK T n q) = l + 1) (hno : ¬ tok → ¬ kl (tkK T n q) = lJ) (af : AfS T n b u al σ0 tb gl Vm o0 mk p sz q0 v0 ls a1 a2 (S' ++ S) q v cs L τ) (ha : ∀ e, e ∈ S' → l ≤ e.1) (nx : Nxk lJ (S' ++ S) (tkK T n q)) (tg : Tgq T n u p gl Vm tb sz mk q0 q1 i S' cs τ) (hb : ∀ e s, S = e :: s → e.1 < l) (ck : CxK T n b u al σ0 tb gl Vm o0 mk p sz q0 v0 E xF ls e l q1 x S) : Tm (fun k => AfT e L τ k) (Xq T n b u al σ0 tb gl Vm o0 mk p sz q0 v0 xF a1 a2) := by
  have sp : spL l = l := by unfold spL; rw [if_neg (by omega)]
  by_cases c : tok
  · rw [if_pos c] at hG
    have k1 := ht c
    have go := tk_go af.1.1.1.1
    have g1 := go.2.2 (kl_25 (by omega))
    have q0l := af.2.1.2.2.1
    refine st_opr (lv := l) S' S xb af k1 hls (by rw [sp]; exact ha) (by rw [sp]; exact hb) (fun z => by omega) (C := gb (G T n f ntI E (o0 + wO S) (tkN T n q) v 0 0 0 0 bt) (fun r => G T n f nt E (o0 + wO S) r.1 r.2.1 0 r.2.2.2.2.1.1 0 0 (bb r)) = some x) ?_ (fun hc op mo ca n1 n2 L2 τ2 hd => ?_)
    · rcases gT_any hG with ⟨w1, w2⟩ | ⟨w1, w2⟩
      · exact Or.inl ⟨fun z => z.2 w1, ck.1 w2⟩
      · exact Or.inr ⟨⟨fun z => by omega, w1⟩, w2⟩
    · have wo : wO ((l, op, mo) :: S) = wO S := wO_n (by show ¬ (l = 2 ∨ 6 ≤ l); omega)
      obtain ⟨z, hz⟩ := gb_some hc
      refine ihI (by omega) (tkN T n q) v bt z ((l, op, mo) :: S) ca n1 n2 L2 τ2 (by rw [wo]; exact hz) hd ⟨fun _ => by show l ≤ 2; omega, fun h5 _ => by show ¬ l ≤ 2; omega⟩ (fun e s y => by cases y; show l < BI; omega) ⟨fun zn => ?_, fun r zr S2 cb m1 m2 L3 τ3 af3 h3 nx3 tg3 => ?_⟩
      · rcases gb_any hc with ⟨y1, y2⟩ | ⟨r, y1, y2⟩
        · exact ck.1 y2
        · rw [hz, zn] at y1; cases y1
      · rcases gb_any hc with ⟨y1, y2⟩ | ⟨r', y1, y2⟩
        · rw [hz, zr] at y1; cases y1
        · rw [hz, zr] at y1
          cases y1
          exact ihL hls q1 r.1 r.2.1 0 _ _ x (S2 ++ [(l, op, mo)]) S cb m1 m2 L3 τ3 y2 (AfS_as af3) (mem_as (fun e he => by have := h3 e he; omega) (Nat.le_refl _)) (Nxk_as nx3) (Tgq_0 tg3 (by omega)) hb ck
  · rw [if_neg c] at hG
    cases hG
    refine ck.2 _ rfl S' cs a1 a2 L τ af ha ?_ tg
    rcases nx with z | z
    · have := hno c
      exact Or.inl (by show kl (tkK T n q) ≤ l; omega)
    · exact Or.inr ⟨z.1, by omega, z.2.2⟩
theorem cx_gen (ihI : CX T n b u al σ0 tb gl Vm o0 mk p sz q0 v0 E xF ls e f ntI lJ BI) (ihL : CL T n b u al σ0 tb gl Vm o0 mk p sz q0 v0 E xF ls e f nt l lJ l) (hl : (l = 0 ∧ lJ = 1 ∧ ntI = 2 ∧ BI = 1) ∨ (l = 1 ∧ lJ = 2 ∧ ntI = 4 ∧ BI = 3) ∨ (l = 4 ∧ lJ = 5 ∧ ntI = 8 ∧ BI = 5) ∨ (l = 5 ∧ lJ = 6 ∧ ntI = 10 ∧ BI = 7)) (hls : ls ≤ l) (hG : gb (G T n f ntI E (o0 + wO S) q v 0 0 0 0 bt) (fun r => G T n f nt E (o0 + wO S) r.1 r.2.1 r.2.2.1 r.2.2.2.1 0 0 r.2.2.2.2.1) = some x) (hd : HdS T n b u al σ0 tb gl Vm o0 mk p sz q0 v0 ls a1 a2 S q v cs L τ) (ht : (ntI ≤ 4 → topL ls S ≤ 2) ∧ (5 ≤ ntI → tkK T n q = 66 → ¬ topL ls S ≤ 2)) (hb : ∀ e s, S = e :: s → e.1 < l) (ck : CxK T n b u al σ0 tb gl Vm o0 mk p sz q0 v0 E xF ls e l q x S) : Tm (fun k => f_F2 k (e + 6) 1 3 L τ) (Xq T n b u al σ0 tb gl Vm o0 mk p sz q0 v0 xF a1 a2) := by
  obtain ⟨z, hz⟩ := gb_some hG
  refine ihI (by omega) q v bt z S cs a1 a2 L τ hz hd ht (fun e s y => by have := hb e s y; omega) ⟨fun zn => ?_, fun r zr S2 cb m1 m2 L3 τ3 af3 h3 nx3 tg3 => ?_⟩
  · rcases gb_any hG with ⟨y1, y2⟩ | ⟨r, y1, y2⟩
    · exact ck.1 y2
    · rw [hz, zn] at y1; cases y1
  · rcases gb_any hG with ⟨y1, y2⟩ | ⟨r', y1, y2⟩
    · rw [hz, zr] at y1; cases y1
    · rw [hz, zr] at y1
      cases y1
      exact ihL hls q r.1 r.2.1 _ _ _ x S2 S cb m1 m2 L3 τ3 y2 af3 (fun e he => by have := h3 e he; omega) nx3 tg3 hb ck
theorem kl_no {k : Nat} : (¬ k = 65 → ¬ kl k = 1) ∧ (¬ k = 64 → ¬ kl k = 2) ∧ (¬ isRl k → ¬ kl k = 4) ∧ (¬ (k = 2 ∨ k = 3) → ¬ kl k = 5) ∧ (¬ (k = 4 ∨ k = 67 ∨ k = 68) → ¬ kl k = 6) ∧ (¬ k = 5 → ¬ kl k = 7) := by
  unfold kl
  by_cases c1 : k = 65
  · rw [if_pos c1]; exact ⟨fun z => absurd c1 z, fun _ => by decide, fun _ => by decide, fun _ => by decide, fun _ => by decide, fun _ => by decide⟩
  rw [if_neg c1]
  by_cases c2 : k = 64
  · rw [if_pos c2]; exact ⟨fun _ => by decide, fun z => absurd c2 z, fun _ => by decide, fun _ => by decide, fun _ => by decide, fun _ => by decide⟩
  rw [if_neg c2]
  by_cases c3 : isRl k
  · rw [if_pos c3]; exact ⟨fun _ => by decide, fun _ => by decide, fun z => absurd c3 z, fun _ => by decide, fun _ => by decide, fun _ => by decide⟩
  rw [if_neg c3]
  by_cases c4 : k = 2 ∨ k = 3
  · rw [if_pos c4]; exact ⟨fun _ => by decide, fun _ => by decide, fun _ => by decide, fun z => absurd c4 z, fun _ => by decide, fun _ => by decide⟩
  rw [if_neg c4]
  by_cases c5 : k = 4 ∨ k = 67 ∨ k = 68
  · rw [if_pos c5]; exact ⟨fun _ => by decide, fun _ => by decide, fun _ => by decide, fun _ => by decide, fun z => absurd c5 z, fun _ => by decide⟩
  rw [if_neg c5]
  by_cases c6 : k = 5
  · rw [if_pos c6]; exact ⟨fun _ => by decide, fun _ => by decide, fun _ => by decide, fun _ => by decide, fun _ => by decide, fun z => absurd c6 z⟩
  rw [if_neg c6]; exact ⟨fun _ => by decide, fun _ => by decide, fun _ => by decide, fun _ => by decide, fun _ => by decide, fun _ => by decide⟩
theorem kl_rl {k : Nat} (h : isRl k) : kl k = 4 := by
  unfold kl
  rw [if_neg (by intro z; rw [z] at h; omega), if_neg (by intro z; rw [z] at h; omega), if_pos h]
/-- a prefix is taken: a call that leaves one more that waits -/
theorem st_pfx {w : Wt} {z : Option Nat} (xb : XB n o0 q0 v0 mk p sz tb.length ls e) (hd : HdS T n b u al σ0 tb gl Vm o0 mk p sz q0 v0 ls a1 a2 S q v cs L τ) (hw : (w.1 = 2 ∧ w.2.1 = 9) ∨ w.1 = 7) (h112 : w.2.1 = 112 → ∀ q2, z = some q2 → q + 2 ≤ q2) (h1 : ∀ q2, z = some q2 → q + 1 ≤ q2) (t : Tm (fun k => f_X5_prefix k 0 (lI (lI lZ 1 (L.1 2)) 2 (L.1 1)) τ) (QPo b u tb.length sz mk z (fun q' ret τ' => ret = 1 ∧ WQ T n b u al tb gl Vm o0 mk p sz (w :: S) q' v cs 0 τ') σ0 a1 a2)) (hn : z = none → xF = none) (cont : ∀ q2, z = some q2 → ∀ (n1 n2 : Nat) (L' : LV) (τ' : CS), HdS T n b u al σ0 tb gl Vm o0 mk p sz q0 v0 ls n1 n2 (w :: S) q2 v cs L' τ' → Tm (fun k => f_F2 k (e + 6) 1 3 L' τ') (Xq T n b u al σ0 tb gl Vm o0 mk p sz q0 v0 xF n1 n2)) : Tm (fun k => f_F2 k (e + 6) 1 3 L τ) (Xq T n b u al σ0 tb gl Vm o0 mk p sz q0 v0 xF a1 a2) := by
  obtain ⟨wa, ⟨c1, c2, c3, c4⟩, ⟨l1, l2, l5⟩, ⟨k0, l6, k6⟩, i0, l4, i4⟩ := hd
  have o20 := wa.1.1.1.2.2.2.2.2.1.2
  have wy : wO (w :: S) = wO S + 1 := wO_y (by omega)
  refine Tm_suc (fun k => ep_3 k _ _ _) ?_
  refine Tm_no ?_ ?_
  · rw [l6]
    show ¬ nI 20 < nI k0
    rw [n_lt (by decide) (by omega)]; omega
  refine Tm_no (by rw [l5]; decide) ?_
  refine st_callB t ?_
  rcases z with _ | q2
  · exact Or.inl ⟨rfl, hn rfl⟩
  refine Or.inr ⟨q2, rfl, fun τ' ret n1 n2 hr xk hc => ?_⟩
  obtain ⟨hr1, wq⟩ := hr
  have hq := h1 q2 rfl
  refine cont q2 rfl _ _ _ τ' ⟨WQ_a wq xk hc, ⟨?_, ?_, by omega, c4⟩, ⟨l1, l2, hr1⟩, ⟨k0 + 1, ?_, by omega⟩, i0, l4, by omega⟩
  · by_cases c : w.2.1 = 112
    · have := h112 c q2 rfl
      rw [wP_y c]; omega
    · rw [wP_n c]; omega
  · rw [wU_y (by omega)]; omega
  · show L.1 6 + 1 = _
    rw [l6, n_add1]
/-- the induction: all operands of the grammar -/
theorem cx_all (xb : XB n o0 q0 v0 mk p sz tb.length ls e) (px : ∀ f', f' < F → ∀ e', PXp T n b u al f' e') (ev : EvX E b u al gl Vm tb σ0) : ∀ f, f ≤ F → ((CX T n b u al σ0 tb gl Vm o0 mk p sz q0 v0 E xF ls e f 0 0 0 ∧ CX T n b u al σ0 tb gl Vm o0 mk p sz q0 v0 E xF ls e f 2 1 1 ∧ CX T n b u al σ0 tb gl Vm o0 mk p sz q0 v0 E xF ls e f 4 2 3 ∧ CX T n b u al σ0 tb gl Vm o0 mk p sz q0 v0 E xF ls e f 5 3 3) ∧ (CX T n b u al σ0 tb gl Vm o0 mk p sz q0 v0 E xF ls e f 6 4 4 ∧ CX T n b u al σ0 tb gl Vm o0 mk p sz q0 v0 E xF ls e f 8 5 5 ∧ CX T n b u al σ0 tb gl Vm o0 mk p sz q0 v0 E xF ls e f 10 6 7 ∧ CX T n b u al σ0 tb gl Vm o0 mk p sz q0 v0 E xF ls e f 11 7 8)) ∧ (CL T n b u al σ0 tb gl Vm o0 mk p sz q0 v0 E xF ls e f 1 0 1 0 ∧ CL T n b u al σ0 tb gl Vm o0 mk p sz q0 v0 E xF ls e f 3 1 2 1 ∧ CL T n b u al σ0 tb gl Vm o0 mk p sz q0 v0 E xF ls e f 7 4 5 4 ∧ CL T n b u al σ0 tb gl Vm o0 mk p sz q0 v0 E xF ls e f 9 5 6 5) := by
  intro f
  induction f with
  | zero =>
    intro _
    refine ⟨⟨⟨?_, ?_, ?_, ?_⟩, ?_, ?_, ?_, ?_⟩, ?_, ?_, ?_, ?_⟩
    · intro _ q v bt x S cs a1 a2 L τ hG; cases hG
    · intro _ q v bt x S cs a1 a2 L τ hG; cases hG
    · intro _ q v bt x S cs a1 a2 L τ hG; cases hG
    · intro _ q v bt x S cs a1 a2 L τ hG; cases hG
    · intro _ q v bt x S cs a1 a2 L τ hG; cases hG
    · intro _ q v bt x S cs a1 a2 L τ hG; cases hG
    · intro _ q v bt x S cs a1 a2 L τ hG; cases hG
    · intro _ q v bt x S cs a1 a2 L τ hG; cases hG
    · intro _ q1 q v i e0 bt x S' S cs a1 a2 L τ hG; cases hG
    · intro _ q1 q v i e0 bt x S' S cs a1 a2 L τ hG; cases hG
    · intro _ q1 q v i e0 bt x S' S cs a1 a2 L τ hG; cases hG
    · intro _ q1 q v i e0 bt x S' S cs a1 a2 L τ hG; cases hG
  | succ f ih =>
    intro hF
    obtain ⟨⟨⟨i0, i2, i4, i5⟩, i6, i8, i10, i11⟩, j1, j3, j7, j9⟩ := ih (by omega)
    refine ⟨⟨⟨?_, ?_, ?_, ?_⟩, ?_, ?_, ?_, ?_⟩, ?_, ?_, ?_, ?_⟩
    · intro hls q v bt x S cs a1 a2 L τ hG hd ht hb ck
      rw [G_0] at hG
      exact cx_gen i2 j1 (Or.inl ⟨rfl, rfl, rfl, rfl⟩) hls hG hd ⟨fun _ => ht.1 (by decide), fun z => absurd z (by decide)⟩ hb ck
    · intro hls q v bt x S cs a1 a2 L τ hG hd ht hb ck
      rw [G_2] at hG
      exact cx_gen i4 j3 (Or.inr (Or.inl ⟨rfl, rfl, rfl, rfl⟩)) hls hG hd ⟨fun _ => ht.1 (by decide), fun z => absurd z (by decide)⟩ hb ck
    · intro hls q v bt x S cs a1 a2 L τ hG hd ht hb ck
      rw [G_4] at hG
      by_cases k66 : tkK T n q = 66
      · rw [if_pos k66] at hG
        have wa := hd.1
        have g1 := (tk_go wa.1.1.1).2.2 (by omega)
        have q0l := hd.2.1.2.2.1
        have hm : mk + 3 * S.length + 3 ≤ 21504 := by
          have w1 := w_cnt S
          have w2 := hd.2.1.2.1
          have w3 := wa.1.1.1.2.2.2.2.2.1.2
          have w4 := (tk_go wa.1.1.1).1
          have w5 := xb.1.1
          have w6 := xb.1.2.2.1
          omega
        rcases gOT_any hG with ⟨w1, w2⟩ | ⟨w1, w2⟩
        · exact st_pfx xb hd (Or.inl ⟨rfl, rfl⟩) (fun z => absurd z (by decide)) (fun _ z => by cases z) (c_pfNot wa hm (by have := xb.2.1; omega) hd.2.2.1.2.1 hd.2.2.1.1 k66 (ht.1 (by decide)) (Or.inl ⟨w1, rfl⟩)) (fun _ => ck.1 w2) (fun _ z => by cases z)
        · refine st_pfx xb hd (Or.inl ⟨rfl, rfl⟩) (fun z => absurd z (by decide)) (fun _ z => by cases z; omega) (c_pfNot wa hm (by have := xb.2.1; omega) hd.2.2.1.2.1 hd.2.2.1.1 k66 (ht.1 (by decide)) (Or.inr ⟨w1, rfl⟩)) (fun z => by cases z) (fun q2 z n1 n2 L2 τ2 hd2 => ?_)
          cases z
          have wo : wO ((2, 9, 0) :: S) = wO S + 1 := wO_y (Or.inl rfl)
          obtain ⟨z, hz⟩ := gb_some w2
          refine i4 hls (tkN T n q) v bt z ((2, 9, 0) :: S) cs n1 n2 L2 τ2 (by rw [wo]; exact hz) hd2 ⟨fun _ => Nat.le_refl _, fun z => absurd z (by decide)⟩ (fun e s y => by cases y; decide) ⟨fun zn => ?_, fun r zr S2 cb m1 m2 L3 τ3 af3 h3 nx3 tg3 => ?_⟩
          · rcases gb_any w2 with ⟨y1, y2⟩ | ⟨r, y1, y2⟩
            · exact ck.1 y2
            · rw [hz, zn] at y1; cases y1
          · rcases gb_any w2 with ⟨y1, y2⟩ | ⟨r', y1, y2⟩
            · rw [hz, zr] at y1; cases y1
            · rw [hz, zr] at y1
              cases y1
              cases y2
              exact ck.2 _ rfl (S2 ++ [(2, 9, 0)]) cb m1 m2 L3 τ3 (AfS_as af3) (mem_as h3 (Nat.le_refl _)) (Nxk_as nx3) (Tgq_0 tg3 (by omega))
      · rw [if_neg k66] at hG
        refine i5 (by omega) q v bt x S cs a1 a2 L τ hG hd ⟨fun z => absurd z (by decide), fun _ z => absurd z k66⟩ hb ⟨ck.1, fun r zr S2 cb m1 m2 L3 τ3 af3 h3 nx3 tg3 => ck.2 r zr S2 cb m1 m2 L3 τ3 af3 (fun e he => by have := h3 e he; omega) ?_ tg3⟩
        rcases nx3 with z | z
        · have := (kl_b (tkK T n r.1)).2
          exact Or.inl (by omega)
        · exact Or.inr ⟨z.1, by decide, z.2.2⟩
    · intro hls q v bt x S cs a1 a2 L τ hG hd ht hb ck
      rw [G_5] at hG
      obtain ⟨z, hz⟩ := gb_some hG
      have q0l := hd.2.1.2.2.1
      refine i6 (by omega) q v bt z S cs a1 a2 L τ hz hd ⟨fun z => absurd z (by decide), fun _ => ht.2 (by decide)⟩ (fun e s y => by have := hb e s y; omega) ⟨fun zn => ?_, fun r zr S2 cb m1 m2 L3 τ3 af3 h3 nx3 tg3 => ?_⟩
      · rcases gb_any hG with ⟨y1, y2⟩ | ⟨r, y1, y2⟩
        · exact ck.1 y2
        · rw [hz, zn] at y1; cases y1
      rcases gb_any hG with ⟨y1, y2⟩ | ⟨r', y1, y2⟩
      · rw [hz, zr] at y1; cases y1
      rw [hz, zr] at y1
      cases y1
      by_cases c : isRl (tkK T n r.1)
      · rw [if_pos c] at y2
        have k4 := kl_rl c
        have g1 := (tk_go af3.1.1.1.1).2.2 (kl_25 (by omega))
        have q0l3 := af3.2.1.2.2.1
        have sp : spL 3 = 4 := rfl
        refine st_opr (lv := 3) S2 S xb af3 k4 hls (by rw [sp]; exact h3) (by rw [sp]; exact fun e s y => by have := hb e s y; omega) (fun _ e s y => by have := hb e s y; omega) (C := gb (G T n f 6 E (o0 + wO S) (tkN T n r.1) r.2.1 0 0 0 0 r.2.2.2.2.1) (fun s => some (some (s.1, s.2.1, 0, s.2.2.2.2.1.1, bOver s.2.2.2.2.1 16 (opr (tkK T n r.1)) r.2.2.2.1 (nI s.2.2.2.1), []))) = some x) ?_ (fun hc op mo ca n1 n2 L4 τ4 hd4 => ?_)
        · rcases gT_any y2 with ⟨w1, w2⟩ | ⟨w1, w2⟩
          · exact Or.inl ⟨fun z => z.2 w1, ck.1 w2⟩
          · exact Or.inr ⟨⟨fun z => by omega, w1⟩, w2⟩
        · have wo : wO ((3, op, mo) :: S) = wO S := wO_n (by show ¬ (3 = 2 ∨ 6 ≤ 3); decide)
          obtain ⟨z4, hz4⟩ := gb_some hc
          refine i6 (by omega) (tkN T n r.1) r.2.1 _ z4 ((3, op, mo) :: S) ca n1 n2 L4 τ4 (by rw [wo]; exact hz4) hd4 ⟨fun z => absurd z (by decide), fun _ _ => by show ¬ 3 ≤ 2; decide⟩ (fun e s y => by cases y; show 3 < 4; decide) ⟨fun zn => ?_, fun r5 zr5 S5 cb5 p1 p2 L5 τ5 af5 h5 nx5 tg5 => ?_⟩
          · rcases gb_any hc with ⟨w1, w2⟩ | ⟨r, w1, w2⟩
            · exact ck.1 w2
            · rw [hz4, zn] at w1; cases w1
          · rcases gb_any hc with ⟨w1, w2⟩ | ⟨r', w1, w2⟩
            · rw [hz4, zr5] at w1; cases w1
            · rw [hz4, zr5] at w1
              cases w1
              cases w2
              refine ck.2 _ rfl (S5 ++ [(3, op, mo)]) cb5 p1 p2 L5 τ5 (AfS_as af5) (mem_as (fun e he => by have := h5 e he; omega) (Nat.le_refl _)) (Nxk_as ?_) (Tgq_0 tg5 (by omega))
              rcases nx5 with z | z
              · by_cases c4 : kl (tkK T n r5.1) = 4
                · exact Or.inr ⟨c4, by decide, S5, (3, op, mo), S, rfl, h5, rfl⟩
                · exact Or.inl (by show kl (tkK T n r5.1) ≤ 3; omega)
              · exact absurd z.2.1 (by decide)
      · rw [if_neg c] at y2
        cases y2
        refine ck.2 _ rfl S2 cb m1 m2 L3 τ3 af3 (fun e he => by have := h3 e he; omega) ?_ tg3
        rcases nx3 with z | z
        · have := kl_no.2.2.1 c
          exact Or.inl (by show kl (tkK T n r.1) ≤ 3; omega)
        · exact absurd z.2.1 (by decide)
    · intro hls q v bt x S cs a1 a2 L τ hG hd ht hb ck
      rw [G_6] at hG
      exact cx_gen i8 j7 (Or.inr (Or.inr (Or.inl ⟨rfl, rfl, rfl, rfl⟩))) hls hG hd ⟨fun z => absurd z (by decide), fun _ => ht.2 (by decide)⟩ hb ck
    · intro hls q v bt x S cs a1 a2 L τ hG hd ht hb ck
      rw [G_8] at hG
      exact cx_gen i10 j9 (Or.inr (Or.inr (Or.inr ⟨rfl, rfl, rfl, rfl⟩))) hls hG hd ⟨fun z => absurd z (by decide), fun _ => ht.2 (by decide)⟩ hb ck
    · intro hls q v bt x S cs a1 a2 L τ hG hd ht hb ck
      rw [G_10] at hG
      obtain ⟨z, hz⟩ := gb_some hG
      have q0l := hd.2.1.2.2.1
      refine i11 (by omega) q v bt z S cs a1 a2 L τ hz hd ⟨fun z => absurd z (by decide), fun _ => ht.2 (by decide)⟩ (fun e s y => by have := hb e s y; omega) ⟨fun zn => ?_, fun r zr S2 cb m1 m2 L3 τ3 af3 h3 nx3 tg3 => ?_⟩
      · rcases gb_any hG with ⟨y1, y2⟩ | ⟨r, y1, y2⟩
        · exact ck.1 y2
        · rw [hz, zn] at y1; cases y1
      rcases gb_any hG with ⟨y1, y2⟩ | ⟨r', y1, y2⟩
      · rw [hz, zr] at y1; cases y1
      rw [hz, zr] at y1
      cases y1
      by_cases c : tkK T n r.1 = 5
      · rw [if_pos c] at y2
        have k7 : kl (tkK T n r.1) = 7 := by rw [c]; decide
        have g1 := (tk_go af3.1.1.1.1).2.2 (by omega)
        have q0l3 := af3.2.1.2.2.1
        have sp : spL 6 = 7 := rfl
        refine st_opr (lv := 6) S2 S xb af3 k7 hls (by rw [sp]; exact h3) (by rw [sp]; exact hb) (fun z => absurd z (by decide)) (C := gb (G T n f 10 E (o0 + wO S + 1) (tkN T n r.1) r.2.1 0 0 0 0 r.2.2.2.2.1) (fun s => some (some (s.1, s.2.1, 0, s.2.2.2.2.1.1, bOver s.2.2.2.2.1 16 5 r.2.2.2.1 (nI s.2.2.2.1), []))) = some x) ?_ (fun hc op mo ca n1 n2 L4 τ4 hd4 => ?_)
        · rcases gOT_any y2 with ⟨w1, w2⟩ | ⟨w1, w2⟩
          · exact Or.inl ⟨fun z => w1 ⟨z.1 rfl, z.2⟩, ck.1 w2⟩
          · exact Or.inr ⟨⟨fun _ => w1.1, w1.2⟩, w2⟩
        · have wo : wO ((6, op, mo) :: S) = wO S + 1 := wO_y (Or.inr (Nat.le_refl 6))
          obtain ⟨z4, hz4⟩ := gb_some hc
          refine i10 hls (tkN T n r.1) r.2.1 _ z4 ((6, op, mo) :: S) ca n1 n2 L4 τ4 (by rw [wo]; exact hz4) hd4 ⟨fun z => absurd z (by decide), fun _ _ => by show ¬ 6 ≤ 2; decide⟩ (fun e s y => by cases y; show 6 < 7; decide) ⟨fun zn => ?_, fun r5 zr5 S5 cb5 p1 p2 L5 τ5 af5 h5 nx5 tg5 => ?_⟩
          · rcases gb_any hc with ⟨w1, w2⟩ | ⟨r, w1, w2⟩
            · exact ck.1 w2
            · rw [hz4, zn] at w1; cases w1
          · rcases gb_any hc with ⟨w1, w2⟩ | ⟨r', w1, w2⟩
            · rw [hz4, zr5] at w1; cases w1
            · rw [hz4, zr5] at w1
              cases w1
              cases w2
              exact ck.2 _ rfl (S5 ++ [(6, op, mo)]) cb5 p1 p2 L5 τ5 (AfS_as af5) (mem_as h5 (Nat.le_refl _)) (Nxk_as nx5) (Tgq_0 tg5 (by omega))
      · rw [if_neg c] at y2
        cases y2
        refine ck.2 _ rfl S2 cb m1 m2 L3 τ3 af3 (fun e he => by have := h3 e he; omega) ?_ tg3
        rcases nx3 with z | z
        · have := kl_no.2.2.2.2.2 c
          exact Or.inl (by show kl (tkK T n r.1) ≤ 6; omega)
        · exact absurd z.2.1 (by decide)
    · intro hls q v bt x S cs a1 a2 L τ hG hd ht hb ck
      have wa := hd.1
      have go := tk_go wa.1.1.1
      have q0l := hd.2.1.2.2.1
      have hm : mk + 3 * S.length + 3 ≤ 21504 := by
        have w1 := w_cnt S
        have w2 := hd.2.1.2.1
        have w3 := wa.1.1.1.2.2.2.2.2.1.2
        have w4 := (tk_go wa.1.1.1).1
        have w5 := xb.1.1
        have w6 := xb.1.2.2.1
        omega
      have ls7 : ls ≤ 7 := by have := xb.2.1; omega
      rw [G_11] at hG
      -- behind a prefix
      have inn : ∀ (w : Wt) (q2 : Nat) (fin : RT → RT) (n1 n2 : Nat) (L2 : LV) (τ2 : CS), w.1 = 7 → q < q2 → (∀ r, (fin r).1 = r.1 ∧ (fin r).2.1 = r.2.1 ∧ (fin r).2.2.1 = 0) → gb (G T n f 11 E (o0 + wO S + 1) q2 v 0 0 0 0 bt) (fun r => some (some (fin r))) = some x → HdS T n b u al σ0 tb gl Vm o0 mk p sz q0 v0 ls n1 n2 (w :: S) q2 v cs L2 τ2 → Tm (fun k => f_F2 k (e + 6) 1 3 L2 τ2) (Xq T n b u al σ0 tb gl Vm o0 mk p sz q0 v0 xF n1 n2) := by
        intro w q2 fin n1 n2 L2 τ2 w7 hq hf hc hd2
        have wo : wO (w :: S) = wO S + 1 := wO_y (Or.inr (by omega))
        obtain ⟨z, hz⟩ := gb_some hc
        refine i11 hls q2 v bt z (w :: S) cs n1 n2 L2 τ2 (by rw [wo]; exact hz) hd2 ⟨fun z => absurd z (by decide), fun _ _ => by show ¬ w.1 ≤ 2; omega⟩ (fun e s y => by cases y; omega) ⟨fun zn => ?_, fun r zr S2 cb m1 m2 L3 τ3 af3 h3 nx3 tg3 => ?_⟩
        · rcases gb_any hc with ⟨y1, y2⟩ | ⟨r, y1, y2⟩
          · exact ck.1 y2
          · rw [hz, zn] at y1; cases y1
        · rcases gb_any hc with ⟨y1, y2⟩ | ⟨r', y1, y2⟩
          · rw [hz, zr] at y1; cases y1
          · rw [hz, zr] at y1
            cases y1
            cases y2
            obtain ⟨f1, f2, f3⟩ := hf r
            refine ck.2 _ rfl (S2 ++ [w]) cb m1 m2 L3 τ3 ?_ (mem_as h3 (by omega)) ?_ ?_
            · rw [f1, f2]; exact AfS_as af3
            · rw [f1]; exact Nxk_as nx3
            · rw [f3]; exact Tgq_0 tg3 (by omega)
      by_cases c1 : tkK T n q = 3 ∨ tkK T n q = 23
      · rw [if_pos c1] at hG
        have g1 := go.2.2 (by omega)
        have hw : ∃ w : Wt, ((tkK T n q = 3 ∧ w = (7, 160, 0)) ∨ (tkK T n q = 23 ∧ w = (7, 161, 0))) ∧ w.1 = 7 ∧ ¬ w.2.1 = 112 := by
          rcases c1 with z | z
          · exact ⟨(7, 160, 0), Or.inl ⟨z, rfl⟩, rfl, by decide⟩
          · exact ⟨(7, 161, 0), Or.inr ⟨z, rfl⟩, rfl, by decide⟩
        obtain ⟨w, hw, w7, wn⟩ := hw
        rcases gOT_any hG with ⟨w1, w2⟩ | ⟨w1, w2⟩
        · exact st_pfx xb hd (Or.inr w7) (fun z => absurd z wn) (fun _ z => by cases z) (c_pfUn wa hm ls7 hd.2.2.1.2.1 hd.2.2.1.1 hw (Or.inl ⟨w1, rfl⟩)) (fun _ => ck.1 w2) (fun _ z => by cases z)
        · refine st_pfx xb hd (Or.inr w7) (fun z => absurd z wn) (fun _ z => by cases z; omega) (c_pfUn wa hm ls7 hd.2.2.1.2.1 hd.2.2.1.1 hw (Or.inr ⟨w1, rfl⟩)) (fun z => by cases z) (fun q2 z n1 n2 L2 τ2 hd2 => ?_)
          cases z
          exact inn w _ (fun r => (r.1, r.2.1, 0, r.2.2.2.2.1.1, bNode r.2.2.2.2.1 (if tkK T n q = 3 then 17 else 18) 0 (nI r.2.2.2.1) 0, [])) n1 n2 L2 τ2 w7 g1 (fun r => ⟨rfl, rfl, rfl⟩) w2 hd2
      rw [if_neg c1] at hG
      by_cases c2 : tkK T n q = 2 ∨ tkK T n q = 4 ∨ tkK T n q = 81 ∨ tkK T n q = 80
      · rw [if_pos c2] at hG
        have g1 := go.2.2 (by omega)
        have hx2 : (¬ ((¬ o0 + wO S = 20 ∧ ¬ tkK T n (tkN T n q) = 0) ∧ (tkK T n (tkN T n q) = 24 ∧ ¬ tkK T n (tkN T n (tkN T n q)) = 0)) ∧ x = none) ∨ (((¬ o0 + wO S = 20 ∧ ¬ tkK T n (tkN T n q) = 0) ∧ (tkK T n (tkN T n q) = 24 ∧ ¬ tkK T n (tkN T n (tkN T n q)) = 0)) ∧ gb (G T n f 11 E (o0 + wO S + 1) (tkN T n (tkN T n q)) v 0 0 0 0 bt) (fun r => some (some (r.1, r.2.1, 0, r.2.2.2.2.1.1, bNode r.2.2.2.2.1 20 (opr (tkK T n q)) (nI r.2.2.2.1) 0, []))) = some x) := by
          rcases gOT_any hG with ⟨w1, w2⟩ | ⟨w1, w2⟩
          · exact Or.inl ⟨fun z => w1 z.1, w2⟩
          · rcases gW_any w2 with ⟨w3, w4⟩ | ⟨w3, w4⟩
            · exact Or.inl ⟨fun z => w3 z.2, w4⟩
            · exact Or.inr ⟨⟨w1, w3⟩, w4⟩
        rcases hx2 with ⟨w1, w2⟩ | ⟨w1, w2⟩
        · obtain ⟨wy, t⟩ := c_pfFo (L := lI (lI lZ 1 (L.1 2)) 2 (L.1 1)) (z := none) wa hm ls7 hd.2.2.1.2.1 hd.2.2.1.1 c2 (Or.inl ⟨w1, rfl⟩)
          exact st_pfx xb hd (Or.inr rfl) (fun _ _ z => by cases z) (fun _ z => by cases z) t (fun _ => ck.1 w2) (fun _ z => by cases z)
        · have g2 : tkN T n q < tkN T n (tkN T n q) := (tkN_b T n (tkN T n q) go.2.1).2.2.2 (by rw [w1.2.1]; decide)
          obtain ⟨wy, t⟩ := c_pfFo (L := lI (lI lZ 1 (L.1 2)) 2 (L.1 1)) (z := some (tkN T n (tkN T n q))) wa hm ls7 hd.2.2.1.2.1 hd.2.2.1.1 c2 (Or.inr ⟨w1, rfl⟩)
          refine st_pfx xb hd (Or.inr rfl) (fun _ _ z => by cases z; omega) (fun _ z => by cases z; omega) t (fun z => by cases z) (fun q2 z n1 n2 L2 τ2 hd2 => ?_)
          cases z
          exact inn _ _ (fun r => (r.1, r.2.1, 0, r.2.2.2.2.1.1, bNode r.2.2.2.2.1 20 (opr (tkK T n q)) (nI r.2.2.2.1) 0, [])) n1 n2 L2 τ2 rfl (by omega) (fun r => ⟨rfl, rfl, rfl⟩) w2 hd2
      rw [if_neg c2] at hG
      refine st_oper xb (fun f' hf' => px f' (by omega)) ev hd (ht.2 (by decide)) (by omega) hG ck.1 (fun r zr cs' n1 n2 L' τ' af t1 t2 => ?_)
      exact ck.2 r zr [] cs' n1 n2 L' τ' af (fun e he => absurd he List.not_mem_nil) (Or.inl (kl_b _).1) ⟨t1, fun _ => rfl, t2⟩
    · intro hls q1 q v i e0 bt x S' S cs a1 a2 L τ hG af ha nx tg hb ck
      rw [G_1] at hG
      exact cl_gen xb i2 j1 (Or.inl ⟨rfl, rfl, rfl, rfl⟩) hls hG (fun z => by rw [z]; decide) kl_no.1 af ha nx tg hb ck
    · intro hls q1 q v i e0 bt x S' S cs a1 a2 L τ hG af ha nx tg hb ck
      rw [G_3] at hG
      exact cl_gen xb i4 j3 (Or.inr (Or.inl ⟨rfl, rfl, rfl, rfl⟩)) hls hG (fun z => by rw [z]; decide) kl_no.2.1 af ha nx tg hb ck
    · intro hls q1 q v i e0 bt x S' S cs a1 a2 L τ hG af ha nx tg hb ck
      rw [G_7] at hG
      exact cl_gen xb i8 j7 (Or.inr (Or.inr (Or.inl ⟨rfl, rfl, rfl, rfl⟩))) hls hG (fun z => by rcases z with z | z <;> (rw [z]; decide)) kl_no.2.2.2.1 af ha nx tg hb ck
    · intro hls q1 q v i e0 bt x S' S cs a1 a2 L τ hG af ha nx tg hb ck
      rw [G_9] at hG
      exact cl_gen xb i10 j9 (Or.inr (Or.inr (Or.inr ⟨rfl, rfl, rfl, rfl⟩))) hls hG (fun z => by rcases z with z | z | z <;> (rw [z]; decide)) kl_no.2.2.2.2.1 af ha nx tg hb ck
end CWE
section CWF
variable {T : Nat → Int32} {n u al : Nat} {b : Bool}
/-- all exps -/
theorem px_all : ∀ (F : Nat) (e : Nat), PXp T n b u al F e := by
  intro F
  induction F using Nat.strongRecOn with
  | ind F ih =>
    intro e1 nt ls hnt E o0 q0 v0 bt x hG gl Vm tb mk p sz σ0 L hq ev bd hL he
    obtain ⟨e, rfl⟩ : ∃ e, e1 = e + 6 := ⟨e1 - 6, by omega⟩
    have xb : XB n o0 q0 v0 mk p sz tb.length ls e := ⟨bd, by omega, he⟩
    have cx := cx_all (F := F) (xF := x) xb (fun f' hf' => ih f' hf') ev F (Nat.le_refl _)
    have s0 := Sy_0 hq
    have n10 := bd.1
    have qn := (tk_go hq).1
    have hd : HdS T n b u al σ0 tb gl Vm o0 mk p sz q0 v0 ls 0 0 [] q0 v0 [] (lI (lI (lI (lI (lI L 2 (σ0.1 4011)) 3 1) 4 0) 5 1) 6 0) σ0 := ⟨⟨s0, trivial, trivial, Ph_nil u p gl Vm⟩, ⟨by show 2 * (0 + 0) ≤ _; omega, by show 3 * 0 ≤ _; omega, Nat.le_refl _, Nat.le_refl _⟩, ⟨hL, hq.2.2.1.1, rfl⟩, ⟨0, rfl, Nat.zero_le _⟩, 0, rfl, Nat.zero_le _⟩
    have ck : ∀ l, (l = 0 ∧ ls = 0) ∨ (l = 4 ∧ ls = 4) → CxK T n b u al σ0 tb gl Vm o0 mk p sz q0 v0 E x ls e l q0 x [] := by
      intro l hl
      refine ⟨id, fun r zr S' cs' n1 n2 L' τ' af h3 nx tg => ?_⟩
      rw [List.append_nil] at af nx
      refine st_end xb af ?_ zr rfl rfl (fun z => tg.1 (Or.inl z)) (fun z => ⟨tg.2.1 z, tg.2.2 ⟨z, rfl⟩⟩)
      rcases nx with z | z
      · exact Or.inl (by omega)
      · exact Or.inr ⟨z.1, by omega, z.2.2⟩
    refine Tm_suc (fun k => ep_0 k _ _ _) ?_
    refine Tm_suc (fun k => ep_1 k _ _ _) ?_
    refine Tm_no (by show ¬ (32768 : Int32) < 0; decide) ?_
    refine Tm_no (by show ¬ (1 : Int32) = 0; decide) ?_
    rcases hnt with ⟨h1, h2⟩ | ⟨h1, h2⟩
    · rw [h1] at hG
      exact cx.1.1.1 (by omega) q0 v0 bt x [] [] 0 0 _ σ0 hG hd ⟨fun _ => by show ls ≤ 2; omega, fun z => absurd z (by decide)⟩ (fun e s y => by cases y) (ck 0 (Or.inl ⟨rfl, h2⟩))
    · rw [h1] at hG
      exact cx.1.2.1 (by omega) q0 v0 bt x [] [] 0 0 _ σ0 hG hd ⟨fun z => absurd z (by decide), fun _ _ => by show ¬ ls ≤ 2; omega⟩ (fun e s y => by cases y) (ck 4 (Or.inr ⟨rfl, h2⟩))
end CWF
