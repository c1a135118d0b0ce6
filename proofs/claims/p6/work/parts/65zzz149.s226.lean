/-! Trees of nodes: larger bounds, chains, lists. -/
/-- a place further out, or the same with a higher rank -/
def Lx (O r O' r' : Nat) : Prop := (O = O' ∧ r ≤ r') ∨ (O < O' ∧ r ≤ 14 ∧ 4 ≤ r')
section WTR
variable {T : Nat → Nat → Int32} {FN : Nat → Nat → Prop} {lc : Nat → Prop}
theorem Lx_rf {O r : Nat} : Lx O r O r := Or.inl ⟨rfl, Nat.le_refl _⟩
theorem Lx_1 {O O' : Nat} (h : O ≤ O') : Lx (O - 1) 14 (O' - 1) 14 := by unfold Lx; omega
theorem Lx_lo {O r O' r' O1 r1 : Nat} (h : Lx O r O' r') (lo : (O1 = O ∧ r1 + 2 ≤ r) ∨ (O1 < O ∧ r1 ≤ 14)) : (O1 = O' ∧ r1 + 2 ≤ r') ∨ (O1 < O' ∧ r1 ≤ 14) := by unfold Lx at h; omega
theorem WN_mo : ∀ (f nt O r K : Nat) (x : Int32) (f' O' r' K' : Nat), f ≤ f' → K ≤ K' → (nt ≤ 2 → Lx O r O' r') → (3 ≤ nt → O ≤ O' ∧ r = r') → WN T FN f nt O r K lc x → WN T FN f' nt O' r' K' lc x := by
  intro f
  induction f with
  | zero => intro nt O r K x f' O' r' K' _ _ _ _ h; exact h.elim
  | succ f ih =>
    intro nt O r K x f' O' r' K' hf hK h2 h3 h
    obtain ⟨f', rfl⟩ : ∃ g, f' = g + 1 := ⟨f' - 1, by omega⟩
    have hf : f ≤ f' := by omega
    -- what is evaluated within: the same place
    have same : ∀ (O1 r1 : Nat) (y : Int32), WN T FN f 0 O1 r1 K lc y → WN T FN f' 0 O1 r1 K' lc y := fun O1 r1 y w => ih 0 O1 r1 K y f' O1 r1 K' hf hK (fun _ => Lx_rf) (fun z => by omega) w
    have inn : ∀ (O1 O2 K1 K2 : Nat) (y : Int32), O1 ≤ O2 → K1 ≤ K2 → WN T FN f 0 O1 14 K1 lc y → WN T FN f' 0 O2 14 K2 lc y := fun O1 O2 K1 K2 y ho hk w => ih 0 O1 14 K1 y f' O2 14 K2 hf hk (fun _ => by unfold Lx; omega) (fun z => by omega) w
    have lst : ∀ (nt O1 O2 m K1 K2 : Nat) (y : Int32), 3 ≤ nt → O1 ≤ O2 → K1 ≤ K2 → WN T FN f nt O1 m K1 lc y → WN T FN f' nt O2 m K2 lc y := fun nt O1 O2 m K1 K2 y hn ho hk w => ih nt O1 m K1 y f' O2 m K2 hf hk (fun z => by omega) (fun _ => ⟨ho, rfl⟩) w
    unfold WN at h ⊢
    rcases h with ⟨e, h4, n, k, ch, a1, a2, a3, a4, a5, a6, a7⟩ | ⟨e, n, a1, a2, hor⟩ | ⟨e, n, a1, a2, hor⟩ | ⟨e, hor⟩ | ⟨e, hor⟩ | ⟨e, n, a1, a2, a3, hor⟩ | ⟨e, hor⟩
    · have hx := h2 (by omega)
      refine Or.inl ⟨e, by unfold Lx at hx; omega, n, k, ch, a1, a2, a3, a4, a5, fun i p1 p2 => ⟨(a6 i p1 p2).1, ?_⟩, ?_⟩
      · exact ih 2 O r K _ f' O' r' K' hf hK (fun _ => hx) (fun z => by omega) (a6 i p1 p2).2
      · exact ih 1 O r K _ f' O' r' K' hf hK (fun _ => hx) (fun z => by omega) a7
    · have hx := h2 (by omega)
      refine Or.inr (Or.inl ⟨e, n, a1, a2, hor.imp id (fun z => ⟨z.1, ?_, fun y => ?_⟩)⟩)
      · obtain ⟨O1, r1, lo, w⟩ := z.2.1
        exact ⟨O1, r1, Lx_lo hx lo, same _ _ _ w⟩
      · obtain ⟨O1, r1, lo, w⟩ := z.2.2 y
        exact ⟨O1, r1, Lx_lo hx lo, same _ _ _ w⟩
    · have hx := h2 (by omega)
      have hO : O ≤ O' := by unfold Lx at hx; omega
      refine Or.inr (Or.inr (Or.inl ⟨e, n, a1, a2, ?_⟩))
      rcases hor with h | h | h | h | ⟨x4, h1, fn, m, c, x5, hF, hm, x8, hc1, hc2, w⟩ | ⟨x4, xr, O1, r1, lo, w⟩ | ⟨x4, h1, m, hm, w⟩ | ⟨x4, h1, w6, w7, w8⟩ | ⟨x4, h1, m, hm, hmK, w6, w7, w8⟩ | ⟨x4, h1, m, hm, hmK, w6, w7⟩ | ⟨x4, h1, w⟩
      · exact Or.inl h
      · exact Or.inr (Or.inl h)
      · exact Or.inr (Or.inr (Or.inl h))
      · exact Or.inr (Or.inr (Or.inr (Or.inl h)))
      · exact Or.inr (Or.inr (Or.inr (Or.inr (Or.inl ⟨x4, by omega, fn, m, c, x5, hF, hm, x8, by omega, hc2, lst 3 _ _ m _ _ _ (by omega) (by omega) hK w⟩))))
      · exact Or.inr (Or.inr (Or.inr (Or.inr (Or.inr (Or.inl ⟨x4, xr, O1, r1, Lx_lo hx lo, same _ _ _ w⟩)))))
      · exact Or.inr (Or.inr (Or.inr (Or.inr (Or.inr (Or.inr (Or.inl ⟨x4, by omega, m, hm, lst 3 _ _ m _ _ _ (by omega) (by omega) hK w⟩))))))
      · exact Or.inr (Or.inr (Or.inr (Or.inr (Or.inr (Or.inr (Or.inr (Or.inl ⟨x4, by omega, inn _ _ _ _ _ (by omega) hK w6, w7.imp id (fun y => inn _ _ _ _ _ (by omega) hK y), inn _ _ _ _ _ (by omega) hK w8⟩)))))))
      · exact Or.inr (Or.inr (Or.inr (Or.inr (Or.inr (Or.inr (Or.inr (Or.inr (Or.inl ⟨x4, by omega, m, hm, by omega, lst 4 _ _ m _ _ _ (by omega) (by omega) hK w6, w7.imp id (fun y => inn _ _ _ _ _ (by omega) (by omega) y), inn _ _ _ _ _ (by omega) (by omega) w8⟩))))))))
      · exact Or.inr (Or.inr (Or.inr (Or.inr (Or.inr (Or.inr (Or.inr (Or.inr (Or.inr (Or.inl ⟨x4, by omega, m, hm, by omega, lst 4 _ _ m _ _ _ (by omega) (by omega) hK w6, inn _ _ _ _ _ (by omega) (by omega) w7⟩)))))))))
      · exact Or.inr (Or.inr (Or.inr (Or.inr (Or.inr (Or.inr (Or.inr (Or.inr (Or.inr (Or.inr ⟨x4, by omega, lst 5 _ _ 0 _ _ _ (by omega) (by omega) hK w⟩)))))))))
    · obtain ⟨hO, hr⟩ := h3 (by omega)
      refine Or.inr (Or.inr (Or.inr (Or.inl ⟨e, hor.imp (fun z => ⟨hr ▸ z.1, z.2⟩) (fun z => ?_)⟩)))
      obtain ⟨m, n, rm, a1, a2, w0, w9⟩ := z
      exact ⟨m, n, hr ▸ rm, a1, a2, inn _ _ _ _ _ hO hK w0, lst 3 _ _ m _ _ _ (by omega) hO hK w9⟩
    · obtain ⟨hO, hr⟩ := h3 (by omega)
      refine Or.inr (Or.inr (Or.inr (Or.inr (Or.inl ⟨e, hor.imp (fun z => ⟨hr ▸ z.1, z.2⟩) (fun z => ?_)⟩))))
      obtain ⟨m, n, q, rm, a1, a2, k1, hq, w6, w7, w9⟩ := z
      exact ⟨m, n, q, hr ▸ rm, a1, a2, by omega, hq, lst 6 _ _ q _ _ _ (by omega) hO hK w6, inn _ _ _ _ _ hO hK w7, lst 4 _ _ m _ _ _ (by omega) hO (by omega) w9⟩
    · obtain ⟨hO, hr⟩ := h3 (by omega)
      exact Or.inr (Or.inr (Or.inr (Or.inr (Or.inr (Or.inl ⟨e, n, a1, a2, inn _ _ _ _ _ hO hK a3, hor.imp id (fun z => ⟨inn _ _ _ _ _ hO hK z.1, lst 5 _ _ 0 _ _ _ (by omega) hO hK z.2⟩)⟩)))))
    · obtain ⟨hO, hr⟩ := h3 (by omega)
      refine Or.inr (Or.inr (Or.inr (Or.inr (Or.inr (Or.inr ⟨e, hor.imp (fun z => ⟨hr ▸ z.1, z.2⟩) (fun z => ?_)⟩)))))
      obtain ⟨m, n, s, rm, a1, a2, x6, hs, x5, w9⟩ := z
      exact ⟨m, n, s, hr ▸ rm, a1, a2, x6, hs, x5, lst 6 _ _ m _ _ _ (by omega) hO hK w9⟩
/-- a tree that is evaluated, with some fuel -/
def WX (T : Nat → Nat → Int32) (FN : Nat → Nat → Prop) (O r K : Nat) (lc : Nat → Prop) (x : Int32) : Prop := ∃ F, WN T FN F 0 O r K lc x
theorem WX_mo {O r K O' r' K' : Nat} {x : Int32} (h : WX T FN O r K lc x) (hK : K ≤ K') (hx : Lx O r O' r') : WX T FN O' r' K' lc x := by
  obtain ⟨F, h⟩ := h
  exact ⟨F, WN_mo F 0 O r K x F O' r' K' (Nat.le_refl _) hK (fun _ => hx) (fun z => by omega) h⟩
theorem WN_f {f f' nt O r K : Nat} {x : Int32} (h : WN T FN f nt O r K lc x) (hf : f ≤ f') : WN T FN f' nt O r K lc x := WN_mo f nt O r K x f' O r K hf (Nat.le_refl _) (fun _ => Lx_rf) (fun _ => ⟨Nat.le_refl _, rfl⟩) h
/-- one node alone -/
theorem WX_1 {f O r K n : Nat} (h4 : 4 ≤ r) (hn : (1 ≤ n ∧ n < LNo T % 70001)) (ho : ¬ Ov (T 4 n)) (h : WN T FN f 1 O r K lc (nI n)) : WX T FN O r K lc (nI n) := by
  refine ⟨f + 1, ?_⟩
  unfold WN
  exact Or.inl ⟨rfl, h4, n, 0, fun _ => n, rfl, rfl, fun _ _ => hn, fun i hi => by omega, ho, fun i h1 h2 => by omega, h⟩
/-- one that goes on behind it -/
theorem WX_ov {f O r K e N : Nat} (he : (1 ≤ e ∧ e < LNo T % 70001)) (hN : (1 ≤ N ∧ N < LNo T % 70001)) (h : WX T FN O r K lc (nI e)) (h6 : T 6 N = nI e) (h9 : T 9 e = nI N) (ho : Ov (T 4 N)) (h2 : WN T FN f 2 O r K lc (nI N)) : WX T FN O r K lc (nI N) := by
  obtain ⟨F, h⟩ := h
  cases F with
  | zero => exact h.elim
  | succ F =>
    unfold WN at h
    rcases h with ⟨_, h4, n, k, ch, a1, a2, a3, a4, a5, a6, a7⟩ | ⟨z, _⟩ | ⟨z, _⟩ | ⟨z, _⟩ | ⟨z, _⟩ | ⟨z, _⟩ | ⟨z, _⟩
    case inr.inl => exact absurd z (by decide)
    case inr.inr.inl => exact absurd z (by decide)
    case inr.inr.inr.inl => exact absurd z (by decide)
    case inr.inr.inr.inr.inl => exact absurd z (by decide)
    case inr.inr.inr.inr.inr.inl => exact absurd z (by decide)
    case inr.inr.inr.inr.inr.inr => exact absurd z (by decide)
    have hn : (1 ≤ n ∧ n < LNo T % 70001) := by rw [← a2]; exact a3 k (Nat.le_refl _)
    have en : e = n := (n_eq (by omega) (by omega)).mp a1
    refine ⟨max F f + 1, ?_⟩
    unfold WN
    have c1 : ∀ i, i ≤ k → (fun i => if i ≤ k then ch i else N) i = ch i := fun i hi => if_pos hi
    have c2 : (fun i => if i ≤ k then ch i else N) (k + 1) = N := if_neg (by omega)
    refine Or.inl ⟨rfl, h4, N, k + 1, fun i => if i ≤ k then ch i else N, rfl, c2, fun i hi => ?_, fun i hi => ?_, ?_, fun i h1 h2' => ?_, ?_⟩
    · by_cases c : i ≤ k
      · rw [c1 i c]; exact a3 i c
      · rw [show i = k + 1 by omega, c2]; exact hN
    · by_cases c : i < k
      · rw [c1 i (by omega), c1 (i + 1) (by omega)]; exact a4 i c
      · rw [show i = k by omega, c1 k (Nat.le_refl _), c2, a2, ← en]
        exact ⟨h6, h9⟩
    · rw [c1 0 (by omega)]; exact a5
    · by_cases c : i ≤ k
      · rw [c1 i c]; exact ⟨(a6 i h1 c).1, WN_f (a6 i h1 c).2 (by omega)⟩
      · rw [show i = k + 1 by omega, c2]; exact ⟨ho, WN_f h2 (by omega)⟩
    · rw [c1 0 (by omega)]; exact WN_f a7 (by omega)
/-- a list from i to e, c more behind the first -/
def LSe (P : Nat → Nat → Prop) (T : Nat → Nat → Int32) : Nat → Nat → Nat → Prop
  | 0, i, e => i = e ∧ P 0 e
  | c + 1, i, e => ∃ e', LSe P T c i e' ∧ T 9 e' = nI e ∧ P (c + 1) e
theorem LS_e {P : Nat → Nat → Prop} : ∀ {c i e : Nat}, LSe P T c i e → P c e
  | 0, _, _, h => h.2
  | _ + 1, _, _, ⟨_, _, _, h⟩ => h
/-- exps of a call, members -/
theorem LS_3 {O K : Nat} : ∀ (c m i e : Nat), LSe (fun _ e => (1 ≤ e ∧ e < LNo T % 70001) ∧ WX T FN O 14 K lc (nI e)) T c i e → (∃ F, WN T FN F 3 O m K lc (T 9 e)) → ∃ F, WN T FN F 3 O (m + c + 1) K lc (nI i) := by
  have one : ∀ (m e : Nat), (1 ≤ e ∧ e < LNo T % 70001) → WX T FN O 14 K lc (nI e) → (∃ F, WN T FN F 3 O m K lc (T 9 e)) → ∃ F, WN T FN F 3 O (m + 1) K lc (nI e) := by
    intro m e he ⟨F1, w⟩ ⟨F2, w9⟩
    refine ⟨max F1 F2 + 1, ?_⟩
    unfold WN
    exact Or.inr (Or.inr (Or.inr (Or.inl ⟨rfl, Or.inr ⟨m, e, rfl, rfl, he, WN_f w (by omega), WN_f w9 (by omega)⟩⟩)))
  intro c
  induction c with
  | zero => intro m i e h w; obtain ⟨rfl, h1, h2⟩ := h; exact one m i h1 h2 w
  | succ c ih =>
    intro m i e h w
    obtain ⟨e', h1, h9, h2, h3⟩ := h
    have := ih (m + 1) i e' h1 (by rw [h9]; exact one m e h2 h3 w)
    rw [show m + (c + 1) + 1 = m + 1 + c + 1 by omega]; exact this
theorem WN_end {nt O K : Nat} (h : nt = 3 ∨ nt = 4 ∨ nt = 6) : WN T FN 1 nt O 0 K lc (-1) := by
  unfold WN
  rcases h with rfl | rfl | rfl
  · exact Or.inr (Or.inr (Or.inr (Or.inl ⟨rfl, Or.inl ⟨rfl, rfl⟩⟩)))
  · exact Or.inr (Or.inr (Or.inr (Or.inr (Or.inl ⟨rfl, Or.inl ⟨rfl, rfl⟩⟩))))
  · exact Or.inr (Or.inr (Or.inr (Or.inr (Or.inr (Or.inr ⟨rfl, Or.inl ⟨rfl, rfl⟩⟩)))))
/-- names -/
theorem LS_6 {O K : Nat} : ∀ (c m i e : Nat), LSe (fun _ e => (1 ≤ e ∧ e < LNo T % 70001) ∧ ∃ s, T 6 e = nI s ∧ s < 60 ∧ ((T 5 e = 0 ∨ lc 0) ∧ lc (if T 5 e = 0 then 1 + s else 61 + s))) T c i e → (∃ F, WN T FN F 6 O m K lc (T 9 e)) → ∃ F, WN T FN F 6 O (m + c + 1) K lc (nI i) := by
  have one : ∀ (m e : Nat), ((1 ≤ e ∧ e < LNo T % 70001) ∧ ∃ s, T 6 e = nI s ∧ s < 60 ∧ ((T 5 e = 0 ∨ lc 0) ∧ lc (if T 5 e = 0 then 1 + s else 61 + s))) → (∃ F, WN T FN F 6 O m K lc (T 9 e)) → ∃ F, WN T FN F 6 O (m + 1) K lc (nI e) := by
    intro m e ⟨he, s, h6, hs, h5⟩ ⟨F2, w9⟩
    refine ⟨F2 + 1, ?_⟩
    unfold WN
    exact Or.inr (Or.inr (Or.inr (Or.inr (Or.inr (Or.inr ⟨rfl, Or.inr ⟨m, e, s, rfl, rfl, he, h6, hs, h5, w9⟩⟩)))))
  intro c
  induction c with
  | zero => intro m i e h w; obtain ⟨rfl, h1⟩ := h; exact one m i h1 w
  | succ c ih =>
    intro m i e h w
    obtain ⟨e', h1, h9, h2⟩ := h
    have := ih (m + 1) i e' h1 (by rw [h9]; exact one m e h2 w)
    rw [show m + (c + 1) + 1 = m + 1 + c + 1 by omega]; exact this
/-- branches -/
theorem LS_5 {O K : Nat} : ∀ (c i e : Nat), LSe (fun _ e => (1 ≤ e ∧ e < LNo T % 70001) ∧ WX T FN O 14 K lc (T 5 e) ∧ WX T FN O 14 K lc (T 6 e)) T c i e → (∃ F, WN T FN F 5 O 0 K lc (T 9 e)) → ∃ F, WN T FN F 5 O 0 K lc (nI i) := by
  have one : ∀ (e : Nat), ((1 ≤ e ∧ e < LNo T % 70001) ∧ WX T FN O 14 K lc (T 5 e) ∧ WX T FN O 14 K lc (T 6 e)) → (∃ F, WN T FN F 5 O 0 K lc (T 9 e)) → ∃ F, WN T FN F 5 O 0 K lc (nI e) := by
    intro e ⟨he, ⟨F5, h5⟩, F6, h6⟩ ⟨F2, w9⟩
    refine ⟨max F5 (max F6 F2) + 1, ?_⟩
    unfold WN
    exact Or.inr (Or.inr (Or.inr (Or.inr (Or.inr (Or.inl ⟨rfl, e, rfl, he, WN_f h6 (by omega), Or.inr ⟨WN_f h5 (by omega), WN_f w9 (by omega)⟩⟩)))))
  intro c
  induction c with
  | zero => intro i e h w; obtain ⟨rfl, h1⟩ := h; exact one i h1 w
  | succ c ih =>
    intro i e h w
    obtain ⟨e', h1, h9, h2⟩ := h
    exact ih i e' h1 (by rw [h9]; exact one e h2 w)
/-- iterators: each one leaves one less -/
def PIt (T : Nat → Nat → Int32) (FN : Nat → Nat → Prop) (O K : Nat) (lc : Nat → Prop) (e : Nat) : Prop := (1 ≤ e ∧ e < LNo T % 70001) ∧ 1 ≤ K ∧ (∃ q F, (1 ≤ q ∧ q ≤ 70000) ∧ WN T FN F 6 O q K lc (T 6 e)) ∧ WX T FN O 14 K lc (T 7 e)
theorem LS_4 {O K : Nat} : ∀ (c m i e : Nat), LSe (fun j e => PIt T FN O (K - j) lc e) T c i e → (∃ F, WN T FN F 4 O m (K - (c + 1)) lc (T 9 e)) → ∃ F, WN T FN F 4 O (m + c + 1) K lc (nI i) := by
  have one : ∀ (m e K : Nat), PIt T FN O K lc e → (∃ F, WN T FN F 4 O m (K - 1) lc (T 9 e)) → ∃ F, WN T FN F 4 O (m + 1) K lc (nI e) := by
    intro m e K ⟨he, hK, ⟨q, F6, hq, h6⟩, F7, h7⟩ ⟨F2, w9⟩
    refine ⟨max F6 (max F7 F2) + 1, ?_⟩
    unfold WN
    exact Or.inr (Or.inr (Or.inr (Or.inr (Or.inl ⟨rfl, Or.inr ⟨m, e, q, rfl, rfl, he, hK, hq, WN_f h6 (by omega), WN_f h7 (by omega), WN_f w9 (by omega)⟩⟩))))
  intro c
  induction c with
  | zero => intro m i e h w; obtain ⟨rfl, h1⟩ := h; exact one m i K h1 w
  | succ c ih =>
    intro m i e h w
    obtain ⟨e', h1, h9, h2⟩ := h
    have := ih (m + 1) i e' h1 (by rw [h9]; exact one m e (K - (c + 1)) h2 (by rw [show K - (c + 1) - 1 = K - (c + 1 + 1) by omega]; exact w))
    rw [show m + (c + 1) + 1 = m + 1 + c + 1 by omega]; exact this
end WTR
