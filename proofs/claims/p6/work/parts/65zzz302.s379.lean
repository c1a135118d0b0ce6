/-! The class: shapes of the stack. -/
section CSQ
variable {g g' g2 : Nat → Prop} {l l' l2 : List Nat} {t t' t2 : Nat} {σ σ' σ2 : CS} {L : LV} {x y i : Int32} {M M' U U' : Nat → Int32} {K K' K2 K3 K4 K4' : Nat → Option Int32}
/-- a frame's slots -/
def bsl : Nat := 1000000
/-- slots, or plain places, at the bottom -/
def bt : Nat → List Nat → Nat
  | d, [] => d
  | _, e :: r => if bsl ≤ e then e - bsl else bt (e / 2) r
theorem bt_c (d d' e : Nat) (r : List Nat) : bt d (e :: r) = bt d' (e :: r) := rfl
/-- a mark: of what is gone over (below 500000), or of a value -/
def Mkk (i : Nat) (o : Option Int32) : Prop := (i < 500000 → o = some mkR) ∧ (o = none ∨ o = some mkR)
/-- blocks of places: a frame's head (four), a tuple -/
def pk (e : Nat) : Nat := if e < 500000 then 4 else 1
def pm (e : Nat) : Int32 := if e < 500000 then mkC else if e < 750000 then mkT else mkC
/-- a slot -/
def Sk (o : Option Int32) : Prop := o = none ∨ o = some mkR ∨ o = some mkC
/-- a part of the stack: d plain places on top; below them what is gathered, with its numbers, and so on; or the frame's slots -/
def SL (K : Nat → Option Int32) (lo : Nat) : Nat → Nat → List Nat → Prop
  | hi, d, [] => hi = lo + d ∧ ∀ p, lo ≤ p → p < hi → K p = none
  | hi, d, e :: r => (bsl ≤ e → (∀ i, i ∈ r → i < bsl → i % 500000 < e - bsl ∧ Mkk i (K (lo + i % 500000))) ∧ hi = lo + (e - bsl) + d ∧ (∀ p, lo ≤ p → p < lo + (e - bsl) → Sk (K p)) ∧ ∀ p, lo + (e - bsl) ≤ p → p < hi → K p = none) ∧ (¬ bsl ≤ e → e < 250000 → ∃ (b n : Nat) (z : Int32), hi = b + n + 2 + d ∧ SL K lo b (e / 2) r ∧ (∀ p, b ≤ p → p < b + n → K p = none) ∧ K (b + n) = some (rwN n) ∧ K (b + n + 1) = some z ∧ (Rr z ∧ (e % 2 = 1 → 1000 < uN z % 268435456 → 1 ≤ n)) ∧ ∀ p, b + n + 2 ≤ p → p < hi → K p = none) ∧ (¬ bsl ≤ e → ¬ e < 250000 → ∃ (b e' : Nat) (r' : List Nat), hi = b + pk e + d ∧ SL K lo b (e % 250000) r ∧ r = e' :: r' ∧ (∀ p, b ≤ p → p < b + pk e → K p = some (pm e)) ∧ ∀ p, b + pk e ≤ p → p < hi → K p = none)
theorem SL_le {lo : Nat} : ∀ (r : List Nat) (hi d : Nat), SL K lo hi d r → lo + bt d r ≤ hi ∧ lo + d ≤ hi
  | [], hi, d, h => by
    have e := h.1
    exact ⟨by show lo + d ≤ hi; omega, by omega⟩
  | e :: r, hi, d, h => by
    by_cases c : bsl ≤ e
    · have h1 := (h.1 c).2.1
      exact ⟨by show lo + (if bsl ≤ e then e - bsl else bt (e / 2) r) ≤ hi; rw [if_pos c]; omega, by omega⟩
    · by_cases c5 : e < 250000
      · obtain ⟨b, n, z, h1, h2, _⟩ := h.2.1 c c5
        have q := SL_le r b (e / 2) h2
        exact ⟨by show lo + (if bsl ≤ e then e - bsl else bt (e / 2) r) ≤ hi; rw [if_neg c]; omega, by omega⟩
      · obtain ⟨b, e', r', h1, h2, h3, _⟩ := h.2.2 c c5
        have q := SL_le r b (e % 250000) h2
        have eb : bt (e / 2) r = bt (e % 250000) r := by rw [h3]; exact bt_c _ _ _ _
        exact ⟨by show lo + (if bsl ≤ e then e - bsl else bt (e / 2) r) ≤ hi; rw [if_neg c, eb]; omega, by omega⟩
theorem SL_top {lo : Nat} : ∀ (r : List Nat) (hi d : Nat), SL K lo hi d r → ∀ p, hi ≤ p + d → p < hi → K p = none
  | [], hi, d, h, p, h1, h2 => h.2 p (by have e := h.1; omega) h2
  | e :: r, hi, d, h, p, h1, h2 => by
    by_cases c : bsl ≤ e
    · obtain ⟨a1, a2, a3, a4⟩ := h.1 c
      exact a4 p (by omega) h2
    · by_cases c5 : e < 250000
      · obtain ⟨b, n, z, a1, a2, a3, a4, a5, a6, a7⟩ := h.2.1 c c5
        exact a7 p (by omega) h2
      · obtain ⟨b, e', r', a1, a2, a3, a4, a7⟩ := h.2.2 c c5
        exact a7 p (by omega) h2
theorem SL_eq {lo : Nat} : ∀ (r : List Nat) (hi d : Nat), (∀ p, lo ≤ p → p < hi → K' p = K p) → SL K lo hi d r → SL K' lo hi d r
  | [], hi, d, e, h => ⟨h.1, fun p h1 h2 => (e p h1 h2).trans (h.2 p h1 h2)⟩
  | f :: r, hi, d, e, h => by
    refine ⟨fun c => ?_, fun c c5 => ?_, fun c c5 => ?_⟩
    · obtain ⟨a1, a2, a3, a4⟩ := h.1 c
      exact ⟨fun i h1 h2 => ⟨(a1 i h1 h2).1, by rw [e (lo + i % 500000) (by omega) (by have := (a1 i h1 h2).1; omega)]; exact (a1 i h1 h2).2⟩, a2, fun p h1 h2 => by rw [e p h1 (by omega)]; exact a3 p h1 h2, fun p h1 h2 => by rw [e p (by omega) h2]; exact a4 p h1 h2⟩
    · obtain ⟨b, n, z, a1, a2, a3, a4, a5, a6, a7⟩ := h.2.1 c c5
      have q := (SL_le r b (f / 2) a2).2
      exact ⟨b, n, z, a1, SL_eq r b (f / 2) (fun p h1 h2 => e p h1 (by omega)) a2, fun p h1 h2 => (e p (by omega) (by omega)).trans (a3 p h1 h2), (e _ (by omega) (by omega)).trans a4, (e _ (by omega) (by omega)).trans a5, a6, fun p h1 h2 => (e p (by omega) h2).trans (a7 p h1 h2)⟩
    · obtain ⟨b, e', r', a1, a2, a3, a4, a7⟩ := h.2.2 c c5
      have q := (SL_le r b (f % 250000) a2).2
      exact ⟨b, e', r', a1, SL_eq r b (f % 250000) (fun p h1 h2 => e p h1 (by omega)) a2, a3, fun p h1 h2 => (e p (by omega) (by omega)).trans (a4 p h1 h2), fun p h1 h2 => (e p (by omega) h2).trans (a7 p h1 h2)⟩
theorem SL_pop {lo : Nat} : ∀ (r : List Nat) (hi d n : Nat), SL K lo hi (d + n) r → SL K lo (hi - n) d r
  | [], hi, d, n, h => ⟨by have e := h.1; omega, fun p h1 h2 => h.2 p h1 (by omega)⟩
  | f :: r, hi, d, n, h => by
    refine ⟨fun c => ?_, fun c c5 => ?_, fun c c5 => ?_⟩
    · obtain ⟨a1, a2, a3, a4⟩ := h.1 c
      exact ⟨a1, by omega, a3, fun p h1 h2 => a4 p h1 (by omega)⟩
    · obtain ⟨b, m, z, a1, a2, a3, a4, a5, a6, a7⟩ := h.2.1 c c5
      exact ⟨b, m, z, by omega, a2, a3, a4, a5, a6, fun p h1 h2 => a7 p h1 (by omega)⟩
    · obtain ⟨b, e', r', a1, a2, a3, a4, a7⟩ := h.2.2 c c5
      exact ⟨b, e', r', by omega, a2, a3, a4, fun p h1 h2 => a7 p h1 (by omega)⟩
theorem SL_push {lo : Nat} : ∀ (r : List Nat) (hi d n : Nat), (∀ p, hi ≤ p → p < hi + n → K p = none) → SL K lo hi d r → SL K lo (hi + n) (d + n) r
  | [], hi, d, n, hn, h => ⟨by have e := h.1; omega, fun p h1 h2 => by
      rcases Nat.lt_or_ge p hi with c | c
      · exact h.2 p h1 c
      · exact hn p c h2⟩
  | f :: r, hi, d, n, hn, h => by
    refine ⟨fun c => ?_, fun c c5 => ?_, fun c c5 => ?_⟩
    · obtain ⟨a1, a2, a3, a4⟩ := h.1 c
      refine ⟨a1, by omega, a3, fun p h1 h2 => ?_⟩
      rcases Nat.lt_or_ge p hi with y | y
      · exact a4 p h1 y
      · exact hn p y h2
    · obtain ⟨b, m, z, a1, a2, a3, a4, a5, a6, a7⟩ := h.2.1 c c5
      refine ⟨b, m, z, by omega, a2, a3, a4, a5, a6, fun p h1 h2 => ?_⟩
      rcases Nat.lt_or_ge p hi with y | y
      · exact a7 p h1 y
      · exact hn p y h2
    · obtain ⟨b, e', r', a1, a2, a3, a4, a7⟩ := h.2.2 c c5
      refine ⟨b, e', r', by omega, a2, a3, a4, fun p h1 h2 => ?_⟩
      rcases Nat.lt_or_ge p hi with y | y
      · exact a7 p h1 y
      · exact hn p y h2
/-- slots alone -/
theorem SL_0 {lo hi w d : Nat} {ms : List Nat} (h : SL K lo hi d ((bsl + w) :: ms)) : hi = lo + w + d ∧ (∀ p, lo ≤ p → p < lo + w → Sk (K p)) := by
  obtain ⟨a1, a2, a3, a4⟩ := h.1 (Nat.le_add_right _ _)
  rw [Nat.add_sub_cancel_left] at a2 a3
  exact ⟨a2, a3⟩
theorem SL_mk {lo hi w d : Nat} (e : hi = lo + w + d) (h : ∀ p, lo ≤ p → p < lo + w → Sk (K p)) (h2 : ∀ p, lo + w ≤ p → p < hi → K p = none) : SL K lo hi d [bsl + w] := by
  refine ⟨fun _ => ⟨fun i h => absurd h List.not_mem_nil, ?_, ?_, ?_⟩, fun c => absurd (Nat.le_add_right _ _) c, fun c => absurd (Nat.le_add_right _ _) c⟩
  · rw [Nat.add_sub_cancel_left]; exact e
  · rw [Nat.add_sub_cancel_left]; exact h
  · rw [Nat.add_sub_cancel_left]; exact h2
/-- what exps go over: marked among the slots that are passed -/
def PaM (K : Nat → Option Int32) (pb m : Nat) : List Nat → Prop
  | [] => True
  | e :: r => (bsl ≤ e → ∀ i, i ∈ r → bsl ≤ i → (i - bsl) % 500000 < m ∧ Mkk (i - bsl) (K (pb + (i - bsl) % 500000))) ∧ (¬ bsl ≤ e → PaM K pb m r)
theorem PaM_eq {pb m : Nat} (h : ∀ p, pb ≤ p → p < pb + m → K' p = K p) : ∀ r : List Nat, PaM K pb m r → PaM K' pb m r
  | [], _ => trivial
  | e :: r, q => ⟨fun c i h1 h2 => ⟨(q.1 c i h1 h2).1, by
      have z := q.1 c i h1 h2
      rw [h (pb + (i - bsl) % 500000) (by omega) (by omega)]; exact z.2⟩, fun c => PaM_eq h r (q.2 c)⟩
/-- slots that hold values -/
def Vl : Nat → List Nat
  | 0 => []
  | n + 1 => (500000 + n) :: Vl n
theorem Vl_m : ∀ (n i : Nat), i ∈ Vl n → 500000 ≤ i ∧ i < 500000 + n
  | 0, i, h => absurd h List.not_mem_nil
  | n + 1, i, h => by
    rcases List.mem_cons.1 h with e | e
    · omega
    · have := Vl_m n i e
      omega
theorem Vl_h : ∀ (n i : Nat), i < n → 500000 + i ∈ Vl n
  | 0, i, h => absurd h (Nat.not_lt_zero i)
  | n + 1, i, h => by
    by_cases e : i = n
    · rw [e]; exact List.mem_cons_self
    · exact List.mem_cons_of_mem _ (Vl_h n i (by omega))
theorem SL_mkV {lo hi w d : Nat} (w5 : w ≤ 500000) (e : hi = lo + w + d) (h : ∀ p, lo ≤ p → p < hi → K p = none) : SL K lo hi d ((bsl + w) :: Vl w) := by
  refine ⟨fun _ => ⟨fun i hi hb => ?_, ?_, ?_, ?_⟩, fun c => absurd (Nat.le_add_right _ _) c, fun c => absurd (Nat.le_add_right _ _) c⟩
  · have z := Vl_m w i hi
    rw [Nat.add_sub_cancel_left]
    exact ⟨by omega, fun lt => absurd lt (by omega), Or.inl (h _ (by omega) (by omega))⟩
  · rw [Nat.add_sub_cancel_left]; exact e
  · rw [Nat.add_sub_cancel_left]; exact fun p h1 h2 => Or.inl (h p h1 (by omega))
  · rw [Nat.add_sub_cancel_left]; exact fun p h1 h2 => h p (by omega) h2
theorem Vl_b (n : Nat) (hn : n ≤ 500000) : ∀ i, i ∈ Vl n → i < bsl := fun i h => by
  have := Vl_m n i h
  unfold bsl
  omega
/-- what is read is a value: the uppermost n places -/
theorem PaM_0 {pb m w : Nat} {ms : List Nat} (h : ∀ i, i ∈ ms → i < bsl) : PaM K pb m ((bsl + w) :: ms) := ⟨fun _ i h1 h2 => absurd (h i h1) (by omega), fun c => absurd (Nat.le_add_right _ _) c⟩
theorem bt_0 (d w : Nat) (ms : List Nat) : bt d ((bsl + w) :: ms) = w := by
  show (if bsl ≤ bsl + w then bsl + w - bsl else bt ((bsl + w) / 2) ms) = w
  rw [if_pos (Nat.le_add_right _ _), Nat.add_sub_cancel_left]
/-- places written: pinned or not -/
def Kw (K : Nat → Option Int32) (s n : Nat) (v : Option Int32) : Nat → Option Int32 := fun j => if s ≤ j ∧ j < s + n then v else K j
theorem Kw_o {s n : Nat} {v : Option Int32} {j : Nat} (h : j < s ∨ s + n ≤ j) : Kw K s n v j = K j := if_neg (by omega)
theorem Kw_i {s n : Nat} {v : Option Int32} {j : Nat} (h : s ≤ j) (h2 : j < s + n) : Kw K s n v j = v := if_pos ⟨h, h2⟩
/-- n plain places more -/
theorem SL_pu {lo hi d : Nat} {r : List Nat} (n : Nat) (h : SL K lo hi d r) : SL (Kw K hi n none) lo (hi + n) (d + n) r :=
  SL_push r hi d n (fun p h1 h2 => Kw_i h1 h2) (SL_eq r hi d (fun p h1 h2 => Kw_o (Or.inl h2)) h)
/-- plain places become slots; fewer marks -/
theorem SL_ms {lo hi d w n : Nat} {ms ms' : List Nat} (hm : ∀ i, i ∈ ms' → i < bsl → i ∈ ms) (h : SL K lo hi (d + n) ((bsl + w) :: ms)) : SL K lo hi d ((bsl + (w + n)) :: ms') := by
  obtain ⟨a1, a2, a3, a4⟩ := h.1 (Nat.le_add_right _ _)
  rw [Nat.add_sub_cancel_left] at a1 a2 a3 a4
  refine ⟨fun _ => ?_, fun c => absurd (Nat.le_add_right _ _) c, fun c => absurd (Nat.le_add_right _ _) c⟩
  rw [Nat.add_sub_cancel_left]
  refine ⟨fun i h1 h2 => ⟨by have := (a1 i (hm i h1 h2) h2).1; omega, (a1 i (hm i h1 h2) h2).2⟩, by omega, fun p h1 h2 => ?_, fun p h1 h2 => a4 p (by omega) h2⟩
  rcases Nat.lt_or_ge p (lo + w) with y | y
  · exact a3 p h1 y
  · exact Or.inl (a4 p y (by omega))
/-- slots are given up -/
theorem SL_ds {lo hi d w n : Nat} {ms ms' : List Nat} (hm : ∀ i, i ∈ ms' → i < bsl → i ∈ ms ∧ i % 500000 < w) (h : SL K lo hi d ((bsl + (w + n)) :: ms)) : n + d ≤ hi ∧ SL K lo (hi - (n + d)) 0 ((bsl + w) :: ms') := by
  obtain ⟨a1, a2, a3, a4⟩ := h.1 (Nat.le_add_right _ _)
  rw [Nat.add_sub_cancel_left] at a1 a2 a3 a4
  refine ⟨by omega, fun _ => ?_, fun c => absurd (Nat.le_add_right _ _) c, fun c => absurd (Nat.le_add_right _ _) c⟩
  rw [Nat.add_sub_cancel_left]
  exact ⟨fun i h1 h2 => ⟨(hm i h1 h2).2, (a1 i (hm i h1 h2).1 h2).2⟩, by omega, fun p h1 h2 => a3 p h1 (by omega), fun p h1 h2 => absurd h2 (by omega)⟩
/-- a tuple on top is pinned -/
theorem SL_mt {lo hi d w : Nat} {ms : List Nat} (h : SL K lo hi (d + 1) ((bsl + w) :: ms)) (hd : d < 250000) : SL (Kw K (hi - 1) 1 (some mkT)) lo hi 0 ((500000 + d) :: (bsl + w) :: ms) := by
  have le := (SL_le _ _ _ h).2
  have p1 : pk (500000 + d) = 1 := if_neg (by omega)
  have p2 : pm (500000 + d) = mkT := by unfold pm; rw [if_neg (by omega), if_pos (by omega)]
  have p3 : (500000 + d) % 250000 = d := by omega
  refine ⟨fun c => absurd c (by unfold bsl; omega), fun _ c5 => absurd c5 (by omega), fun _ _ => ⟨hi - 1, _, _, by rw [p1]; omega, ?_, rfl, fun p h1 h2 => ?_, fun p h1 h2 => absurd h2 (by rw [p1] at h1; omega)⟩⟩
  · rw [p3]
    exact SL_eq _ _ _ (fun p h1 h2 => Kw_o (Or.inl h2)) (SL_pop _ hi d 1 h)
  · rw [p1] at h2
    rw [p2]
    exact Kw_i h1 (by omega)
/-- and given up -/
theorem SL_dt {lo hi d v : Nat} {r : List Nat} (hd : v < 250000) (h : SL K lo hi d ((500000 + v) :: r)) : d + 1 + v ≤ hi ∧ SL K lo (hi - (d + 1 + v)) 0 r ∧ K (hi - 1 - d) = some mkT := by
  obtain ⟨b, e', r', a1, a2, a3, a4, a5⟩ := h.2.2 (by unfold bsl; omega) (by omega)
  have p1 : pk (500000 + v) = 1 := if_neg (by omega)
  have p2 : pm (500000 + v) = mkT := by unfold pm; rw [if_neg (by omega), if_pos (by omega)]
  have p3 : (500000 + v) % 250000 = v := by omega
  rw [p3] at a2
  rw [p1] at a1 a4
  rw [p2] at a4
  have le := (SL_le _ _ _ a2).2
  have z := SL_pop r b 0 v (by rw [Nat.zero_add]; exact a2)
  refine ⟨by omega, ?_, ?_⟩
  · rw [show hi - (d + 1 + v) = b - v from by omega]; exact z
  · rw [show hi - 1 - d = b from by omega]; exact a4 b (Nat.le_refl _) (by omega)
/-- a frame's head is laid -/
theorem SL_fr {lo hi d e' : Nat} {r' : List Nat} (h : SL K lo hi d (e' :: r')) (hd : d < 250000) : SL (Kw K hi 4 (some mkC)) lo (hi + 4) 0 ((250000 + d) :: e' :: r') := by
  have p1 : pk (250000 + d) = 4 := if_pos (by omega)
  have p2 : pm (250000 + d) = mkC := if_pos (by omega)
  have p3 : (250000 + d) % 250000 = d := by omega
  refine ⟨fun c => absurd c (by unfold bsl; omega), fun _ c5 => absurd c5 (by omega), fun _ _ => ⟨hi, _, _, by rw [p1], ?_, rfl, fun p h1 h2 => ?_, fun p h1 h2 => absurd h2 (by rw [p1] at h1; omega)⟩⟩
  · rw [p3]
    exact SL_eq _ _ _ (fun p h1 h2 => Kw_o (Or.inl h2)) h
  · rw [p1] at h2
    rw [p2]
    exact Kw_i h1 h2
/-- what lies below it and above it -/
theorem SL_rf {lo hi d v : Nat} {r : List Nat} (hd : v < 250000) (h : SL K lo hi d ((250000 + v) :: r)) : d + 4 ≤ hi ∧ SL K lo (hi - (d + 4)) v r ∧ (∀ p, hi - d ≤ p → p < hi → K p = none) ∧ lo + v + 4 + d ≤ hi ∧ ∃ e' r', r = e' :: r' := by
  obtain ⟨b, e', r', a1, a2, a3, a4, a5⟩ := h.2.2 (by unfold bsl; omega) (by omega)
  have p1 : pk (250000 + v) = 4 := if_pos (by omega)
  have p3 : (250000 + v) % 250000 = v := by omega
  rw [p3] at a2
  rw [p1] at a1 a5
  have le := (SL_le _ _ _ a2).2
  refine ⟨by omega, ?_, fun p h1 h2 => a5 p (by omega) h2, by omega, e', r', a3⟩
  rw [show hi - (d + 4) = b by omega]; exact a2
/-- a counter on top -/
theorem SL_ct {lo hi d e' : Nat} {r' : List Nat} (h : SL K lo hi d (e' :: r')) (hd : d < 250000) : SL (Kw K hi 1 (some mkC)) lo (hi + 1) 0 ((750000 + d) :: e' :: r') := by
  have p1 : pk (750000 + d) = 1 := if_neg (by omega)
  have p2 : pm (750000 + d) = mkC := by unfold pm; rw [if_neg (by omega), if_neg (by omega)]
  have p3 : (750000 + d) % 250000 = d := by omega
  refine ⟨fun c => absurd c (by unfold bsl; omega), fun _ c5 => absurd c5 (by omega), fun _ _ => ⟨hi, _, _, by rw [p1], ?_, rfl, fun p h1 h2 => ?_, fun p h1 h2 => absurd h2 (by rw [p1] at h1; omega)⟩⟩
  · rw [p3]
    exact SL_eq _ _ _ (fun p h1 h2 => Kw_o (Or.inl h2)) h
  · rw [p1] at h2
    rw [p2]
    exact Kw_i h1 h2
theorem SL_tc {lo hi v : Nat} {r : List Nat} (hd : v < 250000) (h : SL K lo hi 0 ((750000 + v) :: r)) : lo + v + 1 ≤ hi ∧ SL K lo (hi - 1) v r ∧ K (hi - 1) = some mkC := by
  obtain ⟨b, e', r', a1, a2, a3, a4, a5⟩ := h.2.2 (by unfold bsl; omega) (by omega)
  have p1 : pk (750000 + v) = 1 := if_neg (by omega)
  have p2 : pm (750000 + v) = mkC := by unfold pm; rw [if_neg (by omega), if_neg (by omega)]
  have p3 : (750000 + v) % 250000 = v := by omega
  rw [p3] at a2
  rw [p1] at a1 a4
  rw [p2] at a4
  have le := (SL_le _ _ _ a2).2
  have e : hi - 1 = b := by omega
  rw [e]
  exact ⟨by omega, a2, a4 b (Nat.le_refl _) (by omega)⟩
/-- a shape is another, too; n places are given up -/
def Rsh (d : Nat) (r : List Nat) (d' : Nat) (r' : List Nat) : Prop := (∀ (K : Nat → Option Int32) (lo hi : Nat), SL K lo hi d r → SL K lo hi d' r') ∧ ∀ (K : Nat → Option Int32) (pb m : Nat), PaM K pb m r → PaM K pb m r'
def Drp (n d : Nat) (r : List Nat) (d' : Nat) (r' : List Nat) : Prop := (∀ (K : Nat → Option Int32) (lo hi : Nat), SL K lo hi d r → n ≤ hi ∧ SL K lo (hi - n) d' r') ∧ ∀ (K : Nat → Option Int32) (pb m : Nat), PaM K pb m r → PaM K pb m r'
theorem Rsh_r (d : Nat) (r : List Nat) : Rsh d r d r := ⟨fun _ _ _ h => h, fun _ _ _ h => h⟩
theorem PaM_ms {pb m w w' : Nat} {ms ms' : List Nat} (hm : ∀ i, i ∈ ms' → bsl ≤ i → i ∈ ms) (h : PaM K pb m ((bsl + w) :: ms)) : PaM K pb m ((bsl + w') :: ms') := ⟨fun _ i h1 h2 => h.1 (Nat.le_add_right _ _) i (hm i h1 h2) h2, fun c => absurd (Nat.le_add_right _ _) c⟩
theorem Rsh_ms {d w n : Nat} {ms ms' : List Nat} (hm : ∀ i, i ∈ ms' → i ∈ ms) : Rsh (d + n) ((bsl + w) :: ms) d ((bsl + (w + n)) :: ms') := ⟨fun _ _ _ h => SL_ms (fun i h1 _ => hm i h1) h, fun _ _ _ h => PaM_ms (fun i h1 _ => hm i h1) h⟩
theorem Rsh_m0 {d w : Nat} {ms ms' : List Nat} (hm : ∀ i, i ∈ ms' → i ∈ ms) : Rsh d ((bsl + w) :: ms) d ((bsl + w) :: ms') := Rsh_ms (n := 0) hm
theorem Drp_pl {d n : Nat} (r : List Nat) : Drp n (d + n) r d r := ⟨fun _ _ _ h => ⟨by have := (SL_le _ _ _ h).2; omega, SL_pop _ _ _ _ h⟩, fun _ _ _ h => h⟩
theorem Drp_ds {d w n : Nat} {ms ms' : List Nat} (hm : ∀ i, i ∈ ms' → i ∈ ms ∧ (i < bsl → i % 500000 < w)) : Drp (n + d) d ((bsl + (w + n)) :: ms) 0 ((bsl + w) :: ms') := ⟨fun _ _ _ h => SL_ds (fun i h1 h2 => ⟨(hm i h1).1, (hm i h1).2 h2⟩) h, fun _ _ _ h => PaM_ms (fun i h1 _ => (hm i h1).1) h⟩
theorem Drp_dt {d v : Nat} {r : List Nat} (hv : v < 250000) : Drp (d + 1 + v) d ((500000 + v) :: r) 0 r := ⟨fun _ _ _ h => ⟨(SL_dt hv h).1, (SL_dt hv h).2.1⟩, fun _ _ _ h => h.2 (by unfold bsl; omega)⟩
/-- the same shape but for its marks -/
def Mrl (Q : Nat → List Nat → Prop) : List Nat → List Nat → Prop
  | [], r => r = []
  | e :: r', r => ∃ s, r = e :: s ∧ (bsl ≤ e → ∀ i, i ∈ r' → Q i s) ∧ (¬ bsl ≤ e → Mrl Q r' s)
theorem Mrl_bt {Q : Nat → List Nat → Prop} : ∀ (r' r : List Nat) (d : Nat), Mrl Q r' r → bt d r' = bt d r
  | [], r, d, h => by rw [show r = [] from h]
  | e :: r', r, d, h => by
    obtain ⟨s, h1, h2, h3⟩ := h
    rw [h1]
    show (if bsl ≤ e then e - bsl else bt (e / 2) r') = (if bsl ≤ e then e - bsl else bt (e / 2) s)
    by_cases q : bsl ≤ e
    · rw [if_pos q, if_pos q]
    · rw [if_neg q, if_neg q]
      exact Mrl_bt r' s (e / 2) (h3 q)
theorem Mrl_hd {Q : Nat → List Nat → Prop} {e0 : Nat} {ms r' s : List Nat} (h : Mrl Q r' s) (e : s = e0 :: ms) : ∃ ms', r' = e0 :: ms' := by
  cases r' with
  | nil =>
    have e0 : s = [] := h
    rw [e0] at e
    cases e
  | cons a r' =>
    obtain ⟨s', h1, _⟩ := h
    rw [e] at h1
    cases h1
    exact ⟨r', rfl⟩
/-- all marks; a mark -/
def AllM (P : Nat → Prop) : List Nat → Prop
  | [] => True
  | e :: r => (bsl ≤ e → ∀ i, i ∈ r → P i) ∧ (¬ bsl ≤ e → AllM P r)
def HasM (x : Nat) : List Nat → Prop
  | [] => False
  | e :: r => (bsl ≤ e → x ∈ r) ∧ (¬ bsl ≤ e → HasM x r)
theorem Mrl_rf {P : Nat → Prop} : ∀ r : List Nat, AllM P r → Mrl (fun i s => i ∈ s ∧ P i) r r
  | [], _ => rfl
  | e :: r, h => ⟨r, rfl, fun c i hi => ⟨hi, h.1 c i hi⟩, fun c => Mrl_rf r (h.2 c)⟩
theorem PaM_has {pb m x : Nat} (hx : x < 500000) : ∀ r : List Nat, PaM K4 pb m r → HasM (bsl + x) r → x < m ∧ K4 (pb + x) = some mkR
  | [], _, h => absurd h id
  | e :: r, p, h => by
    by_cases c : bsl ≤ e
    · have z := p.1 c (bsl + x) (h.1 c) (Nat.le_add_right _ _)
      rw [Nat.add_sub_cancel_left, Nat.mod_eq_of_lt hx] at z
      exact ⟨z.1, z.2.1 hx⟩
    · exact PaM_has hx r (p.2 c) (h.2 c)
theorem PaM_hv {pb m x : Nat} (hx : x < 500000) : ∀ r : List Nat, PaM K4 pb m r → HasM (bsl + 500000 + x) r → x < m ∧ (K4 (pb + x) = none ∨ K4 (pb + x) = some mkR)
  | [], _, h => absurd h id
  | e :: r, p, h => by
    by_cases c : bsl ≤ e
    · have z := p.1 c (bsl + 500000 + x) (h.1 c) (by omega)
      have e1 : (bsl + 500000 + x - bsl) % 500000 = x := by omega
      rw [e1] at z
      exact ⟨z.1, z.2.2⟩
    · exact PaM_hv hx r (p.2 c) (h.2 c)
theorem SL_has {lo n : Nat} (hn : n < 500000) : ∀ (r : List Nat) (hi d : Nat), SL K lo hi d r → HasM n r → n < bt d r ∧ K (lo + n) = some mkR
  | [], hi, d, q, h => absurd h id
  | e :: r, hi, d, q, h => by
    by_cases c : bsl ≤ e
    · have z := (q.1 c).1 n (h.1 c) (by unfold bsl; omega)
      rw [Nat.mod_eq_of_lt hn] at z
      exact ⟨by show n < (if bsl ≤ e then e - bsl else bt (e / 2) r); rw [if_pos c]; exact z.1, z.2.1 hn⟩
    · by_cases c5 : e < 250000
      · obtain ⟨b, m, z, a1, a2, _⟩ := q.2.1 c c5
        have y := SL_has hn r b (e / 2) a2 (h.2 c)
        exact ⟨by show n < (if bsl ≤ e then e - bsl else bt (e / 2) r); rw [if_neg c]; exact y.1, y.2⟩
      · obtain ⟨b, e', r', a1, a2, a3, _⟩ := q.2.2 c c5
        have y := SL_has hn r b (e % 250000) a2 (h.2 c)
        have eb2 : bt (e / 2) r = bt (e % 250000) r := by rw [a3]; exact bt_c _ _ _ _
        exact ⟨by show n < (if bsl ≤ e then e - bsl else bt (e / 2) r); rw [if_neg c, eb2]; exact y.1, y.2⟩
theorem SL_hv {lo n : Nat} (hn : n < 500000) : ∀ (r : List Nat) (hi d : Nat), SL K lo hi d r → HasM (500000 + n) r → n < bt d r ∧ (K (lo + n) = none ∨ K (lo + n) = some mkR)
  | [], hi, d, q, h => absurd h id
  | e :: r, hi, d, q, h => by
    by_cases c : bsl ≤ e
    · have z := (q.1 c).1 (500000 + n) (h.1 c) (by unfold bsl; omega)
      have e1 : (500000 + n) % 500000 = n := by omega
      rw [e1] at z
      exact ⟨by show n < (if bsl ≤ e then e - bsl else bt (e / 2) r); rw [if_pos c]; exact z.1, z.2.2⟩
    · by_cases c5 : e < 250000
      · obtain ⟨b, m, z, a1, a2, _⟩ := q.2.1 c c5
        have y := SL_hv hn r b (e / 2) a2 (h.2 c)
        exact ⟨by show n < (if bsl ≤ e then e - bsl else bt (e / 2) r); rw [if_neg c]; exact y.1, y.2⟩
      · obtain ⟨b, e', r', a1, a2, a3, _⟩ := q.2.2 c c5
        have y := SL_hv hn r b (e % 250000) a2 (h.2 c)
        have eb2 : bt (e / 2) r = bt (e % 250000) r := by rw [a3]; exact bt_c _ _ _ _
        exact ⟨by show n < (if bsl ≤ e then e - bsl else bt (e / 2) r); rw [if_neg c, eb2]; exact y.1, y.2⟩
/-- a value by its mark -/
theorem Rwk_v {f : Nat → Int32} {s j : Nat} (h : Rwk g M K f s) (hj : j < s) (k : K j = none ∨ K j = some mkR) : Gv g (f j) := by
  rcases k with k | k
  · exact (h j hj).2.1 k
  · rcases (h j hj).2.2 _ k with z | z | z | z
    · have y : 4026531840 ≤ uN mkR := z.2
      exact absurd y (by decide)
    · exact z.2.1
    · exact absurd z.1 (by decide)
    · exact absurd z (by decide)
/-- code, as it is checked: its ints, how many; where units begin, their params, their slots; which are funcs; shapes and ranks -/
abbrev Ct := (Nat → Int32) × Nat × (Nat → Nat) × (Nat → Nat) × (Nat → Nat) × (Nat → Prop) × (Nat → Option (Nat × Nat × List Nat × Nat))
abbrev tcC (c : Ct) : Nat → Int32 := c.1
abbrev tcN (c : Ct) : Nat := c.2.1
abbrev tcE (c : Ct) : Nat → Nat := c.2.2.1
abbrev tcP (c : Ct) : Nat → Nat := c.2.2.2.1
abbrev tcF (c : Ct) : Nat → Nat := c.2.2.2.2.1
abbrev tcK (c : Ct) : Nat → Prop := c.2.2.2.2.2.1
abbrev tcD (c : Ct) : Nat → Option (Nat × Nat × List Nat × Nat) := c.2.2.2.2.2.2
/-- a unit of statements -/
def tcS (c : Ct) (u : Nat) : Prop := ¬ tcK c u ∧ ¬ u = 41
/-- no rank is higher -/
def RK : Nat := 40000
/-- frames that wait: fp, unit, shape, slots passed, funcs, procs, ranks -/
abbrev FrT := Nat × Nat × Nat × List Nat × Nat × Nat × Nat × Nat
def FC (c : Ct) (K K4 : Nat → Option Int32) (f0 u0 : Nat) : List FrT → Nat → Nat → Nat → Nat → Nat → Nat → Prop
  | [], fp, u, pb, nf, nc, sq => fp = f0 ∧ u = u0 ∧ pb = 0 ∧ nf = 0 ∧ nc = 0 ∧ sq = 0
  | q :: fs, fp, u, pb, nf, nc, sq => (∃ (bk rb : Nat) (z2 z3 : Int32), (K fp = some (rwN bk) ∧ K (fp + 1) = some (rwN q.1) ∧ K (fp + 2) = some z2 ∧ K (fp + 3) = some z3) ∧ (Rr z2 ∧ Rr z3 ∧ bk < 268435456) ∧ SL K (q.1 + 4) fp q.2.2.1 q.2.2.2.1 ∧ tcF c q.2.1 ≤ bt q.2.2.1 q.2.2.2.1 ∧ tcP c u ≤ tcF c u ∧ (rb ≤ RK ∧ q.2.1 < 42) ∧ ((tcK c u ∧ tcD c bk = some (q.2.1, q.2.2.1 + 1, q.2.2.2.1, rb) ∧ pb = q.2.2.2.2.1 + uN z3 % 268435456 ∧ uN z3 % 268435456 ≤ 180 ∧ nf = q.2.2.2.2.2.1 + 1 ∧ nc = q.2.2.2.2.2.2.1 ∧ sq = q.2.2.2.2.2.2.2 ∧ PaM K4 q.2.2.2.2.1 (uN z3 % 268435456) q.2.2.2.1) ∨ (tcS c u ∧ tcS c q.2.1 ∧ (1 ≤ u ∧ u < 41) ∧ tcD c bk = some (q.2.1, q.2.2.1 + 1 + tcP c u, q.2.2.2.1, rb) ∧ (q.2.2.1 = 0 ∧ ∃ (w : Nat) (ms : List Nat), w ≤ 200 ∧ q.2.2.2.1 = (bsl + w) :: ms ∧ ∀ i, i ∈ ms → i < bsl) ∧ z2 = rwN u ∧ pb = q.2.2.2.2.1 ∧ nf = q.2.2.2.2.2.1 ∧ nc = q.2.2.2.2.2.2.1 + 1 ∧ sq = q.2.2.2.2.2.2.2 + rb))) ∧ FC c K K4 f0 u0 fs q.1 q.2.1 q.2.2.2.2.1 q.2.2.2.2.2.1 q.2.2.2.2.2.2.1 q.2.2.2.2.2.2.2
theorem FC_eq {c : Ct} {f0 u0 : Nat} : ∀ (fs : List FrT) (fp u pb nf nc sq : Nat), (∀ p, f0 ≤ p → p < fp + 4 → K' p = K p) → (∀ p, p < pb → K3 p = K2 p) → f0 ≤ fp → FC c K K2 f0 u0 fs fp u pb nf nc sq → (∀ q, q ∈ fs → f0 ≤ q.1) → FC c K' K3 f0 u0 fs fp u pb nf nc sq
  | [], fp, u, pb, nf, nc, sq, e, e4, h0, h, _ => h
  | q :: fs, fp, u, pb, nf, nc, sq, e, e4, h0, h, hq => by
    obtain ⟨⟨bk, rb, z2, z3, ⟨a1, a2, a3, a4⟩, b, s, r1, r2, r3, kk⟩, w⟩ := h
    have sl := (SL_le _ _ _ s).2
    have q0 := hq q List.mem_cons_self
    have qp : q.2.2.2.2.1 ≤ pb := by
      rcases kk with k | k
      · have := k.2.2.1
        omega
      · have := k.2.2.2.2.2.2.1
        omega
    refine ⟨⟨bk, rb, z2, z3, ⟨(e _ h0 (by omega)).trans a1, (e _ (by omega) (by omega)).trans a2, (e _ (by omega) (by omega)).trans a3, (e _ (by omega) (by omega)).trans a4⟩, b, SL_eq _ _ _ (fun p h1 h2 => e p (by omega) (by omega)) s, r1, r2, r3, ?_⟩, ?_⟩
    · rcases kk with ⟨k1, k2, k3, k4, k5, k6, k7, k8⟩ | k
      · exact Or.inl ⟨k1, k2, k3, k4, k5, k6, k7, PaM_eq (fun p h1 h2 => e4 p (by omega)) _ k8⟩
      · exact Or.inr k
    · exact FC_eq fs q.1 _ _ _ _ _ (fun p h1 h2 => e p h1 (by omega)) (fun p hp => e4 p (by omega)) q0 w (fun q' h' => hq q' (List.mem_cons_of_mem _ h'))
theorem FC_f0 {c : Ct} {f0 u0 : Nat} : ∀ (fs : List FrT) (fp u pb nf nc sq : Nat), FC c K K4 f0 u0 fs fp u pb nf nc sq → f0 ≤ fp ∧ ∀ q, q ∈ fs → f0 ≤ q.1
  | [], fp, u, pb, nf, nc, sq, h => ⟨by have e := h.1; omega, fun q hq => absurd hq List.not_mem_nil⟩
  | q :: fs, fp, u, pb, nf, nc, sq, h => by
    obtain ⟨⟨bk, rb, z2, z3, a, b, s, r⟩, w⟩ := h
    have sl := (SL_le _ _ _ s).2
    have z := FC_f0 fs _ _ _ _ _ _ w
    refine ⟨by omega, fun q' h' => ?_⟩
    rcases List.mem_cons.1 h' with e | e
    · rw [e]; exact z.1
    · exact z.2 q' e
/-- the same frames, where nothing below is touched -/
theorem FC_k {c : Ct} {f0 u0 fp u pb nf nc sq : Nat} {fs : List FrT} (h : FC c K K4 f0 u0 fs fp u pb nf nc sq) (e : ∀ p, p < fp + 4 → K' p = K p) (e4 : ∀ p, p < pb → K4' p = K4 p) : FC c K' K4' f0 u0 fs fp u pb nf nc sq := by
  have z := FC_f0 fs fp u pb nf nc sq h
  exact FC_eq fs fp u pb nf nc sq (fun p _ h2 => e p h2) e4 z.1 h z.2
theorem FC_b {c : Ct} {f0 u0 : Nat} : ∀ (fs : List FrT) (fp u pb nf nc sq : Nat), FC c K K4 f0 u0 fs fp u pb nf nc sq → pb ≤ 180 * nf ∧ sq ≤ nc * RK ∧ (tcS c u → nf = 0 ∧ pb = 0 ∧ fp ≤ f0 + 204 * nc)
  | [], fp, u, pb, nf, nc, sq, h => by
    obtain ⟨h1, h2, h3, h4, h5, h6⟩ := h
    exact ⟨by omega, by rw [h6]; exact Nat.zero_le _, fun _ => ⟨h4, h3, by omega⟩⟩
  | q :: fs, fp, u, pb, nf, nc, sq, h => by
    obtain ⟨⟨bk, rb, z2, z3, a, b, s, f1, f2, f3, r⟩, w⟩ := h
    have z := FC_b fs _ _ _ _ _ _ w
    rcases r with ⟨k1, k2, k3, k4, k5, k6, k7, _⟩ | ⟨k1, k2, k3, k4, k5, k6, k7, k8, k9, k10⟩
    · exact ⟨by omega, by rw [k6, k7]; exact z.2.1, fun cs => absurd k1 cs.1⟩
    · have y := z.2.2 k2
      obtain ⟨k50, w5, ms5, k52, k53, _⟩ := k5
      have sl : fp = q.1 + 4 + w5 := by
        rw [k50, k53] at s
        exact (SL_0 s).1
      have y2 := z.2.1
      refine ⟨by omega, ?_, fun _ => ⟨by omega, by omega, by omega⟩⟩
      rw [k9, Nat.add_mul, Nat.one_mul]
      omega
theorem FC_B {c : Ct} {f0 u0 : Nat} : ∀ (fs : List FrT) (fp u pb nf nc sq : Nat), FC c K K4 f0 u0 fs fp u pb nf nc sq → (fp = f0 ∧ u = u0) ∨ f0 + 4 + tcF c u0 ≤ fp
  | [], fp, u, pb, nf, nc, sq, h => Or.inl ⟨h.1, h.2.1⟩
  | q :: fs, fp, u, pb, nf, nc, sq, h => by
    obtain ⟨⟨bk, rb, z2, z3, a, b, s, f1, r⟩, w⟩ := h
    have sl := SL_le _ _ _ s
    right
    rcases FC_B fs _ _ _ _ _ _ w with e | e
    · rw [← e.1, ← e.2]
      omega
    · omega
/-- what the program's own frame has: a head, then values -/
def KH : Nat → Option Int32 := fun j => if j < 4 then some mkC else none
theorem KH_n {j : Nat} (h : 4 ≤ j) : KH j = none := if_neg (by omega)
theorem KH_c {j : Nat} (h : j < 4) : KH j = some mkC := if_pos h
theorem KH_o (j : Nat) : KH j = none ∨ KH j = some mkC := by
  rcases Nat.lt_or_ge j 4 with h | h
  · exact Or.inr (KH_c h)
  · exact Or.inl (KH_n h)
/-- a point's stack, or a saved one's: between statements -/
def RUN (c : Ct) (K : Nat → Option Int32) (pc fp sp nc m : Nat) : Prop := ∃ (u d rk sq : Nat) (fs : List FrT) (ms : List Nat), (tcD c pc = some (u, m, (bsl + d) :: ms, rk) ∧ ∀ i, i ∈ ms → i < bsl) ∧ rk ≤ RK ∧ SL K (fp + 4) sp 0 ((bsl + d) :: ms) ∧ d ≤ 200 ∧ tcF c u ≤ d ∧ tcS c u ∧ u < 41 ∧ FC c K KN 0 0 fs fp u 0 0 nc sq ∧ nc ≤ 50 ∧ pc < 268435456 ∧ (4 + tcF c 0 ≤ sp ∧ ∀ j, j < 4 + tcF c 0 → K j = KH j)
theorem RUN_sp {c : Ct} {pc fp sp nc m : Nat} (h : RUN c K pc fp sp nc m) : sp ≤ 10404 ∧ fp + 4 ≤ sp := by
  obtain ⟨u, d, rk, sq, fs, ms, h1, h2, h3, h4, h5, h6, h7, h8, h9, h10⟩ := h
  have z := (FC_b fs _ _ _ _ _ _ h8).2.2 h6
  have e := (SL_0 h3).1
  omega
theorem RUN_eq {c : Ct} {pc fp sp nc m : Nat} (h : RUN c K pc fp sp nc m) (e : ∀ p, p < sp → K' p = K p) : RUN c K' pc fp sp nc m := by
  have q := RUN_sp h
  obtain ⟨u, d, rk, sq, fs, ms, h1, h2, h3, h4, h5, h6, h7, h8, h9, h10⟩ := h
  exact ⟨u, d, rk, sq, fs, ms, h1, h2, SL_eq _ _ _ (fun p _ h => e p h) h3, h4, h5, h6, h7, FC_k h8 (fun p hp => e p (by omega)) (fun _ _ => rfl), h9, h10.1, h10.2.1, fun j hj => (e j (by have := h10.2.1; omega)).trans (h10.2.2 j hj)⟩
/-- the points; N: no stack among them is longer -/
def POK (c : Ct) (K : Nat → Option Int32) (N : Nat) : Nat → Nat → Prop
  | 0, _ => True
  | n + 1, top => ∃ (off pc fp sp nc : Nat) (z4 z5 : Int32), top = off + sp + 6 ∧ (K (off + sp) = some (rwN pc) ∧ K (off + sp + 1) = some (rwN fp) ∧ K (off + sp + 2) = some (rwN sp) ∧ K (off + sp + 3) = some (rwN nc) ∧ K (off + sp + 4) = some z4 ∧ K (off + sp + 5) = some z5) ∧ (Rr z4 ∧ Rr z5 ∧ sp ≤ N) ∧ RUN c (fun j => K (off + j)) pc fp sp nc 1 ∧ POK c K N n off
theorem POK_eq {c : Ct} {N N' : Nat} (hN : N ≤ N') : ∀ (n top : Nat), (∀ p, p < top → K' p = K p) → POK c K N n top → POK c K' N' n top
  | 0, top, e, h => trivial
  | n + 1, top, e, h => by
    obtain ⟨off, pc, fp, sp, nc, z4, z5, h1, ⟨a0, a1, a2, a3, a4, a5⟩, h3, h4, h5⟩ := h
    exact ⟨off, pc, fp, sp, nc, z4, z5, h1, ⟨(e _ (by omega)).trans a0, (e _ (by omega)).trans a1, (e _ (by omega)).trans a2, (e _ (by omega)).trans a3, (e _ (by omega)).trans a4, (e _ (by omega)).trans a5⟩, ⟨h3.1, h3.2.1, by omega⟩, RUN_eq h4 (fun p hp => e _ (by omega)), POK_eq hN n off (fun p hp => e p (by omega)) h5⟩
end CSQ
