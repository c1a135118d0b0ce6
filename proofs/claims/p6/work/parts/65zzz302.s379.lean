/-! The class: shapes of the stack. -/
section CSQ
variable {g g' g2 : Nat → Prop} {l l' l2 : List Nat} {t t' t2 : Nat} {σ σ' σ2 : CS} {L : LV} {x y i : Int32} {M M' U U' : Nat → Int32} {K K' K2 K3 K4 K4' : Nat → Option Int32}
/-- a frame's slots -/
def bsl : Nat := 1000000
/-- slots, or plain places, at the bottom -/
def bt : Nat → List Nat → Nat
  | d, [] => d
  | _, e :: r => if bsl ≤ e then e - bsl else bt (e / 2) r
/-- a part of the stack: d plain places on top; below them what is gathered, with its numbers, and so on; or the frame's slots -/
def SL (K : Nat → Option Int32) (lo : Nat) : Nat → Nat → List Nat → Prop
  | hi, d, [] => hi = lo + d ∧ ∀ p, lo ≤ p → p < hi → K p = none
  | hi, d, e :: r => (bsl ≤ e → (∀ i, i ∈ r → i < bsl → i < e - bsl ∧ K (lo + i) = some mkR) ∧ hi = lo + (e - bsl) + d ∧ (∀ p, lo ≤ p → p < lo + (e - bsl) → K p = none ∨ K p = some mkR) ∧ ∀ p, lo + (e - bsl) ≤ p → p < hi → K p = none) ∧ (¬ bsl ≤ e → ∃ (b n : Nat) (z : Int32), hi = b + n + 2 + d ∧ SL K lo b (e / 2) r ∧ (∀ p, b ≤ p → p < b + n → K p = none) ∧ K (b + n) = some (rwN n) ∧ K (b + n + 1) = some z ∧ (Rw z ∧ (e % 2 = 1 → 1000 < uN z % 268435456 → 1 ≤ n)) ∧ ∀ p, b + n + 2 ≤ p → p < hi → K p = none)
theorem SL_le {lo : Nat} : ∀ (r : List Nat) (hi d : Nat), SL K lo hi d r → lo + bt d r ≤ hi ∧ lo + d ≤ hi
  | [], hi, d, h => by
    have e := h.1
    exact ⟨by show lo + d ≤ hi; omega, by omega⟩
  | e :: r, hi, d, h => by
    by_cases c : bsl ≤ e
    · have h1 := (h.1 c).2.1
      exact ⟨by show lo + (if bsl ≤ e then e - bsl else bt (e / 2) r) ≤ hi; rw [if_pos c]; omega, by omega⟩
    · obtain ⟨b, n, z, h1, h2, _⟩ := h.2 c
      have q := SL_le r b (e / 2) h2
      exact ⟨by show lo + (if bsl ≤ e then e - bsl else bt (e / 2) r) ≤ hi; rw [if_neg c]; omega, by omega⟩
theorem SL_top {lo : Nat} : ∀ (r : List Nat) (hi d : Nat), SL K lo hi d r → ∀ p, hi ≤ p + d → p < hi → K p = none
  | [], hi, d, h, p, h1, h2 => h.2 p (by have e := h.1; omega) h2
  | e :: r, hi, d, h, p, h1, h2 => by
    by_cases c : bsl ≤ e
    · obtain ⟨a1, a2, a3, a4⟩ := h.1 c
      exact a4 p (by omega) h2
    · obtain ⟨b, n, z, a1, a2, a3, a4, a5, a6, a7⟩ := h.2 c
      exact a7 p (by omega) h2
theorem SL_eq {lo : Nat} : ∀ (r : List Nat) (hi d : Nat), (∀ p, lo ≤ p → p < hi → K' p = K p) → SL K lo hi d r → SL K' lo hi d r
  | [], hi, d, e, h => ⟨h.1, fun p h1 h2 => (e p h1 h2).trans (h.2 p h1 h2)⟩
  | f :: r, hi, d, e, h => by
    refine ⟨fun c => ?_, fun c => ?_⟩
    · obtain ⟨a1, a2, a3, a4⟩ := h.1 c
      exact ⟨fun i h1 h2 => ⟨(a1 i h1 h2).1, by rw [e (lo + i) (by omega) (by have := (a1 i h1 h2).1; omega)]; exact (a1 i h1 h2).2⟩, a2, fun p h1 h2 => by rw [e p h1 (by omega)]; exact a3 p h1 h2, fun p h1 h2 => by rw [e p (by omega) h2]; exact a4 p h1 h2⟩
    · obtain ⟨b, n, z, a1, a2, a3, a4, a5, a6, a7⟩ := h.2 c
      have q := (SL_le r b (f / 2) a2).2
      exact ⟨b, n, z, a1, SL_eq r b (f / 2) (fun p h1 h2 => e p h1 (by omega)) a2, fun p h1 h2 => (e p (by omega) (by omega)).trans (a3 p h1 h2), (e _ (by omega) (by omega)).trans a4, (e _ (by omega) (by omega)).trans a5, a6, fun p h1 h2 => (e p (by omega) h2).trans (a7 p h1 h2)⟩
theorem SL_pop {lo : Nat} : ∀ (r : List Nat) (hi d n : Nat), SL K lo hi (d + n) r → SL K lo (hi - n) d r
  | [], hi, d, n, h => ⟨by have e := h.1; omega, fun p h1 h2 => h.2 p h1 (by omega)⟩
  | f :: r, hi, d, n, h => by
    refine ⟨fun c => ?_, fun c => ?_⟩
    · obtain ⟨a1, a2, a3, a4⟩ := h.1 c
      exact ⟨a1, by omega, a3, fun p h1 h2 => a4 p h1 (by omega)⟩
    · obtain ⟨b, m, z, a1, a2, a3, a4, a5, a6, a7⟩ := h.2 c
      exact ⟨b, m, z, by omega, a2, a3, a4, a5, a6, fun p h1 h2 => a7 p h1 (by omega)⟩
theorem SL_push {lo : Nat} : ∀ (r : List Nat) (hi d n : Nat), (∀ p, hi ≤ p → p < hi + n → K p = none) → SL K lo hi d r → SL K lo (hi + n) (d + n) r
  | [], hi, d, n, hn, h => ⟨by have e := h.1; omega, fun p h1 h2 => by
      rcases Nat.lt_or_ge p hi with c | c
      · exact h.2 p h1 c
      · exact hn p c h2⟩
  | f :: r, hi, d, n, hn, h => by
    refine ⟨fun c => ?_, fun c => ?_⟩
    · obtain ⟨a1, a2, a3, a4⟩ := h.1 c
      refine ⟨a1, by omega, a3, fun p h1 h2 => ?_⟩
      rcases Nat.lt_or_ge p hi with y | y
      · exact a4 p h1 y
      · exact hn p y h2
    · obtain ⟨b, m, z, a1, a2, a3, a4, a5, a6, a7⟩ := h.2 c
      refine ⟨b, m, z, by omega, a2, a3, a4, a5, a6, fun p h1 h2 => ?_⟩
      rcases Nat.lt_or_ge p hi with y | y
      · exact a7 p h1 y
      · exact hn p y h2
/-- slots alone -/
theorem SL_0 {lo hi w d : Nat} {ms : List Nat} (h : SL K lo hi d ((bsl + w) :: ms)) : hi = lo + w + d ∧ (∀ p, lo ≤ p → p < lo + w → K p = none ∨ K p = some mkR) := by
  obtain ⟨a1, a2, a3, a4⟩ := h.1 (Nat.le_add_right _ _)
  rw [Nat.add_sub_cancel_left] at a2 a3
  exact ⟨a2, a3⟩
theorem SL_mk {lo hi w d : Nat} (e : hi = lo + w + d) (h : ∀ p, lo ≤ p → p < lo + w → K p = none ∨ K p = some mkR) (h2 : ∀ p, lo + w ≤ p → p < hi → K p = none) : SL K lo hi d [bsl + w] := by
  refine ⟨fun _ => ⟨fun i h => absurd h List.not_mem_nil, ?_, ?_, ?_⟩, fun c => absurd (Nat.le_add_right _ _) c⟩
  · rw [Nat.add_sub_cancel_left]; exact e
  · rw [Nat.add_sub_cancel_left]; exact h
  · rw [Nat.add_sub_cancel_left]; exact h2
/-- what exps go over: marked among the slots that are passed -/
def PaM (K : Nat → Option Int32) (pb m : Nat) : List Nat → Prop
  | [] => True
  | e :: r => (bsl ≤ e → ∀ i, i ∈ r → bsl ≤ i → i < bsl + m ∧ K (pb + (i - bsl)) = some mkR) ∧ (¬ bsl ≤ e → PaM K pb m r)
theorem PaM_eq {pb m : Nat} (h : ∀ p, pb ≤ p → p < pb + m → K' p = K p) : ∀ r : List Nat, PaM K pb m r → PaM K' pb m r
  | [], _ => trivial
  | e :: r, q => ⟨fun c i h1 h2 => ⟨(q.1 c i h1 h2).1, by
      have z := q.1 c i h1 h2
      rw [h _ (by omega) (by omega)]; exact z.2⟩, fun c => PaM_eq h r (q.2 c)⟩
theorem PaM_0 {pb m w : Nat} {ms : List Nat} (h : ∀ i, i ∈ ms → i < bsl) : PaM K pb m ((bsl + w) :: ms) := ⟨fun _ i h1 h2 => absurd (h i h1) (by omega), fun c => absurd (Nat.le_add_right _ _) c⟩
theorem bt_0 (d w : Nat) (ms : List Nat) : bt d ((bsl + w) :: ms) = w := by
  show (if bsl ≤ bsl + w then bsl + w - bsl else bt ((bsl + w) / 2) ms) = w
  rw [if_pos (Nat.le_add_right _ _), Nat.add_sub_cancel_left]
/-- places written: pinned or not -/
def Kw (K : Nat → Option Int32) (s n : Nat) (v : Option Int32) : Nat → Option Int32 := fun j => if s ≤ j ∧ j < s + n then v else K j
theorem Kw_o {s n : Nat} {v : Option Int32} {j : Nat} (h : j < s ∨ s + n ≤ j) : Kw K s n v j = K j := if_neg (by omega)
theorem Kw_i {s n : Nat} {v : Option Int32} {j : Nat} (h : s ≤ j) (h2 : j < s + n) : Kw K s n v j = v := if_pos ⟨h, h2⟩
/-- n plain places more -/
theorem SL_pu {lo hi d : Nat} {r : List Nat} (n : Nat) (h : SL K lo hi d r) : SL (Kw K hi n none) lo (hi + n) (d + n) r :=
  SL_push r hi d n (fun p h1 h2 => Kw_i h1 h2) (SL_eq r hi d (fun p h1 h2 => Kw_o (Or.inl h2)) h)
/-- code, as it is checked: its ints, how many; where units begin, their params, their slots; which are funcs; shapes and ranks -/
abbrev Ct := (Nat → Int32) × Nat × (Nat → Nat) × (Nat → Nat) × (Nat → Nat) × (Nat → Prop) × (Nat → Option (Nat × Nat × List Nat × Nat))
abbrev tcC (c : Ct) : Nat → Int32 := c.1
abbrev tcN (c : Ct) : Nat := c.2.1
abbrev tcE (c : Ct) : Nat → Nat := c.2.2.1
abbrev tcP (c : Ct) : Nat → Nat := c.2.2.2.1
abbrev tcF (c : Ct) : Nat → Nat := c.2.2.2.2.1
abbrev tcK (c : Ct) : Nat → Prop := c.2.2.2.2.2.1
abbrev tcD (c : Ct) : Nat → Option (Nat × Nat × List Nat × Nat) := c.2.2.2.2.2.2
/-- a unit of statements -/
def tcS (c : Ct) (u : Nat) : Prop := ¬ tcK c u ∧ ¬ u = 41
/-- no rank is higher -/
def RK : Nat := 18600000
/-- frames that wait: fp, unit, shape, slots passed, funcs, procs, ranks -/
abbrev FrT := Nat × Nat × Nat × List Nat × Nat × Nat × Nat × Nat
def FC (c : Ct) (K K4 : Nat → Option Int32) (f0 u0 : Nat) : List FrT → Nat → Nat → Nat → Nat → Nat → Nat → Prop
  | [], fp, u, pb, nf, nc, sq => fp = f0 ∧ u = u0 ∧ pb = 0 ∧ nf = 0 ∧ nc = 0 ∧ sq = 0
  | q :: fs, fp, u, pb, nf, nc, sq => (∃ (bk rb : Nat) (z2 z3 : Int32), (K fp = some (rwN bk) ∧ K (fp + 1) = some (rwN q.1) ∧ K (fp + 2) = some z2 ∧ K (fp + 3) = some z3) ∧ (Rw z2 ∧ Rw z3 ∧ bk < 268435456) ∧ SL K (q.1 + 4) fp q.2.2.1 q.2.2.2.1 ∧ tcF c q.2.1 ≤ bt q.2.2.1 q.2.2.2.1 ∧ tcP c u ≤ tcF c u ∧ (rb ≤ RK ∧ q.2.1 < 42) ∧ ((tcK c u ∧ tcD c bk = some (q.2.1, q.2.2.1 + 1, q.2.2.2.1, rb) ∧ pb = q.2.2.2.2.1 + uN z3 % 268435456 ∧ uN z3 % 268435456 ≤ 180 ∧ nf = q.2.2.2.2.2.1 + 1 ∧ nc = q.2.2.2.2.2.2.1 ∧ sq = q.2.2.2.2.2.2.2 ∧ PaM K4 q.2.2.2.2.1 (uN z3 % 268435456) q.2.2.2.1) ∨ (tcS c u ∧ tcS c q.2.1 ∧ (1 ≤ u ∧ u < 41) ∧ tcD c bk = some (q.2.1, q.2.2.1 + 1 + tcP c u, q.2.2.2.1, rb) ∧ (q.2.2.1 = 0 ∧ ∃ (w : Nat) (ms : List Nat), w ≤ 200 ∧ q.2.2.2.1 = (bsl + w) :: ms ∧ ∀ i, i ∈ ms → i < bsl) ∧ z2 = rwN u ∧ pb = q.2.2.2.2.1 ∧ nf = q.2.2.2.2.2.1 ∧ nc = q.2.2.2.2.2.2.1 + 1 ∧ sq = q.2.2.2.2.2.2.2 + rb))) ∧ FC c K K4 f0 u0 fs q.1 q.2.1 q.2.2.2.2.1 q.2.2.2.2.2.1 q.2.2.2.2.2.2.1 q.2.2.2.2.2.2.2
theorem FC_eq {c : Ct} {f0 u0 : Nat} : ∀ (fs : List FrT) (fp u pb nf nc sq : Nat), (∀ p, f0 ≤ p → p < fp + 4 → K' p = K p) → (∀ p, p < pb → K3 p = K2 p) → f0 ≤ fp → FC c K K2 f0 u0 fs fp u pb nf nc sq → (∀ q, q ∈ fs → f0 ≤ q.1) → FC c K' K3 f0 u0 fs fp u pb nf nc sq
  | [], fp, u, pb, nf, nc, sq, e, e4, h0, h, _ => h
  | q :: fs, fp, u, pb, nf, nc, sq, e, e4, h0, h, hq => by
    obtain ⟨⟨bk, rb, z2, z3, ⟨a1, a2, a3, a4⟩, b, s, r1, r2, r3, kk⟩, w⟩ := h
    have sl := (SL_le _ _ _ s).2
    have q0 := hq q List.mem_cons_self
    have qp : q.2.2.2.2.1 ≤ pb := by
      rcases kk with k | k
      · have := k.2.2.1
        omega
      · have := k.2.2.2.2.2.2.1
        omega
    refine ⟨⟨bk, rb, z2, z3, ⟨(e _ h0 (by omega)).trans a1, (e _ (by omega) (by omega)).trans a2, (e _ (by omega) (by omega)).trans a3, (e _ (by omega) (by omega)).trans a4⟩, b, SL_eq _ _ _ (fun p h1 h2 => e p (by omega) (by omega)) s, r1, r2, r3, ?_⟩, ?_⟩
    · rcases kk with ⟨k1, k2, k3, k4, k5, k6, k7, k8⟩ | k
      · exact Or.inl ⟨k1, k2, k3, k4, k5, k6, k7, PaM_eq (fun p h1 h2 => e4 p (by omega)) _ k8⟩
      · exact Or.inr k
    · exact FC_eq fs q.1 _ _ _ _ _ (fun p h1 h2 => e p h1 (by omega)) (fun p hp => e4 p (by omega)) q0 w (fun q' h' => hq q' (List.mem_cons_of_mem _ h'))
theorem FC_f0 {c : Ct} {f0 u0 : Nat} : ∀ (fs : List FrT) (fp u pb nf nc sq : Nat), FC c K K4 f0 u0 fs fp u pb nf nc sq → f0 ≤ fp ∧ ∀ q, q ∈ fs → f0 ≤ q.1
  | [], fp, u, pb, nf, nc, sq, h => ⟨by have e := h.1; omega, fun q hq => absurd hq List.not_mem_nil⟩
  | q :: fs, fp, u, pb, nf, nc, sq, h => by
    obtain ⟨⟨bk, rb, z2, z3, a, b, s, r⟩, w⟩ := h
    have sl := (SL_le _ _ _ s).2
    have z := FC_f0 fs _ _ _ _ _ _ w
    refine ⟨by omega, fun q' h' => ?_⟩
    rcases List.mem_cons.1 h' with e | e
    · rw [e]; exact z.1
    · exact z.2 q' e
/-- the same frames, where nothing below is touched -/
theorem FC_k {c : Ct} {f0 u0 fp u pb nf nc sq : Nat} {fs : List FrT} (h : FC c K K4 f0 u0 fs fp u pb nf nc sq) (e : ∀ p, p < fp + 4 → K' p = K p) (e4 : ∀ p, p < pb → K4' p = K4 p) : FC c K' K4' f0 u0 fs fp u pb nf nc sq := by
  have z := FC_f0 fs fp u pb nf nc sq h
  exact FC_eq fs fp u pb nf nc sq (fun p _ h2 => e p h2) e4 z.1 h z.2
theorem FC_b {c : Ct} {f0 u0 : Nat} : ∀ (fs : List FrT) (fp u pb nf nc sq : Nat), FC c K K4 f0 u0 fs fp u pb nf nc sq → pb ≤ 180 * nf ∧ sq ≤ nc * RK ∧ (tcS c u → nf = 0 ∧ pb = 0 ∧ fp ≤ f0 + 204 * nc)
  | [], fp, u, pb, nf, nc, sq, h => by
    obtain ⟨h1, h2, h3, h4, h5, h6⟩ := h
    exact ⟨by omega, by rw [h6]; exact Nat.zero_le _, fun _ => ⟨h4, h3, by omega⟩⟩
  | q :: fs, fp, u, pb, nf, nc, sq, h => by
    obtain ⟨⟨bk, rb, z2, z3, a, b, s, f1, f2, f3, r⟩, w⟩ := h
    have z := FC_b fs _ _ _ _ _ _ w
    rcases r with ⟨k1, k2, k3, k4, k5, k6, k7, _⟩ | ⟨k1, k2, k3, k4, k5, k6, k7, k8, k9, k10⟩
    · exact ⟨by omega, by rw [k6, k7]; exact z.2.1, fun cs => absurd k1 cs.1⟩
    · have y := z.2.2 k2
      obtain ⟨k50, w5, ms5, k52, k53, _⟩ := k5
      have sl : fp = q.1 + 4 + w5 := by
        rw [k50, k53] at s
        exact (SL_0 s).1
      have y2 := z.2.1
      refine ⟨by omega, ?_, fun _ => ⟨by omega, by omega, by omega⟩⟩
      rw [k9, Nat.add_mul, Nat.one_mul]
      omega
theorem FC_B {c : Ct} {f0 u0 : Nat} : ∀ (fs : List FrT) (fp u pb nf nc sq : Nat), FC c K K4 f0 u0 fs fp u pb nf nc sq → (fp = f0 ∧ u = u0) ∨ f0 + 4 + tcF c u0 ≤ fp
  | [], fp, u, pb, nf, nc, sq, h => Or.inl ⟨h.1, h.2.1⟩
  | q :: fs, fp, u, pb, nf, nc, sq, h => by
    obtain ⟨⟨bk, rb, z2, z3, a, b, s, f1, r⟩, w⟩ := h
    have sl := SL_le _ _ _ s
    right
    rcases FC_B fs _ _ _ _ _ _ w with e | e
    · rw [← e.1, ← e.2]
      omega
    · omega
/-- a point's stack, or a saved one's: between statements -/
def RUN (c : Ct) (K : Nat → Option Int32) (pc fp sp nc m : Nat) : Prop := ∃ (u d rk sq : Nat) (fs : List FrT) (ms : List Nat), (tcD c pc = some (u, m, (bsl + d) :: ms, rk) ∧ ∀ i, i ∈ ms → i < bsl) ∧ rk ≤ RK ∧ SL K (fp + 4) sp 0 ((bsl + d) :: ms) ∧ d ≤ 200 ∧ tcF c u ≤ d ∧ tcS c u ∧ u < 41 ∧ FC c K KN 0 0 fs fp u 0 0 nc sq ∧ nc ≤ 50 ∧ pc < 268435456 ∧ (4 + tcF c 0 ≤ sp ∧ ∀ j, j < 4 + tcF c 0 → K j = none)
theorem RUN_sp {c : Ct} {pc fp sp nc m : Nat} (h : RUN c K pc fp sp nc m) : sp ≤ 10404 ∧ fp + 4 ≤ sp := by
  obtain ⟨u, d, rk, sq, fs, ms, h1, h2, h3, h4, h5, h6, h7, h8, h9, h10⟩ := h
  have z := (FC_b fs _ _ _ _ _ _ h8).2.2 h6
  have e := (SL_0 h3).1
  omega
theorem RUN_eq {c : Ct} {pc fp sp nc m : Nat} (h : RUN c K pc fp sp nc m) (e : ∀ p, p < sp → K' p = K p) : RUN c K' pc fp sp nc m := by
  have q := RUN_sp h
  obtain ⟨u, d, rk, sq, fs, ms, h1, h2, h3, h4, h5, h6, h7, h8, h9, h10⟩ := h
  exact ⟨u, d, rk, sq, fs, ms, h1, h2, SL_eq _ _ _ (fun p _ h => e p h) h3, h4, h5, h6, h7, FC_k h8 (fun p hp => e p (by omega)) (fun _ _ => rfl), h9, h10.1, h10.2.1, fun j hj => (e j (by have := h10.2.1; omega)).trans (h10.2.2 j hj)⟩
/-- the points; N: no stack among them is longer -/
def POK (c : Ct) (K : Nat → Option Int32) (N : Nat) : Nat → Nat → Prop
  | 0, _ => True
  | n + 1, top => ∃ (off pc fp sp nc : Nat) (z4 z5 : Int32), top = off + sp + 6 ∧ (K (off + sp) = some (rwN pc) ∧ K (off + sp + 1) = some (rwN fp) ∧ K (off + sp + 2) = some (rwN sp) ∧ K (off + sp + 3) = some (rwN nc) ∧ K (off + sp + 4) = some z4 ∧ K (off + sp + 5) = some z5) ∧ (Rw z4 ∧ Rw z5 ∧ sp ≤ N) ∧ RUN c (fun j => K (off + j)) pc fp sp nc 1 ∧ POK c K N n off
theorem POK_eq {c : Ct} {N N' : Nat} (hN : N ≤ N') : ∀ (n top : Nat), (∀ p, p < top → K' p = K p) → POK c K N n top → POK c K' N' n top
  | 0, top, e, h => trivial
  | n + 1, top, e, h => by
    obtain ⟨off, pc, fp, sp, nc, z4, z5, h1, ⟨a0, a1, a2, a3, a4, a5⟩, h3, h4, h5⟩ := h
    exact ⟨off, pc, fp, sp, nc, z4, z5, h1, ⟨(e _ (by omega)).trans a0, (e _ (by omega)).trans a1, (e _ (by omega)).trans a2, (e _ (by omega)).trans a3, (e _ (by omega)).trans a4, (e _ (by omega)).trans a5⟩, ⟨h3.1, h3.2.1, by omega⟩, RUN_eq h4 (fun p hp => e _ (by omega)), POK_eq hN n off (fun p hp => e p (by omega)) h5⟩
end CSQ
