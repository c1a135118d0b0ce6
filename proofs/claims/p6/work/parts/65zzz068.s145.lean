/-! How much of the heap lives: how it changes (reference). -/
section LVR
variable {H H' : Nat → Int32} {g : Nat → Prop} {l : List Nat} {a b X : Nat} {S T : Nat → Prop}
theorem LVc_mo (h : ∀ v, S v → Rch H T v) (hL : LVc X H T) : LVc X H S := fun N => Nat.le_trans (lvN_le (fun v z => ⟨Rch_mo h z, rfl⟩) N) (hL N)
theorem LVc_le {Y : Nat} (hL : LVc X H S) (h : X ≤ Y) : LVc Y H S := fun N => Nat.le_trans (hL N) h
theorem Rch_or {v w : Nat} (hw : Rch H (fun x => S x ∨ x = v) w) : Rch H S w ∨ Rch H (fun x => x = v) w := by
  exact hw (fun w => Rch H S w ∨ Rch H (fun x => x = v) w) (fun u z => z.imp (fun y => Rch_b y) (fun y => Rch_b y)) (fun u n i m ih k1 k2 k3 k4 k5 k6 k7 => ih.imp (fun z => Rch_s z k1 k2 k3 k4 k5 k6 k7) (fun z => Rch_s z k1 k2 k3 k4 k5 k6 k7))
/-- one more value -/
theorem LVc_add (hO : HO H g l a b) (hb : b ≤ 1740000) {m : Nat} (hm : m < 3 ∨ g m) (hL : LVc X H S) : LVc (X + 6 * szN H m) H (fun x => S x ∨ (x = m ∧ 3 ≤ m)) := by
  by_cases c : m < 3
  · refine LVc_le (LVc_mo (fun v z => ?_) hL) (by omega)
    rcases z with z | z
    · exact Rch_b z
    · omega
  · intro N
    have gm := hm.resolve_left c
    have h1 := lvN_sz hO hb (htN H m) m gm (by omega) (Nat.le_refl _) N
    have h2 := hL N
    have h3 : lvN H (Rch H (fun x => S x ∨ (x = m ∧ 3 ≤ m))) N ≤ lvN H (fun w => Rch H S w ∨ Rch H (fun x => x = m) w) N := lvN_le (fun w z => ⟨Rch_or (Rch_mo (fun v y => Rch_b (y.imp id (fun q => q.1))) z), rfl⟩) N
    have h4 := lvN_or (H := H) (S := Rch H S) (T := Rch H (fun x => x = m)) N
    omega
/-- the heap grows -/
theorem LVc_gr (hO : HO H g l a b) (hb : b ≤ 1740000) (hS : ∀ v, S v → g v) (he : ∀ i, a ≤ i → i < b → H' i = H i) (hL : LVc X H S) : LVc X H' S := by
  have hr : ∀ w, Rch H' S w → Rch H S w := fun w hw => by
    refine hw (Rch H S) (fun v z => Rch_b z) (fun v n i m ih k1 k2 k3 k4 k5 k6 k7 => ?_)
    have gv := Rch_good hO hb hS ih
    obtain ⟨k, n0, s, t, q, q2, q3⟩ := HO_at hO (by omega) gv
    rw [he v (by omega) (by omega)] at k1
    rw [he (v + 1) (by omega) (by omega)] at k2
    have e : n0 = n := (n_eq (by have := q.2.2.2.2.2.2.2.1; omega) (by omega)).mp (q.2.1.symm.trans k2)
    subst e
    rw [he (v + 4 + i) (by omega) (by omega)] at k5
    exact Rch_s ih k1 k2 k3 k4 k5 k6 k7
  intro N
  refine Nat.le_trans (lvN_le (fun v z => ⟨hr v z, ?_⟩) N) (hL N)
  have gv := Rch_good hO hb hS (hr v z)
  obtain ⟨k, n0, s, t, q, q2, q3⟩ := HO_at hO (by omega) gv
  exact he (v + 1) (by omega) (by omega)
theorem lvs_N (hb : b < 2147483648) : ∀ (l : List Nat) (a : Nat), Til H b a l → lvs H S l + lvN H S a ≤ lvN H S b
  | [], a, h => by
    have h : a = b := h
    rw [h]; show 0 + _ ≤ _; omega
  | v :: l, a, h => by
    obtain ⟨e, n, n1, n2, n3⟩ := h
    subst e
    have ih := lvs_N hb l _ n3
    have mo : ∀ k, lvN H S (v + 1) ≤ lvN H S (v + 1 + k) := fun k => by
      induction k with
      | zero => exact Nat.le_refl _
      | succ k ih => exact Nat.le_trans ih (by show _ ≤ lvN H S (v + 1 + k) + _; omega)
    have h1 := mo (3 + n)
    rw [show v + 1 + (3 + n) = v + 4 + n by omega] at h1
    have h2 : lvN H S (v + 1) = lvN H S v + _ := rfl
    unfold lvs
    rw [h2] at h1
    omega
theorem lvN_til (hb : b < 2147483648) (N : Nat) : ∀ (l : List Nat) (a : Nat) (S : Nat → Prop), Til H b a l → (∀ v, S v → v ∈ l) → lvN H S N ≤ b - a
  | [], a, S, h, hS => by rw [lvN_no (fun v z => absurd (hS v z) List.not_mem_nil)]; exact Nat.zero_le _
  | v :: l, a, S, h, hS => by
    obtain ⟨e, n, n1, n2, n3⟩ := h
    have ih := lvN_til hb N l _ (fun w => S w ∧ w ≠ v) n3 (fun w z => (List.mem_cons.mp (hS w z.1)).resolve_left z.2)
    have h1 := (lvN_one (H := H) (v := v) N).1
    rw [n1, n_cl (by omega)] at h1
    have h2 : lvN H S N ≤ lvN H (fun w => w = v ∨ (S w ∧ w ≠ v)) N := lvN_le (fun w z => ⟨by
      by_cases e : w = v
      · exact Or.inl e
      · exact Or.inr ⟨z, e⟩, rfl⟩) N
    have h3 := lvN_or (H := H) (S := fun w => w = v) (T := fun w => S w ∧ w ≠ v) N
    have h4 := Til_le _ _ n3
    omega
end LVR
/-- bounds of what the roots are, without the pile -/
def RtQ (σ : MS) : Prop := ∃ P e, σ.1 63 = nI P ∧ P ≤ 20 ∧ σ.1 72 = nI e ∧ e ≤ 4000 ∧ StB (σ.2.2 30) 0 ∧ ∀ p, p < P → StB (σ.2.2 31) (11514 * p)
/-- the objects that the roots name -/
def RoS (t : Nat) (σ : MS) (v : Nat) : Prop := 3 ≤ v ∧ v < 1740000 ∧ ∃ a i, RtP t σ a i ∧ σ.2.2 a i = nI v
/-- what the state is, all values of it, with t of the pile; X cells live -/
def MI (t X : Nat) (g : Nat → Prop) (l : List Nat) (B h : Nat) (σ : MS) : Prop := HS g l B h σ ∧ RtQ σ ∧ (∀ a i, RtP t σ a i → Vd g (σ.2.2 a i)) ∧ LVc X (σ.2.2 28) (RoS t σ)
/-- what an operation (sweeps too) leaves of what lay before -/
def EO (t : Nat) (g : Nat → Prop) (σ : MS) (g' : Nat → Prop) (ρ : MS) : Prop :=
  (∀ a i, RtP t σ a i → VC g g' (σ.2.2 28) (ρ.2.2 28) (σ.2.2 a i) (ρ.2.2 a i)) ∧
  (∀ a i, ¬ (a = 28 ∨ a = 29 ∨ (41 ≤ a ∧ a ≤ 49) ∨ a = 51) → ¬ RtP t σ a i → ρ.2.2 a i = σ.2.2 a i) ∧
  (∀ j, ¬ ((54 ≤ j ∧ j ≤ 57) ∨ j = 59 ∨ (84 ≤ j ∧ j ≤ 90) ∨ j = 93 ∨ j = 100 ∨ j = 101) → ρ.1 j = σ.1 j)
section EOS
variable {g g' : Nat → Prop} {l l' : List Nat} {B h t X : Nat} {σ ρ : MS}
theorem RtP_iff {P e : Nat} (h63 : σ.1 63 = nI P) (hP : P ≤ 20) (h72 : σ.1 72 = nI e) (he : e ≤ 4000) (a i : Nat) : RtP t σ a i ↔ (a = 29 ∧ i < t) ∨ (a = 30 ∧ StI (σ.2.2 30) 0 i) ∨ (a = 31 ∧ ∃ p, p < P ∧ StI (σ.2.2 31) (11514 * p) i) ∨ (a = 33 ∧ i < 1380) ∨ (a = 34 ∧ i < e) ∨ (a = 36 ∧ i < 8) ∨ (a = 37 ∧ i < 8) ∨ (a = 38 ∧ i < 8) ∨ (a = 40 ∧ i < 2) := by
  unfold RtP
  rw [h63, h72, n_cl (p := P) (by omega), n_cl (p := e) (by omega)]
theorem StI_iff {A : Nat → Int32} {b c n : Nat} (h1 : A (b + 1) = nI c) (hc : c ≤ 50) (h3 : A (b + 3) = nI n) (hn : n ≤ 3100) (i : Nat) : StI A b i ↔ (b + 4 ≤ i ∧ i < b + 64) ∨ (b + 214 ≤ i ∧ i < b + 214 + 60 * c) ∨ (b + 5314 ≤ i ∧ i < b + 5314 + n) := by
  unfold StI
  rw [h1, h3, n_cl (p := c) (by omega), n_cl (p := n) (by omega)]
theorem RtP_28 {a i : Nat} (h : RtP t σ a i) : a ≠ 28 := by
  unfold RtP at h
  omega
/-- heads of states are no values -/
theorem RtP_hd (hQ : RtQ σ) : (∀ i, i < 4 → ¬ RtP t σ 30 i) ∧ (∀ i, 64 ≤ i → i < 214 → ¬ RtP t σ 30 i) ∧ (∀ i, 3214 ≤ i → i < 5314 → ¬ RtP t σ 30 i) ∧ (∀ i, 8414 ≤ i → ¬ RtP t σ 30 i) ∧ ∀ p i, p < 20 → i < 4 → ¬ RtP t σ 31 (11514 * p + i) := by
  obtain ⟨P, e, h63, hP, h72, he, s30, s31⟩ := hQ
  obtain ⟨c, n, c1, c2, n1, n2⟩ := s30
  have hi := fun i => StI_iff (A := σ.2.2 30) (b := 0) c1 c2 n1 n2 i
  have key : ∀ i, RtP t σ 30 i → (4 ≤ i ∧ i < 64) ∨ (214 ≤ i ∧ i < 214 + 60 * c) ∨ (5314 ≤ i ∧ i < 5314 + n) := fun i z => by
    have z := (RtP_iff h63 hP h72 he 30 i).mp z
    have z : StI (σ.2.2 30) 0 i := by
      rcases z with z | z | z | z | z
      · omega
      · exact z.2
      · exact absurd z.1 (by decide)
      · omega
      · omega
    have := (hi i).mp z
    omega
  refine ⟨fun i q z => ?_, fun i q1 q2 z => ?_, fun i q1 q2 z => ?_, fun i q z => ?_, fun p i hp q z => ?_⟩
  · have := key i z; omega
  · have := key i z; omega
  · have := key i z; omega
  · have := key i z; omega
  · have z := (RtP_iff h63 hP h72 he 31 _).mp z
    have z : ∃ p', p' < P ∧ StI (σ.2.2 31) (11514 * p') (11514 * p + i) := by
      rcases z with z | z | z | z | z
      · omega
      · exact absurd z.1 (by decide)
      · exact z.2
      · omega
      · omega
    obtain ⟨p', y1, y2⟩ := z
    obtain ⟨c, n, c1, c2, n1, n2⟩ := s31 p' y1
    have := (StI_iff (A := σ.2.2 31) (b := 11514 * p') c1 c2 n1 n2 _).mp y2
    omega
/-- the places of the roots stay -/
theorem EO_rt (hQ : RtQ σ) (hE : EO t g σ g' ρ) : RtQ ρ ∧ ∀ (u a i : Nat), RtP u ρ a i ↔ RtP u σ a i := by
  obtain ⟨k1, _, _, _, k5⟩ := RtP_hd (t := t) hQ
  obtain ⟨e1, e2, e3⟩ := hE
  have q1 : ρ.2.2 30 1 = σ.2.2 30 1 := e2 30 1 (by decide) (k1 1 (by decide))
  have q3 : ρ.2.2 30 3 = σ.2.2 30 3 := e2 30 3 (by decide) (k1 3 (by decide))
  have p1 : ∀ p, p < 20 → ρ.2.2 31 (11514 * p + 1) = σ.2.2 31 (11514 * p + 1) := fun p hp => e2 31 _ (by decide) (k5 p 1 hp (by decide))
  have p3 : ∀ p, p < 20 → ρ.2.2 31 (11514 * p + 3) = σ.2.2 31 (11514 * p + 3) := fun p hp => e2 31 _ (by decide) (k5 p 3 hp (by decide))
  have r63 : ρ.1 63 = σ.1 63 := e3 63 (by decide)
  have r72 : ρ.1 72 = σ.1 72 := e3 72 (by decide)
  obtain ⟨P, e, h63, hP, h72, he, s30, s31⟩ := hQ
  refine ⟨⟨P, e, r63.trans h63, hP, r72.trans h72, he, ?_, fun p hp => ?_⟩, fun u a i => ?_⟩
  · obtain ⟨c, n, c1, c2, n1, n2⟩ := s30
    exact ⟨c, n, q1.trans c1, c2, q3.trans n1, n2⟩
  · obtain ⟨c, n, c1, c2, n1, n2⟩ := s31 p hp
    exact ⟨c, n, (p1 p (by omega)).trans c1, c2, (p3 p (by omega)).trans n1, n2⟩
  · rw [RtP_iff (r63.trans h63) hP (r72.trans h72) he, RtP_iff h63 hP h72 he]
    have x30 : StI (ρ.2.2 30) 0 i ↔ StI (σ.2.2 30) 0 i := by
      unfold StI
      rw [show (0 + 1) = 1 from rfl, show (0 + 3) = 3 from rfl, q1, q3]
    have x31 : (∃ p, p < P ∧ StI (ρ.2.2 31) (11514 * p) i) ↔ ∃ p, p < P ∧ StI (σ.2.2 31) (11514 * p) i := by
      constructor
      · rintro ⟨p, y1, y2⟩
        refine ⟨p, y1, ?_⟩
        unfold StI at y2 ⊢
        rw [p1 p (by omega), p3 p (by omega)] at y2
        exact y2
      · rintro ⟨p, y1, y2⟩
        refine ⟨p, y1, ?_⟩
        unfold StI at y2 ⊢
        rw [p1 p (by omega), p3 p (by omega)]
        exact y2
    rw [x30, x31]
end EOS
