/-! Statements (reference): the tree of statements, where a run stands in it. -/
/-- the body of a statement -/
def BdE (T : Nat → Nat → Int32) (S : Nat → Nat → Nat → Nat → Prop) (un d v m : Nat) (x : Int32) : Prop := x = -1 ∨ ∃ b v', x = nI b ∧ S un (d + 1) v' b ∧ v ≤ v' ∧ upN T b = nI m
/-- a for -/
def FoN (T : Nat → Nat → Int32) (FN : Nat → Nat → Prop) (S : Nat → Nat → Nat → Nat → Prop) (un d v n : Nat) : Prop := 1 ≤ itn T n ∧ v + itn T n ≤ 60 ∧ ItL T FN (lcU un T) (cnU un T) (itn T n) (T 5 n) ∧ (T 6 n = -1 ∨ Wx0 T FN (lcU un T) (T 6 n)) ∧ BdE T S un d (v + itn T n) n (T 7 n)
/-- a call -/
def CaN (T : Nat → Nat → Int32) (FN : Nat → Nat → Prop) (un n : Nat) : Prop := ∃ pr np ns, pr < CNo T % 42 ∧ T 7 n = nI pr ∧ T 18 pr = nI np ∧ np ≤ 8 ∧ T 21 (1 + pr) = nI ns ∧ ns ≤ 60 ∧ (∀ s, ns ≤ s → s < 60 → T 20 (60 * (1 + pr) + s) = 0) ∧ ArL T FN (lcU un T) (cnU un T) pr np 0 (T 6 n) ∧ (T 5 n = -1 ∨ TgN T FN (lcU un T) (cnU un T) (T 5 n))
/-- statements: unit, depth, variables told before, node -/
def SWf (T : Nat → Nat → Int32) (FN : Nat → Nat → Prop) (S : Nat → Nat → Nat → Nat → Prop) : Prop := ∀ un d v n, S un d v n → ((1 ≤ n ∧ n < LNo T % 70001) ∧ v ≤ 60 ∧ d ≤ 20 ∧ un ≤ 41) ∧ (∃ p, T 8 n = nI p ∧ p < SNo T % 402) ∧ (T 9 n = -1 ∨ ∃ n' v', T 9 n = nI n' ∧ S un d v' n' ∧ v ≤ v' ∧ upN T n' = upN T n) ∧ ((upN T n = -1 ∧ d = 0) ∨ ∃ m d' v', upN T n = nI m ∧ d = d' + 1 ∧ S un d' v' m ∧ v' + (if T 4 m = 48 then itn T m else 0) ≤ v ∧ (T 4 m = 46 ∨ T 4 m = 47 ∨ T 4 m = 48)) ∧ (T 4 n = 48 → d ≤ 19 ∧ FoN T FN S un d v n) ∧ (T 4 n = 45 → CaN T FN un n)
/-- where each call stands: n at the last; F the fors that are open -/
def LVs (T : Nat → Nat → Int32) (S : Nat → Nat → Nat → Nat → Prop) (A : Nat → Int32) : Nat → Nat → Nat → Nat → Nat → List Nat → Prop
  | 0, un, d, v, n, F => un = 0 ∧ S un d v n ∧ F = fls T d n
  | j + 1, un, d, v, n, F => S un d v n ∧ ∃ pr un0 d0 v0 n0 F0, un = 1 + pr ∧ pr < 41 ∧ A (64 + 3 * j) = nI n0 ∧ A (65 + 3 * j) = nI pr ∧ A (66 + 3 * j) = nI F0.length ∧ T 4 n0 = 45 ∧ T 7 n0 = nI pr ∧ F = fls T d n ++ F0 ∧ LVs T S A j un0 d0 v0 n0 F0
/-- a place in the run -/
def Pos (T : Nat → Nat → Int32) (S : Nat → Nat → Nat → Nat → Prop) (c un d v n : Nat) (F : List Nat) (σ : MS) : Prop := c ≤ 50 ∧ σ.2.2 30 1 = nI c ∧ LVs T S (σ.2.2 30) c un d v n F ∧ σ.2.2 30 2 = nI F.length ∧ FSk T (σ.2.2 30) F ∧ σ.2.2 30 3 = nI (suI T F) ∧ ItS σ (suI T F)
def CTn (T : Nat → Nat → Int32) (S : Nat → Nat → Nat → Nat → Prop) (σ : MS) : Prop := ∃ c un d v n F, Pos T S c un d v n F σ ∧ σ.2.2 30 0 = nI n
section LVL
variable {T : Nat → Nat → Int32} {FN : Nat → Nat → Prop} {S : Nat → Nat → Nat → Nat → Prop} {A A' : Nat → Int32}
theorem fls_u {d n n' : Nat} (h : upN T n' = upN T n) : fls T d n' = fls T d n := by
  cases d with
  | zero => rfl
  | succ d => unfold fls; rw [h]
theorem fls_s {d n m : Nat} (hm : (1 ≤ m ∧ m < LNo T % 70001)) (h : upN T n = nI m) : fls T (d + 1) n = if T 4 m = 48 then m :: fls T d m else fls T d m := by
  show (if T 4 (upN T n).toNatClampNeg = 48 then (upN T n).toNatClampNeg :: fls T d (upN T n).toNatClampNeg else fls T d (upN T n).toNatClampNeg) = _
  rw [h, n_cl (p := m) (by omega)]
theorem fls_b (hW : SWf T FN S) {un : Nat} : ∀ {d v n : Nat}, S un d v n → (fls T d n).length ≤ d ∧ suI T (fls T d n) ≤ v ∧ ∀ m ∈ fls T d n, ∃ kk, ItL T FN (lcU un T) (cnU un T) kk (T 5 m) := by
  intro d
  induction d with
  | zero => intro v n h; exact ⟨Nat.le_refl _, Nat.zero_le _, fun m hm => absurd hm (List.not_mem_nil)⟩
  | succ d ih =>
    intro v n h
    obtain ⟨_, _, _, hu, _⟩ := hW un (d + 1) v n h
    rcases hu with ⟨_, z⟩ | ⟨m, d', v', hu, ed, hm, hv, _⟩
    · omega
    · have e : d' = d := by omega
      subst e
      obtain ⟨⟨m7, _⟩, _, _, _, h48, _⟩ := hW un d' v' m hm
      obtain ⟨i1, i2, i3⟩ := ih hm
      rw [fls_s m7 hu]
      by_cases c : T 4 m = 48
      · rw [if_pos c] at hv ⊢
        refine ⟨by show (fls T d' m).length + 1 ≤ _; omega, by show itn T m + suI T (fls T d' m) ≤ v; omega, fun q hq => ?_⟩
        rcases List.mem_cons.mp hq with e | e
        · rw [e]; exact ⟨_, (h48 c).2.2.2.1⟩
        · exact i3 q e
      · rw [if_neg c] at hv ⊢
        exact ⟨by omega, by omega, i3⟩
theorem suI_ad {G F : List Nat} : suI T (G ++ F) = suI T G + suI T F := by
  induction G with
  | nil => show suI T F = 0 + suI T F; omega
  | cons m G ih => show itn T m + suI T (G ++ F) = itn T m + suI T G + suI T F; omega
theorem LVs_S {c un d v n : Nat} {F : List Nat} (h : LVs T S A c un d v n F) : S un d v n := by
  cases c with
  | zero => exact h.2.1
  | succ c => exact h.1
theorem LVs_b (hW : SWf T FN S) : ∀ {c un d v n : Nat} {F : List Nat}, LVs T S A c un d v n F → F.length ≤ 20 * c + d ∧ suI T F ≤ 60 * c + v := by
  intro c
  induction c with
  | zero =>
    intro un d v n F h
    obtain ⟨_, hS, e⟩ := h
    obtain ⟨i1, i2, _⟩ := fls_b hW hS
    rw [e]; exact ⟨by omega, by omega⟩
  | succ c ih =>
    intro un d v n F h
    obtain ⟨hS, pr, un0, d0, v0, n0, F0, _, _, _, _, _, _, _, e, hL⟩ := h
    obtain ⟨i1, i2, _⟩ := fls_b hW hS
    obtain ⟨j1, j2⟩ := ih hL
    obtain ⟨⟨_, b1, b2, _⟩, _⟩ := hW un0 d0 v0 n0 (LVs_S hL)
    rw [e, List.length_append, suI_ad]
    exact ⟨by omega, by omega⟩
theorem LVs_c : ∀ {c un d v n : Nat} {F : List Nat}, c ≤ 50 → (∀ i, 64 ≤ i → i < 214 → A' i = A i) → LVs T S A c un d v n F → LVs T S A' c un d v n F := by
  intro c
  induction c with
  | zero => intro un d v n F _ _ h; exact h
  | succ c ih =>
    intro un d v n F hc ha h
    obtain ⟨hS, pr, un0, d0, v0, n0, F0, h1, h2, h3, h4, h5, h6, h7, h8, h9⟩ := h
    exact ⟨hS, pr, un0, d0, v0, n0, F0, h1, h2, by rw [ha _ (by omega) (by omega)]; exact h3, by rw [ha _ (by omega) (by omega)]; exact h4, by rw [ha _ (by omega) (by omega)]; exact h5, h6, h7, h8, ih (by omega) ha h9⟩
/-- another statement with the same fors around -/
theorem LVs_m {c un d v n d' v' n' : Nat} {F : List Nat} (h : LVs T S A c un d v n F) (hS : S un d' v' n') : ∃ F0, F = fls T d n ++ F0 ∧ LVs T S A c un d' v' n' (fls T d' n' ++ F0) := by
  cases c with
  | zero => exact ⟨[], by rw [List.append_nil]; exact h.2.2, h.1, hS, by rw [List.append_nil]⟩
  | succ c =>
    obtain ⟨_, pr, un0, d0, v0, n0, F0, h1, h2, h3, h4, h5, h6, h7, h8, h9⟩ := h
    exact ⟨F0, h8, hS, pr, un0, d0, v0, n0, F0, h1, h2, h3, h4, h5, h6, h7, rfl, h9⟩
theorem LVs_sib {c un d v n v' n' : Nat} {F : List Nat} (h : LVs T S A c un d v n F) (hS : S un d v' n') (hu : upN T n' = upN T n) : LVs T S A c un d v' n' F := by
  obtain ⟨F0, e, h'⟩ := LVs_m h hS
  rw [e, ← fls_u hu]; exact h'
theorem LVs_up {c un d v n m v' : Nat} {F : List Nat} (hm : (1 ≤ m ∧ m < LNo T % 70001)) (h : LVs T S A c un (d + 1) v n F) (hu : upN T n = nI m) (hS : S un d v' m) : ∃ F', LVs T S A c un d v' m F' ∧ F = if T 4 m = 48 then m :: F' else F' := by
  obtain ⟨F0, e, h'⟩ := LVs_m h hS
  refine ⟨_, h', ?_⟩
  rw [e, fls_s hm hu]
  by_cases c : T 4 m = 48
  · rw [if_pos c, if_pos c]; rfl
  · rw [if_neg c, if_neg c]
theorem LVs_dn {c un d v m b v' : Nat} {F : List Nat} (hm : (1 ≤ m ∧ m < LNo T % 70001)) (h : LVs T S A c un d v m F) (hu : upN T b = nI m) (hS : S un (d + 1) v' b) : LVs T S A c un (d + 1) v' b (if T 4 m = 48 then m :: F else F) := by
  obtain ⟨F0, e, h'⟩ := LVs_m h hS
  rw [fls_s hm hu] at h'
  rw [e]
  by_cases c : T 4 m = 48
  · rw [if_pos c] at h' ⊢; exact h'
  · rw [if_neg c] at h' ⊢; exact h'
theorem LVs_u {c un d v n : Nat} {F : List Nat} (h : LVs T S A c un d v n F) : LvU A c un := by
  cases c with
  | zero => exact Or.inl ⟨rfl, h.1⟩
  | succ c =>
    obtain ⟨_, pr, un0, d0, v0, n0, F0, h1, h2, h3, h4, _⟩ := h
    exact Or.inr ⟨pr, by omega, h1, h2, by rw [Nat.add_sub_cancel]; exact h4⟩
end LVL
section PSS
variable {T : Nat → Nat → Int32} {FN : Nat → Nat → Prop} {S : Nat → Nat → Nat → Nat → Prop} {σ ρ : MS} {c un d v n : Nat} {F : List Nat}
theorem Pos_b (hW : SWf T FN S) (h : Pos T S c un d v n F σ) : F.length ≤ 20 * c + d ∧ suI T F ≤ 60 * c + v ∧ ((1 ≤ n ∧ n < LNo T % 70001) ∧ v ≤ 60 ∧ d ≤ 20) ∧ F.length ≤ 1020 ∧ suI T F ≤ 3060 := by
  obtain ⟨h1, _, h3, _⟩ := h
  obtain ⟨a, b⟩ := LVs_b hW h3
  obtain ⟨⟨b0, b1, b2, _⟩, _⟩ := hW un d v n (LVs_S h3)
  exact ⟨a, b, ⟨b0, b1, b2⟩, by omega, by omega⟩
theorem Pos_sc (hB : Bs T FN σ) (h : Pos T S c un d v n F σ) : Sc1 T FN (lcU un T) (cnU un T) σ := Sc1_lv hB h.2.1 h.1 (LVs_u h.2.2.1)
/-- the same numbers: the same place -/
theorem Pos_fs (hW : SWf T FN S) (hF : FSt σ ρ) (h : Pos T S c un d v n F σ) : Pos T S c un d v n F ρ := by
  obtain ⟨_, _, _, b3, b4⟩ := Pos_b hW h
  obtain ⟨h1, h2, h3, h4, h5, h6, h7⟩ := h
  have e : ∀ i, ¬ Zn 30 i → ρ.2.2 30 i = σ.2.2 30 i := fun i hi => hF.2.1 30 i (by unfold AlR; omega) hi (by omega)
  exact ⟨h1, (e 1 (by unfold Zn; omega)).trans h2, LVs_c h1 (fun i a b => e i (by unfold Zn; omega)) h3, (e 2 (by unfold Zn; omega)).trans h4, FSk_c (by omega) (fun i a b => e i (by unfold Zn; omega)) h5, (e 3 (by unfold Zn; omega)).trans h6, ItS_fs hF h6 (by omega) (Nat.le_refl _) h7⟩
/-- the place is told -/
theorem Pos_0 (hW : SWf T FN S) {x : Int32} (h : Pos T S c un d v n F σ) : Pos T S c un d v n F (mAr σ 30 0 x) := by
  obtain ⟨_, _, _, b3, b4⟩ := Pos_b hW h
  obtain ⟨h1, h2, h3, h4, h5, h6, h7⟩ := h
  have o : ∀ j, j ≠ 0 → (mAr σ 30 0 x).2.2 30 j = σ.2.2 30 j := fun j hj => by rw [mAr_s, upd_other hj]
  exact ⟨h1, (o 1 (by omega)).trans h2, LVs_c h1 (fun i a b => o i (by omega)) h3, (o 2 (by omega)).trans h4, FSk_c (by omega) (fun i a b => o i (by omega)) h5, (o 3 (by omega)).trans h6, ItS_c (σ := σ) (by omega) (mAr_o (by decide)) (fun i hi => o i (by omega)) h7⟩
theorem Pos_lv {un' d' v' n' : Nat} (h : Pos T S c un d v n F σ) (hL : LVs T S (σ.2.2 30) c un' d' v' n' F) : Pos T S c un' d' v' n' F σ := ⟨h.1, h.2.1, hL, h.2.2.2⟩
end PSS
