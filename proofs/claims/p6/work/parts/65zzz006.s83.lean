/-! Params: the grammar; what stays. -/
/-- the callable p has c params -/
def sP (E : En) (p c : Nat) : En := (E.1, E.2.1, E.2.2.1, E.2.2.2.1, E.2.2.2.2.1, E.2.2.2.2.2.1, updN E.2.2.2.2.2.2 p c)
/-- next token, what is around, how many, modes, variables, what is laid -/
abbrev PV6 := Nat × En × Nat × (Nat → Nat) × Nat × BT
def gPJ {β : Type} (T : Nat → Int32) (n : Nat) (E : En) (c m q v : Nat) (b : BT) (k : Nat → DV → Option (Option β)) : Option (Option β) := if c = 8 then some none else gTl T n E q v b (k m)
def gPI {β : Type} (T : Nat → Int32) (n : Nat) (pr : Bool) (E : En) (c q v : Nat) (b : BT) (k : Nat → DV → Option (Option β)) : Option (Option β) :=
  if pr = true ∧ (tkK T n q = 35 ∨ tkK T n q = 36 ∨ tkK T n q = 37) then pT T n q (fun q1 => gPJ T n E c (tkK T n q - 35) q1 v b k) else gPJ T n E c 0 q v b k
def GPm (T : Nat → Int32) (n : Nat) (pr : Bool) (p : Nat) : Nat → En → Nat → (Nat → Nat) → Nat → Nat → BT → Option (Option PV6)
  | 0, _, _, _, _, _, _ => none
  | f + 1, E, c, md, q, v, b =>
    if c = 0 then (if tkK T n q = 7 then some (some (q, E, c, md, v, b)) else gPI T n pr E c q v b (fun m r => GPm T n pr p f (sP r.2.1 p (c + 1)) (c + 1) (updN md c m) r.1 r.2.2.1 r.2.2.2))
    else if tkK T n q = 12 then pT T n q (fun q1 => gPI T n pr E c q1 v b (fun m r => GPm T n pr p f (sP r.2.1 p (c + 1)) (c + 1) (updN md c m) r.1 r.2.2.1 r.2.2.2))
    else if tkK T n q = 7 then some (some (q, E, c, md, v, b)) else some none
/-- what params leave as it is -/
def FrA (p : Nat) (σ σ' : MS) : Prop :=
  (∀ j, ¬ ((5 ≤ j ∧ j ≤ 13) ∨ j = 24 ∨ j = 25 ∨ j = 38 ∨ (46 ≤ j ∧ j ≤ 48)) → σ'.1 j = σ.1 j) ∧ σ'.2.1 = σ.2.1 ∧
  (∀ j, ¬ ((12 ≤ j ∧ j ≤ 16) ∨ (18 ≤ j ∧ j ≤ 24)) → σ'.2.2 j = σ.2.2 j) ∧
  (∀ i, i ≠ p → σ'.2.2 18 i = σ.2.2 18 i) ∧ (∀ i, i < 8 * p ∨ 8 * p + 8 ≤ i → σ'.2.2 19 i = σ.2.2 19 i) ∧ (∀ i, i ≠ p + 1 → σ'.2.2 21 i = σ.2.2 21 i) ∧ (∀ i, i < 60 * (p + 1) ∨ 60 * (p + 1) + 60 ≤ i → σ'.2.2 20 i = σ.2.2 20 i) ∧ ((∃ k, k ≤ 8 ∧ σ.2.2 18 p = nI k) → ∃ k, k ≤ 8 ∧ σ'.2.2 18 p = nI k)
theorem FrA_of {p : Nat} {σ τ : MS} (h : FrV (p + 1) σ τ) : FrA p σ τ := ⟨h.1, h.2.1, fun j hj => h.2.2.1 j (by omega), fun i _ => by rw [h.2.2.1 18 (by decide)], fun i _ => by rw [h.2.2.1 19 (by decide)], h.2.2.2.1, h.2.2.2.2, fun z => by rw [h.2.2.1 18 (by decide)]; exact z⟩
theorem FrA_rf {p : Nat} {σ : MS} : FrA p σ σ := FrA_of FrV_rf
theorem FrA_tr {p : Nat} {σ τ υ : MS} (h : FrA p σ τ) (g : FrA p τ υ) : FrA p σ υ := ⟨fun j hj => (g.1 j hj).trans (h.1 j hj), g.2.1.trans h.2.1, fun j hj => (g.2.2.1 j hj).trans (h.2.2.1 j hj), fun j hj => (g.2.2.2.1 j hj).trans (h.2.2.2.1 j hj), fun j hj => (g.2.2.2.2.1 j hj).trans (h.2.2.2.2.1 j hj), fun j hj => (g.2.2.2.2.2.1 j hj).trans (h.2.2.2.2.2.1 j hj), fun j hj => (g.2.2.2.2.2.2.1 j hj).trans (h.2.2.2.2.2.2.1 j hj), fun z => g.2.2.2.2.2.2.2 (h.2.2.2.2.2.2.2 z)⟩
theorem FrA_18 {p c : Nat} {σ : MS} (hc : c ≤ 8) : FrA p σ (mAr σ 18 p (nI c)) := ⟨fun _ _ => rfl, rfl, fun j hj => mAr_o (by omega), fun i hi => by rw [mAr_s, upd_other hi], fun i _ => by rw [mAr_o (by decide)], fun i _ => by rw [mAr_o (by decide)], fun i _ => by rw [mAr_o (by decide)], fun _ => ⟨c, hc, by rw [mAr_s, upd_same]⟩⟩
theorem FrA_19 {p i : Nat} {σ : MS} (hi : 8 * p ≤ i ∧ i < 8 * p + 8) (x : Int32) : FrA p σ (mAr σ 19 i x) := ⟨fun _ _ => rfl, rfl, fun j hj => mAr_o (by omega), fun j hj => by rw [mAr_o (by decide)], fun j hj => by rw [mAr_s, upd_other (by omega)], fun i _ => by rw [mAr_o (by decide)], fun i _ => by rw [mAr_o (by decide)], fun z => by rw [mAr_o (by decide)]; exact z⟩
section PAR
variable {T : Nat → Int32} {n : Nat} {E : En} {o q v : Nat} {b : BT} {σ : MS}
theorem updN_s {f : Nat → Nat} {k x : Nat} : updN f k x k = x := if_pos rfl
theorem updN_o {f : Nat → Nat} {k x j : Nat} (h : j ≠ k) : updN f k x j = f j := if_neg h
/-- rows 18, 19 may change where PS does not look -/
theorem PS_ar {j i : Nat} {x : Int32} (h : PS T n E o q v b σ) (hj : j = 17 ∨ j = 19) : PS T n E o q v b (mAr σ j i x) := by
  obtain ⟨s1, s2, s3, s4, s5, s6⟩ := h
  have r : ∀ k, k ≠ j → (mAr σ j i x).2.2 k = σ.2.2 k := fun k hk => updG_other hk
  exact ⟨PT_c (σ := σ) (fun _ _ _ => rfl) (r 3 (by omega)) (r 1 (by omega)) s1, s2, PB_c (σ := σ) rfl rfl (fun k hk => r k (by omega)) s3, PV_c (σ := σ) rfl (r 21 (by omega)) (r 20 (by omega)) s4, PN_c (σ := σ) rfl rfl rfl (fun k hk => r k (by omega)) s5, PF_c (σ := σ) rfl rfl (r 18 (by omega)) s6⟩
theorem PS_par {p c : Nat} (h : PS T n E o q v b σ) (hc : c ≤ 8) : PS T n (sP E p c) o q v b (mAr σ 18 p (nI c)) := by
  obtain ⟨s1, s2, s3, s4, s5, s6⟩ := h
  have r : ∀ k, k ≠ 18 → (mAr σ 18 p (nI c)).2.2 k = σ.2.2 k := fun k hk => updG_other hk
  have hN : PN (mAr σ 18 p (nI c)) E b v := PN_c (σ := σ) rfl rfl rfl (fun k hk => r k (by omega)) s5
  refine ⟨PT_c (σ := σ) (fun _ _ _ => rfl) (r 3 (by omega)) (r 1 (by omega)) s1, s2, PB_c (σ := σ) rfl rfl (fun k hk => r k (by omega)) s3, PV_c (σ := σ) rfl (r 21 (by omega)) (r 20 (by omega)) s4, hN, s6.1, s6.2.1, fun x hx hn => ?_⟩
  obtain ⟨a1, a2, a3⟩ := s6.2.2 x hx hn
  show x.2.2.2 < 41 ∧ updG σ.2.2 18 (upd (σ.2.2 18) p (nI c)) 18 x.2.2.2 = nI (updN E.2.2.2.2.2.2 p c x.2.2.2) ∧ updN E.2.2.2.2.2.2 p c x.2.2.2 ≤ 8
  rw [updG_same]
  by_cases z : x.2.2.2 = p
  · rw [z, upd_same, updN_s]; exact ⟨by omega, rfl, hc⟩
  · rw [upd_other z, updN_o z]; exact ⟨a1, a2, a3⟩
end PAR
def PoA (T : Nat → Int32) (n o p : Nat) (σ0 : MS) : Option PV6 → Int32 × MS → Prop
  | none, r => (∃ m, Bb m r.2) ∧ FrA p σ0 r.2
  | some t, r => PS T n t.2.1 o t.1 t.2.2.2.2.1 t.2.2.2.2.2 r.2 ∧ FrA p σ0 r.2 ∧ t.2.2.1 ≤ 8 ∧ (∀ i, i < t.2.2.1 → r.2.2.2 19 (8 * p + i) = nI (t.2.2.2.1 i) ∧ t.2.2.2.1 i ≤ 2)
theorem PoA_tr {T : Nat → Int32} {n o p : Nat} {σ τ : MS} {x : Option PV6} {r : Int32 × MS} (h : FrA p σ τ) (hp : PoA T n o p τ x r) : PoA T n o p σ x r := by
  cases x with
  | none => exact ⟨hp.1, FrA_tr h hp.2⟩
  | some t => exact ⟨hp.1, FrA_tr h hp.2.1, hp.2.2⟩
theorem pm_b {ρ : MS} {N : Nat → Int32} (hb : ¬ ρ.1 10 = 0) : Tm (fun k => x_paramsOf k 1 N ρ) (fun r => r.2 = ρ) := by
  refine Tm_suc (fun k => by rw [x_paramsOf]) ?_
  refine Tm_ite (fun z => absurd z hb) (fun _ => ?_)
  refine Tm_suc (fun k => by rw [x_paramsOf]) ?_
  refine Tm_ite (fun z => absurd z hb) (fun _ => ?_)
  refine Tm_suc (fun k => by rw [x_paramsOf]) ?_
  exact Tm_some rfl
theorem pm_b14 {ρ : MS} {N : Nat → Int32} (hb : ¬ ρ.1 10 = 0) : Tm (fun k => x_paramsOf k 14 N ρ) (fun r => r.2 = ρ) := by
  refine Tm_suc (fun k => by rw [x_paramsOf]) ?_
  refine Tm_ite (fun z => absurd z hb) (fun _ => ?_)
  refine Tm_suc (fun k => by rw [x_paramsOf]) ?_
  exact pm_b hb
theorem pm_b13 {ρ : MS} {N : Nat → Int32} (hb : ¬ ρ.1 10 = 0) : Tm (fun k => x_paramsOf k 13 N ρ) (fun r => r.2 = ρ) := by
  refine Tm_suc (fun k => by rw [x_paramsOf]) ?_
  exact Tm_ite (fun z => absurd z hb) (fun _ => pm_b14 hb)
theorem pm_b9 {ρ : MS} {N : Nat → Int32} (hb : ¬ ρ.1 10 = 0) : Tm (fun k => x_paramsOf k 9 N ρ) (fun r => r.2 = ρ) := by
  refine Tm_suc (fun k => by rw [x_paramsOf]) ?_
  refine Tm_ob (b_wantName hb _) (fun r hr => ?_)
  rw [hr]
  exact Tm_ite (fun z => absurd z hb) (fun _ => pm_b13 hb)
theorem pm_b4 {ρ : MS} {N : Nat → Int32} (hb : ¬ ρ.1 10 = 0) : Tm (fun k => x_paramsOf k 4 N ρ) (fun r => r.2 = ρ) := by
  refine Tm_suc (fun k => by rw [x_paramsOf]) ?_
  exact Tm_ite (fun z => absurd z hb) (fun _ => pm_b9 hb)
theorem PoA_b {T : Nat → Int32} {n o p m : Nat} {σ ρ : MS} {g : Nat → Option (Int32 × MS)} (hB : Bb m ρ) (hF : FrA p σ ρ) (h : Tm g (fun r => r.2 = ρ)) : Tm g (PoA T n o p σ none) :=
  Tm_mono h (fun s hs => by
    show (∃ m, Bb m s.2) ∧ FrA p σ s.2
    rw [hs]; exact ⟨⟨_, hB⟩, hF⟩)
