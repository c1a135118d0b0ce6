/-! The class: the printer. -/
theorem Tm_oxz {x : Nat → Option RS} {f : Nat → RS → Option RS} {P Q : RS → Prop} (t : Tm x P) (hz : ∀ r, P r → r.1.1 = 0 ∧ r.2.2 = (0, 0)) (h : ∀ r, P r → Tm (fun k => f k r) Q) : Tm (fun k => ox (x k) (f k)) Q := by
  refine Tm_ox t (fun r hr n => absurd (hz r hr).1 n) (fun r hr _ => ?_)
  refine Tm_mono (h r hr) (fun q hq => ?_)
  rw [(hz r hr).2]
  show Q (q.1, q.2.1, (0 + q.2.2.1, 0 + q.2.2.2))
  rw [Nat.zero_add, Nat.zero_add]
  exact hq
theorem Tm_of {e : Nat} {f : Nat → Nat → Option RS} {Q : RS → Prop} (t : Tm (fun k => f k e) Q) : Tm (fun k => Jvm.Pilot.CSetHouseLaw_law_r7351_1de140.of (e + 1) (f k)) Q := t
section CRR
variable {g g' g2 : Nat → Prop} {l l' : List Nat} {t t' t2 : Nat} {σ σ' σ2 : CS} {L : LV} {x y i : Int32} {M M' : Nat → Int32}
/-- what printing may write -/
def PFl (σ σ' : CS) : Prop := (∀ j, ¬ (j = 404 ∨ j = 1203) → σ'.1 j = σ.1 j) ∧ σ'.2.1 = σ.2.1 ∧ (∀ k, ¬ ((5 ≤ k ∧ k ≤ 11) ∨ k = 13) → σ'.2.2.1 k = σ.2.2.1 k) ∧ σ'.2.2.2 = σ.2.2.2
theorem PFl_r (σ : CS) : PFl σ σ := ⟨fun _ _ => rfl, rfl, fun _ _ => rfl, rfl⟩
theorem PFl_t (a : PFl σ σ') (b : PFl σ' σ2) : PFl σ σ2 := ⟨fun j hj => (b.1 j hj).trans (a.1 j hj), b.2.1.trans a.2.1, fun k hk => (b.2.2.1 k hk).trans (a.2.2.1 k hk), b.2.2.2.trans a.2.2.2⟩
theorem PFl_c (w : PFc σ σ') : PFl σ σ' := ⟨fun j hj => w.1 j (fun e => hj (Or.inl e)), w.2.1, w.2.2.1, w.2.2.2⟩
theorem PFl_l (σ : CS) (x : Int32) : PFl σ (uI σ 1203 x) := ⟨fun j hj => upd_other (fun e => hj (Or.inr e)), rfl, fun _ _ => rfl, rfl⟩
theorem HQ_L (h : HQ g l t σ) (w : PFl σ σ') : HQ g l t σ' := HQ_fr h (w.1 1 (by decide)) (w.2.2.1 3 (by decide)) (by rw [w.2.2.2])
/-- what printing leaves -/
def POc (σ : CS) (r : RS) : Prop := r.1.1 = 0 ∧ r.2.2 = (0, 0) ∧ PFl σ r.2.1 ∧ uN (r.2.1.1 1203) ≤ 10400
/-- a word as a string -/
def WO (g : Nat → Prop) (t : Nat) (σ : CS) (r : RS) : Prop := r.1.1 = 0 ∧ r.2.2 = (0, 0) ∧ ∃ σ1, PFl σ σ1 ∧ Mk g t σ1 4 (r.1.2, r.2.1)
theorem c_put (hl : uN (σ.1 1203) ≤ 10400) : Tm (fun k => y_X6_put k 0 L σ) (fun r => PFl σ r.2 ∧ uN (r.2.1 1203) ≤ 10400) := by
  refine Tm_suc (fun k => by rw [y_X6_put]) ?_
  refine Tm_ite (fun _ => ?_) (fun c => ?_)
  · refine Tm_suc (fun k => by rw [y_X6_put]) ?_
    exact Tm_some ⟨PFl_r σ, hl⟩
  · rw [u_le (by decide) (by omega)] at c
    have c' : uN (σ.1 1203) < 10400 := Nat.lt_of_not_le c
    refine Tm_chk (u_in c' (by decide)) ?_
    refine Tm_suc (fun k => by rw [y_X6_put]) ?_
    refine Tm_some ⟨PFl_t (PFl_c (PFc_A σ (k := 13) (by decide) _ _)) (PFl_l _ _), ?_⟩
    show uN (σ.1 1203 + 1) ≤ 10400
    rw [u_inc (by omega)]
    omega
theorem c_writeBytes (h : HQ g l t σ) (hl : uN (σ.1 1203) ≤ 10400) (hx : Gv g (L.1 1)) (hk : kdC (σ.2.2.1 3) (L.1 1) = 4) : Tm (fun k => y_X6_writeBytes k 0 L σ) (fun r => PFl σ r.2 ∧ uN (r.2.1 1203) ≤ 10400) := by
  refine Tm_suc (fun k => by rw [y_X6_writeBytes]) ?_
  refine Tm_ocE (c_length h hx) ?_
  have ll := lnC_lt (σ.2.2.1 3) (L.1 1)
  have e1 : uN (nI (lnC (σ.2.2.1 3) (L.1 1))) = lnC (σ.2.2.1 3) (L.1 1) := u_n (by omega)
  have e2 : uN (Int32.ofNat 10400 - σ.1 1203) = 10400 - uN (σ.1 1203) := by
    rw [u_sub (by show _ ≤ 10400; exact hl)]; rfl
  have mn : uN (if Int32.ofNat 10400 - σ.1 1203 < nI (lnC (σ.2.2.1 3) (L.1 1)) then Int32.ofNat 10400 - σ.1 1203 else nI (lnC (σ.2.2.1 3) (L.1 1))) ≤ lnC (σ.2.2.1 3) (L.1 1) ∧ uN (if Int32.ofNat 10400 - σ.1 1203 < nI (lnC (σ.2.2.1 3) (L.1 1)) then Int32.ofNat 10400 - σ.1 1203 else nI (lnC (σ.2.2.1 3) (L.1 1))) ≤ 10400 - uN (σ.1 1203) := by
    split
    · rename_i c
      rw [u_ltn (by omega) (by omega)] at c
      omega
    · rename_i c
      rw [u_ltn (by omega) (by omega)] at c
      omega
  refine Tm_oc (c_copyBytes13 h hx ?_ ?_ ?_) (fun r hr => ?_)
  · show uN (if Int32.ofNat 10400 - σ.1 1203 < nI (lnC (σ.2.2.1 3) (L.1 1)) then Int32.ofNat 10400 - σ.1 1203 else nI (lnC (σ.2.2.1 3) (L.1 1))) ≤ _
    omega
  · show uN (σ.1 1203) ≤ _
    omega
  · intro c
    have c' : uN (L.1 1) < 2147483648 := c
    have k4 : hdK (uN (σ.2.2.1 3 (uN (L.1 1)))) = 4 := by
      unfold kdC at hk
      rw [if_pos c'] at hk
      exact hk
    have el : lnC (σ.2.2.1 3) (L.1 1) = hdL (uN (σ.2.2.1 3 (uN (L.1 1)))) := if_pos c'
    refine ⟨k4, ?_⟩
    show 0 + uN (if Int32.ofNat 10400 - σ.1 1203 < nI (lnC (σ.2.2.1 3) (L.1 1)) then Int32.ofNat 10400 - σ.1 1203 else nI (lnC (σ.2.2.1 3) (L.1 1))) ≤ hdL (uN (σ.2.2.1 3 (uN (L.1 1))))
    omega
  · obtain ⟨r1, f, r2⟩ := hr
    refine Tm_some ⟨?_, ?_⟩
    · rw [r2]
      exact PFl_t (PFl_c (PFc_F σ (k := 13) (by decide) f)) (PFl_l _ _)
    · show uN r.1 ≤ 10400
      rw [r1]
      show uN (σ.1 1203 + (if Int32.ofNat 10400 - σ.1 1203 < nI (lnC (σ.2.2.1 3) (L.1 1)) then Int32.ofNat 10400 - σ.1 1203 else nI (lnC (σ.2.2.1 3) (L.1 1)))) ≤ 10400
      rw [u_add (by omega)]
      omega
theorem c_madeString (h : HQ g l t σ) (hl : uN (σ.1 1203) ≤ 10400) : Tm (fun k => y_X6_madeString k 0 L σ) (Mk g t σ 4) := by
  refine Tm_suc (fun k => by rw [y_X6_madeString]) ?_
  refine Tm_oc (c_makeString13 h (fun _ _ => ?_)) (fun r hr => Tm_some hr)
  show 0 + uN (σ.1 1203) ≤ 10400
  omega
theorem c_writeWord14 (hl : uN (σ.1 1203) ≤ 10400) : Tm (fun k => f_X6_writeWord__ek14 k 0 L σ) (POc σ) := by
  have b1 : ∀ (m : Nat) (L' : LV) (σ' : CS), PFl σ σ' → uN (σ'.1 1203) ≤ 10400 → uN (L'.1 2) + m = 2 → Tm (fun k => f_X6_writeWord__ek14 k 1 L' σ') (POc σ) := by
    intro m
    induction m with
    | zero =>
      intro L' σ' w q a2
      refine Tm_suc (fun k => by rw [f_X6_writeWord__ek14]) ?_
      refine Tm_yes (by rw [u_le (by decide) (by omega)]; show 2 ≤ _; omega) ?_
      refine Tm_suc (fun k => by rw [f_X6_writeWord__ek14]) ?_
      exact Tm_some ⟨rfl, rfl, w, q⟩
    | succ m ih =>
      intro L' σ' w q a2
      refine Tm_suc (fun k => by rw [f_X6_writeWord__ek14]) ?_
      refine Tm_ite (fun c => absurd c (by rw [u_le (by decide) (by omega)]; show ¬ 2 ≤ _; omega)) (fun _ => ?_)
      refine Tm_chk ⟨by rw [u_neg]; omega, by rw [u_cl (by omega)]; omega⟩ ?_
      refine Tm_op (c_put q) (fun r hr => ?_)
      refine ih _ _ (PFl_t w hr.1) hr.2 ?_
      show uN (L'.1 2 + 1) + m = 2
      rw [u_inc (by omega)]; omega
  refine Tm_suc (fun k => by rw [f_X6_writeWord__ek14]) ?_
  exact b1 2 _ σ (PFl_r σ) hl rfl
theorem c_writeWord16 (hl : uN (σ.1 1203) ≤ 10400) : Tm (fun k => f_X6_writeWord__ek16 k 0 L σ) (POc σ) := by
  have b1 : ∀ (m : Nat) (L' : LV) (σ' : CS), PFl σ σ' → uN (σ'.1 1203) ≤ 10400 → uN (L'.1 2) + m = 4 → Tm (fun k => f_X6_writeWord__ek16 k 1 L' σ') (POc σ) := by
    intro m
    induction m with
    | zero =>
      intro L' σ' w q a2
      refine Tm_suc (fun k => by rw [f_X6_writeWord__ek16]) ?_
      refine Tm_yes (by rw [u_le (by decide) (by omega)]; show 4 ≤ _; omega) ?_
      refine Tm_suc (fun k => by rw [f_X6_writeWord__ek16]) ?_
      exact Tm_some ⟨rfl, rfl, w, q⟩
    | succ m ih =>
      intro L' σ' w q a2
      refine Tm_suc (fun k => by rw [f_X6_writeWord__ek16]) ?_
      refine Tm_ite (fun c => absurd c (by rw [u_le (by decide) (by omega)]; show ¬ 4 ≤ _; omega)) (fun _ => ?_)
      refine Tm_chk ⟨by rw [u_neg]; omega, by rw [u_cl (by omega)]; omega⟩ ?_
      refine Tm_op (c_put q) (fun r hr => ?_)
      refine ih _ _ (PFl_t w hr.1) hr.2 ?_
      show uN (L'.1 2 + 1) + m = 4
      rw [u_inc (by omega)]; omega
  refine Tm_suc (fun k => by rw [f_X6_writeWord__ek16]) ?_
  exact b1 4 _ σ (PFl_r σ) hl rfl
theorem c_writeWord18 (hl : uN (σ.1 1203) ≤ 10400) : Tm (fun k => f_X6_writeWord__ek18 k 0 L σ) (POc σ) := by
  have b1 : ∀ (m : Nat) (L' : LV) (σ' : CS), PFl σ σ' → uN (σ'.1 1203) ≤ 10400 → uN (L'.1 2) + m = 5 → Tm (fun k => f_X6_writeWord__ek18 k 1 L' σ') (POc σ) := by
    intro m
    induction m with
    | zero =>
      intro L' σ' w q a2
      refine Tm_suc (fun k => by rw [f_X6_writeWord__ek18]) ?_
      refine Tm_yes (by rw [u_le (by decide) (by omega)]; show 5 ≤ _; omega) ?_
      refine Tm_suc (fun k => by rw [f_X6_writeWord__ek18]) ?_
      exact Tm_some ⟨rfl, rfl, w, q⟩
    | succ m ih =>
      intro L' σ' w q a2
      refine Tm_suc (fun k => by rw [f_X6_writeWord__ek18]) ?_
      refine Tm_ite (fun c => absurd c (by rw [u_le (by decide) (by omega)]; show ¬ 5 ≤ _; omega)) (fun _ => ?_)
      refine Tm_chk ⟨by rw [u_neg]; omega, by rw [u_cl (by omega)]; omega⟩ ?_
      refine Tm_op (c_put q) (fun r hr => ?_)
      refine ih _ _ (PFl_t w hr.1) hr.2 ?_
      show uN (L'.1 2 + 1) + m = 5
      rw [u_inc (by omega)]; omega
  refine Tm_suc (fun k => by rw [f_X6_writeWord__ek18]) ?_
  exact b1 5 _ σ (PFl_r σ) hl rfl
theorem c_writeWord2 (hl : uN (σ.1 1203) ≤ 10400) : Tm (fun k => f_X6_writeWord__ek2 k 0 L σ) (POc σ) := by
  have b1 : ∀ (m : Nat) (L' : LV) (σ' : CS), PFl σ σ' → uN (σ'.1 1203) ≤ 10400 → uN (L'.1 2) + m = 5 → Tm (fun k => f_X6_writeWord__ek2 k 1 L' σ') (POc σ) := by
    intro m
    induction m with
    | zero =>
      intro L' σ' w q a2
      refine Tm_suc (fun k => by rw [f_X6_writeWord__ek2]) ?_
      refine Tm_yes (by rw [u_le (by decide) (by omega)]; show 5 ≤ _; omega) ?_
      refine Tm_suc (fun k => by rw [f_X6_writeWord__ek2]) ?_
      exact Tm_some ⟨rfl, rfl, w, q⟩
    | succ m ih =>
      intro L' σ' w q a2
      refine Tm_suc (fun k => by rw [f_X6_writeWord__ek2]) ?_
      refine Tm_ite (fun c => absurd c (by rw [u_le (by decide) (by omega)]; show ¬ 5 ≤ _; omega)) (fun _ => ?_)
      refine Tm_chk ⟨by rw [u_neg]; omega, by rw [u_cl (by omega)]; omega⟩ ?_
      refine Tm_op (c_put q) (fun r hr => ?_)
      refine ih _ _ (PFl_t w hr.1) hr.2 ?_
      show uN (L'.1 2 + 1) + m = 5
      rw [u_inc (by omega)]; omega
  refine Tm_suc (fun k => by rw [f_X6_writeWord__ek2]) ?_
  exact b1 5 _ σ (PFl_r σ) hl rfl
theorem c_writeWord4 (hl : uN (σ.1 1203) ≤ 10400) : Tm (fun k => f_X6_writeWord__ek4 k 0 L σ) (POc σ) := by
  have b1 : ∀ (m : Nat) (L' : LV) (σ' : CS), PFl σ σ' → uN (σ'.1 1203) ≤ 10400 → uN (L'.1 2) + m = 5 → Tm (fun k => f_X6_writeWord__ek4 k 1 L' σ') (POc σ) := by
    intro m
    induction m with
    | zero =>
      intro L' σ' w q a2
      refine Tm_suc (fun k => by rw [f_X6_writeWord__ek4]) ?_
      refine Tm_yes (by rw [u_le (by decide) (by omega)]; show 5 ≤ _; omega) ?_
      refine Tm_suc (fun k => by rw [f_X6_writeWord__ek4]) ?_
      exact Tm_some ⟨rfl, rfl, w, q⟩
    | succ m ih =>
      intro L' σ' w q a2
      refine Tm_suc (fun k => by rw [f_X6_writeWord__ek4]) ?_
      refine Tm_ite (fun c => absurd c (by rw [u_le (by decide) (by omega)]; show ¬ 5 ≤ _; omega)) (fun _ => ?_)
      refine Tm_chk ⟨by rw [u_neg]; omega, by rw [u_cl (by omega)]; omega⟩ ?_
      refine Tm_op (c_put q) (fun r hr => ?_)
      refine ih _ _ (PFl_t w hr.1) hr.2 ?_
      show uN (L'.1 2 + 1) + m = 5
      rw [u_inc (by omega)]; omega
  refine Tm_suc (fun k => by rw [f_X6_writeWord__ek4]) ?_
  exact b1 5 _ σ (PFl_r σ) hl rfl
theorem c_writeWord6 (hl : uN (σ.1 1203) ≤ 10400) : Tm (fun k => f_X6_writeWord__ek6 k 0 L σ) (POc σ) := by
  have b1 : ∀ (m : Nat) (L' : LV) (σ' : CS), PFl σ σ' → uN (σ'.1 1203) ≤ 10400 → uN (L'.1 2) + m = 4 → Tm (fun k => f_X6_writeWord__ek6 k 1 L' σ') (POc σ) := by
    intro m
    induction m with
    | zero =>
      intro L' σ' w q a2
      refine Tm_suc (fun k => by rw [f_X6_writeWord__ek6]) ?_
      refine Tm_yes (by rw [u_le (by decide) (by omega)]; show 4 ≤ _; omega) ?_
      refine Tm_suc (fun k => by rw [f_X6_writeWord__ek6]) ?_
      exact Tm_some ⟨rfl, rfl, w, q⟩
    | succ m ih =>
      intro L' σ' w q a2
      refine Tm_suc (fun k => by rw [f_X6_writeWord__ek6]) ?_
      refine Tm_ite (fun c => absurd c (by rw [u_le (by decide) (by omega)]; show ¬ 4 ≤ _; omega)) (fun _ => ?_)
      refine Tm_chk ⟨by rw [u_neg]; omega, by rw [u_cl (by omega)]; omega⟩ ?_
      refine Tm_op (c_put q) (fun r hr => ?_)
      refine ih _ _ (PFl_t w hr.1) hr.2 ?_
      show uN (L'.1 2 + 1) + m = 4
      rw [u_inc (by omega)]; omega
  refine Tm_suc (fun k => by rw [f_X6_writeWord__ek6]) ?_
  exact b1 4 _ σ (PFl_r σ) hl rfl
theorem c_writeWord8 (hl : uN (σ.1 1203) ≤ 10400) : Tm (fun k => f_X6_writeWord__ek8 k 0 L σ) (POc σ) := by
  have b1 : ∀ (m : Nat) (L' : LV) (σ' : CS), PFl σ σ' → uN (σ'.1 1203) ≤ 10400 → uN (L'.1 2) + m = 6 → Tm (fun k => f_X6_writeWord__ek8 k 1 L' σ') (POc σ) := by
    intro m
    induction m with
    | zero =>
      intro L' σ' w q a2
      refine Tm_suc (fun k => by rw [f_X6_writeWord__ek8]) ?_
      refine Tm_yes (by rw [u_le (by decide) (by omega)]; show 6 ≤ _; omega) ?_
      refine Tm_suc (fun k => by rw [f_X6_writeWord__ek8]) ?_
      exact Tm_some ⟨rfl, rfl, w, q⟩
    | succ m ih =>
      intro L' σ' w q a2
      refine Tm_suc (fun k => by rw [f_X6_writeWord__ek8]) ?_
      refine Tm_ite (fun c => absurd c (by rw [u_le (by decide) (by omega)]; show ¬ 6 ≤ _; omega)) (fun _ => ?_)
      refine Tm_chk ⟨by rw [u_neg]; omega, by rw [u_cl (by omega)]; omega⟩ ?_
      refine Tm_op (c_put q) (fun r hr => ?_)
      refine ih _ _ (PFl_t w hr.1) hr.2 ?_
      show uN (L'.1 2 + 1) + m = 6
      rw [u_inc (by omega)]; omega
  refine Tm_suc (fun k => by rw [f_X6_writeWord__ek8]) ?_
  exact b1 6 _ σ (PFl_r σ) hl rfl
theorem c_writeWord10 (hl : uN (σ.1 1203) ≤ 10400) : Tm (fun k => f_X6_writeWord__ek10 k 0 L σ) (POc σ) := by
  have b1 : ∀ (m : Nat) (L' : LV) (σ' : CS), PFl σ σ' → uN (σ'.1 1203) ≤ 10400 → uN (L'.1 2) + m = 5 → Tm (fun k => f_X6_writeWord__ek10 k 1 L' σ') (POc σ) := by
    intro m
    induction m with
    | zero =>
      intro L' σ' w q a2
      refine Tm_suc (fun k => by rw [f_X6_writeWord__ek10]) ?_
      refine Tm_yes (by rw [u_le (by decide) (by omega)]; show 5 ≤ _; omega) ?_
      refine Tm_suc (fun k => by rw [f_X6_writeWord__ek10]) ?_
      exact Tm_some ⟨rfl, rfl, w, q⟩
    | succ m ih =>
      intro L' σ' w q a2
      refine Tm_suc (fun k => by rw [f_X6_writeWord__ek10]) ?_
      refine Tm_ite (fun c => absurd c (by rw [u_le (by decide) (by omega)]; show ¬ 5 ≤ _; omega)) (fun _ => ?_)
      refine Tm_chk ⟨by rw [u_neg]; omega, by rw [u_cl (by omega)]; omega⟩ ?_
      refine Tm_op (c_put q) (fun r hr => ?_)
      refine ih _ _ (PFl_t w hr.1) hr.2 ?_
      show uN (L'.1 2 + 1) + m = 5
      rw [u_inc (by omega)]; omega
  refine Tm_suc (fun k => by rw [f_X6_writeWord__ek10]) ?_
  exact b1 5 _ σ (PFl_r σ) hl rfl
theorem c_writeWord12 (hl : uN (σ.1 1203) ≤ 10400) : Tm (fun k => f_X6_writeWord__ek12 k 0 L σ) (POc σ) := by
  have b1 : ∀ (m : Nat) (L' : LV) (σ' : CS), PFl σ σ' → uN (σ'.1 1203) ≤ 10400 → uN (L'.1 2) + m = 3 → Tm (fun k => f_X6_writeWord__ek12 k 1 L' σ') (POc σ) := by
    intro m
    induction m with
    | zero =>
      intro L' σ' w q a2
      refine Tm_suc (fun k => by rw [f_X6_writeWord__ek12]) ?_
      refine Tm_yes (by rw [u_le (by decide) (by omega)]; show 3 ≤ _; omega) ?_
      refine Tm_suc (fun k => by rw [f_X6_writeWord__ek12]) ?_
      exact Tm_some ⟨rfl, rfl, w, q⟩
    | succ m ih =>
      intro L' σ' w q a2
      refine Tm_suc (fun k => by rw [f_X6_writeWord__ek12]) ?_
      refine Tm_ite (fun c => absurd c (by rw [u_le (by decide) (by omega)]; show ¬ 3 ≤ _; omega)) (fun _ => ?_)
      refine Tm_chk ⟨by rw [u_neg]; omega, by rw [u_cl (by omega)]; omega⟩ ?_
      refine Tm_op (c_put q) (fun r hr => ?_)
      refine ih _ _ (PFl_t w hr.1) hr.2 ?_
      show uN (L'.1 2 + 1) + m = 3
      rw [u_inc (by omega)]; omega
  refine Tm_suc (fun k => by rw [f_X6_writeWord__ek12]) ?_
  exact b1 3 _ σ (PFl_r σ) hl rfl
theorem c_word2 (h : HQ g l t σ) : Tm (fun k => f_X6_word__ek2 k 0 L σ) (WO g t σ) := by
  refine Tm_suc (fun k => by rw [f_X6_word__ek2]) ?_
  refine Tm_oxz (c_writeWord2 (by show uN 0 ≤ 10400; decide)) (fun r hr => ⟨hr.1, hr.2.1⟩) (fun r hr => ?_)
  have w := PFl_t (PFl_l σ 0) hr.2.2.1
  refine Tm_op (c_madeString (HQ_L h w) hr.2.2.2) (fun r2 h2 => ?_)
  exact Tm_some ⟨rfl, rfl, r.2.1, w, h2⟩
theorem c_word4 (h : HQ g l t σ) : Tm (fun k => f_X6_word__ek4 k 0 L σ) (WO g t σ) := by
  refine Tm_suc (fun k => by rw [f_X6_word__ek4]) ?_
  refine Tm_oxz (c_writeWord4 (by show uN 0 ≤ 10400; decide)) (fun r hr => ⟨hr.1, hr.2.1⟩) (fun r hr => ?_)
  have w := PFl_t (PFl_l σ 0) hr.2.2.1
  refine Tm_op (c_madeString (HQ_L h w) hr.2.2.2) (fun r2 h2 => ?_)
  exact Tm_some ⟨rfl, rfl, r.2.1, w, h2⟩
theorem c_word6 (h : HQ g l t σ) : Tm (fun k => f_X6_word__ek6 k 0 L σ) (WO g t σ) := by
  refine Tm_suc (fun k => by rw [f_X6_word__ek6]) ?_
  refine Tm_oxz (c_writeWord6 (by show uN 0 ≤ 10400; decide)) (fun r hr => ⟨hr.1, hr.2.1⟩) (fun r hr => ?_)
  have w := PFl_t (PFl_l σ 0) hr.2.2.1
  refine Tm_op (c_madeString (HQ_L h w) hr.2.2.2) (fun r2 h2 => ?_)
  exact Tm_some ⟨rfl, rfl, r.2.1, w, h2⟩
theorem c_word8 (h : HQ g l t σ) : Tm (fun k => f_X6_word__ek8 k 0 L σ) (WO g t σ) := by
  refine Tm_suc (fun k => by rw [f_X6_word__ek8]) ?_
  refine Tm_oxz (c_writeWord8 (by show uN 0 ≤ 10400; decide)) (fun r hr => ⟨hr.1, hr.2.1⟩) (fun r hr => ?_)
  have w := PFl_t (PFl_l σ 0) hr.2.2.1
  refine Tm_op (c_madeString (HQ_L h w) hr.2.2.2) (fun r2 h2 => ?_)
  exact Tm_some ⟨rfl, rfl, r.2.1, w, h2⟩
theorem c_word10 (h : HQ g l t σ) : Tm (fun k => f_X6_word__ek10 k 0 L σ) (WO g t σ) := by
  refine Tm_suc (fun k => by rw [f_X6_word__ek10]) ?_
  refine Tm_oxz (c_writeWord10 (by show uN 0 ≤ 10400; decide)) (fun r hr => ⟨hr.1, hr.2.1⟩) (fun r hr => ?_)
  have w := PFl_t (PFl_l σ 0) hr.2.2.1
  refine Tm_op (c_madeString (HQ_L h w) hr.2.2.2) (fun r2 h2 => ?_)
  exact Tm_some ⟨rfl, rfl, r.2.1, w, h2⟩
theorem c_word12 (h : HQ g l t σ) : Tm (fun k => f_X6_word__ek12 k 0 L σ) (WO g t σ) := by
  refine Tm_suc (fun k => by rw [f_X6_word__ek12]) ?_
  refine Tm_oxz (c_writeWord12 (by show uN 0 ≤ 10400; decide)) (fun r hr => ⟨hr.1, hr.2.1⟩) (fun r hr => ?_)
  have w := PFl_t (PFl_l σ 0) hr.2.2.1
  refine Tm_op (c_madeString (HQ_L h w) hr.2.2.2) (fun r2 h2 => ?_)
  exact Tm_some ⟨rfl, rfl, r.2.1, w, h2⟩
theorem c_word14 (h : HQ g l t σ) : Tm (fun k => f_X6_word__ek14 k 0 L σ) (WO g t σ) := by
  refine Tm_suc (fun k => by rw [f_X6_word__ek14]) ?_
  refine Tm_oxz (c_writeWord14 (by show uN 0 ≤ 10400; decide)) (fun r hr => ⟨hr.1, hr.2.1⟩) (fun r hr => ?_)
  have w := PFl_t (PFl_l σ 0) hr.2.2.1
  refine Tm_op (c_madeString (HQ_L h w) hr.2.2.2) (fun r2 h2 => ?_)
  exact Tm_some ⟨rfl, rfl, r.2.1, w, h2⟩
theorem w1_0 (k d : Nat) (L : LV) (σ : CS) : f_F1 (k + 1) d 0 0 L σ = (op (y_X1_kind k 0 (lI lZ 1 ((L.1 1))) σ) (fun r1 => if r1.1 = (1 : Int32) then (f_F1 k d 0 1 L r1.2) else (if r1.1 = (2 : Int32) then (f_F1 k d 0 2 L r1.2) else (if r1.1 = (3 : Int32) then (f_F1 k d 0 3 L r1.2) else (if r1.1 = (4 : Int32) then (f_F1 k d 0 4 L r1.2) else (if r1.1 = (5 : Int32) then (f_F1 k d 0 5 L r1.2) else (if r1.1 = (6 : Int32) then (f_F1 k d 0 6 L r1.2) else (f_F1 k d 0 7 L r1.2)))))))) := rfl
theorem w1_1 (k d : Nat) (L : LV) (σ : CS) : f_F1 (k + 1) d 0 1 L σ = (if ((L.1 1)) = ((-1879048191)) then (f_F1 k d 0 9 L σ) else (f_F1 k d 0 8 L σ)) := rfl
theorem w1_2 (k d : Nat) (L : LV) (σ : CS) : f_F1 (k + 1) d 0 2 L σ = (op (y_X10_writeDigits__a13 k 0 (lI (lI lZ 1 ((L.1 1))) 3 ((σ.1 1203))) σ) (fun r1 => f_F1 k d 0 10 L (uI r1.2 1203 r1.1))) := rfl
theorem w1_3 (k d : Nat) (L : LV) (σ : CS) : f_F1 (k + 1) d 0 3 L σ = (op (y_X6_put k 0 (lI lZ 1 35) σ) (fun r1 => op (y_X10_small k 0 (lI lZ 0 ((((L.1 1)) &&& 268435455))) r1.2) (fun r2 => op (y_X10_writeDigits__a13 k 0 (lI (lI lZ 1 r2.1) 3 ((r2.2.1 1203))) r2.2) (fun r3 => f_F1 k d 0 10 L (uI r3.2 1203 r3.1))))) := rfl
theorem w1_4 (k d : Nat) (L : LV) (σ : CS) : f_F1 (k + 1) d 0 4 L σ = (op (y_X6_put k 0 (lI lZ 1 34) σ) (fun r1 => op (y_X6_writeBytes k 0 (lI lZ 1 ((L.1 1))) r1.2) (fun r2 => op (y_X6_put k 0 (lI lZ 1 34) r2.2) (fun r3 => f_F1 k d 0 10 L r3.2)))) := rfl
theorem w1_5 (k d : Nat) (L : LV) (σ : CS) : f_F1 (k + 1) d 0 5 L σ = (of d (fun e1 => ox (f_F1 k e1 1 0 (lI (lI (lI lZ 1 ((L.1 1))) 2 91) 3 93) σ) (fun r1 => f_F1 k d 0 10 L r1.2.1))) := rfl
theorem w1_6 (k d : Nat) (L : LV) (σ : CS) : f_F1 (k + 1) d 0 6 L σ = (of d (fun e1 => ox (f_F1 k e1 1 0 (lI (lI (lI lZ 1 ((L.1 1))) 2 123) 3 125) σ) (fun r1 => f_F1 k d 0 10 L r1.2.1))) := rfl
theorem w1_7 (k d : Nat) (L : LV) (σ : CS) : f_F1 (k + 1) d 0 7 L σ = (ox (f_X6_writeWord__ek14 k 0 lZ σ) (fun r1 => f_F1 k d 0 10 L r1.2.1)) := rfl
theorem w1_8 (k d : Nat) (L : LV) (σ : CS) : f_F1 (k + 1) d 0 8 L σ = (f_F1 k d 0 11 L σ) := rfl
theorem w1_9 (k d : Nat) (L : LV) (σ : CS) : f_F1 (k + 1) d 0 9 L σ = (ox (f_X6_writeWord__ek16 k 0 lZ σ) (fun r1 => f_F1 k d 0 10 L r1.2.1)) := rfl
theorem w1_10 (k d : Nat) (L : LV) (σ : CS) : f_F1 (k + 1) d 0 10 L σ = (some ((0, 0), σ, (0, 0))) := rfl
theorem w1_11 (k d : Nat) (L : LV) (σ : CS) : f_F1 (k + 1) d 0 11 L σ = (ox (f_X6_writeWord__ek18 k 0 lZ σ) (fun r1 => f_F1 k d 0 10 L r1.2.1)) := rfl
theorem w2_0 (k d : Nat) (L : LV) (σ : CS) : f_F1 (k + 1) d 1 0 L σ = (op (y_X6_put k 0 (lI lZ 1 ((L.1 2))) σ) (fun r1 => op (y_X1_length k 0 (lI lZ 1 ((L.1 1))) r1.2) (fun r2 => f_F1 k d 1 1 (lI (lI L 4 r2.1) 5 0) r2.2))) := rfl
theorem w2_1 (k d : Nat) (L : LV) (σ : CS) : f_F1 (k + 1) d 1 1 L σ = (if ((L.1 4)) ≤ ((L.1 5)) then (f_F1 k d 1 2 L σ) else (if ((L.1 5)) ≤ 0 then (f_F1 k d 1 3 L σ) else (op (y_X6_put k 0 (lI lZ 1 44) σ) (fun r3 => op (y_X6_put k 0 (lI lZ 1 32) r3.2) (fun r4 => f_F1 k d 1 3 L r4.2))))) := rfl
theorem w2_2 (k d : Nat) (L : LV) (σ : CS) : f_F1 (k + 1) d 1 2 L σ = (op (y_X6_put k 0 (lI lZ 1 ((L.1 3))) σ) (fun r1 => some ((0, 0), r1.2, (0, 0)))) := rfl
theorem w2_3 (k d : Nat) (L : LV) (σ : CS) : f_F1 (k + 1) d 1 3 L σ = (op (y_X1_member k 0 (lI (lI lZ 1 ((L.1 1))) 2 ((L.1 5))) σ) (fun r1 => of d (fun e2 => ox (f_F1 k e2 0 0 (lI lZ 1 r1.1) r1.2) (fun r2 => f_F1 k d 1 1 (lI L 5 ((((L.1 5)) + 1))) r2.2.1)))) := rfl
/-- write of values no higher than that -/
def PWr (g : Nat → Prop) (l : List Nat) (t d : Nat) : Prop := ∀ (L : LV) (σ : CS), HQ g l t σ → uN (σ.1 1203) ≤ 10400 → Gv g (L.1 1) → 2 * hgt (σ.2.2.1 3) (L.1 1) ≤ d → Tm (fun k => f_F1 k d 0 0 L σ) (POc σ)
theorem wr_row {e : Nat} (ih : PWr g l t e) (h : HQ g l t σ) (hl : uN (σ.1 1203) ≤ 10400) (hx : Gv g (L.1 1)) (cx : uN (L.1 1) < 2147483648) (kx : 5 ≤ hdK (uN (σ.2.2.1 3 (uN (L.1 1))))) (hd : 2 * hgt (σ.2.2.1 3) (L.1 1) ≤ e + 2) : Tm (fun k => f_F1 k (e + 1) 1 0 L σ) (POc σ) := by
  have ll := lnC_lt (σ.2.2.1 3) (L.1 1)
  have el : lnC (σ.2.2.1 3) (L.1 1) = hdL (uN (σ.2.2.1 3 (uN (L.1 1)))) := if_pos cx
  have fx := (HQ_c h (Gv_c hx cx).2).2.2.2.2.2.2.2.2.2.1 kx
  have b1 : ∀ (m : Nat) (L' : LV) (σ' : CS), PFl σ σ' → uN (σ'.1 1203) ≤ 10400 → L'.1 1 = L.1 1 → L'.1 4 = nI (lnC (σ.2.2.1 3) (L.1 1)) → uN (L'.1 5) + m = lnC (σ.2.2.1 3) (L.1 1) → Tm (fun k => f_F1 k (e + 1) 1 1 L' σ') (POc σ) := by
    intro m
    induction m with
    | zero =>
      intro L' σ' w q a1 a4 a5
      refine Tm_suc (fun k => w2_1 k _ _ _) ?_
      refine Tm_yes (by rw [a4, u_le (by rw [u_n (by omega)]; omega) (by omega), u_n (by omega)]; omega) ?_
      refine Tm_suc (fun k => w2_2 k _ _ _) ?_
      refine Tm_op (c_put q) (fun r hr => ?_)
      exact Tm_some ⟨rfl, rfl, PFl_t w hr.1, hr.2⟩
    | succ m jh =>
      intro L' σ' w q a1 a4 a5
      have b3 : ∀ (σ2 : CS), PFl σ σ2 → uN (σ2.1 1203) ≤ 10400 → Tm (fun k => f_F1 k (e + 1) 1 3 L' σ2) (POc σ) := by
        intro σ2 w2 q2
        have r3 : σ2.2.2.1 3 = σ.2.2.1 3 := w2.2.2.1 3 (by decide)
        have hx2 : Gv g (L'.1 1) := by rw [a1]; exact hx
        have k2 : uN (L'.1 1) < 2147483648 → 5 ≤ kdC (σ2.2.2.1 3) (L'.1 1) := by
          intro _
          rw [r3, a1]
          unfold kdC
          rw [if_pos cx]
          exact kx
        refine Tm_suc (fun k => w2_3 k _ _ _) ?_
        refine Tm_op (c_member (HQ_L h w2) hx2 k2) (fun r hr => ?_)
        rw [hr]
        refine Tm_of ?_
        have em : mbC (σ2.2.2.1 3) (L'.1 1) (L'.1 5) = σ.2.2.1 3 (uN (L.1 1) + 1 + uN (L'.1 5)) := by
          rw [r3, a1]
          unfold mbC
          rw [if_pos ⟨cx, by omega⟩]
        have mx := fx.2.2 (uN (L'.1 5)) (by omega)
        refine Tm_oxz (ih _ σ2 (HQ_L h w2) q2 ?_ ?_) (fun r hr => ⟨hr.1, hr.2.1⟩) (fun r hr => ?_)
        · show Gv g (mbC (σ2.2.2.1 3) (L'.1 1) (L'.1 5))
          rw [em]; exact mx.1
        · show 2 * hgt (σ2.2.2.1 3) (mbC (σ2.2.2.1 3) (L'.1 1) (L'.1 5)) ≤ e
          rw [em, r3]
          have z := mx.2
          unfold hgt at hd
          rw [if_pos cx] at hd
          omega
        · refine jh _ _ (PFl_t w2 hr.2.2.1) hr.2.2.2 ?_ ?_ ?_
          · exact a1
          · exact a4
          · show uN (L'.1 5 + 1) + m = _
            rw [u_inc (by omega)]; omega
      refine Tm_suc (fun k => w2_1 k _ _ _) ?_
      refine Tm_ite (fun c => absurd c (by rw [a4, u_le (by rw [u_n (by omega)]; omega) (by omega), u_n (by omega)]; omega)) (fun _ => ?_)
      refine Tm_ite (fun _ => b3 _ w q) (fun _ => ?_)
      refine Tm_op (c_put q) (fun r hr => ?_)
      refine Tm_op (c_put hr.2) (fun r2 hr2 => ?_)
      exact b3 _ (PFl_t w (PFl_t hr.1 hr2.1)) hr2.2
  refine Tm_suc (fun k => w2_0 k _ _ _) ?_
  refine Tm_op (c_put hl) (fun r hr => ?_)
  have r3 : r.2.2.2.1 3 = σ.2.2.1 3 := hr.1.2.2.1 3 (by decide)
  refine Tm_op (c_length (HQ_L h hr.1) hx) (fun r2 h2 => ?_)
  rw [h2, r3]
  refine b1 (lnC (σ.2.2.1 3) (L.1 1)) _ _ hr.1 hr.2 ?_ ?_ ?_
  · rfl
  · rfl
  · show 0 + _ = _; omega
theorem wr_b (d : Nat) (ih : ∀ e, d = e + 2 → PWr g l t e) : PWr g l t d := by
  intro L σ h hl hx hd
  have kl := kdC_lt (σ.2.2.1 3) (L.1 1)
  have b10 : ∀ (L' : LV) (σ' : CS), PFl σ σ' → uN (σ'.1 1203) ≤ 10400 → Tm (fun k => f_F1 k d 0 10 L' σ') (POc σ) := by
    intro L' σ' w q
    refine Tm_suc (fun k => w1_10 k _ _ _) ?_
    exact Tm_some ⟨rfl, rfl, w, q⟩
  have bD : ∀ (L' : LV) (σ' : CS) (z : Int32), PFl σ σ' → uN (σ'.1 1203) ≤ 10400 → W2 g σ' z → Tm (fun k => op (y_X10_writeDigits__a13 k 0 (lI (lI lZ 1 z) 3 (σ'.1 1203)) σ') (fun r1 => f_F1 k d 0 10 L' (uI r1.2 1203 r1.1))) (POc σ) := by
    intro L' σ' z w q hz
    refine Tm_op (c_writeDigits (HQ_L h w) hz) (fun r hr => ?_)
    refine b10 _ _ (PFl_t w (PFl_t (PFl_c hr.1) (PFl_l _ _))) ?_
    show uN r.1 ≤ 10400
    exact hr.2 q
  have row : ∀ (a b : Int32), (5 ≤ kdC (σ.2.2.1 3) (L.1 1) ∧ ¬ kdC (σ.2.2.1 3) (L.1 1) = 7) → Tm (fun k => Jvm.Pilot.CSetHouseLaw_law_r7351_1de140.of d (fun e1 => ox (f_F1 k e1 1 0 (lI (lI (lI lZ 1 (L.1 1)) 2 a) 3 b) σ) (fun r1 => f_F1 k d 0 10 L r1.2.1))) (POc σ) := by
    intro a b k57
    have k5 := k57.1
    have cx : uN (L.1 1) < 2147483648 := kdC_5 hx k5 k57.2
    have kx : 5 ≤ hdK (uN (σ.2.2.1 3 (uN (L.1 1)))) := by
      have q := k5
      unfold kdC at q
      rw [if_pos cx] at q
      exact q
    have h1 := hgt_k h hx cx kx
    obtain ⟨e, he⟩ : ∃ e, d = e + 2 := ⟨d - 2, by omega⟩
    subst he
    refine Tm_of (e := e + 1) ?_
    refine Tm_oxz (wr_row (ih e rfl) h hl hx cx kx hd) (fun r hr => ⟨hr.1, hr.2.1⟩) (fun r hr => ?_)
    exact b10 _ _ hr.2.2.1 hr.2.2.2
  have kk : ∀ n : Nat, n < 8 → (nI (kdC (σ.2.2.1 3) (L.1 1)) = nI n ↔ kdC (σ.2.2.1 3) (L.1 1) = n) := by
    intro n hn
    rw [u_eq, u_n (by omega), u_n (by omega)]
  refine Tm_suc (fun k => w1_0 k _ _ _) ?_
  refine Tm_op (c_kind h hx) (fun r hr => ?_)
  rw [hr]
  refine Tm_ite (fun _ => ?_) (fun _ => ?_)
  · refine Tm_suc (fun k => w1_1 k _ _ _) ?_
    refine Tm_ite (fun _ => ?_) (fun _ => ?_)
    · refine Tm_suc (fun k => w1_9 k _ _ _) ?_
      refine Tm_oxz (c_writeWord16 hl) (fun r hr => ⟨hr.1, hr.2.1⟩) (fun r hr => ?_)
      exact b10 _ _ hr.2.2.1 hr.2.2.2
    · refine Tm_suc (fun k => w1_8 k _ _ _) ?_
      refine Tm_suc (fun k => w1_11 k _ _ _) ?_
      refine Tm_oxz (c_writeWord18 hl) (fun r hr => ⟨hr.1, hr.2.1⟩) (fun r hr => ?_)
      exact b10 _ _ hr.2.2.1 hr.2.2.2
  refine Tm_ite (fun c => ?_) (fun _ => ?_)
  · refine Tm_suc (fun k => w1_2 k _ _ _) ?_
    exact bD L σ (L.1 1) (PFl_r σ) hl ⟨hx, (kk 2 (by decide)).1 c⟩
  refine Tm_ite (fun _ => ?_) (fun _ => ?_)
  · refine Tm_suc (fun k => w1_3 k _ _ _) ?_
    refine Tm_op (c_put hl) (fun r1 h1 => ?_)
    refine Tm_op c_small (fun r2 h2 => ?_)
    have e2 : r2.2 = r1.2 := h2.1
    rw [e2]
    exact bD L r1.2 r2.1 h1.1 h1.2 (W2_i _ h2.2.1 h2.2.2)
  refine Tm_ite (fun c => ?_) (fun _ => ?_)
  · refine Tm_suc (fun k => w1_4 k _ _ _) ?_
    refine Tm_op (c_put hl) (fun r1 h1 => ?_)
    have r3 : r1.2.2.2.1 3 = σ.2.2.1 3 := h1.1.2.2.1 3 (by decide)
    refine Tm_op (c_writeBytes (HQ_L h h1.1) h1.2 hx (by rw [r3]; exact (kk 4 (by decide)).1 c)) (fun r2 h2 => ?_)
    refine Tm_op (c_put h2.2) (fun r4 h4 => ?_)
    exact b10 _ _ (PFl_t h1.1 (PFl_t h2.1 h4.1)) h4.2
  refine Tm_ite (fun c => ?_) (fun _ => ?_)
  · refine Tm_suc (fun k => w1_5 k _ _ _) ?_
    exact row 91 93 (by have := (kk 5 (by decide)).1 c; omega)
  refine Tm_ite (fun c => ?_) (fun _ => ?_)
  · refine Tm_suc (fun k => w1_6 k _ _ _) ?_
    exact row 123 125 (by have := (kk 6 (by decide)).1 c; omega)
  · refine Tm_suc (fun k => w1_7 k _ _ _) ?_
    refine Tm_oxz (c_writeWord14 hl) (fun r hr => ⟨hr.1, hr.2.1⟩) (fun r hr => ?_)
    exact b10 _ _ hr.2.2.1 hr.2.2.2
theorem wr_all : ∀ d, PWr g l t d := by
  intro d
  induction d using Nat.strongRecOn with
  | _ d ih => exact wr_b d (fun e he => ih e (by omega))
theorem c_write (h : HQ g l t σ) (hl : uN (σ.1 1203) ≤ 10400) (hx : Gv g (L.1 1)) : Tm (fun k => f_X6_write k 0 L σ) (POc σ) := by
  refine wr_all 80 L σ h hl hx ?_
  unfold hgt
  split
  · rename_i c
    have f := (HQ_c h (Gv_c hx c).2).2.2.2.2.2.2.2.1.1
    omega
  · omega
theorem c_print (h : HQ g l t σ) (hx : Gv g (L.1 1)) : Tm (fun k => f_X6_print k 0 L σ) (POc σ) := by
  refine Tm_suc (fun k => by rw [f_X6_print]) ?_
  refine Tm_oxz (c_write (HQ_L h (PFl_l σ 0)) (by show uN 0 ≤ 10400; decide) hx) (fun r hr => ⟨hr.1, hr.2.1⟩) (fun r hr => ?_)
  exact Tm_some ⟨rfl, rfl, PFl_t (PFl_l σ 0) hr.2.2.1, hr.2.2.2⟩
theorem c_printPlain (h : HQ g l t σ) (hx : Gv g (L.1 1)) : Tm (fun k => f_X6_printPlain k 0 L σ) (POc σ) := by
  have kl := kdC_lt (σ.2.2.1 3) (L.1 1)
  have b2 : ∀ (L' : LV) (σ' : CS), PFl σ σ' → uN (σ'.1 1203) ≤ 10400 → Tm (fun k => f_X6_printPlain k 2 L' σ') (POc σ) := by
    intro L' σ' w q
    refine Tm_suc (fun k => by rw [f_X6_printPlain]) ?_
    exact Tm_some ⟨rfl, rfl, w, q⟩
  have h0 := HQ_L h (PFl_l σ 0)
  have q0 : uN ((uI σ 1203 0).1 1203) ≤ 10400 := by show uN 0 ≤ 10400; decide
  refine Tm_suc (fun k => by rw [f_X6_printPlain]) ?_
  refine Tm_op (c_kind h0 hx) (fun r hr => ?_)
  rw [hr]
  refine Tm_ite (fun c => ?_) (fun _ => ?_)
  · have c' : nI (kdC (σ.2.2.1 3) (L.1 1)) = 4 := c
    rw [u_eq, u_n (by omega)] at c'
    refine Tm_op (c_writeBytes h0 q0 hx c') (fun r2 h2 => ?_)
    exact b2 _ _ (PFl_t (PFl_l σ 0) h2.1) h2.2
  · refine Tm_suc (fun k => by rw [f_X6_printPlain]) ?_
    refine Tm_oxz (c_write h0 q0 hx) (fun r hr => ⟨hr.1, hr.2.1⟩) (fun r hr => ?_)
    exact b2 _ _ (PFl_t (PFl_l σ 0) hr.2.2.1) hr.2.2.2
end CRR
