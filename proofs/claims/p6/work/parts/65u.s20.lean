/-! The tape is read from its first byte on. -/
/-- two zeros stand behind the tape, the token's end is 0 -/
def cRew (σ : CS) (n : Nat) (r : RS) : Prop := r.1 = (0, 0) ∧ ∃ (row : Nat → Int32) (m : Nat), r.2.1 = uI (tC σ (σ.1 3701) row m) 3704 0 ∧ (∀ i, i < n → row i = σ.2.2.1 38 i) ∧ row n = 0 ∧ row (n + 1) = 0 ∧ tFit row m ∧ sN σ 38 ≤ m ∧ m ≤ 32770 ∧ n + 2 ≤ m ∧ r.2.2.1 + tpC m ≤ tpC (sN σ 38) ∧ r.2.2.2 + tpS m ≤ tpS (sN σ 38)
theorem uA_tC {σ : CS} {l : Int32} {row : Nat → Int32} {m i : Nat} {x : Int32} : uA (tC σ l row m) 38 i x = tC σ l (upd row i x) m := by
  show (upd σ.1 3701 l, σ.2.1, updG (updG σ.2.2.1 38 row) 38 (upd (updG σ.2.2.1 38 row 38) i x), σ.2.2.2.1, updN (sN σ) 38 m, σ.2.2.2.2.2) = _
  rw [updG_updG, updG_same]; rfl
theorem nar0 : vp_nar .byte 0 = 0 := rfl
theorem s_rewind {σ : CS} {n : Nat} (hok : tOK σ) (hl : σ.1 3701 = nI n) (hn : n ≤ 32768) (L : LV) : Tm (fun k => f_X2_rewind k 0 L σ) (cRew σ n) := by
  obtain ⟨h0, h1, h2, hS, hf⟩ := hok
  have hi : (σ.1 3701).toInt = n := by rw [hl, n_int (by omega)]
  have e2 : nI n + 2 = nI (n + 2) := (Int32.ofNat_add n 2).symm
  refine Tm_suc (fun k => by rw [f_X2_rewind]) ?_
  rw [hl, e2]
  refine Tm_ox (s_lexWiden _ σ (by rw [lI_same, n_int (by omega)]; omega) (by rw [lI_same, n_int (by omega)]; omega) hS hf) (fun r hr h => absurd (by rw [hr.1]) h) (fun r hr _ => ?_)
  obtain ⟨hr0, row, m, hst, hrow, hfit, hm1, hm2, hm3, hc, hsl⟩ := hr
  rw [lI_same, n_int (by omega)] at hm3
  rw [hst, tC_len, tC_n, hl]
  refine Tm_chk (n_in (by omega) (by omega)) ?_
  rw [n_cl (p := n) (by omega), uA_tC, tC_len, n_add1]
  refine Tm_chk (by rw [tC_n]; exact n_in (by omega) (by omega)) ?_
  rw [n_cl (p := n + 1) (by omega), uA_tC, nar0]
  refine Tm_suc (fun k => by rw [f_X2_rewind]) ?_
  refine Tm_some ⟨rfl, upd (upd row n 0) (n + 1) 0, m, by rw [hl], fun i hin => ?_, ?_, ?_, fun i him => ?_, hm1, hm2, by omega, hc, hsl⟩
  · rw [upd_other (by omega), upd_other (by omega)]; exact hrow i (by omega)
  · rw [upd_other (by omega), upd_same]
  · rw [upd_same]
  · by_cases c : i = n + 1
    · rw [c, upd_same]; rfl
    · rw [upd_other c]
      by_cases d : i = n
      · rw [d, upd_same]; rfl
      · rw [upd_other d]; exact hfit i him
/-- then it can be read -/
theorem rew_cN {σ : CS} {n : Nat} {r : RS} (hl : σ.1 3701 = nI n) (hn : n ≤ 32768) (h : cRew σ n r) : cN r.2.1 n ∧ r.2.1.1 3704 = nI 0 := by
  obtain ⟨_, row, m, hst, hrow, z0, z1, hfit, hm1, hm2, hm3, _⟩ := h
  have e1 : (uI (tC σ (σ.1 3701) row m) 3704 0).1 3701 = σ.1 3701 := by
    show upd (upd σ.1 3701 (σ.1 3701)) 3704 0 3701 = _
    rw [upd_other (by decide), upd_same]
  have e2 : (uI (tC σ (σ.1 3701) row m) 3704 0).2.2.1 38 = row := tC_row (σ := σ) (l := σ.1 3701)
  have e3 : sN (uI (tC σ (σ.1 3701) row m) 3704 0) 38 = m := tC_n (σ := σ) (l := σ.1 3701)
  rw [hst]
  refine ⟨?_, (upd_same : upd (tC σ (σ.1 3701) row m).1 3704 0 3704 = 0)⟩
  unfold cN
  rw [e1, e2, e3]
  exact ⟨hl, hn, hm3, hm2, hfit, z0, z1⟩
/-- both sides have the same bytes before them -/
theorem rew_same {σ : CS} {τ : MS} {n : Nat} {r : RS} (hl : σ.1 3701 = nI n) (hn : n ≤ 32768) (ht : tRel σ τ) (h : cRew σ n r) : sameT (τ.2.2 3) (r.2.1.2.2.1 38) n := by
  obtain ⟨_, row, m, hst, hrow, z0, z1, hfit, hm1, hm2, hm3, _⟩ := h
  have e2 : (uI (tC σ (σ.1 3701) row m) 3704 0).2.2.1 38 = row := tC_row (σ := σ) (l := σ.1 3701)
  rw [hst, e2]
  refine ⟨fun i hi => ?_, fun i hi => hfit i (by omega), z0, z1⟩
  rw [hrow i hi]
  exact ht.2 i (by rw [hl, n_int (by omega)]; omega)
/-! The reference: small methods of its parser. -/
theorem s_isSign (L : Nat → Int32) (σ : MS) : Tm (fun k => x_isSign k 0 L σ) (fun r => r.2 = σ ∧ (¬ r.1 = 0 ↔ (σ.1 6 = 4 ∧ σ.1 7 = L 1))) := by
  have out : ∀ (x : Int32) (M : Nat → Int32), M 100 = x → (x = 0 ∨ x = 1) → (¬ x = 0 ↔ (σ.1 6 = 4 ∧ σ.1 7 = L 1)) → Tm (fun k => x_isSign k 2 M σ) (fun r => r.2 = σ ∧ (¬ r.1 = 0 ↔ (σ.1 6 = 4 ∧ σ.1 7 = L 1))) := fun x M hx h01 h => by
    refine Tm_suc (fun k => by rw [x_isSign]) ?_
    rw [hx]
    refine Tm_chk h01 ?_
    exact Tm_some ⟨rfl, h⟩
  have no : ¬ (σ.1 6 = 4 ∧ σ.1 7 = L 1) → Tm (fun k => x_isSign k 1 L σ) (fun r => r.2 = σ ∧ (¬ r.1 = 0 ↔ (σ.1 6 = 4 ∧ σ.1 7 = L 1))) := fun h => by
    refine Tm_suc (fun k => by rw [x_isSign]) ?_
    exact out 0 _ upd_same (Or.inl rfl) ⟨fun q => absurd rfl q, fun q => absurd q h⟩
  refine Tm_suc (fun k => by rw [x_isSign]) ?_
  refine Tm_ite (fun c => ?_) (fun c => no (fun h => c h.1))
  refine Tm_ite (fun d => ?_) (fun d => no (fun h => d h.2))
  exact out 1 _ upd_same (Or.inr rfl) ⟨fun _ => ⟨c, d⟩, fun _ => by decide⟩
theorem s_isWord (L : Nat → Int32) (σ : MS) : Tm (fun k => x_isWord k 0 L σ) (fun r => r.2 = σ ∧ (¬ r.1 = 0 ↔ (σ.1 6 = 5 ∧ σ.1 7 = L 1))) := by
  have out : ∀ (x : Int32) (M : Nat → Int32), M 100 = x → (x = 0 ∨ x = 1) → (¬ x = 0 ↔ (σ.1 6 = 5 ∧ σ.1 7 = L 1)) → Tm (fun k => x_isWord k 2 M σ) (fun r => r.2 = σ ∧ (¬ r.1 = 0 ↔ (σ.1 6 = 5 ∧ σ.1 7 = L 1))) := fun x M hx h01 h => by
    refine Tm_suc (fun k => by rw [x_isWord]) ?_
    rw [hx]
    refine Tm_chk h01 ?_
    exact Tm_some ⟨rfl, h⟩
  have no : ¬ (σ.1 6 = 5 ∧ σ.1 7 = L 1) → Tm (fun k => x_isWord k 1 L σ) (fun r => r.2 = σ ∧ (¬ r.1 = 0 ↔ (σ.1 6 = 5 ∧ σ.1 7 = L 1))) := fun h => by
    refine Tm_suc (fun k => by rw [x_isWord]) ?_
    exact out 0 _ upd_same (Or.inl rfl) ⟨fun q => absurd rfl q, fun q => absurd q h⟩
  refine Tm_suc (fun k => by rw [x_isWord]) ?_
  refine Tm_ite (fun c => ?_) (fun c => no (fun h => c h.1))
  refine Tm_ite (fun d => ?_) (fun d => no (fun h => d h.2))
  exact out 1 _ upd_same (Or.inr rfl) ⟨fun _ => ⟨c, d⟩, fun _ => by decide⟩
/-- the state with a fault n at p, if none was met -/
def mFlt (σ : MS) (n p : Int32) : MS := if σ.1 10 = 0 then (upd (upd (upd σ.1 10 1) 11 n) 12 p, σ.2) else σ
theorem s_cannot (L : Nat → Int32) (σ : MS) : Tm (fun k => x_cannot k 0 L σ) (fun r => r = (0, mFlt σ 2 (σ.1 8))) := by
  refine Tm_suc (fun k => by rw [x_cannot]) ?_
  refine Tm_ob (s_fault _ _) (fun r hr => ?_)
  subst hr
  first
    | (refine Tm_some ?_; unfold mFlt; rw [upd_same, upd_other (by decide), upd_same])
    | (refine Tm_suc (fun k => by rw [x_cannot]) ?_; refine Tm_some ?_; unfold mFlt; rw [upd_same, upd_other (by decide), upd_same])
