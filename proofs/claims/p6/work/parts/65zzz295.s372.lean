/-! The class: operators of one. -/
section CSJ
variable {g g' g2 : Nat → Prop} {l l' l2 : List Nat} {t t' t2 : Nat} {σ σ' σ2 : CS} {L : LV} {x y i : Int32} {M M' : Nat → Int32}
/-- what a call answers that may throw, but doesn't -/
def UO (g : Nat → Prop) (t : Nat) (σ : CS) (r : RS) : Prop := r.1.1 = 0 ∧ r.2.2 = (0, 0) ∧ Va g t σ (r.1.2, r.2.1)
theorem UO_s {v : Int32} (d : Va g t σ (v, σ')) : UO g t σ ((0, v), σ', (0, 0)) := ⟨rfl, rfl, d⟩
theorem UO_w {r : RS} (h : HQ g l t σ) (q : WO g t σ r) : UO g t σ ((0, r.1.2), r.2.1, (0, 0)) := by
  obtain ⟨a, b, σ1, w, m⟩ := q
  exact ⟨rfl, rfl, Va_M h (AXf_L w) m⟩
theorem c_unary (h : HQ g l t σ) (hx : Gv g (L.1 2)) : Tm (fun k => f_X0_unary k 0 L σ) (UO g t σ) := by
  have kk : ∀ n : Nat, n < 8 → nI (kdC (σ.2.2.1 3) (L.1 2)) = nI n → kdC (σ.2.2.1 3) (L.1 2) = n := fun n hn c => kd_n hn c
  have kl := kdC_lt (σ.2.2.1 3) (L.1 2)
  have e14 : ∀ (L' : LV) (σ' : CS), Va g t σ (L'.1 100, σ') → Tm (fun k => f_X0_unary k 14 L' σ') (UO g t σ) := by
    intro L' σ' d
    refine Tm_suc (fun k => by rw [f_X0_unary]) ?_
    exact Tm_some (UO_s d)
  have e16 : ∀ (L' : LV) (σ' : CS), Va g t σ (L'.1 100, σ') → Tm (fun k => f_X0_unary k 16 L' σ') (UO g t σ) := by
    intro L' σ' d
    refine Tm_suc (fun k => by rw [f_X0_unary]) ?_
    exact Tm_some (UO_s d)
  have e18 : ∀ (L' : LV) (σ' : CS), Va g t σ (L'.1 100, σ') → Tm (fun k => f_X0_unary k 18 L' σ') (UO g t σ) := by
    intro L' σ' d
    refine Tm_suc (fun k => by rw [f_X0_unary]) ?_
    exact Tm_some (UO_s d)
  have e20 : ∀ (L' : LV) (σ' : CS), Va g t σ (L'.1 100, σ') → Tm (fun k => f_X0_unary k 20 L' σ') (UO g t σ) := by
    intro L' σ' d
    refine Tm_suc (fun k => by rw [f_X0_unary]) ?_
    exact Tm_some (UO_s d)
  have e22 : ∀ (L' : LV) (σ' : CS), Va g t σ (L'.1 100, σ') → Tm (fun k => f_X0_unary k 22 L' σ') (UO g t σ) := by
    intro L' σ' d
    refine Tm_suc (fun k => by rw [f_X0_unary]) ?_
    exact Tm_some (UO_s d)
  have e24 : ∀ (L' : LV) (σ' : CS), Va g t σ (L'.1 100, σ') → Tm (fun k => f_X0_unary k 24 L' σ') (UO g t σ) := by
    intro L' σ' d
    refine Tm_suc (fun k => by rw [f_X0_unary]) ?_
    exact Tm_some (UO_s d)
  have e26 : ∀ (L' : LV) (σ' : CS), Va g t σ (L'.1 100, σ') → Tm (fun k => f_X0_unary k 26 L' σ') (UO g t σ) := by
    intro L' σ' d
    refine Tm_suc (fun k => by rw [f_X0_unary]) ?_
    exact Tm_some (UO_s d)
  have e28 : ∀ (L' : LV) (σ' : CS), Va g t σ (L'.1 100, σ') → Tm (fun k => f_X0_unary k 28 L' σ') (UO g t σ) := by
    intro L' σ' d
    refine Tm_suc (fun k => by rw [f_X0_unary]) ?_
    exact Tm_some (UO_s d)
  have e30 : ∀ (L' : LV) (σ' : CS), Va g t σ (L'.1 100, σ') → Tm (fun k => f_X0_unary k 30 L' σ') (UO g t σ) := by
    intro L' σ' d
    refine Tm_suc (fun k => by rw [f_X0_unary]) ?_
    exact Tm_some (UO_s d)
  have e33 : ∀ (L' : LV) (σ' : CS), Va g t σ (L'.1 100, σ') → Tm (fun k => f_X0_unary k 33 L' σ') (UO g t σ) := by
    intro L' σ' d
    refine Tm_suc (fun k => by rw [f_X0_unary]) ?_
    exact Tm_some (UO_s d)
  have er : Va g t σ (-268435455, σ) := Va_e h (AXf_r σ) eKind
  have qv : ∀ r : Int32 × CS, Qv g σ r → Va g t σ r := by
    intro r q
    have e : r = (r.1, σ) := Prod.ext rfl q.1
    rw [e]
    exact q.2.elim (fun z => Va_g h (AXf_r σ) z) (fun z => Va_e h (AXf_r σ) z)
  refine Tm_suc (fun k => by rw [f_X0_unary]) ?_
  refine Tm_op (c_kind h hx) (fun r e => ?_)
  rw [e]
  refine Tm_ite (fun _ => ?_) (fun _ => Tm_ite (fun _ => ?_) (fun _ => Tm_ite (fun _ => ?_) (fun _ => Tm_ite (fun _ => ?_) (fun _ => Tm_ite (fun _ => ?_) (fun _ => Tm_ite (fun _ => ?_) (fun _ => Tm_ite (fun _ => ?_) (fun _ => Tm_ite (fun _ => ?_) (fun _ => Tm_ite (fun _ => ?_) (fun _ => Tm_ite (fun _ => ?_) (fun _ => Tm_ite (fun _ => ?_) (fun _ => ?_)))))))))))
  · refine Tm_suc (fun k => by rw [f_X0_unary]) ?_
    refine Tm_ite (fun c => ?_) (fun _ => ?_)
    · exact Tm_op (c_negated h ⟨hx, kk 2 (by decide) c⟩) (fun r z => e14 _ _ (Va_V z))
    · refine Tm_suc (fun k => by rw [f_X0_unary]) ?_
      exact e14 _ _ er
  · refine Tm_suc (fun k => by rw [f_X0_unary]) ?_
    refine Tm_ite (fun c => ?_) (fun _ => ?_)
    · refine Tm_suc (fun k => by rw [f_X0_unary]) ?_
      exact e16 _ _ er
    · refine Tm_op (c_length h hx) (fun r e => ?_)
      rw [e]
      refine Tm_op c_small (fun r q => ?_)
      have e2 : r.2 = σ := q.1
      refine e16 _ _ ?_
      rw [e2]
      exact Va_g h (AXf_r σ) (W2_i (g := g) σ q.2.1 q.2.2).1
  · refine Tm_suc (fun k => by rw [f_X0_unary]) ?_
    refine Tm_ite (fun c => ?_) (fun _ => ?_)
    · exact Tm_op (c_absolute h ⟨hx, kk 2 (by decide) c⟩) (fun r z => e18 _ _ (Va_V z))
    · refine Tm_suc (fun k => by rw [f_X0_unary]) ?_
      exact e18 _ _ er
  · refine Tm_suc (fun k => by rw [f_X0_unary]) ?_
    refine Tm_ite (fun c => ?_) (fun _ => ?_)
    · have s5 : Sq5 g σ (L.1 2) := Sq5_k hx (by have := kk 6 (by decide) c; omega)
      refine Tm_op (c_member h s5.1 s5.2) (fun r e => ?_)
      rw [e]
      exact e20 _ _ (Va_g h (AXf_r σ) (mbC_g h s5.1 s5.2))
    · refine Tm_suc (fun k => by rw [f_X0_unary]) ?_
      exact e20 _ _ er
  · refine Tm_suc (fun k => by rw [f_X0_unary]) ?_
    refine Tm_op (c_isMap h hx) (fun r q => ?_)
    have e : r.2 = σ := q.1.1
    rw [e]
    refine Tm_ite (fun _ => ?_) (fun c => ?_)
    · refine Tm_suc (fun k => by rw [f_X0_unary]) ?_
      exact e22 _ _ er
    · exact Tm_op (c_domain h ⟨hx, q.2 c⟩) (fun r z => e22 _ _ z)
  · refine Tm_suc (fun k => by rw [f_X0_unary]) ?_
    refine Tm_op (c_isMap h hx) (fun r q => ?_)
    have e : r.2 = σ := q.1.1
    rw [e]
    refine Tm_ite (fun _ => ?_) (fun c => ?_)
    · refine Tm_suc (fun k => by rw [f_X0_unary]) ?_
      exact e24 _ _ er
    · exact Tm_op (c_range h ⟨hx, q.2 c⟩) (fun r z => e24 _ _ z)
  · refine Tm_suc (fun k => by rw [f_X0_unary]) ?_
    refine Tm_ite (fun c => ?_) (fun _ => ?_)
    · exact Tm_op (c_subsets h (Sq5_k hx (by show 5 ≤ kdC (σ.2.2.1 3) (L.1 2); have := kk 6 (by decide) c; omega))) (fun r z => e26 _ _ z)
    · refine Tm_suc (fun k => by rw [f_X0_unary]) ?_
      exact e26 _ _ er
  · refine Tm_suc (fun k => by rw [f_X0_unary]) ?_
    refine Tm_ite (fun _ => ?_) (fun _ => Tm_ite (fun _ => ?_) (fun _ => Tm_ite (fun _ => ?_) (fun _ => Tm_ite (fun _ => ?_) (fun _ => Tm_ite (fun _ => ?_) (fun _ => Tm_ite (fun _ => ?_) (fun _ => ?_))))))
    · exact Tm_oxz (c_word2 h) (fun r z => ⟨z.1, z.2.1⟩) (fun r z => Tm_some (UO_w h z))
    · exact Tm_oxz (c_word4 h) (fun r z => ⟨z.1, z.2.1⟩) (fun r z => Tm_some (UO_w h z))
    · exact Tm_oxz (c_word6 h) (fun r z => ⟨z.1, z.2.1⟩) (fun r z => Tm_some (UO_w h z))
    · exact Tm_oxz (c_word8 h) (fun r z => ⟨z.1, z.2.1⟩) (fun r z => Tm_some (UO_w h z))
    · exact Tm_oxz (c_word10 h) (fun r z => ⟨z.1, z.2.1⟩) (fun r z => Tm_some (UO_w h z))
    · exact Tm_oxz (c_word12 h) (fun r z => ⟨z.1, z.2.1⟩) (fun r z => Tm_some (UO_w h z))
    · exact Tm_oxz (c_word14 h) (fun r z => ⟨z.1, z.2.1⟩) (fun r z => Tm_some (UO_w h z))
  · refine Tm_suc (fun k => by rw [f_X0_unary]) ?_
    refine Tm_oxz (c_print h hx) (fun r z => ⟨z.1, z.2.1⟩) (fun r z => ?_)
    exact Tm_op (c_madeString (HQ_L h z.2.2.1) z.2.2.2) (fun r2 m => Tm_some (UO_s (Va_M h (AXf_L z.2.2.1) m)))
  · refine Tm_suc (fun k => by rw [f_X0_unary]) ?_
    refine Tm_ite (fun c => ?_) (fun _ => ?_)
    · exact Tm_op (c_charOf h hx) (fun r z => e28 _ _ (qv r z))
    · refine Tm_suc (fun k => by rw [f_X0_unary]) ?_
      exact e28 _ _ er
  · refine Tm_suc (fun k => by rw [f_X0_unary]) ?_
    refine Tm_ite (fun c => ?_) (fun _ => ?_)
    · exact Tm_op (c_codeOf h hx (kk 4 (by decide) c)) (fun r z => e30 _ _ (qv r z))
    · refine Tm_suc (fun k => by rw [f_X0_unary]) ?_
      exact e30 _ _ er
  · have b31 : ∀ (L' : LV), L'.1 2 = L.1 2 → L'.1 3 = nI (kdC (σ.2.2.1 3) (L.1 2)) → (kdC (σ.2.2.1 3) (L.1 2) = 4 ∨ kdC (σ.2.2.1 3) (L.1 2) = 5) → Tm (fun k => f_X0_unary k 31 L' σ) (UO g t σ) := by
      intro L' a2 a3 k45
      refine Tm_suc (fun k => by rw [f_X0_unary]) ?_
      refine Tm_op (c_reversed h ?_ ?_ ?_) (fun r z => e33 _ _ z)
      · show Gv g (L'.1 2); rw [a2]; exact hx
      · show L'.1 3 = nI (kdC (σ.2.2.1 3) (L'.1 2)); rw [a2, a3]
      · show kdC (σ.2.2.1 3) (L'.1 2) = 4 ∨ kdC (σ.2.2.1 3) (L'.1 2) = 5; rw [a2]; exact k45
    refine Tm_suc (fun k => by rw [f_X0_unary]) ?_
    refine Tm_ite (fun c => ?_) (fun _ => Tm_ite (fun c => ?_) (fun _ => ?_))
    · exact b31 _ rfl rfl (Or.inl (kk 4 (by decide) c))
    · exact b31 _ rfl rfl (Or.inr (kk 5 (by decide) c))
    · refine Tm_suc (fun k => by rw [f_X0_unary]) ?_
      exact e33 _ _ er
end CSJ
