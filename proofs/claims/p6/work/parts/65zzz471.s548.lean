/-! The house: calls that only look. -/
section DYX
variable {σ s : CS} {ρ τ ω : MS} {b : Bool} {sz j n : Nat} {XE : XEt} {L : LV}
theorem IC_s (h : IC XE j σ) (hj : j < 512) : IC XE (j + 1) σ := by
  obtain ⟨n, sz, ⟨t1, t2, t3, t4⟩, ⟨p1, p2, p3, p4, p5, p6⟩, q, m, pp⟩ := h
  refine ⟨n, sz, ⟨t1, t2, by omega, t4⟩, ⟨p1, p2, p3, p4, p5, by omega⟩, q, m, pp.imp id (fun ⟨k0, gl, pr, c, k2, k3, k4⟩ => ⟨k0, gl, pr, c, k2, k3, fun z => ⟨(k4 z).1, (k4 z).2.1, by have := (k4 z).2.2; omega⟩⟩)⟩
theorem RfJ_s (h : RfJ XE j τ) : RfJ XE (j + 1) τ := by
  obtain ⟨h1, h2⟩ := h
  refine ⟨h1, h2.imp id (fun z => ?_)⟩
  obtain ⟨z1, TX, u, p, nX, g, t, KB, S, a1, a2, a3, a4, a5, C, K, z0, x66, sd, ri, ps⟩ := z
  refine ⟨z1, TX, u, p, nX, g, t, KB, S, a1, a2, a3, a4, a5, C, K, z0, x66, sd, ri, fun y => ?_⟩
  obtain ⟨m, m1, m2⟩ := ps y
  exact ⟨m, by omega, m2⟩
theorem hp_none (hj : j < 512) (h : IB j σ τ) : IB (j + 1) σ τ := by
  obtain ⟨XE, ic, rf, tr, e⟩ := h
  exact ⟨XE, IC_s ic hj, RfJ_s rf, tr, e⟩
theorem KpT_rel (h : tRel σ τ) (k : KpT τ ω) : tRel σ ω := by
  unfold tRel at h ⊢
  refine ⟨h.1.trans k.1.1.symm, fun i hi => ?_⟩
  rw [k.1.2 i (by rw [← h.1]; exact hi)]
  exact h.2 i hi
/-- the house left its state as it was -/
theorem IB_k {gM : Nat → Option (Int32 × MS)} (h : IB j σ τ) (hj : j < 512) (hr : ∀ XE, RfJ XE j τ → Tm (fun k => gM k) (fun q : Int32 × MS => RfJ XE (j + 1) q.2 ∧ KpT τ q.2)) : Tm (fun k => gM k) (fun q : Int32 × MS => IB (j + 1) σ q.2) := by
  obtain ⟨XE, ic, rf, tr, e10, e11, e13⟩ := h
  refine Tm_mono (hr XE rf) (fun q w => ?_)
  obtain ⟨w1, w2⟩ := w
  exact ⟨XE, IC_s ic hj, w1, KpT_rel tr w2, by rw [w2.2.2.1]; exact e10, by rw [w2.2.2.2]; exact e11, by rw [w2.2.1]; exact e13⟩
theorem IB_k2 {gM : Nat → Option (Int32 × MS)} (h : IB j σ τ) (hj : j < 512) (hr : ∀ XE, RfJ XE j τ → Tm (fun k => gM k) (fun q : Int32 × MS => RfJ XE (j + 1) q.2 ∧ KpT τ q.2)) : Tm (fun k => gM k) (fun q : Int32 × MS => IB (j + 1) σ q.2 ∧ True) := Tm_mono (IB_k h hj hr) (fun q w => ⟨w, trivial⟩)
def cPy (j : Nat) (gC : CS → Nat → Option (Int32 × CS)) (gM : MS → Nat → Option (Int32 × MS)) : Prop := ∀ σ τ, IB j σ τ → Tm (gC σ) (fun r => PhC r.2 ≤ PhC σ ∧ PhS r.2 ≤ PhS σ ∧ Tm (gM τ) (fun q => IB (j + 1) r.2 q.2))
/-- a call that leaves the state, or throws -/
theorem cPr_k {cs : Nat → Prop} {gC : CS → Nat → Option RS} {gM : MS → Nat → Option (Int32 × MS)} (hj : j < 512) (hC : ∀ σ τ, IB j σ τ → Tm (gC σ) (fun r => cs r.1.1 ∧ r.2.1 = σ ∧ r.2.2.1 ≤ 1 ∧ r.2.2.2 ≤ 6)) (hM : ∀ XE τ, RfJ XE j τ → Tm (gM τ) (fun q => RfJ XE (j + 1) q.2 ∧ KpT τ q.2)) : cPr j cs gC gM (fun _ _ => True) := by
  intro σ τ h
  refine Tm_mono (hC σ τ h) (fun r z => ?_)
  obtain ⟨z1, z2, z3, z4⟩ := z
  refine ⟨z1, by rw [z2]; omega, by rw [z2]; omega, ?_⟩
  rw [z2]
  exact IB_k2 (gM := gM τ) h hj (fun XE rf => hM XE τ rf)
theorem hp_fault (hj : j < 512) : cPy j (fun σ k => y_X11_fault k 0 lZ σ) (fun τ k => x_fault_ k 0 (fun _ => 0) τ) := by
  intro σ τ h
  show Tm (fun k => y_X11_fault k 0 lZ σ) _
  refine Tm_suc (fun k => by rw [y_X11_fault]) ?_
  exact Tm_some ⟨Nat.le_refl _, Nat.le_refl _, IB_k h hj (fun XE rf => rj_fault rf)⟩
theorem hp_count (hj : j < 512) (a1 : Int32) : cPr j (fun x => x = 0 ∨ x = 3) (fun σ k => f_X11_count k 0 (lI lZ 1 a1) σ) (fun τ k => x_count k 0 (upd (fun _ => 0) 1 a1) τ) (fun _ _ => True) := by
  refine cPr_k hj (fun σ τ h => ?_) (fun XE τ rf => rj_count rf)
  refine Tm_suc (fun k => by rw [f_X11_count]) ?_
  refine Tm_ite (fun _ => ?_) (fun _ => Tm_ite (fun _ => ?_) (fun _ => Tm_ite (fun _ => ?_) (fun _ => Tm_ite (fun _ => ?_) (fun _ => Tm_ite (fun _ => ?_) (fun _ => ?_)))))
  · exact Tm_suc (fun k => by rw [f_X11_count]) (Tm_some ⟨Or.inl rfl, rfl, Nat.zero_le _, Nat.zero_le _⟩)
  · exact Tm_suc (fun k => by rw [f_X11_count]) (Tm_some ⟨Or.inl rfl, rfl, Nat.zero_le _, Nat.zero_le _⟩)
  · refine Tm_suc (fun k => by rw [f_X11_count]) ?_
    exact Tm_chk (by decide) (Tm_some ⟨Or.inl rfl, rfl, Nat.zero_le _, Nat.zero_le _⟩)
  · exact Tm_suc (fun k => by rw [f_X11_count]) (Tm_some ⟨Or.inl rfl, rfl, Nat.zero_le _, Nat.zero_le _⟩)
  · exact Tm_suc (fun k => by rw [f_X11_count]) (Tm_some ⟨Or.inl rfl, rfl, Nat.zero_le _, Nat.zero_le _⟩)
  · exact Tm_suc (fun k => by rw [f_X11_count]) (Tm_some ⟨Or.inr rfl, rfl, Nat.le_refl _, Nat.le_refl _⟩)
/-- is there a run -/
theorem c_wantRun : Tm (fun k => f_X11_wantRun k 0 L σ) (fun r => (σ.1 7511 = 0 ∧ r = ((2, 0), σ, (1, 6))) ∨ (¬ σ.1 7511 = 0 ∧ r = ((0, 0), σ, (0, 0)))) := by
  refine Tm_suc (fun k => by rw [f_X11_wantRun]) ?_
  refine Tm_ite (fun z => ?_) (fun z => ?_)
  · exact Tm_some (Or.inl ⟨z, rfl⟩)
  · exact Tm_suc (fun k => by rw [f_X11_wantRun]) (Tm_some (Or.inr ⟨z, rfl⟩))
/-- a run is wanted: else it throws -/
theorem Tm_wr {f : Nat → RS → Option RS} {Q : RS → Prop} (hN : σ.1 7511 = 0 → Q ((2, 0), σ, (1, 6))) (hY : ¬ σ.1 7511 = 0 → Tm (fun k => f k ((0, 0), σ, (0, 0))) Q) : Tm (fun k => ox (f_X11_wantRun k 0 L σ) (f k)) Q := by
  refine Tm_ox c_wantRun (fun r z nz => ?_) (fun r z e => ?_)
  · rcases z with ⟨z, e⟩ | ⟨z, e⟩
    · rw [e]; exact hN z
    · rw [e] at nz; exact absurd rfl nz
  · rcases z with ⟨z, e'⟩ | ⟨z, e'⟩
    · rw [e'] at e; exact absurd (show (2 : Nat) = 0 from e) (by decide)
    · rw [e']
      refine Tm_mono (hY z) (fun q w => ?_)
      show Q (q.1, q.2.1, (0 + q.2.2.1, 0 + q.2.2.2))
      rw [Nat.zero_add, Nat.zero_add]
      exact w
theorem hp_state (hj : j < 512) (a1 : Int32) : cPr j (fun x => x = 0 ∨ x = 3 ∨ x = 2) (fun σ k => f_X11_state k 0 (lI lZ 1 a1) σ) (fun τ k => x_state k 0 (upd (fun _ => 0) 1 a1) τ) (fun _ _ => True) := by
  refine cPr_k hj (fun σ τ h => ?_) (fun XE τ rf => rj_state rf)
  have no : ∀ L' : LV, Tm (fun k => f_X11_state k 1 L' σ) (fun r => (r.1.1 = 0 ∨ r.1.1 = 3 ∨ r.1.1 = 2) ∧ r.2.1 = σ ∧ r.2.2.1 ≤ 1 ∧ r.2.2.2 ≤ 6) := fun L' => Tm_suc (fun k => by rw [f_X11_state]) (Tm_some ⟨Or.inr (Or.inl rfl), rfl, Nat.le_refl _, Nat.le_refl _⟩)
  refine Tm_suc (fun k => by rw [f_X11_state]) ?_
  refine Tm_ite (fun _ => no _) (fun _ => Tm_ite (fun _ => ?_) (fun _ => no _))
  refine Tm_suc (fun k => by rw [f_X11_state]) ?_
  refine Tm_wr (fun _ => ⟨Or.inr (Or.inr rfl), rfl, Nat.le_refl _, Nat.le_refl _⟩) (fun _ => ?_)
  have ok : ∀ x : Int32, (fun r : RS => (r.1.1 = 0 ∨ r.1.1 = 3 ∨ r.1.1 = 2) ∧ r.2.1 = σ ∧ r.2.2.1 ≤ 1 ∧ r.2.2.2 ≤ 6) ((0, x), σ, (0, 0)) := fun x => ⟨Or.inl rfl, rfl, Nat.zero_le _, Nat.zero_le _⟩
  refine Tm_ite (fun _ => ?_) (fun _ => Tm_ite (fun _ => ?_) (fun _ => Tm_ite (fun _ => ?_) (fun _ => Tm_ite (fun _ => ?_) (fun _ => Tm_ite (fun _ => ?_) (fun _ => Tm_ite (fun _ => ?_) (fun _ => Tm_ite (fun _ => ?_) (fun _ => Tm_ite (fun _ => ?_) (fun _ => Tm_ite (fun _ => ?_) (fun _ => ?_)))))))))
  all_goals exact Tm_suc (fun k => by rw [f_X11_state]) (Tm_some (ok _))
theorem hp_out (hj : j < 512) (a1 : Int32) : cPr j (fun x => x = 0 ∨ x = 3) (fun σ k => f_X11_out k 0 (lI lZ 1 a1) σ) (fun τ k => x_out k 0 (upd (fun _ => 0) 1 a1) τ) (fun _ _ => True) := by
  refine cPr_k hj (fun σ τ h => ?_) (fun XE τ rf => rj_out rf)
  obtain ⟨XE, ⟨n, sz, _, _, _, ⟨_, by0⟩, _⟩, _⟩ := h
  have n22 : sN σ 22 ≤ 60000 := by0.2.2.2.1
  have no : ∀ L' : LV, Tm (fun k => f_X11_out k 1 L' σ) (fun r => (r.1.1 = 0 ∨ r.1.1 = 3) ∧ r.2.1 = σ ∧ r.2.2.1 ≤ 1 ∧ r.2.2.2 ≤ 6) := fun L' => Tm_suc (fun k => by rw [f_X11_out]) (Tm_some ⟨Or.inr rfl, rfl, Nat.le_refl _, Nat.le_refl _⟩)
  refine Tm_suc (fun k => by rw [f_X11_out]) ?_
  refine Tm_ite (fun _ => no _) (fun _ => Tm_ite (fun _ => no _) (fun c1 => Tm_ite (fun _ => no _) (fun _ => Tm_ite (fun _ => no _) (fun _ => Tm_ite (fun c2 => ?_) (fun _ => no _)))))
  refine Tm_suc (fun k => by rw [f_X11_out]) ?_
  refine Tm_chk ?_ (Tm_some ⟨Or.inl rfl, rfl, Nat.zero_le _, Nat.zero_le _⟩)
  have p : 0 ≤ a1 := by rw [i_le]; have c1' : ¬ a1 < 0 := c1; rw [i_lt] at c1'; omega
  have u1 := (u_nn a1).1 p
  have c2' : a1 < nI (sN σ 22) := c2
  have c3 := (u_ltn u1 (by rw [u_n (by omega)]; omega)).1 c2'
  rw [u_n (by omega)] at c3
  exact u_in c3 (by omega)
theorem hp_shown (hj : j < 512) (a1 : Int32) : cPr j (fun x => x = 0 ∨ x = 3) (fun σ k => f_X11_shown k 0 (lI lZ 1 a1) σ) (fun τ k => x_shown k 0 (upd (fun _ => 0) 1 a1) τ) (fun _ _ => True) := by
  refine cPr_k hj (fun σ τ h => ?_) (fun XE τ rf => rj_shown rf)
  obtain ⟨XE, ⟨n, sz, _, _, ⟨q1, q2, q3⟩, ⟨_, by0⟩, _⟩, _⟩ := h
  have n66 : sN σ 66 ≤ 10400 := by0.2.2.2.2.1
  have no : ∀ L' : LV, Tm (fun k => f_X11_shown k 1 L' σ) (fun r => (r.1.1 = 0 ∨ r.1.1 = 3) ∧ r.2.1 = σ ∧ r.2.2.1 ≤ 1 ∧ r.2.2.2 ≤ 6) := fun L' => Tm_suc (fun k => by rw [f_X11_shown]) (Tm_some ⟨Or.inr rfl, rfl, Nat.le_refl _, Nat.le_refl _⟩)
  refine Tm_suc (fun k => by rw [f_X11_shown]) ?_
  refine Tm_ite (fun _ => no _) (fun c1 => Tm_ite (fun c2 => ?_) (fun _ => no _))
  refine Tm_suc (fun k => by rw [f_X11_shown]) ?_
  refine Tm_chk ?_ (Tm_some ⟨Or.inl rfl, rfl, Nat.zero_le _, Nat.zero_le _⟩)
  have p : 0 ≤ a1 := by rw [i_le]; have c1' : ¬ a1 < 0 := c1; rw [i_lt] at c1'; omega
  have u1 := (u_nn a1).1 p
  have c2' : a1 < σ.1 7517 := c2
  have c3 := (u_ltn u1 (by omega)).1 c2'
  exact u_in (show uN a1 < sN σ 66 by omega) (by omega)
end DYX
