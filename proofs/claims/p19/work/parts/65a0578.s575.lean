section JnS575
/-! The fault's number: alike on both sides between calls (for p5). -/
section F7
variable {j : Nat} {cs : Nat → Prop} {gC : CS → Nat → Option RS} {gM : MS → Nat → Option (Int32 × MS)} {E : RS → Int32 × MS → Prop}
theorem cPq_of (h : cPr j cs gC gM E) (hc : ∀ σ k, Ef (k7w σ) (gC σ k)) (hm : ∀ τ k q, gM τ k = some q → q.2.1 11 = τ.1 11) : cPq j cs gC gM E FK := fun σ τ hi => Tm_mono (Tm_pt (h σ τ hi) (fun k r e => hc σ k r e)) (fun r z => ⟨z.1.1, z.1.2.1, z.1.2.2.1, Tm_mono (Tm_pt z.1.2.2.2 (fun k q e => hm τ k q e)) (fun q w => ⟨w.1.1, w.1.2, Or.inr ⟨congrArg (fun y : K7t => y.1) z.2, w.2⟩⟩)⟩)
/-- both sides, and the fault's number -/
def IF (j : Nat) (σ : CS) (τ : MS) : Prop := IB j σ τ ∧ σ.1 7512 = τ.1 11
def cPF (j : Nat) (cs : Nat → Prop) (gC : CS → Nat → Option RS) (gM : MS → Nat → Option (Int32 × MS)) (E : RS → Int32 × MS → Prop) : Prop := ∀ σ τ, IF j σ τ → Tm (gC σ) (fun r => cs r.1.1 ∧ r.2.2.1 + PhC r.2.1 ≤ PhC σ + 2 ∧ r.2.2.2 + PhS r.2.1 ≤ PhS σ + 12 ∧ Tm (gM τ) (fun q => IF (j + 1) r.2.1 q.2 ∧ E r q))
theorem cPF_of (h : cPq j cs gC gM E FK) : cPF j cs gC gM E := fun σ τ hi => Tm_mono (h σ τ hi.1) (fun r z => ⟨z.1, z.2.1, z.2.2.1, Tm_mono z.2.2.2 (fun q w => ⟨⟨w.1, w.2.2.elim id (fun u => u.1.trans (hi.2.trans u.2.symm))⟩, w.2.1⟩)⟩)
theorem cPF_T (h : cPr j cs gC gM E) (hc : ∀ σ k, Ef (k7w σ) (gC σ k)) (hm : ∀ τ k q, gM τ k = some q → q.2.1 11 = τ.1 11) : cPF j cs gC gM (fun _ _ => True) := cPF_of (cPq_of (cPr_T h) hc hm)
theorem cPF_E (h : cPF j cs gC gM E) : cPF j cs gC gM (fun _ _ => True) := fun σ τ hi => Tm_mono (h σ τ hi) (fun r z => ⟨z.1, z.2.1, z.2.2.1, Tm_mono z.2.2.2 (fun q w => ⟨w.1, trivial⟩)⟩)
theorem hF_none {σ : CS} {τ : MS} (hj : j < 512) (h : IF j σ τ) : IF (j + 1) σ τ := ⟨hp_none hj h.1, h.2⟩
theorem hF_fault (hj : j < 512) : ∀ σ τ, IF j σ τ → Tm (fun k => y_X11_fault k 0 lZ σ) (fun r => PhC r.2 ≤ PhC σ ∧ PhS r.2 ≤ PhS σ ∧ Tm (fun k => x_fault_ k 0 (fun _ => 0) τ) (fun q => IF (j + 1) r.2 q.2 ∧ r.1 = q.1)) := by
  intro σ τ h
  refine Tm_suc (fun k => by rw [y_X11_fault]) ?_
  refine Tm_some ⟨Nat.le_refl _, Nat.le_refl _, Tm_mono (Tm_and (IB_k (gM := fun k => x_fault_ k 0 (fun _ => 0) τ) h.1 hj (fun XE rf => rj_fault rf)) s_fault_) (fun q w => ?_)⟩
  obtain ⟨w1, w2⟩ := w
  rw [w2] at w1 ⊢
  exact ⟨⟨w1, h.2⟩, h.2⟩
theorem hF_order (hj : j < 512) : ∀ σ τ, IF j σ τ → Tm (fun k => y_X11_order k 0 lZ σ) (fun r => PhC r.2 ≤ PhC σ ∧ PhS r.2 ≤ PhS σ ∧ Tm (fun k => x_order k 0 (fun _ => 0) τ) (fun q => IF (j + 1) r.2 q.2)) := by
  intro σ τ h
  refine Tm_mono (Tm_pt (hp_order hj σ τ h.1) (fun k r e => k7_y_X11_order k 0 lZ σ rfl r e)) (fun r z => ⟨z.1.1, z.1.2.1, Tm_mono (Tm_pt z.1.2.2 (fun k q e => (ks_order k 0 _ τ (ks_rf τ) q e).1)) (fun q w => ⟨w.1, ?_⟩)⟩)
  exact (congrArg (fun y : K7t => y.1) z.2).trans (h.2.trans w.2.symm)

theorem hF_feed (hj : j < 512) (a1 a2 a3 a4 a5 : Int32) : cPF j (fun x => x = 0 ∨ x = 4) (fun σ k => f_X11_feed k 0 (lI (lI (lI (lI (lI lZ 1 a1) 2 a2) 3 a3) 4 a4) 5 a5) σ) (fun τ k => x_feed k 0 (upd (upd (upd (upd (upd (fun _ => 0) 1 a1) 2 a2) 3 a3) 4 a4) 5 a5) τ) (fun _ _ => True) := cPF_T (hp_feed hj a1 a2 a3 a4 a5) (fun σ k => k7_f_X11_feed _ _ _ _ rfl) (fun τ k q e => (ks_feed _ _ _ _ (ks_rf τ) q e).1)
theorem hF_end (hj : j < 512) (a1 : Int32) : cPF j (fun x => x = 0 ∨ x = 1) (fun σ k => f_X11_end k 0 (lI lZ 1 a1) σ) (fun τ k => x_end k 0 (upd (fun _ => 0) 1 a1) τ) (fun _ _ => True) := cPF_T (hp_end hj a1) (fun σ k => k7_f_X11_end _ _ _ _ rfl) (fun τ k q e => (ks_end _ _ _ _ (ks_rf τ) q e).1)
theorem hF_start (hj : j < 512) (a1 a2 : Int32) : cPF j (fun x => x = 0 ∨ x = 2) (fun σ k => f_X11_start k 0 (lJ lZ 1 ((((((a1.toInt64)) <<< ((32 : Int32).toInt64 &&& 63))) ||| ((((a2.toInt64)) &&& 4294967295))))) σ) (fun τ k => x_start k 0 (fun _ => 0) (updW (fun _ => 0) 1 ((((((a1.toInt64)) <<< ((32 : Int32).toInt64 &&& 63))) ||| ((((a2.toInt64)) &&& 4294967295))))) τ) (fun _ _ => True) := cPF_T (hp_start hj a1 a2) (fun σ k => k7_f_X11_start _ _ _ _ rfl) (fun τ k q e => (ks_start _ _ _ _ _ (ks_rf τ) q e).1)
theorem hF_step (hj : j < 512) (a1 : Int32) : cPF j (fun x => x = 0 ∨ x = 2 ∨ x = 1) (fun σ k => f_X11_step k 0 (lI lZ 1 a1) σ) (fun τ k => x_step k 0 (upd (fun _ => 0) 1 a1) τ) (fun _ _ => True) := cPF_T (hp_step hj a1) (fun σ k => k7_f_X11_step _ _ _ _ rfl) (fun τ k q e => (ks_step _ _ _ _ (ks_rf τ) q e).1)
theorem hF_back (hj : j < 512) (a1 : Int32) : cPF j (fun x => x = 0 ∨ x = 2 ∨ x = 1) (fun σ k => f_X11_back k 0 (lI lZ 1 a1) σ) (fun τ k => x_back k 0 (upd (fun _ => 0) 1 a1) τ) (fun _ _ => True) := cPF_T (hp_back hj a1) (fun σ k => k7_f_X11_back _ _ _ _ rfl) (fun τ k q e => (ks_back _ _ _ _ (ks_rf τ) q e).1)
theorem hF_state (hj : j < 512) (a1 : Int32) : cPF j (fun x => x = 0 ∨ x = 3 ∨ x = 2) (fun σ k => f_X11_state k 0 (lI lZ 1 a1) σ) (fun τ k => x_state k 0 (upd (fun _ => 0) 1 a1) τ) (fun _ _ => True) := cPF_T (hp_state hj a1) (fun σ k => k7_f_X11_state _ _ _ _ rfl) (fun τ k q e => (ks_state _ _ _ _ (ks_rf τ) q e).1)
theorem hF_out (hj : j < 512) (a1 : Int32) : cPF j (fun x => x = 0 ∨ x = 3) (fun σ k => f_X11_out k 0 (lI lZ 1 a1) σ) (fun τ k => x_out k 0 (upd (fun _ => 0) 1 a1) τ) (fun _ _ => True) := cPF_T (hp_out hj a1) (fun σ k => k7_f_X11_out _ _ _ _ rfl) (fun τ k q e => (ks_out _ _ _ _ (ks_rf τ) q e).1)
theorem hF_value (hj : j < 512) : cPF j (fun x => x = 0 ∨ x = 2 ∨ x = 1) (fun σ k => f_X11_value k 0 lZ σ) (fun τ k => x_value k 0 (fun _ => 0) τ) (fun _ _ => True) := cPF_T (hp_value hj) (fun σ k => k7_f_X11_value _ _ _ _ rfl) (fun τ k q e => (ks_value _ _ _ _ (ks_rf τ) q e).1)
theorem hF_round (hj : j < 512) : cPF j (fun x => x = 0 ∨ x = 2) (fun σ k => f_X11_round k 0 lZ σ) (fun τ k => x_round k 0 (fun _ => 0) τ) (fun _ _ => True) := cPF_T (hp_round hj) (fun σ k => k7_f_X11_round _ _ _ _ rfl) (fun τ k q e => kr_round _ _ _ τ (fun _ => rfl) (fun z => absurd z (by decide)) q e)
theorem hF_seen (hj : j < 512) (a1 a2 : Int32) : cPF j (fun x => x = 0 ∨ x = 3 ∨ x = 2) (fun σ k => f_X11_seen k 0 (lI (lI lZ 1 a1) 2 a2) σ) (fun τ k => x_seen k 0 (upd (upd (fun _ => 0) 1 a1) 2 a2) τ) (fun _ _ => True) := cPF_T (hp_seen hj a1 a2) (fun σ k => k7_f_X11_seen _ _ _ _ rfl) (fun τ k q e => (ks_seen _ _ _ _ (ks_rf τ) q e).1)
theorem hF_shown (hj : j < 512) (a1 : Int32) : cPF j (fun x => x = 0 ∨ x = 3) (fun σ k => f_X11_shown k 0 (lI lZ 1 a1) σ) (fun τ k => x_shown k 0 (upd (fun _ => 0) 1 a1) τ) (fun _ _ => True) := cPF_T (hp_shown hj a1) (fun σ k => k7_f_X11_shown _ _ _ _ rfl) (fun τ k q e => (ks_shown _ _ _ _ (ks_rf τ) q e).1)
theorem hF_shape (hj : j < 512) (a1 : Int32) : cPF j (fun x => x = 0 ∨ x = 3) (fun σ k => f_X11_shape k 0 (lI lZ 1 a1) σ) (fun τ k => x_shape k 0 (upd (fun _ => 0) 1 a1) τ) (fun _ _ => True) := cPF_T (hp_shape hj a1) (fun σ k => k7_f_X11_shape _ _ _ _ rfl) (fun τ k q e => (ks_shape _ _ _ _ (ks_rf τ) q e).1)
theorem hF_count (hj : j < 512) (a1 : Int32) : cPF j (fun x => x = 0 ∨ x = 3) (fun σ k => f_X11_count k 0 (lI lZ 1 a1) σ) (fun τ k => x_count k 0 (upd (fun _ => 0) 1 a1) τ) (fun _ _ => True) := cPF_T (hp_count hj a1) (fun σ k => k7_f_X11_count _ _ _ _ rfl) (fun τ k q e => (ks_count _ _ _ _ (ks_rf τ) q e).1)
theorem hF_program (hj : j < 512) : cPF j (fun x => x = 0) (fun σ k => f_X11_program k 0 lZ σ) (fun τ k => x_program k 0 (fun _ => 0) τ) (fun r q => r.1.2 = q.1) := cPF_of (hp_programE hj)
theorem hF_work (hj : j < 512) : cPF j (fun x => x = 0 ∨ x = 2) (fun σ k => f_X11_work k 0 lZ σ) (fun τ k => x_work k 0 (fun _ => 0) (fun _ => 0) τ) (fun _ _ => True) := cPF_of (hp_workE hj)
theorem hF_view (hj : j < 512) : cPF j (fun x => x = 0 ∨ x = 2 ∨ x = 4) (fun σ k => f_X11_view k 0 lZ σ) (fun τ k => x_view k 0 (fun _ => 0) τ) EVw := cPF_of (hp_viewE hj)
theorem iF_0 : IF 0 cs0 ms0 := ⟨ib_0, rfl⟩
end F7
end JnS575
