section JnS580
/-! How many: alike on both sides between calls (for p19). -/
section N19
variable {σ s : CS} {τ ω : MS} {j : Nat} {cs : Nat → Prop} {gC : CS → Nat → Option RS} {gM : MS → Nat → Option (Int32 × MS)} {E : RS → Int32 × MS → Prop}
/-- how many statements, variables, procs (reference): none where no program stands -/
def cnM (τ : MS) : Int32 × Int32 × Int32 := if τ.1 111 = 0 then (0, 0, 0) else (τ.1 44, τ.2.2 21 0, τ.1 31)
theorem cnC_8 (k : k8w s = k8w σ) : cnC s = cnC σ := by
  have z : ∀ b, s.1 (fP b 3) = σ.1 (fP b 3) ∧ s.2.2.1 (pR16 b) 0 = σ.2.2.1 (pR16 b) 0 ∧ s.1 (fP b 4) = σ.1 (fP b 4) := fun b => by
    cases b
    · exact ⟨congrArg (fun y : K8t => y.2.2.1) k, congrArg (fun y : K8t => y.2.2.2.2.2.2) k, congrArg (fun y : K8t => y.2.2.2.1) k⟩
    · exact ⟨congrArg (fun y : K8t => y.1) k, congrArg (fun y : K8t => y.2.2.2.2.2.1) k, congrArg (fun y : K8t => y.2.1) k⟩
  exact cnC_no (c := sCur σ) (congrArg (fun y : K8t => y.2.2.2.2.1) k) rfl (z _)
theorem cnM_9 (m : k9 (k9v τ) ω) : cnM ω = cnM τ := by
  obtain ⟨m1, m2, m3, m4, m5, m6⟩ := m
  unfold cnM
  rw [show ω.1 111 = τ.1 111 from m3, show ω.1 44 = τ.1 44 from m1, show ω.2.2 21 0 = τ.2.2 21 0 from m5, show ω.1 31 = τ.1 31 from m2]
/-- both sides, and the counts -/
def IN (j : Nat) (σ : CS) (τ : MS) : Prop := IB j σ τ ∧ RN τ ∧ cnC σ = cnM τ
def cPN (j : Nat) (cs : Nat → Prop) (gC : CS → Nat → Option RS) (gM : MS → Nat → Option (Int32 × MS)) (E : RS → Int32 × MS → Prop) : Prop := ∀ σ τ, IN j σ τ → Tm (gC σ) (fun r => cs r.1.1 ∧ r.2.2.1 + PhC r.2.1 ≤ PhC σ + 2 ∧ r.2.2.2 + PhS r.2.1 ≤ PhS σ + 12 ∧ Tm (gM τ) (fun q => IN (j + 1) r.2.1 q.2 ∧ E r q))
theorem cPN_of (h : cPr j cs gC gM E) (hc : ∀ σ k, E8 (k8w σ) (gC σ k)) (hm : ∀ τ k, R9 (k9v τ) (gM τ k)) : cPN j cs gC gM E := fun σ τ hi => Tm_mono (Tm_pt (h σ τ hi.1) (fun k r e => hc σ k r e)) (fun r z => ⟨z.1.1, z.1.2.1, z.1.2.2.1, Tm_mono (Tm_k9 z.1.2.2.2 (hm τ)) (fun q w => ⟨⟨w.1.1, RN_k hi.2.1 w.2, (cnC_8 z.2).trans (hi.2.2.trans (cnM_9 w.2).symm)⟩, w.1.2⟩)⟩)
theorem cPN_T (h : cPr j cs gC gM E) (hc : ∀ σ k, E8 (k8w σ) (gC σ k)) (hm : ∀ τ k, R9 (k9v τ) (gM τ k)) : cPN j cs gC gM (fun _ _ => True) := cPN_of (cPr_T h) hc hm
theorem hN_none (hj : j < 512) (h : IN j σ τ) : IN (j + 1) σ τ := ⟨hp_none hj h.1, h.2⟩
theorem hN_fault (hj : j < 512) : ∀ σ τ, IN j σ τ → Tm (fun k => y_X11_fault k 0 lZ σ) (fun r => PhC r.2 ≤ PhC σ ∧ PhS r.2 ≤ PhS σ ∧ Tm (fun k => x_fault_ k 0 (fun _ => 0) τ) (fun q => IN (j + 1) r.2 q.2)) := by
  intro σ τ h
  refine Tm_mono (Tm_pt (hp_fault hj σ τ h.1) (fun k r e => D8_K (k7_y_X11_fault k 0 lZ σ rfl) rfl r e)) (fun r z => ⟨z.1.1, z.1.2.1, Tm_mono (Tm_k9 z.1.2.2 (fun k => R9_ks (ks_fault_ k 0 _ τ (ks_rf τ)) (k9_rf τ))) (fun q w => ⟨w.1, RN_k h.2.1 w.2, (cnC_8 z.2).trans (h.2.2.trans (cnM_9 w.2).symm)⟩)⟩)
theorem hN_order (hj : j < 512) : ∀ σ τ, IN j σ τ → Tm (fun k => y_X11_order k 0 lZ σ) (fun r => PhC r.2 ≤ PhC σ ∧ PhS r.2 ≤ PhS σ ∧ Tm (fun k => x_order k 0 (fun _ => 0) τ) (fun q => IN (j + 1) r.2 q.2)) := by
  intro σ τ h
  refine Tm_mono (Tm_pt (hp_order hj σ τ h.1) (fun k r e => D8_K (k7_y_X11_order k 0 lZ σ rfl) rfl r e)) (fun r z => ⟨z.1.1, z.1.2.1, Tm_mono (Tm_k9 z.1.2.2 (fun k => R9_ks (ks_order k 0 _ τ (ks_rf τ)) (k9_rf τ))) (fun q w => ⟨w.1, RN_k h.2.1 w.2, (cnC_8 z.2).trans (h.2.2.trans (cnM_9 w.2).symm)⟩)⟩)
theorem hN_feed (hj : j < 512) (a1 a2 a3 a4 a5 : Int32) : cPN j (fun x => x = 0 ∨ x = 4) (fun σ k => f_X11_feed k 0 (lI (lI (lI (lI (lI lZ 1 a1) 2 a2) 3 a3) 4 a4) 5 a5) σ) (fun τ k => x_feed k 0 (upd (upd (upd (upd (upd (fun _ => 0) 1 a1) 2 a2) 3 a3) 4 a4) 5 a5) τ) (fun _ _ => True) := cPN_T (hp_feed hj a1 a2 a3 a4 a5) (fun σ k => E8_K (k7_f_X11_feed _ _ _ _ rfl) rfl) (fun τ k => R9_ks (ks_feed _ _ _ _ (ks_rf τ)) (k9_rf τ))
theorem hN_end (hj : j < 512) (a1 : Int32) : cPN j (fun x => x = 0 ∨ x = 1) (fun σ k => f_X11_end k 0 (lI lZ 1 a1) σ) (fun τ k => x_end k 0 (upd (fun _ => 0) 1 a1) τ) (fun _ _ => True) := cPN_T (hp_end hj a1) (fun σ k => E8_K (k7_f_X11_end _ _ _ _ rfl) rfl) (fun τ k => R9_ks (ks_end _ _ _ _ (ks_rf τ)) (k9_rf τ))
theorem hN_start (hj : j < 512) (a1 a2 : Int32) : cPN j (fun x => x = 0 ∨ x = 2) (fun σ k => f_X11_start k 0 (lJ lZ 1 ((((((a1.toInt64)) <<< ((32 : Int32).toInt64 &&& 63))) ||| ((((a2.toInt64)) &&& 4294967295))))) σ) (fun τ k => x_start k 0 (fun _ => 0) (updW (fun _ => 0) 1 ((((((a1.toInt64)) <<< ((32 : Int32).toInt64 &&& 63))) ||| ((((a2.toInt64)) &&& 4294967295))))) τ) (fun _ _ => True) := cPN_T (hp_start hj a1 a2) (fun σ k => E8_K (k7_f_X11_start _ _ _ _ rfl) rfl) (fun τ k => R9_ks (ks_start _ _ _ _ _ (ks_rf τ)) (k9_rf τ))
theorem hN_step (hj : j < 512) (a1 : Int32) : cPN j (fun x => x = 0 ∨ x = 2 ∨ x = 1) (fun σ k => f_X11_step k 0 (lI lZ 1 a1) σ) (fun τ k => x_step k 0 (upd (fun _ => 0) 1 a1) τ) (fun _ _ => True) := cPN_T (hp_step hj a1) (fun σ k => E8_K (k7_f_X11_step _ _ _ _ rfl) rfl) (fun τ k => R9_ks (ks_step _ _ _ _ (ks_rf τ)) (k9_rf τ))
theorem hN_back (hj : j < 512) (a1 : Int32) : cPN j (fun x => x = 0 ∨ x = 2 ∨ x = 1) (fun σ k => f_X11_back k 0 (lI lZ 1 a1) σ) (fun τ k => x_back k 0 (upd (fun _ => 0) 1 a1) τ) (fun _ _ => True) := cPN_T (hp_back hj a1) (fun σ k => E8_K (k7_f_X11_back _ _ _ _ rfl) rfl) (fun τ k => R9_ks (ks_back _ _ _ _ (ks_rf τ)) (k9_rf τ))
theorem hN_state (hj : j < 512) (a1 : Int32) : cPN j (fun x => x = 0 ∨ x = 3 ∨ x = 2) (fun σ k => f_X11_state k 0 (lI lZ 1 a1) σ) (fun τ k => x_state k 0 (upd (fun _ => 0) 1 a1) τ) (fun _ _ => True) := cPN_T (hp_state hj a1) (fun σ k => E8_K (k7_f_X11_state _ _ _ _ rfl) rfl) (fun τ k => R9_ks (ks_state _ _ _ _ (ks_rf τ)) (k9_rf τ))
theorem hN_out (hj : j < 512) (a1 : Int32) : cPN j (fun x => x = 0 ∨ x = 3) (fun σ k => f_X11_out k 0 (lI lZ 1 a1) σ) (fun τ k => x_out k 0 (upd (fun _ => 0) 1 a1) τ) (fun _ _ => True) := cPN_T (hp_out hj a1) (fun σ k => E8_K (k7_f_X11_out _ _ _ _ rfl) rfl) (fun τ k => R9_ks (ks_out _ _ _ _ (ks_rf τ)) (k9_rf τ))
theorem hN_value (hj : j < 512) : cPN j (fun x => x = 0 ∨ x = 2 ∨ x = 1) (fun σ k => f_X11_value k 0 lZ σ) (fun τ k => x_value k 0 (fun _ => 0) τ) (fun _ _ => True) := cPN_T (hp_value hj) (fun σ k => E8_K (k7_f_X11_value _ _ _ _ rfl) rfl) (fun τ k => R9_ks (ks_value _ _ _ _ (ks_rf τ)) (k9_rf τ))
theorem hN_round (hj : j < 512) : cPN j (fun x => x = 0 ∨ x = 2) (fun σ k => f_X11_round k 0 lZ σ) (fun τ k => x_round k 0 (fun _ => 0) τ) (fun _ _ => True) := cPN_T (hp_round hj) (fun σ k => E8_K (k7_f_X11_round _ _ _ _ rfl) rfl) (fun τ k => k9_round _ _ _ _ (k9_rf τ))
theorem hN_seen (hj : j < 512) (a1 a2 : Int32) : cPN j (fun x => x = 0 ∨ x = 3 ∨ x = 2) (fun σ k => f_X11_seen k 0 (lI (lI lZ 1 a1) 2 a2) σ) (fun τ k => x_seen k 0 (upd (upd (fun _ => 0) 1 a1) 2 a2) τ) (fun _ _ => True) := cPN_T (hp_seen hj a1 a2) (fun σ k => E8_K (k7_f_X11_seen _ _ _ _ rfl) rfl) (fun τ k => R9_ks (ks_seen _ _ _ _ (ks_rf τ)) (k9_rf τ))
theorem hN_shown (hj : j < 512) (a1 : Int32) : cPN j (fun x => x = 0 ∨ x = 3) (fun σ k => f_X11_shown k 0 (lI lZ 1 a1) σ) (fun τ k => x_shown k 0 (upd (fun _ => 0) 1 a1) τ) (fun _ _ => True) := cPN_T (hp_shown hj a1) (fun σ k => E8_K (k7_f_X11_shown _ _ _ _ rfl) rfl) (fun τ k => R9_ks (ks_shown _ _ _ _ (ks_rf τ)) (k9_rf τ))
theorem hN_shape (hj : j < 512) (a1 : Int32) : cPN j (fun x => x = 0 ∨ x = 3) (fun σ k => f_X11_shape k 0 (lI lZ 1 a1) σ) (fun τ k => x_shape k 0 (upd (fun _ => 0) 1 a1) τ) (fun _ _ => True) := cPN_T (hp_shape hj a1) (fun σ k => E8_K (k7_f_X11_shape _ _ _ _ rfl) rfl) (fun τ k => R9_ks (ks_shape _ _ _ _ (ks_rf τ)) (k9_rf τ))
theorem hN_work (hj : j < 512) : cPN j (fun x => x = 0 ∨ x = 2) (fun σ k => f_X11_work k 0 lZ σ) (fun τ k => x_work k 0 (fun _ => 0) (fun _ => 0) τ) (fun _ _ => True) := cPN_T (hp_work hj) (fun σ k => k8_work _ _ _ _ rfl) (fun τ k => k9_work _ _ _ _ _ (k9_rf τ))
theorem hN_view (hj : j < 512) : cPN j (fun x => x = 0 ∨ x = 2 ∨ x = 4) (fun σ k => f_X11_view k 0 lZ σ) (fun τ k => x_view k 0 (fun _ => 0) τ) (fun _ _ => True) := cPN_T (hp_view hj) (fun σ k => k8_view _ _ _ _ rfl) (fun τ k => k9_view _ _ _ _ (k9_rf τ))
/-- an answer of count, where there is one -/
def cntC (a : Int32) (σ : CS) : Int32 := if a = 0 then σ.1 3701 else if a = 1 then (cnC σ).1 else if a = 2 then (cnC σ).2.1 else if a = 3 then (cnC σ).2.2 else σ.1 7513
def cntM (a : Int32) (τ : MS) : Int32 := if a = 0 then τ.1 4 else if a = 1 then (cnM τ).1 else if a = 2 then (cnM τ).2.1 else if a = 3 then (cnM τ).2.2 else τ.1 73
theorem ct_5 {a : Int32} : (0 ≤ a.toInt ∧ a.toInt ≤ 4) ↔ (a = 0 ∨ a = 1 ∨ a = 2 ∨ a = 3 ∨ a = 4) := by
  rw [i_eq, i_eq, i_eq, i_eq, i_eq, show (0 : Int32).toInt = 0 from rfl, show (1 : Int32).toInt = 1 from rfl, show (2 : Int32).toInt = 2 from rfl, show (3 : Int32).toInt = 3 from rfl, show (4 : Int32).toInt = 4 from rfl]
  omega
theorem c_countN {a : Int32} : Tm (fun k => f_X11_count k 0 (lI lZ 1 a) σ) (fun r => ((0 ≤ a.toInt ∧ a.toInt ≤ 4) → r.1 = (0, cntC a σ)) ∧ (¬ (0 ≤ a.toInt ∧ a.toInt ≤ 4) → r.1.1 = 3)) := by
  have yes : ∀ {v : Int32} {q : CS × (Nat × Nat)}, (a = 0 ∨ a = 1 ∨ a = 2 ∨ a = 3 ∨ a = 4) → v = cntC a σ → ((0 ≤ a.toInt ∧ a.toInt ≤ 4) → ((((0 : Nat), v), q) : RS).1 = (0, cntC a σ)) ∧ (¬ (0 ≤ a.toInt ∧ a.toInt ≤ 4) → ((((0 : Nat), v), q) : RS).1.1 = 3) := fun h e => ⟨fun _ => by rw [e], fun z => absurd (ct_5.2 h) z⟩
  refine Tm_suc (fun k => by rw [f_X11_count]) ?_
  refine Tm_ite (fun e0 => ?_) (fun e0 => Tm_ite (fun e1 => ?_) (fun e1 => Tm_ite (fun e2 => ?_) (fun e2 => Tm_ite (fun e3 => ?_) (fun e3 => Tm_ite (fun e4 => ?_) (fun e4 => ?_)))))
  · have e : a = 0 := e0
    exact Tm_suc (fun k => by rw [f_X11_count]) (Tm_some (yes (Or.inl e) (by rw [e]; rfl)))
  · have e : a = 1 := e1
    exact Tm_suc (fun k => by rw [f_X11_count]) (Tm_some (yes (Or.inr (Or.inl e)) (by rw [e]; rfl)))
  · have e : a = 2 := e2
    exact Tm_suc (fun k => by rw [f_X11_count]) (Tm_chk (by decide) (Tm_some (yes (Or.inr (Or.inr (Or.inl e))) (by rw [e]; rfl))))
  · have e : a = 3 := e3
    exact Tm_suc (fun k => by rw [f_X11_count]) (Tm_some (yes (Or.inr (Or.inr (Or.inr (Or.inl e)))) (by rw [e]; rfl)))
  · have e : a = 4 := e4
    exact Tm_suc (fun k => by rw [f_X11_count]) (Tm_some (yes (Or.inr (Or.inr (Or.inr (Or.inr e)))) (by rw [e]; rfl)))
  · refine Tm_suc (fun k => by rw [f_X11_count]) (Tm_some ⟨fun z => ?_, fun _ => rfl⟩)
    rcases ct_5.1 z with e | e | e | e | e
    · exact absurd e e0
    · exact absurd e e1
    · exact absurd e e2
    · exact absurd e e3
    · exact absurd e e4
theorem s_countN {a : Int32} : Tm (fun k => x_count k 0 (upd (fun _ => 0) 1 a) τ) (fun q => ((0 ≤ a.toInt ∧ a.toInt ≤ 4) → q.1 = cntM a τ ∧ q.2.1 2 = 0) ∧ (¬ (0 ≤ a.toInt ∧ a.toInt ≤ 4) → q.2.1 2 = 1)) := by
  generalize hQ : (fun q : Int32 × MS => ((0 ≤ a.toInt ∧ a.toInt ≤ 4) → q.1 = cntM a τ ∧ q.2.1 2 = 0) ∧ (¬ (0 ≤ a.toInt ∧ a.toInt ≤ 4) → q.2.1 2 = 1)) = Q
  have yes : ∀ {v : Int32} {q : MS}, (0 ≤ a.toInt ∧ a.toInt ≤ 4) → v = cntM a τ → q.1 2 = 0 → Q (v, q) := fun h e e2 => by
    rw [← hQ]
    exact ⟨fun _ => ⟨e, e2⟩, fun z => absurd h z⟩
  have bad : ¬ (0 ≤ a.toInt ∧ a.toInt ≤ 4) → Tm (fun k => x_count k 1 (upd (fun _ => 0) 1 a) τ) Q := fun h => by
    refine Tm_suc (fun k => by rw [x_count]) ?_
    refine Tm_suc (fun k => by rw [x_count]) ?_
    refine Tm_ob (s_good _ _) (fun r hr => ?_)
    have e1 : r.1 = 0 := by rw [hr]; exact (show (if (1 : Int32) = 0 then (1 : Int32) else 0) = 0 from by decide)
    have e2 : r.2.1 2 = 1 := by rw [hr]; exact (upd_same : upd τ.1 2 (1 : Int32) 2 = 1)
    refine Tm_yes e1 (Tm_some ?_)
    rw [← hQ]
    exact ⟨fun z => absurd z h, fun _ => e2⟩
  have good : Tm (fun k => x_count k 4 (upd (upd (fun _ => 0) 1 a) 100 0) (upd τ.1 2 0, τ.2.1, τ.2.2)) Q → Tm (fun k => x_count k 2 (upd (fun _ => 0) 1 a) τ) Q := fun t => by
    refine Tm_suc (fun k => by rw [x_count]) ?_
    refine Tm_suc (fun k => by rw [x_count]) ?_
    refine Tm_ob (s_good _ _) (fun r hr => ?_)
    have e1 : ¬ r.1 = 0 := by rw [hr]; exact (show ¬ (if (0 : Int32) = 0 then (1 : Int32) else 0) = 0 from by decide)
    have e2 : r.2 = (upd τ.1 2 0, τ.2.1, τ.2.2) := by rw [hr]; rfl
    refine Tm_no e1 ?_
    rw [e2]
    exact t
  refine Tm_suc (fun k => by rw [x_count]) ?_
  by_cases h : 0 ≤ a.toInt ∧ a.toInt ≤ 4
  · have a0 : ¬ a < 0 := by rw [i_lt, show (0 : Int32).toInt = 0 from rfl]; omega
    have a4 : a ≤ 4 := by rw [i_le, show (4 : Int32).toInt = 4 from rfl]; omega
    refine Tm_no (show ¬ upd (fun _ => (0 : Int32)) 1 a 1 < 0 by rw [upd_same]; exact a0) (Tm_yes (show upd (fun _ => (0 : Int32)) 1 a 1 ≤ 4 by rw [upd_same]; exact a4) (good ?_))
    have t2 : upd τ.1 2 0 2 = 0 := upd_same
    refine Tm_suc (fun k => by rw [x_count]) ?_
    have eL : upd (upd (fun _ => (0 : Int32)) 1 a) 100 0 1 = a := by rw [upd_other (by decide), upd_same]
    rw [eL]
    rcases ct_5.1 h with e | e | e | e | e
    · refine Tm_yes e ?_
      exact Tm_suc (fun k => by rw [x_count]) (Tm_some (yes h (by rw [e]; rfl) t2))
    · refine Tm_no (by rw [e]; decide) (Tm_yes e ?_)
      refine Tm_suc (fun k => by rw [x_count]) ?_
      refine Tm_ite (fun z => ?_) (fun z => ?_)
      · refine Tm_suc (fun k => by rw [x_count]) ?_
        refine Tm_suc (fun k => by rw [x_count]) (Tm_some (yes h ?_ t2))
        have z' : τ.1 111 = 0 := z
        rw [e]
        show (0 : Int32) = (cnM τ).1
        unfold cnM
        rw [if_pos z']
      · refine Tm_suc (fun k => by rw [x_count]) (Tm_some (yes h ?_ t2))
        have z' : ¬ τ.1 111 = 0 := z
        rw [e]
        show τ.1 44 = (cnM τ).1
        unfold cnM
        rw [if_neg z']
    · refine Tm_no (by rw [e]; decide) (Tm_no (by rw [e]; decide) (Tm_yes e ?_))
      refine Tm_suc (fun k => by rw [x_count]) ?_
      refine Tm_ite (fun z => ?_) (fun z => ?_)
      · refine Tm_suc (fun k => by rw [x_count]) ?_
        refine Tm_suc (fun k => by rw [x_count]) (Tm_some (yes h ?_ t2))
        have z' : τ.1 111 = 0 := z
        rw [e]
        show (0 : Int32) = (cnM τ).2.1
        unfold cnM
        rw [if_pos z']
      · refine Tm_chk (by decide) ?_
        refine Tm_suc (fun k => by rw [x_count]) (Tm_some (yes h ?_ t2))
        have z' : ¬ τ.1 111 = 0 := z
        rw [e]
        show τ.2.2 21 0 = (cnM τ).2.1
        unfold cnM
        rw [if_neg z']
    · refine Tm_no (by rw [e]; decide) (Tm_no (by rw [e]; decide) (Tm_no (by rw [e]; decide) (Tm_yes e ?_)))
      refine Tm_suc (fun k => by rw [x_count]) ?_
      refine Tm_ite (fun z => ?_) (fun z => ?_)
      · refine Tm_suc (fun k => by rw [x_count]) ?_
        refine Tm_suc (fun k => by rw [x_count]) (Tm_some (yes h ?_ t2))
        have z' : τ.1 111 = 0 := z
        rw [e]
        show (0 : Int32) = (cnM τ).2.2
        unfold cnM
        rw [if_pos z']
      · refine Tm_suc (fun k => by rw [x_count]) (Tm_some (yes h ?_ t2))
        have z' : ¬ τ.1 111 = 0 := z
        rw [e]
        show τ.1 31 = (cnM τ).2.2
        unfold cnM
        rw [if_neg z']
    · refine Tm_no (by rw [e]; decide) (Tm_no (by rw [e]; decide) (Tm_no (by rw [e]; decide) (Tm_no (by rw [e]; decide) ?_)))
      exact Tm_suc (fun k => by rw [x_count]) (Tm_some (yes h (by rw [e]; rfl) t2))
  · by_cases a0 : a < 0
    · exact Tm_yes (show upd (fun _ => (0 : Int32)) 1 a 1 < 0 by rw [upd_same]; exact a0) (bad h)
    · refine Tm_no (show ¬ upd (fun _ => (0 : Int32)) 1 a 1 < 0 by rw [upd_same]; exact a0) (Tm_no ?_ (bad h))
      rw [upd_same, i_le, show (4 : Int32).toInt = 4 from rfl]
      rw [i_lt, show (0 : Int32).toInt = 0 from rfl] at a0
      omega
theorem cnt_eq {a : Int32} (h : IN j σ τ) : cntC a σ = cntM a τ := by
  obtain ⟨⟨XE, ic, rf, tr, e10, e11, e13⟩, rn, cn⟩ := h
  unfold cntC cntM
  rw [cn, tr.1, e13]
theorem hN_count (hj : j < 512) (a1 : Int32) : cPN j (fun x => x = 0 ∨ x = 3) (fun σ k => f_X11_count k 0 (lI lZ 1 a1) σ) (fun τ k => x_count k 0 (upd (fun _ => 0) 1 a1) τ) (fun r q => q.2.1 2 = wv 3 1 1 r.1.1 ∧ (r.1.1 = 0 → r.1.2 = q.1)) := by
  intro σ τ h
  have t := cPN_of (hp_count hj a1) (fun σ k => E8_K (k7_f_X11_count _ _ _ _ rfl) rfl) (fun τ k => R9_ks (ks_count _ _ _ _ (ks_rf τ)) (k9_rf τ)) σ τ h
  refine Tm_mono (Tm_and t (c_countN (a := a1))) (fun r z => ⟨z.1.1, z.1.2.1, z.1.2.2.1, Tm_mono (Tm_and z.1.2.2.2 (s_countN (a := a1))) (fun q w => ⟨w.1.1, ?_⟩)⟩)
  obtain ⟨_, z1, z2⟩ := z
  obtain ⟨_, w1, w2⟩ := w
  by_cases c : 0 ≤ a1.toInt ∧ a1.toInt ≤ 4
  · obtain ⟨w3, w4⟩ := w1 c
    rw [z1 c]
    exact ⟨w4, fun _ => (cnt_eq h).trans w3.symm⟩
  · rw [z2 c]
    exact ⟨w2 c, fun e => absurd e (by decide)⟩
theorem hN_program (hj : j < 512) : cPN j (fun x => x = 0) (fun σ k => f_X11_program k 0 lZ σ) (fun τ k => x_program k 0 (fun _ => 0) τ) (fun _ _ => True) := by
  intro σ τ hi
  obtain ⟨h, rn, cn⟩ := hi
  have hE := hp_programE hj σ τ h
  obtain ⟨XE, ic, rf, tr, e10, e11, e13⟩ := id h
  have ic0 := ic
  obtain ⟨n, sz, ⟨t1, t2, t3, t4⟩, _⟩ := ic
  obtain ⟨n', tp⟩ := id rf.1.2.2.2.2.2.2.1
  obtain rfl : n' = n := nI_inj (tp.1.1.symm.trans (tr.1.symm.trans t2)) (by have := tp.1.2; omega) (by omega)
  obtain ⟨X, hG⟩ := gPrg_tot (τ.2.2 3) n' (τ.2.2 10) (τ.2.2 11)
  refine Tm_mono (Tm_and hE (c_program (L := lZ) ic0 hj tr t2 t3 hG)) (fun r z => ?_)
  obtain ⟨⟨z1, z2, z3, z4⟩, _, _, _, c4, c5⟩ := z
  refine ⟨z1, z2, z3, Tm_mono (Tm_and z4 (rn_program rf rn tp (fun _ => 0))) (fun q w => ?_)⟩
  obtain ⟨⟨w1, w2, w3⟩, w4, w5, w6⟩ := w
  refine ⟨⟨w1, w4, ?_⟩, trivial⟩
  obtain ⟨_, _, _, _, g10, _⟩ := w1
  cases X with
  | inr z =>
    obtain ⟨_, k2, _, _, _, _, k7⟩ := c5 z rfl
    have n111 : ¬ q.2.1 111 = 0 := fun y => absurd (k2.symm.trans (g10.2 y)) (by decide)
    obtain ⟨y1, y2, y3⟩ := w5 z hG
    rw [k7]
    unfold cnM
    rw [if_neg n111, y1, y2, y3]
  | inl y =>
    obtain ⟨⟨_, k2, _, _⟩, _, _, k7⟩ := c4 y rfl
    rw [k7, cn]
    by_cases z : τ.1 111 = 0
    · have n111 : q.2.1 111 = 0 := g10.1 (k2.trans (e10.2 z))
      unfold cnM
      rw [if_pos n111, if_pos z]
    · have n111 : ¬ q.2.1 111 = 0 := fun y' => z (e10.1 (k2.symm.trans (g10.2 y')))
      obtain ⟨y1, y2, y3⟩ := w6 y hG z
      unfold cnM
      rw [if_neg n111, if_neg z, y1, y2, y3]
theorem iN_0 : IN 0 cs0 ms0 := ⟨ib_0, fun z => absurd (rfl : ms0.1 111 = 0) z, by
  unfold cnM
  rw [if_pos (show ms0.1 111 = 0 from rfl)]
  rfl⟩
end N19
end JnS580
