/-! The class: flow, and calls and points. -/
section CTY
variable {g g' g2 : Nat → Prop} {l l' l2 : List Nat} {t t' t2 : Nat} {σ σ' σ2 τ τ' : CS} {L : LV} {x y z i : Int32} {M M' U U' : Nat → Int32} {K K' K0 K2 K2' K3 K4 K4' KB : Nat → Option Int32} {c : Ct} {B f0 u0 a T : Nat} {fs : List FrT} {u d : Nat} {r r' : List Nat} {pb nf nc sq rk : Nat}
/-- what flow asks, but BEGIN and END_VIEW -/
def Ok1 (c : Ct) (pc u d : Nat) (r : List Nat) (rk op : Nat) (num : Int32) : Prop := (op = 1 ∨ op = 2 → tcS c u ∧ ∃ (w : Nat) (ms : List Nat), d = 0 ∧ r = (bsl + w) :: ms ∧ w ≤ 200) ∧ (op = 3 → Nx c (uN (nI pc + num)) u d r rk) ∧ (op = 4 ∨ op = 5 → ∃ d', d = d' + 1 ∧ Nx c (pc + 1) u d' r rk ∧ Nx c (uN (nI pc + num)) u d' r rk) ∧ (op = 6 ∨ op = 7 → ∃ d', d = d' + 1 ∧ Nx c (pc + 1) u d' r rk ∧ NxS c (uN (nI pc + num)) u (d' + 1) r) ∧ (op = 8 ∨ op = 9 → 1 ≤ d ∧ NxS c (pc + 1) u d r)
theorem c_wantTruth : Tm (fun k => y_X3_wantTruth k 0 L σ) (fun q => (q.1 = 1 ∧ q.2 = σ ∧ (L.1 1 = -1879048191 ∨ L.1 1 = -1879048192)) ∨ (q.1 = 0 ∧ q.2 = uI (uI σ 1813 9) 1812 1)) := by
  refine Tm_suc (fun k => by rw [y_X3_wantTruth]) ?_
  refine Tm_ite (fun c1 => ?_) (fun c1 => Tm_ite (fun c2 => ?_) (fun c2 => ?_))
  · refine Tm_suc (fun k => by rw [y_X3_wantTruth]) ?_
    exact Tm_some (Or.inl ⟨rfl, rfl, Or.inl c1⟩)
  · refine Tm_suc (fun k => by rw [y_X3_wantTruth]) ?_
    exact Tm_some (Or.inl ⟨rfl, rfl, Or.inr c2⟩)
  · refine Tm_oc c_fail (fun q e => ?_)
    rw [e]
    exact Tm_some (Or.inr ⟨rfl, rfl⟩)
theorem fa_fin (p : Pre c g l t K K2 K3 K4 B KB f0 u0 σ fs u d r pb nf nc sq) {m : Nat} {a : Int32} (h : ¬ a = 0) : IO c B KB f0 u0 σ m ((0, 0), uI (uI σ 1813 a) 1812 1, (0, 0)) := ha_fin p rfl (fun j hj => by
  show upd (upd σ.1 1813 a) 1812 1 j = _
  rw [upd_other (by omega), upd_other (by omega)]) rfl (f13 h)
theorem c_shortcut (p : Pre c g l t K K2 K3 K4 B KB f0 u0 σ fs u (d + 1) r pb nf nc sq) {w : Int32} (h2 : L.1 2 = w) (nE : Nx c (uN (σ.1 1900)) u d r rk) (nS : NxS c (uN w) u (d + 1) r) : Tm (fun k => y_X3_shortcut k 0 L σ) (fun q => IO c B KB f0 u0 σ (mu σ (qv nf sq rk)) ((0, 0), q.2, (0, 0))) := by
  have mi := p.1
  obtain ⟨st1, st2, st3⟩ := mi.2.1.1
  have ts := TyS_sp p.2.1
  have u1 : uN (1 : Int32) = 1 := rfl
  have ea : uN (σ.1 1902 - 1) = uN (σ.1 1902) - 1 := by rw [u_sub (by omega), u1]
  have b3 : ∀ (σ' : CS) (L' : LV) (Q : Int32 × CS → Prop), Q (0, σ') → Tm (fun k => y_X3_shortcut k 3 L' σ') Q := by
    intro σ' L' Q h
    refine Tm_suc (fun k => by rw [y_X3_shortcut]) ?_
    exact Tm_some h
  refine Tm_suc (fun k => by rw [y_X3_shortcut]) ?_
  refine Tm_chk (u_in (by omega) (by omega)) ?_
  refine Tm_oc c_wantTruth (fun q z => ?_)
  rcases z with ⟨z1, z2, _⟩ | ⟨z1, z2⟩
  · refine Tm_no (by rw [z1]; decide) ?_
    rw [z2]
    refine Tm_suc (fun k => by rw [y_X3_shortcut]) ?_
    refine Tm_ite (fun ce => ?_) (fun ce => ?_)
    · have p1 := Pre_i p (j := 1900) (Or.inr (Or.inl rfl)) w
      refine Tm_oc c_spend (fun q3 e3 => ?_)
      rw [e3]
      refine b3 _ _ _ ?_
      show IO c B KB f0 u0 σ (mu σ (qv nf sq rk)) ((0, 0), spS (uI σ 1900 (L.1 2)) 1, (0, 0))
      rw [h2]
      have gt : Gv g ((uI σ 1900 w).2.2.1 20 (uN ((uI σ 1900 w).1 1902) - 1)) := Ty_v p1 (by show uN (σ.1 1902) ≤ uN (σ.1 1902) - 1 + (d + 1); omega) (by show uN (σ.1 1902) - 1 < uN (σ.1 1902); omega)
      have z := re_fin (σ' := spS (uI σ 1900 w) 1) p1 (by omega) gt (Re_sp (σ := uI σ 1900 w) (n := 1) (by decide) (by decide) p1.2.2.1) rfl (fun _ _ => rfl) (by
        have e19 : (spS (uI σ 1900 w) 1).1 1900 = w := (spS_m (uI σ 1900 w) 1).1 1900 (by decide)
        rw [e19]; exact nS) (qv nf sq rk)
      exact IO_b (Md_i σ (by decide) _) rfl z
    · refine Tm_suc (fun k => by rw [y_X3_shortcut]) ?_
      refine b3 _ _ _ ?_
      obtain ⟨pd, es⟩ := Pre_dr (x := 1) (d' := d) (n := 1) p rfl rfl nE.choose_spec.2.2
      have z := fl_fin (σ' := uI σ 1902 (σ.1 1902 - 1)) (rk := rk) pd rfl (fun _ _ => rfl) (by
        show Nx c (uN (σ.1 1900)) u d r rk
        exact nE)
      exact IO_b (Md_i σ (by decide) _) rfl z
  · refine Tm_yes z1 ?_
    rw [z2]
    exact Tm_some (fa_fin p (by decide))
theorem c_flow (p : Pre c g l t K K2 K3 K4 B KB f0 u0 σ fs u d r pb nf nc sq) {pc op : Nat} (h0 : 1 ≤ op) (ho : op < 10) (h1 : L.1 1 = nI op) (h3 : L.1 3 = nI pc) (hp : pc + 1 ≤ tcN c) (hN : tcN c ≤ 36864) (hpc : σ.1 1900 = nI (pc + 1)) (hf : tcS c u0 → f0 = 0) (ok : Ok1 c pc u d r rk op (L.1 2)) : Tm (fun k => f_X3_flow k 0 L σ) (IO c B KB f0 u0 σ (mu σ (qv nf sq rk))) := by
  have mi := p.1
  obtain ⟨st1, st2, st3⟩ := mi.2.1.1
  have ts := TyS_sp p.2.1
  have hx : uN (σ.1 1900) = pc + 1 := by rw [hpc, u_n (by omega)]
  have u1 : uN (1 : Int32) = 1 := rfl
  have ea : uN (σ.1 1902 - 1) = uN (σ.1 1902) - 1 := by rw [u_sub (by omega), u1]
  have ho' : op < 256 := by omega
  have i1 : 1 ≤ d → ¬ (σ.1 1902 - 1 < 0 ∨ sN σ 20 ≤ (σ.1 1902 - 1).toNatClampNeg) := fun k => u_in (by omega) (by omega)
  have gt : 1 ≤ d → Gv g (σ.2.2.1 20 (uN (σ.1 1902) - 1)) := fun k => Ty_v p (by omega) (by omega)
  obtain ⟨o1, o3, o4, o6, o8⟩ := ok
  have b11 : ∀ (σ' : CS) (L' : LV) (Q : RS → Prop), Q ((0, 0), σ', (0, 0)) → Tm (fun k => f_X3_flow k 11 L' σ') Q := by
    intro σ' L' Q h
    refine Tm_suc (fun k => by rw [f_X3_flow]) ?_
    exact Tm_some h
  have b2 : (tcS c u ∧ ∃ (w : Nat) (ms : List Nat), d = 0 ∧ r = (bsl + w) :: ms ∧ w ≤ 200) → Tm (fun k => f_X3_flow k 2 L σ) (IO c B KB f0 u0 σ (mu σ (qv nf sq rk))) := by
    intro cs
    obtain ⟨cs, ww, wm, w0, wr, w2⟩ := cs
    have cs0 := FC_S _ _ _ _ _ _ _ p.2.1.2.1 cs
    have m := MIn_fw (σ' := uI (uI σ 1907 1) 1812 1) mi rfl (fun j hj => by
      show upd (upd σ.1 1907 1) 1812 1 j = _
      rw [upd_other (by omega), upd_other (by omega)]) mi.2.2.2.2.2.2.1.2 (Nat.le_refl _) mi.2.2.2.2.2.2.2.1
    refine Tm_suc (fun k => by rw [f_X3_flow]) ?_
    refine b11 _ _ _ ?_
    refine ⟨rfl, CoP_0 rfl, Mw_M m.2, fun n => absurd cs0 n, g, l, t, K, K2, K3, K4, m.1, fun z => absurd z (by show ¬ (1 : Int32) = 0; decide), fun _ => Or.inr ⟨cs0, rfl, ?_⟩⟩
    show uN (σ.1 1902) ≤ 10404
    have z1 := (FC_b _ _ _ _ _ _ _ p.2.1.2.1).2.2 cs
    have z2 := p.2.1.1
    rw [w0, wr] at z2
    have z3 := (SL_0 z2).1
    have z4 := hf cs0
    have z5 := p.2.1.2.2.2.2.2.2.1
    omega
  have b4 : ∀ d', d = d' + 1 → Nx c (pc + 1) u d' r rk → Nx c (uN (nI pc + L.1 2)) u d' r rk → Tm (fun k => f_X3_flow k 4 L σ) (IO c B KB f0 u0 σ (mu σ (qv nf sq rk))) := by
    intro d' k1 k2 k3
    obtain ⟨pd, es⟩ := Pre_dr (x := 1) (d' := d') (n := 1) p k1 rfl k2.choose_spec.2.2
    have b19 : ∀ L' : LV, L'.1 2 = L.1 2 → L'.1 3 = nI pc → Tm (fun k => f_X3_flow k 19 L' (uI σ 1902 (σ.1 1902 - 1))) (IO c B KB f0 u0 σ (mu σ (qv nf sq rk))) := by
      intro L' l2 l3
      refine Tm_suc (fun k => by rw [f_X3_flow]) ?_
      refine Tm_ite (fun _ => ?_) (fun _ => ?_)
      · refine b11 _ _ _ ?_
        have z := fl_fin (σ' := uI (uI σ 1902 (σ.1 1902 - 1)) 1900 (L'.1 3 + L'.1 2)) (rk := rk) pd rfl (fun j hj => upd_other hj) (by
          show Nx c (uN (L'.1 3 + L'.1 2)) u d' r rk
          rw [l2, l3]; exact k3)
        exact IO_b (Md_i σ (by decide) _) rfl z
      · refine b11 _ _ _ ?_
        have z := fl_fin (σ' := uI σ 1902 (σ.1 1902 - 1)) (rk := rk) pd rfl (fun _ _ => rfl) (by
          show Nx c (uN (σ.1 1900)) u d' r rk
          rw [hx]; exact k2)
        exact IO_b (Md_i σ (by decide) _) rfl z
    have b13 : ∀ L' : LV, L'.1 2 = L.1 2 → L'.1 3 = nI pc → Tm (fun k => f_X3_flow k 13 L' (uI σ 1902 (σ.1 1902 - 1))) (IO c B KB f0 u0 σ (mu σ (qv nf sq rk))) := by
      intro L' l2 l3
      refine Tm_suc (fun k => by rw [f_X3_flow]) ?_
      refine Tm_ite (fun _ => b19 _ l2 l3) (fun _ => ?_)
      refine Tm_suc (fun k => by rw [f_X3_flow]) ?_
      exact b19 _ l2 l3
    refine Tm_suc (fun k => by rw [f_X3_flow]) ?_
    refine Tm_op (c_pop (by omega) st1 st2.2) (fun q z => ?_)
    rw [z.1]
    refine Tm_op c_wantTruth (fun q2 z2 => ?_)
    rcases z2 with ⟨w1, w2, _⟩ | ⟨w1, w2⟩
    · refine Tm_no (by rw [w1]; decide) ?_
      rw [w2]
      refine Tm_ite (fun _ => b13 _ rfl h3) (fun _ => ?_)
      refine Tm_suc (fun k => by rw [f_X3_flow]) ?_
      exact b13 _ rfl h3
    · refine Tm_yes w1 ?_
      rw [w2]
      exact b11 _ _ _ (IO_b (Md_i σ (by decide) _) rfl (fa_fin pd (by decide)))
  have b15 : ∀ (L' : LV) (d' : Nat), d = d' + 1 → Nx c (pc + 1) u d' r rk → NxS c (uN (nI pc + L.1 2)) u (d' + 1) r → L'.1 2 = L.1 2 → L'.1 3 = nI pc → Tm (fun k => f_X3_flow k 15 L' σ) (IO c B KB f0 u0 σ (mu σ (qv nf sq rk))) := by
    intro L' d' k1 k2 k3 l2 l3
    have p0 : Pre c g l t K K2 K3 K4 B KB f0 u0 σ fs u (d' + 1) r pb nf nc sq := by rw [← k1]; exact p
    refine Tm_suc (fun k => by rw [f_X3_flow]) ?_
    exact Tm_op (c_shortcut p0 (w := nI pc + L.1 2) (by show L'.1 3 + L'.1 2 = _; rw [l2, l3]) (by rw [hx]; exact k2) k3) (fun q z => b11 _ _ _ z)
  refine Tm_suc (fun k => by rw [f_X3_flow]) ?_
  rw [h1]
  refine Tm_ite (fun q => ?_) (fun q0 => Tm_ite (fun q => ?_) (fun q1 => Tm_ite (fun q => ?_) (fun q2 => Tm_ite (fun q => ?_) (fun q3 => Tm_ite (fun q => ?_) (fun q4 => Tm_ite (fun q => ?_) (fun q5 => Tm_ite (fun q => ?_) (fun q6 => Tm_ite (fun q => ?_) (fun q7 => Tm_ite (fun q => ?_) (fun q8 => Tm_ite (fun q => ?_) (fun q9 => ?_))))))))))
  · exact absurd ((op_n (n := 0) ho' (by decide)).1 q) (by omega)
  · exact b2 (o1 (Or.inl ((op_n ho' (by decide)).1 q)))
  · exact b2 (o1 (Or.inr ((op_n ho' (by decide)).1 q)))
  · have k := o3 ((op_n ho' (by decide)).1 q)
    refine Tm_suc (fun k => by rw [f_X3_flow]) ?_
    refine b11 _ _ _ (fl_fin p rfl (fun j hj => upd_other hj) ?_)
    show Nx c (uN (L.1 3 + L.1 2)) u d r rk
    rw [h3]; exact k
  · obtain ⟨d', k1, k2, k3⟩ := o4 (Or.inl ((op_n ho' (by decide)).1 q))
    exact b4 d' k1 k2 k3
  · obtain ⟨d', k1, k2, k3⟩ := o4 (Or.inr ((op_n ho' (by decide)).1 q))
    exact b4 d' k1 k2 k3
  · obtain ⟨d', k1, k2, k3⟩ := o6 (Or.inl ((op_n ho' (by decide)).1 q))
    refine Tm_suc (fun k => by rw [f_X3_flow]) ?_
    refine Tm_ite (fun _ => b15 _ d' k1 k2 k3 rfl h3) (fun _ => ?_)
    refine Tm_suc (fun k => by rw [f_X3_flow]) ?_
    exact b15 _ d' k1 k2 k3 rfl h3
  · obtain ⟨d', k1, k2, k3⟩ := o6 (Or.inr ((op_n ho' (by decide)).1 q))
    refine Tm_suc (fun k => by rw [f_X3_flow]) ?_
    refine Tm_ite (fun _ => b15 _ d' k1 k2 k3 rfl h3) (fun _ => ?_)
    refine Tm_suc (fun k => by rw [f_X3_flow]) ?_
    exact b15 _ d' k1 k2 k3 rfl h3
  · obtain ⟨k1, k2⟩ := o8 (Or.inl ((op_n ho' (by decide)).1 q))
    refine Tm_suc (fun k => by rw [f_X3_flow]) ?_
    refine Tm_chk (i1 k1) ?_
    refine Tm_op c_wantTruth (fun q2 z2 => ?_)
    rcases z2 with ⟨w1, w2, _⟩ | ⟨w1, w2⟩
    · refine Tm_no (by rw [w1]; decide) ?_
      rw [w2]
      refine Tm_op c_spend (fun q3 e3 => ?_)
      rw [e3]
      refine b11 _ _ _ ?_
      refine re_fin (σ' := spS σ 1) p k1 (gt k1) (Re_sp (by decide) (by decide) p.2.2.1) rfl (fun _ _ => rfl) ?_ _
      have e19 : (spS σ 1).1 1900 = σ.1 1900 := (spS_m σ 1).1 1900 (by decide)
      rw [e19, hx]; exact k2
    · refine Tm_yes w1 ?_
      rw [w2]
      exact b11 _ _ _ (fa_fin p (by decide))
  · obtain ⟨k1, k2⟩ := o8 (Or.inr ((op_n ho' (by decide)).1 q))
    have b17 : ∀ L' : LV, Tm (fun k => f_X3_flow k 17 L' σ) (IO c B KB f0 u0 σ (mu σ (qv nf sq rk))) := by
      intro L'
      refine Tm_suc (fun k => by rw [f_X3_flow]) ?_
      refine Tm_op c_truth (fun q3 z3 => ?_)
      rw [z3.1]
      exact Tm_op (reX p k1 (Md_r σ) rfl rfl rfl (z3.2 g) (by rw [hx]; exact k2) (qv nf sq rk)) (fun q z => b11 _ _ _ z)
    refine Tm_suc (fun k => by rw [f_X3_flow]) ?_
    refine Tm_chk (i1 k1) ?_
    refine Tm_op c_wantTruth (fun q2 z2 => ?_)
    rcases z2 with ⟨w1, w2, _⟩ | ⟨w1, w2⟩
    · refine Tm_no (by rw [w1]; decide) ?_
      rw [w2]
      refine Tm_chk (i1 k1) ?_
      refine Tm_ite (fun _ => b17 _) (fun _ => ?_)
      refine Tm_suc (fun k => by rw [f_X3_flow]) ?_
      exact b17 _
    · refine Tm_yes w1 ?_
      rw [w2]
      exact b11 _ _ _ (fa_fin p (by decide))
  · exfalso
    have nn : ∀ n, n < 10 → ¬ op = n → True := fun _ _ _ => trivial
    have e : op = 0 ∨ op = 1 ∨ op = 2 ∨ op = 3 ∨ op = 4 ∨ op = 5 ∨ op = 6 ∨ op = 7 ∨ op = 8 ∨ op = 9 := by omega
    rcases e with e | e | e | e | e | e | e | e | e | e
    · omega
    · exact q1 (by rw [e]; rfl)
    · exact q2 (by rw [e]; rfl)
    · exact q3 (by rw [e]; rfl)
    · exact q4 (by rw [e]; rfl)
    · exact q5 (by rw [e]; rfl)
    · exact q6 (by rw [e]; rfl)
    · exact q7 (by rw [e]; rfl)
    · exact q8 (by rw [e]; rfl)
    · exact q9 (by rw [e]; rfl)
/-- END_VIEW -/
theorem c_flowV {op : Nat} (h0 : 10 ≤ op) (ho : op < 256) (h1 : L.1 1 = nI op) : Tm (fun k => f_X3_flow k 0 L σ) (fun q => q = ((0, 0), uI σ 1812 1, (0, 0))) := by
  have nn : ∀ n, n < 10 → ¬ nI op = nI n := fun n hn z => by
    have e := (op_n ho (by omega)).1 z
    omega
  refine Tm_suc (fun k => by rw [f_X3_flow]) ?_
  rw [h1]
  refine Tm_no (nn 0 (by decide)) (Tm_no (nn 1 (by decide)) (Tm_no (nn 2 (by decide)) (Tm_no (nn 3 (by decide)) (Tm_no (nn 4 (by decide)) (Tm_no (nn 5 (by decide)) (Tm_no (nn 6 (by decide)) (Tm_no (nn 7 (by decide)) (Tm_no (nn 8 (by decide)) (Tm_no (nn 9 (by decide)) ?_)))))))))
  refine Tm_suc (fun k => by rw [f_X3_flow]) ?_
  refine Tm_suc (fun k => by rw [f_X3_flow]) ?_
  exact Tm_some rfl
end CTY
