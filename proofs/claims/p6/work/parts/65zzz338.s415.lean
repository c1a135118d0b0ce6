/-! The class: calls and points. -/
section CTZ
variable {g g' g2 : Nat → Prop} {l l' l2 : List Nat} {t t' t2 : Nat} {σ σ' σ2 τ τ' : CS} {L : LV} {x y z i : Int32} {M M' U U' : Nat → Int32} {K K' K0 K2 K2' K3 K4 K4' KB : Nat → Option Int32} {c : Ct} {B f0 u0 a T : Nat} {fs : List FrT} {u d : Nat} {r r' : List Nat} {pb nf nc sq rk : Nat}
/-- raw ones were laid upon the stack, of which nothing is said -/
theorem pu_C (mi : MIn c g l t K K2 K3 K4 B KB σ) (hx : Gw g x) {n : Nat} {q : RS} (h : PuO σ x n q) : MIn c g l t (Kw K (uN (σ.1 1902)) n (some mkC)) K2 K3 K4 B KB q.2.1 ∧ Md σ q.2.1 := by
  obtain ⟨st1, st2, st3⟩ := mi.2.1.1
  obtain ⟨h1, h2, h3, h4, h5, h6, h7⟩ := h
  have md : Md σ q.2.1 := Md_S h3
  have hq : HQ g l t q.2.1 := HQ_fs mi.1 h4.1 h4.2 (fun k hk => h3.2.2.2.1.1 k hk)
  have b := mi.2.2.2.2.2.2.1.2
  have e23 : q.2.1.2.2.1 23 = σ.2.2.1 23 := h3.2.2.1 23 (by decide)
  have r3 : q.2.1.2.2.1 3 = σ.2.2.1 3 := h4.2
  have kb : ∀ j, j < B → Kw K (uN (σ.1 1902)) n (some mkC) j = KB j := fun j hj => by rw [Kw_o (Or.inl (by omega))]; exact mi.2.2.2.2.2.1 j hj
  refine ⟨?_, md⟩
  rcases h7 with ⟨a1, a2, a3, a4, a5, a6⟩ | ⟨a1, a2, a3, a4⟩
  · have rw1 : Rwk g (q.2.1.2.2.1 3) (Kw K (uN (σ.1 1902)) n (some mkC)) (q.2.1.2.2.1 20) (uN (q.2.1.1 1902)) := by
      rw [a1, r3]
      intro j hj
      rcases Nat.lt_or_ge j (uN (σ.1 1902)) with z | z
      · rw [h6 j z, Kw_o (Or.inl z)]
        exact st3 j z
      · rw [a3 j z hj, Kw_i z hj]
        exact Rwc hx
    have v := VI_20 mi.2.1 md e23 ⟨fun _ z => z, fun p _ => by rw [r3]⟩ (by rw [a1]; exact a2) h5 rw1
    exact MIn_d mi md hq v kb (by rw [a1]; omega)
  · have rw1 : Rwk g (q.2.1.2.2.1 3) (Kw K (uN (σ.1 1902)) n (some mkC)) (q.2.1.2.2.1 20) (uN (q.2.1.1 1902)) := by
      rw [a1, r3]
      intro j hj
      rw [h6 j hj, Kw_o (Or.inl hj)]
      exact st3 j hj
    have v := VI_20 mi.2.1 md e23 ⟨fun _ z => z, fun p _ => by rw [r3]⟩ (by rw [a1]; exact a2) h5 rw1
    exact MIn_d mi md hq v kb (by rw [a1]; exact b)
theorem Gw_rt (g : Nat → Prop) : Gw g (-268435456) := Or.inr (by show 4026531840 ≤ uN (-268435456); decide)
/-- FRAME -/
theorem fr_fin {e' : Nat} {s : List Nat} (p : Pre c g l t K K2 K3 K4 B KB f0 u0 σ fs u d (e' :: s) pb nf nc sq) (hd : d < 250000) {q : RS} (h : PuO σ (-268435456) 4 q) (nx : Nx c (uN (σ.1 1900)) u 0 ((250000 + d) :: e' :: s) rk) : IO c B KB f0 u0 σ (mu σ (qv nf sq rk)) ((0, 0), q.2.1, (q.2.2.1 + 0, q.2.2.2 + 0)) := by
  have pm := pu_C p.1 (Gw_rt g) h
  have ty := p.2.1
  have ts := TyS_sp ty
  obtain ⟨h1, h2, h3, h4, h5, h6, h7⟩ := h
  refine ⟨rfl, ⟨h2.1, h2.2⟩, Md_M pm.2, fun _ => Md_E pm.2, g, l, t, _, _, _, _, pm.1, fun z => ?_, fun z => ?_⟩
  · have z0 : q.2.1.1 1812 = 0 := z
    rcases h7 with ⟨a1, a2, a3, a4, a5, a6⟩ | ⟨a1, a2, a3, a4⟩
    · have fe : ∀ j, ¬ (j = 1 ∨ j = 404 ∨ j = 1203 ∨ j = 1812 ∨ j = 1813 ∨ j = 1902 ∨ j = 1905) → q.2.1.1 j = σ.1 j := fun j hj => h3.1 j (by omega)
      have hs : SL (Kw K (uN (σ.1 1902)) 4 (some mkC)) (uN (σ.1 1901) + 4) (uN (q.2.1.1 1902)) 0 ((250000 + d) :: e' :: s) := by
        rw [a1]
        exact SL_fr ty.1 hd
      refine go_n (TyS_k ty ⟨fe 1901 (by decide), fe 1815 (by decide), fe 1811 (by decide), fe 1908 (by decide)⟩ hs (fun p hp => Kw_o (Or.inl (by omega))) nx.choose_spec.2.2 ?_) p.2.2.1 a6 (fe 1814 (by decide)) (by rw [fe 1900 (by decide)]; exact nx)
      exact ⟨fun z => absurd z (by unfold bsl; omega), fun _ => ty.2.2.2.2.2.2.2.2⟩
    · rw [a3] at z0
      exact absurd z0 (by decide)
  · have z0 : ¬ q.2.1.1 1812 = 0 := z
    rcases h7 with ⟨a1, a2, a3, a4, a5, a6⟩ | ⟨a1, a2, a3, a4⟩
    · exact absurd (a4.trans p.2.2.2.1) z0
    · exact Or.inl a4.2
/-- what calls and points ask -/
def Ok7 (c : Ct) (pc u d : Nat) (r : List Nat) (rk op : Nat) (num : Int32) : Prop := (op = 16 → ∃ e s, r = e :: s ∧ d < 250000 ∧ Nx c (pc + 1) u 0 ((250000 + d) :: r) rk) ∧ (op = 17 → ∃ v d0 r1, (num = nI v ∧ v < 41 ∧ tcK c v) ∧ (d = tcP c v ∧ r = (250000 + d0) :: r1 ∧ d0 < 250000) ∧ tcF c u ≤ bt d0 r1 ∧ (tcP c v ≤ tcF c v ∧ tcF c v ≤ 1000) ∧ uN (tcC c (pc + 1) >>> ((8 : Int32) &&& 31)) ≤ 180 ∧ (∀ (K : Nat → Option Int32) (pb : Nat), PaM K pb 180 r1 → PaM K pb (uN (tcC c (pc + 1) >>> ((8 : Int32) &&& 31))) r1) ∧ NxR c (pc + 2) u (d0 + 1) r1 ∧ NxR c (tcE c v) v 0 ((bsl + tcF c v) :: Vl (tcF c v))) ∧ (op = 18 → 1 ≤ d ∧ tcK c u) ∧ (op = 19 → ∃ v ws ms, (num = nI v ∧ (1 ≤ v ∧ v < 41) ∧ tcS c v) ∧ (∀ i, i ∈ ms → i < bsl) ∧ (r = 250000 :: (bsl + ws) :: ms ∧ d = tcP c v) ∧ tcS c u ∧ ws ≤ 200 ∧ tcF c u ≤ ws ∧ (tcP c v ≤ tcF c v ∧ tcF c v ≤ 1000) ∧ ∃ rb, tcD c (pc + 1) = some (u, 0 + 1 + tcP c v, ((bsl + ws) :: ms), rb) ∧ rb ≤ RK ∧ ∃ rk', tcD c (tcE c v) = some (v, 0, (bsl + tcF c v) :: Vl (tcF c v), rk') ∧ rk' + rb < rk) ∧ (op = 20 → 1 ≤ d ∧ tcS c u ∧ ¬ u = 0 ∧ 1 ≤ rk ∧ ∀ i, i < tcP c u → i < 500000 ∧ HasM (500000 + i) r) ∧ (op = 21 → ∃ ws ms, (∀ i, i ∈ ms → i < bsl) ∧ d = 0 ∧ r = (bsl + ws) :: ms ∧ tcS c u ∧ u < 41 ∧ ws ≤ 200 ∧ Nx c (pc + 1) u 1 r rk ∧ NxR c (pc + 1) u 1 r) ∧ (op = 22 → tcS c u ∧ 72 * (RK + 1) ≤ rk) ∧ (op = 23 ∨ 25 ≤ op → tcS c u ∧ Nx c (pc + 1) u d r rk) ∧ (op = 24 → ∃ d', d = d' + 1 ∧ Nx c (pc + 1) u d' r rk)
theorem c_calls (p : Pre c g l t K K2 K3 K4 B KB f0 u0 σ fs u d r pb nf nc sq) {pc op : Nat} (h16 : 16 ≤ op) (ho : op < 256) (h1 : L.1 1 = nI op) (hp : pc + 1 ≤ tcN c) (hp17 : op = 17 → pc + 1 < tcN c) (hN : tcN c ≤ 36864) (hpc : σ.1 1900 = nI (pc + 1)) (hu : ¬ tcK c u0) (hz : tcS c u0 → f0 = 0 ∧ u0 = 0) (ok : Ok7 c pc u d r rk op (L.1 2)) : Tm (fun k => f_X3_callsAndPoints k 0 L σ) (IO c B KB f0 u0 σ (mu σ (qv nf sq rk))) := by
  have mi := p.1
  obtain ⟨st1, st2, st3⟩ := mi.2.1.1
  have ts := TyS_sp p.2.1
  have hx : uN (σ.1 1900) = pc + 1 := by rw [hpc, u_n (by omega)]
  have hp2 : pc + 1 < 36865 := by omega
  have o25 : ¬ op = 16 → ¬ op = 17 → ¬ op = 18 → ¬ op = 19 → ¬ op = 20 → ¬ op = 21 → ¬ op = 22 → ¬ op = 23 → ¬ op = 24 → 25 ≤ op := by omega
  have s1 : 1 ≤ d → 1 ≤ uN (σ.1 1902) := fun k => by omega
  obtain ⟨o16, o17, o18, o19, o20, o21, o22, o23, o24⟩ := ok
  have b9 : ∀ (σ' : CS) (L' : LV) (Q : RS → Prop), Q ((0, 0), σ', (0, 0)) → Tm (fun k => f_X3_callsAndPoints k 9 L' σ') Q := by
    intro σ' L' Q h
    refine Tm_suc (fun k => by rw [f_X3_callsAndPoints]) ?_
    exact Tm_some h
  have b11 : ∀ L' : LV, tcS c u → (L'.1 100 = 0 → Nx c (pc + 1) u d r rk) → (¬ L'.1 100 = 0 → 72 * (RK + 1) ≤ rk) → Tm (fun k => f_X3_callsAndPoints k 11 L' σ) (IO c B KB f0 u0 σ (mu σ (qv nf sq rk))) := by
    intro L' cs n0 n1
    refine Tm_suc (fun k => by rw [f_X3_callsAndPoints]) ?_
    exact Tm_oxc (c_leavePoint p cs (hz (FC_S _ _ _ _ _ _ _ p.2.1.2.1 cs)) hpc hp2 n0 n1) (fun q z => z.1) (fun q z => b9 _ _ _ z.2)
  refine Tm_suc (fun k => by rw [f_X3_callsAndPoints]) ?_
  rw [h1]
  refine Tm_ite (fun q => ?_) (fun q0 => Tm_ite (fun q => ?_) (fun q1 => Tm_ite (fun q => ?_) (fun q2 => Tm_ite (fun q => ?_) (fun q3 => Tm_ite (fun q => ?_) (fun q4 => Tm_ite (fun q => ?_) (fun q5 => Tm_ite (fun q => ?_) (fun q6 => Tm_ite (fun q => ?_) (fun q7 => Tm_ite (fun q => ?_) (fun q8 => ?_)))))))))
  · obtain ⟨e, s, k1, k2, k3⟩ := o16 ((op_n ho (by decide)).1 q)
    have p0 : Pre c g l t K K2 K3 K4 B KB f0 u0 σ fs u d (e :: s) pb nf nc sq := by rw [← k1]; exact p
    refine Tm_suc (fun k => by rw [f_X3_callsAndPoints]) ?_
    refine Tm_oxc (c_pushAll st1 st2 (by show uN (4 : Int32) ≤ _; decide)) (fun q z => by rw [z.1]) (fun q z => b9 _ _ _ ?_)
    exact fr_fin p0 k2 z (by rw [hx, ← k1]; exact k3)
  · obtain ⟨v, d0, r1, ⟨k1, k2, k3⟩, k4, k5, k6, k7, k8, k9, k10⟩ := o17 ((op_n ho (by decide)).1 q)
    refine Tm_suc (fun k => by rw [f_X3_callsAndPoints]) ?_
    exact Tm_oxc (c_callFunc p hpc (hp17 ((op_n ho (by decide)).1 q)) hN k1 k2 k3 k4 k5 k6 k7 k8 k9 k10) (fun q z => z.1) (fun q z => b9 _ _ _ z.2)
  · obtain ⟨k1, k2⟩ := o18 ((op_n ho (by decide)).1 q)
    refine Tm_suc (fun k => by rw [f_X3_callsAndPoints]) ?_
    exact Tm_oxc (c_endFunc p k1 k2 hu (qv nf sq rk)) (fun q z => z.1) (fun q z => b9 _ _ _ z.2)
  · obtain ⟨v, ws, ms, ⟨k1, k2, k3⟩, k4, ⟨k5, k6⟩, k7, k8, k9, k10, k11⟩ := o19 ((op_n ho (by decide)).1 q)
    have p0 : Pre c g l t K K2 K3 K4 B KB f0 u0 σ fs u d (250000 :: (bsl + ws) :: ms) pb nf nc sq := by rw [← k5]; exact p
    refine Tm_suc (fun k => by rw [f_X3_callsAndPoints]) ?_
    exact Tm_oxc (c_callProc k4 p0 k7 hpc hp2 k1 k2 k3 k6 k8 k9 k10 k11) (fun q z => z.1) (fun q z => b9 _ _ _ z.2)
  · obtain ⟨k1, k2, k3, k4, k5⟩ := o20 ((op_n ho (by decide)).1 q)
    have e0 := (hz (FC_S _ _ _ _ _ _ _ p.2.1.2.1 k2)).2
    refine Tm_suc (fun k => by rw [f_X3_callsAndPoints]) ?_
    exact Tm_op (c_endProc p k1 k2 (by rw [e0]; exact k3) k4 k5) (fun q z => b9 _ _ _ z)
  · obtain ⟨ws, ms, k1, k2, k3, k4, k5, k6, k7, k8⟩ := o21 ((op_n ho (by decide)).1 q)
    have p0 : Pre c g l t K K2 K3 K4 B KB f0 u0 σ fs u 0 ((bsl + ws) :: ms) pb nf nc sq := by rw [← k3, ← k2]; exact p
    rw [k3] at k7 k8
    refine Tm_suc (fun k => by rw [f_X3_callsAndPoints]) ?_
    exact Tm_oxc (c_makePoint k1 p0 k4 (hz (FC_S _ _ _ _ _ _ _ p.2.1.2.1 k4)) k5 k6 hpc hp2 k7 k8) (fun q z => z.1) (fun q z => b9 _ _ _ z.2)
  · obtain ⟨k1, k2⟩ := o22 ((op_n ho (by decide)).1 q)
    refine Tm_suc (fun k => by rw [f_X3_callsAndPoints]) ?_
    refine Tm_yes (by rw [h1]; exact q) ?_
    exact b11 _ k1 (fun z => absurd z (by show ¬ (1 : Int32) = 0; decide)) (fun _ => k2)
  · obtain ⟨k1, k2⟩ := o23 (Or.inl ((op_n ho (by decide)).1 q))
    refine Tm_suc (fun k => by rw [f_X3_callsAndPoints]) ?_
    refine Tm_no (by rw [h1]; exact q6) ?_
    refine Tm_suc (fun k => by rw [f_X3_callsAndPoints]) ?_
    exact b11 _ k1 (fun _ => k2) (fun z => absurd rfl z)
  · obtain ⟨d', k1, k2⟩ := o24 ((op_n ho (by decide)).1 q)
    obtain ⟨pd, es⟩ := Pre_dr (x := 1) (d' := d') (n := 1) p k1 rfl k2.choose_spec.2.2
    refine Tm_suc (fun k => by rw [f_X3_callsAndPoints]) ?_
    refine Tm_op (c_pop (s1 (by rw [k1]; exact Nat.succ_pos _)) st1 st2.2) (fun q z => ?_)
    rw [z.1]
    refine Tm_op c_wantTruth (fun q2 z2 => ?_)
    rcases z2 with ⟨w1, w2, _⟩ | ⟨w1, w2⟩
    · refine Tm_no (by rw [w1]; decide) ?_
      rw [w2]
      refine Tm_ite (fun _ => ?_) (fun _ => ?_)
      · refine Tm_op c_fail (fun q3 e3 => ?_)
        rw [e3]
        exact b9 _ _ _ (IO_b (Md_i σ (by decide) _) rfl (fa_fin pd (by decide)))
      · have z := fl_fin (σ' := uI σ 1902 (σ.1 1902 - 1)) (rk := rk) pd rfl (fun _ _ => rfl) (by
          show Nx c (uN (σ.1 1900)) u d' r rk
          rw [hx]; exact k2)
        exact b9 _ _ _ (IO_b (Md_i σ (by decide) _) rfl z)
    · refine Tm_yes w1 ?_
      rw [w2]
      exact b9 _ _ _ (IO_b (Md_i σ (by decide) _) rfl (fa_fin pd (by decide)))
  · have oo : ∀ n, n < 256 → ¬ nI op = nI n → ¬ op = n := fun n hn z e => z (by rw [e])
    obtain ⟨k1, k2⟩ := o23 (Or.inr (o25 (oo 16 (by decide) q0) (oo 17 (by decide) q1) (oo 18 (by decide) q2) (oo 19 (by decide) q3) (oo 20 (by decide) q4) (oo 21 (by decide) q5) (oo 22 (by decide) q6) (oo 23 (by decide) q7) (oo 24 (by decide) q8)))
    refine Tm_suc (fun k => by rw [f_X3_callsAndPoints]) ?_
    refine Tm_no (by rw [h1]; exact q6) ?_
    refine Tm_suc (fun k => by rw [f_X3_callsAndPoints]) ?_
    exact b11 _ k1 (fun _ => k2) (fun z => absurd rfl z)
end CTZ
