/-! Statements on both sides (reference): the parts of a target are read. -/
/-- behind readParts: the variable and jj parts lie upon the pile -/
def RPq (t jj w XC : Nat) (σ1 σ2 : MS) (r1 r2 : Int32 × MS) : Prop := FE σ1 r1.2 ∧ FE σ2 r2.2 ∧ ((∃ w', w ≤ w' ∧ EI (t + 1 + jj) w' XC r1.2 r2.2) ∨ (EZ t 179300 r1.2 ∧ EZ t 179300 r2.2))
section RDP
variable {T : Nat → Nat → Int32} {FN : Nat → Nat → Prop} {lc : Nat → Prop} {t w XC k u : Nat} {σ σ1 σ2 ρ : MS} {x : Int32} {ch : Nat → Nat}
theorem rp_6 {τ : MS} {N : Nat → Int32} : Tm (fun n => x_readParts n 6 N τ) (fun r => r = (0, τ)) := Tm_suc (fun n => by rw [x_readParts]) (Tm_some rfl)
/-- with an error it ends -/
theorem rp_z (h : Tgt T FN lc k ch) {i : Nat} (hi : i ≤ k) {τ : MS} (he : ¬ τ.1 56 = 0) {N : Nat → Int32} (n4 : N 4 = nI (ch i)) : Tm (fun n => x_readParts n 1 N τ) (fun r => r = (0, τ)) := by
  have b := h.1 i hi
  have two : Tm (fun n => x_readParts n 2 N τ) (fun r => r = (0, τ)) := by
    refine Tm_suc (fun n => by rw [x_readParts]) ?_
    exact Tm_ite (fun z => absurd z he) (fun _ => rp_6)
  refine Tm_suc (fun n => by rw [x_readParts]) ?_
  refine Tm_ite (fun _ => rp_6) (fun _ => Tm_ite (fun _ => ?_) (fun _ => two))
  rw [n4]
  refine Tm_chk (n_in (by omega) (by omega)) ?_
  exact Tm_ite (fun _ => rp_6) (fun _ => two)
/-- it ends at its last part -/
theorem rp_x (h : Tgt T FN lc k ch) {i : Nat} {fl : Int32} (hi : i = (if fl = 0 then k - 1 else k)) {τ : MS} (r9 : τ.2.2 9 = T 9) {N : Nat → Int32} (n1 : N 1 = nI (ch k)) (n3 : N 3 = fl) (n4 : N 4 = nI (ch i)) : Tm (fun n => x_readParts n 1 N τ) (fun r => r = (0, τ)) := by
  have ik : i ≤ k := by rw [hi]; split <;> omega
  have b := h.1 i ik
  refine Tm_suc (fun n => by rw [x_readParts]) ?_
  rw [n1, n3, n4]
  refine Tm_ite (fun _ => rp_6) (fun z => ?_)
  have ne : ¬ i = k := fun e => z ((Tgt_eq h ik).mpr e)
  refine Tm_ite (fun y => ?_) (fun y => ?_)
  · refine Tm_chk (n_in (by omega) (by omega)) ?_
    rw [if_pos y] at hi
    rw [n_cl (p := ch i) (by omega), r9, (h.2.2 i (by omega)).2.1, show i + 1 = k by omega]
    exact Tm_ite (fun _ => rp_6) (fun z => absurd rfl z)
  · rw [if_neg y] at hi
    exact absurd hi ne
/-- the variable, then part by part -/
theorem E_readParts (hX : XC ≤ 402000) (h : Tgt T FN lc k ch) (ht : t ≤ 60000 ∧ k ≤ 60000) (hu : u + kys T ch k ≤ t) (hS : Sc0 T FN lc σ1) (hI : EI t w XC σ1 σ2) {fl : Int32} {L1 L2 : Nat → Int32} (d1 : L1 1 = nI (ch k)) (d2 : L2 1 = nI (ch k)) (u1 : L1 2 = nI u) (u2 : L2 2 = nI u) (q1 : L1 3 = fl) (q2 : L2 3 = fl) : T2 (fun n => x_readParts n 0 L1 σ1) (fun n => x_readParts n 0 L2 σ2) (RPq t (if fl = 0 then k - 1 else k) w XC σ1 σ2) := by
  have hS2 := Sc0_ei hS hI
  have tb : ∀ (τ1 τ2 : MS), FE σ1 τ1 → FE σ2 τ2 → ∀ a, 4 ≤ a → a ≤ 12 → τ1.2.2 a = T a ∧ τ2.2.2 a = T a := fun τ1 τ2 f1 f2 a h1 h2 => ⟨(STb_fe hS.1 f1).1 a h1 h2, (STb_fe hS2.1 f2).1 a h1 h2⟩
  have jk : (if fl = 0 then k - 1 else k) ≤ k := by split <;> omega
  have lp : ∀ (q i : Nat), q + i = (if fl = 0 then k - 1 else k) → ∀ (w' : Nat) (τ1 τ2 : MS) (N1 N2 : Nat → Int32), w ≤ w' → FE σ1 τ1 → FE σ2 τ2 → EI (t + 1 + i) w' XC τ1 τ2 → N1 1 = nI (ch k) → N2 1 = nI (ch k) → N1 3 = fl → N2 3 = fl → N1 4 = nI (ch i) → N2 4 = nI (ch i) → N1 5 = nI (u + kys T ch i) → N2 5 = nI (u + kys T ch i) → T2 (fun n => x_readParts n 1 N1 τ1) (fun n => x_readParts n 1 N2 τ2) (RPq t (if fl = 0 then k - 1 else k) w XC σ1 σ2) := by
    intro q
    induction q with
    | zero =>
      intro i hi w' τ1 τ2 N1 N2 hw f1 f2 hJ a1 a2 b1 b2 c1 c2 _ _
      have e : i = (if fl = 0 then k - 1 else k) := by omega
      refine T2_mono (T2_t (rp_x h e (tb τ1 τ2 f1 f2 9 (by omega) (by omega)).1 a1 b1 c1) (rp_x h e (tb τ1 τ2 f1 f2 9 (by omega) (by omega)).2 a2 b2 c2)) (fun r1 r2 hr => ?_)
      rw [hr.1, hr.2]
      exact ⟨f1, f2, Or.inl ⟨w', hw, by rw [← e]; exact hJ⟩⟩
    | succ q ih =>
      intro i hi w' τ1 τ2 N1 N2 hw f1 f2 hJ a1 a2 b1 b2 c1 c2 g5 g6
      have bi := h.1 i (by omega)
      have bj := h.1 (i + 1) (by omega)
      have km := kys_mo (T := T) (ch := ch) (i := i + 1) (j := k) (by omega)
      have ek : kys T ch (i + 1) = kys T ch i + (if T 4 (ch (i + 1)) = 22 then 2 else 1) := rfl
      have k12 : 1 ≤ (if T 4 (ch (i + 1)) = 22 then 2 else 1) ∧ (if T 4 (ch (i + 1)) = 22 then 2 else 1) ≤ 2 := by split <;> omega
      obtain ⟨c6, c9, c4, c7, c8⟩ := h.2.2 i (by omega)
      obtain ⟨e1, e2⟩ := EI_e hJ
      -- behind an operation
      have five : ∀ (r1 r2 : MS) (g1 : Nat → Prop) (l1 : List Nat) (B1 h1 X1 : Nat) (g2 : Nat → Prop) (l2 : List Nat) (B2 h2 X2 : Nat), FE σ1 r1 → FE σ2 r2 → EIx (t + 1 + i) w' XC r1 r2 g1 l1 B1 h1 X1 g2 l2 B2 h2 X2 → ∀ (s1 s2 : Int32 × MS) (O1 O2 : Nat → Int32), O1 100 = s1.1 → O2 100 = s2.1 → O1 1 = nI (ch k) → O2 1 = nI (ch k) → O1 3 = fl → O2 3 = fl → O1 4 = nI (ch (i + 1)) → O2 4 = nI (ch (i + 1)) → O1 5 = nI (u + kys T ch i) → O2 5 = nI (u + kys T ch i) → (SO (t + 1 + i) w' XC g1 r1 s1 ∧ SO (t + 1 + i) w' XC g2 r2 s2 ∧ KS 8600 s1 s2 ∧ s1.2.1 95 = r1.1 95 ∧ s2.2.1 95 = r2.1 95) → T2 (fun n => x_readParts n 5 O1 s1.2) (fun n => x_readParts n 5 O2 s2.2) (RPq t (if fl = 0 then k - 1 else k) w XC σ1 σ2) := by
        intro r1 r2 g1 l1 B1 h1 X1 g2 l2 B2 h2 X2 p1 p2 hX' s1 s2 O1 O2 o100 p100 o1 o1' o3 o3' o4 o4' o5 o5' hs
        obtain ⟨s1', s2', s3, s4, s5⟩ := hs
        obtain ⟨m1, m2, bR, j1, j2, _, _, _, _, _, _, _, ⟨ty1, ty2⟩, a, z1, z2⟩ := hX'
        refine T2_suc (fun n => by rw [x_readParts]) (fun n => by rw [x_readParts]) ?_
        rw [o100, p100, o4, o4', o5, o5']
        refine E_ans m1 m2 bR j1 j2 (by omega) ty1 ty2 ⟨a, s4.trans z1, z2⟩ (s4.trans ((bR.2.2.1 95 (by unfold AlS; omega)).trans s5.symm)) s1' s2' s3 (fun v1 v2 k1 k2 hv => ?_)
        have y1 := FE_tr p1 k1
        have y2 := FE_tr p2 k2
        refine T2_chk (n_in (by omega) (by omega)) (n_in (by omega) (by omega)) ?_
        rw [n_cl (p := ch (i + 1)) (by omega), (tb _ _ y1 y2 4 (by omega) (by omega)).1, (tb _ _ y1 y2 4 (by omega) (by omega)).2]
        refine T2_ob (T2_t (s_keysP h (by omega) rfl) (s_keysP h (by omega) rfl)) (fun y z hy => ?_)
        rw [hy.1, hy.2]
        show T2 (fun n => x_readParts n 1 (upd O1 5 (nI (u + kys T ch i) + nI (if T 4 (ch (i + 1)) = 22 then 2 else 1))) v1.2) (fun n => x_readParts n 1 (upd O2 5 (nI (u + kys T ch i) + nI (if T 4 (ch (i + 1)) = 22 then 2 else 1))) v2.2) _
        rw [n_add (p := u + kys T ch i) (by omega), show u + kys T ch i + (if T 4 (ch (i + 1)) = 22 then 2 else 1) = u + kys T ch (i + 1) by omega]
        rcases hv with ⟨w2, hw2, hv⟩ | ⟨y3, y4⟩
        · exact ih (i + 1) (by omega) w2 v1.2 v2.2 _ _ (by omega) y1 y2 hv o1 o1' o3 o3' o4 o4' rfl rfl
        · refine T2_mono (T2_t (rp_z h (i := i + 1) (by omega) (EZ_e y3) o4) (rp_z h (i := i + 1) (by omega) (EZ_e y4) o4')) (fun r1 r2 hr => ?_)
          rw [hr.1, hr.2]
          exact ⟨y1, y2, Or.inr ⟨EZ_mo y3 (by omega) (by omega), EZ_mo y4 (by omega) (by omega)⟩⟩
      have two : T2 (fun n => x_readParts n 2 N1 τ1) (fun n => x_readParts n 2 N2 τ2) (RPq t (if fl = 0 then k - 1 else k) w XC σ1 σ2) := by
        refine T2_suc (fun n => by rw [x_readParts]) (fun n => by rw [x_readParts]) ?_
        rw [e1, e2, c1, c2]
        refine T2_ite Iff.rfl (fun _ _ => ?_) (fun z _ => absurd rfl z)
        refine T2_chk (n_in (by omega) (by omega)) (n_in (by omega) (by omega)) ?_
        rw [n_cl (p := ch i) (by omega), (tb τ1 τ2 f1 f2 9 (by omega) (by omega)).1, (tb τ1 τ2 f1 f2 9 (by omega) (by omega)).2, c9]
        refine T2_ob (E_sw (by omega) (by omega) hJ) (fun r1 r2 hr => ?_)
        obtain ⟨k1, k2, g1, l1, B1, h1, X1, g2, l2, B2, h2, X2, hX', rm1, rm2⟩ := hr
        have ff1 := FE_tr f1 k1
        have ff2 := FE_tr f2 k2
        have fv := five r1.2 r2.2 g1 l1 B1 h1 X1 g2 l2 B2 h2 X2 ff1 ff2 hX'
        have hX0 := hX'
        obtain ⟨m1, m2, aR, _, _, t1, o1, o2, _⟩ := hX'
        have t2 : r2.2.1 59 = nI (t + 1 + i) := (aR.2.2.1 59 (by unfold AlS; omega)).symm.trans t1
        have tt : nI (t + 1 + i) - 1 = nI (t + i) := (n_sub (p := t + 1 + i) (q := 1) (by omega) (by omega)).trans (by rw [show t + 1 + i - 1 = t + i by omega])
        rw [t1, t2, tt, g5, g6]
        refine T2_chk (n_in (by omega) (by omega)) (n_in (by omega) (by omega)) ?_
        refine T2_chk (n_in (by omega) (by omega)) (n_in (by omega) (by omega)) ?_
        rw [n_cl (p := ch (i + 1)) (by omega), n_cl (p := t + i) (by omega), (tb _ _ ff1 ff2 4 (by omega) (by omega)).1, (tb _ _ ff1 ff2 4 (by omega) (by omega)).2]
        have P1 : VP g1 l1 B1 h1 (t + 1 + i) r1.2 := ⟨m1.1, t1, by omega, ⟨0, o1, by decide⟩⟩
        have P2 : VP g2 l2 B2 h2 (t + 1 + i) r2.2 := ⟨m2.1, t2, by omega, ⟨0, o2, by decide⟩⟩
        obtain ⟨va, vb, va1, va2, va3, va4, va5, va6, va7⟩ := aR.1 29 (t + i) (Or.inl ⟨rfl, by omega⟩) (by unfold VwR; omega)
        obtain ⟨vc, vd, vc1, vc2, vc3, vc4, vc5, vc6, vc7⟩ := aR.1 29 (u + kys T ch i) (Or.inl ⟨rfl, by omega⟩) (by unfold VwR; omega)
        rw [va1, va3]
        refine T2_ite Iff.rfl (fun _ _ => ?_) (fun n21 _ => ?_)
        · refine T2_chk (n_in (by omega) (by omega)) (n_in (by omega) (by omega)) ?_
          rw [n_cl (p := u + kys T ch i) (by omega), vc1, vc3]
          exact T2_ob (E_op hX0 (s_partAt P1 va2 vc2 rfl rfl) (s_partAt P2 va4 vc4 rfl rfl) (fun n => k_partAt m1.1 m2.1 o1 o2 (by omega) (by omega) va2 va4 va5 vc2 vc4 vc5 rfl rfl rfl rfl) (fun k => wl_partAt k _ _ _) (fun k => wl_partAt k _ _ _) (c := 8600) (by omega)) (fun s1 s2 hs => fv s1 s2 _ _ rfl rfl a1 a2 b1 b2 rfl rfl g5 g6 hs)
        have three : ∀ (O1 O2 : Nat → Int32), O1 1 = nI (ch k) → O2 1 = nI (ch k) → O1 3 = fl → O2 3 = fl → O1 4 = nI (ch (i + 1)) → O2 4 = nI (ch (i + 1)) → O1 5 = nI (u + kys T ch i) → O2 5 = nI (u + kys T ch i) → O1 6 = nI va → O2 6 = nI vb → T2 (fun n => x_readParts n 3 O1 r1.2) (fun n => x_readParts n 3 O2 r2.2) (RPq t (if fl = 0 then k - 1 else k) w XC σ1 σ2) := by
          intro O1 O2 o11 o12 o31 o32 o41 o42 o51 o52 o61 o62
          refine T2_suc (fun n => by rw [x_readParts]) (fun n => by rw [x_readParts]) ?_
          rw [o41, o42, o51, o52, o61, o62]
          refine T2_chk (n_in (by omega) (by omega)) (n_in (by omega) (by omega)) ?_
          rw [n_cl (p := ch (i + 1)) (by omega), (tb _ _ ff1 ff2 4 (by omega) (by omega)).1, (tb _ _ ff1 ff2 4 (by omega) (by omega)).2]
          refine T2_ite Iff.rfl (fun _ _ => ?_) (fun n23 _ => ?_)
          · refine T2_chk (n_in (by omega) (by omega)) (n_in (by omega) (by omega)) ?_
            rw [n_cl (p := u + kys T ch i) (by omega), vc1, vc3]
            exact T2_ob (E_op hX0 (s_image P1 va2 vc2 rfl rfl) (s_image P2 va4 vc4 rfl rfl) (fun n => k_image m1.1 m2.1 o1 o2 t1 t2 (by omega) (by omega) (by omega) va2 va4 va5 vc2 vc4 vc5 rfl rfl rfl rfl) (fun k => wl_image k _ _ _) (fun k => wl_image k _ _ _) (c := 8600) (by omega)) (fun s1 s2 hs => fv s1 s2 _ _ rfl rfl o11 o12 o31 o32 o41 o42 o51 o52 hs)
          · have y22 : T 4 (ch (i + 1)) = 22 := by
              rcases c4 with z | z | z
              · exact absurd z n21
              · exact z
              · exact absurd z n23
            rw [if_pos y22] at ek
            refine T2_suc (fun n => by rw [x_readParts]) (fun n => by rw [x_readParts]) ?_
            rw [o51, o52, o61, o62, n_add1]
            refine T2_chk (n_in (by omega) (by omega)) (n_in (by omega) (by omega)) ?_
            refine T2_chk (n_in (by omega) (by omega)) (n_in (by omega) (by omega)) ?_
            obtain ⟨ve, vf, ve1, ve2, ve3, ve4, ve5, ve6, ve7⟩ := aR.1 29 (u + kys T ch i + 1) (Or.inl ⟨rfl, by omega⟩) (by unfold VwR; omega)
            rw [n_cl (p := u + kys T ch i) (by omega), n_cl (p := u + kys T ch i + 1) (by omega), vc1, vc3, ve1, ve3]
            refine T2_ob (E_op hX0 (s_slice P1 va2 vc2 ve2 rfl rfl rfl) (s_slice P2 va4 vc4 ve4 rfl rfl rfl) (fun n => k_slice m1.1 m2.1 o1 o2 t1 t2 (by omega) (by omega) (by omega) va2 va4 va5 vc2 vc4 vc5 ve2 ve4 ve5 rfl rfl rfl rfl rfl rfl (fun i hi => ?_)) (fun k => wl_slice k _ _ _) (fun k => wl_slice k _ _ _) (c := 8600) (by omega)) (fun s1 s2 hs => fv s1 s2 _ _ rfl rfl o11 o12 o31 o32 o41 o42 o51 o52 hs)
            rw [upd_other (by omega), upd_other (by omega), upd_other (by omega), upd_other (by omega), upd_other (by omega), upd_other (by omega)]
        exact three _ _ a1 a2 b1 b2 rfl rfl g5 g6 rfl rfl
      have ne : ¬ nI (ch i) = nI (ch k) := fun z => absurd ((Tgt_eq h (by omega)).mp z) (by split at hi <;> omega)
      refine T2_suc (fun n => by rw [x_readParts]) (fun n => by rw [x_readParts]) ?_
      rw [a1, a2, b1, b2, c1, c2]
      refine T2_ite Iff.rfl (fun z _ => absurd z ne) (fun _ _ => ?_)
      refine T2_ite Iff.rfl (fun y _ => ?_) (fun _ _ => two)
      refine T2_chk (n_in (by omega) (by omega)) (n_in (by omega) (by omega)) ?_
      rw [n_cl (p := ch i) (by omega), (tb τ1 τ2 f1 f2 9 (by omega) (by omega)).1, (tb τ1 τ2 f1 f2 9 (by omega) (by omega)).2, c9]
      refine T2_ite Iff.rfl (fun z _ => absurd ((Tgt_eq h (by omega)).mp z) ?_) (fun _ _ => two)
      rw [if_pos y] at hi
      omega
  refine T2_suc (fun n => by rw [x_readParts]) (fun n => by rw [x_readParts]) ?_
  refine T2_ob (T2_t (s_nameOf h (hS.1.1 4 (by omega) (by omega)) (hS.1.1 6 (by omega) (by omega)) d1) (s_nameOf h (hS2.1.1 4 (by omega) (by omega)) (hS2.1.1 6 (by omega) (by omega)) d2)) (fun r1 r2 hr => ?_)
  rw [hr.1, hr.2]
  have hI0 := hI
  obtain ⟨g1, l1, B1, h1, X1, g2, l2, B2, h2, X2, hX'⟩ := hI0
  obtain ⟨c4, s, c6, cs, c5⟩ := h.2.1
  obtain ⟨a, i, hR, ha, _, _, hT⟩ := E_val hS.1 hX' hS.2 (h.1 0 (by omega)) c6 cs c5 (L1 := upd (fun _ => 0) 1 (nI (ch 0))) (L2 := upd (fun _ => 0) 1 (nI (ch 0))) rfl rfl
  refine T2_ob hT (fun s1 s2 hs => ?_)
  rw [hs.1, hs.2]
  refine T2_ob (E_prt hI (by omega) hR (by unfold VwR; omega) rfl rfl) (fun v1 v2 hv => ?_)
  obtain ⟨f1, f2, hv⟩ := hv
  rw [u1, u2]
  exact lp _ 0 rfl w v1.2 v2.2 _ _ (Nat.le_refl _) f1 f2 hv d1 d2 q1 q2 rfl rfl rfl rfl
end RDP
