/-! The house: round, on both sides. -/
section DZR
variable {σ s s1 r : CS} {c : Ct} {a1 a2 n1 n2 i j V : Nat} {x : Int32} {XE : XEt}
/-- within a round -/
def RoI (σ : CS) (a1 a2 : Nat) (s : CS) : Prop := HfN σ s ∧ (sPr s = sPr σ ∧ s.1 7511 = σ.1 7511 ∧ s.1 7517 = σ.1 7517 ∧ s.1 7518 = σ.1 7518 ∧ sN s 66 = sN σ 66 ∧ s.1 1903 = σ.1 1903) ∧ (a1 + PhC s ≤ PhC σ ∧ a2 + PhS s ≤ PhS σ)
def RoP (c : Ct) (σ : CS) (a1 a2 : Nat) (r : RS) : Prop := r.1.1 = 0 ∧ RoI σ (a1 + r.2.2.1) (a2 + r.2.2.2) r.2.1 ∧ ∃ (g : Nat → Prop) (l : List Nat) (t : Nat), MsG c g l t r.2.1
theorem RoP_s {q : RS} (h : RoP c σ (a1 + n1) (a2 + n2) q) : RoP c σ a1 a2 (q.1, q.2.1, (n1 + q.2.2.1, n2 + q.2.2.2)) := by
  obtain ⟨h1, h2, h3⟩ := h
  rw [Nat.add_assoc, Nat.add_assoc] at h2
  exact ⟨h1, h2, h3⟩
theorem RoI_f (h : RoI σ a1 a2 s) (f : MFr s r) (e3 : r.1 1903 = s.1 1903) (c1 : n1 + PhC r ≤ PhC s) (c2 : n2 + PhS r ≤ PhS s) : RoI σ (a1 + n1) (a2 + n2) r := by
  obtain ⟨h1, ⟨h2, h3, h4, h5, h6, h7⟩, h8, h9⟩ := h
  refine ⟨HfN_t h1 (HfN_m f), ⟨?_, (f.1 7511 (by decide)).trans h3, (f.1 7517 (by decide)).trans h4, (f.1 7518 (by decide)).trans h5, ((f.2.2.1 66 (by unfold rwM; omega)).2).trans h6, e3.trans h7⟩, by omega, by omega⟩
  show r.2.2.2.2.2.1.2.2.1 = _
  rw [f.2.2.2.2]
  exact h2
theorem MFr_n (h : RnF s r) : MFr s r := ⟨fun j hj => h.1 j (by omega), fun j _ => by rw [h.2.1], fun k hk => by
  unfold rwM at hk
  exact ⟨h.2.2.1 k (by omega), by show r.2.2.2.2.1 k = _; rw [h.2.2.2]⟩, by rw [h.2.2.2], by rw [h.2.2.2]⟩
theorem RoI_n (h : RoI σ a1 a2 s) (f : RnF s r) : RoI σ a1 a2 r := by
  have ph := Ph_s (σ := s) (σ' := r) (by rw [f.2.2.2])
  exact RoI_f (n1 := 0) (n2 := 0) h (MFr_n f) (f.1 1903 (by decide)) (by omega) (by omega)
theorem RoI_65 (h : RoI σ a1 a2 s) : RoI σ a1 a2 (uA s 65 i x) := by
  obtain ⟨h1, h2, h3⟩ := h
  exact ⟨HfN_t h1 ⟨fun _ _ _ => rfl, fun k hk => ⟨uA_k (by omega), rfl⟩, rfl, ⟨rfl, rfl, rfl⟩⟩, h2, h3⟩
theorem c_rounds (ck : CkA c) (ev : ∀ i, i < V → EnV c (uN (σ.2.2.1 64 i))) (hV : σ.1 7513 = nI V) (V8 : V ≤ 8) : ∀ (d i : Nat), d + i = V → ∀ (L : LV) (s : CS) (a1 a2 : Nat) (g : Nat → Prop) (l : List Nat) (t : Nat), L.1 2 = nI i → RoI σ a1 a2 s → MsG c g l t s → Tm (fun k => f_X11_round k 1 L s) (RoP c σ a1 a2) := by
  intro d
  induction d with
  | zero =>
    intro i hi L s a1 a2 g l t h2 ro ms
    have e13 : s.1 7513 = nI V := (ro.1.1 7513 (by decide) (by decide)).trans hV
    refine Tm_suc (fun k => by rw [f_X11_round]) ?_
    rw [e13, h2]
    refine Tm_ite (fun _ => ?_) (fun z => absurd ((n_le (by omega) (by omega)).mpr (by omega)) z)
    refine Tm_suc (fun k => by rw [f_X11_round]) ?_
    refine Tm_some ?_
    exact ⟨rfl, ro, g, l, t, ms⟩
  | succ d ih =>
    intro i hi L s a1 a2 g l t h2 ro ms
    have e13 : s.1 7513 = nI V := (ro.1.1 7513 (by decide) (by decide)).trans hV
    have i8 : ¬ (nI i < 0 ∨ 8 ≤ (nI i).toNatClampNeg) := n_in (by omega) (by omega)
    have b6 : ∀ (L' : LV) (s' : CS) (A1 A2 : Nat) (g : Nat → Prop) (l : List Nat) (t : Nat), L'.1 2 = nI i → RoI σ A1 A2 s' → MsG c g l t s' → Tm (fun k => f_X11_round k 6 L' s') (RoP c σ A1 A2) := fun L' s' A1 A2 g l t k2 ro' ms' => by
      refine Tm_suc (fun k => by rw [f_X11_round]) ?_
      rw [k2]
      refine Tm_chk (by decide) (Tm_chk i8 ?_)
      rw [n_add1]
      exact ih (i + 1) (by omega) _ _ A1 A2 g l t rfl (RoI_65 (RoI_n ro' RnF_u)) (MsG_65 (MsG_67 ms' (Gv_om g)))
    have b4 : ∀ (L' : LV) (s' : CS) (A1 A2 : Nat) (g : Nat → Prop) (l : List Nat) (t : Nat), L'.1 2 = nI i → L'.1 101 = 2 → Gv g (L'.1 100) → RoI σ A1 A2 s' → MsG c g l t s' → Tm (fun k => f_X11_round k 4 L' s') (RoP c σ A1 A2) := fun L' s' A1 A2 g l t k2 k1 kv ro' ms' => by
      refine Tm_suc (fun k => by rw [f_X11_round]) ?_
      rw [k1]
      refine Tm_chk (by decide) ?_
      refine Tm_oxc (c_room (MsG_67 ms' kv)) (fun r z => z.1) (fun r2 z2 => ?_)
      obtain ⟨_, z3, z4, g', l', t', ms2⟩ := z2
      have ro1 : RoI σ A1 A2 (uA s' 67 (2 : Int32).toNatClampNeg (L'.1 100)) := RoI_n ro' RnF_u
      have ro2 : RoI σ (A1 + r2.2.2.1) (A2 + r2.2.2.2) r2.2.1 := RoI_f ro1 (MFr_R z4) (z4.1.1 1903 (by decide)) z3.1 z3.2
      refine Tm_mono (Q := RoP c σ (A1 + r2.2.2.1) (A2 + r2.2.2.2)) ?_ (fun q z => RoP_s z)
      have e3 : 3 + 3 * L'.1 2 = nI (3 + 3 * i) := by
        rw [k2]
        have := (by decide : ∀ m : Fin 8, (3 : Int32) + 3 * nI m.1 = nI (3 + 3 * m.1)) ⟨i, by omega⟩
        exact this
      refine Tm_op (c_renew (L := lI lZ 1 (3 + 3 * L'.1 2)) (p := 3 + 3 * i) ms2 e3 (by omega)) (fun r3 z5 => ?_)
      obtain ⟨rf, g3, l3, t3, ms3⟩ := z5
      have ro3 := RoI_n ro2 rf
      refine Tm_ite (fun _ => ?_) (fun _ => ?_)
      · refine Tm_suc (fun k => by rw [f_X11_round]) ?_
        exact b6 _ _ _ _ g3 l3 t3 k2 ro3 ms3
      · exact b6 _ _ _ _ g3 l3 t3 k2 ro3 ms3
    refine Tm_suc (fun k => by rw [f_X11_round]) ?_
    rw [e13, h2]
    refine Tm_ite (fun z => absurd ((n_le (by omega) (by omega)).mp z) (by omega)) (fun _ => ?_)
    refine Tm_chk i8 ?_
    rw [n_cl (p := i) (by omega)]
    have r64 : s.2.2.1 64 = σ.2.2.1 64 := (ro.1.2.1 64 (by omega)).1
    refine Tm_oxc (c_evaluate (L := lI lZ 1 (s.2.2.1 64 i)) (Mst_of ms) ck (by show EnV c (uN (s.2.2.1 64 i)); rw [r64]; exact ev i (by omega))) (fun r z => z.1) (fun r3 z3 => ?_)
    obtain ⟨v1, v2, v3, v4, g', l', t', ms3, gw⟩ := z3
    have ro3 : RoI σ (a1 + r3.2.2.1) (a2 + r3.2.2.2) r3.2.1 := RoI_f ro v4 v2 v3.1 v3.2
    refine Tm_mono (Q := RoP c σ (a1 + r3.2.2.1) (a2 + r3.2.2.2)) ?_ (fun q z => RoP_s z)
    refine Tm_op (c_isError (L := lI lZ 0 r3.1.2) (σ := r3.2.1)) (fun r5 z5 => ?_)
    obtain ⟨⟨x1, x2⟩, _, x4⟩ := z5
    rw [x1]
    refine Tm_ite (fun cE => ?_) (fun cE => ?_)
    · have gv : Gv g' r3.1.2 := by
        rcases gw with z | z
        · exact z
        · exact absurd z (x4.1 cE)
      refine Tm_suc (fun k => by rw [f_X11_round]) ?_
      exact b4 _ _ _ _ g' l' t' h2 rfl gv ro3 ms3
    · exact b4 _ _ _ _ g' l' t' h2 rfl (Gv_om g') ro3 ms3
theorem hp_round (hj : j < 512) : cPr j (fun x => x = 0 ∨ x = 2) (fun σ k => f_X11_round k 0 lZ σ) (fun τ k => x_round k 0 (fun _ => 0) τ) (fun _ _ => True) := by
  intro σ τ h
  have h0 := h
  obtain ⟨XE, ic, rf, tr, e10, e11, e13⟩ := h
  show Tm (fun k => f_X11_round k 0 lZ σ) _
  refine Tm_suc (fun k => by rw [f_X11_round]) ?_
  refine Tm_wr (fun z => ?_) (fun nz => ?_)
  · exact ⟨Or.inr rfl, by show 1 + PhC σ ≤ _; omega, by show 6 + PhS σ ≤ _; omega, IB_k2 (gM := fun k => x_round k 0 (fun _ => 0) τ) h0 hj (fun XE rf => rj_round rf)⟩
  obtain ⟨k0, y1, y2, sz, gl, pr, cc, z1, z2, z3, z4, z5, z6, z7, z8⟩ := IC_r ic nz
  have q3 : uN (σ.1 7513) ≤ 8 := by obtain ⟨n, sz, _, _, ⟨_, _, q⟩, _⟩ := ic; exact q
  have q1 : uN (σ.1 7517) ≤ sN σ 66 := by obtain ⟨n, sz, _, _, ⟨q, _, _⟩, _⟩ := ic; exact q
  have q2 : uN (σ.1 7518) ≤ 2 := by obtain ⟨n, sz, _, _, ⟨_, q, _⟩, _⟩ := ic; exact q
  have h41 : σ.2.2.1 (pR18 (sCur σ)) 41 = 0 := by obtain ⟨n, sz, _, ⟨_, q, _⟩, _⟩ := ic; exact (q _).1
  obtain ⟨V, hV⟩ : ∃ V, uN (σ.1 7513) = V := ⟨_, rfl⟩
  have eV : σ.1 7513 = nI V := u_eq.2 (by rw [hV, u_n (by omega)])
  obtain ⟨g, l, t, mg⟩ := Mst_G z4
  have ro0 : RoI σ 0 0 σ := ⟨⟨fun _ _ _ => rfl, fun _ _ => ⟨rfl, rfl⟩, rfl, ⟨rfl, rfl, rfl⟩⟩, ⟨rfl, rfl, rfl, rfl, rfl, rfl⟩, by omega, by omega⟩
  refine Tm_mono (c_rounds (σ := σ) (V := V) z5 (fun i hi => ev_M (V := uN (σ.1 7513)) z2 h41 (by omega)) eV (by omega) V 0 (by omega) (lI (lI lZ 1 0) 2 0) σ 0 0 g l t rfl ro0 mg) (fun r w => ?_)
  obtain ⟨w1, ⟨w2, ⟨w3, w4, w5, w6, w7, w8⟩, w9, w10⟩, g', l', t', ms⟩ := w
  rw [Nat.zero_add] at w9 w10
  have ic' : IC XE (j + 1) r.2.1 := IC_runN ic hj k0 w2 (w3.trans y1) (by rw [w5, w7]; exact q1) (by rw [w6]; exact q2) ⟨sz, gl, pr, cc, z1, z2, z3, Mst_of ms, by rw [w8]; omega⟩
  refine ⟨Or.inl w1, by show r.2.2.1 + PhC r.2.1 ≤ _; omega, by show r.2.2.2 + PhS r.2.1 ≤ _; omega, ?_⟩
  refine Tm_mono (rj_round rf) (fun q w => ⟨?_, trivial⟩)
  show IB (j + 1) r.2.1 q.2
  exact ⟨XE, ic', w.1, KpT_rel (tRel_s tr (w2.1 3701 (by decide) (by decide)) (w2.2.1 38 (by omega)).1) w.2, by rw [w2.1 7510 (by decide) (by decide), w.2.2.2.1]; exact e10, by rw [w4, w.2.2.2.2]; exact e11, by rw [w2.1 7513 (by decide) (by decide), w.2.2.1]; exact e13⟩
end DZR
