section JnS568
/-! The house: what a round does: room, renewing. -/
section DZQ
variable {σ s s1 σ' : CS} {c : Ct} {g g' : Nat → Prop} {l l' : List Nat} {t t' i p : Nat} {x : Int32} {L : LV}
theorem MsG_ct (h : MsG c g l t σ) : CtL c σ := by
  obtain ⟨_, _, K, K2, K3, K4, mi, _⟩ := h
  exact mi.2.2.1
theorem CtL_r (h : CtL c σ) (e1 : ∀ k, ¬ (k = 65 ∨ k = 67) → s.2.2.1 k = σ.2.2.1 k) (e2 : s.2.2.2 = σ.2.2.2) : CtL c s := by
  obtain ⟨b, h1, h2, h3, h4⟩ := h
  have p0 := pR0_c (sKd σ b)
  have p13 := pR_13 b
  have kd : sKd s = sKd σ := by show s.2.2.2.2.2.1.2.2.2.2 = _; rw [e2]
  refine ⟨b, by show s.2.2.2.2.2.1.2.2.1 = _; rw [e2]; exact h1, by rw [kd, e1 _ (by omega)]; exact h2, by rw [kd]; show s.2.2.2.2.1 _ = _; rw [e2]; exact h3, fun u hu => ?_⟩
  rw [e1 (pR13 b) (by omega), e1 (pR14 b) (by omega), e1 (pR18 b) (by omega)]
  exact h4 u hu
theorem MsG_r (h : MsG c g l t σ) (e0 : s.1 = σ.1) (e0' : s.2.1 = σ.2.1) (e1 : ∀ k, ¬ (k = 65 ∨ k = 67) → s.2.2.1 k = σ.2.2.1 k) (e2 : s.2.2.2 = σ.2.2.2) (h67 : ∀ i, i < 27 → Gv g (s.2.2.1 67 i)) : MsG c g l t s := by
  have nn : sN s = sN σ := by show s.2.2.2.2.1 = _; rw [e2]
  have by0 : BY False s := by
    have b := h.1
    unfold BY at b ⊢
    rw [e1 13 (by decide), e1 22 (by decide), e1 66 (by decide), nn, e0]
    exact b
  exact MsG_xx (c1 := c) (c2 := c) ⟨rfl, rfl, rfl, fun _ _ z => z⟩ ⟨⟨fun j _ _ => by rw [e0], fun j _ => by rw [e0']⟩, fun k hk => ⟨e1 k (by omega), by rw [nn]⟩, by rw [e2]⟩ (CtL_r (MsG_ct h) e1 e2) by0 h67 h
theorem MsG_67 (h : MsG c g l t σ) (hx : Gv g x) : MsG c g l t (uA σ 67 i x) := by
  refine MsG_r h rfl rfl (fun k hk => uA_k (by omega)) rfl (fun k hk => ?_)
  rw [uA_r]
  by_cases e : k = i
  · rw [e, upd_same]; exact hx
  · rw [upd_other e]; exact (MsG_v h).2 k hk
theorem MsG_65 (h : MsG c g l t σ) : MsG c g l t (uA σ 65 i x) := by
  refine MsG_r h rfl rfl (fun k hk => uA_k (by omega)) rfl (fun k hk => ?_)
  rw [uA_k (by decide)]
  exact (MsG_v h).2 k hk
theorem c_room (h : MsG c g l t σ) : Tm (fun k => f_X3_makeRoom k 0 L σ) (fun r => r.1.1 = 0 ∧ CoP σ r ∧ RmF σ r.2.1 ∧ ∃ (g' : Nat → Prop) (l' : List Nat) (t' : Nat), MsG c g' l' t' r.2.1) := by
  obtain ⟨by0, sp, K, K2, K3, K4, mi, rn⟩ := h
  refine Tm_mono (Tm_Bf (c_makeRoom mi.1 mi.2.1) (fun k => kb_f_X3_makeRoom k 0 L σ by0)) (fun r z => ?_)
  obtain ⟨rm, by1⟩ := z
  obtain ⟨g', l', t', mi'⟩ := MIn_rm mi rm
  obtain ⟨z1, z2, z3, _⟩ := rm
  have e : ∀ j, ¬ (j = 1 ∨ j = 2403 ∨ j = 2404 ∨ j = 2405) → r.2.1.1 j = σ.1 j := z3.1.1
  refine ⟨by rw [z1], z2, z3, g', l', t', by1, by rw [e 1902 (by decide)]; exact sp, K, K2, K3, K4, mi', fun z => ?_⟩
  rw [e 1907 (by decide)] at z
  rw [e 1905 (by decide), e 1900 (by decide), e 1901 (by decide), e 1902 (by decide), e 1908 (by decide)]
  exact rn z
theorem MsG_Ga (h : MsG c g l t σ) (a : Ga g t σ g' l' t' σ') (by0 : BY False σ') : MsG c g' l' t' σ' := by
  obtain ⟨_, sp, K, K2, K3, K4, mi, rn⟩ := h
  have e := a.2.2.2.2.1
  refine ⟨by0, by rw [e 1902 (by decide)]; exact sp, K, K2, K3, K4, (MIn_Ga mi a).1, fun z => ?_⟩
  rw [e 1907 (by decide)] at z
  rw [e 1905 (by decide), e 1900 (by decide), e 1901 (by decide), e 1902 (by decide), e 1908 (by decide)]
  exact rn z
/-- what renewing leaves -/
def RnF (σ s : CS) : Prop := (∀ j, ¬ (j = 1 ∨ j = 404 ∨ j = 1203) → s.1 j = σ.1 j) ∧ s.2.1 = σ.2.1 ∧ (∀ k, ¬ (k = 3 ∨ (5 ≤ k ∧ k ≤ 11) ∨ k = 13 ∨ (15 ≤ k ∧ k ≤ 17) ∨ k = 67) → s.2.2.1 k = σ.2.2.1 k) ∧ s.2.2.2 = σ.2.2.2
theorem RnF_t (a : RnF σ s) (d : RnF s s1) : RnF σ s1 := ⟨fun j hj => (d.1 j hj).trans (a.1 j hj), d.2.1.trans a.2.1, fun k hk => (d.2.2.1 k hk).trans (a.2.2.1 k hk), d.2.2.2.trans a.2.2.2⟩
theorem RnF_r (σ : CS) : RnF σ σ := ⟨fun _ _ => rfl, rfl, fun _ _ => rfl, rfl⟩
theorem RnF_u : RnF σ (uA σ 67 i x) := ⟨fun _ _ => rfl, rfl, fun k hk => uA_k (by omega), rfl⟩
theorem RnF_a (a : AWf σ s) : RnF σ s := ⟨a.1, a.2.1, fun k hk => a.2.2.1 k (by omega), a.2.2.2⟩
def RnP (c : Ct) (σ : CS) (r : Int32 × CS) : Prop := RnF σ r.2 ∧ ∃ (g : Nat → Prop) (l : List Nat) (t : Nat), MsG c g l t r.2
theorem c_renew (h : MsG c g l t σ) (h1 : L.1 1 = nI p) (hp : p ≤ 24) : Tm (fun k => y_X11_renew k 0 L σ) (RnP c σ) := by
  obtain ⟨hq, hv⟩ := MsG_v h
  have ix : ∀ d, d ≤ 2 → ¬ (nI p + nI d < 0 ∨ 27 ≤ (nI p + nI d).toNatClampNeg) := fun d hd => by rw [n_add (by omega)]; exact n_in (by omega) (by omega)
  have ix0 : ¬ (nI p < 0 ∨ 27 ≤ (nI p).toNatClampNeg) := n_in (by omega) (by omega)
  have b8 : ∀ (L' : LV) (s : CS), (L'.1 4 = 0 ∨ L'.1 4 = 1) → RnP c σ (L'.1 4, s) → Tm (fun k => y_X11_renew k 8 L' s) (RnP c σ) := fun L' s h4 hr => by
    refine Tm_suc (fun k => by rw [y_X11_renew]) ?_
    exact Tm_chk h4 (Tm_some hr)
  have b4 : ∀ (L' : LV), (L'.1 4 = 0 ∨ L'.1 4 = 1) → L'.1 1 = nI p → Gv g (L'.1 2) → Gv g (L'.1 3) → Tm (fun k => y_X11_renew k 4 L' σ) (RnP c σ) := fun L' h4 h1' h2 h3 => by
    refine Tm_suc (fun k => by rw [y_X11_renew]) ?_
    rw [h1']
    refine Tm_chk ix0 ?_
    refine Tm_ite (fun c4 => ?_) (fun c4 => ?_)
    · refine Tm_chk (ix 1 (by omega)) (Tm_chk (ix 2 (by omega)) ?_)
      refine Tm_suc (fun k => by rw [y_X11_renew]) ?_
      have g2 : Gv g 2 := Or.inr ⟨by decide, by have := hq.2.2.2.1.2.2; exact this⟩
      refine b8 _ _ h4 ⟨RnF_t RnF_u (RnF_t RnF_u RnF_u), g, l, t, MsG_67 (MsG_67 (MsG_67 h h3) g2) g2⟩
    · refine Tm_suc (fun k => by rw [y_X11_renew]) ?_
      have m1 : MsG c g l t (uA σ 67 (nI p).toNatClampNeg (L'.1 3)) := MsG_67 h h3
      refine Tm_ite (fun c5 => ?_) (fun c5 => ?_)
      · refine Tm_suc (fun k => by rw [y_X11_renew]) ?_
        refine Tm_chk (by show ¬ (L'.1 1 + 1 < 0 ∨ 27 ≤ (L'.1 1 + 1).toNatClampNeg); rw [h1']; exact ix 1 (by omega)) (Tm_chk (by show ¬ (L'.1 1 + 2 < 0 ∨ 27 ≤ (L'.1 1 + 2).toNatClampNeg); rw [h1']; exact ix 2 (by omega)) ?_)
        exact b8 _ _ h4 ⟨RnF_t RnF_u (RnF_t RnF_u RnF_u), g, l, t, MsG_67 (MsG_67 m1 h3) h2⟩
      · refine Tm_oc (Tm_By (c_binary (L := lI (lI (lI lZ 1 129) 2 (L'.1 3)) 3 (L'.1 2)) (MsG_v m1).1 h3 h2) (fun k => kb_y_X0_binary k 0 _ _ m1.1)) (fun r2 z2 => ?_)
        obtain ⟨⟨g', l', t', ga, gv⟩, by2⟩ := z2
        have m2 := MsG_Ga m1 ga by2
        have gv' : Gv g' r2.1 := gv.elim id Gv_rw
        have m3 : MsG c g' l' t' (uA r2.2 67 (L'.1 1 + 1).toNatClampNeg r2.1) := MsG_67 m2 gv'
        refine Tm_chk (by show ¬ (L'.1 1 + 1 < 0 ∨ 27 ≤ (L'.1 1 + 1).toNatClampNeg); rw [h1']; exact ix 1 (by omega)) ?_
        refine Tm_oc (Tm_By (c_binary (L := lI (lI (lI lZ 1 129) 2 (L'.1 2)) 3 (L'.1 3)) (MsG_v m3).1 (Gv_sg h2 ga.2.1) (Gv_sg h3 ga.2.1)) (fun k => kb_y_X0_binary k 0 _ _ m3.1)) (fun r4 z4 => ?_)
        obtain ⟨⟨g2, l2, t2, ga2, gv2⟩, by4⟩ := z4
        have m4 := MsG_Ga m3 ga2 by4
        refine Tm_chk (by show ¬ (L'.1 1 + 2 < 0 ∨ 27 ≤ (L'.1 1 + 2).toNatClampNeg); rw [h1']; exact ix 2 (by omega)) ?_
        exact b8 _ _ h4 ⟨RnF_t RnF_u (RnF_t (RnF_a ga.2.2.2.2) (RnF_t RnF_u (RnF_t (RnF_a ga2.2.2.2.2) RnF_u))), g2, l2, t2, MsG_67 m4 (gv2.elim id Gv_rw)⟩
  have b2 : ∀ (L' : LV), (L'.1 100 = 0 ∨ L'.1 100 = 1) → L'.1 1 = nI p → Gv g (L'.1 2) → Gv g (L'.1 3) → Tm (fun k => y_X11_renew k 2 L' σ) (RnP c σ) := fun L' h4 h1' h2 h3 => by
    have b3 : ∀ L2 : LV, (L2.1 4 = 0 ∨ L2.1 4 = 1) → L2.1 1 = nI p → Gv g (L2.1 2) → Gv g (L2.1 3) → Tm (fun k => y_X11_renew k 3 L2 σ) (RnP c σ) := fun L2 k4 k1 k2 k3 => by
      refine Tm_suc (fun k => by rw [y_X11_renew]) ?_
      exact b4 _ k4 k1 k2 k3
    refine Tm_suc (fun k => by rw [y_X11_renew]) ?_
    refine Tm_oc (c_kind (L := lI lZ 1 (L'.1 2)) hq h2) (fun r1 z1 => ?_)
    rw [z1]
    refine Tm_ite (fun _ => ?_) (fun _ => ?_)
    · refine Tm_oc (c_kind (L := lI lZ 1 (L'.1 3)) hq h3) (fun r3 z3 => ?_)
      rw [z3]
      refine Tm_ite (fun _ => ?_) (fun _ => ?_)
      · exact b4 _ h4 h1' h2 h3
      · exact b3 _ h4 h1' h2 h3
    · exact b3 _ h4 h1' h2 h3
  refine Tm_suc (fun k => by rw [y_X11_renew]) ?_
  rw [h1]
  refine Tm_chk ix0 (Tm_chk (by decide) ?_)
  have v1 : Gv g (σ.2.2.1 67 (nI p).toNatClampNeg) := by rw [n_cl (p := p) (by omega)]; exact hv p (by omega)
  have v2 : Gv g (σ.2.2.1 67 (2 : Int32).toNatClampNeg) := hv 2 (by decide)
  refine Tm_oc (c_same (L := lI (lI lZ 1 (σ.2.2.1 67 (nI p).toNatClampNeg)) 2 (σ.2.2.1 67 (2 : Int32).toNatClampNeg)) hq v1 v2) (fun r3 z3 => ?_)
  rw [z3.1]
  refine Tm_ite (fun _ => ?_) (fun _ => ?_)
  · exact b2 _ (Or.inr rfl) h1 v1 v2
  · refine Tm_suc (fun k => by rw [y_X11_renew]) ?_
    exact b2 _ (Or.inl rfl) h1 v1 v2
end DZQ
end JnS568
section JnS569
/-! The house: round, on both sides. -/
section DZR
variable {σ s s1 r : CS} {c : Ct} {a1 a2 n1 n2 i j V : Nat} {x : Int32} {XE : XEt}
/-- within a round -/
def RoI (σ : CS) (a1 a2 : Nat) (s : CS) : Prop := HfN σ s ∧ (sPr s = sPr σ ∧ s.1 7511 = σ.1 7511 ∧ s.1 7517 = σ.1 7517 ∧ s.1 7518 = σ.1 7518 ∧ sN s 66 = sN σ 66 ∧ s.1 1903 = σ.1 1903) ∧ (a1 + PhC s ≤ PhC σ ∧ a2 + PhS s ≤ PhS σ)
def RoP (c : Ct) (σ : CS) (a1 a2 : Nat) (r : RS) : Prop := r.1.1 = 0 ∧ RoI σ (a1 + r.2.2.1) (a2 + r.2.2.2) r.2.1 ∧ ∃ (g : Nat → Prop) (l : List Nat) (t : Nat), MsG c g l t r.2.1
theorem RoP_s {q : RS} (h : RoP c σ (a1 + n1) (a2 + n2) q) : RoP c σ a1 a2 (q.1, q.2.1, (n1 + q.2.2.1, n2 + q.2.2.2)) := by
  obtain ⟨h1, h2, h3⟩ := h
  rw [Nat.add_assoc, Nat.add_assoc] at h2
  exact ⟨h1, h2, h3⟩
theorem RoI_f (h : RoI σ a1 a2 s) (f : MFr s r) (e3 : r.1 1903 = s.1 1903) (c1 : n1 + PhC r ≤ PhC s) (c2 : n2 + PhS r ≤ PhS s) : RoI σ (a1 + n1) (a2 + n2) r := by
  obtain ⟨h1, ⟨h2, h3, h4, h5, h6, h7⟩, h8, h9⟩ := h
  refine ⟨HfN_t h1 (HfN_m f), ⟨?_, (f.1 7511 (by decide)).trans h3, (f.1 7517 (by decide)).trans h4, (f.1 7518 (by decide)).trans h5, ((f.2.2.1 66 (by unfold rwM; omega)).2).trans h6, e3.trans h7⟩, by omega, by omega⟩
  show r.2.2.2.2.2.1.2.2.1 = _
  rw [f.2.2.2.2]
  exact h2
theorem MFr_n (h : RnF s r) : MFr s r := ⟨fun j hj => h.1 j (by omega), fun j _ => by rw [h.2.1], fun k hk => by
  unfold rwM at hk
  exact ⟨h.2.2.1 k (by omega), by show r.2.2.2.2.1 k = _; rw [h.2.2.2]⟩, by rw [h.2.2.2], by rw [h.2.2.2]⟩
theorem RoI_n (h : RoI σ a1 a2 s) (f : RnF s r) : RoI σ a1 a2 r := by
  have ph := Ph_s (σ := s) (σ' := r) (by rw [f.2.2.2])
  exact RoI_f (n1 := 0) (n2 := 0) h (MFr_n f) (f.1 1903 (by decide)) (by omega) (by omega)
theorem RoI_65 (h : RoI σ a1 a2 s) : RoI σ a1 a2 (uA s 65 i x) := by
  obtain ⟨h1, h2, h3⟩ := h
  exact ⟨HfN_t h1 ⟨fun _ _ _ => rfl, fun k hk => ⟨uA_k (by omega), rfl⟩, rfl, ⟨rfl, rfl, rfl⟩⟩, h2, h3⟩
theorem c_rounds (ck : CkA c) (ev : ∀ i, i < V → EnV c (uN (σ.2.2.1 64 i))) (hV : σ.1 7513 = nI V) (V8 : V ≤ 8) : ∀ (d i : Nat), d + i = V → ∀ (L : LV) (s : CS) (a1 a2 : Nat) (g : Nat → Prop) (l : List Nat) (t : Nat), L.1 2 = nI i → RoI σ a1 a2 s → MsG c g l t s → Tm (fun k => f_X11_round k 1 L s) (RoP c σ a1 a2) := by
  intro d
  induction d with
  | zero =>
    intro i hi L s a1 a2 g l t h2 ro ms
    have e13 : s.1 7513 = nI V := (ro.1.1 7513 (by decide) (by decide)).trans hV
    refine Tm_suc (fun k => by rw [f_X11_round]) ?_
    rw [e13, h2]
    refine Tm_ite (fun _ => ?_) (fun z => absurd ((n_le (by omega) (by omega)).mpr (by omega)) z)
    refine Tm_suc (fun k => by rw [f_X11_round]) ?_
    refine Tm_some ?_
    exact ⟨rfl, ro, g, l, t, ms⟩
  | succ d ih =>
    intro i hi L s a1 a2 g l t h2 ro ms
    have e13 : s.1 7513 = nI V := (ro.1.1 7513 (by decide) (by decide)).trans hV
    have i8 : ¬ (nI i < 0 ∨ 8 ≤ (nI i).toNatClampNeg) := n_in (by omega) (by omega)
    have b6 : ∀ (L' : LV) (s' : CS) (A1 A2 : Nat) (g : Nat → Prop) (l : List Nat) (t : Nat), L'.1 2 = nI i → RoI σ A1 A2 s' → MsG c g l t s' → Tm (fun k => f_X11_round k 6 L' s') (RoP c σ A1 A2) := fun L' s' A1 A2 g l t k2 ro' ms' => by
      refine Tm_suc (fun k => by rw [f_X11_round]) ?_
      rw [k2]
      refine Tm_chk (by decide) (Tm_chk i8 ?_)
      rw [n_add1]
      exact ih (i + 1) (by omega) _ _ A1 A2 g l t rfl (RoI_65 (RoI_n ro' RnF_u)) (MsG_65 (MsG_67 ms' (Gv_om g)))
    have b4 : ∀ (L' : LV) (s' : CS) (A1 A2 : Nat) (g : Nat → Prop) (l : List Nat) (t : Nat), L'.1 2 = nI i → L'.1 101 = 2 → Gv g (L'.1 100) → RoI σ A1 A2 s' → MsG c g l t s' → Tm (fun k => f_X11_round k 4 L' s') (RoP c σ A1 A2) := fun L' s' A1 A2 g l t k2 k1 kv ro' ms' => by
      refine Tm_suc (fun k => by rw [f_X11_round]) ?_
      rw [k1]
      refine Tm_chk (by decide) ?_
      refine Tm_oxc (c_room (MsG_67 ms' kv)) (fun r z => z.1) (fun r2 z2 => ?_)
      obtain ⟨_, z3, z4, g', l', t', ms2⟩ := z2
      have ro1 : RoI σ A1 A2 (uA s' 67 (2 : Int32).toNatClampNeg (L'.1 100)) := RoI_n ro' RnF_u
      have ro2 : RoI σ (A1 + r2.2.2.1) (A2 + r2.2.2.2) r2.2.1 := RoI_f ro1 (MFr_R z4) (z4.1.1 1903 (by decide)) z3.1 z3.2
      refine Tm_mono (Q := RoP c σ (A1 + r2.2.2.1) (A2 + r2.2.2.2)) ?_ (fun q z => RoP_s z)
      have e3 : 3 + 3 * L'.1 2 = nI (3 + 3 * i) := by
        rw [k2]
        have := (by decide : ∀ m : Fin 8, (3 : Int32) + 3 * nI m.1 = nI (3 + 3 * m.1)) ⟨i, by omega⟩
        exact this
      refine Tm_op (c_renew (L := lI lZ 1 (3 + 3 * L'.1 2)) (p := 3 + 3 * i) ms2 e3 (by omega)) (fun r3 z5 => ?_)
      obtain ⟨rf, g3, l3, t3, ms3⟩ := z5
      have ro3 := RoI_n ro2 rf
      refine Tm_ite (fun _ => ?_) (fun _ => ?_)
      · refine Tm_suc (fun k => by rw [f_X11_round]) ?_
        exact b6 _ _ _ _ g3 l3 t3 k2 ro3 ms3
      · exact b6 _ _ _ _ g3 l3 t3 k2 ro3 ms3
    refine Tm_suc (fun k => by rw [f_X11_round]) ?_
    rw [e13, h2]
    refine Tm_ite (fun z => absurd ((n_le (by omega) (by omega)).mp z) (by omega)) (fun _ => ?_)
    refine Tm_chk i8 ?_
    rw [n_cl (p := i) (by omega)]
    have r64 : s.2.2.1 64 = σ.2.2.1 64 := (ro.1.2.1 64 (by omega)).1
    refine Tm_oxc (c_evaluate (L := lI lZ 1 (s.2.2.1 64 i)) (Mst_of ms) ck (by show EnV c (uN (s.2.2.1 64 i)); rw [r64]; exact ev i (by omega))) (fun r z => z.1) (fun r3 z3 => ?_)
    obtain ⟨v1, v2, v3, v4, g', l', t', ms3, gw⟩ := z3
    have ro3 : RoI σ (a1 + r3.2.2.1) (a2 + r3.2.2.2) r3.2.1 := RoI_f ro v4 v2 v3.1 v3.2
    refine Tm_mono (Q := RoP c σ (a1 + r3.2.2.1) (a2 + r3.2.2.2)) ?_ (fun q z => RoP_s z)
    refine Tm_op (c_isError (L := lI lZ 0 r3.1.2) (σ := r3.2.1)) (fun r5 z5 => ?_)
    obtain ⟨⟨x1, x2⟩, _, x4⟩ := z5
    rw [x1]
    refine Tm_ite (fun cE => ?_) (fun cE => ?_)
    · have gv : Gv g' r3.1.2 := by
        rcases gw with z | z
        · exact z
        · exact absurd z (x4.1 cE)
      refine Tm_suc (fun k => by rw [f_X11_round]) ?_
      exact b4 _ _ _ _ g' l' t' h2 rfl gv ro3 ms3
    · exact b4 _ _ _ _ g' l' t' h2 rfl (Gv_om g') ro3 ms3
theorem hp_round (hj : j < 512) : cPr j (fun x => x = 0 ∨ x = 2) (fun σ k => f_X11_round k 0 lZ σ) (fun τ k => x_round k 0 (fun _ => 0) τ) (fun _ _ => True) := by
  intro σ τ h
  have h0 := h
  obtain ⟨XE, ic, rf, tr, e10, e11, e13⟩ := h
  show Tm (fun k => f_X11_round k 0 lZ σ) _
  refine Tm_suc (fun k => by rw [f_X11_round]) ?_
  refine Tm_wr (fun z => ?_) (fun nz => ?_)
  · exact ⟨Or.inr rfl, by show 1 + PhC σ ≤ _; omega, by show 6 + PhS σ ≤ _; omega, IB_k2 (gM := fun k => x_round k 0 (fun _ => 0) τ) h0 hj (fun XE rf => rj_round rf)⟩
  obtain ⟨k0, y1, y2, sz, gl, pr, cc, z1, z2, z3, z4, z5, z6, z7, z8⟩ := IC_r ic nz
  have q3 : uN (σ.1 7513) ≤ 8 := by obtain ⟨n, sz, _, _, ⟨_, _, q⟩, _⟩ := ic; exact q
  have q1 : uN (σ.1 7517) ≤ sN σ 66 := by obtain ⟨n, sz, _, _, ⟨q, _, _⟩, _⟩ := ic; exact q
  have q2 : uN (σ.1 7518) ≤ 2 := by obtain ⟨n, sz, _, _, ⟨_, q, _⟩, _⟩ := ic; exact q
  have h41 : σ.2.2.1 (pR18 (sCur σ)) 41 = 0 := by obtain ⟨n, sz, _, ⟨_, q, _⟩, _⟩ := ic; exact (q _).1
  obtain ⟨V, hV⟩ : ∃ V, uN (σ.1 7513) = V := ⟨_, rfl⟩
  have eV : σ.1 7513 = nI V := u_eq.2 (by rw [hV, u_n (by omega)])
  obtain ⟨g, l, t, mg⟩ := Mst_G z4
  have ro0 : RoI σ 0 0 σ := ⟨⟨fun _ _ _ => rfl, fun _ _ => ⟨rfl, rfl⟩, rfl, ⟨rfl, rfl, rfl⟩⟩, ⟨rfl, rfl, rfl, rfl, rfl, rfl⟩, by omega, by omega⟩
  refine Tm_mono (c_rounds (σ := σ) (V := V) z5 (fun i hi => ev_M (V := uN (σ.1 7513)) z2 h41 (by omega)) eV (by omega) V 0 (by omega) (lI (lI lZ 1 0) 2 0) σ 0 0 g l t rfl ro0 mg) (fun r w => ?_)
  obtain ⟨w1, ⟨w2, ⟨w3, w4, w5, w6, w7, w8⟩, w9, w10⟩, g', l', t', ms⟩ := w
  rw [Nat.zero_add] at w9 w10
  have ic' : IC XE (j + 1) r.2.1 := IC_runN ic hj k0 w2 (w3.trans y1) (by rw [w5, w7]; exact q1) (by rw [w6]; exact q2) ⟨sz, gl, pr, cc, z1, z2, z3, Mst_of ms, by rw [w8]; omega⟩
  refine ⟨Or.inl w1, by show r.2.2.1 + PhC r.2.1 ≤ _; omega, by show r.2.2.2 + PhS r.2.1 ≤ _; omega, ?_⟩
  refine Tm_mono (rj_round rf) (fun q w => ⟨?_, trivial⟩)
  show IB (j + 1) r.2.1 q.2
  exact ⟨XE, ic', w.1, KpT_rel (tRel_s tr (w2.1 3701 (by decide) (by decide)) (w2.2.1 38 (by omega)).1) w.2, by rw [w2.1 7510 (by decide) (by decide), w.2.2.2.1]; exact e10, by rw [w4, w.2.2.2.2]; exact e11, by rw [w2.1 7513 (by decide) (by decide), w.2.2.1]; exact e13⟩
end DZR
end JnS569
section JnS570
/-! The first state, on both sides. -/
theorem CGo_h {M : Nat → Int32} {g : Nat → Prop} {t p : Nat} {H : Int32} (e : M p = H) (h1 : uN H < 2147483648) (h2 : p + hdW (uN H) < t) (h3 : hdK (uN H) = 4 ∨ hdK (uN H) = 5 ∨ hdK (uN H) = 6) (h4 : hdT (uN H) ≤ 30 ∧ 1 ≤ hdS (uN H)) (h5 : hdL (uN H) = 0) (h6 : 5 ≤ hdK (uN H) → 1 ≤ hdT (uN H)) : CGo M g t p := by
  unfold CGo
  rw [e]
  refine ⟨h1, h2, Or.inr h3, h4, fun z => by omega, fun z => ⟨by omega, h6 z, fun i hi => by omega⟩, fun _ _ i hi => by omega⟩
theorem hq_0 : HQ (fun p => p < 3) [] 3 cs0 := by
  refine ⟨rfl, ⟨Nat.le_refl _, by decide⟩, Or.inl ⟨rfl, rfl, rfl⟩, ⟨by decide, by decide, by decide⟩, ⟨rfl, rfl, rfl⟩, rfl, fun p hp => ⟨Or.inl hp, ?_⟩⟩
  have hp' : p < 3 := hp
  have : p = 0 ∨ p = 1 ∨ p = 2 := by omega
  rcases this with rfl | rfl | rfl
  · exact CGo_h (H := 65540) rfl (by decide) (by decide) (by decide) (by decide) (by decide) (by decide)
  · exact CGo_h (H := 67174405) rfl (by decide) (by decide) (by decide) (by decide) (by decide) (by decide)
  · exact CGo_h (H := 67174414) rfl (by decide) (by decide) (by decide) (by decide) (by decide) (by decide)
theorem z_0 {k : Nat} (h : ¬ (k = 3 ∨ k = 67)) (i : Nat) : cs0.2.2.1 k i = 0 := by
  show (if k = 3 then (upd (upd (upd nZ 0 65540) 1 67174405) 2 67174414) else if k = 67 then (nFill (-2147483648) 27 nZ) else nZ) i = 0
  rw [if_neg (by omega), if_neg (by omega)]
theorem fit_0 : fits .byte (.int 0) = true := by decide
theorem by_0 : BY False cs0 := by
  refine ⟨fun i => ?_, fun i => ?_, fun i => ?_, by decide, by decide, fun _ => ⟨rfl, fun z => z.elim⟩⟩
  · rw [z_0 (by decide)]; exact fit_0
  · rw [z_0 (by decide)]; exact fit_0
  · rw [z_0 (by decide)]; exact fit_0
theorem hmx_0 : Hmx cs0 := by
  have g0 : Gv (fun p => p < 3) 0 := Or.inr ⟨by decide, by decide⟩
  refine ⟨fun p => p < 3, [], 3, KN, hq_0, ⟨⟨by decide, by decide⟩, by decide, by decide⟩, fun i hi => ?_, fun i hi => ?_, by decide, fun i hi => hi, fun i j _ _ e => e⟩
  · rw [z_0 (by decide)]
    exact ⟨Or.inl g0, fun _ => g0, fun v e => (by cases e)⟩
  · have e : cs0.2.2.1 67 i = -2147483648 := by
      show nFill (-2147483648) 27 nZ i = _
      exact if_pos hi
    rw [e]
    exact ⟨Or.inl (Gv_om _), fun _ => Gv_om _, fun v e => (by cases e)⟩
theorem f_0 {i : Nat} (h : ¬ (i = 1 ∨ i = 2406)) : cs0.1 i = 0 := by
  show (if i = 1 then (3 : Int32) else if i = 2406 then 256 else 0) = 0
  rw [if_neg (by omega), if_neg (by omega)]
theorem tok_0 : tOK cs0 := by
  unfold tOK
  rw [f_0 (by decide)]
  exact ⟨by decide, by decide +kernel, by decide, by decide +kernel, fun i hi => by rw [z_0 (by decide)]; exact fit_0⟩
theorem gen39 (w : Nat → Int64) : (if (39 : Nat) = 39 then w else (fun _ => 0)) = w := if_pos rfl
theorem lx_0 : cs0.2.2.2.1 39 = lxW := by
  have e : cs0.2.2.2.1 39 = (if (39 : Nat) = 39 then lxW else (fun _ => 0)) := by unfold cs0; with_reducible rfl
  rw [e, gen39]
theorem u_0 : uN (0 : Int32) = 0 := rfl
theorem ic_0 : IC none 0 cs0 := by
  have c1 : CdL (sCur cs0) 0 cs0 := by
    refine ⟨f_0 (by decide), Nat.zero_le _, Or.inr ⟨rfl, rfl⟩⟩
  have b1 : ∀ b, cs0.2.2.1 (pR18 b) 41 = 0 ∧ cs0.2.2.1 (pR14 b) 41 = 0 := fun b => ⟨z_0 (by cases b <;> decide) _, z_0 (by cases b <;> decide) _⟩
  have n1 : sN cs0 41 ≤ 21504 := by decide +kernel
  have n2 : sN cs0 42 = 64 := by decide +kernel
  have tok := tok_0
  have hm := hmx_0
  have byz := by_0
  have a1 : cs0.1 3701 = nI 0 := f_0 (i := 3701) (by decide)
  have a2 : cs0.2.2.2.1 39 = lxW := lx_0
  have a3 : sOt cs0 = !(sCur cs0) := rfl
  have a4 : 2 * 0 + 7 * (0 + 20 * (512 - 0)) ≤ 71682 := by omega
  have a5 : uN (cs0.1 7517) ≤ sN cs0 66 := by rw [f_0 (i := 7517) (by decide), u_0]; exact Nat.zero_le _
  have a6 : uN (cs0.1 7518) ≤ 2 := by rw [f_0 (i := 7518) (by decide), u_0]; omega
  have a7 : uN (cs0.1 7513) ≤ 8 := by rw [f_0 (i := 7513) (by decide), u_0]; omega
  have a8 : cs0.1 7510 = 0 := f_0 (i := 7510) (by decide)
  have a9 : cs0.1 7511 = 0 := f_0 (i := 7511) (by decide)
  have n0 : (0 : Nat) ≤ 20 * 0 := Nat.zero_le _
  generalize cs0 = σ at *
  exact ⟨0, 0, ⟨tok, a1, n0, a2⟩, ⟨a3, b1, n1, Or.inl n2, c1, a4⟩, ⟨a5, a6, a7⟩, ⟨hm, byz⟩, Or.inl ⟨a8, a9, rfl⟩⟩
theorem ib_0 : IB 0 cs0 ms0 := ⟨none, ic_0, rj_0, ⟨rfl, fun i hi => absurd hi (by show ¬ (i : Int) < 0; omega)⟩, ⟨fun _ => rfl, fun _ => rfl⟩, ⟨fun _ => rfl, fun _ => rfl⟩, rfl⟩
theorem ph_0 : PhC cs0 = 14 ∧ PhS cs0 = 550228 := by decide +kernel
end JnS570
section JnS571
/-! What feed and end answer, on both sides (for p2, p3). -/
section DZS
variable {j : Nat} {cs : Nat → Prop} {gC : CS → Nat → Option RS} {gM : MS → Nat → Option (Int32 × MS)} {E : RS → Int32 × MS → Prop}
theorem cPr_E (h : cPr j cs gC gM (fun _ _ => True)) (e : ∀ σ τ, IB j σ τ → Tm (gC σ) (fun r => Tm (gM τ) (fun q => E r q))) : cPr j cs gC gM E := fun σ τ hi => Tm_mono (Tm_and (h σ τ hi) (e σ τ hi)) (fun r z => ⟨z.1.1, z.1.2.1, z.1.2.2.1, Tm_mono (Tm_and z.1.2.2.2 z.2) (fun q w => ⟨w.1.1, w.2⟩)⟩)
theorem hp_endE (hj : j < 512) (a1 : Int32) : cPr j (fun x => x = 0 ∨ x = 1) (fun σ k => f_X11_end k 0 (lI lZ 1 a1) σ) (fun τ k => x_end k 0 (upd (fun _ => 0) 1 a1) τ) (fun r q => q.2.1 2 = wv 1 1 1 r.1.1) := by
  refine cPr_E (hp_end hj a1) (fun σ τ h => ?_)
  obtain ⟨XE, ic, rf, tr, e10, e11, e13⟩ := h
  refine Tm_mono (s_Cend (lI lZ 1 a1) σ) (fun r z => Tm_mono (s_end (upd (fun _ => 0) 1 a1) τ) (fun q w => ?_))
  have e1 : (lI lZ 1 a1).1 1 = a1 := rfl
  have e2 : (upd (fun _ => 0) 1 a1 : Nat → Int32) 1 = a1 := rfl
  rw [e1] at z
  rw [e2, ← tr.1] at w
  by_cases c : ¬ a1 < 0 ∧ a1 ≤ σ.1 3701
  · rw [if_pos c] at z w
    rw [z, w]
    show upd (upd τ.1 2 0) 4 a1 2 = wv 1 1 1 0
    rw [upd_other (by decide), upd_same]
    rfl
  · rw [if_neg c] at z w
    rw [z, w]
    show upd τ.1 2 1 2 = wv 1 1 1 1
    rw [upd_same]
    rfl
theorem hp_feedE (hj : j < 512) (a1 a2 a3 a4 a5 : Int32) : cPr j (fun x => x = 0 ∨ x = 4) (fun σ k => f_X11_feed k 0 (lI (lI (lI (lI (lI lZ 1 a1) 2 a2) 3 a3) 4 a4) 5 a5) σ) (fun τ k => x_feed k 0 (upd (upd (upd (upd (upd (fun _ => 0) 1 a1) 2 a2) 3 a3) 4 a4) 5 a5) τ) (fun r q => q.2.1 2 = wv 4 1 1 r.1.1 ∧ (r.1.1 = 0 → r.1.2 = q.1)) := by
  refine cPr_E (hp_feed hj a1 a2 a3 a4 a5) (fun σ τ h => ?_)
  obtain ⟨XE, ic, rf, tr, e10, e11, e13⟩ := h
  obtain ⟨n, sz, ⟨t1, t2, t3, t4⟩, _⟩ := ic
  have i37 : (σ.1 3701).toInt = n := by rw [t2, n_int (by omega)]
  have e4 : τ.1 4 = nI n := tr.1.symm.trans t2
  have i4 : (τ.1 4).toInt = n := by rw [e4, n_int (by omega)]
  refine Tm_mono (s_Cfeed (lI (lI (lI (lI (lI lZ 1 a1) 2 a2) 3 a3) 4 a4) 5 a5) σ t1) (fun r z => ?_)
  rw [if_pos (by omega)] at z
  obtain ⟨z1, z2⟩ := z
  refine Tm_mono (s_feed _ τ (by omega) (by omega)) (fun q w => ?_)
  rw [if_pos (by omega)] at w
  obtain ⟨w3, w4⟩ := w
  obtain ⟨k1, k2, k3⟩ := mTape_rest (upd τ.1 2 0, τ.2.1, τ.2.2) (upd (upd (upd (upd (upd (fun _ => 0) 1 a1) 2 a2) 3 a3) 4 a4) 5 a5) 20
  have fs := feed_same (τ := τ) (M := upd (upd (upd (upd (upd (fun _ => 0) 1 a1) 2 a2) 3 a3) 4 a4) 5 a5) t1 tr (fun k h1 h2 => by
    have : k = 1 ∨ k = 2 ∨ k = 3 ∨ k = 4 ∨ k = 5 := by omega
    rcases this with rfl | rfl | rfl | rfl | rfl <;> rfl) (by omega) z2
  obtain ⟨row, m, y1, y2⟩ := z2
  have e37 : r.2.1.1 3701 = σ.1 3701 + 20 := by
    rw [y1, tC_len]
    rfl
  refine ⟨?_, fun _ => ?_⟩
  · rw [z1, w3, k2 2 (by decide)]
    show upd τ.1 2 0 2 = wv 4 1 1 0
    rw [upd_same]
    rfl
  · rw [z1, w4, w3, ← fs.1.1, e37]
end DZS
end JnS571
