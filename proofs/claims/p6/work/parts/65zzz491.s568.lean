/-! The house: what a round does: room, renewing. -/
section DZQ
variable {σ s s1 σ' : CS} {c : Ct} {g g' : Nat → Prop} {l l' : List Nat} {t t' i p : Nat} {x : Int32} {L : LV}
theorem MsG_ct (h : MsG c g l t σ) : CtL c σ := by
  obtain ⟨_, _, K, K2, K3, K4, mi, _⟩ := h
  exact mi.2.2.1
theorem CtL_r (h : CtL c σ) (e1 : ∀ k, ¬ (k = 65 ∨ k = 67) → s.2.2.1 k = σ.2.2.1 k) (e2 : s.2.2.2 = σ.2.2.2) : CtL c s := by
  obtain ⟨b, h1, h2, h3, h4⟩ := h
  have p0 := pR0_c (sKd σ b)
  have p13 := pR_13 b
  have kd : sKd s = sKd σ := by show s.2.2.2.2.2.1.2.2.2.2 = _; rw [e2]
  refine ⟨b, by show s.2.2.2.2.2.1.2.2.1 = _; rw [e2]; exact h1, by rw [kd, e1 _ (by omega)]; exact h2, by rw [kd]; show s.2.2.2.2.1 _ = _; rw [e2]; exact h3, fun u hu => ?_⟩
  rw [e1 (pR13 b) (by omega), e1 (pR14 b) (by omega), e1 (pR18 b) (by omega)]
  exact h4 u hu
theorem MsG_r (h : MsG c g l t σ) (e0 : s.1 = σ.1) (e0' : s.2.1 = σ.2.1) (e1 : ∀ k, ¬ (k = 65 ∨ k = 67) → s.2.2.1 k = σ.2.2.1 k) (e2 : s.2.2.2 = σ.2.2.2) (h67 : ∀ i, i < 27 → Gv g (s.2.2.1 67 i)) : MsG c g l t s := by
  have nn : sN s = sN σ := by show s.2.2.2.2.1 = _; rw [e2]
  have by0 : BY False s := by
    have b := h.1
    unfold BY at b ⊢
    rw [e1 13 (by decide), e1 22 (by decide), e1 66 (by decide), nn, e0]
    exact b
  exact MsG_xx (c1 := c) (c2 := c) ⟨rfl, rfl, rfl, fun _ _ z => z⟩ ⟨⟨fun j _ _ => by rw [e0], fun j _ => by rw [e0']⟩, fun k hk => ⟨e1 k (by omega), by rw [nn]⟩, by rw [e2]⟩ (CtL_r (MsG_ct h) e1 e2) by0 h67 h
theorem MsG_67 (h : MsG c g l t σ) (hx : Gv g x) : MsG c g l t (uA σ 67 i x) := by
  refine MsG_r h rfl rfl (fun k hk => uA_k (by omega)) rfl (fun k hk => ?_)
  rw [uA_r]
  by_cases e : k = i
  · rw [e, upd_same]; exact hx
  · rw [upd_other e]; exact (MsG_v h).2 k hk
theorem MsG_65 (h : MsG c g l t σ) : MsG c g l t (uA σ 65 i x) := by
  refine MsG_r h rfl rfl (fun k hk => uA_k (by omega)) rfl (fun k hk => ?_)
  rw [uA_k (by decide)]
  exact (MsG_v h).2 k hk
theorem c_room (h : MsG c g l t σ) : Tm (fun k => f_X3_makeRoom k 0 L σ) (fun r => r.1.1 = 0 ∧ CoP σ r ∧ RmF σ r.2.1 ∧ ∃ (g' : Nat → Prop) (l' : List Nat) (t' : Nat), MsG c g' l' t' r.2.1) := by
  obtain ⟨by0, sp, K, K2, K3, K4, mi, rn⟩ := h
  refine Tm_mono (Tm_Bf (c_makeRoom mi.1 mi.2.1) (fun k => kb_f_X3_makeRoom k 0 L σ by0)) (fun r z => ?_)
  obtain ⟨rm, by1⟩ := z
  obtain ⟨g', l', t', mi'⟩ := MIn_rm mi rm
  obtain ⟨z1, z2, z3, _⟩ := rm
  have e : ∀ j, ¬ (j = 1 ∨ j = 2403 ∨ j = 2404 ∨ j = 2405) → r.2.1.1 j = σ.1 j := z3.1.1
  refine ⟨by rw [z1], z2, z3, g', l', t', by1, by rw [e 1902 (by decide)]; exact sp, K, K2, K3, K4, mi', fun z => ?_⟩
  rw [e 1907 (by decide)] at z
  rw [e 1905 (by decide), e 1900 (by decide), e 1901 (by decide), e 1902 (by decide), e 1908 (by decide)]
  exact rn z
theorem MsG_Ga (h : MsG c g l t σ) (a : Ga g t σ g' l' t' σ') (by0 : BY False σ') : MsG c g' l' t' σ' := by
  obtain ⟨_, sp, K, K2, K3, K4, mi, rn⟩ := h
  have e := a.2.2.2.2.1
  refine ⟨by0, by rw [e 1902 (by decide)]; exact sp, K, K2, K3, K4, (MIn_Ga mi a).1, fun z => ?_⟩
  rw [e 1907 (by decide)] at z
  rw [e 1905 (by decide), e 1900 (by decide), e 1901 (by decide), e 1902 (by decide), e 1908 (by decide)]
  exact rn z
/-- what renewing leaves -/
def RnF (σ s : CS) : Prop := (∀ j, ¬ (j = 1 ∨ j = 404 ∨ j = 1203) → s.1 j = σ.1 j) ∧ s.2.1 = σ.2.1 ∧ (∀ k, ¬ (k = 3 ∨ (5 ≤ k ∧ k ≤ 11) ∨ k = 13 ∨ (15 ≤ k ∧ k ≤ 17) ∨ k = 67) → s.2.2.1 k = σ.2.2.1 k) ∧ s.2.2.2 = σ.2.2.2
theorem RnF_t (a : RnF σ s) (d : RnF s s1) : RnF σ s1 := ⟨fun j hj => (d.1 j hj).trans (a.1 j hj), d.2.1.trans a.2.1, fun k hk => (d.2.2.1 k hk).trans (a.2.2.1 k hk), d.2.2.2.trans a.2.2.2⟩
theorem RnF_r (σ : CS) : RnF σ σ := ⟨fun _ _ => rfl, rfl, fun _ _ => rfl, rfl⟩
theorem RnF_u : RnF σ (uA σ 67 i x) := ⟨fun _ _ => rfl, rfl, fun k hk => uA_k (by omega), rfl⟩
theorem RnF_a (a : AWf σ s) : RnF σ s := ⟨a.1, a.2.1, fun k hk => a.2.2.1 k (by omega), a.2.2.2⟩
def RnP (c : Ct) (σ : CS) (r : Int32 × CS) : Prop := RnF σ r.2 ∧ ∃ (g : Nat → Prop) (l : List Nat) (t : Nat), MsG c g l t r.2
theorem c_renew (h : MsG c g l t σ) (h1 : L.1 1 = nI p) (hp : p ≤ 24) : Tm (fun k => y_X11_renew k 0 L σ) (RnP c σ) := by
  obtain ⟨hq, hv⟩ := MsG_v h
  have ix : ∀ d, d ≤ 2 → ¬ (nI p + nI d < 0 ∨ 27 ≤ (nI p + nI d).toNatClampNeg) := fun d hd => by rw [n_add (by omega)]; exact n_in (by omega) (by omega)
  have ix0 : ¬ (nI p < 0 ∨ 27 ≤ (nI p).toNatClampNeg) := n_in (by omega) (by omega)
  have b8 : ∀ (L' : LV) (s : CS), (L'.1 4 = 0 ∨ L'.1 4 = 1) → RnP c σ (L'.1 4, s) → Tm (fun k => y_X11_renew k 8 L' s) (RnP c σ) := fun L' s h4 hr => by
    refine Tm_suc (fun k => by rw [y_X11_renew]) ?_
    exact Tm_chk h4 (Tm_some hr)
  have b4 : ∀ (L' : LV), (L'.1 4 = 0 ∨ L'.1 4 = 1) → L'.1 1 = nI p → Gv g (L'.1 2) → Gv g (L'.1 3) → Tm (fun k => y_X11_renew k 4 L' σ) (RnP c σ) := fun L' h4 h1' h2 h3 => by
    refine Tm_suc (fun k => by rw [y_X11_renew]) ?_
    rw [h1']
    refine Tm_chk ix0 ?_
    refine Tm_ite (fun c4 => ?_) (fun c4 => ?_)
    · refine Tm_chk (ix 1 (by omega)) (Tm_chk (ix 2 (by omega)) ?_)
      refine Tm_suc (fun k => by rw [y_X11_renew]) ?_
      have g2 : Gv g 2 := Or.inr ⟨by decide, by have := hq.2.2.2.1.2.2; exact this⟩
      refine b8 _ _ h4 ⟨RnF_t RnF_u (RnF_t RnF_u RnF_u), g, l, t, MsG_67 (MsG_67 (MsG_67 h h3) g2) g2⟩
    · refine Tm_suc (fun k => by rw [y_X11_renew]) ?_
      have m1 : MsG c g l t (uA σ 67 (nI p).toNatClampNeg (L'.1 3)) := MsG_67 h h3
      refine Tm_ite (fun c5 => ?_) (fun c5 => ?_)
      · refine Tm_suc (fun k => by rw [y_X11_renew]) ?_
        refine Tm_chk (by show ¬ (L'.1 1 + 1 < 0 ∨ 27 ≤ (L'.1 1 + 1).toNatClampNeg); rw [h1']; exact ix 1 (by omega)) (Tm_chk (by show ¬ (L'.1 1 + 2 < 0 ∨ 27 ≤ (L'.1 1 + 2).toNatClampNeg); rw [h1']; exact ix 2 (by omega)) ?_)
        exact b8 _ _ h4 ⟨RnF_t RnF_u (RnF_t RnF_u RnF_u), g, l, t, MsG_67 (MsG_67 m1 h3) h2⟩
      · refine Tm_oc (Tm_By (c_binary (L := lI (lI (lI lZ 1 129) 2 (L'.1 3)) 3 (L'.1 2)) (MsG_v m1).1 h3 h2) (fun k => kb_y_X0_binary k 0 _ _ m1.1)) (fun r2 z2 => ?_)
        obtain ⟨⟨g', l', t', ga, gv⟩, by2⟩ := z2
        have m2 := MsG_Ga m1 ga by2
        have gv' : Gv g' r2.1 := gv.elim id Gv_rw
        have m3 : MsG c g' l' t' (uA r2.2 67 (L'.1 1 + 1).toNatClampNeg r2.1) := MsG_67 m2 gv'
        refine Tm_chk (by show ¬ (L'.1 1 + 1 < 0 ∨ 27 ≤ (L'.1 1 + 1).toNatClampNeg); rw [h1']; exact ix 1 (by omega)) ?_
        refine Tm_oc (Tm_By (c_binary (L := lI (lI (lI lZ 1 129) 2 (L'.1 2)) 3 (L'.1 3)) (MsG_v m3).1 (Gv_sg h2 ga.2.1) (Gv_sg h3 ga.2.1)) (fun k => kb_y_X0_binary k 0 _ _ m3.1)) (fun r4 z4 => ?_)
        obtain ⟨⟨g2, l2, t2, ga2, gv2⟩, by4⟩ := z4
        have m4 := MsG_Ga m3 ga2 by4
        refine Tm_chk (by show ¬ (L'.1 1 + 2 < 0 ∨ 27 ≤ (L'.1 1 + 2).toNatClampNeg); rw [h1']; exact ix 2 (by omega)) ?_
        exact b8 _ _ h4 ⟨RnF_t RnF_u (RnF_t (RnF_a ga.2.2.2.2) (RnF_t RnF_u (RnF_t (RnF_a ga2.2.2.2.2) RnF_u))), g2, l2, t2, MsG_67 m4 (gv2.elim id Gv_rw)⟩
  have b2 : ∀ (L' : LV), (L'.1 100 = 0 ∨ L'.1 100 = 1) → L'.1 1 = nI p → Gv g (L'.1 2) → Gv g (L'.1 3) → Tm (fun k => y_X11_renew k 2 L' σ) (RnP c σ) := fun L' h4 h1' h2 h3 => by
    have b3 : ∀ L2 : LV, (L2.1 4 = 0 ∨ L2.1 4 = 1) → L2.1 1 = nI p → Gv g (L2.1 2) → Gv g (L2.1 3) → Tm (fun k => y_X11_renew k 3 L2 σ) (RnP c σ) := fun L2 k4 k1 k2 k3 => by
      refine Tm_suc (fun k => by rw [y_X11_renew]) ?_
      exact b4 _ k4 k1 k2 k3
    refine Tm_suc (fun k => by rw [y_X11_renew]) ?_
    refine Tm_oc (c_kind (L := lI lZ 1 (L'.1 2)) hq h2) (fun r1 z1 => ?_)
    rw [z1]
    refine Tm_ite (fun _ => ?_) (fun _ => ?_)
    · refine Tm_oc (c_kind (L := lI lZ 1 (L'.1 3)) hq h3) (fun r3 z3 => ?_)
      rw [z3]
      refine Tm_ite (fun _ => ?_) (fun _ => ?_)
      · exact b4 _ h4 h1' h2 h3
      · exact b3 _ h4 h1' h2 h3
    · exact b3 _ h4 h1' h2 h3
  refine Tm_suc (fun k => by rw [y_X11_renew]) ?_
  rw [h1]
  refine Tm_chk ix0 (Tm_chk (by decide) ?_)
  have v1 : Gv g (σ.2.2.1 67 (nI p).toNatClampNeg) := by rw [n_cl (p := p) (by omega)]; exact hv p (by omega)
  have v2 : Gv g (σ.2.2.1 67 (2 : Int32).toNatClampNeg) := hv 2 (by decide)
  refine Tm_oc (c_same (L := lI (lI lZ 1 (σ.2.2.1 67 (nI p).toNatClampNeg)) 2 (σ.2.2.1 67 (2 : Int32).toNatClampNeg)) hq v1 v2) (fun r3 z3 => ?_)
  rw [z3.1]
  refine Tm_ite (fun _ => ?_) (fun _ => ?_)
  · exact b2 _ (Or.inr rfl) h1 v1 v2
  · refine Tm_suc (fun k => by rw [y_X11_renew]) ?_
    exact b2 _ (Or.inl rfl) h1 v1 v2
end DZQ
