/-! The class: addNear, save, BEGIN. -/
section CUE
variable {g g' g2 : Nat → Prop} {l l' l2 : List Nat} {t t' t2 : Nat} {σ σ' σ2 τ τ' φ : CS} {L : LV} {x y z i : Int32} {M M' U U' : Nat → Int32} {K K' K0 K2 K2' K3 K3' K4 K4' KB : Nat → Option Int32} {c : Ct} {B f0 u0 a T : Nat} {fs : List FrT} {u d : Nat} {r r' : List Nat} {pb nf nc sq rk : Nat}
/-- the near one -/
theorem Sv_nr {q : RS} (so : StO σ 8 q) (sv : SV8 c g K3 σ) (rn : RnO c K K2 σ) (r20 : Rwk g (σ.2.2.1 3) K (σ.2.2.1 20) (uN (σ.1 1902))) (r21 : Rwk g (σ.2.2.1 3) K2 (σ.2.2.1 21) (uN (σ.1 1913))) (hb : uN (σ.1 1903) ≤ 10240000) (hs : uN (σ.1 2403) + uN (σ.1 1902) + uN (σ.1 1913) ≤ 20000) (h5 : ¬ σ.1 2405 = 0) : SVK c (K9 K3 K K2 (uN (σ.1 2403)) (uN (σ.1 1902))) q.2.1 ∧ uN (usI q.2.1) ≤ sN q.2.1 26 ∧ sN q.2.1 26 ≤ 20000 ∧ Rwk g (q.2.1.2.2.1 3) (K9 K3 K K2 (uN (σ.1 2403)) (uN (σ.1 1902))) (q.2.1.2.2.1 26) (uN (usI q.2.1)) := by
  have sn := St_n (K3 := K3) so rn
  have sw := St_w so sv.2.2.2.2.1 r20 r21
  have so0 := so
  obtain ⟨s1, s2, sf, s4, s5, s6, s7, s8, s9, s10, s11, s12⟩ := so
  obtain ⟨⟨h1, h2, h3⟩, a1, a2, a3, a4, a5⟩ := sv
  have pa := a1 8 (by decide)
  have e4 := s4 2404 (by decide) (by decide)
  have e3 := s4 2403 (by decide) (by decide)
  have e5 := s4 2405 (by decide) (by decide)
  have e7 := s4 2407 (by decide) (by decide)
  have e27a : uN (q.2.1.2.2.1 27 8) = uN (σ.1 2403) := by rw [s6, upd_same]
  have e27 : ∀ i, ¬ i = 8 → uN (q.2.1.2.2.1 27 i) = uN (σ.2.2.1 27 i) := fun i hi => by rw [s6, upd_other hi]
  have eo : ∀ i, i < 9 → ¬ i = 8 → en8 q.2.1 i = en8 σ i ∧ bg8 q.2.1 i = bg8 σ i := fun i hi ne => by
    have p9 := a1 i hi
    have np : ¬ sPi σ i = sPi σ 8 := fun z => ne (a2 i 8 hi (by decide) z)
    unfold en8 bg8
    rw [e27 i ne, s5, s7 _ _ p9 np (by decide), s7 _ _ p9 np (by decide), s7 _ _ p9 np (by decide)]
    exact ⟨rfl, rfl⟩
  have t2' : q.2.1.1 (100 * (28 + sPi σ 8) + 2) = σ.1 1902 := s8 2 (by decide)
  have t13 : q.2.1.1 (100 * (28 + sPi σ 8) + 13) = σ.1 1913 := s8 13 (by decide)
  have t3' : q.2.1.1 (100 * (28 + sPi σ 8) + 3) = σ.1 1903 := s8 3 (by decide)
  have us : uN (usI q.2.1) = uN (σ.1 2403) + uN (σ.1 1902) + uN (σ.1 1913) := by
    unfold usI
    rw [e5, if_neg h5, s5, t2', t13, e3, u_add (by rw [u_add (by omega)]; omega), u_add (by omega)]
  refine ⟨⟨⟨⟨by rw [e4]; exact h1, by rw [e3]; omega⟩, fun i hi => ?_, fun _ => by rw [s5, t3']; exact hb⟩, fun i hi => by rw [s5]; exact a1 i hi, fun i j hi hj z => a2 i j hi hj (by rw [s5, s5] at z; exact z), fun i hi => ?_, fun _ => ?_⟩, by rw [us]; exact s9.1, s9.2, by rw [us]; exact sw⟩
  · rw [e4] at hi
    have z := a5 i hi
    have o := (eo i (by omega) (by omega)).2
    have o' : uN (q.2.1.1 (100 * (28 + sPi q.2.1 i) + 3)) = bg8 σ i := o
    rw [o', e7]
    refine ⟨z.1, z.2.1, fun k k1 k2 => ?_⟩
    rw [e4] at k2
    have ok' : uN (q.2.1.1 (100 * (28 + sPi q.2.1 k) + 3)) = bg8 σ k := (eo k (by omega) (by omega)).2
    rw [ok']
    exact z.2.2 k k1 k2
  · rw [e4] at hi
    have z := a3 i hi
    have o : uN (q.2.1.2.2.1 27 i) + uN (q.2.1.1 (100 * (28 + sPi q.2.1 i) + 2)) + uN (q.2.1.1 (100 * (28 + sPi q.2.1 i) + 13)) = en8 σ i := (eo i (by omega) (by omega)).1
    rw [o, e3]
    refine ⟨?_, z.2.1, fun k k1 k2 => ?_⟩
    · rw [s5, e27 i (by omega)]
      exact St_o so0 (by decide) (by omega) (by omega) a1 a2 z.1 z.2.1
    · rw [e4] at k2
      rw [e27 k (by omega)]
      exact z.2.2 k k1 k2
  · rw [s5, t2', t13, e3, e27a]
    exact ⟨sn, rfl, hs⟩
theorem c_addNear (mi : MIn c g l t K K2 K3 K4 B KB σ) (rn : RnO c K K2 σ) : Tm (fun k => f_X9_addNear__a19__z20__z21 k 0 L σ) (AdQ c g l t K K2 K4 B KB σ) := by
  have hb : uN (σ.1 1903) ≤ 10240000 := by have := mi.2.2.2.2.2.2.2.1; omega
  obtain ⟨st1, st2, st3⟩ := mi.2.1.1
  obtain ⟨pt1, pt2, pt3⟩ := mi.2.1.2.2.1
  have sv := SV8_of mi
  have v1 := sv.1
  have e2 : uN (20000 : Int32) = 20000 := rfl
  have es1 : uN (σ.1 2403 + σ.1 1902 + σ.1 1913) = uN (σ.1 2403) + uN (σ.1 1902) + uN (σ.1 1913) := by rw [u_add (by rw [u_add (by omega)]; omega), u_add (by omega)]
  have svx : ∀ x, SV8 c g K3 (uI σ 2405 x) := fun x => SV8_e sv (fun j hj => uI_o (by omega)) rfl (by rw [uI_o (by decide)]; exact Nat.le_refl _)
  refine Tm_suc (fun k => by rw [f_X9_addNear__a19__z20__z21]) ?_
  refine Tm_ite (fun cc => ?_) (fun cc => ?_)
  · refine Tm_suc (fun k => by rw [f_X9_addNear__a19__z20__z21]) ?_
    refine Tm_suc (fun k => by rw [f_X9_addNear__a19__z20__z21]) ?_
    refine Tm_chk (Or.inl rfl) ?_
    refine Tm_yes rfl ?_
    refine Tm_suc (fun k => by rw [f_X9_addNear__a19__z20__z21]) ?_
    exact Tm_some ⟨rfl, CoP_0 rfl, SvF_i σ (by decide) _, K3, MIn_8 mi (SvF_i σ (by decide) _) (svx _) uI_s⟩
  · rw [u_ltn (by decide) (by omega), es1, e2] at cc
    refine Tm_suc (fun k => by rw [f_X9_addNear__a19__z20__z21]) ?_
    refine Tm_chk (Or.inr rfl) ?_
    refine Tm_no (by show ¬ (1 : Int32) = 0; decide) ?_
    have sf := SvF_i σ (j := 2405) (by decide) 1
    have o : ∀ j, ¬ j = 2405 → (uI σ 2405 1).1 j = σ.1 j := fun j hj => uI_o hj
    refine Tm_oxc (c_store (σ := uI σ 2405 1) (a := 8) (by rw [o 2403 (by decide)]; exact v1.2.1) v1.2.2 (by rw [o 1902 (by decide)]; exact st1) st2.2 (by rw [o 1913 (by decide)]; exact pt1) pt2 (by rw [o 2403 (by decide), o 1902 (by decide), o 1913 (by decide)]; omega) (by decide) rfl (sv.2.1 8 (by decide))) (fun r s => by rw [s.1]) (fun q so => ?_)
    have nr := Sv_nr so (svx 1) (RnO_e rn sf) (by rw [o 1902 (by decide)]; exact st3) (by rw [o 1913 (by decide)]; exact pt3) (by rw [o 1903 (by decide)]; exact hb) (by rw [o 2403 (by decide), o 1902 (by decide), o 1913 (by decide)]; omega) (by rw [uI_s]; decide)
    have c1 := so.2.1.1
    have c2 := so.2.1.2
    have ph := Ph_s (σ := σ) (σ' := uI σ 2405 1) rfl
    have sf2 := SvF_t sf so.2.2.1
    refine Tm_suc (fun k => by rw [f_X9_addNear__a19__z20__z21]) ?_
    exact Tm_some ⟨rfl, ⟨by show q.2.2.1 + 0 + PhC q.2.1 ≤ _; omega, by show q.2.2.2 + 0 + PhS q.2.1 ≤ _; omega⟩, sf2, _, MIn_9 mi sf2 nr.1 nr.2⟩
theorem c_save (mi : MIn c g l t K K2 K3 K4 B KB σ) (rn : RnO c K K2 (uI σ 1900 (L.1 1))) : Tm (fun k => f_X3_save k 0 L σ) (AdQ c g l t K K2 K4 B KB σ) := by
  have mb := mi.2.2.2.2.2.2.1.2
  have m1 : MIn c g l t K K2 K3 K4 B KB (uI σ 1900 (L.1 1)) := (MIn_fl (σ' := uI σ 1900 (L.1 1)) mi rfl (fun j hj => uI_o (by omega)) (by rw [uI_o (by decide)]; exact mb) (by rw [uI_o (by decide)]; exact Nat.le_refl _)).1
  have ph0 := Ph_s (σ := σ) (σ' := uI σ 1900 (L.1 1)) rfl
  have b2 : ∀ (τ : CS) (L' : LV) (K5 : Nat → Option Int32) (n1 n2 : Nat), SvF (uI σ 1900 (L.1 1)) τ → MIn c g l t K K2 K5 K4 B KB τ → L'.1 2 = σ.1 1900 → n1 + PhC τ ≤ PhC σ → n2 + PhS τ ≤ PhS σ → Tm (fun k => f_X3_save k 2 L' τ) (fun q => AdQ c g l t K K2 K4 B KB σ (q.1, q.2.1, (n1 + q.2.2.1, n2 + q.2.2.2))) := by
    intro τ L' K5 n1 n2 sf m l2 k1 k2
    have mt := (MIn_fl (σ' := uI τ 1900 (σ.1 1900)) m rfl (fun j hj => uI_o (by omega)) (by rw [uI_o (by decide)]; exact m.2.2.2.2.2.2.1.2) (by rw [uI_o (by decide)]; exact Nat.le_refl _)).1
    have ph := Ph_s (σ := τ) (σ' := uI τ 1900 (σ.1 1900)) rfl
    refine Tm_suc (fun k => by rw [f_X3_save]) ?_
    rw [l2]
    refine Tm_some ⟨rfl, ⟨by show n1 + 0 + PhC (uI τ 1900 (σ.1 1900)) ≤ _; omega, by show n2 + 0 + PhS (uI τ 1900 (σ.1 1900)) ≤ _; omega⟩, ⟨fun j hj => ?_, sf.2.1, sf.2.2.1, sf.2.2.2.1, sf.2.2.2.2.1, sf.2.2.2.2.2⟩, K5, mt⟩
    show (uI τ 1900 (σ.1 1900)).1 j = σ.1 j
    by_cases e : j = 1900
    · rw [e, uI_s]
    · rw [uI_o e, sf.1 j hj, uI_o e]
  have b1 : ∀ (τ : CS) (L' : LV) (K5 : Nat → Option Int32) (n1 n2 : Nat), SvF (uI σ 1900 (L.1 1)) τ → MIn c g l t K K2 K5 K4 B KB τ → L'.1 2 = σ.1 1900 → n1 + PhC τ ≤ PhC σ → n2 + PhS τ ≤ PhS σ → Tm (fun k => f_X3_save k 1 L' τ) (fun q => AdQ c g l t K K2 K4 B KB σ (q.1, q.2.1, (n1 + q.2.2.1, n2 + q.2.2.2))) := by
    intro τ L' K5 n1 n2 sf m l2 k1 k2
    refine Tm_suc (fun k => by rw [f_X3_save]) ?_
    refine Tm_ite (fun _ => ?_) (fun _ => b2 _ _ _ _ _ sf m l2 k1 k2)
    refine Tm_oxk (Q := AdQ c g l t K K2 K4 B KB σ) (c_addNear m (RnO_e rn sf)) (fun q z => by rw [z.1]) (fun q z => ?_)
    obtain ⟨z1, z2, z3, K6, z4⟩ := z
    have c1 := z2.1
    have c2 := z2.2
    exact b2 _ _ _ _ _ (SvF_t sf z3) z4 l2 (by omega) (by omega)
  have b1' : ∀ (τ : CS) (L' : LV) (K5 : Nat → Option Int32), SvF (uI σ 1900 (L.1 1)) τ → MIn c g l t K K2 K5 K4 B KB τ → L'.1 2 = σ.1 1900 → PhC τ ≤ PhC σ → PhS τ ≤ PhS σ → Tm (fun k => f_X3_save k 1 L' τ) (AdQ c g l t K K2 K4 B KB σ) := by
    intro τ L' K5 sf m l2 k1 k2
    refine Tm_mono (b1 τ L' K5 0 0 sf m l2 (by omega) (by omega)) (fun q z => ⟨z.1, ⟨?_, ?_⟩, z.2.2⟩)
    · have z1 : 0 + q.2.2.1 + PhC q.2.1 ≤ PhC σ := z.2.1.1
      omega
    · have z1 : 0 + q.2.2.2 + PhS q.2.1 ≤ PhS σ := z.2.1.2
      omega
  refine Tm_suc (fun k => by rw [f_X3_save]) ?_
  refine Tm_ite (fun c7 => ?_) (fun _ => b1' _ _ _ (SvF_r _) m1 rfl (by omega) (by omega))
  refine Tm_oxc (c_add m1 rn c7) (fun q z => by rw [z.1]) (fun q z => ?_)
  obtain ⟨z1, z2, z3, K6, z4⟩ := z
  have c1 := z2.1
  have c2 := z2.2
  exact b1 _ _ _ _ _ z3 z4 rfl (by omega) (by omega)
theorem c_beginS : Tm (fun k => y_X3_beginStatement k 0 L σ) (fun q => (σ.1 1814 = 0 ∧ q.2 = uI (uI σ 1900 (L.1 2)) 1812 1) ∨ (¬ σ.1 1814 = 0 ∧ q.2 = uI (uI (uI (uI σ 1814 (σ.1 1814 - 1)) 1903 (σ.1 1903 + 1)) 1904 (L.1 1)) 1905 0)) := by
  refine Tm_suc (fun k => by rw [y_X3_beginStatement]) ?_
  refine Tm_ite (fun c0 => Tm_some (Or.inl ⟨c0, rfl⟩)) (fun c0 => ?_)
  refine Tm_suc (fun k => by rw [y_X3_beginStatement]) ?_
  refine Tm_suc (fun k => by rw [y_X3_beginStatement]) ?_
  refine Tm_some (Or.inr ⟨c0, ?_⟩)
  show uI (uI (uI (uI σ 1814 (σ.1 1814 - 1)) 1903 ((uI σ 1814 (σ.1 1814 - 1)).1 1903 + 1)) 1904 (L.1 1)) 1905 0 = _
  rw [uI_o (by decide)]
/-- it stands: at a statement, or behind an asked exp -/
def Sd (c : Ct) (B : Nat) (KB : Nat → Option Int32) (f0 u0 : Nat) (σ : CS) (r : RS) : Prop := r.1 = (0, 0) ∧ CoP σ r ∧ MFr σ r.2.1 ∧ (¬ tcS c u0 → EvF σ r.2.1) ∧ ∃ (g : Nat → Prop) (l : List Nat) (t : Nat) (K K2 K3 K4 : Nat → Option Int32), MIn c g l t K K2 K3 K4 B KB r.2.1 ∧ r.2.1.1 1812 = 1 ∧ ((tcS c u0 ∧ uN (r.2.1.1 1905) ≤ 60000 ∧ RUN c K (uN (r.2.1.1 1900)) (uN (r.2.1.1 1901)) (uN (r.2.1.1 1902)) (uN (r.2.1.1 1908)) 0) ∨ (u0 = 41 ∧ f0 + 4 < uN (r.2.1.1 1902) ∧ Gv g (r.2.1.2.2.1 20 (uN (r.2.1.1 1902) - 1))))
end CUE
