/-! The class: steps within an instruction. -/
section CST
variable {g g' g2 : Nat → Prop} {l l' l2 : List Nat} {t t' t2 : Nat} {σ σ' σ2 : CS} {L : LV} {x y i : Int32} {M M' U U' : Nat → Int32} {K K' K2 K3 K4 KB : Nat → Option Int32} {c : Ct} {B f0 u0 : Nat} {fs : List FrT} {u d : Nat} {r : List Nat} {pb nf nc sq rk : Nat}
theorem gi_fin (p : Pre c g l t K K2 K3 K4 B KB f0 u0 σ fs u d r pb nf nc sq) (hx : Gv g x) {q : RS} (h : GiO σ x q) (e2 : σ'.2 = q.2.1.2) (ej : ∀ j, ¬ j = 1900 → σ'.1 j = q.2.1.1 j) (nx : NxS c (uN (σ'.1 1900)) u (d + 1) r) (q0 : Nat) : IO c B KB f0 u0 σ (mu σ q0) ((0, 0), σ', (q.2.2.1 + 0, q.2.2.2 + 0)) := by
  obtain ⟨mi, ty, w, h0, bo⟩ := p
  obtain ⟨st1, st2, st3⟩ := mi.2.1.1
  obtain ⟨h1, h2, h3, h4, h5, h7⟩ := h
  have md : Md σ σ' := Md_t (Md_S h3) (Md_pc e2 ej)
  have ts := TyS_sp ty
  have r20 : σ'.2.2.1 20 = q.2.1.2.2.1 20 := by rw [e2]
  have n20 : sN σ' 20 = sN q.2.1 20 := by show σ'.2.2.2.2.1 20 = _; rw [e2]
  have hq : HQ g l t σ' := HQ_fs mi.1 (by rw [ej 1 (by decide)]; exact h4.1) (by rw [e2]; exact h4.2) (fun k hk => by
    show σ'.2.2.2.2.1 k = _
    rw [e2]; exact h3.2.2.2.1.1 k hk)
  have co : CoP σ ((0, 0), σ', (q.2.2.1 + 0, q.2.2.2 + 0)) := by
    have ph := Ph_s (σ := q.2.1) (σ' := σ') (by rw [e2])
    have c1 := h2.1
    have c2 := h2.2
    exact ⟨by show q.2.2.1 + 0 + PhC σ' ≤ _; omega, by show q.2.2.2 + 0 + PhS σ' ≤ _; omega⟩
  have e5 : σ'.1 1902 = q.2.1.1 1902 := ej 1902 (by decide)
  have b := mi.2.2.2.2.2.2.1.2
  have e23 : σ'.2.2.1 23 = σ.2.2.1 23 := by rw [e2, h3.2.2.1 23 (by decide)]
  have r3 : σ'.2.2.1 3 = σ.2.2.1 3 := by rw [e2]; exact h4.2
  have fe : ∀ j, ¬ (j = 1 ∨ j = 404 ∨ j = 1203 ∨ j = 1812 ∨ j = 1813 ∨ j = 1902 ∨ j = 1905 ∨ j = 1900) → σ'.1 j = σ.1 j := fun j hj => (ej j (by omega)).trans (h3.1 j (by omega))
  rcases h7 with ⟨a1, a2, a3, a4, a5⟩ | ⟨a1, a2, a3, a4, a5⟩
  · have kb : ∀ j, j < B → Kw K (uN (σ.1 1902)) 1 none j = KB j := fun j hj => by rw [Kw_o (Or.inl (by omega))]; exact mi.2.2.2.2.2.1 j hj
    have rw1 : Rwk g (σ'.2.2.1 3) (Kw K (uN (σ.1 1902)) 1 none) (σ'.2.2.1 20) (uN (σ'.1 1902)) := by
      rw [e5, a1, r20, r3]
      intro j hj
      rcases Nat.lt_or_ge j (uN (σ.1 1902)) with z | z
      · rw [a3 j z, Kw_o (Or.inl z)]
        exact st3 j z
      · rw [Kw_i z hj, show j = uN (σ.1 1902) from by omega]
        refine Rwn ?_
        rcases a4 with e | e
        · rw [e.1]; exact hx
        · rw [e]; exact Gv_om g
    have v := VI_20 mi.2.1 md e23 ⟨fun _ z => z, fun p _ => by rw [r3]⟩ (by rw [e5, a1, n20]; exact a2) (by rw [n20]; exact h5) rw1
    refine IO_d mi rfl co md hq v kb (by show B ≤ uN (σ'.1 1902); rw [e5, a1]; omega) (fun z => ?_) (fun z => ?_)
    rotate_left
    · rcases a5 with z2 | z2
      · exact Or.inl (by show ¬ σ'.1 1813 = 0; rw [ej 1813 (by decide)]; exact z2.2)
      · exact absurd ((ej 1812 (by decide)).trans (z2.1.trans h0)) z
    have z1 : σ'.1 1812 = 0 := z
    rw [ej 1812 (by decide)] at z1
    rcases a5 with z2 | z2
    · rw [z2.1] at z1
      exact absurd z1 (by decide)
    · have hs : SL (Kw K (uN (σ.1 1902)) 1 none) (uN (σ.1 1901) + 4) (uN (σ'.1 1902)) (d + 1) r := by
        rw [e5, a1]; exact SL_pu 1 ty.1
      have nb : tcF c u ≤ bt (d + 1) r := Nat.le_trans ty.2.2.1 (bt_m d 1 r)
      have w5 := ej 1905 (by decide)
      exact go_s (TyS_k ty ⟨fe 1901 (by decide), fe 1815 (by decide), fe 1811 (by decide), fe 1908 (by decide)⟩ hs (fun p hp => Kw_o (Or.inl (by omega))) nb ty.2.2.2.2.2.2.2.2) (by rw [w5]; exact z2.2.1) (by rw [w5]; exact z2.2.2) (fe 1814 (by decide)) nx q0
  · have hzz : ¬ σ'.1 1812 = 0 → Hz (tcS c u0) σ' := fun _ => Or.inl (by show ¬ σ'.1 1813 = 0; rw [ej 1813 (by decide)]; exact a5.2)
    rcases a4 with e | e
    · obtain ⟨mk, m1, m2⟩ : ∃ mk : Option Int32, (mk = none ∨ mk = some mkC) ∧ (uN (σ.1 1902) - 1 < B → mk = KB (uN (σ.1 1902) - 1)) := by
        rcases bo with w | w
        · exact ⟨none, Or.inl rfl, fun z => absurd z (by omega)⟩
        · exact ⟨KB (uN (σ.1 1902) - 1), by rw [w.1]; exact KH_o _, fun _ => rfl⟩
      have kb : ∀ j, j < B → Kw K (uN (σ.1 1902) - 1) 1 mk j = KB j := by
        intro j hj
        by_cases z : j = uN (σ.1 1902) - 1
        · rw [Kw_i (by omega) (by omega), m2 (by omega), z]
        · rw [Kw_o (by omega)]
          exact mi.2.2.2.2.2.1 j hj
      have rw1 : Rwk g (σ'.2.2.1 3) (Kw K (uN (σ.1 1902) - 1) 1 mk) (σ'.2.2.1 20) (uN (σ'.1 1902)) := by
        rw [e5, a1, r20, r3]
        intro j hj
        by_cases z : j = uN (σ.1 1902) - 1
        · rw [Kw_i (by omega) (by omega), z, e.1]
          rcases m1 with m | m
          · rw [m]; exact Rwn hx
          · rw [m]; exact Rwc (Or.inl hx)
        · rw [Kw_o (by omega), a3 j (by omega)]
          exact st3 j hj
      have v := VI_20 mi.2.1 md e23 ⟨fun _ z => z, fun p _ => by rw [r3]⟩ (by rw [e5, a1, n20]; exact a2) (by rw [n20]; exact h5) rw1
      refine IO_d mi rfl co md hq v kb (by show B ≤ uN (σ'.1 1902); rw [e5, a1]; exact b) (fun z => ?_) hzz
      have z1 : σ'.1 1812 = 0 := z
      rw [ej 1812 (by decide), a5.1] at z1
      exact absurd z1 (by decide)
    · have rw1 : Rwk g (σ'.2.2.1 3) K (σ'.2.2.1 20) (uN (σ'.1 1902)) := by
        rw [e5, a1, r20, r3]
        intro j hj
        by_cases z : j = uN (σ.1 1902) - 1
        · rw [z, e]
          exact st3 _ (by omega)
        · rw [a3 j (by omega)]
          exact st3 j hj
      have v := VI_20 mi.2.1 md e23 ⟨fun _ z => z, fun p _ => by rw [r3]⟩ (by rw [e5, a1, n20]; exact a2) (by rw [n20]; exact h5) rw1
      refine IO_d mi rfl co md hq v mi.2.2.2.2.2.1 (by show B ≤ uN (σ'.1 1902); rw [e5, a1]; exact b) (fun z => ?_) hzz
      have z1 : σ'.1 1812 = 0 := z
      rw [ej 1812 (by decide), a5.1] at z1
      exact absurd z1 (by decide)
/-- a value in the place of the top; then the place was set -/
theorem re_fin (p : Pre c g l t K K2 K3 K4 B KB f0 u0 σ fs u d r pb nf nc sq) (hd : 1 ≤ d) (hx : Gv g x) (h : ReO σ x σ2) (e2 : σ'.2 = σ2.2) (ej : ∀ j, ¬ j = 1900 → σ'.1 j = σ2.1 j) (nx : NxS c (uN (σ'.1 1900)) u d r) (q0 : Nat) : IO c B KB f0 u0 σ (mu σ q0) ((0, 0), σ', (0, 0)) := by
  obtain ⟨mi, ty, w, h0, bo⟩ := p
  obtain ⟨st1, st2, st3⟩ := mi.2.1.1
  obtain ⟨h3, h4, h5, h7⟩ := h
  have md : Md σ σ' := Md_t (Md_S h3) (Md_pc e2 ej)
  have ts := TyS_sp ty
  have sz : σ'.2.2.2 = σ.2.2.2 := by rw [e2]; exact h4.2.2
  have r20 : σ'.2.2.1 20 = σ2.2.2.1 20 := by rw [e2]
  have n20 : sN σ' 20 = sN σ 20 := by show σ'.2.2.2.2.1 20 = _; rw [sz]
  have hq : HQ g l t σ' := HQ_fr mi.1 (by rw [ej 1 (by decide)]; exact h4.1) (by rw [e2]; exact h4.2.1) (by rw [sz])
  have e5 : σ'.1 1902 = σ.1 1902 := (ej 1902 (by decide)).trans h5
  have b := mi.2.2.2.2.2.2.1.2
  have e23 : σ'.2.2.1 23 = σ.2.2.1 23 := by rw [e2, h3.2.2.1 23 (by decide)]
  have r3 : σ'.2.2.1 3 = σ.2.2.1 3 := by rw [e2]; exact h4.2.1
  have fe : ∀ j, ¬ (j = 1 ∨ j = 404 ∨ j = 1203 ∨ j = 1812 ∨ j = 1813 ∨ j = 1902 ∨ j = 1905 ∨ j = 1900) → σ'.1 j = σ.1 j := fun j hj => (ej j (by omega)).trans (h3.1 j (by omega))
  have kt : K (uN (σ.1 1902) - 1) = none := SL_top _ _ _ ty.1 _ (by omega) (by omega)
  have rw1 : Rwk g (σ'.2.2.1 3) K (σ'.2.2.1 20) (uN (σ'.1 1902)) := by
    rw [e5, r20, r3]
    intro j hj
    rcases h7 with ⟨a1, a2⟩ | ⟨a1, a2⟩
    · rw [a1]; exact st3 j hj
    · rw [a1]
      by_cases z : j = uN (σ.1 1902) - 1
      · rw [z, upd_same, kt]
        exact Rwn hx
      · rw [upd_other z]; exact st3 j hj
  have v := VI_20 mi.2.1 md e23 ⟨fun _ z => z, fun p _ => by rw [r3]⟩ (by rw [e5, n20]; exact st1) (by rw [n20]; exact st2) rw1
  refine IO_d mi rfl (CoP_0 (by rw [sz])) md hq v mi.2.2.2.2.2.1 (by show B ≤ uN (σ'.1 1902); rw [e5]; exact b) (fun z => ?_) (fun z => ?_)
  rotate_left
  · rcases h7 with ⟨a1, a2⟩ | ⟨a1, a3, a2 | a2⟩
    · exact Or.inl (by show ¬ σ'.1 1813 = 0; rw [ej 1813 (by decide)]; exact a2.2)
    · exact Or.inl (by show ¬ σ'.1 1813 = 0; rw [ej 1813 (by decide)]; exact a2.2)
    · exact absurd ((ej 1812 (by decide)).trans (a2.1.trans h0)) z
  have z1 : σ'.1 1812 = 0 := z
  rw [ej 1812 (by decide)] at z1
  have go : uN (σ.1 1905) < uN (σ2.1 1905) → uN (σ2.1 1905) ≤ 60000 → ∃ z, RunT c K K4 f0 u0 σ' z ∧ mu σ' z < mu σ q0 := by
    intro g1 g2
    have w5 := ej 1905 (by decide)
    exact go_s (TyS_k ty ⟨fe 1901 (by decide), fe 1815 (by decide), fe 1811 (by decide), fe 1908 (by decide)⟩ (by rw [e5]; exact ty.1) (fun _ _ => rfl) ty.2.2.1 ty.2.2.2.2.2.2.2.2) (by rw [w5]; exact g1) (by rw [w5]; exact g2) (fe 1814 (by decide)) nx q0
  rcases h7 with ⟨a1, a2⟩ | ⟨a1, a3, a2 | a2⟩
  · rw [a2.1] at z1
    exact absurd z1 (by decide)
  · rw [a2.1] at z1
    exact absurd z1 (by decide)
  · exact go a2.2.1 a2.2.2
/-- nothing but fields; it goes on lower -/
theorem fl_fin (p : Pre c g l t K K2 K3 K4 B KB f0 u0 σ fs u d r pb nf nc sq) (e2 : σ'.2 = σ.2) (ej : ∀ j, ¬ j = 1900 → σ'.1 j = σ.1 j) (nx : Nx c (uN (σ'.1 1900)) u d r rk) : IO c B KB f0 u0 σ (mu σ (qv nf sq rk)) ((0, 0), σ', (0, 0)) := by
  obtain ⟨mi, ty, w, h0, bo⟩ := p
  have md := Md_pc e2 ej
  have e5 := ej 1902 (by decide)
  have hq : HQ g l t σ' := HQ_fr mi.1 (ej 1 (by decide)) (by rw [e2]) (by rw [e2])
  have v := VI_20 mi.2.1 md (by rw [e2]) ⟨fun _ z => z, fun p _ => by rw [e2]⟩ (K' := K) (by rw [e5]; show _ ≤ σ'.2.2.2.2.1 20; rw [e2]; exact mi.2.1.1.1) (by show 1024 ≤ σ'.2.2.2.2.1 20 ∧ σ'.2.2.2.2.1 20 ≤ _; rw [e2]; exact mi.2.1.1.2.1) (by rw [e5, e2]; exact mi.2.1.1.2.2)
  refine IO_d mi rfl (CoP_0 (by rw [e2])) md hq v mi.2.2.2.2.2.1 (by show B ≤ uN (σ'.1 1902); rw [e5]; exact mi.2.2.2.2.2.2.1.2) (fun _ => ?_) (fun z => absurd ((ej 1812 (by decide)).trans h0) z)
  exact go_n (TyS_k ty ⟨ej 1901 (by decide), ej 1815 (by decide), ej 1811 (by decide), ej 1908 (by decide)⟩ (by rw [e5]; exact ty.1) (fun _ _ => rfl) ty.2.2.1 ty.2.2.2.2.2.2.2.2) w (ej 1905 (by decide)) (ej 1814 (by decide)) nx
/-- the same, and it halts -/
theorem ha_fin (p : Pre c g l t K K2 K3 K4 B KB f0 u0 σ fs u d r pb nf nc sq) {m : Nat} (e2 : σ'.2 = σ.2) (ej : ∀ j, ¬ (j = 1900 ∨ j = 1812 ∨ j = 1813 ∨ j = 1905) → σ'.1 j = σ.1 j) (h1 : σ'.1 1812 = 1) (h13 : ¬ σ'.1 1813 = 0) : IO c B KB f0 u0 σ m ((0, 0), σ', (0, 0)) := by
  obtain ⟨mi, ty, w, h0, bo⟩ := p
  have md : Md σ σ' := ⟨fun j hj => ej j (by omega), fun _ _ => by rw [e2], fun _ _ => by rw [e2], ⟨fun _ _ => by show σ'.2.2.2.2.1 _ = _; rw [e2], by show _ ≤ σ'.2.2.2.2.1 20; rw [e2]; exact Nat.le_refl _⟩, by rw [e2], by rw [e2]⟩
  have e5 := ej 1902 (by decide)
  have hq : HQ g l t σ' := HQ_fr mi.1 (ej 1 (by decide)) (by rw [e2]) (by rw [e2])
  have v := VI_20 mi.2.1 md (by rw [e2]) ⟨fun _ z => z, fun p _ => by rw [e2]⟩ (K' := K) (by rw [e5]; show _ ≤ σ'.2.2.2.2.1 20; rw [e2]; exact mi.2.1.1.1) (by show 1024 ≤ σ'.2.2.2.2.1 20 ∧ σ'.2.2.2.2.1 20 ≤ _; rw [e2]; exact mi.2.1.1.2.1) (by rw [e5, e2]; exact mi.2.1.1.2.2)
  refine IO_d mi rfl (CoP_0 (by rw [e2])) md hq v mi.2.2.2.2.2.1 (by show B ≤ uN (σ'.1 1902); rw [e5]; exact mi.2.2.2.2.2.2.1.2) (fun z => ?_) (fun _ => Or.inl h13)
  have z1 : σ'.1 1812 = 0 := z
  rw [h1] at z1
  exact absurd z1 (by decide)
theorem f13 {σ : CS} {a : Int32} (h : ¬ a = 0) : ¬ (uI (uI σ 1813 a) 1812 1).1 1813 = 0 := h
/-- places are dropped -/
theorem Pre_dr (p : Pre c g l t K K2 K3 K4 B KB f0 u0 σ fs u d r pb nf nc sq) {d' n : Nat} (e : d = d' + n) (hx : uN x = n) (hb : tcF c u ≤ bt d' r) : Pre c g l t K K2 K3 K4 B KB f0 u0 (uI σ 1902 (σ.1 1902 - x)) fs u d' r pb nf nc sq ∧ uN (σ.1 1902 - x) = uN (σ.1 1902) - n := by
  obtain ⟨mi, ty, w, h0, bo⟩ := p
  subst e
  have ts := TyS_sp ty
  have es : uN (σ.1 1902 - x) = uN (σ.1 1902) - n := by rw [u_sub (by omega), hx]
  have sl := SL_pop _ _ _ _ ty.1
  have sb := (SL_le _ _ _ sl).1
  have e5 : (uI σ 1902 (σ.1 1902 - x)).1 1902 = σ.1 1902 - x := rfl
  have md : Md σ (uI σ 1902 (σ.1 1902 - x)) := Md_i σ (by decide) _
  obtain ⟨st1, st2, st3⟩ := mi.2.1.1
  have v := VI_20 (σ' := uI σ 1902 (σ.1 1902 - x)) mi.2.1 md rfl ⟨fun _ z => z, fun _ _ => rfl⟩ (K' := K) (by rw [e5, es]; show _ ≤ sN σ 20; omega) st2 (by rw [e5, es]; exact fun j hj => st3 j (by omega))
  have ty' : TyS c K K4 f0 u0 (uI σ 1902 (σ.1 1902 - x)) fs u d' r pb nf nc sq := TyS_k (σ' := uI σ 1902 (σ.1 1902 - x)) ty ⟨rfl, rfl, rfl, rfl⟩ (by rw [e5, es]; exact sl) (fun _ _ => rfl) hb ty.2.2.2.2.2.2.2.2
  have bb : B ≤ uN (σ.1 1902) - n := by
    rcases bo with z | z
    · omega
    · have y := TyS_B ty'
      rw [e5, es] at y
      omega
  exact ⟨⟨MIn_d mi md (HQ_fr mi.1 rfl rfl rfl) v mi.2.2.2.2.2.1 (by rw [e5, es]; exact bb), ty', w, h0, bo⟩, es⟩
/-- places given up, whatever they are -/
theorem Pre_dp (p : Pre c g l t K K2 K3 K4 B KB f0 u0 σ fs u d r pb nf nc sq) {d' : Nat} {r' : List Nat} (hd : Drp (uN x) d r d' r') (hb : tcF c u ≤ bt d' r') : Pre c g l t K K2 K3 K4 B KB f0 u0 (uI σ 1902 (σ.1 1902 - x)) fs u d' r' pb nf nc sq ∧ uN (σ.1 1902 - x) = uN (σ.1 1902) - uN x := by
  obtain ⟨mi, ty, w, h0, bo⟩ := p
  have ts := TyS_sp ty
  obtain ⟨hn, sl⟩ := hd.1 _ _ _ ty.1
  have es : uN (σ.1 1902 - x) = uN (σ.1 1902) - uN x := by rw [u_sub (by omega)]
  have sb := (SL_le _ _ _ sl).1
  have e5 : (uI σ 1902 (σ.1 1902 - x)).1 1902 = σ.1 1902 - x := rfl
  have md : Md σ (uI σ 1902 (σ.1 1902 - x)) := Md_i σ (by decide) _
  obtain ⟨st1, st2, st3⟩ := mi.2.1.1
  have v := VI_20 (σ' := uI σ 1902 (σ.1 1902 - x)) mi.2.1 md rfl ⟨fun _ z => z, fun _ _ => rfl⟩ (K' := K) (by rw [e5, es]; show _ ≤ sN σ 20; omega) st2 (by rw [e5, es]; exact fun j hj => st3 j (by omega))
  have ty' : TyS c K K4 f0 u0 (uI σ 1902 (σ.1 1902 - x)) fs u d' r' pb nf nc sq := TyS_k (σ' := uI σ 1902 (σ.1 1902 - x)) ty ⟨rfl, rfl, rfl, rfl⟩ (by rw [e5, es]; exact sl) (fun _ _ => rfl) hb (hd.2 _ _ _ ty.2.2.2.2.2.2.2.2)
  have bb : B ≤ uN (σ.1 1902) - uN x := by
    rcases bo with z | z
    · omega
    · have y := TyS_B ty'
      rw [e5, es] at y
      omega
  exact ⟨⟨MIn_d mi md (HQ_fr mi.1 rfl rfl rfl) v mi.2.2.2.2.2.1 (by rw [e5, es]; exact bb), ty', w, h0, bo⟩, es⟩
/-- what lies in a plain place is a value -/
theorem Ty_v (p : Pre c g l t K K2 K3 K4 B KB f0 u0 σ fs u d r pb nf nc sq) {q : Nat} (h1 : uN (σ.1 1902) ≤ q + d) (h2 : q < uN (σ.1 1902)) : Gv g (σ.2.2.1 20 q) := (p.1.2.1.1.2.2 q h2).2.1 (SL_top _ _ _ p.2.1.1 q h1 h2)
/-- an operator worked -/
theorem Pre_Ga (p : Pre c g l t K K2 K3 K4 B KB f0 u0 σ fs u d r pb nf nc sq) (a : Ga g t σ g' l' t' σ') : Pre c g' l' t' K K2 K3 K4 B KB f0 u0 σ' fs u d r pb nf nc sq := by
  obtain ⟨mi, ty, w, h0, bo⟩ := p
  obtain ⟨a1, a2, a3, a4, a5⟩ := a
  have md : Md σ σ' := Md_S (Sm_A a5)
  obtain ⟨st1, st2, st3⟩ := mi.2.1.1
  have e5 : σ'.1 1902 = σ.1 1902 := a5.1 1902 (by decide)
  have n20 : sN σ' 20 = sN σ 20 := by show σ'.2.2.2.2.1 20 = _; rw [a5.2.2.2]
  have v := VI_20 mi.2.1 md (a5.2.2.1 23 (by decide)) ⟨a2, fun p hp => a3 p (HQ_c mi.1 hp).1⟩ (K' := K) (by rw [e5, n20]; exact st1) (by rw [n20]; exact st2) (by rw [e5, a5.2.2.1 20 (by decide)]; exact Rwk_g st3 ⟨a2, fun p hp => a3 p (HQ_c mi.1 hp).1⟩)
  exact ⟨MIn_d mi md a1 v mi.2.2.2.2.2.1 (by rw [e5]; exact mi.2.2.2.2.2.2.1.2), TyS_k ty ⟨a5.1 1901 (by decide), a5.1 1815 (by decide), a5.1 1811 (by decide), a5.1 1908 (by decide)⟩ (by rw [e5]; exact ty.1) (fun _ _ => rfl) ty.2.2.1 ty.2.2.2.2.2.2.2.2, by rw [a5.1 1905 (by decide)]; exact w, by rw [a5.1 1812 (by decide)]; exact h0, bo⟩
/-- what lies above the stack's top doesn't matter -/
theorem Pre_f (p : Pre c g l t K K2 K3 K4 B KB f0 u0 σ fs u d r pb nf nc sq) {f : Nat → Int32} (hf : ∀ j, j < uN (σ.1 1902) → f j = σ.2.2.1 20 j) : Pre c g l t K K2 K3 K4 B KB f0 u0 (uF σ 20 f) fs u d r pb nf nc sq := by
  obtain ⟨mi, ty, w, h0, bo⟩ := p
  obtain ⟨st1, st2, st3⟩ := mi.2.1.1
  have md : Md σ (uF σ 20 f) := Md_F σ (by decide) f
  have v := VI_20 (σ' := uF σ 20 f) mi.2.1 md rfl ⟨fun _ z => z, fun _ _ => rfl⟩ (K' := K) st1 st2 (fun j hj => by
    have e := hf j hj
    show Gw g (f j) ∧ (K j = none → Gv g (f j)) ∧ ∀ v, K j = some v → (f j = v ∧ Rr v) ∨ (Mkd g (σ.2.2.1 3) v (f j))
    rw [e]; exact st3 j hj)
  exact ⟨MIn_d mi md (HQ_f mi.1 (by decide) f) v mi.2.2.2.2.2.1 mi.2.2.2.2.2.2.1.2, ty, w, h0, bo⟩
/-- fields that don't matter here -/
theorem Pre_i (p : Pre c g l t K K2 K3 K4 B KB f0 u0 σ fs u d r pb nf nc sq) {j : Nat} (hj : j = 1813 ∨ j = 1900 ∨ j = 1816) (x : Int32) : Pre c g l t K K2 K3 K4 B KB f0 u0 (uI σ j x) fs u d r pb nf nc sq := by
  obtain ⟨mi, ty, w, h0, bo⟩ := p
  obtain ⟨st1, st2, st3⟩ := mi.2.1.1
  have md : Md σ (uI σ j x) := Md_i σ (by omega) x
  have e : ∀ i, ¬ i = j → (uI σ j x).1 i = σ.1 i := fun i hi => upd_other hi
  have e5 := e 1902 (by omega)
  have v := VI_20 (σ' := uI σ j x) mi.2.1 md rfl ⟨fun _ z => z, fun _ _ => rfl⟩ (K' := K) (by rw [e5]; exact st1) st2 (by rw [e5]; exact st3)
  exact ⟨MIn_d mi md (HQ_fr mi.1 (e 1 (by omega)) rfl rfl) v mi.2.2.2.2.2.1 (by rw [e5]; exact mi.2.2.2.2.2.2.1.2), TyS_k ty ⟨e 1901 (by omega), e 1815 (by omega), e 1811 (by omega), e 1908 (by omega)⟩ (by rw [e5]; exact ty.1) (fun _ _ => rfl) ty.2.2.1 ty.2.2.2.2.2.2.2.2, by rw [e 1905 (by omega)]; exact w, by rw [e 1812 (by omega)]; exact h0, bo⟩
theorem IO_c {q : RS} {m : Nat} (a : MFr σ σ') (ev : EvF σ σ') (es : σ'.2.2.2.2.1 = σ.2.2.2.2.1) (h : IO c B KB f0 u0 σ' m q) : IO c B KB f0 u0 σ m q := by
  obtain ⟨h1, h2, h3, h4, h5⟩ := h
  have ph := Ph_s es
  exact ⟨h1, ⟨by rw [← ph.1]; exact h2.1, by rw [← ph.2]; exact h2.2⟩, MFr_t a h3, fun n j j1 j2 j3 => (h4 n j j1 j2 j3).trans (ev j j1 j2 j3), h5⟩
/-- behind steps that came first -/
theorem IO_b {q : RS} {m : Nat} (a : Md σ σ') (es : σ'.2.2.2.2.1 = σ.2.2.2.2.1) (h : IO c B KB f0 u0 σ' m q) : IO c B KB f0 u0 σ m q := by
  obtain ⟨h1, h2, h3, h4, h5⟩ := h
  have ph := Ph_s es
  exact ⟨h1, ⟨by rw [← ph.1]; exact h2.1, by rw [← ph.2]; exact h2.2⟩, MFr_t (Md_M a) h3, fun n j j1 j2 j3 => (h4 n j j1 j2 j3).trans (Md_E a j j1 j2 j3), h5⟩
theorem mu_e (e5 : σ'.1 1905 = σ.1 1905) (e4 : σ'.1 1814 = σ.1 1814) (q : Nat) : mu σ' q = mu σ q := by
  unfold mu
  rw [e5, e4]
end CST
