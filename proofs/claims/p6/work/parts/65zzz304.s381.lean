/-! The class: how an instruction ends. -/
section CSS
variable {g g' g2 : Nat → Prop} {l l' l2 : List Nat} {t t' t2 : Nat} {σ σ' σ2 : CS} {L : LV} {x y i : Int32} {M M' U U' : Nat → Int32} {K K' K2 K3 K4 KB : Nat → Option Int32} {c : Ct} {B f0 u0 : Nat} {fs : List FrT} {u d : Nat} {r : List Nat} {pb nf nc sq rk : Nat}
/-- what is left in a statement -/
def qv (nf sq rk : Nat) : Nat := (20 - nf) * (RK + 1) + sq + rk
theorem bt_m (d n : Nat) : ∀ r : List Nat, bt d r ≤ bt (d + n) r
  | [] => by show d ≤ d + n; omega
  | e :: r => Nat.le_refl _
/-- before an instruction (its place is behind it already) -/
def Pre (c : Ct) (g : Nat → Prop) (l : List Nat) (t : Nat) (K K2 K3 K4 : Nat → Option Int32) (B : Nat) (KB : Nat → Option Int32) (f0 u0 : Nat) (σ : CS) (fs : List FrT) (u d : Nat) (r : List Nat) (pb nf nc sq : Nat) : Prop := MIn c g l t K K2 K3 K4 B KB σ ∧ TyS c K K4 f0 u0 σ fs u d r pb nf nc sq ∧ uN (σ.1 1905) ≤ 60000 ∧ σ.1 1812 = 0 ∧ ((B ≤ f0 + 3 ∧ ∀ j, j < 4 + tcF c 0 → KB j = KH j) ∨ ((∀ j, KB j = KH j) ∧ B ≤ f0 + 4 + tcF c u0))
theorem TyS_sp (h : TyS c K K4 f0 u0 σ fs u d r pb nf nc sq) : uN (σ.1 1901) + 4 + d ≤ uN (σ.1 1902) ∧ uN (σ.1 1901) + 4 + bt d r ≤ uN (σ.1 1902) ∧ f0 ≤ uN (σ.1 1901) := by
  have a := SL_le _ _ _ h.1
  have b := FC_f0 _ _ _ _ _ _ _ h.2.1
  exact ⟨by omega, by omega, b.1⟩
theorem TyS_B (h : TyS c K K4 f0 u0 σ fs u d r pb nf nc sq) : f0 + 4 + tcF c u0 ≤ uN (σ.1 1902) := by
  have a := SL_le _ _ _ h.1
  have b := h.2.2.1
  rcases FC_B _ _ _ _ _ _ _ h.2.1 with e | e
  · rw [← e.1, ← e.2]
    omega
  · omega
/-- the same fields, and the same places below -/
theorem TyS_k (h : TyS c K K4 f0 u0 σ fs u d r pb nf nc sq) (e : σ'.1 1901 = σ.1 1901 ∧ σ'.1 1815 = σ.1 1815 ∧ σ'.1 1811 = σ.1 1811 ∧ σ'.1 1908 = σ.1 1908) {d' : Nat} {r' : List Nat} (hs : SL K' (uN (σ.1 1901) + 4) (uN (σ'.1 1902)) d' r') (hk : ∀ p, p < uN (σ.1 1901) + 4 → K' p = K p) (hb : tcF c u ≤ bt d' r') (hp : PaM K4 pb 180 r') : TyS c K' K4 f0 u0 σ' fs u d' r' pb nf nc sq := by
  obtain ⟨h1, h2, h3, h4, h5, h6, h7⟩ := h
  unfold TyS
  rw [e.1, e.2.1, e.2.2.1, e.2.2.2]
  exact ⟨hs, FC_k h2 hk (fun _ _ => rfl), hb, h4, h5, h6, h7.1, h7.2.1, hp⟩
theorem qv_lt (h : TyS c K K4 f0 u0 σ fs u d r pb nf nc sq) (hr : rk ≤ 72 * (RK + 1)) : qv nf sq rk < QK := by
  have a := (FC_b _ _ _ _ _ _ _ h.2.1).2.1
  have n50 := h.2.2.2.2.2.2.1
  have e1 : nc * RK ≤ 50 * RK := Nat.mul_le_mul_right _ n50
  have e2 : (20 - nf) * (RK + 1) ≤ 20 * (RK + 1) := Nat.mul_le_mul_right _ (by omega)
  unfold qv QK
  unfold RK at *
  omega
theorem NxD_r {p : Nat} (h : tcD c p = some (u, d, r, rk)) (hb : tcF c u ≤ bt d r) : NxD c p u d r rk := ⟨d, r, h, Rsh_r d r, hb⟩
/-- another shape -/
theorem TyS_rs (h : TyS c K K4 f0 u0 σ fs u d r pb nf nc sq) {d' : Nat} {r' : List Nat} (hr : Rsh d r d' r') (hb : tcF c u ≤ bt d' r') : TyS c K K4 f0 u0 σ fs u d' r' pb nf nc sq := ⟨hr.1 _ _ _ h.1, h.2.1, hb, h.2.2.2.1, h.2.2.2.2.1, h.2.2.2.2.2.1, h.2.2.2.2.2.2.1, h.2.2.2.2.2.2.2.1, hr.2 _ _ _ h.2.2.2.2.2.2.2.2⟩
/-- it goes on, lower -/
theorem go_n (ty : TyS c K K4 f0 u0 σ' fs u d r pb nf nc sq) (w : uN (σ.1 1905) ≤ 60000) (e5 : σ'.1 1905 = σ.1 1905) (e4 : σ'.1 1814 = σ.1 1814) (n : Nx c (uN (σ'.1 1900)) u d r rk) : ∃ q, RunT c K K4 f0 u0 σ' q ∧ mu σ' q < mu σ (qv nf sq rk) := by
  obtain ⟨rk', ⟨d', r', h1, hr, hb⟩, h2, h3⟩ := n
  refine ⟨qv nf sq rk', ⟨by rw [e5]; exact w, u, d', r', rk', fs, pb, nf, nc, sq, Or.inl ⟨TyS_rs ty hr hb, h1, rfl⟩⟩, ?_⟩
  unfold mu qv
  rw [e5, e4]
  omega
/-- it goes on, work was done -/
theorem go_s (ty : TyS c K K4 f0 u0 σ' fs u d r pb nf nc sq) (e5 : uN (σ.1 1905) < uN (σ'.1 1905)) (w : uN (σ'.1 1905) ≤ 60000) (e4 : σ'.1 1814 = σ.1 1814) (n : NxS c (uN (σ'.1 1900)) u d r) (q0 : Nat) : ∃ q, RunT c K K4 f0 u0 σ' q ∧ mu σ' q < mu σ q0 := by
  obtain ⟨rk', ⟨d', r', h1, hr, hb⟩, h2, h3⟩ := n
  refine ⟨qv nf sq rk', ⟨w, u, d', r', rk', fs, pb, nf, nc, sq, Or.inl ⟨TyS_rs ty hr hb, h1, rfl⟩⟩, ?_⟩
  have z := qv_lt ty h2
  unfold mu
  rw [e4]
  have e : (60000 - uN (σ'.1 1905) + 1) * QK ≤ (60000 - uN (σ.1 1905)) * QK := Nat.mul_le_mul_right _ (by omega)
  rw [Nat.add_mul, Nat.one_mul] at e
  omega
/-- behind an instruction of medium steps -/
theorem IO_d (h : MIn c g l t K K2 K3 K4 B KB σ) {q : RS} {m : Nat} (e0 : q.1 = (0, 0)) (co : CoP σ q) (a : Md σ q.2.1) (hq : HQ g' l' t' q.2.1) (v : VI g' K' K2 K3 K4 q.2.1) (kb : ∀ j, j < B → K' j = KB j) (b : B ≤ uN (q.2.1.1 1902)) (run : q.2.1.1 1812 = 0 → ∃ z, RunT c K' K4 f0 u0 q.2.1 z ∧ mu q.2.1 z < m) (hz : ¬ q.2.1.1 1812 = 0 → Hz (tcS c u0) q.2.1) : IO c B KB f0 u0 σ m q :=
  ⟨e0, co, Md_M a, fun _ => Md_E a, g', l', t', K', K2, K3, K4, MIn_d h a hq v kb b, run, hz⟩
theorem Md_pc (e2 : σ'.2 = σ.2) (ej : ∀ j, ¬ j = 1900 → σ'.1 j = σ.1 j) : Md σ σ' := ⟨fun j hj => ej j (by omega), fun _ _ => by rw [e2], fun _ _ => by rw [e2], ⟨fun _ _ => by show σ'.2.2.2.2.1 _ = _; rw [e2], by show _ ≤ σ'.2.2.2.2.1 20; rw [e2]; exact Nat.le_refl _⟩, by rw [e2], by rw [e2]⟩
theorem VI_st (p : Pre c g l t K K2 K3 K4 B KB f0 u0 σ fs u d r pb nf nc sq) : uN (σ.1 1902) ≤ sN σ 20 ∧ (1024 ≤ sN σ 20 ∧ sN σ 20 ≤ 91000) ∧ Rwk g (σ.2.2.1 3) K (σ.2.2.1 20) (uN (σ.1 1902)) := p.1.2.1.1
/-- values were laid upon the stack; then the place was set -/
theorem pu_fin (p : Pre c g l t K K2 K3 K4 B KB f0 u0 σ fs u d r pb nf nc sq) (hx : Gv g x) {n : Nat} {q : RS} (h : PuO σ x n q) (e2 : σ'.2 = q.2.1.2) (ej : ∀ j, ¬ j = 1900 → σ'.1 j = q.2.1.1 j) (nx : Nx c (uN (σ'.1 1900)) u (d + n) r rk) : IO c B KB f0 u0 σ (mu σ (qv nf sq rk)) ((0, 0), σ', (q.2.2.1 + 0, q.2.2.2 + 0)) := by
  obtain ⟨mi, ty, w, h0, bo⟩ := p
  obtain ⟨st1, st2, st3⟩ := mi.2.1.1
  obtain ⟨h1, h2, h3, h4, h5, h6, h7⟩ := h
  have md : Md σ σ' := Md_t (Md_S h3) (Md_pc e2 ej)
  have ts := TyS_sp ty
  have r20 : σ'.2.2.1 20 = q.2.1.2.2.1 20 := by rw [e2]
  have n20 : sN σ' 20 = sN q.2.1 20 := by show σ'.2.2.2.2.1 20 = _; rw [e2]
  have hq : HQ g l t σ' := HQ_fs mi.1 (by rw [ej 1 (by decide)]; exact h4.1) (by rw [e2]; exact h4.2) (fun k hk => by
    show σ'.2.2.2.2.1 k = _
    rw [e2]; exact h3.2.2.2.1.1 k hk)
  have co : CoP σ ((0, 0), σ', (q.2.2.1 + 0, q.2.2.2 + 0)) := by
    have ph := Ph_s (σ := q.2.1) (σ' := σ') (by rw [e2])
    have c1 := h2.1
    have c2 := h2.2
    exact ⟨by show q.2.2.1 + 0 + PhC σ' ≤ _; omega, by show q.2.2.2 + 0 + PhS σ' ≤ _; omega⟩
  have e5 : σ'.1 1902 = q.2.1.1 1902 := ej 1902 (by decide)
  have b := mi.2.2.2.2.2.2.1.2
  have e23 : σ'.2.2.1 23 = σ.2.2.1 23 := by rw [e2, h3.2.2.1 23 (by decide)]
  have r3 : σ'.2.2.1 3 = σ.2.2.1 3 := by rw [e2]; exact h4.2
  have kb : ∀ j, j < B → Kw K (uN (σ.1 1902)) n none j = KB j := fun j hj => by rw [Kw_o (Or.inl (by omega))]; exact mi.2.2.2.2.2.1 j hj
  rcases h7 with ⟨a1, a2, a3, a4, a5, a6⟩ | ⟨a1, a2, a3, a4⟩
  · have rw1 : Rwk g (σ'.2.2.1 3) (Kw K (uN (σ.1 1902)) n none) (σ'.2.2.1 20) (uN (σ'.1 1902)) := by
      rw [e5, a1, r20, r3]
      intro j hj
      rcases Nat.lt_or_ge j (uN (σ.1 1902)) with z | z
      · rw [h6 j z, Kw_o (Or.inl z)]
        exact st3 j z
      · rw [a3 j z hj, Kw_i z hj]
        exact Rwn (hx)
    have v := VI_20 mi.2.1 md e23 ⟨fun _ z => z, fun p _ => by rw [r3]⟩ (by rw [e5, a1, n20]; exact a2) (by rw [n20]; exact h5) rw1
    refine IO_d mi rfl co md hq v kb (by rw [e5, a1]; omega) (fun _ => ?_) (fun z => absurd ((ej 1812 (by decide)).trans (a4.trans h0)) z)
    have fe : ∀ j, ¬ (j = 1 ∨ j = 404 ∨ j = 1203 ∨ j = 1812 ∨ j = 1813 ∨ j = 1902 ∨ j = 1905 ∨ j = 1900) → σ'.1 j = σ.1 j := fun j hj => (ej j (by omega)).trans (h3.1 j (by omega))
    have hs : SL (Kw K (uN (σ.1 1902)) n none) (uN (σ.1 1901) + 4) (uN (σ'.1 1902)) (d + n) r := by
      rw [e5, a1]; exact SL_pu n ty.1
    have nb : tcF c u ≤ bt (d + n) r := Nat.le_trans ty.2.2.1 (bt_m d n r)
    exact go_n (TyS_k ty ⟨fe 1901 (by decide), fe 1815 (by decide), fe 1811 (by decide), fe 1908 (by decide)⟩ hs (fun p hp => Kw_o (Or.inl (by omega))) nb ty.2.2.2.2.2.2.2.2) w ((ej 1905 (by decide)).trans a6) (fe 1814 (by decide)) nx
  · have rw1 : Rwk g (σ'.2.2.1 3) (Kw K (uN (σ.1 1902)) n none) (σ'.2.2.1 20) (uN (σ'.1 1902)) := by
      rw [e5, a1, r20, r3]
      intro j hj
      rw [h6 j hj, Kw_o (Or.inl hj)]
      exact st3 j hj
    have v := VI_20 mi.2.1 md e23 ⟨fun _ z => z, fun p _ => by rw [r3]⟩ (by rw [e5, a1, n20]; exact a2) (by rw [n20]; exact h5) rw1
    refine IO_d mi rfl co md hq v kb (by rw [e5, a1]; exact b) (fun z => ?_) (fun _ => Or.inl (by show ¬ σ'.1 1813 = 0; rw [ej 1813 (by decide)]; exact a4.2))
    have z1 : σ'.1 1812 = 0 := z
    rw [ej 1812 (by decide), a3] at z1
    exact absurd z1 (by decide)
/-- a value was given, with its work -/
def GiO (σ : CS) (x : Int32) (q : RS) : Prop := q.1 = (0, 0) ∧ CoP σ q ∧ Sm σ q.2.1 ∧ (q.2.1.1 1 = σ.1 1 ∧ q.2.1.2.2.1 3 = σ.2.2.1 3) ∧ (1024 ≤ sN q.2.1 20 ∧ sN q.2.1 20 ≤ 91000) ∧ ((uN (q.2.1.1 1902) = uN (σ.1 1902) + 1 ∧ uN (σ.1 1902) + 1 ≤ sN q.2.1 20 ∧ (∀ j, j < uN (σ.1 1902) → q.2.1.2.2.1 20 j = σ.2.2.1 20 j) ∧ ((q.2.1.2.2.1 20 (uN (σ.1 1902)) = x ∧ True) ∨ q.2.1.2.2.1 20 (uN (σ.1 1902)) = -2147483648) ∧ ((q.2.1.1 1812 = 1 ∧ ¬ q.2.1.1 1813 = 0) ∨ (q.2.1.1 1812 = σ.1 1812 ∧ uN (σ.1 1905) < uN (q.2.1.1 1905) ∧ uN (q.2.1.1 1905) ≤ 60000))) ∨ (q.2.1.1 1902 = σ.1 1902 ∧ uN (σ.1 1902) ≤ sN q.2.1 20 ∧ (∀ j, j + 1 < uN (σ.1 1902) → q.2.1.2.2.1 20 j = σ.2.2.1 20 j) ∧ ((q.2.1.2.2.1 20 (uN (σ.1 1902) - 1) = x ∧ True) ∨ q.2.1.2.2.1 20 (uN (σ.1 1902) - 1) = σ.2.2.1 20 (uN (σ.1 1902) - 1)) ∧ q.2.1.1 1812 = 1 ∧ ¬ q.2.1.1 1813 = 0))
theorem c_give (h : HQ g l t σ) (hx : Gv g (L.1 1)) (h1 : 1 ≤ uN (σ.1 1902)) (h2 : uN (σ.1 1902) ≤ sN σ 20) (h3 : 1024 ≤ sN σ 20 ∧ sN σ 20 ≤ 91000) (w : uN (σ.1 1905) ≤ 60000) : Tm (fun k => f_X3_give k 0 L σ) (GiO σ (L.1 1)) := by
  refine Tm_suc (fun k => by rw [f_X3_give]) ?_
  refine Tm_oxc (c_push h2 h3) (fun q p => by rw [p.1]) (fun q p => ?_)
  obtain ⟨p1, p2, p3, p4, p5, p6, p7⟩ := p
  have hq : HQ g l t q.2.1 := HQ_fs h p4.1 p4.2 p3.2.2.2.1.1
  have fin : ∀ (z : CS), ReO q.2.1 (L.1 1) z → CoP σ ((0, 0), z, (q.2.2.1 + 0, q.2.2.2 + 0)) ∧ Sm σ z ∧ (z.1 1 = σ.1 1 ∧ z.2.2.1 3 = σ.2.2.1 3) ∧ sN z 20 = sN q.2.1 20 := by
    intro z ⟨z1, z2, z3, z4⟩
    have ph := Ph_s (σ := q.2.1) (σ' := z) (by rw [z2.2.2])
    have c1 := p2.1
    have c2 := p2.2
    exact ⟨⟨by show q.2.2.1 + 0 + PhC z ≤ _; omega, by show q.2.2.2 + 0 + PhS z ≤ _; omega⟩, Sm_t p3 z1, ⟨z2.1.trans p4.1, z2.2.1.trans p4.2⟩, by show z.2.2.2.2.1 20 = _; rw [z2.2.2]⟩
  rcases p7 with ⟨a1, a2, a3, a4, a5, a6⟩ | ⟨a1, a2, a3, a5⟩
  · refine Tm_op (c_replace hq hx (by omega) (by omega) p5.2 (by rw [a6]; exact w)) (fun z zz => ?_)
    obtain ⟨f1, f2, f3, f4⟩ := fin z.2 zz
    obtain ⟨z1, z2, z3, z4⟩ := zz
    refine Tm_some ⟨rfl, f1, f2, f3, by show 1024 ≤ sN z.2 20 ∧ sN z.2 20 ≤ 91000; rw [f4]; exact p5, Or.inl ⟨?_, ?_, ?_, ?_, ?_⟩⟩
    · show uN (z.2.1 1902) = _
      rw [z3]; exact a1
    · show _ ≤ sN z.2 20
      rw [f4]; exact a2
    · intro j hj
      show z.2.2.2.1 20 j = _
      rcases z4 with ⟨b1, b2⟩ | ⟨b1, b3, b2⟩
      · rw [b1]; exact p6 j hj
      · rw [b1, upd_other (by omega)]; exact p6 j hj
    · show (z.2.2.2.1 20 _ = _ ∧ _) ∨ z.2.2.2.1 20 _ = _
      rcases z4 with ⟨b1, b2⟩ | ⟨b1, b3, b2⟩
      · right
        rw [b1]; exact a3 _ (Nat.le_refl _) (by omega)
      · left
        refine ⟨?_, b3.1⟩
        rw [b1, a1, show uN (σ.1 1902) + 1 - 1 = uN (σ.1 1902) from by omega]
        exact upd_same
    · show (z.2.1 1812 = 1 ∧ _) ∨ (z.2.1 1812 = _ ∧ _ < uN (z.2.1 1905) ∧ uN (z.2.1 1905) ≤ _)
      rcases z4 with ⟨b1, b2⟩ | ⟨b1, b3, b2 | b2⟩
      · exact Or.inl b2
      · exact Or.inl b2
      · right
        refine ⟨b2.1.trans a4, ?_, b2.2.2⟩
        rw [← a6]; exact b2.2.1
  · obtain ⟨a5, a6⟩ := a5
    -- the stack is full
    by_cases wk : uN (q.2.1.1 1905) ≤ 60000
    · refine Tm_op (c_replace hq hx (by rw [a1]; exact h1) (by rw [a1]; exact a2) p5.2 wk) (fun z zz => ?_)
      obtain ⟨f1, f2, f3, f4⟩ := fin z.2 zz
      obtain ⟨z1, z2, z3, z4⟩ := zz
      refine Tm_some ⟨rfl, f1, f2, f3, by show 1024 ≤ sN z.2 20 ∧ sN z.2 20 ≤ 91000; rw [f4]; exact p5, Or.inr ⟨?_, ?_, ?_, ?_, ?_, ?_⟩⟩
      · show z.2.1 1902 = _
        rw [z3]; exact a1
      · show _ ≤ sN z.2 20
        rw [f4]; exact a2
      · intro j hj
        show z.2.2.2.1 20 j = _
        rcases z4 with ⟨b1, b2⟩ | ⟨b1, b3, b2⟩
        · rw [b1]; exact p6 j (by omega)
        · rw [b1, a1, upd_other (by omega)]; exact p6 j (by omega)
      · show (z.2.2.2.1 20 _ = _ ∧ _) ∨ z.2.2.2.1 20 _ = _
        rcases z4 with ⟨b1, b2⟩ | ⟨b1, b3, b2⟩
        · right
          rw [b1]; exact p6 _ (by omega)
        · left
          refine ⟨?_, b3.1⟩
          rw [b1, a1]
          exact upd_same
      · show z.2.1 1812 = 1
        rcases z4 with ⟨b1, b2⟩ | ⟨b1, b3, b2 | b2⟩
        · exact b2.1
        · exact b2.1
        · rw [b2.1]; exact a3
      · show ¬ z.2.1 1813 = 0
        rcases z4 with ⟨b1, b2⟩ | ⟨b1, b3, b2 | b2⟩
        · exact b2.2
        · exact b2.2
        · rcases b3.2 with y | y
          · rw [y]; exact a6
          · exact y
    · exact absurd (by rw [show q.2.1.1 1905 = σ.1 1905 from a5]; exact w) wk
end CSS
