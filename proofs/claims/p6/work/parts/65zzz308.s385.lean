/-! The class: calls of funcs. -/
section CSW
variable {g g' g2 : Nat → Prop} {l l' l2 : List Nat} {t t' t2 : Nat} {σ σ' σ2 : CS} {L : LV} {x y i : Int32} {M M' U U' : Nat → Int32} {K K' K2 K3 K4 KB : Nat → Option Int32} {c : Ct} {B f0 u0 : Nat} {fs : List FrT} {u d : Nat} {r : List Nat} {pb nf nc sq rk : Nat}
/-- wide steps: the run's numbers, but points and what saves are made of -/
def Mw (σ σ' : CS) : Prop := (∀ j, ¬ (j = 1 ∨ j = 404 ∨ j = 1203 ∨ (1811 ≤ j ∧ j ≤ 1816) ∨ (1900 ≤ j ∧ j ≤ 1911)) → σ'.1 j = σ.1 j) ∧ (∀ j, ¬ j = 1916 → σ'.2.1 j = σ.2.1 j) ∧ (∀ k, ¬ (k = 3 ∨ (5 ≤ k ∧ k ≤ 11) ∨ k = 13 ∨ (15 ≤ k ∧ k ≤ 17) ∨ k = 20 ∨ k = 22 ∨ k = 23) → σ'.2.2.1 k = σ.2.2.1 k) ∧ ((∀ k, ¬ (k = 20 ∨ k = 22) → sN σ' k = sN σ k) ∧ sN σ 20 ≤ sN σ' 20) ∧ σ'.2.2.2.1 = σ.2.2.2.1 ∧ σ'.2.2.2.2.2 = σ.2.2.2.2.2
theorem Mw_d (a : Md σ σ') : Mw σ σ' := ⟨fun j hj => a.1 j (by omega), a.2.1, a.2.2.1, a.2.2.2.1, a.2.2.2.2.1, a.2.2.2.2.2⟩
theorem Mw_r (σ : CS) : Mw σ σ := Mw_d (Md_r σ)
theorem Mw_t (a : Mw σ σ') (b : Mw σ' σ2) : Mw σ σ2 := ⟨fun j hj => (b.1 j hj).trans (a.1 j hj), fun j hj => (b.2.1 j hj).trans (a.2.1 j hj), fun k hk => (b.2.2.1 k hk).trans (a.2.2.1 k hk), ⟨fun k hk => (b.2.2.2.1.1 k hk).trans (a.2.2.2.1.1 k hk), Nat.le_trans a.2.2.2.1.2 b.2.2.2.1.2⟩, b.2.2.2.2.1.trans a.2.2.2.2.1, b.2.2.2.2.2.trans a.2.2.2.2.2⟩
theorem Mw_i (σ : CS) {j : Nat} (hj : (1811 ≤ j ∧ j ≤ 1816) ∨ (1900 ≤ j ∧ j ≤ 1911)) (x : Int32) : Mw σ (uI σ j x) := ⟨fun i hi => upd_other (by omega), fun _ _ => rfl, fun _ _ => rfl, ⟨fun _ _ => rfl, Nat.le_refl _⟩, rfl, rfl⟩
theorem Mw_M (a : Mw σ σ') : MFr σ σ' := ⟨fun j hj => a.1 j (by omega), fun j hj => a.2.1 j (by omega), fun k hk => by
  unfold rwM at hk
  exact ⟨a.2.2.1 k (by omega), a.2.2.2.1.1 k (by omega)⟩, a.2.2.2.2.1, by rw [a.2.2.2.2.2]⟩
theorem SVK_w (a : Mw σ σ') (h : SVK c K3 σ) : SVK c K3 σ' := by
  have ep : ∀ i, sPi σ' i = sPi σ i := fun i => by show σ'.2.2.2.2.2.2 i = _; rw [a.2.2.2.2.2]
  have ef : ∀ p j, σ'.1 (100 * (28 + p) + j) = σ.1 (100 * (28 + p) + j) := fun p j => a.1 _ (by omega)
  have sv : ∀ p s, SvR c K3 σ p s → SvR c K3 σ' p s := by
    intro p s h
    unfold SvR
    rw [ef p 0, ef p 1, ef p 2, ef p 8, ef p 7, ef p 5, ef p 13, ef p 12, ef p 14, ef p 15, a.2.2.2.1.1 21 (by decide)]
    exact ⟨h.1, h.2.1, ⟨h.2.2.1.1, h.2.2.1.2.1, h.2.2.1.2.2.1, h.2.2.1.2.2.2.1, Nat.le_trans h.2.2.1.2.2.2.2.1 a.2.2.2.1.2, h.2.2.1.2.2.2.2.2⟩, POK_eq a.2.2.2.1.2 _ _ (fun _ _ => rfl) h.2.2.2⟩
  obtain ⟨h1, h2, h3, h4, h5⟩ := h
  refine ⟨?_, fun i hi => by rw [ep]; exact h2 i hi, fun i j hi hj e => ?_, fun i hi => ?_, fun hn => ?_⟩
  · exact ⟨by rw [a.1 2404 (by decide), a.1 2403 (by decide)]; exact h1.1, SVB_e h1.1.1 h2 (fun j _ _ => a.1 j (by omega)) ep h1.2⟩
  · rw [ep, ep] at e; exact h3 i j hi hj e
  · rw [a.1 2404 (by decide)] at hi
    have z := h4 i hi
    rw [ep, a.2.2.1 27 (by decide), ef, ef, a.1 2403 (by decide), a.1 2404 (by decide)]
    exact ⟨sv _ _ z.1, z.2⟩
  · rw [a.1 2405 (by decide)] at hn
    have z := h5 hn
    rw [ep, a.2.2.1 27 (by decide), ef, ef, a.1 2403 (by decide)]
    exact ⟨sv _ _ z.1, z.2⟩
theorem VI_w (v : VI g K K2 K3 K4 σ) (a : Mw σ σ') (e23 : σ'.2.2.1 23 = σ.2.2.1 23) (s : (∀ p, g p → g' p) ∧ ∀ p, g p → σ'.2.2.1 3 p = σ.2.2.1 3 p) (h1 : uN (σ'.1 1902) ≤ sN σ' 20) (h2 : 1024 ≤ sN σ' 20 ∧ sN σ' 20 ≤ 91000) (h3 : Rwk g' (σ'.2.2.1 3) K' (σ'.2.2.1 20) (uN (σ'.1 1902))) : VI g' K' K2 K3 K4 σ' := by
  have p8 : sPi σ' 8 = sPi σ 8 := by show σ'.2.2.2.2.2.2 8 = _; rw [a.2.2.2.2.2]
  have us : usI σ' = usI σ := by
    unfold usI
    rw [p8, a.1 2405 (by decide), a.1 2403 (by decide), a.1 (100 * (28 + sPi σ 8) + 2) (by omega), a.1 (100 * (28 + sPi σ 8) + 13) (by omega)]
  refine ⟨⟨h1, h2, h3⟩, by rw [e23]; exact Rwk_g v.2.1 s, ?_, ?_, ?_, ?_, ?_, ?_⟩
  · rw [a.1 1913 (by decide), a.2.2.1 21 (by decide), a.2.2.2.1.1 21 (by decide)]
    exact ⟨v.2.2.1.1, v.2.2.1.2.1, Rwk_g v.2.2.1.2.2 s⟩
  · rw [a.2.2.1 67 (by decide)]; exact Rwk_g v.2.2.2.1 s
  · rw [p8]; exact v.2.2.2.2.1
  · rw [us, a.2.2.2.1.1 26 (by decide)]; exact v.2.2.2.2.2.1
  · rw [a.2.2.2.1.1 26 (by decide)]; exact v.2.2.2.2.2.2.1
  · rw [us, a.2.2.1 26 (by decide)]; exact Rwk_g v.2.2.2.2.2.2.2 s
theorem MIn_w (h : MIn c g l t K K2 K3 K4 B KB σ) (a : Mw σ σ') (hq : HQ g' l' t' σ') (v : VI g' K' K2 K3 K4 σ') (kb : ∀ j, j < B → K' j = KB j) (b : B ≤ uN (σ'.1 1902)) (lf : uN (σ'.1 1903) + uN (σ'.1 1814) ≤ 10240000) : MIn c g' l' t' K' K2 K3 K4 B KB σ' := by
  refine ⟨hq, v, CtL_M h.2.2.1 (Mw_M a), ?_, SVK_w a h.2.2.2.2.1, kb, ⟨h.2.2.2.2.2.2.1.1, b⟩, lf, ?_⟩
  · rw [a.1 1912 (by decide), a.1 1913 (by decide)]; exact POK_eq a.2.2.2.1.2 _ _ (fun _ _ => rfl) h.2.2.2.1
  · rw [a.1 1912 (by decide), a.1 1914 (by decide), a.1 1915 (by decide)]; exact h.2.2.2.2.2.2.2.2
/-- behind an instruction of wide steps, where statements run -/
theorem IO_w (h : MIn c g l t K K2 K3 K4 B KB σ) (cs : tcS c u0) {q : RS} {m : Nat} (e0 : q.1 = (0, 0)) (co : CoP σ q) (a : Mw σ q.2.1) (hq : HQ g' l' t' q.2.1) (v : VI g' K' K2 K3 K4 q.2.1) (kb : ∀ j, j < B → K' j = KB j) (b : B ≤ uN (q.2.1.1 1902)) (lf : uN (q.2.1.1 1903) + uN (q.2.1.1 1814) ≤ 10240000) (run : q.2.1.1 1812 = 0 → ∃ z, RunT c K' K4 f0 u0 q.2.1 z ∧ mu q.2.1 z < m) (hz : ¬ q.2.1.1 1812 = 0 → Hz (tcS c u0) q.2.1) : IO c B KB f0 u0 σ m q :=
  ⟨e0, co, Mw_M a, fun n => absurd cs n, g', l', t', K', K2, K3, K4, MIn_w h a hq v kb b lf, run, hz⟩
/-- units of statements are called by their like -/
theorem FC_S : ∀ (fs : List FrT) (fp u pb nf nc sq : Nat), FC c K K4 f0 u0 fs fp u pb nf nc sq → tcS c u → tcS c u0
  | [], fp, u, pb, nf, nc, sq, h, cs => by rw [← h.2.1]; exact cs
  | q :: fs, fp, u, pb, nf, nc, sq, h, cs => by
    obtain ⟨⟨bk, rb, z2, z3, a, b, s, f1, f2, f3, k⟩, w⟩ := h
    rcases k with k | k
    · exact absurd k.1 cs.1
    · exact FC_S fs _ _ _ _ _ _ w k.2.1
/-- a frame's head -/
def Kh (K : Nat → Option Int32) (f : Nat) (a b e h : Int32) : Nat → Option Int32 := fun j => if j = f then some a else if j = f + 1 then some b else if j = f + 2 then some e else if j = f + 3 then some h else K j
theorem Kh_o {f j : Nat} {a b e h : Int32} (z : j < f ∨ f + 4 ≤ j) : Kh K f a b e h j = K j := by
  unfold Kh
  rw [if_neg (by omega), if_neg (by omega), if_neg (by omega), if_neg (by omega)]
theorem Kh_i {f : Nat} {a b e h : Int32} : Kh K f a b e h f = some a ∧ Kh K f a b e h (f + 1) = some b ∧ Kh K f a b e h (f + 2) = some e ∧ Kh K f a b e h (f + 3) = some h := by
  unfold Kh
  exact ⟨if_pos rfl, by rw [if_neg (by omega), if_pos rfl], by rw [if_neg (by omega), if_neg (by omega), if_pos rfl], by rw [if_neg (by omega), if_neg (by omega), if_neg (by omega), if_pos rfl]⟩
/-- values were laid upon the stack: what holds between instructions holds -/
theorem pu_MIn (mi : MIn c g l t K K2 K3 K4 B KB σ) (hx : Gv g x) {n : Nat} {q : RS} (h : PuO σ x n q) (e2 : σ'.2 = q.2.1.2) (ej : ∀ j, ¬ j = 1900 → σ'.1 j = q.2.1.1 j) : MIn c g l t (Kw K (uN (σ.1 1902)) n none) K2 K3 K4 B KB σ' ∧ Md σ σ' ∧ CoP σ ((0, 0), σ', (q.2.2.1 + 0, q.2.2.2 + 0)) := by
  obtain ⟨st1, st2, st3⟩ := mi.2.1.1
  obtain ⟨h1, h2, h3, h4, h5, h6, h7⟩ := h
  have md : Md σ σ' := Md_t (Md_S h3) (Md_pc e2 ej)
  have r20 : σ'.2.2.1 20 = q.2.1.2.2.1 20 := by rw [e2]
  have n20 : sN σ' 20 = sN q.2.1 20 := by show σ'.2.2.2.2.1 20 = _; rw [e2]
  have hq : HQ g l t σ' := HQ_fs mi.1 (by rw [ej 1 (by decide)]; exact h4.1) (by rw [e2]; exact h4.2) (fun k hk => by
    show σ'.2.2.2.2.1 k = _
    rw [e2]; exact h3.2.2.2.1.1 k hk)
  have co : CoP σ ((0, 0), σ', (q.2.2.1 + 0, q.2.2.2 + 0)) := by
    have ph := Ph_s (σ := q.2.1) (σ' := σ') (by rw [e2])
    have c1 := h2.1
    have c2 := h2.2
    exact ⟨by show q.2.2.1 + 0 + PhC σ' ≤ _; omega, by show q.2.2.2 + 0 + PhS σ' ≤ _; omega⟩
  have e5 : σ'.1 1902 = q.2.1.1 1902 := ej 1902 (by decide)
  have b := mi.2.2.2.2.2.2.1.2
  have e23 : σ'.2.2.1 23 = σ.2.2.1 23 := by rw [e2, h3.2.2.1 23 (by decide)]
  have r3 : σ'.2.2.1 3 = σ.2.2.1 3 := by rw [e2]; exact h4.2
  have kb : ∀ j, j < B → Kw K (uN (σ.1 1902)) n none j = KB j := fun j hj => by rw [Kw_o (Or.inl (by omega))]; exact mi.2.2.2.2.2.1 j hj
  refine ⟨?_, md, co⟩
  rcases h7 with ⟨a1, a2, a3, a4, a5, a6⟩ | ⟨a1, a2, a3, a4⟩
  · have rw1 : Rwk g (σ'.2.2.1 3) (Kw K (uN (σ.1 1902)) n none) (σ'.2.2.1 20) (uN (σ'.1 1902)) := by
      rw [e5, a1, r20, r3]
      intro j hj
      rcases Nat.lt_or_ge j (uN (σ.1 1902)) with z | z
      · rw [h6 j z, Kw_o (Or.inl z)]
        exact st3 j z
      · rw [a3 j z hj, Kw_i z hj]
        exact Rwn (hx)
    have v := VI_20 mi.2.1 md e23 ⟨fun _ z => z, fun p _ => by rw [r3]⟩ (by rw [e5, a1, n20]; exact a2) (by rw [n20]; exact h5) rw1
    exact MIn_d mi md hq v kb (by rw [e5, a1]; omega)
  · have rw1 : Rwk g (σ'.2.2.1 3) (Kw K (uN (σ.1 1902)) n none) (σ'.2.2.1 20) (uN (σ'.1 1902)) := by
      rw [e5, a1, r20, r3]
      intro j hj
      rw [h6 j hj, Kw_o (Or.inl hj)]
      exact st3 j hj
    have v := VI_20 mi.2.1 md e23 ⟨fun _ z => z, fun p _ => by rw [r3]⟩ (by rw [e5, a1, n20]; exact a2) (by rw [n20]; exact h5) rw1
    exact MIn_d mi md hq v kb (by rw [e5, a1]; exact b)
/-- what entering leaves -/
def EnO (c : Ct) (g : Nat → Prop) (l : List Nat) (t : Nat) (K2 K3 K4 : Nat → Option Int32) (B : Nat) (KB : Nat → Option Int32) (σ : CS) (K1 : Nat → Option Int32) (v f : Nat) (q : RS) : Prop := q.1 = (0, 0) ∧ CoP σ q ∧ Md σ q.2.1 ∧ (∀ j, ¬ (j = 404 ∨ j = 1203 ∨ j = 1812 ∨ j = 1813 ∨ j = 1900 ∨ j = 1901 ∨ j = 1902) → q.2.1.1 j = σ.1 j) ∧ uN (q.2.1.1 1900) = tcE c v ∧ ∃ K', MIn c g l t K' K2 K3 K4 B KB q.2.1 ∧ ((q.2.1.1 1812 = 1 ∧ ¬ q.2.1.1 1813 = 0) ∨ (q.2.1.1 1812 = σ.1 1812 ∧ uN (q.2.1.1 1901) = f ∧ uN (q.2.1.1 1902) = f + 4 + tcF c v ∧ (∀ p, p < f + 4 → K' p = K1 p) ∧ ∀ p, f + 4 ≤ p → p < f + 4 + tcF c v → K' p = none))
theorem c_enter (mi : MIn c g l t K K2 K3 K4 B KB σ) {v : Nat} (sl : uN (σ.1 1901) + 8 + tcP c v ≤ uN (σ.1 1902) ∧ ∀ p, uN (σ.1 1902) - tcP c v ≤ p → p < uN (σ.1 1902) → K p = none) (hb : B ≤ uN (σ.1 1902) - tcP c v - 4) (hv : v < 42) (hf : tcP c v ≤ tcF c v ∧ tcF c v ≤ 1000) (h1 : L.1 1 = nI v) : Tm (fun k => f_X3_enter k 0 L σ) (EnO c g l t K2 K3 K4 B KB σ (Kh K (uN (σ.1 1902) - tcP c v - 4) (rwN (uN (L.1 2) % 268435456)) (rwN (uN (σ.1 1901) % 268435456)) (rwN (uN (L.1 3) % 268435456)) (rwN (uN (L.1 4) % 268435456))) v (uN (σ.1 1902) - tcP c v - 4)) := by
  obtain ⟨st1, st2, st3⟩ := mi.2.1.1
  have sle := sl.1
  obtain ⟨b, eb, _⟩ := mi.2.2.1
  have cr := (Ct_row mi.2.2.1 eb).2.2 v hv
  have e1 : uN (L.1 1) = v := by rw [h1, u_n (by omega)]
  have i1 : ¬ (L.1 1 < 0 ∨ 42 ≤ (L.1 1).toNatClampNeg) := u_in (by omega) (by decide)
  have c1 : (L.1 1).toNatClampNeg = v := by rw [u_cl (by omega)]; exact e1
  have u4 : uN (4 : Int32) = 4 := rfl
  have u3 : uN (3 : Int32) = 3 := rfl
  have u2 : uN (2 : Int32) = 2 := rfl
  generalize hF : uN (σ.1 1902) - tcP c v - 4 = f at *
  have ef : uN (σ.1 1902 - σ.2.2.1 (pR14 b) v - 4) = f := by
    rw [u_sub (by rw [u_sub (by omega), cr.2.1]; omega), u_sub (by omega), cr.2.1, u4]; exact hF
  generalize hX : σ.1 1902 - σ.2.2.1 (pR14 b) v - 4 = fx at *
  have ef1 : uN (fx + 1) = f + 1 := by rw [u_inc (by omega), ef]
  have ef2 : uN (fx + 2) = f + 2 := by rw [u_add (by omega), ef, u2]
  have ef3 : uN (fx + 3) = f + 3 := by rw [u_add (by omega), ef, u3]
  have n20 : sN σ 20 ≤ 2147483648 := by omega
  refine Tm_suc (fun k => by rw [f_X3_enter]) ?_
  refine Tm_oP eb ?_
  refine Tm_chk i1 ?_
  rw [c1, hX]
  refine Tm_op c_raw (fun q1 z1 => ?_)
  rw [z1]
  refine Tm_chk (u_in (x := fx) (by show uN fx < sN σ 20; omega) n20) ?_
  refine Tm_op c_raw (fun q2 z2 => ?_)
  rw [z2]
  refine Tm_suc (fun k => by rw [f_X3_enter]) ?_
  refine Tm_chk (u_in (x := fx + 1) (by show uN (fx + 1) < sN σ 20; omega) n20) ?_
  refine Tm_op c_raw (fun q3 z3 => ?_)
  rw [z3]
  refine Tm_chk (u_in (x := fx + 2) (by show uN (fx + 2) < sN σ 20; omega) n20) ?_
  refine Tm_suc (fun k => by rw [f_X3_enter]) ?_
  refine Tm_op c_raw (fun q4 z4 => ?_)
  rw [z4]
  refine Tm_chk (u_in (x := fx + 3) (by show uN (fx + 3) < sN σ 20; omega) n20) ?_
  have k0 : fx.toNatClampNeg = f := by rw [u_cl (by omega)]; exact ef
  have k1 : (fx + 1).toNatClampNeg = f + 1 := by rw [u_cl (by omega)]; exact ef1
  have k2 : (fx + 2).toNatClampNeg = f + 2 := by rw [u_cl (by omega)]; exact ef2
  have k3 : (fx + 3).toNatClampNeg = f + 3 := by rw [u_cl (by omega)]; exact ef3
  -- the state with its head
  show Tm (fun k => f_X3_enter k 3 (lI (lI (lI L 5 fx) 100 (rwN (uN (σ.1 1901) % 268435456))) 101 (fx + 1)) (uI (uA (uA (uA (uA σ 20 fx.toNatClampNeg (rwN (uN (L.1 2) % 268435456))) 20 (fx + 1).toNatClampNeg (rwN (uN (σ.1 1901) % 268435456))) 20 (fx + 2).toNatClampNeg (rwN (uN (L.1 3) % 268435456))) 20 (fx + 3).toNatClampNeg (rwN (uN (L.1 4) % 268435456))) 1901 fx)) _
  generalize hH : uI (uA (uA (uA (uA σ 20 fx.toNatClampNeg (rwN (uN (L.1 2) % 268435456))) 20 (fx + 1).toNatClampNeg (rwN (uN (σ.1 1901) % 268435456))) 20 (fx + 2).toNatClampNeg (rwN (uN (L.1 3) % 268435456))) 20 (fx + 3).toNatClampNeg (rwN (uN (L.1 4) % 268435456))) 1901 fx = τ
  have τ1 : ∀ j, ¬ j = 1901 → τ.1 j = σ.1 j := fun j hj => by rw [← hH]; exact upd_other hj
  have τ2 : τ.1 1901 = fx := by rw [← hH]; rfl
  have τ3 : τ.2.1 = σ.2.1 ∧ τ.2.2.2 = σ.2.2.2 := by rw [← hH]; exact ⟨rfl, rfl⟩
  have τ4 : ∀ k, ¬ k = 20 → τ.2.2.1 k = σ.2.2.1 k := fun k hk => by
    rw [← hH]
    show updG (updG (updG (updG σ.2.2.1 20 _) 20 _) 20 _) 20 _ k = _
    rw [updG_other hk, updG_other hk, updG_other hk, updG_other hk]
  have τ5 : τ.2.2.1 20 = upd (upd (upd (upd (σ.2.2.1 20) f (rwN (uN (L.1 2) % 268435456))) (f + 1) (rwN (uN (σ.1 1901) % 268435456))) (f + 2) (rwN (uN (L.1 3) % 268435456))) (f + 3) (rwN (uN (L.1 4) % 268435456)) := by
    rw [← hH, k0, k1, k2, k3]
    rfl
  have md : Md σ τ := ⟨fun j hj => τ1 j (by omega), fun j _ => by rw [τ3.1], fun k hk => τ4 k (by omega), ⟨fun k _ => by show τ.2.2.2.2.1 k = _; rw [τ3.2], by show _ ≤ τ.2.2.2.2.1 20; rw [τ3.2]; exact Nat.le_refl _⟩, by rw [τ3.2], by rw [τ3.2]⟩
  have rr : ∀ z : Int32, Rr (rwN (uN z % 268435456)) := fun z => rwN_r (by omega)
  have rw1 : Rwk g (τ.2.2.1 3) (Kh K f (rwN (uN (L.1 2) % 268435456)) (rwN (uN (σ.1 1901) % 268435456)) (rwN (uN (L.1 3) % 268435456)) (rwN (uN (L.1 4) % 268435456))) (τ.2.2.1 20) (uN (τ.1 1902)) := by
    rw [τ1 1902 (by decide), τ5, τ4 3 (by decide)]
    intro j hj
    have pin : ∀ z : Int32, Rr z → Gw g z ∧ (some z = none → Gv g z) ∧ ∀ v, some z = some v → (z = v ∧ Rr v) ∨ Mkd g (σ.2.2.1 3) v z := fun z hz => Rwp hz
    by_cases j3 : j = f + 3
    · rw [j3, upd_same, Kh_i.2.2.2]; exact pin _ (rr _)
    rw [upd_other j3]
    by_cases j2 : j = f + 2
    · rw [j2, upd_same, Kh_i.2.2.1]; exact pin _ (rr _)
    rw [upd_other j2]
    by_cases j1 : j = f + 1
    · rw [j1, upd_same, Kh_i.2.1]; exact pin _ (rr _)
    rw [upd_other j1]
    by_cases j0 : j = f
    · rw [j0, upd_same, Kh_i.1]; exact pin _ (rr _)
    rw [upd_other j0, Kh_o (by omega)]
    exact st3 j hj
  have nτ : sN τ 20 = sN σ 20 := by show τ.2.2.2.2.1 20 = _; rw [τ3.2]
  have e02 := τ1 1902 (by decide)
  have vτ := VI_20 mi.2.1 md (τ4 23 (by decide)) ⟨fun _ z => z, fun p _ => by rw [τ4 3 (by decide)]⟩ (by rw [e02, nτ]; exact st1) (by rw [nτ]; exact st2) rw1
  have hqτ : HQ g l t τ := HQ_fr mi.1 (τ1 1 (by decide)) (τ4 3 (by decide)) (by rw [τ3.2])
  have kbτ : ∀ j, j < B → Kh K f (rwN (uN (L.1 2) % 268435456)) (rwN (uN (σ.1 1901) % 268435456)) (rwN (uN (L.1 3) % 268435456)) (rwN (uN (L.1 4) % 268435456)) j = KB j := fun j hj => by rw [Kh_o (by omega)]; exact mi.2.2.2.2.2.1 j hj
  have miτ := MIn_d mi md hqτ vτ kbτ (by rw [e02]; exact mi.2.2.2.2.2.2.1.2)
  have ebτ : sPr τ = some b := by show τ.2.2.2.2.2.1.2.2.1 = _; rw [τ3.2]; exact eb
  have crτ := (Ct_row miτ.2.2.1 ebτ).2.2 v hv
  have en : uN (τ.2.2.1 (pR18 b) v - τ.2.2.1 (pR14 b) v) = tcF c v - tcP c v := by
    rw [u_sub (by omega), crτ.2.1, crτ.2.2]
  refine Tm_suc (fun k => by rw [f_X3_enter]) ?_
  refine Tm_oP ebτ ?_
  refine Tm_chk i1 ?_
  refine Tm_oP ebτ ?_
  refine Tm_chk i1 ?_
  have c1' : ((lI (lI (lI L 5 fx) 100 (rwN (uN (σ.1 1901) % 268435456))) 101 (fx + 1)).1 1).toNatClampNeg = v := c1
  refine Tm_oxc (c_pushAll (by rw [e02, nτ]; exact st1) (by rw [nτ]; exact st2) (by
    show uN (τ.2.2.1 (pR18 b) (L.1 1).toNatClampNeg - τ.2.2.1 (pR14 b) (L.1 1).toNatClampNeg) ≤ 1000000
    rw [c1, en]; omega)) (fun q z => by rw [z.1]) (fun q z => ?_)
  have en' : uN ((lI (lI lZ 1 (-2147483648)) 2 (τ.2.2.1 (pR18 b) (L.1 1).toNatClampNeg - τ.2.2.1 (pR14 b) (L.1 1).toNatClampNeg)).1 2) = tcF c v - tcP c v := by
    show uN (τ.2.2.1 (pR18 b) (L.1 1).toNatClampNeg - τ.2.2.1 (pR14 b) (L.1 1).toNatClampNeg) = _
    rw [c1]; exact en
  have z' : PuO τ (-2147483648) (tcF c v - tcP c v) q := by rw [← en']; exact z
  have p3 := z'.2.2.1
  have ebq : sPr q.2.1 = some b := by show q.2.1.2.2.2.2.2.1.2.2.1 = _; rw [p3.2.2.2.2.2]; exact ebτ
  have mdq : Md σ q.2.1 := Md_t md (Md_S p3)
  have ctq := CtL_M mi.2.2.1 (Md_M mdq)
  have crq := (Ct_row ctq ebq).2.2 v hv
  refine Tm_oP ebq ?_
  refine Tm_chk i1 ?_
  have pm := pu_MIn (σ' := uI q.2.1 1900 (q.2.1.2.2.1 (pR13 b) (L.1 1).toNatClampNeg)) miτ (Gv_om g) z' rfl (fun j hj => upd_other hj)
  obtain ⟨m1, m2, m3⟩ := pm
  have ph := Ph_s (σ := σ) (σ' := τ) (by rw [τ3.2])
  refine Tm_some ⟨rfl, ⟨by rw [← ph.1]; exact m3.1, by rw [← ph.2]; exact m3.2⟩, Md_t md m2, ?_, ?_, _, m1, ?_⟩
  · intro j hj
    show upd q.2.1.1 1900 _ j = _
    rw [upd_other (by omega)]
    by_cases z1 : j = 1905
    · subst z1
      rcases z'.2.2.2.2.2.2 with a | a
      · exact a.2.2.2.2.2.trans (τ1 1905 (by decide))
      · exact a.2.2.2.1.trans (τ1 1905 (by decide))
    by_cases z2 : j = 1
    · subst z2
      exact z'.2.2.2.1.1.trans (τ1 1 (by decide))
    exact (p3.1 j (by omega)).trans (τ1 j (by omega))
  · show uN (q.2.1.2.2.1 (pR13 b) (L.1 1).toNatClampNeg) = _
    rw [c1]; exact crq.1
  · rcases z'.2.2.2.2.2.2 with ⟨a1, a2, a3, a4, a5, a6⟩ | ⟨a1, a2, a3, a4⟩
    · right
      refine ⟨a4.trans (τ1 1812 (by decide)), ?_, ?_, ?_, ?_⟩
      · show uN (q.2.1.1 1901) = f
        rw [p3.1 1901 (by decide), τ2]; exact ef
      · show uN (q.2.1.1 1902) = _
        rw [a1, e02]
        omega
      · intro p hp
        rw [e02]
        exact Kw_o (Or.inl (by omega))
      · intro p h1' h2'
        rw [e02]
        rcases Nat.lt_or_ge p (uN (σ.1 1902)) with y | y
        · rw [Kw_o (Or.inl y), Kh_o (Or.inr h1')]
          exact sl.2 p (by omega) y
        · exact Kw_i y (by omega)
    · exact Or.inl ⟨a3, a4.2⟩
end CSW
