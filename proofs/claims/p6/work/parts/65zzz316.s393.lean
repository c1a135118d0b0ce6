/-! The class: slots of frames are written. -/
section CTE
variable {g g' g2 : Nat → Prop} {l l' l2 : List Nat} {t t' t2 : Nat} {σ σ' σ2 : CS} {L : LV} {x y i : Int32} {M M' U U' : Nat → Int32} {K K' K2 K2' K3 K4 K4' KB : Nat → Option Int32} {c : Ct} {B f0 u0 : Nat} {fs : List FrT} {u d : Nat} {r r' : List Nat} {pb nf nc sq rk : Nat}
/-- slots are at the bottom -/
def SlB : List Nat → Prop
  | [] => False
  | e :: r => ¬ bsl ≤ e → SlB r
theorem SL_sl {Q : Nat → List Nat → Prop} {lo p : Nat} {mk : Option Int32} (hm : Sk mk) (hQ : ∀ i s, Q i s → i < bsl → (i ∈ s ∧ ¬ lo + i % 500000 = p) ∨ (lo + i % 500000 = p ∧ Mkk i mk)) : ∀ (r' r : List Nat) (hi d : Nat), SlB r → lo ≤ p → p < lo + bt d r → Mrl Q r' r → SL K lo hi d r → SL (Kw K p 1 mk) lo hi d r'
  | [], r, hi, d, sb, _, _, h, q => by
    have e : r = [] := h
    subst e
    exact absurd sb id
  | e :: r', r, hi, d, sb, l1, l2, h, q => by
    obtain ⟨s, h1, h2, h3⟩ := h
    subst h1
    refine ⟨fun c => ?_, fun c c5 => ?_, fun c c5 => ?_⟩
    · obtain ⟨a1, a2, a3, a4⟩ := q.1 c
      have eb : bt d (e :: s) = e - bsl := if_pos c
      rw [eb] at l2
      refine ⟨fun i i1 i2 => ?_, a2, fun j j1 j2 => ?_, fun j j1 j2 => ?_⟩
      · rcases hQ i s (h2 c i i1) i2 with y | y
        · have z := a1 i y.1 i2
          exact ⟨z.1, by rw [Kw_o (by omega)]; exact z.2⟩
        · exact ⟨by omega, by rw [Kw_i (by omega) (by omega)]; exact y.2⟩
      · by_cases y : j = p
        · rw [Kw_i (by omega) (by omega)]; exact hm
        · rw [Kw_o (by omega)]; exact a3 j j1 j2
      · rw [Kw_o (by omega)]; exact a4 j j1 j2
    · obtain ⟨b, n, z, a1, a2, a3, a4, a5, a6, a7⟩ := q.2.1 c c5
      have eb : bt d (e :: s) = bt (e / 2) s := if_neg c
      rw [eb] at l2
      have sl := (SL_le s b (e / 2) a2).1
      exact ⟨b, n, z, a1, SL_sl hm hQ r' s b (e / 2) (sb c) l1 l2 (h3 c) a2, fun j h1 h2 => by rw [Kw_o (by omega)]; exact a3 j h1 h2, by rw [Kw_o (by omega)]; exact a4, by rw [Kw_o (by omega)]; exact a5, a6, fun j h1 h2 => by rw [Kw_o (by omega)]; exact a7 j h1 h2⟩
    · obtain ⟨b, e0, r0, a1, a2, a3, a4, a7⟩ := q.2.2 c c5
      have eb : bt d (e :: s) = bt (e / 2) s := if_neg c
      have eb2 : bt (e / 2) s = bt (e % 250000) s := by rw [a3]; exact bt_c _ _ _ _
      rw [eb, eb2] at l2
      have sl := (SL_le s b (e % 250000) a2).1
      obtain ⟨ms', e'⟩ := Mrl_hd (h3 c) a3
      exact ⟨b, e0, ms', a1, SL_sl hm hQ r' s b (e % 250000) (sb c) l1 l2 (h3 c) a2, e', fun j h1 h2 => by rw [Kw_o (by omega)]; exact a4 j h1 h2, fun j h1 h2 => by rw [Kw_o (by omega)]; exact a7 j h1 h2⟩
/-- a value into a slot of the frame in use -/
theorem Pre_20 (p : Pre c g l t K K2 K3 K4 B KB f0 u0 σ fs u d r pb nf nc sq) {n : Nat} (hn : n < bt d r) (sb : SlB r) {mk : Option Int32} (hm : (mk = none ∧ Gv g x) ∨ (mk = some mkR ∧ (Gv g x ∧ NoW (σ.2.2.1 3) x) ∧ tcF c u ≤ n) ∨ (mk = some mkC ∧ Gw g x ∧ tcF c u ≤ n)) {Q : Nat → List Nat → Prop} (hr : Mrl Q r' r) (hQ1 : ∀ i s, Q i s → i < bsl → (i ∈ s ∧ ¬ i % 500000 = n) ∨ (i % 500000 = n ∧ Mkk i mk)) (hQ2 : ∀ i s, Q i s → bsl ≤ i → i ∈ s) : Pre c g l t K K2 K3 K4 B KB f0 u0 σ fs u d r pb nf nc sq ∧ Pre c g l t (Kw K (uN (σ.1 1901) + 4 + n) 1 mk) K2 K3 K4 B KB f0 u0 (uA σ 20 (uN (σ.1 1901) + 4 + n) x) fs u d r' pb nf nc sq ∧ Go c u0 σ (uA σ 20 (uN (σ.1 1901) + 4 + n) x) := by
  refine ⟨p, ?_⟩
  obtain ⟨mi, ty, w, h0, bo⟩ := p
  have ts := TyS_sp ty
  have md : Md σ (uA σ 20 (uN (σ.1 1901) + 4 + n) x) := Md_A σ (by decide) _ _
  obtain ⟨st1, st2, st3⟩ := mi.2.1.1
  have rw1 : Rwk g (σ.2.2.1 3) (Kw K (uN (σ.1 1901) + 4 + n) 1 mk) (upd (σ.2.2.1 20) (uN (σ.1 1901) + 4 + n) x) (uN (σ.1 1902)) := by
    intro i hi
    by_cases e : i = uN (σ.1 1901) + 4 + n
    · rw [e, upd_same, Kw_i (Nat.le_refl _) (by omega)]
      rcases hm with z | z | z
      · rw [z.1]; exact Rwn z.2
      · rw [z.1]; exact Rwm z.2.1.1 z.2.1.2
      · rw [z.1]; exact Rwc z.2.1
    · rw [upd_other e, Kw_o (by omega)]
      exact st3 i hi
  have v := VI_20 (σ' := uA σ 20 (uN (σ.1 1901) + 4 + n) x) mi.2.1 md rfl ⟨fun _ z => z, fun _ _ => rfl⟩ st1 st2 rw1
  have kb : ∀ j, j < B → Kw K (uN (σ.1 1901) + 4 + n) 1 mk j = KB j := by
    intro j hj
    by_cases e : j = uN (σ.1 1901) + 4 + n
    · rw [Kw_i (by omega) (by omega)]
      rcases bo with y | y
      · omega
      · rw [y.1 j, KH_n (by omega)]
        have big : tcF c u ≤ n → mk = none := by
          intro z3
          exfalso
          rcases FC_B _ _ _ _ _ _ _ ty.2.1 with q | q
          · rw [q.2] at z3
            omega
          · omega
        rcases hm with z | z | z
        · exact z.1
        · exact big z.2.2
        · exact big z.2.2
    · rw [Kw_o (by omega)]
      exact mi.2.2.2.2.2.1 j hj
  refine ⟨⟨MIn_d mi md (HQ_fr mi.1 rfl rfl rfl) v kb mi.2.2.2.2.2.2.1.2, ?_, w, h0, bo⟩, Md_M md, fun _ => Md_E md, rfl, rfl, rfl, rfl⟩
  obtain ⟨t1, t2, t3, t4, t5, t6, t7, t8, t9⟩ := ty
  have e01 : uN ((uA σ 20 (uN (σ.1 1901) + 4 + n) x).1 1901) = uN (σ.1 1901) := rfl
  refine ⟨SL_sl (hm.imp (fun z => z.1) (fun z => z.imp (fun z => z.1) (fun z => z.1))) (fun i s q b => ?_) r' r _ _ sb (by omega) (by omega) hr t1, FC_k t2 (fun p hp => Kw_o (Or.inl (by omega))) (fun _ _ => rfl), by rw [Mrl_bt r' r d hr]; exact t3, t4, t5, t6, t7, t8, PaM_mr (fun i s q b => Or.inl ⟨hQ2 i s q b, rfl⟩) r' r hr t9⟩
  rcases hQ1 i s q b with y | y
  · exact Or.inl ⟨y.1, by have := y.2; omega⟩
  · exact Or.inr ⟨by omega, y.2⟩
/-- a value into a plain place -/
theorem Pre_s (p : Pre c g l t K K2 K3 K4 B KB f0 u0 σ fs u d r pb nf nc sq) {j : Nat} (hk : K j = none) (gx : Gv g x) : Pre c g l t K K2 K3 K4 B KB f0 u0 (uA σ 20 j x) fs u d r pb nf nc sq ∧ Go c u0 σ (uA σ 20 j x) := by
  obtain ⟨mi, ty, w, h0, bo⟩ := p
  have md : Md σ (uA σ 20 j x) := Md_A σ (by decide) _ _
  obtain ⟨st1, st2, st3⟩ := mi.2.1.1
  have rw1 : Rwk g (σ.2.2.1 3) K (upd (σ.2.2.1 20) j x) (uN (σ.1 1902)) := by
    intro i hi
    by_cases e : i = j
    · rw [e, upd_same, hk]
      exact Rwn (gx)
    · rw [upd_other e]
      exact st3 i hi
  have v := VI_20 (σ' := uA σ 20 j x) mi.2.1 md rfl ⟨fun _ z => z, fun _ _ => rfl⟩ st1 st2 rw1
  exact ⟨⟨MIn_d mi md (HQ_fr mi.1 rfl rfl rfl) v mi.2.2.2.2.2.1 mi.2.2.2.2.2.2.1.2, ty, w, h0, bo⟩, Md_M md, fun _ => Md_E md, rfl, rfl, rfl, rfl⟩
/-- a value, or a number, into a place of that kind -/
theorem Pre_sc (p : Pre c g l t K K2 K3 K4 B KB f0 u0 σ fs u d r pb nf nc sq) {j : Nat} (hk : K j = some mkC) (gx : Gw g x) : Pre c g l t K K2 K3 K4 B KB f0 u0 (uA σ 20 j x) fs u d r pb nf nc sq ∧ Go c u0 σ (uA σ 20 j x) := by
  obtain ⟨mi, ty, w, h0, bo⟩ := p
  have md : Md σ (uA σ 20 j x) := Md_A σ (by decide) _ _
  obtain ⟨st1, st2, st3⟩ := mi.2.1.1
  have rw1 : Rwk g (σ.2.2.1 3) K (upd (σ.2.2.1 20) j x) (uN (σ.1 1902)) := by
    intro i hi
    by_cases e : i = j
    · rw [e, upd_same, hk]
      exact Rwc gx
    · rw [upd_other e]
      exact st3 i hi
  have v := VI_20 (σ' := uA σ 20 j x) mi.2.1 md rfl ⟨fun _ z => z, fun _ _ => rfl⟩ st1 st2 rw1
  exact ⟨⟨MIn_d mi md (HQ_fr mi.1 rfl rfl rfl) v mi.2.2.2.2.2.1 mi.2.2.2.2.2.2.1.2, ty, w, h0, bo⟩, Md_M md, fun _ => Md_E md, rfl, rfl, rfl, rfl⟩
/-- TOTAL, where statements run -/
theorem Pre_tl (p : Pre c g l t K K2 K3 K4 B KB f0 u0 σ fs u d r pb nf nc sq) (cs : tcS c u0) {j : Nat} (hj : j = 1909 ∨ j = 1910) (x : Int32) : Pre c g l t K K2 K3 K4 B KB f0 u0 (uI σ j x) fs u d r pb nf nc sq ∧ Go c u0 σ (uI σ j x) := by
  obtain ⟨mi, ty, w, h0, bo⟩ := p
  have e : ∀ i, ¬ i = j → (uI σ j x).1 i = σ.1 i := fun i hi => upd_other hi
  have mt := MIn_fw (σ' := uI σ j x) mi rfl (fun i hi => e i (by omega)) (by rw [e 1902 (by omega)]; exact mi.2.2.2.2.2.2.1.2) (by rw [e 1902 (by omega)]; exact Nat.le_refl _) (by rw [e 1903 (by omega), e 1814 (by omega)]; exact mi.2.2.2.2.2.2.2.1)
  exact ⟨⟨mt.1, TyS_k ty ⟨e 1901 (by omega), e 1815 (by omega), e 1811 (by omega), e 1908 (by omega)⟩ (by rw [e 1902 (by omega)]; exact ty.1) (fun _ _ => rfl) ty.2.2.1 ty.2.2.2.2.2.2.2.2, by rw [e 1905 (by omega)]; exact w, by rw [e 1812 (by omega)]; exact h0, bo⟩, Mw_M mt.2, fun n => absurd cs n, rfl, e 1905 (by omega), e 1814 (by omega), e 1900 (by omega)⟩
/-- done, or it halts; places of the stack may be others -/
def SpK (P : (Nat → Option Int32) → Prop) (c : Ct) (g : Nat → Prop) (l : List Nat) (t : Nat) (K2 K3 K4 : Nat → Option Int32) (B : Nat) (KB : Nat → Option Int32) (f0 u0 : Nat) (fs : List FrT) (u d : Nat) (r : List Nat) (pb nf nc sq : Nat) (σ σ' : CS) : Prop := ∃ (σ1 : CS) (K : Nat → Option Int32), Pre c g l t K K2 K3 K4 B KB f0 u0 σ1 fs u d r pb nf nc sq ∧ Go c u0 σ σ1 ∧ ((σ' = σ1 ∧ P K) ∨ (σ'.2 = σ1.2 ∧ (∀ j, ¬ (j = 1812 ∨ j = 1813) → σ'.1 j = σ1.1 j) ∧ σ'.1 1812 = 1 ∧ ¬ σ'.1 1813 = 0))
theorem SpK_io {P : (Nat → Option Int32) → Prop} {v : Int32} (h : SpK P c g l t K2 K3 K4 B KB f0 u0 fs u d r pb nf nc sq σ σ') (hP : ∀ (σ1 : CS) (K : Nat → Option Int32), uN (σ1.1 1901) = uN (σ.1 1901) → Pre c g l t K K2 K3 K4 B KB f0 u0 σ1 fs u d r pb nf nc sq → P K → Pre c g l t K K2 K3 K4 B KB f0 u0 σ1 fs u d r' pb nf nc sq) (hf : σ'.1 1901 = σ.1 1901) (nx : Nx c (uN v) u d r' rk) : IO c B KB f0 u0 σ (mu σ (qv nf sq rk)) ((0, 0), uI σ' 1900 v, (0, 0)) := by
  obtain ⟨σ1, K, p, a, ⟨h, hk⟩ | ⟨h1, h2, h3⟩⟩ := h
  · rw [h] at hf ⊢
    exact fl_go (hP σ1 K (by rw [hf]) p hk) a rfl (fun j hj => upd_other hj) nx
  · refine ha_go p a h1 (fun j hj => ?_) ?_ ?_
    · show upd σ'.1 1900 v j = _
      rw [upd_other (by omega)]
      exact h2 j (by omega)
    · show upd σ'.1 1900 v 1812 = 1
      rw [upd_other (by decide)]
      exact h3.1
    · show ¬ upd σ'.1 1900 v 1813 = 0
      rw [upd_other (by decide)]
      exact h3.2
theorem SpK_0 {P : (Nat → Option Int32) → Prop} (h : SpK P c g l t K2 K3 K4 B KB f0 u0 fs u d r pb nf nc sq σ σ') (hP : ∀ (σ1 : CS) (K : Nat → Option Int32), uN (σ1.1 1901) = uN (σ.1 1901) → Pre c g l t K K2 K3 K4 B KB f0 u0 σ1 fs u d r pb nf nc sq → P K → Pre c g l t K K2 K3 K4 B KB f0 u0 σ1 fs u d r' pb nf nc sq) (hf : σ'.1 1901 = σ.1 1901) (nx : Nx c (uN (σ.1 1900)) u d r' rk) : IO c B KB f0 u0 σ (mu σ (qv nf sq rk)) ((0, 0), σ', (0, 0)) := by
  obtain ⟨σ1, K, p, a, ⟨h, hk⟩ | ⟨h1, h2, h3⟩⟩ := h
  · rw [h] at hf ⊢
    exact fl_go (hP σ1 K (by rw [hf]) p hk) a rfl (fun _ _ => rfl) (by rw [a.2.2.2.2.2]; exact nx)
  · exact ha_go p a h1 (fun j hj => h2 j (by omega)) h3.1 h3.2
/-- where a value may be written -/
def WP (c : Ct) (g : Nat → Prop) (l : List Nat) (t : Nat) (K2 K3 K4 : Nat → Option Int32) (B : Nat) (KB : Nat → Option Int32) (f0 u0 : Nat) (fs : List FrT) (u d : Nat) (r : List Nat) (pb nf nc sq fp j : Nat) : Prop := ∀ (τ : CS) (K : Nat → Option Int32) (x : Int32), Pre c g l t K K2 K3 K4 B KB f0 u0 τ fs u d r pb nf nc sq → uN (τ.1 1901) = fp → Gv g x → j < uN (τ.1 1902) ∧ Pre c g l t (Kw K j 1 none) K2 K3 K4 B KB f0 u0 (uA τ 20 j x) fs u d r pb nf nc sq ∧ Go c u0 τ (uA τ 20 j x)
theorem c_assign (p : Pre c g l t K K2 K3 K4 B KB f0 u0 σ fs u d r pb nf nc sq) (cs : tcS c u0) {j : Nat} (h1 : uN (L.1 1) = j) (gx : Gv g (L.1 2)) (wp : WP c g l t K2 K3 K4 B KB f0 u0 fs u d r pb nf nc sq (uN (σ.1 1901)) j) : Tm (fun k => y_X3_assign k 0 L σ) (fun q => SpK (fun K' => K' = Kw K j 1 none ∧ q.2.1 1813 = σ.1 1813) c g l t K2 K3 K4 B KB f0 u0 fs u d r pb nf nc sq σ q.2 ∧ q.2.1 1901 = σ.1 1901 ∧ q.2.2.2.1 3 = σ.2.2.1 3) := by
  have st := p.1.2.1.1
  have jl := (wp σ K _ p rfl gx).1
  have i1 : ¬ (L.1 1 < 0 ∨ sN σ 20 ≤ (L.1 1).toNatClampNeg) := u_in (by omega) (by omega)
  have c1 : (L.1 1).toNatClampNeg = j := by rw [u_cl (by omega)]; exact h1
  have b3 : ∀ (L' : LV) (τ : CS), L'.1 1 = L.1 1 → L'.1 2 = L.1 2 → Pre c g l t K K2 K3 K4 B KB f0 u0 τ fs u d r pb nf nc sq → Go c u0 σ τ → τ.1 1901 = σ.1 1901 → τ.1 1813 = σ.1 1813 → τ.2.2.1 3 = σ.2.2.1 3 → Tm (fun k => y_X3_assign k 3 L' τ) (fun q => SpK (fun K' => K' = Kw K j 1 none ∧ q.2.1 1813 = σ.1 1813) c g l t K2 K3 K4 B KB f0 u0 fs u d r pb nf nc sq σ q.2 ∧ q.2.1 1901 = σ.1 1901 ∧ q.2.2.2.1 3 = σ.2.2.1 3) := by
    intro L' τ l1 l2 pt gt f1 f13' r3
    have st' := pt.1.2.1.1
    obtain ⟨pa, ga⟩ := Pre_tl pt cs (Or.inr rfl) (L'.1 100)
    have z := wp _ K (L'.1 2) pa (by show uN (τ.1 1901) = _; rw [f1]) (by rw [l2]; exact gx)
    obtain ⟨z1, z2, z3⟩ := z
    refine Tm_suc (fun k => by rw [y_X3_assign]) ?_
    refine Tm_chk (by rw [l1]; exact u_in (by show uN (L.1 1) < sN τ 20; have z1' : j < uN (τ.1 1902) := z1; omega) (by show sN τ 20 ≤ _; omega)) ?_
    rw [l1, c1]
    exact Tm_some ⟨⟨_, _, z2, Go_t gt (Go_t ga z3), Or.inl ⟨rfl, rfl, f13'⟩⟩, f1, r3⟩
  have b1 : ∀ (L' : LV), L'.1 1 = L.1 1 → L'.1 2 = L.1 2 → Tm (fun k => y_X3_assign k 1 L' σ) (fun q => SpK (fun K' => K' = Kw K j 1 none ∧ q.2.1 1813 = σ.1 1813) c g l t K2 K3 K4 B KB f0 u0 fs u d r pb nf nc sq σ q.2 ∧ q.2.1 1901 = σ.1 1901 ∧ q.2.2.2.1 3 = σ.2.2.1 3) := by
    intro L' l1 l2
    obtain ⟨pa, ga⟩ := Pre_tl p cs (Or.inl rfl) (σ.1 1909 + L'.1 4)
    refine Tm_suc (fun k => by rw [y_X3_assign]) ?_
    refine Tm_ite (fun _ => ?_) (fun _ => ?_)
    · refine Tm_suc (fun k => by rw [y_X3_assign]) ?_
      exact b3 _ _ l1 l2 pa ga rfl rfl rfl
    · exact b3 _ _ l1 l2 pa ga rfl rfl rfl
  refine Tm_suc (fun k => by rw [y_X3_assign]) ?_
  refine Tm_oc (c_size1 p.1.1 gx) (fun q z => ?_)
  have e : q.2 = σ := z.1
  rw [e]
  refine Tm_chk i1 ?_
  refine Tm_oc (c_sizeW p.1.1 (by show Gw g (σ.2.2.1 20 (L.1 1).toNatClampNeg); rw [c1]; exact (st.2.2 j jl).1)) (fun q2 z2 => ?_)
  have e2 : q2.2 = σ := z2.1
  rw [e2]
  refine Tm_ite (fun _ => b1 _ rfl rfl) (fun _ => Tm_ite (fun _ => b1 _ rfl rfl) (fun _ => ?_))
  refine Tm_oc c_fail (fun q3 e3 => ?_)
  rw [e3]
  refine Tm_some ⟨⟨σ, K, p, Go_r σ, Or.inr ⟨rfl, fun j hj => ?_, rfl, by show ¬ (6 : Int32) = 0; decide⟩⟩, rfl, rfl⟩
  show upd (upd σ.1 1813 _) 1812 1 j = _
  rw [upd_other (by omega), upd_other (by omega)]
end CTE
