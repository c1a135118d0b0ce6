/-! The class: steps of iterators. -/
section CTB
variable {g g' g2 : Nat → Prop} {l l' l2 : List Nat} {t t' t2 : Nat} {σ σ' σ2 : CS} {L : LV} {x y i : Int32} {M M' U U' : Nat → Int32} {K K' K2 K2' K3 K4 K4' KB : Nat → Option Int32} {c : Ct} {B f0 u0 : Nat} {fs : List FrT} {u d : Nat} {r r' : List Nat} {pb nf nc sq rk : Nat}
/-- fewer marks -/
theorem SL_sb {Q : Nat → List Nat → Prop} {lo : Nat} (hQ : ∀ i s, Q i s → i < bsl → i ∈ s) : ∀ (r' r : List Nat) (hi d : Nat), Mrl Q r' r → SL K lo hi d r → SL K lo hi d r'
  | [], r, hi, d, h, q => by
    have e : r = [] := h
    subst e
    exact q
  | e :: r', r, hi, d, h, q => by
    obtain ⟨s, h1, h2, h3⟩ := h
    subst h1
    refine ⟨fun c => ?_, fun c c5 => ?_, fun c c5 => ?_⟩
    · obtain ⟨a1, a2, a3, a4⟩ := q.1 c
      exact ⟨fun i i1 i2 => a1 i (hQ i s (h2 c i i1) i2) i2, a2, a3, a4⟩
    · obtain ⟨b, n, z, a1, a2, a3⟩ := q.2.1 c c5
      exact ⟨b, n, z, a1, SL_sb hQ r' s b (e / 2) (h3 c) a2, a3⟩
    · obtain ⟨b, e0, r0, a1, a2, a3, a4⟩ := q.2.2 c c5
      obtain ⟨ms', e'⟩ := Mrl_hd (h3 c) a3
      exact ⟨b, e0, ms', a1, SL_sb hQ r' s b (e % 250000) (h3 c) a2, e', a4⟩
/-- marks of values, where there are some -/
theorem SL_av {Q : Nat → List Nat → Prop} {lo w : Nat} (hQ : ∀ i s, Q i s → i < bsl → i ∈ s ∨ (i % 500000 < w ∧ Mkk i (K (lo + i % 500000)))) : ∀ (r' r : List Nat) (hi d : Nat), bt d r = w → Mrl Q r' r → SL K lo hi d r → SL K lo hi d r'
  | [], r, hi, d, hw, h, q => by
    have e : r = [] := h
    subst e
    exact q
  | e :: r', r, hi, d, hw, h, q => by
    obtain ⟨s, h1, h2, h3⟩ := h
    subst h1
    refine ⟨fun c => ?_, fun c c5 => ?_, fun c c5 => ?_⟩
    · obtain ⟨a1, a2, a3, a4⟩ := q.1 c
      have eb : bt d (e :: s) = e - bsl := if_pos c
      rw [eb] at hw
      refine ⟨fun i i1 i2 => ?_, a2, a3, a4⟩
      rcases hQ i s (h2 c i i1) i2 with y | y
      · exact a1 i y i2
      · rw [hw]; exact y
    · obtain ⟨b, n, z, a1, a2, a3⟩ := q.2.1 c c5
      have eb : bt d (e :: s) = bt (e / 2) s := if_neg c
      exact ⟨b, n, z, a1, SL_av hQ r' s b (e / 2) (by rw [← eb]; exact hw) (h3 c) a2, a3⟩
    · obtain ⟨b, e0, r0, a1, a2, a3, a4⟩ := q.2.2 c c5
      have eb : bt d (e :: s) = bt (e / 2) s := if_neg c
      have eb2 : bt (e / 2) s = bt (e % 250000) s := by rw [a3]; exact bt_c _ _ _ _
      obtain ⟨ms', e'⟩ := Mrl_hd (h3 c) a3
      exact ⟨b, e0, ms', a1, SL_av hQ r' s b (e % 250000) (by rw [← eb2, ← eb]; exact hw) (h3 c) a2, e', a4⟩
theorem PaM_mr {Q : Nat → List Nat → Prop} {pb m : Nat} (hQ : ∀ i s, Q i s → bsl ≤ i → (i ∈ s ∧ K4' (pb + (i - bsl) % 500000) = K4 (pb + (i - bsl) % 500000)) ∨ ((i - bsl) % 500000 < m ∧ Mkk (i - bsl) (K4' (pb + (i - bsl) % 500000)))) : ∀ (r' r : List Nat), Mrl Q r' r → PaM K4 pb m r → PaM K4' pb m r'
  | [], r, h, q => trivial
  | e :: r', r, h, q => by
    obtain ⟨s, h1, h2, h3⟩ := h
    subst h1
    refine ⟨fun c i i1 i2 => ?_, fun c => PaM_mr hQ r' s (h3 c) (q.2 c)⟩
    rcases hQ i s (h2 c i i1) i2 with y | y
    · have z := q.1 c i y.1 i2
      exact ⟨z.1, by rw [y.2]; exact z.2⟩
    · exact y
/-- steps that leave work and place alone -/
def Go (c : Ct) (u0 : Nat) (σ σ' : CS) : Prop := MFr σ σ' ∧ (¬ tcS c u0 → EvF σ σ') ∧ σ'.2.2.2.2.1 = σ.2.2.2.2.1 ∧ σ'.1 1905 = σ.1 1905 ∧ σ'.1 1814 = σ.1 1814 ∧ σ'.1 1900 = σ.1 1900
theorem Go_r (σ : CS) : Go c u0 σ σ := ⟨MFr_r σ, fun _ _ _ _ _ => rfl, rfl, rfl, rfl, rfl⟩
theorem Go_t (a : Go c u0 σ σ') (b : Go c u0 σ' σ2) : Go c u0 σ σ2 := ⟨MFr_t a.1 b.1, fun n j h1 h2 h3 => (b.2.1 n j h1 h2 h3).trans (a.2.1 n j h1 h2 h3), b.2.2.1.trans a.2.2.1, b.2.2.2.1.trans a.2.2.2.1, b.2.2.2.2.1.trans a.2.2.2.2.1, b.2.2.2.2.2.trans a.2.2.2.2.2⟩
theorem IO_g {q : RS} {m : Nat} (a : Go c u0 σ σ') (h : IO c B KB f0 u0 σ' m q) : IO c B KB f0 u0 σ m q := by
  obtain ⟨h1, h2, h3, h4, h5⟩ := h
  have ph := Ph_s a.2.2.1
  exact ⟨h1, ⟨by rw [← ph.1]; exact h2.1, by rw [← ph.2]; exact h2.2⟩, MFr_t a.1 h3, fun n j j1 j2 j3 => (h4 n j j1 j2 j3).trans (a.2.1 n j j1 j2 j3), h5⟩
/-- a value in the row of slots that are passed -/
theorem Pre_23 (p : Pre c g l t K K2 K3 K4 B KB f0 u0 σ fs u d r pb nf nc sq) {j : Nat} (hj : pb ≤ j ∧ j < 3780) {mk : Option Int32} (hm : (mk = none ∧ Gv g x) ∨ (mk = some mkR ∧ Gv g x ∧ NoW (σ.2.2.1 3) x) ∨ (mk = some mkC ∧ Gw g x)) {Q : Nat → List Nat → Prop} (hr : Mrl Q r' r) (hQ1 : ∀ i s, Q i s → i < bsl → i ∈ s) (hQ2 : ∀ i s, Q i s → bsl ≤ i → (i ∈ s ∧ ¬ pb + (i - bsl) % 500000 = j) ∨ ((i - bsl) % 500000 < 180 ∧ pb + (i - bsl) % 500000 = j ∧ Mkk (i - bsl) mk)) : Pre c g l t K K2 K3 (Kw K4 j 1 mk) B KB f0 u0 (uA σ 23 j x) fs u d r' pb nf nc sq ∧ Go c u0 σ (uA σ 23 j x) := by
  obtain ⟨mi, ty, w, h0, bo⟩ := p
  have md : Md σ (uA σ 23 j x) := Md_A σ (by decide) _ _
  obtain ⟨m1, m2, m3, m4, m5, m6⟩ := mi
  obtain ⟨v1, v2, v3⟩ := m2
  have rk4 : Rwk g (σ.2.2.1 3) (Kw K4 j 1 mk) (upd (σ.2.2.1 23) j x) 3780 := by
    intro i hi
    by_cases e : i = j
    · rw [e, upd_same, Kw_i (Nat.le_refl _) (by omega)]
      rcases hm with z | z | z
      · rw [z.1]; exact Rwn z.2
      · rw [z.1]; exact Rwm z.2.1 z.2.2
      · rw [z.1]; exact Rwc z.2
    · rw [upd_other e, Kw_o (by omega)]
      exact v2 i hi
  refine ⟨⟨⟨HQ_fr m1 rfl rfl rfl, ⟨v1, rk4, v3⟩, CtL_M m3 (Md_M md), m4, SVK_d md m5, m6⟩, ?_, w, h0, bo⟩, Md_M md, fun _ => Md_E md, rfl, rfl, rfl, rfl⟩
  obtain ⟨t1, t2, t3, t4, t5, t6, t7, t8, t9⟩ := ty
  refine ⟨SL_sb hQ1 r' r _ _ hr t1, FC_k t2 (fun _ _ => rfl) (fun p hp => Kw_o (Or.inl (by omega))), by rw [Mrl_bt r' r d hr]; exact t3, t4, t5, t6, t7, t8, ?_⟩
  refine PaM_mr (fun i s q b => ?_) r' r hr t9
  rcases hQ2 i s q b with y | y
  · exact Or.inl ⟨y.1, Kw_o (by omega)⟩
  · right
    rw [y.2.1, Kw_i (Nat.le_refl _) (by omega)]
    exact ⟨y.1, y.2.2⟩
/-- fewer marks; the same otherwise -/
theorem Pre_sb (p : Pre c g l t K K2 K3 K4 B KB f0 u0 σ fs u d r pb nf nc sq) {Q : Nat → List Nat → Prop} (hr : Mrl Q r' r) (hQ : ∀ i s, Q i s → i ∈ s) : Pre c g l t K K2 K3 K4 B KB f0 u0 σ fs u d r' pb nf nc sq := by
  obtain ⟨mi, ty, w, h0, bo⟩ := p
  obtain ⟨t1, t2, t3, t4, t5, t6, t7, t8, t9⟩ := ty
  exact ⟨mi, ⟨SL_sb (fun i s q _ => hQ i s q) r' r _ _ hr t1, t2, by rw [Mrl_bt r' r d hr]; exact t3, t4, t5, t6, t7, t8, PaM_mr (fun i s q b => Or.inl ⟨hQ i s q, rfl⟩) r' r hr t9⟩, w, h0, bo⟩
/-- more marks of values -/
theorem Pre_av (p : Pre c g l t K K2 K3 K4 B KB f0 u0 σ fs u d r pb nf nc sq) {Q : Nat → List Nat → Prop} (hr : Mrl Q r' r) (hQ : ∀ i s, Q i s → i < bsl → i ∈ s ∨ (i % 500000 < bt d r ∧ Mkk i (K (uN (σ.1 1901) + 4 + i % 500000)))) (hQ2 : ∀ i s, Q i s → bsl ≤ i → i ∈ s ∨ ((i - bsl) % 500000 < 180 ∧ Mkk (i - bsl) (K4 (pb + (i - bsl) % 500000)))) : Pre c g l t K K2 K3 K4 B KB f0 u0 σ fs u d r' pb nf nc sq := by
  obtain ⟨mi, ty, w, h0, bo⟩ := p
  obtain ⟨t1, t2, t3, t4, t5, t6, t7, t8, t9⟩ := ty
  exact ⟨mi, ⟨SL_av hQ r' r _ _ rfl hr t1, t2, by rw [Mrl_bt r' r d hr]; exact t3, t4, t5, t6, t7, t8, PaM_mr (fun i s q b => (hQ2 i s q b).imp (fun z => ⟨z, rfl⟩) id) r' r hr t9⟩, w, h0, bo⟩
theorem Mkk_n {i : Nat} (h : ¬ i < 500000) : Mkk i none := ⟨fun z => absurd z h, Or.inl rfl⟩
theorem Mkk_r (i : Nat) : Mkk i (some mkR) := ⟨fun _ => rfl, Or.inr rfl⟩
/-- it goes on behind such steps -/
theorem fl_go (p : Pre c g' l' t' K' K2 K3 K4' B KB f0 u0 σ2 fs u d r pb nf nc sq) (a : Go c u0 σ σ2) (e2 : σ'.2 = σ2.2) (ej : ∀ j, ¬ j = 1900 → σ'.1 j = σ2.1 j) (nx : Nx c (uN (σ'.1 1900)) u d r rk) : IO c B KB f0 u0 σ (mu σ (qv nf sq rk)) ((0, 0), σ', (0, 0)) := by
  rw [← mu_e a.2.2.2.1 a.2.2.2.2.1]
  exact IO_g a (fl_fin p e2 ej nx)
theorem ha_go (p : Pre c g' l' t' K' K2 K3 K4' B KB f0 u0 σ2 fs u d r pb nf nc sq) (a : Go c u0 σ σ2) {m : Nat} (e2 : σ'.2 = σ2.2) (ej : ∀ j, ¬ (j = 1900 ∨ j = 1812 ∨ j = 1813 ∨ j = 1905) → σ'.1 j = σ2.1 j) (h1 : σ'.1 1812 = 1) (h13 : ¬ σ'.1 1813 = 0) : IO c B KB f0 u0 σ m ((0, 0), σ', (0, 0)) := IO_g a (ha_fin p e2 ej h1 h13)
theorem Go_dr (σ : CS) (x : Int32) : Go c u0 σ (uI σ 1902 x) := ⟨Md_M (Md_i σ (by decide) x), fun _ => Md_E (Md_i σ (by decide) x), rfl, rfl, rfl, rfl⟩
end CTB
