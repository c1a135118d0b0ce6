/-! A value of the run, of a view, is shown (reference): value, seen. -/
section VSN
variable {T : Nat → Nat → Int32} {FN : Nat → Nat → Prop} {S : Nat → Nat → Nat → Nat → Prop} {gl : List Gn} {pr : Nat → Nat} {b : BT} {ns n : Nat} {Tp : Nat → Int32} {σ τ ω : MS} {C K : Nat → Int32} {e0 z0 x66 : Int32} {sd : Int64} {m : Nat} {L : Nat → Int32} {X B h : Nat} {g : Nat → Prop} {l : List Nat}
/-- a value is shown: values stay -/
theorem MI_sf {v : Int32} (hM : MI 0 X g l B h σ) (hv : Vd g v) (hs : ShF σ v ω) : MI 0 870000 g l B h ω := by
  obtain ⟨f1, f2, f3, f4, f5, f6, f7⟩ := hs
  refine MI_sh hM (f1 54 (by decide)) (f1 55 (by decide)) (f1 63 (by decide)) (f1 72 (by decide)) (fun a h1 h2 => f3 a (by omega)) (by rw [f4]; exact hv) (by rw [f5]; exact hM.2.2.1 40 0 (Or.inr (Or.inr (Or.inr (Or.inr (Or.inr (Or.inr (Or.inr (Or.inr ⟨rfl, by omega⟩)))))))))
theorem SmR_sf {v : Int32} (hs : ShF σ v ω) : SmR σ ω := ⟨fun j hj => hs.1 j (by omega), fun a ha => hs.2.2.1 a (by omega), hs.2.1⟩
/-- seen: refused, or a value of a view is shown -/
theorem s_seen (hM : MI 0 X g l B h σ) (h73 : ∃ V, σ.1 73 = nI V ∧ V ≤ 8) : Tm (fun k => x_seen k 0 L σ) (fun r => (∃ c, r.2 = mSc σ 2 c) ∨ ∃ v, Vd g v ∧ ShF (mSc σ 2 0) v r.2) := by
  obtain ⟨V, v1, v2⟩ := h73
  have no : ∀ (N : Nat → Int32) (c : Int32), c = 1 ∨ c = 2 → N 100 = c → Tm (fun k => x_seen k 4 N σ) (fun r => (∃ c, r.2 = mSc σ 2 c) ∨ ∃ v, Vd g v ∧ ShF (mSc σ 2 0) v r.2) := fun N c hc hN => by
    refine Tm_suc (fun k => by rw [x_seen]) ?_
    rw [hN]
    refine Tm_ob (s_good _ _) (fun r hr => ?_)
    rw [hr]
    rcases hc with rfl | rfl
    · refine Tm_ite (fun _ => ?_) (fun v => absurd rfl v)
      exact Tm_some (Or.inl ⟨1, rfl⟩)
    · refine Tm_ite (fun _ => ?_) (fun v => absurd rfl v)
      exact Tm_some (Or.inl ⟨2, rfl⟩)
  have no1 : ∀ N : Nat → Int32, Tm (fun k => x_seen k 1 N σ) (fun r => (∃ c, r.2 = mSc σ 2 c) ∨ ∃ v, Vd g v ∧ ShF (mSc σ 2 0) v r.2) := fun N => Tm_suc (fun k => by rw [x_seen]) (no _ 1 (Or.inl rfl) rfl)
  refine Tm_suc (fun k => by rw [x_seen]) ?_
  refine Tm_ite (fun _ => no1 L) (fun z1 => Tm_ite (fun _ => no1 L) (fun z2 => Tm_ite (fun _ => no1 L) (fun z3 => Tm_ite (fun _ => ?_) (fun _ => no1 L))))
  have hl : ∃ p, L 1 = nI p ∧ p < 8 := by
    have h0 : 0 ≤ (L 1).toInt := by
      rw [i_lt] at z1
      have z : (0 : Int32).toInt = 0 := rfl
      omega
    obtain ⟨p, hp, hp2⟩ : ∃ p, L 1 = nI p ∧ p < 2147483648 := ⟨(L 1).toInt.toNat, n_ofpos h0, by have := (L 1).toInt_lt; omega⟩
    refine ⟨p, hp, ?_⟩
    rw [v1, hp] at z2
    have : ¬ V ≤ p := fun q => z2 ((n_le (by omega) (by omega)).mpr q)
    omega
  obtain ⟨p, hp, p8⟩ := hl
  have ix : ¬ (nI p < 0 ∨ 8 ≤ (nI p).toNatClampNeg) := n_in (by omega) (by omega)
  have hMz : MI 0 X g l B h (mSc σ 2 0) := MI_c hM rfl rfl rfl rfl rfl
  have rt : ∀ a, a = 36 ∨ a = 37 ∨ a = 38 → Vd g (σ.2.2 a p) := fun a ha => by
    rcases ha with rfl | rfl | rfl
    · exact hM.2.2.1 36 p (Or.inr (Or.inr (Or.inr (Or.inr (Or.inr (Or.inl ⟨rfl, p8⟩))))))
    · exact hM.2.2.1 37 p (Or.inr (Or.inr (Or.inr (Or.inr (Or.inr (Or.inr (Or.inl ⟨rfl, p8⟩)))))))
    · exact hM.2.2.1 38 p (Or.inr (Or.inr (Or.inr (Or.inr (Or.inr (Or.inr (Or.inr (Or.inl ⟨rfl, p8⟩))))))))
  have e8 : ∀ (N : Nat → Int32) (v : Int32), Vd g v → N 100 = v → Tm (fun k => x_seen k 8 N (mSc σ 2 0)) (fun r => (∃ c, r.2 = mSc σ 2 c) ∨ ∃ v, Vd g v ∧ ShF (mSc σ 2 0) v r.2) := fun N v hv hN => by
    obtain ⟨a, a1, a2⟩ := hv
    refine Tm_suc (fun k => by rw [x_seen]) ?_
    refine Tm_ob (s_show hMz.1 a2 (show (upd (fun _ => 0) 1 (N 100) : Nat → Int32) 1 = nI a from hN.trans a1)) (fun r hr => ?_)
    exact Tm_some (Or.inr ⟨nI a, ⟨a, rfl, a2⟩, hr⟩)
  refine Tm_suc (fun k => by rw [x_seen]) ?_
  rw [hp]
  refine Tm_chk ix ?_
  refine Tm_ite (fun _ => no _ 2 (Or.inr rfl) rfl) (fun _ => ?_)
  refine Tm_suc (fun k => by rw [x_seen]) ?_
  refine Tm_suc (fun k => by rw [x_seen]) ?_
  refine Tm_ob (s_good _ _) (fun r hr => ?_)
  rw [hr]
  refine Tm_ite (fun z => absurd (show (1 : Int32) = 0 from z) (by decide)) (fun _ => ?_)
  show Tm (fun k => x_seen k 5 (upd L 100 0) (mSc σ 2 0)) _
  have l1 : (upd L 100 0) 1 = nI p := hp
  refine Tm_suc (fun k => by rw [x_seen]) ?_
  rw [l1]
  refine Tm_ite (fun _ => Tm_chk ix ?_) (fun _ => ?_)
  · rw [n_cl (p := p) (by omega)]
    exact e8 _ _ (rt 36 (by omega)) rfl
  refine Tm_suc (fun k => by rw [x_seen]) ?_
  rw [l1]
  refine Tm_ite (fun _ => Tm_chk ix ?_) (fun _ => ?_)
  · rw [n_cl (p := p) (by omega)]
    exact e8 _ _ (rt 37 (by omega)) rfl
  refine Tm_suc (fun k => by rw [x_seen]) ?_
  rw [l1]
  refine Tm_chk ix ?_
  rw [n_cl (p := p) (by omega)]
  exact e8 _ _ (rt 38 (by omega)) rfl
theorem s_valueN (h112 : σ.1 112 = 0) : Tm (fun k => x_value k 0 L σ) (fun r => r = (0, mSc σ 2 1)) := by
  refine Tm_suc (fun k => by rw [x_value]) ?_
  refine Tm_ite (fun _ => ?_) (fun z => absurd h112 z)
  refine Tm_suc (fun k => by rw [x_value]) ?_
  refine Tm_suc (fun k => by rw [x_value]) ?_
  refine Tm_ob (s_good _ _) (fun r hr => ?_)
  rw [hr]
  refine Tm_ite (fun _ => ?_) (fun v => absurd rfl v)
  exact Tm_some rfl
/-- the state of value before anything is shown -/
def mVl (σ : MS) : MS := mSc (mSc (mSc σ 2 0) 8 0) 9 (σ.1 4)
theorem s_value (hM : MI 0 X g l B h σ) (hg : PG gl pr b σ) (hb : b.2.1 ≤ 70000) (hn : mN σ n) (h112 : ¬ σ.1 112 = 0) : Tm (fun k => x_value k 0 L σ) (fun r => r.2 = mSc (mVl σ) 2 2 ∨ ∃ v, Vd g v ∧ ShF (mSc (mVl σ) 4 0) v r.2) := by
  obtain ⟨_, _, ⟨g1, g2, g3⟩, _⟩ := hg
  refine Tm_suc (fun k => by rw [x_value]) ?_
  refine Tm_ite (fun z => absurd z h112) (fun _ => ?_)
  refine Tm_suc (fun k => by rw [x_value]) ?_
  refine Tm_ob (s_good _ _) (fun r hr => ?_)
  rw [hr]
  refine Tm_ite (fun z => absurd (show (1 : Int32) = 0 from z) (by decide)) (fun _ => ?_)
  refine Tm_suc (fun k => by rw [x_value]) ?_
  refine Tm_suc (fun k => by rw [x_value]) ?_
  show Tm (fun k => x_value k 5 (upd L 100 0) (mVl σ)) _
  refine Tm_suc (fun k => by rw [x_value]) ?_
  have s25 : (mVl σ).1 25 = nI gl.length := g1
  have s8 : (mVl σ).1 8 = nI 0 := rfl
  have s9 : (mVl σ).1 9 = nI n := hn.1
  have lp : ∀ (d i : Nat) (N : Nat → Int32), d + i = gl.length → N 1 = nI i → Tm (fun k => x_value k 6 N (mVl σ)) (fun r => r.2 = mSc (mVl σ) 2 2 ∨ ∃ v, Vd g v ∧ ShF (mSc (mVl σ) 4 0) v r.2) := by
    intro d
    induction d with
    | zero =>
      intro i N hd n1
      refine Tm_suc (fun k => by rw [x_value]) ?_
      rw [s25, n1]
      refine Tm_ite (fun _ => ?_) (fun z => absurd ((n_le (by omega) (by omega)).mpr (by omega)) z)
      refine Tm_suc (fun k => by rw [x_value]) ?_
      exact Tm_suc (fun k => by rw [x_value]) (Tm_some (Or.inl rfl))
    | succ d ih =>
      intro i N hd n1
      have ix : ¬ (nI i < 0 ∨ 200 ≤ (nI i).toNatClampNeg) := n_in (by omega) (by omega)
      have nx : Tm (fun k => x_value k 8 N (mVl σ)) (fun r => r.2 = mSc (mVl σ) 2 2 ∨ ∃ v, Vd g v ∧ ShF (mSc (mVl σ) 4 0) v r.2) := by
        refine Tm_suc (fun k => by rw [x_value]) ?_
        rw [n1, n_add1]
        exact ih (i + 1) _ (by omega) rfl
      obtain ⟨x, hx⟩ : ∃ x, gl[i]? = some x := ⟨gl[i]'(by omega), List.getElem?_eq_getElem (by omega)⟩
      obtain ⟨q1, q2, q3, q4, q5, q6, q7, q8, _⟩ := g3 i x hx
      refine Tm_suc (fun k => by rw [x_value]) ?_
      rw [s25, n1]
      refine Tm_ite (fun z => absurd ((n_le (by omega) (by omega)).mp z) (by omega)) (fun _ => ?_)
      refine Tm_chk ix ?_
      refine Tm_ite (fun _ => ?_) (fun _ => nx)
      refine Tm_chk ix ?_
      refine Tm_chk ix ?_
      rw [n_cl (p := i) (by omega), show (mVl σ).2.2 14 i = nI x.2.1 from q2, show (mVl σ).2.2 15 i = nI x.1.length from q3]
      refine Tm_ob (s_isNamed (σ := mVl σ) (f := 0) (e := n) s8 s9 (by omega) hn.2 (p := x.2.1) (l := x.1.length) (by omega) _ rfl rfl) (fun r6 hr6 => ?_)
      rw [hr6.1]
      refine Tm_ite (fun _ => nx) (fun _ => ?_)
      show Tm (fun k => x_value k 7 N (mSc (mVl σ) 4 0)) _
      refine Tm_suc (fun k => by rw [x_value]) ?_
      rw [n1]
      refine Tm_chk ix ?_
      rw [n_cl (p := i) (by omega), show (mSc (mVl σ) 4 0).2.2 16 i = nI x.2.2.2 from q4, show (4 : Int32) + nI x.2.2.2 = nI (4 + x.2.2.2) from n_add (p := 4) (by omega)]
      refine Tm_chk (n_in (by omega) (by omega)) ?_
      rw [n_cl (p := 4 + x.2.2.2) (by omega)]
      obtain ⟨a, a1, a2⟩ := hM.2.2.1 30 (4 + x.2.2.2) (Or.inr (Or.inl ⟨rfl, Or.inl ⟨by omega, by omega⟩⟩))
      have hS : HS g l B h (mSc (mVl σ) 4 0) := HS_c hM.1 rfl rfl rfl
      refine Tm_ob (s_show hS a2 (show (upd (fun _ => 0) 1 ((mSc (mVl σ) 4 0).2.2 30 (4 + x.2.2.2)) : Nat → Int32) 1 = nI a from a1)) (fun r hr => ?_)
      exact Tm_some (Or.inr ⟨nI a, ⟨a, rfl, a2⟩, hr⟩)
  exact lp gl.length 0 _ (by omega) rfl
end VSN
