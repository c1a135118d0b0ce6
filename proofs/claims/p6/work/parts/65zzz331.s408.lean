/-! The class: midway in an instruction. -/
section CTS
variable {g g' g2 : Nat → Prop} {l l' l2 : List Nat} {t t' t2 : Nat} {σ σ' σ2 τ τ' : CS} {L : LV} {x y i : Int32} {M M' U U' : Nat → Int32} {K K' K0 K2 K2' K3 K4 K4' KB : Nat → Option Int32} {c : Ct} {B f0 u0 a T : Nat} {fs : List FrT} {u d : Nat} {r r' : List Nat} {pb nf nc sq rk : Nat}
theorem MFr_R (a : RmF σ σ') : MFr σ σ' := ⟨fun j hj => a.1.1 j (by omega), fun j _ => by rw [a.2.1], fun k hk => by
  unfold rwM at hk
  exact ⟨a.2.2.1 k (by omega), a.2.2.2.1 k (by omega)⟩, a.2.2.2.2.1, by rw [a.2.2.2.2.2]⟩
/-- between instructions, where room was made -/
theorem MIn_rm (mi : MIn c g l t K K2 K3 K4 B KB σ) {q : RS} (h : RmO K K2 K3 K4 σ q) : ∃ (g' : Nat → Prop) (l' : List Nat) (t' : Nat), MIn c g' l' t' K K2 K3 K4 B KB q.2.1 := by
  obtain ⟨-, -, f, -, g', l', t', hq, v⟩ := h
  have e : ∀ j, ¬ (j = 1 ∨ j = 2403 ∨ j = 2404 ∨ j = 2405) → q.2.1.1 j = σ.1 j := f.1.1
  have n20 : sN q.2.1 20 = sN σ 20 := f.2.2.2.1 20 (by decide)
  have n21 : sN q.2.1 21 = sN σ 21 := f.2.2.2.1 21 (by decide)
  have ep : ∀ i, sPi q.2.1 i = sPi σ i := fun i => by show q.2.1.2.2.2.2.2.2 i = _; rw [f.2.2.2.2.2]
  refine ⟨g', l', t', hq, v, CtL_M mi.2.2.1 (MFr_R f), ?_, ?_, mi.2.2.2.2.2.1, ?_, ?_, ?_⟩
  · rw [e 1912 (by decide), e 1913 (by decide), n20]; exact mi.2.2.2.1
  · have sv := mi.2.2.2.2.1
    rcases f.1.2 with z | z
    · refine SVK_g sv (fun j h1 h2 => ?_) (f.2.2.1 27 (by decide)) ep (by omega) (by omega)
      by_cases y : j = 2403 ∨ j = 2404 ∨ j = 2405
      · rcases y with y | y | y
        · rw [y]; exact z.1
        · rw [y]; exact z.2.1
        · rw [y]; exact z.2.2
      · exact e j (by omega)
    · refine ⟨?_, fun i hi => by rw [ep]; exact sv.2.1 i hi, fun i j hi hj y => ?_, fun i hi => ?_, fun hn => absurd z.2.2 hn⟩
      · rw [z.1, z.2.1]; exact ⟨⟨by decide, by decide⟩, fun i hi => absurd hi (by rw [z.2.1]; exact Nat.not_lt_zero i), fun hn => absurd z.2.2 hn⟩
      · rw [ep, ep] at y; exact sv.2.2.1 i j hi hj y
      · rw [z.2.1] at hi
        exact absurd hi (by show ¬ i < uN 0; exact Nat.not_lt_zero i)
  · rw [e 1902 (by decide)]; exact mi.2.2.2.2.2.2.1
  · rw [e 1903 (by decide), e 1814 (by decide)]; exact mi.2.2.2.2.2.2.2.1
  · rw [e 1912 (by decide), e 1914 (by decide), e 1915 (by decide)]; exact mi.2.2.2.2.2.2.2.2
/-- an operator worked -/
theorem MIn_Ga (mi : MIn c g l t K K2 K3 K4 B KB σ) (a : Ga g t σ g' l' t' σ') : MIn c g' l' t' K K2 K3 K4 B KB σ' ∧ Md σ σ' := by
  obtain ⟨a1, a2, a3, a4, a5⟩ := a
  have md : Md σ σ' := Md_S (Sm_A a5)
  obtain ⟨st1, st2, st3⟩ := mi.2.1.1
  have e5 : σ'.1 1902 = σ.1 1902 := a5.1 1902 (by decide)
  have n20 : sN σ' 20 = sN σ 20 := by show σ'.2.2.2.2.1 20 = _; rw [a5.2.2.2]
  have v := VI_20 mi.2.1 md (a5.2.2.1 23 (by decide)) ⟨a2, fun p hp => a3 p (HQ_c mi.1 hp).1⟩ (K' := K) (by rw [e5, n20]; exact st1) (by rw [n20]; exact st2) (by rw [e5, a5.2.2.1 20 (by decide)]; exact Rwk_g st3 ⟨a2, fun p hp => a3 p (HQ_c mi.1 hp).1⟩)
  exact ⟨MIn_d mi md a1 v mi.2.2.2.2.2.1 (by rw [e5]; exact mi.2.2.2.2.2.2.1.2), md⟩
/-- the top was replaced -/
theorem MIn_re (mi : MIn c g l t K K2 K3 K4 B KB σ) (hx : Gv g x) (hk : K (uN (σ.1 1902) - 1) = none) (h : ReO σ x σ') : MIn c g l t K K2 K3 K4 B KB σ' ∧ Md σ σ' := by
  obtain ⟨st1, st2, st3⟩ := mi.2.1.1
  obtain ⟨h1, h2, h3, h4⟩ := h
  have md : Md σ σ' := Md_S h1
  have n20 : sN σ' 20 = sN σ 20 := by show σ'.2.2.2.2.1 20 = _; rw [h2.2.2]
  have v := VI_20 mi.2.1 md (h1.2.2.1 23 (by decide)) ⟨fun _ z => z, fun p _ => by rw [h2.2.1]⟩ (K' := K) (by rw [h3, n20]; exact st1) (by rw [n20]; exact st2) (by
    rw [h3, h2.2.1]
    intro j hj
    rcases h4 with z | z
    · rw [z.1]; exact st3 j hj
    · rw [z.1]
      by_cases e : j = uN (σ.1 1902) - 1
      · rw [e, upd_same, hk]
        exact Rwn (hx)
      · rw [upd_other e]; exact st3 j hj)
  exact ⟨MIn_d mi md (HQ_fr mi.1 h2.1 h2.2.1 (by rw [h2.2.2])) v mi.2.2.2.2.2.1 (by rw [h3]; exact mi.2.2.2.2.2.2.1.2), md⟩
theorem c_isRoomN (h1 : uN (σ.1 1902) ≤ sN σ 20) (h2 : 1024 ≤ sN σ 20 ∧ sN σ 20 ≤ 91000) (hn : uN (L.1 1) ≤ 1000000) : Tm (fun k => f_X3_isRoomFor k 0 L σ) (fun q => q.1.2 = 1 ∨ (91000 < uN (σ.1 1902) + uN (L.1 1) ∧ q.2.1.1 1813 = 6)) := by
  have ea : uN (σ.1 1902 + L.1 1) = uN (σ.1 1902) + uN (L.1 1) := u_add (by omega)
  have b1 : ∀ σ' : CS, σ'.1 = σ.1 → sN σ' 20 ≤ 91000 → (sN σ' 20 < uN (σ.1 1902) + uN (L.1 1) → sN σ' 20 = 91000) → Tm (fun k => f_X3_isRoomFor k 1 L σ') (fun q => q.1.2 = 1 ∨ (91000 < uN (σ.1 1902) + uN (L.1 1) ∧ q.2.1.1 1813 = 6)) := by
    intro σ' e s hs
    refine Tm_suc (fun k => by rw [f_X3_isRoomFor]) ?_
    rw [e]
    refine Tm_ite (fun c => ?_) (fun c => ?_)
    · refine Tm_suc (fun k => by rw [f_X3_isRoomFor]) ?_
      exact Tm_some (Or.inl rfl)
    · have c' : ¬ σ.1 1902 + L.1 1 ≤ nI (sN σ' 20) := c
      rw [u_le (by omega) (by rw [u_n (by omega)]; omega), ea, u_n (by omega)] at c'
      have := hs (by omega)
      refine Tm_suc (fun k => by rw [f_X3_isRoomFor]) ?_
      exact Tm_some (Or.inr ⟨by omega, rfl⟩)
  refine Tm_suc (fun k => by rw [f_X3_isRoomFor]) ?_
  refine Tm_chk ⟨by decide, by decide, by omega⟩ ?_
  refine Tm_ite (fun c => ?_) (fun c => ?_)
  · refine Tm_adR ?_
    exact Tm_mono (b1 (uZ σ 20 91000) rfl (Nat.le_refl _) (fun _ => rfl)) (fun r q => q)
  · refine b1 σ rfl h2.2 (fun lt => ?_)
    rcases Nat.lt_or_ge (sN σ 20) 91000 with z | z
    · exfalso
      refine c ⟨?_, z⟩
      show nI (sN σ 20) < σ.1 1902 + L.1 1
      rw [u_ltn (by rw [u_n (by omega)]; omega) (by omega), ea, u_n (by omega)]
      exact lt
    · omega
theorem c_push2 (h1 : uN (σ.1 1902) ≤ sN σ 20) (h2 : 1024 ≤ sN σ 20 ∧ sN σ 20 ≤ 91000) : Tm (fun k => f_X3_push k 0 L σ) (fun q => PuO σ (L.1 1) 1 q ∧ (uN (q.2.1.1 1902) = uN (σ.1 1902) + 1 ∨ (¬ q.2.1.1 1813 = 0 ∧ uN (σ.1 1902) = 91000))) := by
  refine Tm_and (c_push h1 h2) ?_
  have b1 : ∀ σ' : CS, σ'.1 = σ.1 → uN (σ.1 1902) < sN σ' 20 → sN σ' 20 ≤ 91000 → Tm (fun k => f_X3_push k 1 L σ') (fun q => uN (q.2.1.1 1902) = uN (σ.1 1902) + 1 ∨ (¬ q.2.1.1 1813 = 0 ∧ uN (σ.1 1902) = 91000)) := by
    intro σ' e s s2
    refine Tm_suc (fun k => by rw [f_X3_push]) ?_
    refine Tm_chk (u_in (by rw [e]; omega) (by omega)) ?_
    refine Tm_suc (fun k => by rw [f_X3_push]) ?_
    refine Tm_some (Or.inl ?_)
    show uN (σ'.1 1902 + 1) = _
    rw [e]; exact u_inc (by omega)
  refine Tm_suc (fun k => by rw [f_X3_push]) ?_
  refine Tm_ite (fun c => ?_) (fun c => ?_)
  · have c' : σ.1 1902 < nI (sN σ 20) := c
    rw [u_ltn (by omega) (by rw [u_n (by omega)]; omega), u_n (by omega)] at c'
    exact b1 σ rfl (by omega) h2.2
  · refine Tm_oxc (Tm_and (c_isRoomFor h1 h2 (by show uN 1 ≤ _; decide)) (c_isRoomN h1 h2 (by show uN 1 ≤ _; decide))) (fun r q => q.1.1) (fun r q => ?_)
    obtain ⟨⟨q1, q2, σ', w, q3⟩, q4⟩ := q
    have z := Wz_20 w h1 h2
    rcases q3 with v | v
    · rw [v.1, v.2.1]
      refine Tm_no (by decide) ?_
      exact b1 σ' z.1 (by have := v.2.2; have e : uN ((lI lZ 1 1).1 1) = 1 := rfl; omega) z.2.2.1.2
    · rw [v.1]
      refine Tm_yes rfl ?_
      refine Tm_suc (fun k => by rw [f_X3_push]) ?_
      rcases q4 with y | y
      · rw [v.1] at y
        exact absurd y (by decide)
      · refine Tm_some (Or.inr ⟨?_, ?_⟩)
        · show ¬ r.2.1.1 1813 = 0
          rw [y.2]; decide
        · have e : uN ((lI lZ 1 1).1 1) = 1 := rfl
          omega
theorem c_replace2 (h : HQ g l t σ) (hx : Gv g (L.1 1)) (h1 : 1 ≤ uN (σ.1 1902)) (h2 : uN (σ.1 1902) ≤ sN σ 20) (h3 : sN σ 20 ≤ 91000) (w : uN (σ.1 1905) ≤ 60000) : Tm (fun k => y_X3_replace k 0 L σ) (fun r => ReO σ (L.1 1) r.2 ∧ (r.2.1 1813 = 0 → uN (r.2.1 1905) ≤ 60000)) := by
  refine Tm_and (c_replace h hx h1 h2 h3 w) ?_
  have u1 : uN (1 : Int32) = 1 := rfl
  have es : uN (σ.1 1902 - 1) = uN (σ.1 1902) - 1 := by rw [u_sub (by omega), u1]
  refine Tm_suc (fun k => by rw [y_X3_replace]) ?_
  refine Tm_oc c_isError (fun r q => ?_)
  have e : r.2 = σ := q.1.1
  rw [e]
  refine Tm_ite (fun _ => ?_) (fun _ => ?_)
  · refine Tm_suc (fun k => by rw [y_X3_replace]) ?_
    refine Tm_chk (u_in (by omega) (by omega)) ?_
    refine Tm_oc (c_size1 (HQ_f h (k := 20) (by decide) _) hx) (fun r2 q2 => ?_)
    have e2 : r2.2 = uA σ 20 (σ.1 1902 - 1).toNatClampNeg (L.1 1) := q2.1
    rw [e2]
    refine Tm_oc c_spend (fun r3 e3 => ?_)
    rw [e3]
    refine Tm_suc (fun k => by rw [y_X3_replace]) ?_
    refine Tm_some (fun z => ?_)
    have z' : (spS (uA σ 20 (σ.1 1902 - 1).toNatClampNeg (L.1 1)) r2.1).1 1813 = 0 := z
    show uN ((spS (uA σ 20 (σ.1 1902 - 1).toNatClampNeg (L.1 1)) r2.1).1 1905) ≤ _
    have w' : uN ((uA σ 20 (σ.1 1902 - 1).toNatClampNeg (L.1 1)).1 1905) ≤ 60000 := w
    generalize uA σ 20 (σ.1 1902 - 1).toNatClampNeg (L.1 1) = ρ at *
    have q3 := q2.2.2
    have e6 : uN (60000 : Int32) = 60000 := rfl
    have ea : uN (ρ.1 1905 + r2.1) = uN (ρ.1 1905) + uN r2.1 := u_add (by omega)
    unfold spS at z' ⊢
    split
    · rename_i cc
      rw [u_le (by omega) (by decide), e6] at cc
      exact cc
    · rename_i cc
      rw [if_neg cc] at z'
      exact absurd z' (by show ¬ (11 : Int32) = 0; decide)
  · refine Tm_oc c_fail (fun r2 e2 => ?_)
    rw [e2]
    refine Tm_suc (fun k => by rw [y_X3_replace]) ?_
    exact Tm_some (fun _ => w)
/-- midway: values above T are plain; T: where the stack ended -/
def Wj (c : Ct) (g : Nat → Prop) (l : List Nat) (t : Nat) (K K2 K3 K4 : Nat → Option Int32) (B : Nat) (KB K0 : Nat → Option Int32) (a T : Nat) (σ τ : CS) : Prop := MIn c g l t K K2 K3 K4 B KB τ ∧ (∀ p, p < a → K p = K0 p) ∧ (∀ p, a ≤ p → K p = none) ∧ (a ≤ T ∧ T ≤ uN (τ.1 1902)) ∧ (∀ j, ¬ (j = 1 ∨ j = 404 ∨ j = 1203 ∨ j = 1812 ∨ j = 1813 ∨ j = 1902 ∨ j = 1905 ∨ (2403 ≤ j ∧ j ≤ 2405)) → τ.1 j = σ.1 j) ∧ MFr σ τ ∧ (τ.1 1812 = 0 → uN (σ.1 1905) ≤ uN (τ.1 1905) ∧ uN (τ.1 1905) ≤ 60000) ∧ (τ.1 1813 = 0 → uN (τ.1 1905) ≤ 60000) ∧ (¬ τ.1 1812 = 0 → ¬ τ.1 1813 = 0)
/-- pins above the stack's top don't matter -/
def Kc (K : Nat → Option Int32) (s : Nat) : Nat → Option Int32 := fun p => if p < s then K p else none
theorem MIn_kc (mi : MIn c g l t K K2 K3 K4 B KB σ) : MIn c g l t (Kc K (uN (σ.1 1902))) K2 K3 K4 B KB σ := by
  have b := mi.2.2.2.2.2.2.1.2
  obtain ⟨m1, ⟨v1, v2⟩, m3, m4, m5, m6, m7⟩ := mi
  refine ⟨m1, ⟨⟨v1.1, v1.2.1, fun j hj => ?_⟩, v2⟩, m3, m4, m5, fun j hj => ?_, m7⟩
  · have e : Kc K (uN (σ.1 1902)) j = K j := if_pos hj
    rw [e]; exact v1.2.2 j hj
  · have e : Kc K (uN (σ.1 1902)) j = K j := if_pos (by omega)
    rw [e]; exact m6 j hj
theorem Wj_0 (p : Pre c g l t K K2 K3 K4 B KB f0 u0 σ fs u d r pb nf nc sq) (hk : ∀ p, a ≤ p → p < uN (σ.1 1902) → K p = none) (ha : a ≤ uN (σ.1 1902)) (v : Int32) : Wj c g l t (Kc K (uN (σ.1 1902))) K2 K3 K4 B KB (Kc K (uN (σ.1 1902))) a (uN (σ.1 1902)) (uI σ 1900 v) (uI σ 1900 v) := by
  have pi := Pre_i (j := 1900) p (by decide) v
  refine ⟨MIn_kc pi.1, fun _ _ => rfl, fun q hq => ?_, ⟨ha, Nat.le_refl _⟩, fun _ _ => rfl, MFr_r _, fun _ => ⟨Nat.le_refl _, p.2.2.1⟩, fun _ => p.2.2.1, fun z => absurd p.2.2.2.1 z⟩
  unfold Kc
  split
  · rename_i h
    exact hk q hq h
  · rfl
theorem Wj_rm (h : Wj c g l t K K2 K3 K4 B KB K0 a T σ τ) {q : RS} (z : RmO K K2 K3 K4 τ q) : ∃ (g' : Nat → Prop) (l' : List Nat) (t' : Nat), Wj c g' l' t' K K2 K3 K4 B KB K0 a T σ q.2.1 := by
  obtain ⟨h1, h2, h3, h4, h5, h6, h7, h8, h9⟩ := h
  obtain ⟨g', l', t', mi⟩ := MIn_rm h1 z
  have f := z.2.2.1
  have e : ∀ j, ¬ (j = 1 ∨ j = 2403 ∨ j = 2404 ∨ j = 2405) → q.2.1.1 j = τ.1 j := f.1.1
  refine ⟨g', l', t', mi, h2, h3, by rw [e 1902 (by decide)]; exact h4, fun j hj => (e j (by omega)).trans (h5 j hj), MFr_t h6 (MFr_R f), ?_, ?_, ?_⟩
  · rw [e 1812 (by decide), e 1905 (by decide)]; exact h7
  · rw [e 1813 (by decide), e 1905 (by decide)]; exact h8
  · rw [e 1812 (by decide), e 1813 (by decide)]; exact h9
theorem Wj_pu (h : Wj c g l t K K2 K3 K4 B KB K0 a T σ τ) (gx : Gv g x) {q : RS} (z : PuO τ x 1 q) (z2 : uN (q.2.1.1 1902) = uN (τ.1 1902) + 1 ∨ (¬ q.2.1.1 1813 = 0 ∧ uN (τ.1 1902) = 91000)) : Wj c g l t (Kw K (uN (τ.1 1902)) 1 none) K2 K3 K4 B KB K0 a T σ q.2.1 := by
  obtain ⟨h1, h2, h3, h4, h5, h6, h7, h8, h9⟩ := h
  obtain ⟨mi, md⟩ := pu_MK (mk := none) h1 (Or.inl ⟨rfl, gx⟩) z
  have z3 := z.2.2.1
  refine ⟨mi, fun p hp => by rw [Kw_o (Or.inl (by omega))]; exact h2 p hp, fun p hp => ?_, ⟨h4.1, ?_⟩, fun j hj => (z3.1 j (by omega)).trans (h5 j hj), MFr_t h6 (Md_M md), fun y => ?_, fun y => ?_, fun y => ?_⟩
  · unfold Kw
    split
    · rfl
    · exact h3 p hp
  · rcases z.2.2.2.2.2.2 with y | y
    · have := y.1
      omega
    · rw [y.1]; exact h4.2
  · rcases z.2.2.2.2.2.2 with v | v
    · rw [v.2.2.2.1] at y
      rw [v.2.2.2.2.2]; exact h7 y
    · rw [v.2.2.1] at y
      exact absurd y (by decide)
  · rcases z.2.2.2.2.2.2 with v | v
    · rw [v.2.2.2.2.1] at y
      rw [v.2.2.2.2.2]; exact h8 y
    · exact absurd y v.2.2.2.2
  · rcases z.2.2.2.2.2.2 with v | v
    · rw [v.2.2.2.1] at y
      rw [v.2.2.2.2.1]; exact h9 y
    · exact v.2.2.2.2
theorem Wj_ga (h : Wj c g l t K K2 K3 K4 B KB K0 a T σ τ) (ga : Ga g t τ g' l' t' τ') : Wj c g' l' t' K K2 K3 K4 B KB K0 a T σ τ' := by
  obtain ⟨h1, h2, h3, h4, h5, h6, h7, h8, h9⟩ := h
  obtain ⟨mi, md⟩ := MIn_Ga h1 ga
  have e := ga.2.2.2.2.1
  refine ⟨mi, h2, h3, by rw [e 1902 (by decide)]; exact h4, fun j hj => (e j (by omega)).trans (h5 j hj), MFr_t h6 (Md_M md), ?_, ?_, ?_⟩
  · rw [e 1812 (by decide), e 1905 (by decide)]; exact h7
  · rw [e 1813 (by decide), e 1905 (by decide)]; exact h8
  · rw [e 1812 (by decide), e 1813 (by decide)]; exact h9
theorem Wj_re (h : Wj c g l t K K2 K3 K4 B KB K0 a T σ τ) (gx : Gv g x) (ha : a + 1 ≤ uN (τ.1 1902)) (z : ReO τ x τ') (w : τ'.1 1813 = 0 → uN (τ'.1 1905) ≤ 60000) : Wj c g l t K K2 K3 K4 B KB K0 a T σ τ' := by
  obtain ⟨h1, h2, h3, h4, h5, h6, h7, h8, h9⟩ := h
  obtain ⟨mi, md⟩ := MIn_re h1 gx (h3 _ (by omega)) z
  refine ⟨mi, h2, h3, by rw [z.2.2.1]; exact h4, fun j hj => (z.1.1 j (by omega)).trans (h5 j hj), MFr_t h6 (Md_M md), fun y => ?_, w, fun y => ?_⟩
  · rcases z.2.2.2 with v | v
    · rw [v.2.1] at y
      exact absurd y (by decide)
    · rcases v.2.2 with v | v
      · rw [v.1] at y
        exact absurd y (by decide)
      · rw [v.1] at y
        have := h7 y
        omega
  · rcases z.2.2.2 with v | v
    · exact v.2.2
    · rcases v.2.2 with v2 | v2
      · exact v2.2
      · rw [v2.1] at y
        rcases v.2.1.2 with e | e
        · rw [e]; exact h9 y
        · exact e
end CTS
