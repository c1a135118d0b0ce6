section JnS285
/-! An exp is worked alone (reference): one state, twice. -/
section WKA
variable {T : Nat → Nat → Int32} {FN : Nat → Nat → Prop} {lc : Nat → Prop} {σ τ ρ : MS} {t X B h : Nat} {g : Nat → Prop} {l : List Nat} {x : Int32} {dr : Bool}
theorem T2_dg {f : Nat → Option (Int32 × MS)} {Q : Int32 × MS → Int32 × MS → Prop} (h : T2 f f Q) : Tm f (fun r => Q r r) := by
  obtain ⟨r1, r2, N, a, b, q⟩ := h
  have e : r1 = r2 := Option.some.inj ((a N (Nat.le_refl _)).symm.trans (b N (Nat.le_refl _)))
  subst e
  exact ⟨r1, N, a, q⟩
theorem Tm_pq {f : Nat → Option (Int32 × MS)} {P Q : Int32 × MS → Prop} (h : Tm f P) (q : ∀ k r, f k = some r → Q r) : Tm f (fun r => P r ∧ Q r) := by
  obtain ⟨r, N, a, b⟩ := h
  exact ⟨r, N, a, b, q N r (a N (Nat.le_refl _))⟩
theorem VC_rf (hS : HS g l B h σ) {y : Int32} (hx : Vd g y) : VC g g (σ.2.2 28) (σ.2.2 28) y y := by
  obtain ⟨m, e, hm⟩ := hx
  have b1 := hS.2.1
  have b2 := hS.2.2.2.1
  rw [e]
  exact VC_ev hS hS hm hm (EVb_gr hS.2.2.2.2 (by omega) (fun _ _ _ => rfl) hm)
theorem RA_rf (hM : MI t X g l B h σ) : RA t g g σ σ := ⟨fun a i z _ => VC_rf hM.1 (hM.2.2.1 a i z), fun _ _ _ _ _ => rfl, fun _ _ => rfl, rfl⟩
/-- as an exp is worked alone -/
def zA (σ : MS) : MS := mSc (mSc (mSc (mSc (mSc (mSc (mSc (mSc σ 59 0) 72 0) 57 0) 56 0) 67 0) 97 0) 68 0) 69 1
theorem zA_s {j : Nat} (h : ¬ (j = 59 ∨ j = 72 ∨ j = 57 ∨ j = 56 ∨ j = 67 ∨ j = 97 ∨ j = 68 ∨ j = 69)) : (zA σ).1 j = σ.1 j := by
  show upd (upd (upd (upd (upd (upd (upd (upd σ.1 59 0) 72 0) 57 0) 56 0) 67 0) 97 0) 68 0) 69 1 j = σ.1 j
  rw [upd_other (by omega), upd_other (by omega), upd_other (by omega), upd_other (by omega), upd_other (by omega), upd_other (by omega), upd_other (by omega), upd_other (by omega)]
theorem RtP_zA {a i : Nat} (h : RtP 0 (zA σ) a i) : RtP 0 σ a i := by
  unfold RtP at h ⊢
  rw [show (zA σ).2.2 = σ.2.2 from rfl, zA_s (j := 63) (by omega), show (zA σ).1 72 = 0 from rfl, show (0 : Int32).toNatClampNeg = 0 from by decide] at h
  rcases h with z | z | z | z | z | z
  · omega
  · exact Or.inr (Or.inl z)
  · exact Or.inr (Or.inr (Or.inl z))
  · exact Or.inr (Or.inr (Or.inr (Or.inl z)))
  · omega
  · exact Or.inr (Or.inr (Or.inr (Or.inr (Or.inr z))))
theorem UT_zA (hU : UT σ) : UT (zA σ) := UT_c hU rfl (zA_s (by omega)) (zA_s (by omega)) (zA_s (by omega))
theorem MI_zA (hM : MI 0 X g l B h σ) (hU : UT σ) : MI 0 400000 g l B h (zA σ) := by
  obtain ⟨m1, ⟨P, e, q1, q2, q3, q4, q5, q6⟩, m3, m4⟩ := hM
  have h1 : HS g l B h (zA σ) := HS_c m1 (zA_s (by omega)) (zA_s (by omega)) rfl
  have h2 : RtQ (zA σ) := ⟨P, 0, (zA_s (by omega)).trans q1, q2, rfl, by omega, q5, q6⟩
  have h3 : ∀ a i, RtP 0 (zA σ) a i → Vd g ((zA σ).2.2 a i) := fun a i z => m3 a i (RtP_zA z)
  exact ⟨h1, h2, h3, lv_all h1 h2 h3 (UT_zA hU) rfl⟩
theorem STb_zA (hS : STb T FN σ) : STb T FN (zA σ) := STb_b hS (fun j hj => zA_s (by omega)) (fun _ _ _ => rfl)
theorem Qt_F : Qt dr lcF := ⟨by unfold lcF; omega, fun z => absurd z (by unfold lcF; omega)⟩
/-- a quiet tree may be evaluated: nothing is open -/
theorem Qd_0 (hS : STb T FN σ) (h72 : σ.1 72 = 0) : Qd T FN dr 0 σ := by
  refine ⟨fun a i a4 a9 hi => hS.1 a i a4 (by omega) ⟨fun _ => hi, fun z => by omega⟩, fun fn m z => ?_, by rw [h72]; decide, fun i hi => absurd hi (Nat.not_lt_zero i)⟩
  obtain ⟨z1, _, _, F, b, z3, _, z5⟩ := hS.2.1 fn m z
  exact ⟨by omega, by rw [z3]; exact ⟨_, _, _, _, lcF, Qt_F, z5⟩⟩
theorem s_workAlone (hM : MI 0 X g l B h σ) (hU : UT σ) (hS : STb T FN σ) (ty : TyT (σ.2.2 2)) (h95 : ∃ a, σ.1 95 = nI a ∧ a ≤ 1000000) (hlc : ∀ s, s < 60 → ¬ lc (1 + s)) (hW : Wx0 T FN lc x) (hq : ∃ F O r K, WN T FN F 0 O r K lc x ∧ Qt dr lc) {L : Nat → Int32} (d1 : L 1 = x) : Tm (fun k => x_workAlone k 0 L σ) (fun r => ∃ ρ, r = (0, mSc ρ 69 0) ∧ FE (zA σ) ρ ∧ UT ρ ∧ ((∃ w', EI 1 w' 400000 ρ ρ) ∨ EZ 0 179300 ρ) ∧ K0 dr σ ρ ∧ kv ρ = kv σ) := by
  have m0 := MI_zA hM hU
  have u0 := UT_zA hU
  obtain ⟨_, _, _, _, _, _, _, _, _, _, ⟨c, c1, c2, _⟩, _⟩ := id u0
  have c1 : (zA σ).2.2 30 1 = nI c := c1
  have sc0 : Sc0 T FN lc (zA σ) := ⟨STb_zA hS, rfl, by omega, rfl, by omega, rfl, ⟨c, c1, c2, fun _ => Or.inl rfl, fun s hs z => absurd z (hlc s hs), fun s hs z z69 => absurd (show (1 : Int32) = 0 from z69) (by decide)⟩, Or.inr ⟨rfl, rfl⟩⟩
  refine Tm_suc (fun k => by rw [x_workAlone]) ?_
  refine Tm_suc (fun k => by rw [x_workAlone]) ?_
  refine Tm_suc (fun k => by rw [x_workAlone]) ?_
  refine Tm_suc (fun k => by rw [x_workAlone]) ?_
  refine Tm_suc (fun k => by rw [x_workAlone]) ?_
  refine Tm_suc (fun k => by rw [x_workAlone]) ?_
  refine Tm_suc (fun k => by rw [x_workAlone]) ?_
  refine Tm_suc (fun k => by rw [x_workAlone]) ?_
  show Tm (fun k => x_workAlone k 8 L (zA σ)) _
  refine Tm_suc (fun k => by rw [x_workAlone]) ?_
  refine Tm_ob (Tm_pq (Tm_pq (T2_dg (E_sw4 m0 m0 (RA_rf m0) rfl rfl rfl rfl rfl rfl ⟨ty, rfl⟩ (by obtain ⟨a, a1, a2⟩ := h95; exact ⟨a, (zA_s (by omega)).trans a1, a2⟩))) (fun k r e => kr_sweep (dr := dr) k _ _ _ r e)) (fun k r e => kv_sweep k _ _ _ r e)) (fun r1 hr1 => ?_)
  obtain ⟨⟨⟨f1, _, e1⟩, k1⟩, v1⟩ := hr1
  rw [d1]
  obtain ⟨F, O, r, K, hWq, hQt⟩ := hq
  have h72 : r1.2.1 72 = 0 := f1.1 72 (by unfold AlS; omega) (by decide) (by decide) (by decide)
  refine Tm_ob (Tm_pq (Tm_pq (T2_dg (E_eval (x := x) (L1 := upd (fun _ => 0) 1 x) (L2 := upd (fun _ => 0) 1 x) (by omega) (by omega) (Sc0_fe sc0 f1) hW e1 rfl rfl)) (fun k r e => ((qv_all k).1 1300 4 0 _ _ 0 (by decide) ⟨Qd_0 (dr := dr) (STb_fe (STb_zA hS) f1) h72, (show qN T FN dr 0 x from ⟨_, _, _, _, lc, hQt, hWq⟩)⟩) r e)) (fun k r e => kv_eval k _ _ _ r e)) (fun r2 hr2 => ?_)
  obtain ⟨⟨⟨f2, _, e2⟩, ⟨M', _, k2, _⟩⟩, v2⟩ := hr2
  have fe := FE_tr f1 f2
  have u2 := UT_fe fe u0
  have u3 : UT (mSc r2.2 69 0) := UT_c u2 rfl rfl rfl rfl
  have fin : ∃ ρ, ((0 : Int32), mSc r2.2 69 0) = (0, mSc ρ 69 0) ∧ FE (zA σ) ρ ∧ UT ρ ∧ ((∃ w', EI 1 w' 400000 ρ ρ) ∨ EZ 0 179300 ρ) ∧ K0 dr σ ρ ∧ kv ρ = kv σ := by
    refine ⟨r2.2, rfl, fe, u2, ?_, K0_tr (K0_tr (show K0 dr σ (zA σ) from ⟨fun _ => rfl, zA_s (by omega)⟩) (K0_k k1)) k2, ?_⟩
    · rcases e2 with ⟨w', _, z⟩ | z
      · exact Or.inl ⟨w', z⟩
      · exact Or.inr z.1
    · rw [v2, v1]; rfl
  have ten : ∀ N : Nat → Int32, Tm (fun k => x_workAlone k 10 N (mSc r2.2 69 0)) (fun r => ∃ ρ, r = (0, mSc ρ 69 0) ∧ FE (zA σ) ρ ∧ UT ρ ∧ ((∃ w', EI 1 w' 400000 ρ ρ) ∨ EZ 0 179300 ρ) ∧ K0 dr σ ρ ∧ kv ρ = kv σ) := fun N => Tm_suc (fun k => by rw [x_workAlone]) (Tm_some fin)
  show Tm (fun k => x_workAlone k 9 L (mSc r2.2 69 0)) _
  refine Tm_suc (fun k => by rw [x_workAlone]) ?_
  refine Tm_ite (fun _ => ten L) (fun _ => ?_)
  refine Tm_ob (s_forget u3 _) (fun r3 hr3 => ?_)
  rw [hr3]
  exact ten L
end WKA
end JnS285
section JnS286
/-! A run is left alone (reference): what is asked in between doesn't change where it stands. -/
/-- the run of ω is the run of σ -/
def AEq (σ ω : MS) : Prop := (∀ j, j = 22 ∨ j = 24 ∨ (63 ≤ j ∧ j ≤ 66) ∨ j = 95 ∨ (102 ≤ j ∧ j ≤ 106) ∨ j = 110 ∨ j = 112 ∨ j = 30 ∨ j = 44 → ω.1 j = σ.1 j) ∧ ω.1 68 = 0 ∧ (∀ a i, 30 ≤ a → a ≤ 32 → ¬ Zn a i → ω.2.2 a i = σ.2.2 a i) ∧ (∀ a i, ((a = 10 ∨ a = 11 ∨ (17 ≤ a ∧ a ≤ 21)) ∧ ¬ StU (σ.1 30) (σ.1 44) (σ.2.2 21) a i) ∨ (4 ≤ a ∧ a ≤ 9 ∧ (1 ≤ i ∧ i < (σ.1 22).toNatClampNeg)) ∨ (a = 12 ∧ i < (σ.1 24).toNatClampNeg) ∨ (a = 19 ∧ i < 8 * (σ.1 30).toNatClampNeg ∧ i % 8 < (σ.2.2 18 (i / 8)).toNatClampNeg) → ω.2.2 a i = σ.2.2 a i) ∧ ω.2.2 2 = σ.2.2 2 ∧ (∀ a i, (a = 30 ∧ StI (σ.2.2 30) 0 i) ∨ (a = 31 ∧ ∃ p, p < (σ.1 63).toNatClampNeg ∧ StI (σ.2.2 31) (11514 * p) i) → szV ω a i = szV σ a i ∧ SVb σ ω a i) ∧ (∀ i, i < 1380 → ω.2.2 33 i = 0) ∧ ω.2.1 96 = σ.2.1 96 ∧ ω.2.1 113 = σ.2.1 113
section AES
variable {T : Nat → Nat → Int32} {FN : Nat → Nat → Prop} {S : Nat → Nat → Nat → Nat → Prop} {σ ω r : MS} {C K : Nat → Int32} {e0 z0 x66 : Int32} {sd : Int64} {m : Nat}
theorem hd_ae (a : AEq σ ω) (u : Nat) (hu : u < 42) : hdU (σ.1 30) (ω.2.2 21) u = hdU (σ.1 30) (σ.2.2 21) u := by
  unfold hdU
  by_cases z : u ≤ (σ.1 30).toNatClampNeg
  · rw [if_pos z, if_pos z, a.2.2.2.1 21 u (Or.inl ⟨by omega, by unfold StU; omega⟩)]
  · rw [if_neg z, if_neg z]
theorem kC_ae (a : AEq σ ω) (i : Nat) : kC ω i = kC σ i := by
  unfold kC
  by_cases c : 2520 ≤ i
  · rw [if_pos (Or.inl c), if_pos (Or.inl c)]
  rw [a.1 30 (by omega), hd_ae a (i / 60) (by omega)]
  by_cases z : hdU (σ.1 30) (σ.2.2 21) (i / 60) ≤ i % 60
  · rw [if_pos (Or.inr z), if_pos (Or.inr z)]
  · rw [if_neg (fun y => by omega), if_neg (fun y => by omega)]
    exact a.2.2.2.1 20 i (Or.inl ⟨by omega, by unfold StU; omega⟩)
theorem Bz_ae (a : AEq σ ω) (h : Bz T FN σ) : Bz T FN ω := by
  obtain ⟨b1, b2, b3⟩ := h
  refine ⟨STb_b b1 (fun j hj => a.1 j (by omega)) (fun x i h => a.2.2.2.1 x i (by unfold StU; omega)), fun x i h1 h2 h3 => ?_, fun i => (kC_ae a i).trans (b3 i)⟩
  have e30 : (σ.1 30).toNatClampNeg = CNo T % 42 := by rw [b1.2.2.2.2.2.1, n_cl (p := CNo T % 42) (by omega)]
  by_cases e19 : x = 19
  · rw [a.2.2.2.1 x i (Or.inr (Or.inr (Or.inr ⟨e19, by rw [e30]; omega, by rw [b2 18 (i / 8) (by omega) (by omega) (by omega)]; omega⟩)))]; exact b2 x i h1 h2 h3
  · rw [a.2.2.2.1 x i (Or.inl ⟨by omega, by unfold StU; rw [e30]; omega⟩)]; exact b2 x i h1 h2 h3
theorem RIc_ae (a : AEq σ ω) (hM : ∃ (g : Nat → Prop) (l : List Nat) (B h X : Nat), MI 0 X g l B h ω) (h : RIc T FN C K e0 z0 x66 0 sd σ) : RIc T FN C K e0 z0 x66 0 sd ω := by
  obtain ⟨_, q2, q3, q4, q5, q6, q7, q8, q9, q10⟩ := h
  have hB := Bz_ae a q2
  obtain ⟨a1, a2, a3, a4, a5, a6, a7, a8, a9⟩ := a
  refine ⟨hM, hB, a7, ⟨q4.1, a5.trans q4.2⟩, trivial, (a1 110 (by omega)).trans q6, fun z => ?_, (a1 66 (by omega)).trans q8, a2, a9.trans q10⟩
  · rw [a3 30 0 (by omega) (by omega) (by unfold Zn; omega)]; exact q7 z
theorem Pos_ae (hW : SWf T FN S) {c un d v n : Nat} {F : List Nat} (a : AEq σ ω) (h : Pos T S c un d v n F σ) : Pos T S c un d v n F ω := by
  obtain ⟨_, _, _, b3, b4⟩ := Pos_b hW h
  obtain ⟨h1, h2, h3, h4, h5, h6, h7⟩ := h
  have e : ∀ i, ¬ Zn 30 i → ω.2.2 30 i = σ.2.2 30 i := fun i hi => a.2.2.1 30 i (by omega) (by omega) hi
  refine ⟨h1, (e 1 (by unfold Zn; omega)).trans h2, LVs_c h1 (fun i a b => e i (by unfold Zn; omega)) h3, (e 2 (by unfold Zn; omega)).trans h4, FSk_c (by omega) (fun i a b => e i (by unfold Zn; omega)) h5, (e 3 (by unfold Zn; omega)).trans h6, fun i hi => ?_⟩
  have hs := (a.2.2.2.2.2.1 30 (5314 + i) (Or.inl ⟨rfl, Or.inr (Or.inr ⟨by omega, by rw [show 0 + 3 = 3 from rfl, h6, n_cl (p := suI T F) (by omega)]; omega⟩)⟩)).1
  rw [hs, e (8414 + i) (by unfold Zn; omega)]
  exact h7 i hi
theorem PtQ_ae (a : AEq σ ω) (h : PtQ T S σ) : PtQ T S ω := by
  have e : ∀ p i, i < 4 ∨ (64 ≤ i ∧ i < 214) ∨ (3214 ≤ i ∧ i < 5314) → ω.2.2 31 (11514 * p + i) = σ.2.2 31 (11514 * p + i) := fun p i hi => a.2.2.1 31 _ (by omega) (by omega) (by unfold Zn; omega)
  intro p hp
  rw [a.1 63 (by omega)] at hp
  obtain ⟨c, un, d, v, n, F, h1, h2, h3⟩ := h p hp
  exact ⟨c, un, d, v, n, F, PlA_c h1 (fun i hi => e p i hi), (e p 0 (by omega)).trans h2, h3⟩
theorem InA_ae (a : AEq σ ω) (x i : Nat) : InA (zB ω 0 0) x i ↔ InA (zB σ 0 0) x i := by
  refine InA_c (σ := zB σ 0 0) (ρ := zB ω 0 0) ?_ rfl ?_ ?_ ?_ ?_ (fun u hu => ?_) (fun j hj => a.2.2.1 30 j (by omega) (by omega) (by unfold Zn; omega)) (fun p _ j hj => a.2.2.1 31 _ (by omega) (by omega) (by unfold Zn; omega)) x i
  · rw [zB_s (by omega), zB_s (by omega)]; exact a.1 63 (by omega)
  · rw [zB_s (by omega), zB_s (by omega)]; exact a.1 22 (by omega)
  · rw [zB_s (by omega), zB_s (by omega)]; exact a.1 24 (by omega)
  · rw [zB_s (by omega), zB_s (by omega)]; exact a.1 30 (by omega)
  · rw [zB_s (by omega), zB_s (by omega)]; exact a.1 44 (by omega)
  · rw [zB_s (by omega)]; exact hd_ae a u hu
/-- a value that holds what another held -/
theorem VC_ae {g1 g2 g : Nat → Prop} {H : Nat → Int32} {y : Int32} {x i : Nat} (hs : SVb σ ω x i) (h : VC g1 g2 (σ.2.2 28) H (σ.2.2 x i) y) {l : List Nat} {B h' : Nat} (hS : HS g l B h' ω) (hv : Vd g (ω.2.2 x i)) : VC g g2 (ω.2.2 28) H (ω.2.2 x i) y := by
  obtain ⟨m, m', q1, q2, q3, q4, q5, q6, q7⟩ := h
  obtain ⟨k, k1, k2⟩ := hv
  have kb := HS_vb hS k2
  refine ⟨k, m', k1, k2, q3, q4, ?_, kb, q7⟩
  rcases hs with z | ⟨z1, z2⟩
  · rw [q1, k1, n_cl (p := m) (by omega), n_cl (p := k) (by omega)] at z
    exact EVb_tr (EVb_sy z) q5
  · have e : k = m := (n_eq (by omega) (by omega)).mp (k1.symm.trans (z2.trans q1))
    rw [z1, e]; exact q5
theorem RA_ae {g1 g2 g : Nat → Prop} {l : List Nat} {B h X : Nat} (a : AEq σ ω) (h68 : σ.1 68 = 0) (h33 : ∀ i, i < 1380 → σ.2.2 33 i = 0) (hM : MI 0 X g l B h ω) (hR : RA 0 g1 g2 (zB σ 0 0) (zB r 0 0)) : RA 0 g g2 (zB ω 0 0) (zB r 0 0) := by
  have ia := InA_ae a
  obtain ⟨a1, a2, a3, a4, a5, a6, a7, a8, a9⟩ := a
  obtain ⟨r1, r2, r3, r4⟩ := hR
  have s63 : (zB ω 0 0).1 63 = σ.1 63 := (zB_s (by omega)).trans (a1 63 (by omega))
  refine ⟨fun x i z hv => ?_, fun x i hx hz hn => ?_, fun j hj => ?_, ?_⟩
  · have zω := RtP_z z
    have vd := hM.2.2.1 x i zω
    show VC g g2 (ω.2.2 28) (r.2.2 28) (ω.2.2 x i) (r.2.2 x i)
    unfold RtP at z
    rw [s63, show (zB ω 0 0).1 72 = 0 from rfl, show (0 : Int32).toNatClampNeg = 0 from by decide] at z
    have e30 : ∀ j, j = 1 ∨ j = 3 → ω.2.2 30 j = σ.2.2 30 j := fun j hj => a3 30 j (by omega) (by omega) (by unfold Zn; omega)
    have e31 : ∀ p j, j = 1 ∨ j = 3 → ω.2.2 31 (11514 * p + j) = σ.2.2 31 (11514 * p + j) := fun p j hj => a3 31 _ (by omega) (by omega) (by unfold Zn; omega)
    rcases z with z | ⟨z, y⟩ | ⟨z, p, hp, y⟩ | z | z | z | z | z | z
    · omega
    · have y' : StI (σ.2.2 30) 0 i := (StI_c (A := σ.2.2 30) (e30 1 (by omega)) (e30 3 (by omega))).mp y
      rw [z] at vd ⊢
      exact VC_ae (a6 30 i (Or.inl ⟨rfl, y'⟩)).2 (r1 30 i (Or.inr (Or.inl ⟨rfl, y'⟩)) (by unfold VwR; omega)) hM.1 vd
    · have y' : StI (σ.2.2 31) (11514 * p) i := (StI_c (A := σ.2.2 31) (e31 p 1 (by omega)) (e31 p 3 (by omega))).mp y
      rw [z] at vd ⊢
      exact VC_ae (a6 31 i (Or.inr ⟨rfl, p, hp, y'⟩)).2 (r1 31 i (Or.inr (Or.inr (Or.inl ⟨rfl, p, by rw [zB_s (by omega)]; exact hp, y'⟩))) (by unfold VwR; omega)) hM.1 vd
    · have v := r1 33 i (Or.inr (Or.inr (Or.inr (Or.inl ⟨rfl, z.2⟩)))) (by unfold VwR; omega)
      have v0 : r.2.2 33 i = 0 := (VC_0 v).mp (h33 i z.2)
      rw [z.1, a7 i z.2, v0]; exact VC_00
    · omega
    · exact absurd (Or.inl z.1) hv
    · exact absurd (Or.inr (Or.inl z.1)) hv
    · exact absurd (Or.inr (Or.inr (Or.inl z.1))) hv
    · exact absurd (Or.inr (Or.inr (Or.inr z.1))) hv
  · have hn' : ¬ InA (zB σ 0 0) x i := fun z => hn ((ia x i).mpr z)
    have hs := r2 x i hx hz hn'
    refine Eq.trans ?_ hs
    show ω.2.2 x i = σ.2.2 x i
    by_cases c : 30 ≤ x ∧ x ≤ 32
    · exact a3 x i c.1 c.2 hz
    · exact a4 x i ((InA_zz hx (fun z => c ⟨z.1, z.2⟩) hz hn').imp id (fun z => z.imp id Or.inl))
  · rw [← r3 j hj]
    by_cases c : j = 57 ∨ j = 59 ∨ j = 72 ∨ j = 56 ∨ j = 67 ∨ j = 97 ∨ j = 69
    · rw [zB_0 c, zB_0 c]
    by_cases e3 : j = 103
    · rw [e3]; rfl
    by_cases e4 : j = 104
    · rw [e4]; rfl
    rw [zB_s (by omega), zB_s (by omega)]
    by_cases e8 : j = 68
    · rw [e8]; exact a2.trans h68.symm
    · exact a1 j (by unfold AlS at hj; omega)
  · show ω.2.1 96 = r.2.1 96
    exact a8.trans r4
theorem IV0_ae (a : AEq σ ω) (h68 : σ.1 68 = 0) (hM : ∃ (g : Nat → Prop) (l : List Nat) (B h X : Nat), MI 0 X g l B h ω) (hU : UT ω) (h : IV0 T FN S σ r) : IV0 T FN S ω r := by
  obtain ⟨⟨g1, l1, B1, h1, X1, g2, l2, B2, h2, X2, m1, m2, hR⟩, q1, q2, ⟨x, x1, x2⟩, U1, U2, b1, b2, p, ⟨y, y1, y2⟩⟩ := h
  obtain ⟨g, l, B, h', X, mω⟩ := hM
  obtain ⟨_, _, _, _, _, _, _, _, _, o3, _⟩ := U1
  exact ⟨⟨g, l, B, h', X, g2, l2, B2, h2, X2, mω, m2, RA_ae a h68 o3 mω hR⟩, (a.1 103 (by omega)).trans q1, ⟨by rw [a.2.2.2.2.1]; exact q2.1, a.2.2.2.2.1.trans q2.2⟩, ⟨x, (a.1 95 (by omega)).trans x1, x2⟩, hU, U2, Bz_ae a b1, b2, PtQ_ae a p, ⟨y, (a.1 106 (by omega)).trans y1, y2⟩⟩
theorem IVs_ae (hW : SWf T FN S) (a : AEq σ ω) (h68 : σ.1 68 = 0) (hM : ∃ (g : Nat → Prop) (l : List Nat) (B h X : Nat), MI 0 X g l B h ω) (hU : UT ω) (h : IVs T FN S σ r) : IVs T FN S ω r := by
  obtain ⟨h1, h4⟩ := h
  refine ⟨IV0_ae a h68 hM hU h1, h4.imp (fun z => ?_) (fun z => (a.1 102 (by omega)).trans z)⟩
  obtain ⟨c, un, d, v, n, F, hP, h0⟩ := z
  exact ⟨c, un, d, v, n, F, Pos_ae hW a hP, (a.2.2.1 30 0 (by omega) (by omega) (by unfold Zn; omega)).trans h0⟩
/-- a run stands where it stood -/
theorem PSt_ae (hW : SWf T FN S) (a : AEq σ ω) (hM : ∃ (g : Nat → Prop) (l : List Nat) (B h X : Nat), MI 0 X g l B h ω) (hU : UT ω) (h : PSt T FN S C K e0 z0 x66 0 sd m σ) : PSt T FN S C K e0 z0 x66 0 sd m ω := by
  obtain ⟨q1, q2, q3, q4⟩ := h
  have h68 : σ.1 68 = 0 := q1.2.2.2.2.2.2.2.2.1
  refine ⟨RIc_ae a hM q1, ⟨(a.1 103 (by omega)).trans q2.1, fun σ' hR' => ?_⟩, q3, q4⟩
  obtain ⟨r, N, y1, y2, y3⟩ := q2.2 σ' hR'
  exact ⟨r, N, y1, y2, y3.imp (fun z => IVs_ae hW a h68 hM hU z) (fun z => ⟨hU, (a.1 102 (by omega)).trans z.2.1, by obtain ⟨x, x1, x2⟩ := z.2.2; exact ⟨x, (a.1 95 (by omega)).trans x1, x2⟩⟩)⟩
/-- the totals of a run that is left alone -/
theorem PSt_UT (h : PSt T FN S C K e0 z0 x66 0 sd m σ) : UT σ ∧ ∃ a, σ.1 95 = nI a ∧ a ≤ 1000000 := by
  obtain ⟨q1, q2, q3, q4⟩ := h
  obtain ⟨r, N, y1, y2, y3⟩ := q2.2 σ q1
  rcases y3 with y | y
  · obtain ⟨_, _, _, x, U, _⟩ := y.1
    exact ⟨U, x⟩
  · exact ⟨y.1, y.2.2⟩
end AES
end JnS286
section JnS287
/-! A value is shown (reference). -/
/-- what showing v leaves -/
def ShF (σ : MS) (v : Int32) (ω : MS) : Prop := (∀ j, ¬ (j = 79 ∨ j = 84 ∨ j = 93 ∨ j = 120) → ω.1 j = σ.1 j) ∧ ω.2.1 = σ.2.1 ∧ (∀ a, ¬ (a = 40 ∨ a = 42 ∨ a = 48 ∨ a = 49 ∨ a = 57) → ω.2.2 a = σ.2.2 a) ∧ ω.2.2 40 0 = v ∧ ω.2.2 40 1 = σ.2.2 40 0 ∧ (∃ q, ω.1 120 = nI q ∧ q ≤ 12000) ∧ ω.1 79 = σ.1 79 + 1
section SHW
variable {σ ω : MS} {t X B h : Nat} {g : Nat → Prop} {l : List Nat} {L : Nat → Int32}
theorem s_show (hS : HS g l B h σ) {a : Nat} (ha : a < 3 ∨ g a) (d1 : L 1 = nI a) : Tm (fun k => x_show k 0 L σ) (fun r => ShF σ (nI a) r.2) := by
  refine Tm_suc (fun k => by rw [x_show]) ?_
  refine Tm_chk (by decide) ?_
  refine Tm_chk (by decide) ?_
  rw [show (0 : Int32).toNatClampNeg = 0 from by decide, show (1 : Int32).toNatClampNeg = 1 from by decide]
  show Tm (fun k => x_show k 1 L (mAr σ 40 1 (σ.2.2 40 0))) _
  refine Tm_suc (fun k => by rw [x_show]) ?_
  refine Tm_chk (by decide) ?_
  rw [show (0 : Int32).toNatClampNeg = 0 from by decide, d1]
  show Tm (fun k => x_show k 2 L (mAr (mAr σ 40 1 (σ.2.2 40 0)) 40 0 (nI a))) _
  refine Tm_suc (fun k => by rw [x_show]) ?_
  show Tm (fun k => x_show k 3 L (mSc (mAr (mAr σ 40 1 (σ.2.2 40 0)) 40 0 (nI a)) 79 (σ.1 79 + 1))) _
  refine Tm_suc (fun k => by rw [x_show]) ?_
  show Tm (fun k => x_show k 4 L (mSc (mSc (mAr (mAr σ 40 1 (σ.2.2 40 0)) 40 0 (nI a)) 79 (σ.1 79 + 1)) 93 0)) _
  -- the state before it is printed
  obtain ⟨τ, hτ⟩ : ∃ τ, τ = mSc (mSc (mAr (mAr σ 40 1 (σ.2.2 40 0)) 40 0 (nI a)) 79 (σ.1 79 + 1)) 93 0 := ⟨_, rfl⟩
  rw [← hτ]
  have s0 : ∀ j, ¬ (j = 79 ∨ j = 93) → τ.1 j = σ.1 j := fun j hj => by
    rw [hτ]
    show upd (upd σ.1 79 _) 93 0 j = _
    rw [upd_other (by omega), upd_other (by omega)]
  have r0 : ∀ b, b ≠ 40 → τ.2.2 b = σ.2.2 b := fun b hb => by
    rw [hτ]
    show (mAr (mAr σ 40 1 _) 40 0 _).2.2 b = _
    rw [mAr_o hb, mAr_o hb]
  have v0 : τ.2.2 40 0 = nI a := by
    rw [hτ]
    show (mAr (mAr σ 40 1 _) 40 0 _).2.2 40 0 = _
    rw [mAr_s, upd_same]
  have v1 : τ.2.2 40 1 = σ.2.2 40 0 := by
    rw [hτ]
    show (mAr (mAr σ 40 1 _) 40 0 _).2.2 40 1 = _
    rw [mAr_s, upd_other (by decide), mAr_s, upd_same]
  have l0 : τ.2.1 = σ.2.1 := by rw [hτ]; rfl
  have c79 : τ.1 79 = σ.1 79 + 1 := by rw [hτ]; rfl
  have c93 : τ.1 93 = nI 0 := by rw [hτ]; rfl
  have hS' : HS g l B h τ := HS_c hS (s0 54 (by decide)) (s0 55 (by decide)) (r0 28 (by decide))
  have sz := (szN_b hS' ha).2.1
  refine Tm_suc (fun k => by rw [x_show]) ?_
  refine Tm_ob (Tm_pq (s_printV hS' ha c93 (by omega) (show (upd (upd (fun _ => 0) 1 (L 1)) 2 0 : Nat → Int32) 1 = nI a from d1)) (fun k r e => wl_print k _ _ _ r e)) (fun r1 hr1 => ?_)
  obtain ⟨⟨pf, q, q1, _, q2⟩, lw⟩ := hr1
  show Tm (fun k => x_show k 5 L (mSc r1.2 120 (r1.2.1 93))) _
  refine Tm_suc (fun k => by rw [x_show]) ?_
  rw [q1]
  have hq : q ≤ 12000 := by omega
  -- the text is copied
  have lp : ∀ (d i : Nat) (N : Nat → Int32) (υ : MS), d + i = q → N 2 = nI i → (∀ j, υ.1 j = (mSc r1.2 120 (nI q)).1 j) → υ.2.1 = r1.2.2.1 → (∀ b, b ≠ 57 → υ.2.2 b = r1.2.2.2 b) → Tm (fun k => x_show k 6 N υ) (fun r => ShF σ (nI a) r.2) := by
    intro d
    induction d with
    | zero =>
      intro i N υ hi n2 us ul ur
      have i93 : υ.1 93 = nI q := (us 93).trans q1
      refine Tm_suc (fun k => by rw [x_show]) ?_
      rw [n2, i93]
      refine Tm_ite (fun _ => ?_) (fun z => absurd ((n_le (by omega) (by omega)).mpr (by omega)) z)
      refine Tm_suc (fun k => by rw [x_show]) ?_
      refine Tm_some ⟨fun j hj => ?_, ?_, fun b hb => ?_, ?_, ?_, ⟨q, us 120, hq⟩, ?_⟩
      · show υ.1 j = _
        rw [us j]
        show upd r1.2.1 120 (nI q) j = _
        rw [upd_other (by omega), pf.1 j (by omega), s0 j (by omega)]
      · exact ul.trans (lw.trans l0)
      · show υ.2.2 b = _
        rw [ur b (by omega), pf.2 b (by omega), r0 b (by omega)]
      · show υ.2.2 40 0 = _
        rw [ur 40 (by decide), pf.2 40 (by decide)]; exact v0
      · show υ.2.2 40 1 = _
        rw [ur 40 (by decide), pf.2 40 (by decide)]; exact v1
      · show υ.1 79 = _
        rw [us 79]
        show upd r1.2.1 120 (nI q) 79 = _
        rw [upd_other (by decide), pf.1 79 (by decide)]; exact c79
    | succ d ih =>
      intro i N υ hi n2 us ul ur
      have i93 : υ.1 93 = nI q := (us 93).trans q1
      refine Tm_suc (fun k => by rw [x_show]) ?_
      rw [n2, i93]
      refine Tm_ite (fun z => absurd ((n_le (by omega) (by omega)).mp z) (by omega)) (fun _ => ?_)
      refine Tm_chk (n_in (by omega) (by omega)) ?_
      refine Tm_chk (n_in (by omega) (by omega)) ?_
      rw [n_cl (p := i) (by omega)]
      show Tm (fun k => x_show k 7 N (mAr υ 57 i (υ.2.2 48 i))) _
      refine Tm_suc (fun k => by rw [x_show]) ?_
      rw [n2, n_add1]
      exact ih (i + 1) _ _ (by omega) rfl (fun j => us j) ul (fun b hb => (mAr_o hb).trans (ur b hb))
  exact lp q 0 _ _ (by omega) rfl (fun j => rfl) rfl (fun b hb => rfl)
end SHW
end JnS287
section JnS288
/-! An exp is laid behind the program, worked, and forgotten (reference): tables, what stays. -/
/-- the tables with an exp laid behind them -/
def Tw (T : Nat → Nat → Int32) (b' : BT) (ρ : MS) (a i : Nat) : Int32 := if a = 98 then (if i = 1 then nI b'.1 else if i = 2 then nI b'.2.1 else T 98 i) else if a = 20 then (if 2520 ≤ i then b'.2.2.2.2 i else T 20 i) else if (4 ≤ a ∧ a ≤ 9) ∨ a = 12 then ρ.2.2 a i else T a i
section TWS
variable {T : Nat → Nat → Int32} {FN : Nat → Nat → Prop} {σ ρ ω τ : MS} {b b' : BT} {M P : Nat}
theorem Tw_t {a i : Nat} (h : (4 ≤ a ∧ a ≤ 9) ∨ a = 12) : Tw T b' ρ a i = ρ.2.2 a i := by
  unfold Tw
  rw [if_neg (by omega), if_neg (by omega), if_pos h]
theorem Tw_N (h : b'.1 ≤ 70000) : LNo (Tw T b' ρ) % 70001 = b'.1 := by
  show (nI b'.1).toNatClampNeg % 70001 = b'.1
  rw [n_cl (p := b'.1) (by omega)]
  exact Nat.mod_eq_of_lt (by omega)
theorem Tw_P (h : b'.2.1 ≤ 70000) : LPo (Tw T b' ρ) % 70001 = b'.2.1 := by
  show (nI b'.2.1).toNatClampNeg % 70001 = b'.2.1
  rw [n_cl (p := b'.2.1) (by omega)]
  exact Nat.mod_eq_of_lt (by omega)
theorem STb_w (hS : STb T FN σ) (hX : FrX M P σ ρ) (hB : PB ρ b') (eM : LNo T % 70001 = M) (eP : LPo T % 70001 = P) (h1 : M ≤ b'.1) (h2 : P ≤ b'.2.1) (h3 : b'.1 ≤ 70000) (h4 : b'.2.1 ≤ 70000) : STb (Tw T b' ρ) FN ρ := by
  obtain ⟨s1, s2, s3, s4, s5, s6, s7⟩ := hS
  obtain ⟨x1, x2, x3, x4, x5, x6, x7⟩ := hX
  obtain ⟨p1, p2, p3, p4, p5⟩ := hB
  refine ⟨fun a i a4 a11 hi => ?_, fun fn m z => ?_, fun i hi => (Tw_t (Or.inr rfl)).symm, ?_, ?_, (x1 30 (by omega)).trans s6, (x1 44 (by omega)).trans s7⟩
  · by_cases c : a ≤ 9
    · exact (Tw_t (Or.inl ⟨a4, c⟩)).symm
    · unfold Tw
      rw [if_neg (by omega), if_neg (by omega), if_neg (by omega), x3 a (by omega)]
      exact s1 a i a4 a11 ⟨fun z => absurd z c, fun z => hi.2 z⟩
  · obtain ⟨z1, z2, z3, F, e, z4, z5, z6⟩ := s2 fn m z
    refine ⟨z1, z2, by rw [x3 18 (by decide)]; exact z3, F, e, by rw [x3 17 (by decide)]; exact z4, ?_, ?_⟩
    · rw [Tw_N h3]; omega
    · refine WN_tb (fun a i a4 a9 hi => ?_) (fun i hi => ?_) (by rw [Tw_N h3]; omega) (by rw [Tw_P h4]; omega) F 0 20 14 60 lcF _ z6
      · rw [Tw_t (Or.inl ⟨a4, a9⟩), x4 a a4 a9 i hi.1 (by omega)]
        exact s1 a i a4 (by omega) ⟨fun _ => hi, fun z => by omega⟩
      · rw [Tw_t (Or.inr rfl), x5 i (by omega)]
        exact s3 i hi
  · rw [Tw_N h3]; exact p1
  · rw [Tw_P h4]; exact p3
theorem Agr_w {vv e : Nat} (hB : PB ρ b') (hM : 1 ≤ M) (h3 : b'.1 ≤ 70000) (h4 : b'.2.1 ≤ 70000) : Agr (Tw T b' ρ) 42 vv b' M e := by
  obtain ⟨p1, p2, p3, p4, p5⟩ := hB
  refine ⟨fun a i a4 a9 hi hb _ => ?_, fun i hi => ?_, fun s _ => ?_, by rw [Tw_N h3]; exact Nat.le_refl _, by rw [Tw_P h4]; exact Nat.le_refl _⟩
  · rw [Tw_t (Or.inl ⟨a4, a9⟩)]; exact p4 a a4 a9 i (by omega) hb
  · rw [Tw_t (Or.inr rfl)]; exact p5 i hi
  · unfold Tw
    rw [if_neg (by decide), if_pos rfl, if_pos (by omega)]
theorem lcW_n {fl : Nat → Prop} {T' : Nat → Nat → Int32} : ∀ s, s < 60 → ¬ lcW fl 42 T' (1 + s) := by
  intro s hs h
  rcases h with h | h | h | h
  · omega
  · omega
  · omega
  · omega
theorem Qt_w {fl : Nat → Prop} {T' : Nat → Nat → Int32} {dr : Bool} (h0 : ¬ fl 200) (h1 : fl 201 → dr = true) : Qt dr (lcW fl 42 T') := by
  constructor
  · intro h
    rcases h with h | h | h | h
    · omega
    · omega
    · omega
    · exact h0 h.2
  · intro h
    rcases h with h | h | h | h
    · omega
    · omega
    · omega
    · exact h1 h.2
theorem kv_n (h : kv ρ = kv σ) : (∀ j, (63 ≤ j ∧ j ≤ 66) ∨ (102 ≤ j ∧ j ≤ 106) ∨ j = 110 ∨ j = 112 ∨ j = 30 ∨ j = 44 → ρ.1 j = σ.1 j) ∧ (∀ a, 1 ≤ a → a ≤ 21 → ρ.2.2 a = σ.2.2 a) ∧ ρ.2.1 113 = σ.2.1 113 := by
  unfold kv at h
  simp only [Prod.mk.injEq] at h
  obtain ⟨l113, n2, n4, n11, n22, n24, n25, n30, n31, n44, n63, n64, n65, n66, n73, n79, n102, n103, n104, n105, n106, n108, n109, n110, n111, n112, n115, n120, r1, r2, r3, r4, r5, r6, r7, r8, r9, r10, r11, r12, r13, r14, r15, r16, r17, r18, r19, r20, r21, _⟩ := h
  refine ⟨fun j hj => ?_, fun a h1 h2 => ?_, l113⟩
  · have : j = 63 ∨ j = 64 ∨ j = 65 ∨ j = 66 ∨ j = 102 ∨ j = 103 ∨ j = 104 ∨ j = 105 ∨ j = 106 ∨ j = 110 ∨ j = 112 ∨ j = 30 ∨ j = 44 := by omega
    rcases this with rfl | rfl | rfl | rfl | rfl | rfl | rfl | rfl | rfl | rfl | rfl | rfl | rfl <;> assumption
  · have : a = 1 ∨ a = 2 ∨ a = 3 ∨ a = 4 ∨ a = 5 ∨ a = 6 ∨ a = 7 ∨ a = 8 ∨ a = 9 ∨ a = 10 ∨ a = 11 ∨ a = 12 ∨ a = 13 ∨ a = 14 ∨ a = 15 ∨ a = 16 ∨ a = 17 ∨ a = 18 ∨ a = 19 ∨ a = 20 ∨ a = 21 := by omega
    rcases this with rfl | rfl | rfl | rfl | rfl | rfl | rfl | rfl | rfl | rfl | rfl | rfl | rfl | rfl | rfl | rfl | rfl | rfl | rfl | rfl | rfl <;> assumption
/-- a value of the run, behind it -/
theorem AE_v {a i : Nat} (hU : UT σ) (h63 : ρ.1 63 = σ.1 63) (r28 : ρ.2.2 28 = σ.2.2 28) (r30 : ρ.2.2 30 = σ.2.2 30) (r31 : ρ.2.2 31 = σ.2.2 31) (hc : ρ.1 30 = σ.1 30) (h21 : ∀ i, i ≠ 42 → ρ.2.2 21 i = σ.2.2 21 i) (h20 : ∀ i, i < 2520 ∨ 2580 ≤ i → ρ.2.2 20 i = σ.2.2 20 i) (hF : FE (zA ρ) τ) (z : (a = 30 ∧ StI (σ.2.2 30) 0 i) ∨ (a = 31 ∧ ∃ p, p < (σ.1 63).toNatClampNeg ∧ StI (σ.2.2 31) (11514 * p) i)) : szV τ a i = szV σ a i ∧ SVb σ τ a i := by
  have s63 : (zA ρ).1 63 = σ.1 63 := (zA_s (by omega)).trans h63
  have q28 : (zA ρ).2.2 28 = σ.2.2 28 := r28
  have q30 : (zA ρ).2.2 30 = σ.2.2 30 := r30
  have q31 : (zA ρ).2.2 31 = σ.2.2 31 := r31
  have qa : (zA ρ).2.2 a = σ.2.2 a := by
    rcases z with z | z
    · rw [z.1]; exact q30
    · rw [z.1]; exact q31
  have hR : Rt4 (zA ρ) a i := by
    rcases z with ⟨z1, z2⟩ | ⟨z1, p, hp, z2⟩
    · exact Or.inl ⟨z1, by rw [q30]; exact z2⟩
    · exact Or.inr (Or.inl ⟨z1, p, by rw [s63]; exact hp, by rw [q31]; exact z2⟩)
  rcases hF.2.2.2 a i hR (fun z => z) with ⟨y1, _, y3⟩ | ⟨y1, y2⟩
  · unfold szV at y1 ⊢
    unfold SVb at y3 ⊢
    rw [q28, qa] at y1 y3
    exact ⟨y1, y3⟩
  · obtain ⟨_, P, _, _, _, _, _, o1, _⟩ := hU
    have k : kC (zA ρ) = kC σ := funext (kC_d (fun i hi => h20 i (Or.inl hi)) (fun i hi => h21 i (by omega)) ((zA_s (by omega)).trans hc))
    rcases z with ⟨z1, z2⟩ | ⟨z1, _⟩
    · subst z1
      have nu : NUa (kC σ) (σ.2.2 30) 0 i := by
        have := NU_a.mp y2
        rw [k, q30] at this
        exact this
      have v0 : σ.2.2 30 i = 0 := o1 i z2 nu
      have z0 : (0 : Int32).toNatClampNeg = 0 := by decide
      constructor
      · unfold szV szN kdN
        rw [y1, v0, z0]
        simp
      · refine Or.inl ?_
        rw [y1, v0, z0]
        exact EVb_0 (by decide)
    · exfalso
      rcases y2 with y | ⟨y, _⟩
      · omega
      · omega
/-- a run is left alone: an exp was laid, worked, perhaps shown -/
theorem AE_of (hU : UT σ) (hn : ∀ j, (63 ≤ j ∧ j ≤ 66) ∨ (102 ≤ j ∧ j ≤ 106) ∨ j = 110 ∨ j = 112 ∨ j = 95 ∨ j = 30 ∨ j = 44 → ρ.1 j = σ.1 j) (hl : ρ.2.1 = σ.2.1) (hr : ∀ j, ¬ ((4 ≤ j ∧ j ≤ 9) ∨ j = 12 ∨ (20 ≤ j ∧ j ≤ 27)) → ρ.2.2 j = σ.2.2 j) (h4 : ∀ j, 4 ≤ j → j ≤ 9 → ∀ i, 1 ≤ i → i < (σ.1 22).toNatClampNeg → ρ.2.2 j i = σ.2.2 j i) (h12 : ∀ i, i < (σ.1 24).toNatClampNeg → ρ.2.2 12 i = σ.2.2 12 i) (h21 : ∀ i, i ≠ 42 → ρ.2.2 21 i = σ.2.2 21 i) (h20 : ∀ i, i < 2520 ∨ 2580 ≤ i → ρ.2.2 20 i = σ.2.2 20 i) (hF : FE (zA ρ) τ) (hUt : UT τ) (hk : kv τ = kv ρ) (h95 : τ.1 95 = ρ.1 95) (wn : ∀ j, (63 ≤ j ∧ j ≤ 66) ∨ (102 ≤ j ∧ j ≤ 106) ∨ j = 110 ∨ j = 112 ∨ j = 95 ∨ j = 68 ∨ j = 30 ∨ j = 44 → ω.1 j = τ.1 j) (wr : ∀ a, (1 ≤ a ∧ a ≤ 21) ∨ a = 28 ∨ (30 ≤ a ∧ a ≤ 33) → ω.2.2 a = τ.2.2 a) (w113 : ω.2.1 113 = τ.2.1 113) (w22 : ω.1 22 = σ.1 22) (w24 : ω.1 24 = σ.1 24) (w96 : ω.2.1 96 = σ.2.1 96) : AEq σ ω := by
  obtain ⟨k1, k2, k3⟩ := kv_n hk
  have t68 : τ.1 68 = 0 := by
    have := hF.1 68 (by unfold AlS; omega) (by decide) (by decide) (by decide)
    rw [this]; rfl
  have st : ∀ a i, 30 ≤ a → a ≤ 32 → ¬ Zn a i → τ.2.2 a i = σ.2.2 a i := fun a i h1 h2 hz => by
    have e := hF.2.1 a i (by unfold AlR; omega) hz (by omega)
    have e2 : (zA ρ).2.2 a i = ρ.2.2 a i := rfl
    rw [e, e2, hr a (by omega)]
  have wv : ∀ a i, (a = 30 ∧ StI (σ.2.2 30) 0 i) ∨ (a = 31 ∧ ∃ p, p < (σ.1 63).toNatClampNeg ∧ StI (σ.2.2 31) (11514 * p) i) → szV ω a i = szV σ a i ∧ SVb σ ω a i := fun a i z => by
    have v := AE_v hU (hn 63 (by omega)) (hr 28 (by decide)) (hr 30 (by decide)) (hr 31 (by decide)) (hn 30 (by omega)) h21 h20 hF z
    have w28 : ω.2.2 28 = τ.2.2 28 := wr 28 (by omega)
    have wa : ω.2.2 a = τ.2.2 a := by
      rcases z with z | z
      · exact wr a (by omega)
      · exact wr a (by omega)
    unfold szV SVb at v ⊢
    rw [w28, wa]; exact v
  have tb : ∀ a i, ((a = 10 ∨ a = 11 ∨ (17 ≤ a ∧ a ≤ 21)) ∧ ¬ StU (σ.1 30) (σ.1 44) (σ.2.2 21) a i) ∨ (4 ≤ a ∧ a ≤ 9 ∧ (1 ≤ i ∧ i < (σ.1 22).toNatClampNeg)) ∨ (a = 12 ∧ i < (σ.1 24).toNatClampNeg) ∨ (a = 19 ∧ i < 8 * (σ.1 30).toNatClampNeg ∧ i % 8 < (σ.2.2 18 (i / 8)).toNatClampNeg) → ω.2.2 a i = σ.2.2 a i := fun a i hi => by
    unfold StU at hi
    rw [wr a (by omega), k2 a (by omega) (by omega)]
    by_cases c1 : 4 ≤ a ∧ a ≤ 9
    · exact h4 a c1.1 c1.2 i (by omega) (by omega)
    by_cases c2 : a = 12
    · subst c2; exact h12 i (by omega)
    by_cases c3 : a = 20
    · subst c3; exact h20 i (by omega)
    by_cases c4 : a = 21
    · subst c4; exact h21 i (by omega)
    rw [hr a (by omega)]
  have nb : ∀ j, j = 22 ∨ j = 24 ∨ (63 ≤ j ∧ j ≤ 66) ∨ j = 95 ∨ (102 ≤ j ∧ j ≤ 106) ∨ j = 110 ∨ j = 112 ∨ j = 30 ∨ j = 44 → ω.1 j = σ.1 j := fun j hj => by
    by_cases c : j = 22
    · rw [c]; exact w22
    by_cases c' : j = 24
    · rw [c']; exact w24
    rw [wn j (by omega)]
    by_cases c5 : j = 95
    · rw [c5, h95]; exact hn 95 (by omega)
    · rw [k1 j (by omega)]; exact hn j (by omega)
  have z33 : ∀ i, i < 1380 → ω.2.2 33 i = 0 := fun i hi => by
    rw [wr 33 (by omega)]
    obtain ⟨_, _, _, _, _, _, _, _, _, q3, _⟩ := hUt
    exact q3 i hi
  exact ⟨nb, (wn 68 (by omega)).trans t68, fun a i h1 h2 hz => by rw [wr a (by omega)]; exact st a i h1 h2 hz, tb, by rw [wr 2 (by omega), k2 2 (by omega) (by omega), hr 2 (by decide)], wv, z33, w96, by rw [w113, k3, hl]⟩
end TWS
end JnS288
section JnS289
/-! What a state's values and totals read; what a program is between calls (reference). -/
section RDS
variable {σ τ ω ρ : MS} {t X B h : Nat} {g : Nat → Prop} {l : List Nat}
theorem RtP_x (h63 : τ.1 63 = σ.1 63) (h72 : τ.1 72 = σ.1 72) (h30 : τ.2.2 30 = σ.2.2 30) (h31 : τ.2.2 31 = σ.2.2 31) (a i : Nat) : RtP t τ a i ↔ RtP t σ a i := by
  unfold RtP
  rw [h63, h72, h30, h31]
theorem RtP_r {a i : Nat} (h : RtP t σ a i) : a = 29 ∨ a = 30 ∨ a = 31 ∨ a = 33 ∨ a = 34 ∨ a = 36 ∨ a = 37 ∨ a = 38 ∨ a = 40 := by
  rcases h with z | z | z | z | z | z | z | z | z
  · exact Or.inl z.1
  · exact Or.inr (Or.inl z.1)
  · exact Or.inr (Or.inr (Or.inl z.1))
  · exact Or.inr (Or.inr (Or.inr (Or.inl z.1)))
  · exact Or.inr (Or.inr (Or.inr (Or.inr (Or.inl z.1))))
  · exact Or.inr (Or.inr (Or.inr (Or.inr (Or.inr (Or.inl z.1)))))
  · exact Or.inr (Or.inr (Or.inr (Or.inr (Or.inr (Or.inr (Or.inl z.1))))))
  · exact Or.inr (Or.inr (Or.inr (Or.inr (Or.inr (Or.inr (Or.inr (Or.inl z.1)))))))
  · exact Or.inr (Or.inr (Or.inr (Or.inr (Or.inr (Or.inr (Or.inr (Or.inr z.1)))))))
/-- values read rows 28 to 40 and four numbers -/
theorem MI_x (hM : MI t X g l B h σ) (h54 : τ.1 54 = σ.1 54) (h55 : τ.1 55 = σ.1 55) (h63 : τ.1 63 = σ.1 63) (h72 : τ.1 72 = σ.1 72) (hr : ∀ a, 28 ≤ a → a ≤ 40 → τ.2.2 a = σ.2.2 a) : MI t X g l B h τ := by
  obtain ⟨m1, m2, m3, m4⟩ := hM
  have rp : ∀ a i, RtP t τ a i ↔ RtP t σ a i := RtP_x h63 h72 (hr 30 (by omega) (by omega)) (hr 31 (by omega) (by omega))
  have ro : RoS t τ = RoS t σ := by
    funext v
    refine propext ⟨?_, ?_⟩
    · rintro ⟨v1, v2, a, i, v3, v4⟩
      have c := RtP_r v3
      exact ⟨v1, v2, a, i, (rp a i).mp v3, by rw [← hr a (by omega) (by omega)]; exact v4⟩
    · rintro ⟨v1, v2, a, i, v3, v4⟩
      have c := RtP_r v3
      exact ⟨v1, v2, a, i, (rp a i).mpr v3, by rw [hr a (by omega) (by omega)]; exact v4⟩
  refine ⟨HS_c m1 h54 h55 (hr 28 (by omega) (by omega)), RtQ_c h63 h72 (hr 30 (by omega) (by omega)) (hr 31 (by omega) (by omega)) m2, fun a i z => ?_, ?_⟩
  · have c := RtP_r z
    rw [hr a (by omega) (by omega)]
    exact m3 a i ((rp a i).mp z)
  · rw [ro, hr 28 (by omega) (by omega)]; exact m4
/-- totals read rows 28, 30 to 33, the slots that count and three numbers -/
theorem UT_k (hU : UT σ) (h63 : τ.1 63 = σ.1 63) (h64 : τ.1 64 = σ.1 64) (h65 : τ.1 65 = σ.1 65) (h28 : τ.2.2 28 = σ.2.2 28) (hr : ∀ a, 30 ≤ a → a ≤ 33 → τ.2.2 a = σ.2.2 a) (hk : ∀ i, kC τ i = kC σ i) : UT τ := by
  have k : kC τ = kC σ := funext hk
  unfold UT StS PtS NUo ItP szV at hU ⊢
  rw [k, h28, hr 30 (by omega) (by omega), hr 31 (by omega) (by omega), hr 32 (by omega) (by omega), hr 33 (by omega) (by omega), h63, h64, h65]
  exact hU
end RDS
/-- a program, as it was read: names, params, what is laid; its tables -/
def PrI (T : Nat → Nat → Int32) (FN : Nat → Nat → Prop) (S : Nat → Nat → Nat → Nat → Prop) (gl : List Gn) (pr : Nat → Nat) (b : BT) (ns : Nat) : Prop := (SWf T FN S ∧ SWk T FN S ∧ 9 + KBn T ≤ 17000) ∧ (T 21 0 = nI ns ∧ ns ≤ 60) ∧ (LNo T % 70001 = b.1 ∧ LPo T % 70001 = b.2.1 ∧ 1 ≤ b.1 ∧ b.1 + 33735 ≤ 70000 ∧ b.2.1 + 32768 ≤ 70000) ∧ ∀ dr, EnOK FN (gl, [], [], 42, false, dr, pr)
/-- the tape: n bytes -/
def TpO (Tp : Nat → Int32) (n : Nat) (σ : MS) : Prop := mN σ n ∧ σ.2.2 3 = Tp ∧ ∀ i, i < n → ∃ d, d ≤ 300 ∧ Tp i = nI d
/-- what working and showing leave besides the run -/
def OF (σ ω : MS) : Prop := (∀ j, j = 22 ∨ j = 24 ∨ j = 25 ∨ j = 31 ∨ j = 44 ∨ j = 73 ∨ j = 111 ∨ j = 112 ∨ j = 115 → ω.1 j = σ.1 j) ∧ (∀ a, a = 1 ∨ a = 3 ∨ (13 ≤ a ∧ a ≤ 19) ∨ a = 39 ∨ (52 ≤ a ∧ a ≤ 55) → ω.2.2 a = σ.2.2 a) ∧ (∀ a i, 4 ≤ a → a ≤ 9 → 1 ≤ i → i < (σ.1 22).toNatClampNeg → ω.2.2 a i = σ.2.2 a i) ∧ ∀ i, i < (σ.1 24).toNatClampNeg → ω.2.2 12 i = σ.2.2 12 i
section OFS
variable {σ τ ω : MS} {gl : List Gn} {pr : Nat → Nat} {b : BT}
theorem PG_of (h : OF σ ω) (hb : b.1 ≤ 70000 ∧ b.2.1 ≤ 70000) (hp : PG gl pr b σ) : PG gl pr b ω := by
  obtain ⟨o1, o2, o3, o4⟩ := h
  obtain ⟨p1, ⟨q1, q2, q3, q4, q5⟩, ⟨g1, g2, g3⟩, p4⟩ := hp
  rw [q1, n_cl (p := b.1) (by omega)] at o3
  rw [q3, n_cl (p := b.2.1) (by omega)] at o4
  refine ⟨(o2 1 (by omega)).trans p1, ⟨(o1 22 (by omega)).trans q1, q2, (o1 24 (by omega)).trans q3, fun j h4 h9 i hi hi2 => ?_, fun i hi => ?_⟩, ⟨(o1 25 (by omega)).trans g1, g2, ?_⟩, ?_⟩
  · rw [o3 j i h4 h9 hi hi2]; exact q4 j h4 h9 i hi hi2
  · rw [o4 i hi]; exact q5 i hi
  · rw [o2 13 (by omega), o2 14 (by omega), o2 15 (by omega), o2 16 (by omega)]; exact g3
  · rw [o2 18 (by omega)]; exact p4
theorem kv_m (h : kv τ = kv σ) : (∀ j, j = 25 ∨ j = 31 ∨ j = 44 ∨ j = 73 ∨ j = 111 ∨ j = 112 ∨ j = 115 ∨ j = 4 ∨ j = 120 ∨ j = 30 → τ.1 j = σ.1 j) ∧ (∀ a, (1 ≤ a ∧ a ≤ 21) ∨ a = 39 ∨ (52 ≤ a ∧ a ≤ 57) → τ.2.2 a = σ.2.2 a) := by
  have r := (kv_n h).2.1
  unfold kv at h
  simp only [Prod.mk.injEq] at h
  obtain ⟨l113, n2, n4, n11, n22, n24, n25, n30, n31, n44, n63, n64, n65, n66, n73, n79, n102, n103, n104, n105, n106, n108, n109, n110, n111, n112, n115, n120, r1, r2, r3, r4, r5, r6, r7, r8, r9, r10, r11, r12, r13, r14, r15, r16, r17, r18, r19, r20, r21, r32, r39, r52, r53, r54, r55, r56, r57⟩ := h
  refine ⟨fun j hj => ?_, fun a ha => ?_⟩
  · rcases hj with rfl | rfl | rfl | rfl | rfl | rfl | rfl | rfl | rfl | rfl <;> assumption
  · by_cases c : 1 ≤ a ∧ a ≤ 21
    · exact r a c.1 c.2
    · have : a = 39 ∨ a = 52 ∨ a = 53 ∨ a = 54 ∨ a = 55 ∨ a = 56 ∨ a = 57 := by omega
      rcases this with rfl | rfl | rfl | rfl | rfl | rfl | rfl <;> assumption
end OFS
end JnS289
section JnS290
variable {yf : Nat × Nat}
/-! An exp is read and worked (reference): the tree that is laid, the state before it is worked. -/
section RWK
variable {T : Nat → Nat → Int32} {FN : Nat → Nat → Prop} {S : Nat → Nat → Nat → Nat → Prop} {gl : List Gn} {pr : Nat → Nat} {b : BT} {ns n f : Nat} {Tp : Nat → Int32} {σ ρ ρ1 : MS} {t : RT} {dr : Bool} {C K : Nat → Int32} {e0 z0 x66 : Int32} {sd : Int64} {m : Nat}
/-- what is laid -/
theorem rd_tree (pi : PrI T FN S gl pr b ns) (hn : n ≤ 32768) (hT : ∀ i, i < n → ∃ d, d ≤ 300 ∧ Tp i = nI d) (hG : gX Tp n f (gl, [], [], 42, false, dr, pr) b = some (Sum.inr t)) : LPt FN (eFl (gl, [], [], 42, false, dr, pr)) 42 t.2.1 20 14 60 b.1 t.2.2.2.2.1 t.2.2.2.1 ∧ b.1 ≤ t.2.2.2.2.1.1 ∧ b.2.1 ≤ t.2.2.2.2.1.2.1 ∧ t.2.2.2.2.1.1 ≤ 70000 ∧ t.2.2.2.2.1.2.1 ≤ 70000 := by
  obtain ⟨_, _, ⟨_, _, l3, l4, l5⟩, en⟩ := pi
  have hN : sk Tp n 0 ≤ n := skE_le Tp n (n + 1) 0 (Nat.zero_le _)
  unfold gX at hG
  by_cases c : tkK Tp n (sk Tp n 0) = 0
  · rw [if_pos c] at hG; cases hG
  rw [if_neg c] at hG
  rcases gb_any hG with ⟨yf, _, hx⟩ | ⟨s, h7, hG⟩
  · cases hx
  by_cases c2 : tkK Tp n s.1 = 25
  · rw [if_pos c2] at hG
    have e : s = t := Sum.inr.inj (Option.some.inj hG)
    subst e
    obtain ⟨a, _⟩ := mo_of (M := b.1) hN (by decide) h7 (Nat.le_refl _) l3 trivial (fun h => h) (fun h => h)
    have tr := g_tree (FN := FN) hT f 0 (gl, [], [], 42, false, dr, pr) 0 (sk Tp n 0) 0 0 0 0 0 b s 0 b.1 60 hN (by decide) (by decide) (by omega) (by omega) l3 (en dr) h7 ⟨rfl, rfl⟩
    have tr : Frm 42 0 b 0 s.2.2.2.2.1 ∧ LPt FN (eFl (gl, [], [], 42, false, dr, pr)) 42 s.2.1 20 14 60 b.1 s.2.2.2.2.1 s.2.2.2.1 := tr
    unfold Mo at a
    exact ⟨tr.2, tr.1.1, tr.1.2.1, by omega, by omega⟩
  · rw [if_neg c2] at hG; cases hG
/-- the state before an exp is worked: what workAlone wants -/
theorem rd_go (pi : PrI T FN S gl pr b ns) (hP : PSt T FN S C K e0 z0 x66 0 sd m σ) {σa : MS} (ha : ∀ j, ¬ (j = 2 ∨ j = 11) → σa.1 j = σ.1 j) (ha2 : σa.2 = σ.2) (hX : FrX b.1 b.2.1 σa ρ) (hB : PB ρ t.2.2.2.2.1) (ht : LPt FN (eFl (gl, [], [], 42, false, dr, pr)) 42 t.2.1 20 14 60 b.1 t.2.2.2.2.1 t.2.2.2.1) (l1 : b.1 ≤ t.2.2.2.2.1.1) (l2 : b.2.1 ≤ t.2.2.2.2.1.2.1) (l3 : t.2.2.2.2.1.1 ≤ 70000) (l4 : t.2.2.2.2.1.2.1 ≤ 70000) (hs : ∀ j, ¬ (j = 2 ∨ j = 4 ∨ j = 11 ∨ j = 109) → ρ1.1 j = ρ.1 j) (hr : ρ1.2 = ρ.2) {L : Nat → Int32} (d1 : L 1 = nI t.2.2.2.1) : Tm (fun k => x_workAlone k 0 L ρ1) (fun r => ∃ υ, r = (0, mSc υ 69 0) ∧ FE (zA ρ1) υ ∧ UT υ ∧ ((∃ w', EI 1 w' 400000 υ υ) ∨ EZ 0 179300 υ) ∧ K0 dr ρ1 υ ∧ kv υ = kv ρ1) := by
  obtain ⟨hU, ⟨a95, a1, a2⟩⟩ := PSt_UT hP
  obtain ⟨⟨⟨g, l, B, h, X, hM⟩, ⟨hS, _⟩, _, ⟨ty1, ty2⟩, _⟩, _⟩ := hP
  obtain ⟨_, _, ⟨eN, eP, e1, _, _⟩, _⟩ := pi
  have hX0 := hX
  obtain ⟨x1, x2, x3, x4, x5, x6, x7⟩ := hX
  have rr : ∀ a, ρ1.2.2 a = ρ.2.2 a := fun a => by rw [hr]
  have nn : ∀ j, ¬ ((2 ≤ j ∧ j ≤ 13) ∨ j = 22 ∨ j = 24 ∨ j = 37 ∨ j = 38 ∨ j = 42 ∨ j = 43 ∨ (45 ≤ j ∧ j ≤ 48) ∨ j = 52 ∨ j = 109) → ρ1.1 j = σ.1 j := fun j hj => (hs j (by omega)).trans ((x1 j (by omega)).trans (ha j (by omega)))
  have sa : ∀ a, σa.2.2 a = σ.2.2 a := fun a => by rw [ha2]
  have hM1 : MI 0 X g l B h ρ1 := MI_x hM (nn 54 (by decide)) (nn 55 (by decide)) (nn 63 (by decide)) (nn 72 (by decide)) (fun a h1 h2 => (rr a).trans ((x3 a (by omega)).trans (sa a)))
  have hU1 : UT ρ1 := UT_k hU (nn 63 (by decide)) (nn 64 (by decide)) (nn 65 (by decide)) ((rr 28).trans ((x3 28 (by decide)).trans (sa 28))) (fun a h1 h2 => (rr a).trans ((x3 a (by omega)).trans (sa a))) (kC_d (fun i hi => by rw [rr 20, x7 i (Or.inl hi), sa 20]) (fun i hi => by rw [rr 21, x6 i (by omega), sa 21]) (nn 30 (by decide)))
  have hS1 : STb (Tw T t.2.2.2.2.1 ρ) FN ρ1 := STb_b (STb_w (STb_b (ρ := σa) hS (fun j hj => ha j (by omega)) (fun a i _ => by rw [sa a])) hX0 hB eN eP l1 l2 l3 l4) (fun j hj => hs j (by omega)) (fun a i _ => by rw [rr a])
  have wx := ht.2.2.2.2 _ (Agr_w (T := T) (ρ := ρ) (vv := t.2.1) (e := t.2.2.2.1) hB e1 l3 l4)
  obtain ⟨F, wx⟩ := wx
  have hQ : Qt dr (lcW (eFl (gl, [], [], 42, false, dr, pr)) 42 (Tw T t.2.2.2.2.1 ρ)) := Qt_w (fun z => by
    rcases z with ⟨_, z⟩ | ⟨z, _⟩
    · exact absurd (show false = true from z) (by decide)
    · omega) (fun z => by
    rcases z with ⟨z, _⟩ | ⟨_, z⟩
    · omega
    · exact z)
  refine s_workAlone (T := Tw T t.2.2.2.2.1 ρ) (FN := FN) (dr := dr) (x := nI t.2.2.2.1) hM1 hU1 hS1 ?_ ⟨a95, (nn 95 (by decide)).trans a1, a2⟩ lcW_n ⟨20, 60, by omega, by omega, F, wx⟩ ⟨F, 20, 14, 60, wx, hQ⟩ d1
  rw [rr 2, x3 2 (by decide), sa 2, ty2]; exact ty1
end RWK
end JnS290
section JnS291
/-! An exp is worked for the asker (reference): work. -/
section WRK
variable {T : Nat → Nat → Int32} {FN : Nat → Nat → Prop} {S : Nat → Nat → Nat → Nat → Prop} {gl : List Gn} {pr : Nat → Nat} {b : BT} {ns n f : Nat} {Tp : Nat → Int32} {σ σa ρ ρ1 υ ω : MS} {t : RT} {dr : Bool} {C K : Nat → Int32} {e0 z0 x66 : Int32} {sd : Int64} {m : Nat}
/-- behind it: the run stands where it stood -/
theorem wk_end (pi : PrI T FN S gl pr b ns) (hP : PSt T FN S C K e0 z0 x66 0 sd m σ) (hg : PG gl pr b σ) (ha : ∀ j, ¬ (j = 2 ∨ j = 11) → σa.1 j = σ.1 j) (ha2 : σa.2 = σ.2) (hX : FrX b.1 b.2.1 σa ρ) (hs : ∀ j, ¬ (j = 2 ∨ j = 4 ∨ j = 11 ∨ j = 109) → ρ1.1 j = ρ.1 j) (hr : ρ1.2 = ρ.2) (hF : FE (zA ρ1) υ) (hU : UT υ) (hk : kv υ = kv ρ1) (h95 : υ.1 95 = ρ1.1 95) (wn : ∀ j, j = 25 ∨ j = 31 ∨ j = 44 ∨ j = 73 ∨ j = 111 ∨ j = 115 ∨ (63 ≤ j ∧ j ≤ 66) ∨ (102 ≤ j ∧ j ≤ 106) ∨ j = 110 ∨ j = 112 ∨ j = 95 ∨ j = 68 ∨ j = 30 → ω.1 j = υ.1 j) (wr : ∀ a, (1 ≤ a ∧ a ≤ 21) ∨ a = 28 ∨ (30 ≤ a ∧ a ≤ 33) ∨ a = 39 ∨ (52 ≤ a ∧ a ≤ 55) → ω.2.2 a = υ.2.2 a) (w113 : ω.2.1 113 = υ.2.1 113) (w22 : ω.1 22 = σ.1 22) (w24 : ω.1 24 = σ.1 24) (w96 : ω.2.1 96 = σ.2.1 96) (hM : ∃ (g : Nat → Prop) (l : List Nat) (B h X : Nat), MI 0 X g l B h ω) : PSt T FN S C K e0 z0 x66 0 sd m ω ∧ OF σ ω := by
  obtain ⟨hU0, _⟩ := PSt_UT hP
  obtain ⟨⟨hW, _, _⟩, _, ⟨_, _, _, l4, l5⟩, _⟩ := pi
  obtain ⟨x1, x2, x3, x4, x5, x6, x7⟩ := hX
  have q22 : (σ.1 22).toNatClampNeg = b.1 := by rw [hg.2.1.1, n_cl (p := b.1) (by omega)]
  have q24 : (σ.1 24).toNatClampNeg = b.2.1 := by rw [hg.2.1.2.2.1, n_cl (p := b.2.1) (by omega)]
  have rr : ∀ a, ρ1.2.2 a = ρ.2.2 a := fun a => by rw [hr]
  have sa : ∀ a, σa.2.2 a = σ.2.2 a := fun a => by rw [ha2]
  have nn : ∀ j, ¬ ((2 ≤ j ∧ j ≤ 13) ∨ j = 22 ∨ j = 24 ∨ j = 37 ∨ j = 38 ∨ j = 42 ∨ j = 43 ∨ (45 ≤ j ∧ j ≤ 48) ∨ j = 52 ∨ j = 109) → ρ1.1 j = σ.1 j := fun j hj => (hs j (by omega)).trans ((x1 j (by omega)).trans (ha j (by omega)))
  have h3 : ∀ j, ¬ ((4 ≤ j ∧ j ≤ 9) ∨ j = 12 ∨ (20 ≤ j ∧ j ≤ 27)) → ρ1.2.2 j = σ.2.2 j := fun j hj => (rr j).trans ((x3 j hj).trans (sa j))
  have h4 : ∀ j, 4 ≤ j → j ≤ 9 → ∀ i, 1 ≤ i → i < (σ.1 22).toNatClampNeg → ρ1.2.2 j i = σ.2.2 j i := fun j j4 j9 i i1 i2 => by rw [rr j, x4 j j4 j9 i i1 (by omega), sa j]
  have h12 : ∀ i, i < (σ.1 24).toNatClampNeg → ρ1.2.2 12 i = σ.2.2 12 i := fun i hi => by rw [rr 12, x5 i (by omega), sa 12]
  have h21 : ∀ i, i ≠ 42 → ρ1.2.2 21 i = σ.2.2 21 i := fun i hi => by rw [rr 21, x6 i hi, sa 21]
  have h20 : ∀ i, i < 2520 ∨ 2580 ≤ i → ρ1.2.2 20 i = σ.2.2 20 i := fun i hi => by rw [rr 20, x7 i hi, sa 20]
  have ll : ρ1.2.1 = σ.2.1 := by rw [hr, x2, ha2]
  have ae : AEq σ ω := AE_of hU0 (fun j hj => nn j (by omega)) ll h3 h4 h12 h21 h20 hF hU hk h95 (fun j hj => wn j (by omega)) (fun a h => wr a (by omega)) w113 w22 w24 w96
  have hUω : UT ω := UT_k hU (wn 63 (by omega)) (wn 64 (by omega)) (wn 65 (by omega)) (wr 28 (by omega)) (fun a h1 h2 => wr a (by omega)) (kC_c (fun i => by rw [wr 20 (by omega)]) (fun i _ => by rw [wr 21 (by omega)]) (wn 30 (by omega)))
  obtain ⟨m1, m2⟩ := kv_m hk
  refine ⟨PSt_ae hW ae hM hUω hP, fun j hj => ?_, fun a h => ?_, fun a i a4 a9 i1 i2 => ?_, fun i hi => ?_⟩
  · by_cases c : j = 22
    · rw [c]; exact w22
    by_cases c' : j = 24
    · rw [c']; exact w24
    rw [wn j (by omega), m1 j (by omega)]; exact nn j (by omega)
  · rw [wr a (by omega), m2 a (by omega)]; exact h3 a (by omega)
  · rw [wr a (by omega), m2 a (by omega)]; exact h4 a a4 a9 i i1 i2
  · rw [wr 12 (by omega), m2 12 (by omega)]; exact h12 i hi
end WRK
end JnS291
section JnS292
variable {yf : Nat × Nat}
/-! work, whole (reference). -/
section WKW
variable {T : Nat → Nat → Int32} {FN : Nat → Nat → Prop} {S : Nat → Nat → Nat → Nat → Prop} {gl : List Gn} {pr : Nat → Nat} {b : BT} {ns n f : Nat} {Tp : Nat → Int32} {σ υ ω : MS} {C K : Nat → Int32} {e0 z0 x66 : Int32} {sd : Int64} {m : Nat} {t X B h : Nat} {g : Nat → Prop} {l : List Nat}
/-- values, with two others shown -/
theorem MI_sh (hM : MI t X g l B h υ) (h54 : ω.1 54 = υ.1 54) (h55 : ω.1 55 = υ.1 55) (h63 : ω.1 63 = υ.1 63) (h72 : ω.1 72 = υ.1 72) (hr : ∀ a, 28 ≤ a → a ≤ 38 → ω.2.2 a = υ.2.2 a) (v0 : Vd g (ω.2.2 40 0)) (v1 : Vd g (ω.2.2 40 1)) : MI 0 870000 g l B h ω := by
  obtain ⟨m1, m2, m3, m4⟩ := hM
  have rp : ∀ a i, RtP 0 ω a i ↔ RtP 0 υ a i := RtP_x h63 h72 (hr 30 (by omega) (by omega)) (hr 31 (by omega) (by omega))
  refine MI_any (HS_c m1 h54 h55 (hr 28 (by omega) (by omega))) (RtQ_c h63 h72 (hr 30 (by omega) (by omega)) (hr 31 (by omega) (by omega)) m2) (fun a i z => ?_)
  have c := RtP_r z
  by_cases e : a = 40
  · subst e
    have hi : i < 2 := by
      rcases z with z | z | z | z | z | z | z | z | z
      · omega
      · omega
      · omega
      · omega
      · omega
      · omega
      · omega
      · omega
      · exact z.2
    by_cases i0 : i = 0
    · rw [i0]; exact v0
    · rw [show i = 1 by omega]; exact v1
  · rw [hr a (by omega) (by omega)]
    exact m3 a i (RtP_mo (Nat.zero_le _) ((rp a i).mp z))
theorem s_work (pi : PrI T FN S gl pr b ns) (hP : PSt T FN S C K e0 z0 x66 0 sd m σ) (hg : PG gl pr b σ) (hTp : TpO Tp n σ) (h112 : ¬ σ.1 112 = 0) {L : Nat → Int32} {J : Nat → Int64} : Tm (fun k => x_work k 0 L J σ) (fun r => PSt T FN S C K e0 z0 x66 0 sd m r.2 ∧ OF σ r.2 ∧ r.2.1 4 = 0 ∧ (r.2.1 120 = σ.1 120 ∨ ∃ q, r.2.1 120 = nI q ∧ q ≤ 12000) ∧ ∃ x, gX Tp n (30 * n + 21) (gl, [], [], 42, false, true, pr) b = some x ∧ (∀ z, x = Sum.inl z → r.1 = -100 - nI z.2 ∧ r.2.1 11 = nI z.1) ∧ ∀ t, x = Sum.inr t → r.2.1 11 = 0) := by
  obtain ⟨⟨n1, n2⟩, tp3, tpb⟩ := hTp
  have pi0 := pi
  obtain ⟨_, _, ⟨eN, eP, e1, e2, e3⟩, _⟩ := pi0
  have h68 : σ.1 68 = 0 := hP.1.2.2.2.2.2.2.2.2.1
  have b12 : ∀ (N : Nat → Int32) (J' : Nat → Int64) (χ : MS), N 1 = σ.1 22 → N 2 = σ.1 24 → Tm (fun k => x_work k 12 N J' χ) (fun r => r.2 = mSc (mSc χ 22 (σ.1 22)) 24 (σ.1 24) ∧ r.1 = N 4) := fun N J' χ q1 q2 => by
    refine Tm_suc (fun k => by rw [x_work]) ?_
    rw [q1]
    refine Tm_suc (fun k => by rw [x_work]) ?_
    rw [q2]
    refine Tm_suc (fun k => by rw [x_work]) ?_
    exact Tm_some ⟨rfl, rfl⟩
  have b11 : ∀ (N : Nat → Int32) (J' : Nat → Int64) (χ : MS), N 1 = σ.1 22 → N 2 = σ.1 24 → Tm (fun k => x_work k 11 N J' χ) (fun r => r.2 = mSc (mSc (mSc χ 56 0) 22 (σ.1 22)) 24 (σ.1 24)) := fun N J' χ q1 q2 => by
    refine Tm_suc (fun k => by rw [x_work]) ?_
    exact Tm_mono (b12 _ _ (mSc χ 56 0) q1 q2) (fun r hr => hr.1)
  refine Tm_suc (fun k => by rw [x_work]) ?_
  refine Tm_ite (fun z => absurd z h112) (fun _ => ?_)
  refine Tm_suc (fun k => by rw [x_work]) ?_
  refine Tm_ob (s_good _ _) (fun r hr => ?_)
  rw [hr]
  refine Tm_ite (fun z => absurd (show (1 : Int32) = 0 from z) (by decide)) (fun _ => ?_)
  show Tm (fun k => x_work k 3 (upd L 100 0) J (mSc σ 2 0)) _
  refine Tm_suc (fun k => by rw [x_work]) ?_
  show Tm (fun k => x_work k 4 (upd (upd (upd L 100 0) 1 (σ.1 22)) 2 (σ.1 24)) J (mSc (mSc σ 2 0) 11 0)) _
  refine Tm_suc (fun k => by rw [x_work]) ?_
  obtain ⟨x, hx⟩ := gX_tot (T := Tp) (n := n) (gl, [], [], 42, false, decide (1 = 1), pr) b e1
  have hgA : PG gl pr b (mSc (mSc σ 2 0) 11 0) := ⟨hg.1, PB_c (σ := σ) rfl rfl (fun _ _ => rfl) hg.2.1, hg.2.2.1, hg.2.2.2⟩
  have ha : ∀ j, ¬ (j = 2 ∨ j = 11) → (mSc (mSc σ 2 0) 11 0).1 j = σ.1 j := fun j hj => by
    show upd (upd σ.1 2 0) 11 0 j = _
    rw [upd_other (by omega), upd_other (by omega)]
  refine Tm_ob (Tm_kk (p_readExp (dr := 1) (σ := mSc (mSc σ 2 0) 11 0) hx ⟨n1, n2⟩ tp3 hgA (by omega) rfl (by omega) (by omega)) (fun k => kk_readExp (c := 0) k 0 _ _ (fun _ => rfl) (fun _ => rfl))) (fun r1 hr1 => ?_)
  obtain ⟨⟨fx, _, hx2⟩, hK⟩ := hr1
  show Tm (fun k => x_work k 5 (upd (upd (upd (upd L 100 0) 1 (σ.1 22)) 2 (σ.1 24)) 3 r1.1) J (mSc r1.2 4 0)) _
  refine Tm_suc (fun k => by rw [x_work]) ?_
  show Tm (fun k => x_work k 6 (upd (upd (upd (upd L 100 0) 1 (σ.1 22)) 2 (σ.1 24)) 3 r1.1) J (mSc (mSc r1.2 4 0) 109 0)) _
  -- the state before it is worked
  obtain ⟨ρ1, hρ⟩ : ∃ ρ1, ρ1 = mSc (mSc r1.2 4 0) 109 0 := ⟨_, rfl⟩
  rw [← hρ]
  have hs : ∀ j, ¬ (j = 2 ∨ j = 4 ∨ j = 11 ∨ j = 109) → ρ1.1 j = r1.2.1 j := fun j hj => by
    rw [hρ]
    show upd (upd r1.2.1 4 0) 109 0 j = _
    rw [upd_other (by omega), upd_other (by omega)]
  have hr2 : ρ1.2 = r1.2.2 := by rw [hρ]; rfl
  have s4 : ρ1.1 4 = 0 := by rw [hρ]; rfl
  have nn : ∀ j, ¬ ((2 ≤ j ∧ j ≤ 13) ∨ j = 22 ∨ j = 24 ∨ j = 37 ∨ j = 38 ∨ j = 42 ∨ j = 43 ∨ (45 ≤ j ∧ j ≤ 48) ∨ j = 52 ∨ j = 109) → ρ1.1 j = σ.1 j := fun j hj => (hs j (by omega)).trans ((fx.1 j (by omega)).trans (ha j (by omega)))
  have ll : ρ1.2.1 = σ.2.1 := by rw [hr2, fx.2.1]; rfl
  have s11 : ρ1.1 11 = r1.2.1 11 := by
    rw [hρ]
    show upd (upd r1.2.1 4 0) 109 0 11 = _
    rw [upd_other (by omega), upd_other (by omega)]
  refine Tm_suc (fun k => by rw [x_work]) ?_
  cases x with
  | inl yf =>
    have z10 : ¬ ρ1.1 10 = 0 := by rw [hs 10 (by omega)]; exact hx2.1
    refine Tm_ite (fun z => absurd z z10) (fun _ => ?_)
    refine Tm_mono (b12 _ _ ρ1 rfl rfl) (fun r hr => ?_)
    obtain ⟨hr, hra⟩ := hr
    obtain ⟨hU, _⟩ := PSt_UT hP
    have hU1 : UT ρ1 := UT_k hU (nn 63 (by decide)) (nn 64 (by decide)) (nn 65 (by decide)) (by rw [hr2]; exact fx.2.2.1 28 (by decide)) (fun a h1 h2 => by rw [hr2]; exact fx.2.2.1 a (by omega)) (kC_d (fun i hi => by rw [hr2]; exact fx.2.2.2.2.2.2 i (Or.inl hi)) (fun i hi => by rw [hr2]; exact fx.2.2.2.2.2.1 i (by omega)) (nn 30 (by decide)))
    obtain ⟨g, l, B, h, X, hM⟩ := hP.1.1
    have w : ∀ j, ¬ (j = 22 ∨ j = 24) → r.2.1 j = ρ1.1 j := fun j hj => by
      rw [hr]
      show upd (upd ρ1.1 22 _) 24 _ j = _
      rw [upd_other (by omega), upd_other (by omega)]
    have w2 : r.2.2 = ρ1.2 := by rw [hr]; rfl
    have key := wk_end (σa := mSc (mSc σ 2 0) 11 0) (ρ := r1.2) (ρ1 := ρ1) (υ := zA ρ1) (ω := r.2) pi hP hg ha rfl fx hs hr2 FE_rf (UT_zA hU1) rfl (zA_s (by omega)) (fun j hj => by
      by_cases c : j = 68
      · rw [c, w 68 (by omega), nn 68 (by decide), h68]; rfl
      · rw [w j (by omega), zA_s (by omega)]) (fun a _ => by rw [w2]; rfl) (by rw [w2]; rfl) (by rw [hr]; rfl) (by rw [hr]; rfl) (by rw [w2, ll]) ⟨g, l, B, h, X, MI_x hM ((w 54 (by omega)).trans (nn 54 (by decide))) ((w 55 (by omega)).trans (nn 55 (by decide))) ((w 63 (by omega)).trans (nn 63 (by decide))) ((w 72 (by omega)).trans (nn 72 (by decide))) (fun a h1 h2 => by rw [w2, hr2]; exact fx.2.2.1 a (by omega))⟩
    exact ⟨key.1, key.2, by rw [w 4 (by omega)]; exact s4, Or.inl (by rw [w 120 (by omega), nn 120 (by decide)]), _, hx, fun z hz => by
      cases hz
      exact ⟨hra.trans (show -100 - ρ1.1 12 = _ by rw [hs 12 (by omega), hx2.2.2]), (w 11 (by omega)).trans (s11.trans hx2.2.1)⟩, fun _ z => by cases z⟩
  | inr t =>
    obtain ⟨k10, k1, kB, k4, k5, k6⟩ := hx2
    refine Tm_ite (fun _ => ?_) (fun z => absurd ((hs 10 (by omega)).trans k10) z)
    obtain ⟨tr, l1, l2, l3, l4⟩ := rd_tree pi n2 tpb hx
    refine Tm_suc (fun k => by rw [x_work]) ?_
    refine Tm_ob (rd_go (σa := mSc (mSc σ 2 0) 11 0) (ρ := r1.2) (ρ1 := ρ1) pi hP ha rfl fx kB tr l1 l2 l3 l4 hs hr2 (L := upd (fun _ => 0) 1 r1.1) k1) (fun r2 hr2' => ?_)
    obtain ⟨υ, q0, q1, q2, q3, q4, q5⟩ := hr2'
    rw [q0]
    show Tm (fun k => x_work k 8 _ (updW J 5 (ρ1.2.1 96)) (mSc (mSc υ 69 0) 109 (υ.1 57))) _
    refine Tm_suc (fun k => by rw [x_work]) ?_
    -- the seed is put back
    obtain ⟨χ, hχ⟩ : ∃ χ : MS, χ = ((mSc (mSc υ 69 0) 109 (υ.1 57)).1, updW υ.2.1 96 (ρ1.2.1 96), υ.2.2) := ⟨_, rfl⟩
    show Tm (fun k => x_work k 9 _ (updW J 5 (ρ1.2.1 96)) ((mSc (mSc υ 69 0) 109 (υ.1 57)).1, updW υ.2.1 96 (ρ1.2.1 96), υ.2.2)) _
    rw [← hχ]
    have cs : ∀ j, ¬ (j = 69 ∨ j = 109) → χ.1 j = υ.1 j := fun j hj => by
      rw [hχ]
      show upd (upd υ.1 69 0) 109 _ j = _
      rw [upd_other (by omega), upd_other (by omega)]
    have cr : χ.2.2 = υ.2.2 := by rw [hχ]
    have c96 : χ.2.1 96 = σ.2.1 96 := by
      rw [hχ, ← ll]
      show updW υ.2.1 96 (ρ1.2.1 96) 96 = _
      unfold updW
      exact if_pos rfl
    have c113 : χ.2.1 113 = υ.2.1 113 := by
      rw [hχ]
      show updW υ.2.1 96 (ρ1.2.1 96) 113 = _
      unfold updW
      exact if_neg (by decide)
    have kv4 : υ.1 4 = 0 := ((kv_m q5).1 4 (by omega)).trans s4
    have kv11 : υ.1 11 = 0 := (show υ.1 11 = ρ1.1 11 from congrArg (fun z : KVt => z.2.2.2.1) q5).trans (s11.trans (hK k10))
    refine Tm_suc (fun k => by rw [x_work]) ?_
    rcases q3 with ⟨w', q3⟩ | q3
    · -- no error: it is shown
      obtain ⟨g1, l1', B1, h1, X1, _, _, _, _, _, m1, _, _, _, _, t1, er, _⟩ := q3
      refine Tm_ite (fun _ => ?_) (fun z => absurd (by rw [cs 56 (by omega), er]; decide) z)
      refine Tm_suc (fun k => by rw [x_work]) ?_
      refine Tm_ob (s_pop (u := 0) ((cs 59 (by omega)).trans t1) (by omega) _) (fun r3 hr3 => ?_)
      rw [hr3]
      obtain ⟨a, a1, a2⟩ := m1.2.2.1 29 0 (Or.inl ⟨rfl, by omega⟩)
      have hS1 : HS g1 l1' B1 h1 (mSc χ 59 (nI 0)) := HS_c m1.1 ((show (mSc χ 59 (nI 0)).1 54 = χ.1 54 from rfl).trans (cs 54 (by omega))) ((show (mSc χ 59 (nI 0)).1 55 = χ.1 55 from rfl).trans (cs 55 (by omega))) (by show χ.2.2 28 = _; rw [cr])
      refine Tm_ob (s_show hS1 a2 (show (upd (fun _ => 0) 1 (χ.2.2 29 0) : Nat → Int32) 1 = nI a from by rw [show (upd (fun _ => 0) 1 (χ.2.2 29 0) : Nat → Int32) 1 = χ.2.2 29 0 from rfl, cr]; exact a1)) (fun r4 hr4 => ?_)
      obtain ⟨f1, f2, f3, f4, f5, ⟨qq, f6, f6'⟩, f7⟩ := hr4
      refine Tm_mono (b11 _ _ r4.2 rfl rfl) (fun r hr => ?_)
      have w : ∀ j, ¬ (j = 22 ∨ j = 24 ∨ j = 56 ∨ j = 59 ∨ j = 69 ∨ j = 79 ∨ j = 84 ∨ j = 93 ∨ j = 109 ∨ j = 120) → r.2.1 j = υ.1 j := fun j hj => by
        rw [hr]
        show upd (upd (upd r4.2.1 56 0) 22 _) 24 _ j = _
        rw [upd_other (by omega), upd_other (by omega), upd_other (by omega), f1 j (by omega)]
        show upd χ.1 59 (nI 0) j = _
        rw [upd_other (by omega)]
        exact cs j (by omega)
      have w2 : ∀ a, ¬ (a = 40 ∨ a = 42 ∨ a = 48 ∨ a = 49 ∨ a = 57) → r.2.2.2 a = υ.2.2 a := fun a ha => by
        rw [hr]
        show r4.2.2.2 a = _
        rw [f3 a ha]
        show χ.2.2 a = _
        rw [cr]
      have wl : r.2.2.1 = χ.2.1 := by rw [hr]; exact f2
      have v1 : Vd g1 (r.2.2.2 40 1) := by
        rw [hr]
        show Vd g1 (r4.2.2.2 40 1)
        rw [f5]
        show Vd g1 (χ.2.2 40 0)
        rw [cr]
        exact m1.2.2.1 40 0 (Or.inr (Or.inr (Or.inr (Or.inr (Or.inr (Or.inr (Or.inr (Or.inr ⟨rfl, by omega⟩))))))))
      have v0 : Vd g1 (r.2.2.2 40 0) := by
        rw [hr]
        show Vd g1 (r4.2.2.2 40 0)
        rw [f4]; exact ⟨a, rfl, a2⟩
      have key := wk_end (σa := mSc (mSc σ 2 0) 11 0) (ρ := r1.2) (ρ1 := ρ1) (υ := υ) (ω := r.2) pi hP hg ha rfl fx hs hr2 q1 q2 q5 q4.2 (fun j hj => w j (by omega)) (fun a h => w2 a (by omega)) (by rw [wl, c113]) (by rw [hr]; rfl) (by rw [hr]; rfl) (by rw [wl, c96]) ⟨g1, l1', B1, h1, 870000, MI_sh m1 (w 54 (by omega)) (w 55 (by omega)) (w 63 (by omega)) (w 72 (by omega)) (fun a h1 h2 => w2 a (by omega)) v0 v1⟩
      exact ⟨key.1, key.2, by rw [w 4 (by omega)]; exact kv4, Or.inr ⟨qq, by rw [hr]; exact f6, f6'⟩, _, hx, (fun z hz => by cases hz), fun _ _ => (w 11 (by omega)).trans kv11⟩
    · -- an error
      obtain ⟨g1, l1', B1, h1, t', m1, t1, _, _, ne, ⟨e, ee, e11⟩, _⟩ := q3
      refine Tm_ite (fun z => absurd z ?_) (fun _ => ?_)
      · rw [cs 56 (by omega), ee]
        intro z
        have := (n_le (p := e) (q := 0) (by omega) (by decide)).mp z
        exact ne (by rw [ee, show e = 0 by omega]; rfl)
      refine Tm_mono (b11 _ _ χ rfl rfl) (fun r hr => ?_)
      have w : ∀ j, ¬ (j = 22 ∨ j = 24 ∨ j = 56 ∨ j = 69 ∨ j = 109) → r.2.1 j = υ.1 j := fun j hj => by
        rw [hr]
        show upd (upd (upd χ.1 56 0) 22 _) 24 _ j = _
        rw [upd_other (by omega), upd_other (by omega), upd_other (by omega)]
        exact cs j (by omega)
      have w2 : ∀ a, r.2.2.2 a = υ.2.2 a := fun a => by
        rw [hr]
        show χ.2.2 a = _
        rw [cr]
      have wl : r.2.2.1 = χ.2.1 := by rw [hr]; rfl
      have k120 : υ.1 120 = σ.1 120 := ((kv_m q5).1 120 (by omega)).trans (nn 120 (by decide))
      have key := wk_end (σa := mSc (mSc σ 2 0) 11 0) (ρ := r1.2) (ρ1 := ρ1) (υ := υ) (ω := r.2) pi hP hg ha rfl fx hs hr2 q1 q2 q5 q4.2 (fun j hj => w j (by omega)) (fun a h => w2 a) (by rw [wl, c113]) (by rw [hr]; rfl) (by rw [hr]; rfl) (by rw [wl, c96]) ⟨g1, l1', B1, h1, 870000, MI_x (MI_mo m1 (Nat.zero_le _)) (w 54 (by omega)) (w 55 (by omega)) (w 63 (by omega)) (w 72 (by omega)) (fun a h1 h2 => w2 a)⟩
      exact ⟨key.1, key.2, by rw [w 4 (by omega)]; exact kv4, Or.inl (by rw [w 120 (by omega), k120]), _, hx, (fun z hz => by cases hz), fun _ _ => (w 11 (by omega)).trans kv11⟩
end WKW
end JnS292
section JnS293
/-! What is read of a text: its bytes alone, nothing behind them. -/
section CGR
variable {T T' : Nat → Int32} {n : Nat}
theorem rB_c (h : ∀ i, i < n → T i = T' i) : rB T n = rB T' n := by
  funext p
  unfold rB
  by_cases c : p < n
  · rw [if_pos c, if_pos c]; exact h p c
  · rw [if_neg c, if_neg c]
theorem seg_c (h : ∀ i, i < n → T i = T' i) {a b : Nat} (hb : b ≤ n) : seg T a b = seg T' a b := by
  unfold seg
  refine List.map_congr_left (fun i hi => ?_)
  have := List.mem_range.mp hi
  exact h (a + i) (by omega)
theorem nameE_c (h : ∀ i, i < n → T i = T' i) : ∀ f, nameE T n f = nameE T' n f := by
  intro f
  induction f with
  | zero => rfl
  | succ f ih =>
    funext p
    show (if isN (rB T n p) then nameE T n f (p + 1) else p) = (if isN (rB T' n p) then nameE T' n f (p + 1) else p)
    rw [rB_c h, ih]
theorem digE_c (h : ∀ i, i < n → T i = T' i) : ∀ f, digE T n f = digE T' n f := by
  intro f
  induction f with
  | zero => rfl
  | succ f ih =>
    funext p
    show (if isD (rB T n p) then digE T n f (p + 1) else p) = (if isD (rB T' n p) then digE T' n f (p + 1) else p)
    rw [rB_c h, ih]
theorem strE_c (h : ∀ i, i < n → T i = T' i) : ∀ f, strE T n f = strE T' n f := by
  intro f
  induction f with
  | zero => rfl
  | succ f ih =>
    funext p
    show (if p < n ∧ ¬ T p = 34 ∧ ¬ T p ≤ 31 then strE T n f (p + 1) else p) = (if p < n ∧ ¬ T' p = 34 ∧ ¬ T' p ≤ 31 then strE T' n f (p + 1) else p)
    rw [ih]
    by_cases c : p < n
    · rw [h p c]
    · rw [if_neg (fun z => c z.1), if_neg (fun z => c z.1)]
theorem noteE_c (h : ∀ i, i < n → T i = T' i) : ∀ f, noteE T n f = noteE T' n f := by
  intro f
  induction f with
  | zero => rfl
  | succ f ih =>
    funext p
    show (if p < n ∧ ¬ T p = 10 then noteE T n f (p + 1) else p) = (if p < n ∧ ¬ T' p = 10 then noteE T' n f (p + 1) else p)
    rw [ih]
    by_cases c : p < n
    · rw [h p c]
    · rw [if_neg (fun z => c z.1), if_neg (fun z => c z.1)]
theorem skE_c (h : ∀ i, i < n → T i = T' i) : ∀ f, skE T n f = skE T' n f := by
  intro f
  induction f with
  | zero => rfl
  | succ f ih =>
    funext p
    show (if p < n ∧ isB (T p) then skE T n f (p + 1) else if noteB T n p then skE T n f (noteE T n n p) else p) = (if p < n ∧ isB (T' p) then skE T' n f (p + 1) else if noteB T' n p then skE T' n f (noteE T' n n p) else p)
    have nb : noteB T n p = noteB T' n p := by unfold noteB; rw [rB_c h]
    have e : (p < n ∧ isB (T p)) = (p < n ∧ isB (T' p)) := by
      by_cases c : p < n
      · rw [h p c]
      · exact propext ⟨fun z => absurd z.1 c, fun z => absurd z.1 c⟩
    rw [ih, noteE_c h]
    simp only [nb, e]
theorem sk_c (h : ∀ i, i < n → T i = T' i) : sk T n = sk T' n := by
  funext p
  unfold sk
  rw [skE_c h]
theorem tokM_c (h : ∀ i, i < n → T i = T' i) (w : Int32) : tokM w T n = tokM w T' n := by
  funext q
  unfold tokM
  rw [rB_c h, nameE_c h, digE_c h, strE_c h]
  by_cases c0 : q = n
  · rw [if_pos c0, if_pos c0]
  rw [if_neg c0, if_neg c0]
  by_cases c1 : isL (rB T' n q)
  · rw [if_pos c1, if_pos c1]
    have hq : q < n := by
      by_cases c : q < n
      · exact c
      · rw [rB_out (by omega)] at c1; exact absurd c1 (by decide)
    rw [seg_c h (nameE_le T' n (n + 1) q (by omega))]
  rw [if_neg c1, if_neg c1]
  by_cases c2 : isD (rB T' n q)
  · rw [if_pos c2, if_pos c2]
  rw [if_neg c2, if_neg c2]
  by_cases c3 : rB T' n q = 34
  · rw [if_pos c3, if_pos c3]
    have e : (strE T' n (n + 1) (q + 1) < n ∧ T (strE T' n (n + 1) (q + 1)) = 34) = (strE T' n (n + 1) (q + 1) < n ∧ T' (strE T' n (n + 1) (q + 1)) = 34) := by
      by_cases c : strE T' n (n + 1) (q + 1) < n
      · rw [h _ c]
      · exact propext ⟨fun z => absurd z.1 c, fun z => absurd z.1 c⟩
    simp only [e]
  rw [if_neg c3, if_neg c3]
theorem tkK_c (h : ∀ i, i < n → T i = T' i) : tkK T n = tkK T' n := by
  funext q
  unfold tkK
  rw [tokM_c h]
theorem tkE_c (h : ∀ i, i < n → T i = T' i) : tkE T n = tkE T' n := by
  funext q
  unfold tkE
  rw [tokM_c h]
theorem tkN_c (h : ∀ i, i < n → T i = T' i) : tkN T n = tkN T' n := by
  funext q
  unfold tkN
  rw [sk_c h, tkE_c h]
/-- a token lies within the text -/
theorem tk_in {q : Nat} (h : ¬ tkK T n q = 0) : q ≤ n := by
  by_cases c : q ≤ n
  · exact c
  · exfalso
    apply h
    have r : rB T n q = 0 := rB_out (by omega)
    unfold tkK tokM
    rw [if_neg (by omega), r, if_neg (by decide), if_neg (by decide), if_neg (by decide)]
    have s : ∀ d, signF 0 d = 0 := fun d => by
      unfold signF
      rw [if_neg (by decide), if_neg (by decide), if_neg (by decide), if_neg (by decide), if_neg (by decide), if_neg (by decide), if_neg (by decide), if_neg (by decide), if_neg (by decide)]
      simp
    rw [s]
    show tkc (if (0 : Int32) = 0 then 6 else 4) 0 = 0
    rw [if_pos rfl]
    decide
theorem tkS_c (h : ∀ i, i < n → T i = T' i) {q : Nat} (hk : ¬ tkK T n q = 0) : tkS T n q = tkS T' n q := by
  unfold tkS
  rw [← tkE_c h]
  exact seg_c h (tkE_b T n q (tk_in hk)).2.1
theorem bKeep_c (h : ∀ i, i < n → T i = T' i) {b : BT} {f m : Nat} (hm : f + m ≤ n) : bKeep b T f m = bKeep b T' f m := by
  unfold bKeep
  have e : (fun i => if b.2.1 ≤ i ∧ i < b.2.1 + m then T (f + (i - b.2.1)) else b.2.2.2.1 i) = (fun i => if b.2.1 ≤ i ∧ i < b.2.1 + m then T' (f + (i - b.2.1)) else b.2.2.2.1 i) := by
    funext i
    by_cases c : b.2.1 ≤ i ∧ i < b.2.1 + m
    · rw [if_pos c, if_pos c]; exact h _ (by omega)
    · rw [if_neg c, if_neg c]
  rw [e]
theorem gT_c (h : ∀ i, i < n → T i = T' i) : gT T n = gT T' n := by
  funext q k
  unfold gT
  rw [tkK_c h, tkN_c h]
theorem gW_c (h : ∀ i, i < n → T i = T' i) : gW T n = gW T' n := by
  funext t q k
  unfold gW
  rw [tkK_c h, gT_c h]
theorem keep_c (h : ∀ i, i < n → T i = T' i) {q : Nat} (hk : ¬ tkK T n q = 0) (b : BT) : bKeep b T q (tkE T n q - q) = bKeep b T' q (tkE T' n q - q) := by
  have := tkE_b T n q (tk_in hk)
  rw [← tkE_c h]
  exact bKeep_c h (by omega)
theorem gN_c (h : ∀ i, i < n → T i = T' i) : gN T n = gN T' n := by
  funext E c g q v b k
  unfold gN
  by_cases c1 : tkK T n q = 26
  · have c2 : tkK T' n q = 26 := by rw [← tkK_c h]; exact c1
    have nz : ¬ tkK T n q = 0 := by omega
    rw [if_pos c1, if_pos c2, gT_c h, tkS_c h nz]
    simp only [keep_c h nz]
  · have c2 : ¬ tkK T' n q = 26 := by rw [← tkK_c h]; exact c1
    rw [if_neg c1, if_neg c2]
/-- exps -/
theorem G_c0 (h : ∀ i, i < n → T i = T' i) {f : Nat} (ih : G T n f = G T' n f) (E : En) (o q v i e c g : Nat) (b : BT) : G T n (f + 1) 0 E o q v i e c g b = G T' n (f + 1) 0 E o q v i e c g b := by
  rw [G_0, G_0]
  rw [ih]
theorem G_c1 (h : ∀ i, i < n → T i = T' i) {f : Nat} (ih : G T n f = G T' n f) (E : En) (o q v i e c g : Nat) (b : BT) : G T n (f + 1) 1 E o q v i e c g b = G T' n (f + 1) 1 E o q v i e c g b := by
  rw [G_1, G_1]
  rw [ih, tkK_c h, gT_c h]
theorem G_c2 (h : ∀ i, i < n → T i = T' i) {f : Nat} (ih : G T n f = G T' n f) (E : En) (o q v i e c g : Nat) (b : BT) : G T n (f + 1) 2 E o q v i e c g b = G T' n (f + 1) 2 E o q v i e c g b := by
  rw [G_2, G_2]
  rw [ih]
theorem G_c3 (h : ∀ i, i < n → T i = T' i) {f : Nat} (ih : G T n f = G T' n f) (E : En) (o q v i e c g : Nat) (b : BT) : G T n (f + 1) 3 E o q v i e c g b = G T' n (f + 1) 3 E o q v i e c g b := by
  rw [G_3, G_3]
  rw [ih, tkK_c h, gT_c h]
theorem G_c4 (h : ∀ i, i < n → T i = T' i) {f : Nat} (ih : G T n f = G T' n f) (E : En) (o q v i e c g : Nat) (b : BT) : G T n (f + 1) 4 E o q v i e c g b = G T' n (f + 1) 4 E o q v i e c g b := by
  rw [G_4, G_4]
  rw [ih, tkK_c h, gT_c h]
theorem G_c5 (h : ∀ i, i < n → T i = T' i) {f : Nat} (ih : G T n f = G T' n f) (E : En) (o q v i e c g : Nat) (b : BT) : G T n (f + 1) 5 E o q v i e c g b = G T' n (f + 1) 5 E o q v i e c g b := by
  rw [G_5, G_5]
  rw [ih, tkK_c h, gT_c h]
theorem G_c6 (h : ∀ i, i < n → T i = T' i) {f : Nat} (ih : G T n f = G T' n f) (E : En) (o q v i e c g : Nat) (b : BT) : G T n (f + 1) 6 E o q v i e c g b = G T' n (f + 1) 6 E o q v i e c g b := by
  rw [G_6, G_6]
  rw [ih]
theorem G_c7 (h : ∀ i, i < n → T i = T' i) {f : Nat} (ih : G T n f = G T' n f) (E : En) (o q v i e c g : Nat) (b : BT) : G T n (f + 1) 7 E o q v i e c g b = G T' n (f + 1) 7 E o q v i e c g b := by
  rw [G_7, G_7]
  rw [ih, tkK_c h, gT_c h]
theorem G_c8 (h : ∀ i, i < n → T i = T' i) {f : Nat} (ih : G T n f = G T' n f) (E : En) (o q v i e c g : Nat) (b : BT) : G T n (f + 1) 8 E o q v i e c g b = G T' n (f + 1) 8 E o q v i e c g b := by
  rw [G_8, G_8]
  rw [ih]
theorem G_c9 (h : ∀ i, i < n → T i = T' i) {f : Nat} (ih : G T n f = G T' n f) (E : En) (o q v i e c g : Nat) (b : BT) : G T n (f + 1) 9 E o q v i e c g b = G T' n (f + 1) 9 E o q v i e c g b := by
  rw [G_9, G_9]
  rw [ih, tkK_c h, gT_c h]
theorem G_c10 (h : ∀ i, i < n → T i = T' i) {f : Nat} (ih : G T n f = G T' n f) (E : En) (o q v i e c g : Nat) (b : BT) : G T n (f + 1) 10 E o q v i e c g b = G T' n (f + 1) 10 E o q v i e c g b := by
  rw [G_10, G_10]
  rw [ih, tkK_c h, gT_c h]
theorem G_c11 (h : ∀ i, i < n → T i = T' i) {f : Nat} (ih : G T n f = G T' n f) (E : En) (o q v i e c g : Nat) (b : BT) : G T n (f + 1) 11 E o q v i e c g b = G T' n (f + 1) 11 E o q v i e c g b := by
  rw [G_11, G_11]
  rw [ih, tkK_c h, gT_c h, gW_c h]
theorem G_c12 (h : ∀ i, i < n → T i = T' i) {f : Nat} (ih : G T n f = G T' n f) (E : En) (o q v i e c g : Nat) (b : BT) : G T n (f + 1) 12 E o q v i e c g b = G T' n (f + 1) 12 E o q v i e c g b := by
  rw [G_12, G_12]
  rw [ih, tkK_c h, gT_c h, gW_c h]
theorem G_c14 (h : ∀ i, i < n → T i = T' i) {f : Nat} (ih : G T n f = G T' n f) (E : En) (o q v i e c g : Nat) (b : BT) : G T n (f + 1) 14 E o q v i e c g b = G T' n (f + 1) 14 E o q v i e c g b := by
  rw [G_14, G_14]
  rw [ih, tkK_c h, gT_c h]
theorem G_c15 (h : ∀ i, i < n → T i = T' i) {f : Nat} (ih : G T n f = G T' n f) (E : En) (o q v i e c g : Nat) (b : BT) : G T n (f + 1) 15 E o q v i e c g b = G T' n (f + 1) 15 E o q v i e c g b := by
  rw [G_15, G_15]
  rw [ih, tkK_c h, gT_c h]
theorem G_c16 (h : ∀ i, i < n → T i = T' i) {f : Nat} (ih : G T n f = G T' n f) (E : En) (o q v i e c g : Nat) (b : BT) : G T n (f + 1) 16 E o q v i e c g b = G T' n (f + 1) 16 E o q v i e c g b := by
  rw [G_16, G_16]
  rw [ih, tkK_c h, gT_c h, gW_c h]
theorem G_c17 (h : ∀ i, i < n → T i = T' i) {f : Nat} (ih : G T n f = G T' n f) (E : En) (o q v i e c g : Nat) (b : BT) : G T n (f + 1) 17 E o q v i e c g b = G T' n (f + 1) 17 E o q v i e c g b := by
  rw [G_17, G_17]
  rw [ih, tkK_c h, gT_c h, gW_c h, gN_c h]
theorem G_c18 (h : ∀ i, i < n → T i = T' i) {f : Nat} (ih : G T n f = G T' n f) (E : En) (o q v i e c g : Nat) (b : BT) : G T n (f + 1) 18 E o q v i e c g b = G T' n (f + 1) 18 E o q v i e c g b := by
  rw [G_18, G_18]
  rw [ih, tkK_c h, gT_c h, gN_c h]
theorem G_c13 (h : ∀ i, i < n → T i = T' i) {f : Nat} (ih : G T n f = G T' n f) (E : En) (o q v i e c g : Nat) (b : BT) : G T n (f + 1) 13 E o q v i e c g b = G T' n (f + 1) 13 E o q v i e c g b := by
  have kq : tkK T n q = tkK T' n q := by rw [tkK_c h]
  rw [G_13, G_13]
  rw [ih, tkK_c h, tkE_c h, gT_c h, gW_c h]
  by_cases c27 : tkK T' n q = 27
  · rw [if_pos c27, if_pos c27]
    have k := keep_c h (q := q) (by rw [kq]; omega) b
    rw [tkE_c h] at k
    rw [k]
  rw [if_neg c27, if_neg c27]
  by_cases c28 : tkK T' n q = 28
  · rw [if_pos c28, if_pos c28]
    have tb := tkE_b T' n q (tk_in (T := T') (n := n) (q := q) (by omega))
    by_cases c0 : tkE T' n q - 2 - q = 0
    · rw [c0]
      have e : ∀ U : Nat → Int32, bKeep b U (q + 1) 0 = (b.1, b.2.1 + 0, b.2.2.1, b.2.2.2.1, b.2.2.2.2) := fun U => by
        unfold bKeep
        have e : (fun i => if b.2.1 ≤ i ∧ i < b.2.1 + 0 then U (q + 1 + (i - b.2.1)) else b.2.2.2.1 i) = b.2.2.2.1 := by
          funext i
          rw [if_neg (by omega)]
        rw [e]
      rw [e T, e T']
    · rw [bKeep_c h (b := b) (f := q + 1) (m := tkE T' n q - 2 - q) (by omega)]
  rw [if_neg c28, if_neg c28]
  by_cases c26 : tkK T' n q = 26
  · rw [tkS_c h (q := q) (by rw [kq]; omega)]
  · rw [if_neg c26, if_neg c26]
theorem G_c (h : ∀ i, i < n → T i = T' i) : ∀ f, G T n f = G T' n f := by
  intro f
  induction f with
  | zero => funext nt E o q v i e c g b; simp only [G]
  | succ f ih =>
    funext nt E o q v i e c g b
    by_cases c19 : 19 ≤ nt
    · obtain ⟨k, rfl⟩ : ∃ k, nt = k + 19 := ⟨nt - 19, by omega⟩
      simp only [G]
    · have : nt = 0 ∨ nt = 1 ∨ nt = 2 ∨ nt = 3 ∨ nt = 4 ∨ nt = 5 ∨ nt = 6 ∨ nt = 7 ∨ nt = 8 ∨ nt = 9 ∨ nt = 10 ∨ nt = 11 ∨ nt = 12 ∨ nt = 13 ∨ nt = 14 ∨ nt = 15 ∨ nt = 16 ∨ nt = 17 ∨ nt = 18 := by omega
      rcases this with rfl | rfl | rfl | rfl | rfl | rfl | rfl | rfl | rfl | rfl | rfl | rfl | rfl | rfl | rfl | rfl | rfl | rfl | rfl
      · exact G_c0 h ih E o q v i e c g b
      · exact G_c1 h ih E o q v i e c g b
      · exact G_c2 h ih E o q v i e c g b
      · exact G_c3 h ih E o q v i e c g b
      · exact G_c4 h ih E o q v i e c g b
      · exact G_c5 h ih E o q v i e c g b
      · exact G_c6 h ih E o q v i e c g b
      · exact G_c7 h ih E o q v i e c g b
      · exact G_c8 h ih E o q v i e c g b
      · exact G_c9 h ih E o q v i e c g b
      · exact G_c10 h ih E o q v i e c g b
      · exact G_c11 h ih E o q v i e c g b
      · exact G_c12 h ih E o q v i e c g b
      · exact G_c13 h ih E o q v i e c g b
      · exact G_c14 h ih E o q v i e c g b
      · exact G_c15 h ih E o q v i e c g b
      · exact G_c16 h ih E o q v i e c g b
      · exact G_c17 h ih E o q v i e c g b
      · exact G_c18 h ih E o q v i e c g b
theorem gX_c (h : ∀ i, i < n → T i = T' i) {f : Nat} {E : En} {b : BT} : gX T n f E b = gX T' n f E b := by
  unfold gX
  rw [tkK_c h, sk_c h, G_c h]
end CGR
end JnS293
section JnS294
/-! A view is told (reference). -/
/-- the views: their texts are exps of the program -/
def VwO (gl : List Gn) (pr : Nat → Nat) (b : BT) (σ : MS) : Prop := ∃ V, σ.1 73 = nI V ∧ V ≤ 8 ∧ ∀ v, v < V → ∃ nv, σ.2.2 55 v = nI nv ∧ nv ≤ 32768 ∧ (∀ i, i < nv → ∃ d, d ≤ 300 ∧ σ.2.2 54 (32768 * v + i) = nI d) ∧ ∃ f t, gX (fun i => σ.2.2 54 (32768 * v + i)) nv f (gl, [], [], 42, false, false, pr) b = some (Sum.inr t)
section VWS
variable {T : Nat → Nat → Int32} {FN : Nat → Nat → Prop} {S : Nat → Nat → Nat → Nat → Prop} {gl : List Gn} {pr : Nat → Nat} {b : BT} {ns n f : Nat} {Tp : Nat → Int32} {σ σa ρ ω : MS} {C K : Nat → Int32} {e0 z0 x66 : Int32} {sd : Int64} {m : Nat} {t X B h : Nat} {g : Nat → Prop} {l : List Nat}
theorem VwO_c (h73 : ω.1 73 = σ.1 73) (h54 : ω.2.2 54 = σ.2.2 54) (h55 : ω.2.2 55 = σ.2.2 55) (h : VwO gl pr b σ) : VwO gl pr b ω := by
  unfold VwO at h ⊢
  rw [h73, h54, h55]; exact h
/-- nothing was worked -/
theorem vw_ae (h68 : σ.1 68 = 0) (h33 : ∀ i, i < 1380 → σ.2.2 33 i = 0) (hg : PG gl pr b σ) (hb : b.1 ≤ 70000 ∧ b.2.1 ≤ 70000) (ha : ∀ j, ¬ (j = 2 ∨ j = 11) → σa.1 j = σ.1 j) (ha2 : σa.2 = σ.2) (hX : FrX b.1 b.2.1 σa ρ) (wn : ∀ j, ¬ (j = 2 ∨ j = 4 ∨ j = 11 ∨ j = 22 ∨ j = 24 ∨ j = 73) → ω.1 j = ρ.1 j) (wr : ∀ a, ¬ ((36 ≤ a ∧ a ≤ 39) ∨ a = 54 ∨ a = 55) → ω.2.2 a = ρ.2.2 a) (wl : ω.2.1 = ρ.2.1) (w22 : ω.1 22 = σ.1 22) (w24 : ω.1 24 = σ.1 24) : AEq σ ω ∧ PG gl pr b ω := by
  obtain ⟨x1, x2, x3, x4, x5, x6, x7⟩ := hX
  have q22 : (σ.1 22).toNatClampNeg = b.1 := by rw [hg.2.1.1, n_cl (p := b.1) (by omega)]
  have q24 : (σ.1 24).toNatClampNeg = b.2.1 := by rw [hg.2.1.2.2.1, n_cl (p := b.2.1) (by omega)]
  have sa : ∀ a, σa.2.2 a = σ.2.2 a := fun a => by rw [ha2]
  have nn : ∀ j, ¬ ((2 ≤ j ∧ j ≤ 13) ∨ j = 22 ∨ j = 24 ∨ j = 37 ∨ j = 38 ∨ j = 42 ∨ j = 43 ∨ (45 ≤ j ∧ j ≤ 48) ∨ j = 52 ∨ j = 73) → ω.1 j = σ.1 j := fun j hj => (wn j (by omega)).trans ((x1 j (by omega)).trans (ha j (by omega)))
  have h3 : ∀ j, ¬ ((4 ≤ j ∧ j ≤ 9) ∨ j = 12 ∨ (20 ≤ j ∧ j ≤ 27) ∨ (36 ≤ j ∧ j ≤ 39) ∨ j = 54 ∨ j = 55) → ω.2.2 j = σ.2.2 j := fun j hj => (wr j (by omega)).trans ((x3 j (by omega)).trans (sa j))
  have tb : ∀ a i, ((a = 10 ∨ a = 11 ∨ (17 ≤ a ∧ a ≤ 21)) ∧ ¬ StU (σ.1 30) (σ.1 44) (σ.2.2 21) a i) ∨ (4 ≤ a ∧ a ≤ 9 ∧ (1 ≤ i ∧ i < (σ.1 22).toNatClampNeg)) ∨ (a = 12 ∧ i < (σ.1 24).toNatClampNeg) ∨ (a = 19 ∧ i < 8 * (σ.1 30).toNatClampNeg ∧ i % 8 < (σ.2.2 18 (i / 8)).toNatClampNeg) → ω.2.2 a i = σ.2.2 a i := fun a i hi => by
    unfold StU at hi
    by_cases c1 : 4 ≤ a ∧ a ≤ 9
    · rw [wr a (by omega), x4 a c1.1 c1.2 i (by omega) (by omega), sa a]
    by_cases c2 : a = 12
    · subst c2; rw [wr 12 (by omega), x5 i (by omega), sa 12]
    by_cases c3 : a = 20
    · subst c3; rw [wr 20 (by omega), x7 i (by omega), sa 20]
    by_cases c4 : a = 21
    · subst c4; rw [wr 21 (by omega), x6 i (by omega), sa 21]
    rw [h3 a (by omega)]
  refine ⟨⟨fun j hj => ?_, (nn 68 (by decide)).trans h68, fun a i h1 h2 hz => by rw [h3 a (by omega)], tb, h3 2 (by decide), fun a i z => ?_, fun i hi => by rw [h3 33 (by decide)]; exact h33 i hi, by rw [wl, x2, ha2], by rw [wl, x2, ha2]⟩, ?_⟩
  · by_cases c : j = 22
    · rw [c]; exact w22
    by_cases c' : j = 24
    · rw [c']; exact w24
    exact nn j (by omega)
  · have wa : ω.2.2 a = σ.2.2 a := by
      rcases z with z | z
      · exact h3 a (by omega)
      · exact h3 a (by omega)
    have w28 : ω.2.2 28 = σ.2.2 28 := h3 28 (by decide)
    refine ⟨?_, Or.inr ⟨w28, by rw [wa]⟩⟩
    unfold szV
    rw [w28, wa]
  · obtain ⟨p1, ⟨q1, q2, q3, q4, q5⟩, ⟨g1, g2, g3⟩, p4⟩ := hg
    refine ⟨(h3 1 (by decide)).trans p1, ⟨w22.trans q1, q2, w24.trans q3, fun j h4 h9 i hi hi2 => ?_, fun i hi => ?_⟩, ⟨(nn 25 (by decide)).trans g1, g2, ?_⟩, ?_⟩
    · rw [tb j i (by omega)]; exact q4 j h4 h9 i hi hi2
    · rw [tb 12 i (by omega)]; exact q5 i hi
    · rw [h3 13 (by decide), h3 14 (by decide), h3 15 (by decide), h3 16 (by decide)]; exact g3
    · rw [h3 18 (by decide)]; exact p4
/-- views may be om -/
theorem MI_vw (hM : MI 0 X g l B h σ) (h54 : ω.1 54 = σ.1 54) (h55 : ω.1 55 = σ.1 55) (h63 : ω.1 63 = σ.1 63) (h72 : ω.1 72 = σ.1 72) (hr : ∀ a, (28 ≤ a ∧ a ≤ 35) ∨ a = 40 → ω.2.2 a = σ.2.2 a) (hv : ∀ a i, 36 ≤ a → a ≤ 38 → ω.2.2 a i = σ.2.2 a i ∨ ω.2.2 a i = 0) : MI 0 870000 g l B h ω := by
  obtain ⟨m1, m2, m3, m4⟩ := hM
  have rp : ∀ a i, RtP 0 ω a i ↔ RtP 0 σ a i := RtP_x h63 h72 (hr 30 (by omega)) (hr 31 (by omega))
  refine MI_any (HS_c m1 h54 h55 (hr 28 (by omega))) (RtQ_c h63 h72 (hr 30 (by omega)) (hr 31 (by omega)) m2) (fun a i z => ?_)
  have c := RtP_r z
  have v := m3 a i ((rp a i).mp z)
  by_cases e : 36 ≤ a ∧ a ≤ 38
  · rcases hv a i e.1 e.2 with y | y
    · rw [y]; exact v
    · rw [y]; exact ⟨0, rfl, Or.inl (by decide)⟩
  · rw [hr a (by omega)]; exact v
end VWS
end JnS294
section JnS295
variable {yf : Nat × Nat}
/-! view, whole (reference). -/
/-- a text was read for a view, nothing was worked -/
def VwP (gl : List Gn) (pr : Nat → Nat) (b : BT) (σ ω : MS) : Prop := AEq σ ω ∧ PG gl pr b ω ∧ (∃ (g : Nat → Prop) (l : List Nat) (B h X : Nat), MI 0 X g l B h ω) ∧ (UT σ → UT ω) ∧ ω.1 56 = σ.1 56 ∧ VwO gl pr b ω ∧ (∀ j, j = 25 ∨ j = 31 ∨ j = 44 ∨ j = 111 ∨ j = 112 ∨ j = 115 ∨ j = 120 → ω.1 j = σ.1 j) ∧ (∀ a, a = 1 ∨ a = 3 ∨ (13 ≤ a ∧ a ≤ 19) ∨ a = 52 ∨ a = 53 ∨ a = 57 → ω.2.2 a = σ.2.2 a) ∧ ω.1 4 = 0
section VWW
variable {T : Nat → Nat → Int32} {FN : Nat → Nat → Prop} {S : Nat → Nat → Nat → Nat → Prop} {gl : List Gn} {pr : Nat → Nat} {b : BT} {ns n f : Nat} {Tp : Nat → Int32} {σ σa ρ ω : MS} {C K : Nat → Int32} {e0 z0 x66 : Int32} {sd : Int64} {m : Nat}
theorem vw_p (hR : RIc T FN C K e0 z0 x66 0 sd σ) (hg : PG gl pr b σ) (hb : b.1 ≤ 70000 ∧ b.2.1 ≤ 70000) (ha : ∀ j, ¬ (j = 2 ∨ j = 11) → σa.1 j = σ.1 j) (ha2 : σa.2 = σ.2) (hX : FrX b.1 b.2.1 σa ρ) (wn : ∀ j, ¬ (j = 2 ∨ j = 4 ∨ j = 11 ∨ j = 22 ∨ j = 24 ∨ j = 73) → ω.1 j = ρ.1 j) (wr : ∀ a, ¬ ((36 ≤ a ∧ a ≤ 39) ∨ a = 54 ∨ a = 55) → ω.2.2 a = ρ.2.2 a) (wl : ω.2.1 = ρ.2.1) (w22 : ω.1 22 = σ.1 22) (w24 : ω.1 24 = σ.1 24) (wv : ∀ a i, 36 ≤ a → a ≤ 38 → ω.2.2 a i = σ.2.2 a i ∨ ω.2.2 a i = 0) (hV : VwO gl pr b ω) (w4 : ω.1 4 = 0) : VwP gl pr b σ ω := by
  obtain ⟨a1, a2⟩ := vw_ae hR.2.2.2.2.2.2.2.2.1 hR.2.2.1 hg hb ha ha2 hX wn wr wl w22 w24
  obtain ⟨⟨g, l, B, h, X, hM⟩, _⟩ := hR
  obtain ⟨x1, x2, x3, x4, x5, x6, x7⟩ := hX
  have sa : ∀ a, σa.2.2 a = σ.2.2 a := fun a => by rw [ha2]
  have nn : ∀ j, ¬ ((2 ≤ j ∧ j ≤ 13) ∨ j = 22 ∨ j = 24 ∨ j = 37 ∨ j = 38 ∨ j = 42 ∨ j = 43 ∨ (45 ≤ j ∧ j ≤ 48) ∨ j = 52 ∨ j = 73) → ω.1 j = σ.1 j := fun j hj => (wn j (by omega)).trans ((x1 j (by omega)).trans (ha j (by omega)))
  have h3 : ∀ j, ¬ ((4 ≤ j ∧ j ≤ 9) ∨ j = 12 ∨ (20 ≤ j ∧ j ≤ 27) ∨ (36 ≤ j ∧ j ≤ 39) ∨ j = 54 ∨ j = 55) → ω.2.2 j = σ.2.2 j := fun j hj => (wr j (by omega)).trans ((x3 j (by omega)).trans (sa j))
  refine ⟨a1, a2, ⟨g, l, B, h, 870000, MI_vw hM (nn 54 (by decide)) (nn 55 (by decide)) (nn 63 (by decide)) (nn 72 (by decide)) (fun a ha => h3 a (by omega)) wv⟩, fun hU => UT_k hU (nn 63 (by decide)) (nn 64 (by decide)) (nn 65 (by decide)) (h3 28 (by decide)) (fun a h1 h2 => h3 a (by omega)) (kC_ae a1), nn 56 (by decide), hV, fun j hj => nn j (by omega), fun a ha => h3 a (by omega), w4⟩
theorem s_view (hR : RIc T FN C K e0 z0 x66 0 sd σ) (hb : 1 ≤ b.1 ∧ b.1 + 33735 ≤ 70000 ∧ b.2.1 + 32768 ≤ 70000) (hg : PG gl pr b σ) (hTp : TpO Tp n σ) (hv : VwO gl pr b σ) (h111 : ¬ σ.1 111 = 0) {L : Nat → Int32} : Tm (fun k => x_view k 0 L σ) (fun r => r = (0, mSc σ 2 2) ∨ VwP gl pr b σ r.2) := by
  obtain ⟨⟨n1, n2⟩, tp3, tpb⟩ := hTp
  obtain ⟨V, v1, v2, v3⟩ := hv
  refine Tm_suc (fun k => by rw [x_view]) ?_
  refine Tm_ite (fun z => absurd z h111) (fun _ => ?_)
  refine Tm_suc (fun k => by rw [x_view]) ?_
  refine Tm_ite (fun z => ?_) (fun z => ?_)
  · refine Tm_suc (fun k => by rw [x_view]) ?_
    refine Tm_ob (s_good _ _) (fun r hr => ?_)
    rw [hr]
    refine Tm_ite (fun _ => ?_) (fun v => absurd rfl v)
    exact Tm_some (Or.inl rfl)
  have hV8 : V < 8 := by
    rw [v1] at z
    have : ¬ V = 8 := fun e => z (by rw [e]; rfl)
    omega
  refine Tm_suc (fun k => by rw [x_view]) ?_
  refine Tm_suc (fun k => by rw [x_view]) ?_
  refine Tm_ob (s_good _ _) (fun r hr => ?_)
  rw [hr]
  refine Tm_ite (fun z => absurd (show (1 : Int32) = 0 from z) (by decide)) (fun _ => ?_)
  show Tm (fun k => x_view k 4 (upd L 100 0) (mSc σ 2 0)) _
  refine Tm_suc (fun k => by rw [x_view]) ?_
  show Tm (fun k => x_view k 5 (upd (upd (upd L 100 0) 1 (σ.1 22)) 2 (σ.1 24)) (mSc (mSc σ 2 0) 11 0)) _
  refine Tm_suc (fun k => by rw [x_view]) ?_
  obtain ⟨x, hx⟩ := gX_tot (T := Tp) (n := n) (gl, [], [], 42, false, decide (0 = 1), pr) b hb.1
  have hgA : PG gl pr b (mSc (mSc σ 2 0) 11 0) := ⟨hg.1, PB_c (σ := σ) rfl rfl (fun _ _ => rfl) hg.2.1, hg.2.2.1, hg.2.2.2⟩
  have ha : ∀ j, ¬ (j = 2 ∨ j = 11) → (mSc (mSc σ 2 0) 11 0).1 j = σ.1 j := fun j hj => by
    show upd (upd σ.1 2 0) 11 0 j = _
    rw [upd_other (by omega), upd_other (by omega)]
  refine Tm_ob (p_readExp (dr := 0) (σ := mSc (mSc σ 2 0) 11 0) hx ⟨n1, n2⟩ tp3 hgA (by omega) rfl (by omega) (by omega)) (fun r1 hr1 => ?_)
  obtain ⟨fx, _, hx2⟩ := hr1
  show Tm (fun k => x_view k 6 (upd (upd (upd (upd L 100 0) 1 (σ.1 22)) 2 (σ.1 24)) 3 (σ.1 4)) (mSc r1.2 22 (σ.1 22))) _
  refine Tm_suc (fun k => by rw [x_view]) ?_
  show Tm (fun k => x_view k 7 (upd (upd (upd (upd L 100 0) 1 (σ.1 22)) 2 (σ.1 24)) 3 (σ.1 4)) (mSc (mSc r1.2 22 (σ.1 22)) 24 (σ.1 24))) _
  obtain ⟨τ, hτ⟩ : ∃ τ, τ = mSc (mSc r1.2 22 (σ.1 22)) 24 (σ.1 24) := ⟨_, rfl⟩
  rw [← hτ]
  have ts : ∀ j, ¬ (j = 22 ∨ j = 24) → τ.1 j = r1.2.1 j := fun j hj => by
    rw [hτ]
    show upd (upd r1.2.1 22 _) 24 _ j = _
    rw [upd_other (by omega), upd_other (by omega)]
  have t22 : τ.1 22 = σ.1 22 := by rw [hτ]; rfl
  have t24 : τ.1 24 = σ.1 24 := by rw [hτ]; rfl
  have tr : τ.2 = r1.2.2 := by rw [hτ]; rfl
  have rx : ∀ a, ¬ ((4 ≤ a ∧ a ≤ 9) ∨ a = 12 ∨ (20 ≤ a ∧ a ≤ 27)) → τ.2.2 a = σ.2.2 a := fun a h => by
    rw [tr]; exact fx.2.2.1 a h
  have t73 : τ.1 73 = nI V := (ts 73 (by omega)).trans ((fx.1 73 (by decide)).trans v1)
  refine Tm_suc (fun k => by rw [x_view]) ?_
  cases x with
  | inl yf =>
    refine Tm_ite (fun z => absurd ((ts 10 (by omega)).symm.trans z) hx2.1) (fun _ => ?_)
    refine Tm_suc (fun k => by rw [x_view]) ?_
    refine Tm_some (Or.inr ?_)
    show VwP gl pr b σ (mSc τ 4 0)
    exact vw_p (ρ := r1.2) hR hg (by omega) ha rfl fx (fun j hj => (show (mSc τ 4 0).1 j = τ.1 j from upd_other (by omega)).trans (ts j (by omega))) (fun a _ => by show τ.2.2 a = _; rw [tr]) (by show τ.2.1 = _; rw [tr]) t22 t24 (fun a i h1 h2 => Or.inl (by show τ.2.2 a i = _; rw [rx a (by omega)])) (VwO_c (σ := σ) (t73.trans v1.symm) (rx 54 (by decide)) (rx 55 (by decide)) ⟨V, v1, v2, v3⟩) rfl
  | inr t =>
    refine Tm_ite (fun _ => ?_) (fun z => absurd ((ts 10 (by omega)).trans hx2.1) z)
    refine Tm_suc (fun k => by rw [x_view]) ?_
    -- the end: the view is there
    have fin : ∀ (N : Nat → Int32) (υ : MS), N 3 = nI n → (∀ j, υ.1 j = τ.1 j) → υ.2.1 = τ.2.1 → (∀ a, a ≠ 54 → υ.2.2 a = τ.2.2 a) → (∀ k, k < n → υ.2.2 54 (32768 * V + k) = Tp k) → (∀ y, y < 32768 * V → υ.2.2 54 y = σ.2.2 54 y) → Tm (fun k => x_view k 12 N υ) (fun r => r = (0, mSc σ 2 2) ∨ VwP gl pr b σ r.2) := fun N υ n3 us ul ur uc uo => by
      have u73 : υ.1 73 = nI V := (us 73).trans t73
      have ix : ¬ (nI V < 0 ∨ 8 ≤ (nI V).toNatClampNeg) := n_in (by omega) (by omega)
      refine Tm_suc (fun k => by rw [x_view]) ?_
      rw [u73, n3]
      refine Tm_chk ix ?_
      rw [n_cl (p := V) (by omega)]
      show Tm (fun k => x_view k 13 N (mAr υ 55 V (nI n))) _
      refine Tm_suc (fun k => by rw [x_view]) ?_
      rw [show (mAr υ 55 V (nI n)).1 73 = nI V from u73]
      refine Tm_chk ix ?_
      rw [n_cl (p := V) (by omega)]
      show Tm (fun k => x_view k 14 N (mAr (mAr υ 55 V (nI n)) 36 V 0)) _
      refine Tm_suc (fun k => by rw [x_view]) ?_
      rw [show (mAr (mAr υ 55 V (nI n)) 36 V 0).1 73 = nI V from u73]
      refine Tm_chk ix ?_
      rw [n_cl (p := V) (by omega)]
      show Tm (fun k => x_view k 15 N (mAr (mAr (mAr υ 55 V (nI n)) 36 V 0) 37 V 0)) _
      refine Tm_suc (fun k => by rw [x_view]) ?_
      rw [show (mAr (mAr (mAr υ 55 V (nI n)) 36 V 0) 37 V 0).1 73 = nI V from u73]
      refine Tm_chk ix ?_
      rw [n_cl (p := V) (by omega)]
      show Tm (fun k => x_view k 16 N (mAr (mAr (mAr (mAr υ 55 V (nI n)) 36 V 0) 37 V 0) 38 V 0)) _
      refine Tm_suc (fun k => by rw [x_view]) ?_
      rw [show (mAr (mAr (mAr (mAr υ 55 V (nI n)) 36 V 0) 37 V 0) 38 V 0).1 73 = nI V from u73]
      refine Tm_chk ix ?_
      rw [n_cl (p := V) (by omega)]
      show Tm (fun k => x_view k 17 N (mAr (mAr (mAr (mAr (mAr υ 55 V (nI n)) 36 V 0) 37 V 0) 38 V 0) 39 V (vp_nar .boolean 0))) _
      obtain ⟨χ, hχ⟩ : ∃ χ, χ = mAr (mAr (mAr (mAr (mAr υ 55 V (nI n)) 36 V 0) 37 V 0) 38 V 0) 39 V (vp_nar .boolean 0) := ⟨_, rfl⟩
      rw [← hχ]
      have cs : ∀ j, χ.1 j = τ.1 j := fun j => by rw [hχ]; exact us j
      have cl : χ.2.1 = τ.2.1 := by rw [hχ]; exact ul
      have cr : ∀ a, ¬ ((36 ≤ a ∧ a ≤ 39) ∨ a = 55) → χ.2.2 a = υ.2.2 a := fun a h => by
        rw [hχ, mAr_o (by omega), mAr_o (by omega), mAr_o (by omega), mAr_o (by omega), mAr_o (by omega)]
      have c55 : χ.2.2 55 = upd (υ.2.2 55) V (nI n) := by
        rw [hχ, mAr_o (by decide), mAr_o (by decide), mAr_o (by decide), mAr_o (by decide), mAr_s]
      have cv : ∀ a i, 36 ≤ a → a ≤ 38 → χ.2.2 a i = σ.2.2 a i ∨ χ.2.2 a i = 0 := fun a i h1 h2 => by
        have e0 : υ.2.2 a i = σ.2.2 a i := by rw [ur a (by omega), rx a (by omega)]
        have : a = 36 ∨ a = 37 ∨ a = 38 := by omega
        by_cases ei : i = V
        · refine Or.inr ?_
          rw [hχ, ei]
          rcases this with rfl | rfl | rfl
          · rw [mAr_o (by decide), mAr_o (by decide), mAr_o (by decide), mAr_s, upd_same]
          · rw [mAr_o (by decide), mAr_o (by decide), mAr_s, upd_same]
          · rw [mAr_o (by decide), mAr_s, upd_same]
        · refine Or.inl ?_
          rw [hχ]
          rcases this with rfl | rfl | rfl
          · rw [mAr_o (by decide), mAr_o (by decide), mAr_o (by decide), mAr_s, upd_other ei, mAr_o (by decide)]; exact e0
          · rw [mAr_o (by decide), mAr_o (by decide), mAr_s, upd_other ei, mAr_o (by decide), mAr_o (by decide)]; exact e0
          · rw [mAr_o (by decide), mAr_s, upd_other ei, mAr_o (by decide), mAr_o (by decide), mAr_o (by decide)]; exact e0
      refine Tm_suc (fun k => by rw [x_view]) ?_
      show Tm (fun k => x_view k 18 N (mSc χ 4 0)) _
      refine Tm_suc (fun k => by rw [x_view]) ?_
      rw [show (mSc χ 4 0).1 73 = nI V from (cs 73).trans t73, n_add1]
      show Tm (fun k => x_view k 19 N (mSc (mSc χ 4 0) 73 (nI (V + 1)))) _
      refine Tm_suc (fun k => by rw [x_view]) ?_
      refine Tm_some (Or.inr ?_)
      show VwP gl pr b σ (mSc (mSc χ 4 0) 73 (nI (V + 1)))
      refine vw_p (ρ := r1.2) hR hg (by omega) ha rfl fx (fun j hj => ?_) (fun a h => ?_) ?_ ((cs 22).trans t22) ((cs 24).trans t24) cv ⟨V + 1, rfl, by omega, fun v hv => ?_⟩ rfl
      · show upd (upd χ.1 4 0) 73 _ j = _
        rw [upd_other (by omega), upd_other (by omega), cs j, ts j (by omega)]
      · show χ.2.2 a = _
        rw [cr a (by omega), ur a (by omega), tr]
      · show χ.2.1 = _
        rw [cl, tr]
      · have e54 : ∀ y, χ.2.2 54 y = υ.2.2 54 y := fun y => by rw [cr 54 (by omega)]
        by_cases ev : v = V
        · subst ev
          refine ⟨n, ?_, n2, fun i hi => ?_, ?_⟩
          · show χ.2.2 55 v = _
            rw [c55, upd_same]
          · show ∃ d, d ≤ 300 ∧ χ.2.2 54 (32768 * v + i) = nI d
            rw [e54, uc i hi]; exact tpb i hi
          · refine ⟨30 * n + 21, t, ?_⟩
            show gX (fun i => χ.2.2 54 (32768 * v + i)) n _ _ b = _
            rw [gX_c (T' := Tp) (fun i hi => by rw [e54, uc i hi])]
            exact hx
        · obtain ⟨nv, a1, a2, a3, f', t', a4⟩ := v3 v (by omega)
          have old : ∀ i, i < nv → χ.2.2 54 (32768 * v + i) = σ.2.2 54 (32768 * v + i) := fun i hi => by
            have : 32768 * v + 32768 ≤ 32768 * V := by
              have : v + 1 ≤ V := by omega
              calc 32768 * v + 32768 = 32768 * (v + 1) := by omega
                _ ≤ 32768 * V := Nat.mul_le_mul_left _ this
            rw [e54, uo _ (by omega)]
          refine ⟨nv, ?_, a2, fun i hi => ?_, f', t', ?_⟩
          · show χ.2.2 55 v = _
            rw [c55, upd_other ev, ur 55 (by decide), rx 55 (by decide)]; exact a1
          · show ∃ d, d ≤ 300 ∧ χ.2.2 54 (32768 * v + i) = nI d
            rw [old i hi]; exact a3 i hi
          · show gX (fun i => χ.2.2 54 (32768 * v + i)) nv _ _ b = _
            rw [gX_c (T' := fun i => σ.2.2 54 (32768 * v + i)) (fun i hi => old i hi)]
            exact a4
    -- the text is copied
    have lp : ∀ (d i : Nat) (N : Nat → Int32) (υ : MS), d + i = n → N 3 = nI n → N 4 = nI i → (∀ j, υ.1 j = τ.1 j) → υ.2.1 = τ.2.1 → (∀ a, a ≠ 54 → υ.2.2 a = τ.2.2 a) → (∀ k, k < i → υ.2.2 54 (32768 * V + k) = Tp k) → (∀ y, y < 32768 * V → υ.2.2 54 y = σ.2.2 54 y) → Tm (fun k => x_view k 10 N υ) (fun r => r = (0, mSc σ 2 2) ∨ VwP gl pr b σ r.2) := by
      intro d
      induction d with
      | zero =>
        intro i N υ hi n3 n4 us ul ur uc uo
        refine Tm_suc (fun k => by rw [x_view]) ?_
        rw [n3, n4]
        refine Tm_ite (fun _ => ?_) (fun z => absurd ((n_le (by omega) (by omega)).mpr (by omega)) z)
        exact fin N υ n3 us ul ur (fun k hk => uc k (by omega)) uo
      | succ d ih =>
        intro i N υ hi n3 n4 us ul ur uc uo
        have u73 : υ.1 73 = nI V := (us 73).trans t73
        refine Tm_suc (fun k => by rw [x_view]) ?_
        rw [n3, n4, u73, show (32768 : Int32) * nI V = nI (32768 * V) from n_mulN 32768 V, n_add (p := 32768 * V) (by omega)]
        refine Tm_ite (fun z => absurd ((n_le (by omega) (by omega)).mp z) (by omega)) (fun _ => ?_)
        refine Tm_chk (n_in (by omega) (by omega)) ?_
        refine Tm_chk (n_in (by omega) (by omega)) ?_
        rw [n_cl (p := i) (by omega), n_cl (p := 32768 * V + i) (by omega)]
        show Tm (fun k => x_view k 11 N (mAr υ 54 (32768 * V + i) (υ.2.2 3 i))) _
        refine Tm_suc (fun k => by rw [x_view]) ?_
        rw [n4, n_add1]
        have u3 : υ.2.2 3 i = Tp i := by rw [ur 3 (by decide), rx 3 (by decide), tp3]
        refine ih (i + 1) _ _ (by omega) n3 rfl us ul (fun a h => (mAr_o h).trans (ur a h)) (fun k hk => ?_) (fun y hy => ?_)
        · rw [mAr_s]
          by_cases e : k = i
          · rw [e, upd_same]; exact u3
          · rw [upd_other (by omega)]; exact uc k (by omega)
        · rw [mAr_s, upd_other (by omega)]; exact uo y hy
    exact lp n 0 _ τ (by omega) n1 rfl (fun _ => rfl) rfl (fun _ _ => rfl) (fun k hk => absurd hk (Nat.not_lt_zero k)) (fun y _ => by rw [rx 54 (by decide)])
end VWW
end JnS295
section JnS296
/-! A run is left alone (reference): rows that are not its own, an operation on values. -/
/-- what a round leaves besides the run -/
def OR (σ ω : MS) : Prop := (∀ j, j = 22 ∨ j = 24 ∨ j = 25 ∨ j = 31 ∨ j = 44 ∨ j = 73 ∨ j = 111 ∨ j = 112 ∨ j = 115 ∨ j = 120 → ω.1 j = σ.1 j) ∧ (∀ a, a = 1 ∨ (13 ≤ a ∧ a ≤ 19) ∨ (52 ≤ a ∧ a ≤ 57) → ω.2.2 a = σ.2.2 a) ∧ (∀ a i, 4 ≤ a → a ≤ 9 → 1 ≤ i → i < (σ.1 22).toNatClampNeg → ω.2.2 a i = σ.2.2 a i) ∧ ∀ i, i < (σ.1 24).toNatClampNeg → ω.2.2 12 i = σ.2.2 12 i
section ORS
variable {T : Nat → Nat → Int32} {FN : Nat → Nat → Prop} {S : Nat → Nat → Nat → Nat → Prop} {gl : List Gn} {pr : Nat → Nat} {b : BT} {σ τ ω : MS} {C K : Nat → Int32} {e0 z0 x66 : Int32} {sd : Int64} {m t X B h u : Nat} {g g' : Nat → Prop} {l l' : List Nat}
theorem OR_rf : OR σ σ := ⟨fun _ _ => rfl, fun _ _ => rfl, fun _ _ _ _ _ _ => rfl, fun _ _ => rfl⟩
theorem OR_tr (a : OR σ τ) (c : OR τ ω) : OR σ ω := by
  obtain ⟨a1, a2, a3, a4⟩ := a
  obtain ⟨c1, c2, c3, c4⟩ := c
  refine ⟨fun j hj => (c1 j hj).trans (a1 j hj), fun x hx => (c2 x hx).trans (a2 x hx), fun x i h1 h2 h3 h4 => ?_, fun i hi => ?_⟩
  · rw [c3 x i h1 h2 h3 (by rw [a1 22 (by omega)]; exact h4)]; exact a3 x i h1 h2 h3 h4
  · rw [c4 i (by rw [a1 24 (by omega)]; exact hi)]; exact a4 i hi
theorem PG_or (h : OR σ ω) (hb : b.1 ≤ 70000 ∧ b.2.1 ≤ 70000) (hp : PG gl pr b σ) : PG gl pr b ω := by
  obtain ⟨o1, o2, o3, o4⟩ := h
  obtain ⟨p1, ⟨q1, q2, q3, q4, q5⟩, ⟨g1, g2, g3⟩, p4⟩ := hp
  rw [q1, n_cl (p := b.1) (by omega)] at o3
  rw [q3, n_cl (p := b.2.1) (by omega)] at o4
  refine ⟨(o2 1 (by omega)).trans p1, ⟨(o1 22 (by omega)).trans q1, q2, (o1 24 (by omega)).trans q3, fun j h4 h9 i hi hi2 => ?_, fun i hi => ?_⟩, ⟨(o1 25 (by omega)).trans g1, g2, ?_⟩, ?_⟩
  · rw [o3 j i h4 h9 hi hi2]; exact q4 j h4 h9 i hi hi2
  · rw [o4 i hi]; exact q5 i hi
  · rw [o2 13 (by omega), o2 14 (by omega), o2 15 (by omega), o2 16 (by omega)]; exact g3
  · rw [o2 18 (by omega)]; exact p4
theorem VwO_or (h : OR σ ω) (hv : VwO gl pr b σ) : VwO gl pr b ω := VwO_c (h.1 73 (by omega)) (h.2.1 54 (by omega)) (h.2.1 55 (by omega)) hv
/-- rows and numbers of a run are the same -/
def SmR (σ ω : MS) : Prop := (∀ j, j = 22 ∨ j = 24 ∨ (63 ≤ j ∧ j ≤ 66) ∨ j = 68 ∨ j = 95 ∨ (102 ≤ j ∧ j ≤ 106) ∨ j = 110 ∨ j = 112 ∨ j = 30 ∨ j = 44 → ω.1 j = σ.1 j) ∧ (∀ a, a = 2 ∨ (4 ≤ a ∧ a ≤ 12) ∨ (17 ≤ a ∧ a ≤ 21) ∨ a = 28 ∨ (30 ≤ a ∧ a ≤ 33) → ω.2.2 a = σ.2.2 a) ∧ ω.2.1 = σ.2.1
theorem AE_sm (h68 : σ.1 68 = 0) (h33 : ∀ i, i < 1380 → σ.2.2 33 i = 0) (h : SmR σ ω) : AEq σ ω := by
  obtain ⟨s1, s2, s3⟩ := h
  refine ⟨fun j hj => s1 j (by omega), (s1 68 (by omega)).trans h68, fun a i h1 h2 _ => by rw [s2 a (by omega)], fun a i hi => by rw [s2 a (by omega)], s2 2 (by omega), fun a i z => ?_, fun i hi => by rw [s2 33 (by omega)]; exact h33 i hi, by rw [s3], by rw [s3]⟩
  have wa : ω.2.2 a = σ.2.2 a := by
    rcases z with z | z
    · exact s2 a (by omega)
    · exact s2 a (by omega)
  refine ⟨?_, Or.inr ⟨s2 28 (by omega), by rw [wa]⟩⟩
  unfold szV
  rw [s2 28 (by omega), wa]
theorem PSt_sm (hW : SWf T FN S) (h : SmR σ ω) (hM : ∃ (g : Nat → Prop) (l : List Nat) (B h X : Nat), MI 0 X g l B h ω) (hP : PSt T FN S C K e0 z0 x66 0 sd m σ) : PSt T FN S C K e0 z0 x66 0 sd m ω := by
  have hU := (PSt_UT hP).1
  have ae := AE_sm hP.1.2.2.2.2.2.2.2.2.1 hP.1.2.2.1 h
  obtain ⟨s1, s2, s3⟩ := h
  exact PSt_ae hW ae hM (UT_k hU (s1 63 (by omega)) (s1 64 (by omega)) (s1 65 (by omega)) (s2 28 (by omega)) (fun a h1 h2 => s2 a (by omega)) (kC_ae ae)) hP
/-- an operation on values -/
theorem AE_vo (h68 : σ.1 68 = 0) (h33 : ∀ i, i < 1380 → σ.2.2 33 i = 0) (hM : MI t X g l B h σ) (a : HG g B h σ ω g' l' u) (hF : FW t σ ω) (wl : ω.2.1 = σ.2.1) : AEq σ ω := by
  have hE := (MI_gr hM a hF).2
  obtain ⟨f1, f2, f3⟩ := hF
  refine ⟨fun j hj => f1 j (by omega), (f1 68 (by decide)).trans h68, fun x i h1 h2 _ => by rw [f2 x (by omega)], fun x i hi => by rw [f2 x (by omega)], f2 2 (by decide), fun x i z => ?_, fun i hi => by rw [f2 33 (by decide)]; exact h33 i hi, by rw [wl], by rw [wl]⟩
  have hr : RtP t σ x i := by
    rcases z with z | z
    · exact Or.inr (Or.inl z)
    · exact Or.inr (Or.inr (Or.inl z))
  obtain ⟨k, k', q1, q2, q3, q4, q5, q6, q7⟩ := hE.1 x i hr
  constructor
  · unfold szV
    rw [q1, q3, n_cl (p := k) (by omega), n_cl (p := k') (by omega)]; exact szV_ev q5
  · refine Or.inl ?_
    rw [q1, q3, n_cl (p := k) (by omega), n_cl (p := k') (by omega)]; exact q5
theorem PSt_vo (hW : SWf T FN S) (hM : MI 0 X g l B h σ) (a : HG g B h σ ω g' l' u) (hF : FW 0 σ ω) (wl : ω.2.1 = σ.2.1) (hP : PSt T FN S C K e0 z0 x66 0 sd m σ) : PSt T FN S C K e0 z0 x66 0 sd m ω ∧ MI 0 X g' l' B u ω ∧ OR σ ω := by
  have hU := (PSt_UT hP).1
  have ae := AE_vo hP.1.2.2.2.2.2.2.2.2.1 hP.1.2.2.1 hM a hF wl
  obtain ⟨m1, m2⟩ := MI_gr hM a hF
  exact ⟨PSt_ae hW ae ⟨g', l', B, u, X, m1⟩ (UT_fe (FE_eo hM.2.1 m2) hU) hP, m1, fun j hj => hF.1 j (by omega), fun a ha => hF.2.1 a (by omega), fun a i h1 h2 _ _ => by rw [hF.2.1 a (by omega)], fun i _ => by rw [hF.2.1 12 (by decide)]⟩
/-- kinds stay -/
theorem kd_gr (hS : HS g l B h σ) (a : HG g B h σ ω g' l' u) {k : Nat} (hk : k < 3 ∨ g k) : (k < 3 ∨ g' k) ∧ kdN (ω.2.2 28) k = kdN (σ.2.2 28) k := by
  have v := VC_gr hS a (x := nI k) ⟨k, rfl, hk⟩
  have kb := HS_vb hS hk
  obtain ⟨c, c', q1, q2, q3, q4, q5, q6, q7⟩ := v
  have e1 : k = c := (n_eq (by omega) (by omega)).mp q1
  have e2 : k = c' := (n_eq (by omega) (by omega)).mp q3
  subst e1
  subst e2
  exact ⟨q4, (EVb_sz q5).2.2⟩
end ORS
end JnS296
