/-! An exp is worked alone (reference): one state, twice. -/
section WKA
variable {T : Nat → Nat → Int32} {FN : Nat → Nat → Prop} {lc : Nat → Prop} {σ τ ρ : MS} {t X B h : Nat} {g : Nat → Prop} {l : List Nat} {x : Int32} {dr : Bool}
theorem T2_dg {f : Nat → Option (Int32 × MS)} {Q : Int32 × MS → Int32 × MS → Prop} (h : T2 f f Q) : Tm f (fun r => Q r r) := by
  obtain ⟨r1, r2, N, a, b, q⟩ := h
  have e : r1 = r2 := Option.some.inj ((a N (Nat.le_refl _)).symm.trans (b N (Nat.le_refl _)))
  subst e
  exact ⟨r1, N, a, q⟩
theorem Tm_pq {f : Nat → Option (Int32 × MS)} {P Q : Int32 × MS → Prop} (h : Tm f P) (q : ∀ k r, f k = some r → Q r) : Tm f (fun r => P r ∧ Q r) := by
  obtain ⟨r, N, a, b⟩ := h
  exact ⟨r, N, a, b, q N r (a N (Nat.le_refl _))⟩
theorem VC_rf (hS : HS g l B h σ) {y : Int32} (hx : Vd g y) : VC g g (σ.2.2 28) (σ.2.2 28) y y := by
  obtain ⟨m, e, hm⟩ := hx
  have b1 := hS.2.1
  have b2 := hS.2.2.2.1
  rw [e]
  exact VC_ev hS hS hm hm (EVb_gr hS.2.2.2.2 (by omega) (fun _ _ _ => rfl) hm)
theorem RA_rf (hM : MI t X g l B h σ) : RA t g g σ σ := ⟨fun a i z _ => VC_rf hM.1 (hM.2.2.1 a i z), fun _ _ _ _ _ => rfl, fun _ _ => rfl, rfl⟩
/-- as an exp is worked alone -/
def zA (σ : MS) : MS := mSc (mSc (mSc (mSc (mSc (mSc (mSc (mSc σ 59 0) 72 0) 57 0) 56 0) 67 0) 97 0) 68 0) 69 1
theorem zA_s {j : Nat} (h : ¬ (j = 59 ∨ j = 72 ∨ j = 57 ∨ j = 56 ∨ j = 67 ∨ j = 97 ∨ j = 68 ∨ j = 69)) : (zA σ).1 j = σ.1 j := by
  show upd (upd (upd (upd (upd (upd (upd (upd σ.1 59 0) 72 0) 57 0) 56 0) 67 0) 97 0) 68 0) 69 1 j = σ.1 j
  rw [upd_other (by omega), upd_other (by omega), upd_other (by omega), upd_other (by omega), upd_other (by omega), upd_other (by omega), upd_other (by omega), upd_other (by omega)]
theorem RtP_zA {a i : Nat} (h : RtP 0 (zA σ) a i) : RtP 0 σ a i := by
  unfold RtP at h ⊢
  rw [show (zA σ).2.2 = σ.2.2 from rfl, zA_s (j := 63) (by omega), show (zA σ).1 72 = 0 from rfl, show (0 : Int32).toNatClampNeg = 0 from by decide] at h
  rcases h with z | z | z | z | z | z
  · omega
  · exact Or.inr (Or.inl z)
  · exact Or.inr (Or.inr (Or.inl z))
  · exact Or.inr (Or.inr (Or.inr (Or.inl z)))
  · omega
  · exact Or.inr (Or.inr (Or.inr (Or.inr (Or.inr z))))
theorem UT_zA (hU : UT σ) : UT (zA σ) := UT_c hU rfl (zA_s (by omega)) (zA_s (by omega)) (zA_s (by omega))
theorem MI_zA (hM : MI 0 X g l B h σ) (hU : UT σ) : MI 0 400000 g l B h (zA σ) := by
  obtain ⟨m1, ⟨P, e, q1, q2, q3, q4, q5, q6⟩, m3, m4⟩ := hM
  have h1 : HS g l B h (zA σ) := HS_c m1 (zA_s (by omega)) (zA_s (by omega)) rfl
  have h2 : RtQ (zA σ) := ⟨P, 0, (zA_s (by omega)).trans q1, q2, rfl, by omega, q5, q6⟩
  have h3 : ∀ a i, RtP 0 (zA σ) a i → Vd g ((zA σ).2.2 a i) := fun a i z => m3 a i (RtP_zA z)
  exact ⟨h1, h2, h3, lv_all h1 h2 h3 (UT_zA hU) rfl⟩
theorem STb_zA (hS : STb T FN σ) : STb T FN (zA σ) := STb_b hS (fun j hj => zA_s (by omega)) (fun _ _ _ => rfl)
theorem Qt_F : Qt dr lcF := ⟨by unfold lcF; omega, fun z => absurd z (by unfold lcF; omega)⟩
/-- a quiet tree may be evaluated: nothing is open -/
theorem Qd_0 (hS : STb T FN σ) (h72 : σ.1 72 = 0) : Qd T FN dr 0 σ := by
  refine ⟨fun a i a4 a9 hi => hS.1 a i a4 (by omega) ⟨fun _ => hi, fun z => by omega⟩, fun fn m z => ?_, by rw [h72]; decide, fun i hi => absurd hi (Nat.not_lt_zero i)⟩
  obtain ⟨z1, _, _, F, b, z3, _, z5⟩ := hS.2.1 fn m z
  exact ⟨by omega, by rw [z3]; exact ⟨_, _, _, _, lcF, Qt_F, z5⟩⟩
theorem s_workAlone (hM : MI 0 X g l B h σ) (hU : UT σ) (hS : STb T FN σ) (ty : TyT (σ.2.2 2)) (h95 : ∃ a, σ.1 95 = nI a ∧ a ≤ 1000000) (hlc : ∀ s, s < 60 → ¬ lc (1 + s)) (hW : Wx0 T FN lc x) (hq : ∃ F O r K, WN T FN F 0 O r K lc x ∧ Qt dr lc) {L : Nat → Int32} (d1 : L 1 = x) : Tm (fun k => x_workAlone k 0 L σ) (fun r => ∃ ρ, r = (0, mSc ρ 69 0) ∧ FE (zA σ) ρ ∧ UT ρ ∧ ((∃ w', EI 1 w' 400000 ρ ρ) ∨ EZ 0 179300 ρ) ∧ K0 dr σ ρ ∧ kv ρ = kv σ) := by
  have m0 := MI_zA hM hU
  have u0 := UT_zA hU
  obtain ⟨_, _, _, _, _, _, _, _, _, _, ⟨c, c1, c2, _⟩, _⟩ := id u0
  have c1 : (zA σ).2.2 30 1 = nI c := c1
  have sc0 : Sc0 T FN lc (zA σ) := ⟨STb_zA hS, rfl, by omega, rfl, by omega, rfl, ⟨c, c1, c2, fun _ => Or.inl rfl, fun s hs z => absurd z (hlc s hs), fun s hs z z69 => absurd (show (1 : Int32) = 0 from z69) (by decide)⟩, Or.inr ⟨rfl, rfl⟩⟩
  refine Tm_suc (fun k => by rw [x_workAlone]) ?_
  refine Tm_suc (fun k => by rw [x_workAlone]) ?_
  refine Tm_suc (fun k => by rw [x_workAlone]) ?_
  refine Tm_suc (fun k => by rw [x_workAlone]) ?_
  refine Tm_suc (fun k => by rw [x_workAlone]) ?_
  refine Tm_suc (fun k => by rw [x_workAlone]) ?_
  refine Tm_suc (fun k => by rw [x_workAlone]) ?_
  refine Tm_suc (fun k => by rw [x_workAlone]) ?_
  show Tm (fun k => x_workAlone k 8 L (zA σ)) _
  refine Tm_suc (fun k => by rw [x_workAlone]) ?_
  refine Tm_ob (Tm_pq (Tm_pq (T2_dg (E_sw4 m0 m0 (RA_rf m0) rfl rfl rfl rfl rfl rfl ⟨ty, rfl⟩ (by obtain ⟨a, a1, a2⟩ := h95; exact ⟨a, (zA_s (by omega)).trans a1, a2⟩))) (fun k r e => kr_sweep (dr := dr) k _ _ _ r e)) (fun k r e => kv_sweep k _ _ _ r e)) (fun r1 hr1 => ?_)
  obtain ⟨⟨⟨f1, _, e1⟩, k1⟩, v1⟩ := hr1
  rw [d1]
  obtain ⟨F, O, r, K, hWq, hQt⟩ := hq
  have h72 : r1.2.1 72 = 0 := f1.1 72 (by unfold AlS; omega) (by decide) (by decide) (by decide)
  refine Tm_ob (Tm_pq (Tm_pq (T2_dg (E_eval (x := x) (L1 := upd (fun _ => 0) 1 x) (L2 := upd (fun _ => 0) 1 x) (by omega) (by omega) (Sc0_fe sc0 f1) hW e1 rfl rfl)) (fun k r e => ((qv_all k).1 1300 4 0 _ _ 0 (by decide) ⟨Qd_0 (dr := dr) (STb_fe (STb_zA hS) f1) h72, (show qN T FN dr 0 x from ⟨_, _, _, _, lc, hQt, hWq⟩)⟩) r e)) (fun k r e => kv_eval k _ _ _ r e)) (fun r2 hr2 => ?_)
  obtain ⟨⟨⟨f2, _, e2⟩, ⟨M', _, k2, _⟩⟩, v2⟩ := hr2
  have fe := FE_tr f1 f2
  have u2 := UT_fe fe u0
  have u3 : UT (mSc r2.2 69 0) := UT_c u2 rfl rfl rfl rfl
  have fin : ∃ ρ, ((0 : Int32), mSc r2.2 69 0) = (0, mSc ρ 69 0) ∧ FE (zA σ) ρ ∧ UT ρ ∧ ((∃ w', EI 1 w' 400000 ρ ρ) ∨ EZ 0 179300 ρ) ∧ K0 dr σ ρ ∧ kv ρ = kv σ := by
    refine ⟨r2.2, rfl, fe, u2, ?_, K0_tr (K0_tr (show K0 dr σ (zA σ) from ⟨fun _ => rfl, zA_s (by omega)⟩) (K0_k k1)) k2, ?_⟩
    · rcases e2 with ⟨w', _, z⟩ | z
      · exact Or.inl ⟨w', z⟩
      · exact Or.inr z.1
    · rw [v2, v1]; rfl
  have ten : ∀ N : Nat → Int32, Tm (fun k => x_workAlone k 10 N (mSc r2.2 69 0)) (fun r => ∃ ρ, r = (0, mSc ρ 69 0) ∧ FE (zA σ) ρ ∧ UT ρ ∧ ((∃ w', EI 1 w' 400000 ρ ρ) ∨ EZ 0 179300 ρ) ∧ K0 dr σ ρ ∧ kv ρ = kv σ) := fun N => Tm_suc (fun k => by rw [x_workAlone]) (Tm_some fin)
  show Tm (fun k => x_workAlone k 9 L (mSc r2.2 69 0)) _
  refine Tm_suc (fun k => by rw [x_workAlone]) ?_
  refine Tm_ite (fun _ => ten L) (fun _ => ?_)
  refine Tm_ob (s_forget u3 _) (fun r3 hr3 => ?_)
  rw [hr3]
  exact ten L
end WKA
