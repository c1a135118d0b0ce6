/-! Reductions from their start; single operations (reference). -/
section SNG
variable {g : Nat → Prop} {l : List Nat} {B h t w X XB v : Nat} {σ : MS}
theorem s_reduce (hM : MI (t + 1) X g l B h σ) (h29 : σ.2.2 29 t = nI v) (hv : v < 3 ∨ g v) (h59 : σ.1 59 = nI t) (ht : t ≤ 176000) (h56 : σ.1 56 = 0) (h57 : σ.1 57 = nI w) (hw : w ≤ 60000) (hX : X ≤ XB + 6 * w) {L : Nat → Int32} (hL : L 2 = nI v) : Tm (fun k => x_reduce k 0 L σ) (SO t w XB g σ) := by
  have hS := hM.1
  have hM0 : MI t X g l B h σ := MI_mo hM (by omega)
  have hE : ErB σ := ⟨0, h56, by decide⟩
  have hP : VP g l B h t σ := ⟨hS, h59, by omega, hE⟩
  have kv := kdN_6 hS hv
  have b1 : 5 ≤ kdN (σ.2.2 28) v → ∀ N : Nat → Int32, N 2 = nI v → Tm (fun k => x_reduce k 1 N σ) (SO t w XB g σ) := by
    intro k5 N n2
    have gv := kdN_ge hS hv (by omega)
    obtain ⟨n, o1, o2, o3, o4, o5, o6, o7⟩ := ob_at hS gv
    have hb := HS_b hS
    refine Tm_suc (fun k => by rw [x_reduce]) ?_
    rw [n2, n_add1]
    refine Tm_chk (n_in (by omega) (by omega)) ?_
    rw [n_cl (p := v + 1) (by omega), o1]
    refine Tm_ite (fun _ => Tm_some (SO_of (W := 0) (by omega) hM0 h57 hw hX (VQ_of (VO_id hP Vd_0)))) (fun z => ?_)
    have hn1 : 1 ≤ n := by
      by_cases e : n = 0
      · exact absurd (by rw [e]; rfl) z
      · omega
    obtain ⟨m, m1, m2⟩ := o7 k5 0 (by omega)
    refine Tm_suc (fun k => by rw [x_reduce]) ?_
    refine Tm_ob (s_push h59 (by omega) _) (fun r hr => ?_)
    rw [hr]
    show Tm (fun k => if ¬ (N 2 + 4 < 0 ∨ 1740000 ≤ (N 2 + 4).toNatClampNeg) then ob (x_push k 0 (upd (fun _ => 0) 1 ((mPu σ t (N 2)).2.2 28 (N 2 + 4).toNatClampNeg)) (mPu σ t (N 2))) (fun r3 => x_reduce k 3 (upd (upd (upd N 4 (nI n)) 5 (σ.1 59)) 6 1) r3.2) else none) _
    rw [n2, show nI v + 4 = nI (v + 4) from n_add (q := 4) (by omega)]
    refine Tm_chk (n_in (by omega) (by omega)) ?_
    rw [n_cl (p := v + 4) (by omega), show (mPu σ t (nI v)).2.2 28 (v + 4) = nI m from (congrFun (mPu_o (by decide)) _).trans m1, h59]
    -- v lies upon the pile again
    have e1 : (mPu σ t (nI v)).2.2 = σ.2.2 := mAr_same h29
    have hM1 : MI (t + 1) X g l B h (mPu σ t (nI v)) := MI_c hM rfl rfl rfl rfl e1
    refine Tm_ob (s_push (σ := mPu σ t (nI v)) (t := t + 1) rfl (by omega) _) (fun r hr => ?_)
    rw [hr]
    show Tm (fun k => x_reduce k 3 _ (mPu (mPu σ t (nI v)) (t + 1) (nI m))) _
    have hRS : RoS (t + 1) (mPu σ t (nI v)) v := ⟨by omega, by omega, 29, t, Or.inl ⟨rfl, by omega⟩, by rw [e1]; exact h29⟩
    have e28 : (mPu σ t (nI v)).2.2 28 = σ.2.2 28 := congrFun e1 28
    have hM2 : MI (t + 2) X g l B h (mPu (mPu σ t (nI v)) (t + 1) (nI m)) := MI_pur hM1 (Rch_mem hM1.1 (Rch_b hRS) (by rw [e28]; exact k5) gv (by rw [e28]; exact o1) o2 (i := 0) (by omega) (by rw [e28]; exact m1) m2)
    have f28 : (mPu (mPu σ t (nI v)) (t + 1) (nI m)).2.2 28 = σ.2.2 28 := (mPu_o (by decide)).trans e28
    refine s_red3 hM.2.1 ht o2 (n - 1) 1 _ _ g l B h X w (by omega) rfl rfl rfl ⟨hM2, ?_, ⟨v, ?_, gv, by rw [f28]; exact k5, by rw [f28]; exact o1⟩, rfl, ⟨0, h56, by decide⟩, h57, Nat.le_refl _, by omega, fun _ => ⟨hX, hw⟩⟩
    · exact EO_tr hM.2.1 (EO_pu (Nat.le_refl _) hM0) (EO_pu (by omega) (MI_mo hM1 (by omega)))
    · rw [mPu_29, upd_other (by omega), e1]; exact h29
  refine Tm_suc (fun k => by rw [x_reduce]) ?_
  refine Tm_ob (s_kind hS hv (by exact hL)) (fun r hr => ?_)
  rw [hr]
  refine Tm_ite (fun z => b1 ?_ _ hL) (fun _ => ?_)
  · have := (n_eq (q := 6) (by omega) (by decide)).mp z
    omega
  refine Tm_ite (fun z => b1 ?_ _ hL) (fun _ => ?_)
  · have := (n_eq (q := 5) (by omega) (by decide)).mp z
    omega
  exact Tm_ob (s_wrongKind _) (fun r hr => Tm_some (SO_of (W := 0) (by omega) hM0 h57 hw hX (VQ_of (VO_wk hP hr))))
theorem s_single (hM : MI (t + 1) X g l B h σ) (hT : TyT (σ.2.2 2)) (h29 : σ.2.2 29 t = nI v) (hv : v < 3 ∨ g v) (h59 : σ.1 59 = nI t) (ht : t ≤ 176000) (h56 : σ.1 56 = 0) (h57 : σ.1 57 = nI w) (hw : w ≤ 60000) (hX : X ≤ XB + 6 * w) {L : Nat → Int32} {n : Nat} (h1 : L 1 = nI n) (hn : n < 70000) (h2 : L 2 = nI v) : Tm (fun k => x_single k 0 L σ) (SO t w XB g σ) := by
  have hS := hM.1
  have hM0 : MI t X g l B h σ := MI_mo hM (by omega)
  have hE : ErB σ := ⟨0, h56, by decide⟩
  have hP : VP g l B h t σ := ⟨hS, h59, by omega, hE⟩
  have o1 : ∀ (W : Nat) (r : Int32 × MS), W ≤ 2000 → VQ g B h t W σ r → SO t w XB g σ r := fun W r hW hr => SO_of hW hM0 h57 hw hX hr
  refine Tm_suc (fun k => by rw [x_single]) ?_
  rw [h1]
  refine Tm_chk (n_in (by omega) (by omega)) ?_
  refine Tm_ite (fun _ => ?_) (fun _ => ?_)
  · refine Tm_suc (fun k => by rw [x_single]) ?_
    rw [h1]
    refine Tm_chk (n_in (by omega) (by omega)) ?_
    exact Tm_ob (s_function hP hT hv (by exact h2)) (fun r hr => Tm_some (o1 256 r (by omega) hr))
  refine Tm_ite (fun _ => ?_) (fun _ => ?_)
  · refine Tm_suc (fun k => by rw [x_single]) ?_
    exact Tm_ob (s_negative hP hv (by exact h2)) (fun r hr => Tm_some (o1 0 r (by omega) (VQ_of hr)))
  refine Tm_ite (fun _ => ?_) (fun _ => ?_)
  · refine Tm_suc (fun k => by rw [x_single]) ?_
    exact Tm_ob (s_many hP hv (by exact h2)) (fun r hr => Tm_some (o1 0 r (by omega) (VQ_of hr)))
  refine Tm_ite (fun _ => ?_) (fun _ => ?_)
  · refine Tm_suc (fun k => by rw [x_single]) ?_
    exact Tm_ob (s_turned hP _) (fun r hr => Tm_some (o1 0 r (by omega) (VQ_of hr)))
  · refine Tm_suc (fun k => by rw [x_single]) ?_
    rw [h1]
    refine Tm_chk (n_in (by omega) (by omega)) ?_
    exact Tm_ob (s_reduce hM h29 hv h59 ht h56 h57 hw hX (by exact h2)) (fun r hr => Tm_some hr)
end SNG
