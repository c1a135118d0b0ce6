/-! A run is begun (reference): start. -/
section STA
variable {T : Nat → Nat → Int32} {FN : Nat → Nat → Prop} {S : Nat → Nat → Nat → Nat → Prop} {σ : MS} {C K : Nat → Int32} {e0 z0 x66 x68 : Int32} {sd s : Int64}
/-- the seed of the run -/
def mSd (σ : MS) (s : Int64) : MS := (σ.1, updW σ.2.1 113 s, σ.2.2)
theorem RIc_sd (h : RIc T FN C K e0 z0 x66 x68 sd σ) : RIc T FN C K e0 z0 x66 x68 s (mSc (mSd σ s) 112 1) := by
  obtain ⟨⟨g, l, B, h', X, m1⟩, q2, q3, q4, q5, q6, q7, q8, q9, q10⟩ := h
  refine ⟨⟨g, l, B, h', X, MI_c m1 rfl rfl rfl rfl rfl⟩, q2, q3, q4, q5, q6, q7, q8, q9, ?_⟩
  show updW σ.2.1 113 s 113 = s
  unfold updW; rw [if_pos rfl]
/-- start: at the first statement, or at the end -/
theorem s_start {ns : Nat} (h21 : T 21 0 = nI ns) (hns : ns ≤ 60) (hS : e0 = -1 ∨ ∃ v n, e0 = nI n ∧ S 0 0 v n) (h111 : ¬ σ.1 111 = 0) (h : RIc T FN C K e0 z0 x66 x68 sd σ) {L : Nat → Int32} {J : Nat → Int64} (hJ : J 1 = s) : Tm (fun k => x_start k 0 L J σ) (fun r => r.1 = 0 ∧ PSt T FN S C K e0 z0 x66 x68 s 0 r.2 ∧ r.2.1 112 = 1) := by
  have hR := RIc_sd (s := s) (RIc_2 (x := 0) h)
  have P0 : Pmb T FN S (RIc T FN C K e0 z0 x66 x68 s) 0 := Pmb_0 h21 hns hS
  have p1 : (mSc (mSd (mSc σ 2 0) s) 112 1).2.2 21 0 = nI ns := (hR.2.1.2.1 21 0 (by omega) (by omega) (by omega)).trans h21
  obtain ⟨y, N1, c1, c2, c3⟩ := Cur_of P0 hR
  obtain ⟨x, N0, b0, b1⟩ := E_rs1 p1 hns (L := fun _ => 0)
  have ey : y = (0, x.2) := by
    have e : rsB 0 (N1 + N0) (mSc (mSd (mSc σ 2 0) s) 112 1) = some (0, x.2) := by
      unfold rsB
      rw [show x_reset (N1 + N0) 0 (fun _ => 0) (mSc (mSd (mSc σ 2 0) s) 112 1) = some x from b0 _ (by omega)]
      rfl
    exact Option.some.inj ((c1 (N1 + N0) (by omega)).symm.trans e)
  rw [ey] at c2 c3
  refine Tm_suc (fun k => by rw [x_start]) ?_
  refine Tm_ite (fun z => absurd z h111) (fun _ => ?_)
  refine Tm_suc (fun k => by rw [x_start]) ?_
  refine Tm_ob (s_good _ _) (fun r hr => ?_)
  rw [hr]
  refine Tm_ite (fun z => absurd (show (1 : Int32) = 0 from z) (by decide)) (fun _ => ?_)
  show Tm (fun k => x_start k 3 (upd L 100 0) J (mSc σ 2 0)) _
  refine Tm_suc (fun k => by rw [x_start]) ?_
  rw [hJ]
  show Tm (fun k => x_start k 4 (upd L 100 0) J (mSd (mSc σ 2 0) s)) _
  refine Tm_suc (fun k => by rw [x_start]) ?_
  show Tm (fun k => x_start k 5 (upd L 100 0) J (mSc (mSd (mSc σ 2 0) s) 112 1)) _
  refine Tm_suc (fun k => by rw [x_start]) ?_
  refine Tm_ob (P := fun z => z = x) ⟨x, N0, b0, rfl⟩ (fun z hz => ?_)
  rw [hz]
  refine Tm_some ⟨rfl, ⟨c3, c2, fun j hj => ?_, fun _ => rfl⟩, ?_⟩
  · have e : j = 0 := by omega
    rw [e]; exact P0
  · show x.2.1 112 = 1
    rw [b1.2.2.2.2.2.1 112 (by omega)]; rfl
end STA
