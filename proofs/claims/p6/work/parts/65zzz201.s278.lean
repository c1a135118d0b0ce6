/-! Back and step (reference): what they leave, also where they are refused. -/
section BKP
variable {T : Nat → Nat → Int32} {FN : Nat → Nat → Prop} {S : Nat → Nat → Nat → Nat → Prop} {σ : MS} {C K : Nat → Int32} {e0 z0 x66 x68 : Int32} {sd : Int64} {m q : Nat}
theorem s_backP {ns : Nat} (h21 : T 21 0 = nI ns) (hns : ns ≤ 60) (hm : m < 2147483000) (h112 : ¬ σ.1 112 = 0) (hq : q ≤ m) (h : PSt T FN S C K e0 z0 x66 x68 sd m σ) {L : Nat → Int32} (d1 : L 1 = nI q) : Tm (fun k => x_back k 0 L σ) (fun r => r.1 = nI (m - q) ∧ PSt T FN S C K e0 z0 x66 x68 sd (m - q) r.2) := by
  obtain ⟨a, b, c, d⟩ := h
  have p1 : (mSc σ 2 0).2.2 21 0 = nI ns := ((RIc_2 (x := 0) a).2.1.2.1 21 0 (by omega) (by omega) (by omega)).trans h21
  refine Tm_mono (s_back hm c (RIc_2 a) b.1 h112 hq (Tm_mono (E_rs1 p1 hns) (fun r hr => hr.2.1 103 (by omega))) d1) (fun r hr => ⟨hr.1, hr.2.2, hr.2.1, fun j hj => c j (by omega), fun z => ?_⟩)
  have := d z
  omega
/-- refused: no run, or a number out of bounds -/
theorem s_backN {L : Nat → Int32} (h : σ.1 112 = 0 ∨ L 1 < 0 ∨ ¬ L 1 ≤ σ.1 103) : Tm (fun k => x_back k 0 L σ) (fun r => r = (0, mSc σ 2 (if σ.1 112 = 0 then 1 else 2))) := by
  have fin : ∀ (N : Nat → Int32) (c : Int32), ¬ c = 0 → N 100 = c → Tm (fun k => x_back k 4 N σ) (fun r => r = (0, mSc σ 2 c)) := fun N c hc hn => by
    refine Tm_suc (fun k => by rw [x_back]) ?_
    refine Tm_ob (s_good _ _) (fun r hr => ?_)
    have e1 : (upd (fun _ => (0 : Int32)) 1 (N 100)) 1 = c := hn
    rw [e1, if_neg hc] at hr
    rw [hr]
    exact Tm_ite (fun _ => Tm_some rfl) (fun z => absurd rfl z)
  refine Tm_suc (fun k => by rw [x_back]) ?_
  refine Tm_ite (fun z => ?_) (fun z => ?_)
  · rw [if_pos z]; exact fin _ 1 (by decide) rfl
  rw [if_neg z]
  have two : ∀ N : Nat → Int32, Tm (fun k => x_back k 2 N σ) (fun r => r = (0, mSc σ 2 2)) := fun N => by
    refine Tm_suc (fun k => by rw [x_back]) ?_
    exact fin _ 2 (by decide) rfl
  refine Tm_suc (fun k => by rw [x_back]) ?_
  refine Tm_ite (fun _ => two _) (fun y => ?_)
  refine Tm_ite (fun w => ?_) (fun _ => two _)
  rcases h with h | h | h
  · exact absurd h z
  · exact absurd h y
  · exact absurd w h
theorem s_stepN {L : Nat → Int32} (h : σ.1 112 = 0 ∨ L 1 < 0 ∨ ¬ L 1 ≤ 20000) : Tm (fun k => x_step k 0 L σ) (fun r => r = (0, mSc σ 2 (if σ.1 112 = 0 then 1 else 2))) := by
  have fin : ∀ (N : Nat → Int32) (c : Int32), ¬ c = 0 → N 100 = c → Tm (fun k => x_step k 4 N σ) (fun r => r = (0, mSc σ 2 c)) := fun N c hc hn => by
    refine Tm_suc (fun k => by rw [x_step]) ?_
    refine Tm_ob (s_good _ _) (fun r hr => ?_)
    have e1 : (upd (fun _ => (0 : Int32)) 1 (N 100)) 1 = c := hn
    rw [e1, if_neg hc] at hr
    rw [hr]
    exact Tm_ite (fun _ => Tm_some rfl) (fun z => absurd rfl z)
  refine Tm_suc (fun k => by rw [x_step]) ?_
  refine Tm_ite (fun z => ?_) (fun z => ?_)
  · rw [if_pos z]; exact fin _ 1 (by decide) rfl
  rw [if_neg z]
  have two : ∀ N : Nat → Int32, Tm (fun k => x_step k 2 N σ) (fun r => r = (0, mSc σ 2 2)) := fun N => by
    refine Tm_suc (fun k => by rw [x_step]) ?_
    exact fin _ 2 (by decide) rfl
  refine Tm_suc (fun k => by rw [x_step]) ?_
  refine Tm_ite (fun _ => two _) (fun y => ?_)
  refine Tm_ite (fun w => ?_) (fun _ => two _)
  rcases h with h | h | h
  · exact absurd h z
  · exact absurd h y
  · exact absurd w h
end BKP
