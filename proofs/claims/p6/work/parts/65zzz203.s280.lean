/-! Asked for numbers of a run, and for what it printed (reference): state, out, exactly. -/
section STO
variable {σ : MS} {L : Nat → Int32}
/-- how a run stands -/
def stE (σ : MS) : Int32 := if σ.1 105 ≤ 0 then (if σ.1 102 = 0 then 0 else 1) else 2
/-- a number of a run -/
def stN (σ : MS) (q : Int32) : Int32 := if q = 0 then σ.1 103 else if q = 1 then σ.1 106 else if q = 2 then σ.1 105 else if q = 3 then σ.1 104 else if q = 4 then σ.2.2 30 1 else if q = 5 then σ.1 63 else if q = 6 then σ.1 64 + σ.1 65 else if q = 7 then σ.1 95 else if q = 8 then stE σ else σ.1 108
/-- the code of state -/
def stC (σ : MS) (q : Int32) : Int32 := if q < 0 ∨ ¬ q ≤ 9 then 1 else if σ.1 112 = 0 then 2 else 0
theorem s_state : Tm (fun k => x_state k 0 L σ) (fun r => r = ((if stC σ (L 1) = 0 then stN σ (L 1) else 0), mSc σ 2 (stC σ (L 1)))) := by
  have fin : ∀ (N : Nat → Int32) (c : Int32), ¬ c = 0 → N 100 = c → Tm (fun k => x_state k 4 N σ) (fun r => r = (0, mSc σ 2 c)) := fun N c hc hn => by
    refine Tm_suc (fun k => by rw [x_state]) ?_
    refine Tm_ob (s_good _ _) (fun r hr => ?_)
    have e1 : (upd (fun _ => (0 : Int32)) 1 (N 100)) 1 = c := hn
    rw [e1, if_neg hc] at hr
    rw [hr]
    exact Tm_ite (fun _ => Tm_some rfl) (fun z => absurd rfl z)
  have one : ∀ N : Nat → Int32, Tm (fun k => x_state k 1 N σ) (fun r => r = (0, mSc σ 2 1)) := fun N => by
    refine Tm_suc (fun k => by rw [x_state]) ?_
    exact fin _ 1 (by decide) rfl
  refine Tm_suc (fun k => by rw [x_state]) ?_
  refine Tm_ite (fun z => ?_) (fun z => ?_)
  · have e : stC σ (L 1) = 1 := by unfold stC; rw [if_pos (Or.inl z)]
    rw [e, if_neg (by decide)]; exact one L
  refine Tm_ite (fun y => ?_) (fun y => ?_)
  case refine_2.refine_2 =>
    have e : stC σ (L 1) = 1 := by unfold stC; rw [if_pos (Or.inr y)]
    rw [e, if_neg (by decide)]; exact one L
  refine Tm_suc (fun k => by rw [x_state]) ?_
  have nb : ¬ (L 1 < 0 ∨ ¬ L 1 ≤ 9) := fun w => w.elim z (fun v => v y)
  refine Tm_ite (fun w => ?_) (fun w => ?_)
  · have e : stC σ (L 1) = 2 := by unfold stC; rw [if_neg nb, if_pos w]
    rw [e, if_neg (by decide)]; exact fin _ 2 (by decide) rfl
  have e : stC σ (L 1) = 0 := by unfold stC; rw [if_neg nb, if_neg w]
  rw [e, if_pos rfl]
  refine Tm_suc (fun k => by rw [x_state]) ?_
  refine Tm_suc (fun k => by rw [x_state]) ?_
  refine Tm_ob (s_good _ _) (fun r hr => ?_)
  rw [hr]
  refine Tm_ite (fun v => absurd (show (1 : Int32) = 0 from v) (by decide)) (fun _ => ?_)
  show Tm (fun k => x_state k 5 (upd L 100 0) (mSc σ 2 0)) _
  have l1 : (upd L 100 0) 1 = L 1 := rfl
  refine Tm_suc (fun k => by rw [x_state]) ?_
  rw [l1]
  unfold stN
  by_cases c0 : L 1 = 0
  · refine Tm_ite (fun _ => ?_) (fun v => absurd c0 v)
    refine Tm_suc (fun k => by rw [x_state]) ?_
    exact Tm_some (by rw [if_pos c0]; rfl)
  refine Tm_ite (fun v => absurd v c0) (fun _ => ?_)
  rw [if_neg c0]
  by_cases c1 : L 1 = 1
  · refine Tm_ite (fun _ => ?_) (fun v => absurd c1 v)
    refine Tm_suc (fun k => by rw [x_state]) ?_
    exact Tm_some (by rw [if_pos c1]; rfl)
  refine Tm_ite (fun v => absurd v c1) (fun _ => ?_)
  rw [if_neg c1]
  by_cases c2 : L 1 = 2
  · refine Tm_ite (fun _ => ?_) (fun v => absurd c2 v)
    refine Tm_suc (fun k => by rw [x_state]) ?_
    exact Tm_some (by rw [if_pos c2]; rfl)
  refine Tm_ite (fun v => absurd v c2) (fun _ => ?_)
  rw [if_neg c2]
  by_cases c3 : L 1 = 3
  · refine Tm_ite (fun _ => ?_) (fun v => absurd c3 v)
    refine Tm_suc (fun k => by rw [x_state]) ?_
    exact Tm_some (by rw [if_pos c3]; rfl)
  refine Tm_ite (fun v => absurd v c3) (fun _ => ?_)
  rw [if_neg c3]
  by_cases c4 : L 1 = 4
  · refine Tm_ite (fun _ => ?_) (fun v => absurd c4 v)
    refine Tm_suc (fun k => by rw [x_state]) ?_
    refine Tm_chk (by decide) ?_
    exact Tm_some (by rw [if_pos c4]; rfl)
  refine Tm_ite (fun v => absurd v c4) (fun _ => ?_)
  rw [if_neg c4]
  by_cases c5 : L 1 = 5
  · refine Tm_ite (fun _ => ?_) (fun v => absurd c5 v)
    refine Tm_suc (fun k => by rw [x_state]) ?_
    exact Tm_some (by rw [if_pos c5]; rfl)
  refine Tm_ite (fun v => absurd v c5) (fun _ => ?_)
  rw [if_neg c5]
  by_cases c6 : L 1 = 6
  · refine Tm_ite (fun _ => ?_) (fun v => absurd c6 v)
    refine Tm_suc (fun k => by rw [x_state]) ?_
    exact Tm_some (by rw [if_pos c6]; rfl)
  refine Tm_ite (fun v => absurd v c6) (fun _ => ?_)
  rw [if_neg c6]
  by_cases c7 : L 1 = 7
  · refine Tm_ite (fun _ => ?_) (fun v => absurd c7 v)
    refine Tm_suc (fun k => by rw [x_state]) ?_
    exact Tm_some (by rw [if_pos c7]; rfl)
  refine Tm_ite (fun v => absurd v c7) (fun _ => ?_)
  rw [if_neg c7]
  by_cases c8 : L 1 = 8
  · refine Tm_ite (fun _ => ?_) (fun v => absurd c8 v)
    rw [if_pos c8]
    unfold stE
    refine Tm_suc (fun k => by rw [x_state]) ?_
    refine Tm_ite (fun a => ?_) (fun a => ?_)
    · rw [if_pos (show σ.1 105 ≤ 0 from a)]
      refine Tm_suc (fun k => by rw [x_state]) ?_
      refine Tm_ite (fun b => ?_) (fun b => ?_)
      · rw [if_pos (show σ.1 102 = 0 from b)]
        refine Tm_suc (fun k => by rw [x_state]) ?_
        refine Tm_suc (fun k => by rw [x_state]) ?_
        exact Tm_some rfl
      · rw [if_neg (show ¬ σ.1 102 = 0 from b)]
        refine Tm_suc (fun k => by rw [x_state]) ?_
        exact Tm_some rfl
    · rw [if_neg (show ¬ σ.1 105 ≤ 0 from a)]
      refine Tm_suc (fun k => by rw [x_state]) ?_
      exact Tm_some rfl
  refine Tm_ite (fun v => absurd v c8) (fun _ => ?_)
  rw [if_neg c8]
  refine Tm_suc (fun k => by rw [x_state]) ?_
  exact Tm_some rfl
/-- whether out is refused -/
def ouR (σ : MS) (q : Int32) : Prop := σ.1 112 = 0 ∨ q < 0 ∨ σ.1 106 ≤ q ∨ ¬ q < 60000
theorem s_outN (h : ouR σ (L 1)) : Tm (fun k => x_out k 0 L σ) (fun r => r = (0, mSc σ 2 1)) := by
  have fin : ∀ N : Nat → Int32, Tm (fun k => x_out k 1 N σ) (fun r => r = (0, mSc σ 2 1)) := fun N => by
    refine Tm_suc (fun k => by rw [x_out]) ?_
    refine Tm_suc (fun k => by rw [x_out]) ?_
    refine Tm_ob (s_good _ _) (fun r hr => ?_)
    rw [hr]
    refine Tm_ite (fun _ => ?_) (fun v => absurd rfl v)
    refine Tm_suc (fun k => by rw [x_out]) ?_
    refine Tm_suc (fun k => by rw [x_out]) ?_
    exact Tm_some rfl
  refine Tm_suc (fun k => by rw [x_out]) ?_
  refine Tm_ite (fun _ => fin L) (fun a => ?_)
  refine Tm_ite (fun _ => fin L) (fun b => ?_)
  refine Tm_ite (fun _ => fin L) (fun c => ?_)
  refine Tm_ite (fun d => ?_) (fun _ => fin L)
  rcases h with h | h | h | h
  · exact absurd h a
  · exact absurd h b
  · exact absurd h c
  · exact absurd d h
theorem s_outY {q : Nat} (d1 : L 1 = nI q) (h : ¬ ouR σ (L 1)) (hq : q < 60000) : Tm (fun k => x_out k 0 L σ) (fun r => r = (σ.2.2 52 q, mSc σ 2 0)) := by
  refine Tm_suc (fun k => by rw [x_out]) ?_
  refine Tm_ite (fun a => absurd (Or.inl a) h) (fun _ => ?_)
  refine Tm_ite (fun a => absurd (Or.inr (Or.inl a)) h) (fun _ => ?_)
  refine Tm_ite (fun a => absurd (Or.inr (Or.inr (Or.inl a))) h) (fun _ => ?_)
  refine Tm_ite (fun _ => ?_) (fun a => absurd (Or.inr (Or.inr (Or.inr a))) h)
  refine Tm_suc (fun k => by rw [x_out]) ?_
  refine Tm_suc (fun k => by rw [x_out]) ?_
  refine Tm_ob (s_good _ _) (fun r hr => ?_)
  rw [hr]
  refine Tm_ite (fun v => absurd (show (1 : Int32) = 0 from v) (by decide)) (fun _ => ?_)
  have l1 : (upd L 100 0) 1 = nI q := d1
  rw [l1]
  refine Tm_chk (n_in (by omega) (by omega)) ?_
  rw [n_cl (p := q) (by omega)]
  refine Tm_suc (fun k => by rw [x_out]) ?_
  exact Tm_some rfl
end STO
