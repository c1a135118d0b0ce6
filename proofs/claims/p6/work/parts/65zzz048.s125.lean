/-! Values upon the pile while the heap grows; power sets (reference). -/
section POW
variable {g : Nat → Prop} {l : List Nat} {B h t : Nat} {σ : MS}
/-- behind it: a value; or an error, and then up to w things may have stayed upon the pile -/
def VQ (g : Nat → Prop) (B h t w : Nat) (σ : MS) (r : Int32 × MS) : Prop := ∃ g' l' h', HG g B h σ r.2 g' l' h' ∧ FW t σ r.2 ∧ (∃ t', r.2.1 59 = nI t' ∧ t ≤ t' ∧ t' ≤ t + w ∧ (t' = t ∨ ¬ r.2.1 56 = 0) ∧ PLv g' (r.2.2.2 29) t (t' - t)) ∧ ErB r.2 ∧ (¬ σ.1 56 = 0 → ¬ r.2.1 56 = 0) ∧ Vd g' r.1
theorem VQ_of {w : Nat} {r : Int32 × MS} (a : VO g B h t σ r) : VQ g B h t w σ r := by
  obtain ⟨g', l', h', a1, a2, a3, a4, a5, a6⟩ := a
  exact ⟨g', l', h', a1, a2, ⟨t, a3, Nat.le_refl _, by omega, Or.inl rfl, fun i hi => by omega⟩, a4, a5, a6⟩
/-- n values upon the pile above t; the heap may have grown -/
def PuH (g : Nat → Prop) (B h t n : Nat) (σ τ : MS) (g' : Nat → Prop) (l' : List Nat) (h' : Nat) : Prop := HG g B h σ τ g' l' h' ∧ FW t σ τ ∧ τ.1 59 = nI (t + n) ∧ PLv g' (τ.2.2 29) t n ∧ ErB τ ∧ (¬ σ.1 56 = 0 → ¬ τ.1 56 = 0)
theorem PuH_0 (hS : HS g l B h σ) (h59 : σ.1 59 = nI t) (hE : ErB σ) : PuH g B h t 0 σ σ g l h := ⟨HG_rf hS, FW_rf, h59, fun i hi => absurd hi (Nat.not_lt_zero i), hE, fun z => z⟩
theorem PuH_VO {n : Nat} {τ : MS} {r : Int32 × MS} {g' : Nat → Prop} {l' : List Nat} {h' : Nat} (hU : PuH g B h t n σ τ g' l' h') (b : VO g' B h' (t + n) τ r) : ∃ g2 l2 h2, PuH g B h t (n + 1) σ (mPu r.2 (t + n) r.1) g2 l2 h2 ∧ ∀ v, g' v → g2 v := by
  obtain ⟨a1, a2, a3, a4, a5, a6⟩ := hU
  obtain ⟨g2, l2, h2, b1, b2, b3, b4, b5, b6⟩ := b
  have hg := HG_tr a1 b1
  refine ⟨g2, l2, h2, ⟨⟨HS_pu hg.1, hg.2.1, hg.2.2.1, fun i h1 h2 => ?_⟩, FW_tr (FW_tr a2 (FW_mo b2 (by omega))) (FW_pu (by omega)), mPu_59, fun i hi => ?_, ErB_c (mPu_s (by decide)) b4, fun z => ?_⟩, b1.2.1⟩
  · rw [mPu_o (by decide)]; exact hg.2.2.2 i h1 h2
  · rw [mPu_29]
    by_cases e : i = n
    · rw [e, upd_same]; exact b6
    · rw [upd_other (by omega), b2.2.2 (t + i) (by omega)]
      obtain ⟨m, m1, m2⟩ := a4 i (by omega)
      exact ⟨m, m1, m2.imp id (b1.2.1 m)⟩
  · rw [mPu_s (by decide)]; exact b5 (a6 z)
theorem PuH_er {n w : Nat} {τ : MS} {g' : Nat → Prop} {l' : List Nat} {h' : Nat} (hU : PuH g B h t n σ τ g' l' h') (hn : n ≤ w) (he : ¬ τ.1 56 = 0) : VQ g B h t w σ (0, τ) := by
  obtain ⟨a1, a2, a3, a4, a5, a6⟩ := hU
  exact ⟨g', l', h', a1, a2, ⟨t + n, a3, by omega, by omega, Or.inr he, fun i hi => a4 i (by omega)⟩, a5, a6, Vd_0⟩
theorem PuH_set {n : Nat} {τ : MS} {g' : Nat → Prop} {l' : List Nat} {h' : Nat} (hU : PuH g B h t n σ τ g' l' h') (htn : t + n ≤ 185000) (hn : n ≤ 60100) {L : Nat → Int32} (hL : L 1 = nI t) : Tm (fun k => x_setOf k 0 L τ) (VO g B h t σ) := by
  obtain ⟨a1, a2, a3, a4, a5, a6⟩ := hU
  exact Tm_mono (s_setOf a1.1 a5 a3 htn hn a4 hL) (fun r hr => VO_tr a1 a2 a6 hr)
theorem n_pow8 {n : Nat} (hn : n ≤ 8) : (1 : Int32) <<< (nI n &&& 31) = nI (2 ^ n) ∧ 1 ≤ 2 ^ n ∧ 2 ^ n ≤ 256 := by
  have : n = 0 ∨ n = 1 ∨ n = 2 ∨ n = 3 ∨ n = 4 ∨ n = 5 ∨ n = 6 ∨ n = 7 ∨ n = 8 := by omega
  rcases this with rfl | rfl | rfl | rfl | rfl | rfl | rfl | rfl | rfl <;> decide
theorem s_powerSet (hP : VP g l B h t σ) {v : Nat} (hv : v < 3 ∨ g v) {L : Nat → Int32} (h1 : L 1 = nI v) : Tm (fun k => x_powerSet k 0 L σ) (VQ g B h t 256 σ) := by
  have hS := hP.1
  have hb := HS_b hS
  have hB := hS.2.1
  have ht := hP.2.2.1
  have kv := kdN_6 hS hv
  refine Tm_suc (fun k => by rw [x_powerSet]) ?_
  refine Tm_ob (s_kind hS hv (by exact h1)) (fun r hr => ?_)
  rw [hr]
  refine Tm_ite (fun w => ?_) (fun _ => Tm_ob (s_wrongKind _) (fun r hr => Tm_some (VQ_of (VO_wk hP hr))))
  have w := (n_eq (q := 6) (by omega) (by decide)).mp w
  have gv := kdN_ge hS hv (by omega)
  obtain ⟨n, v1, v2, v3, v4, v5, v6, v7⟩ := ob_at hS gv
  have v7 := v7 (by omega)
  refine Tm_suc (fun k => by rw [x_powerSet]) ?_
  rw [h1, show nI v + 1 = nI (v + 1) from n_add1 v]
  refine Tm_chk (n_in (by omega) (by omega)) ?_
  rw [n_cl (p := v + 1) (by omega), v1]
  refine Tm_ite (fun z => ?_) (fun _ => ?_)
  case refine_2 =>
    refine Tm_ob (s_fail _ σ) (fun r hr => ?_)
    rw [hr]
    exact Tm_some (VQ_of (VO_er hP (e := 5) (by decide)))
  have hn8 := (n_le (q := 8) (by omega) (by decide)).mp z
  obtain ⟨p1, p2, p3⟩ := n_pow8 hn8
  generalize 2 ^ n = P at p1 p2 p3
  have b7 : ∀ (i : Nat) (N : Nat → Int32) (τ : MS) (g' : Nat → Prop) (l' : List Nat) (h' : Nat), i ≤ 256 → N 3 = nI t → PuH g B h t i σ τ g' l' h' → Tm (fun k => x_powerSet k 7 N τ) (VQ g B h t 256 σ) := by
    intro i N τ g' l' h' hi n3 hU
    refine Tm_suc (fun k => by rw [x_powerSet]) ?_
    refine Tm_ite (fun _ => ?_) (fun he => ?_)
    · refine Tm_ob (PuH_set hU (by omega) (by omega) (by exact n3)) (fun r hr => ?_)
      refine Tm_suc (fun k => by rw [x_powerSet]) ?_
      exact Tm_some (VQ_of hr)
    · refine Tm_suc (fun k => by rw [x_powerSet]) ?_
      refine Tm_suc (fun k => by rw [x_powerSet]) ?_
      exact Tm_some (PuH_er hU hi he)
  have b3 : ∀ (q i : Nat) (N : Nat → Int32) (τ : MS) (g' : Nat → Prop) (l' : List Nat) (h' : Nat), q + i = P → N 1 = nI v → N 2 = nI n → N 3 = nI t → N 4 = nI i → PuH g B h t i σ τ g' l' h' → Tm (fun k => x_powerSet k 3 N τ) (VQ g B h t 256 σ) := by
    intro q
    induction q with
    | zero =>
      intro i N τ g' l' h' hi n1 n2 n3 n4 hU
      refine Tm_suc (fun k => by rw [x_powerSet]) ?_
      rw [n2, p1, n4]
      exact Tm_ite (fun _ => b7 i N τ g' l' h' (by omega) n3 hU) (fun w => absurd ((n_le (by omega) (by omega)).mpr (by omega)) w)
    | succ q ih =>
      intro i N τ g' l' h' hi n1 n2 n3 n4 hU
      refine Tm_suc (fun k => by rw [x_powerSet]) ?_
      rw [n2, p1, n4]
      refine Tm_ite (fun w => absurd ((n_le (by omega) (by omega)).mp w) (by omega)) (fun _ => ?_)
      refine Tm_ite (fun _ => ?_) (fun _ => b7 i N τ g' l' h' (by omega) n3 hU)
      have hU2 := hU
      obtain ⟨a1, a2, a3, a4, a5, a6⟩ := hU
      rw [a3]
      have b4 : ∀ (c j p : Nat) (M : Nat → Int32) (υ : MS), c + j = n → p ≤ j → M 1 = nI v → M 2 = nI n → M 3 = nI t → M 4 = nI i → M 5 = nI (t + i) → M 6 = nI j → PuS g' (t + i) p τ υ → Tm (fun k => x_powerSet k 4 M υ) (VQ g B h t 256 σ) := by
        intro c
        induction c with
        | zero =>
          intro j p M υ hj hp m1 m2 m3 m4 m5 m6 hV
          refine Tm_suc (fun k => by rw [x_powerSet]) ?_
          rw [m2, m6]
          refine Tm_ite (fun _ => ?_) (fun w => absurd ((n_le (by omega) (by omega)).mpr (by omega)) w)
          refine Tm_suc (fun k => by rw [x_powerSet]) ?_
          refine Tm_ob (PuS_set hV a1.1 a5 (by omega) (by omega) (by exact m5)) (fun r hr => ?_)
          have hr59 : r.2.1 59 = nI (t + i) := by
            obtain ⟨_, _, _, _, _, e, _⟩ := hr
            exact e
          refine Tm_ob (s_push hr59 (by omega) _) (fun s hs => ?_)
          rw [hs]
          obtain ⟨g2, l2, h2, hW, -⟩ := PuH_VO hU2 hr
          exact ih (i + 1) _ _ g2 l2 h2 (by omega) m1 m2 m3 (by show M 4 + 1 = _; rw [m4, n_add1]) hW
        | succ c ihc =>
          intro j p M υ hj hp m1 m2 m3 m4 m5 m6 hV
          have b5 : ∀ (p' : Nat) (υ' : MS), p' ≤ j + 1 → PuS g' (t + i) p' τ υ' → Tm (fun k => x_powerSet k 5 M υ') (VQ g B h t 256 σ) := fun p' υ' hp' hV' => by
            refine Tm_suc (fun k => by rw [x_powerSet]) ?_
            exact ihc (j + 1) p' _ _ (by omega) hp' m1 m2 m3 m4 m5 (by show M 6 + 1 = _; rw [m6, n_add1]) hV'
          obtain ⟨y, y1, y2⟩ := v7 j (by omega)
          refine Tm_suc (fun k => by rw [x_powerSet]) ?_
          rw [m1, show nI v + 4 = nI (v + 4) from n_add (q := 4) (by omega), m6, n_add (by omega), m2]
          refine Tm_ite (fun w => absurd ((n_le (by omega) (by omega)).mp w) (by omega)) (fun _ => ?_)
          refine Tm_ite (fun _ => ?_) (fun _ => b5 p υ (by omega) hV)
          refine Tm_chk (n_in (by omega) (by omega)) ?_
          rw [n_cl (p := v + 4 + j) (by omega), hV.2.1 28 (by decide), a1.2.2.2 (v + 4 + j) (by omega) (by omega), y1]
          exact Tm_ob (PuS_push hV (by omega) (y2.imp id (a1.2.1 y)) rfl) (fun r hr => b5 (p + 1) _ (by omega) hr)
      exact b4 n 0 0 _ _ (by omega) (Nat.le_refl _) n1 n2 n3 n4 rfl rfl (PuS_0 a3)
  refine Tm_suc (fun k => by rw [x_powerSet]) ?_
  rw [hP.2.1]
  exact b3 P 0 _ _ g l h (by omega) h1 rfl rfl rfl (PuH_0 hS hP.2.1 hP.2.2.2)
end POW
