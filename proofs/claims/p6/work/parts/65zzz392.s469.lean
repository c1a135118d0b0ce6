/-! The class: operators that wait; they are settled. -/
section CWB
variable {σ σ' σ0 τ τ' : CS} {L : LV} {b : Bool} {T : Nat → Int32} {n q q' u al o v mk p sz szB nc0 sz0 mk0 a1 a2 m kk f e t o0 ls h : Nat} {y w : Int32} {l l' cs cs' : List Int32} {tb : List Ent} {α : Type} {S : α → Int32 → CS → Prop} {C : Prop} {E : En} {gl : Nat × (Nat → Nat → Prop)} {Vm : Nat → Prop} {bt : BT} {x : Option α}
/-- an operator that waits: its level, its instruction, a jump's place or the way of a fold -/
abbrev Wt := Nat × Nat × Nat
def MkW (τ : CS) (fi : Nat) : List Wt → Prop
  | [] => True
  | e :: S => (τ.2.2.1 41 (fi + 3 * S.length) = nI e.1 ∧ τ.2.2.1 41 (fi + 3 * S.length + 1) = nI e.2.1 ∧ τ.2.2.1 41 (fi + 3 * S.length + 2) = nI e.2.2) ∧ MkW τ fi S
def wT : List Wt → Nat
  | [] => 0
  | e :: S => wT S + (if 3 ≤ e.1 ∧ e.1 ≤ 6 then 1 else 0)
def wO : List Wt → Nat
  | [] => 0
  | e :: S => wO S + (if e.1 = 2 ∨ 6 ≤ e.1 then 1 else 0)
def wU : List Wt → Nat
  | [] => 0
  | e :: S => wU S + (if e.1 = 2 ∨ 6 ≤ e.1 then 0 else 1)
def wP : List Wt → Nat
  | [] => 0
  | e :: S => wP S + (if e.2.1 = 112 then 2 else 1)
def wH (szB : Nat) : List Wt → List (Nat × Nat × Nat)
  | [] => []
  | e :: S => if e.1 ≤ 1 then (e.2.2 - szB, 7 - e.1, wT S) :: wH szB S else wH szB S
def wOk (szB : Nat) (cs : List Int32) : List Wt → Prop
  | [] => True
  | e :: S => ((e.1 ≤ 1 ∧ e.2.1 = 8 ∧ szB ≤ e.2.2 ∧ e.2.2 - szB < cs.length ∧ ∃ x, cs.getD (e.2.2 - szB) 0 = em (7 - e.1) x) ∨ (e.1 = 2 ∧ e.2.1 = 9) ∨ (3 ≤ e.1 ∧ e.1 ≤ 6 ∧ 128 ≤ e.2.1 ∧ e.2.1 < 144) ∨ (e.1 = 7 ∧ (e.2.1 = 160 ∨ e.2.1 = 161 ∨ e.2.1 = 112))) ∧ wOk szB cs S
theorem MkW_k : ∀ (S : List Wt) (fi : Nat), (∀ i, i < fi + 3 * S.length → τ'.2.2.1 41 i = τ.2.2.1 41 i) → MkW τ fi S → MkW τ' fi S
  | [], _, _, _ => trivial
  | e :: S, fi, h, z => by
    have el : (e :: S).length = S.length + 1 := rfl
    obtain ⟨⟨z1, z2, z3⟩, z4⟩ := z
    exact ⟨⟨by rw [h _ (by omega)]; exact z1, by rw [h _ (by omega)]; exact z2, by rw [h _ (by omega)]; exact z3⟩, MkW_k S fi (fun i hi => h i (by omega)) z4⟩
theorem wOk_ap : ∀ S : List Wt, wOk szB cs S → wOk szB (cs ++ l) S
  | [], _ => trivial
  | e :: S, h => by
    refine ⟨?_, wOk_ap S h.2⟩
    rcases h.1 with ⟨h1, h2, h3, h4, x, h5⟩ | z
    · exact Or.inl ⟨h1, h2, h3, by rw [List.length_append]; omega, x, by rw [gd_l h4]; exact h5⟩
    · exact Or.inr z
theorem wOk_set {y : Int32} : ∀ S : List Wt, wOk szB cs S → (∀ e, e ∈ wH szB S → ¬ e.1 = h) → wOk szB (cs.set h y) S
  | [], _, _ => trivial
  | e :: S, k, hn => by
    have sub : ∀ a, a ∈ wH szB S → a ∈ wH szB (e :: S) := fun a ha => by
      show a ∈ (if e.1 ≤ 1 then (e.2.2 - szB, 7 - e.1, wT S) :: wH szB S else wH szB S)
      by_cases c : e.1 ≤ 1
      · rw [if_pos c]; exact List.mem_cons_of_mem _ ha
      · rw [if_neg c]; exact ha
    refine ⟨?_, wOk_set S k.2 (fun a ha => hn a (sub a ha))⟩
    rcases k.1 with ⟨h1, h2, h3, h4, x, h5⟩ | z
    · have ne : ¬ e.2.2 - szB = h := hn (e.2.2 - szB, 7 - e.1, wT S) (by
        show _ ∈ (if e.1 ≤ 1 then (e.2.2 - szB, 7 - e.1, wT S) :: wH szB S else wH szB S)
        rw [if_pos h1]; exact List.mem_cons_self)
      exact Or.inl ⟨h1, h2, h3, by rw [List.length_set]; exact h4, x, by rw [gd_set, if_neg (fun z => ne z.1)]; exact h5⟩
    · exact Or.inr z
/-- how an exp's loop stands: operators that wait, t values above what they have -/
def WA (T : Nat → Int32) (n : Nat) (b : Bool) (u al : Nat) (σ0 : CS) (tb : List Ent) (gl : Nat × (Nat → Nat → Prop)) (Vm : Nat → Prop) (o0 mk p sz a1 a2 : Nat) (S : List Wt) (q v : Nat) (cs : List Int32) (t : Nat) (τ : CS) : Prop := Sy T n b u al σ0 tb.length sz mk a1 a2 tb (o0 + wO S) q v (mk + 3 * S.length) p sz cs τ ∧ MkW τ mk S ∧ wOk sz cs S ∧ PKh u p gl Vm (wH sz S) (wT S + t) cs
/-- the same, but for what was before -/
def WQ (T : Nat → Int32) (n : Nat) (b : Bool) (u al : Nat) (tb : List Ent) (gl : Nat × (Nat → Nat → Prop)) (Vm : Nat → Prop) (o0 mk p sz : Nat) (S : List Wt) (q v : Nat) (cs : List Int32) (t : Nat) (τ : CS) : Prop := (QS T n b u al tb (o0 + wO S) q v (mk + 3 * S.length) p (sz + cs.length) τ ∧ ∀ i, i < cs.length → cdr b τ (sz + i) = cs.getD i 0) ∧ MkW τ mk S ∧ wOk sz cs S ∧ PKh u p gl Vm (wH sz S) (wT S + t) cs
theorem WA_q {s : List Wt} (h : WA T n b u al σ0 tb gl Vm o0 mk p sz a1 a2 s q v cs t τ) : WQ T n b u al tb gl Vm o0 mk p sz s q v cs t τ := ⟨⟨h.1.1.1, h.1.2⟩, h.2⟩
theorem WQ_a {s : List Wt} (h : WQ T n b u al tb gl Vm o0 mk p sz s q v cs t τ) (xk : XK b u tb.length sz mk σ0 τ) (c : a1 + PhC τ ≤ PhC σ0 ∧ a2 + PhS τ ≤ PhS σ0) : WA T n b u al σ0 tb gl Vm o0 mk p sz a1 a2 s q v cs t τ := ⟨⟨⟨h.1.1, xk, c, Nat.le_refl _, Nat.le_add_right _ _, Nat.le_add_right _ _⟩, h.1.2⟩, h.2⟩
/-- a call within that leaves marks and code of this method otherwise -/
theorem st_callB {β : Type} {z : Option β} {R : β → Int32 → CS → Prop} {g : Nat → Option RS} {f : Nat → RS → Option RS} (t : Tm g (QPo b u nc0 sz0 mk0 z R σ0 a1 a2)) (hx : (z = none ∧ x = none) ∨ ∃ s, z = some s ∧ ∀ (τ' : CS) (ret : Int32) (n1 n2 : Nat), R s ret τ' → XK b u nc0 sz0 mk0 σ0 τ' → (a1 + n1 + PhC τ' ≤ PhC σ0 ∧ a2 + n2 + PhS τ' ≤ PhS σ0) → Tm (fun k => f k ((0, ret), τ', (n1, n2))) (QPo b u nc0 sz0 mk0 x S σ0 (a1 + n1) (a2 + n2))) : Tm (fun k => ox (g k) (f k)) (QPo b u nc0 sz0 mk0 x S σ0 a1 a2) := by
  refine Tm_ox t (fun r w nz => ?_) (fun r w e0 => ?_)
  · rcases hx with ⟨e1, e2⟩ | ⟨s, e1, _⟩
    · rw [e2]
      exact ⟨fun _ z => (by cases z), fun _ => w.2.1 e1, fun z => absurd z nz, fun z => w.2.2.2.1 z, w.2.2.2.2⟩
    · exact absurd (w.1 s e1).1 nz
  · rcases hx with ⟨e1, e2⟩ | ⟨s, e1, cont⟩
    · exact absurd (w.2.1 e1) (by rw [e0]; decide)
    · have y := w.2.2.1 e0
      have k := cont r.2.1 r.1.2 r.2.2.1 r.2.2.2 (w.1 s e1).2 w.2.2.2.2 y
      have er : ((0, r.1.2), r.2.1, (r.2.2.1, r.2.2.2)) = r := by
        rw [← e0]
      rw [er] at k
      exact Tm_mono k (fun q z => QPo_s z)
theorem c_aimF (s : Sy T n b u al σ0 nc0 sz0 mk0 a1 a2 tb o q v mk p szB cs τ) (hs : sz0 ≤ szB) (hh : h < cs.length) {op : Nat} (ho : op < 256) {x : Int32} (hc : cs.getD h 0 = em op x) (hb : L.2.2.1 0 = b) (h1 : L.1 1 = nI (szB + h)) : Tm (fun k => y_X7_aim__P k 0 L τ) (fun r => Sy T n b u al σ0 nc0 sz0 mk0 a1 a2 tb o q v mk p szB (cs.set h (em op (L.1 2 - L.1 1))) r.2 ∧ r.2.2.2.1 41 = τ.2.2.1 41 ∧ r.2.1 = τ.1 ∧ sN r.2 41 = sN τ 41) := by
  have n36 := cdn_b s.1.1
  have le : szB + cs.length ≤ cdn b τ := s.1.1.2.1.2.1
  have ii : ¬ (nI (szB + h) < 0 ∨ cdn b τ ≤ (nI (szB + h)).toNatClampNeg) := u_in (by rw [u_n (by omega)]; omega) (by omega)
  refine Tm_suc (fun k => by rw [y_X7_aim__P]) ?_
  rw [hb, h1]
  refine Tm_chk ii (Tm_chk ii ?_)
  rw [n_cl (by omega)]
  have e1 : τ.2.2.1 (pR0 (sKd τ b)) (szB + h) = em op x := (s.2 h hh).trans hc
  rw [e1, em_lo ho]
  refine Tm_some ⟨Sy_set s hs hh _, uA_k (fun z => ?_), rfl, rfl⟩
  rcases pR0_c (sKd τ b) with w | w <;> omega
theorem wH_or {e : Wt} {s : List Wt} (h : e.1 ≤ 1) : wH szB (e :: s) = (e.2.2 - szB, 7 - e.1, wT s) :: wH szB s := if_pos h
theorem wH_no {e : Wt} {s : List Wt} (h : ¬ e.1 ≤ 1) : wH szB (e :: s) = wH szB s := if_neg h
theorem wT_y {e : Wt} {s : List Wt} (h : 3 ≤ e.1 ∧ e.1 ≤ 6) : wT (e :: s) = wT s + 1 := by show wT s + (if _ then _ else _) = _; rw [if_pos h]
theorem wT_n {e : Wt} {s : List Wt} (h : ¬ (3 ≤ e.1 ∧ e.1 ≤ 6)) : wT (e :: s) = wT s := by show wT s + (if _ then _ else _) = _; rw [if_neg h]; rfl
theorem wO_y {e : Wt} {s : List Wt} (h : e.1 = 2 ∨ 6 ≤ e.1) : wO (e :: s) = wO s + 1 := by show wO s + (if _ then _ else _) = _; rw [if_pos h]
theorem wO_n {e : Wt} {s : List Wt} (h : ¬ (e.1 = 2 ∨ 6 ≤ e.1)) : wO (e :: s) = wO s := by show wO s + (if _ then _ else _) = _; rw [if_neg h]; rfl
theorem wU_y {e : Wt} {s : List Wt} (h : e.1 = 2 ∨ 6 ≤ e.1) : wU (e :: s) = wU s := by show wU s + (if _ then _ else _) = _; rw [if_pos h]; rfl
theorem wU_n {e : Wt} {s : List Wt} (h : ¬ (e.1 = 2 ∨ 6 ≤ e.1)) : wU (e :: s) = wU s + 1 := by show wU s + (if _ then _ else _) = _; rw [if_neg h]
theorem wP_y {e : Wt} {s : List Wt} (h : e.2.1 = 112) : wP (e :: s) = wP s + 2 := by show wP s + (if _ then _ else _) = _; rw [if_pos h]
theorem wP_n {e : Wt} {s : List Wt} (h : ¬ e.2.1 = 112) : wP (e :: s) = wP s + 1 := by show wP s + (if _ then _ else _) = _; rw [if_neg h]
theorem w_cnt : ∀ s : List Wt, s.length = wO s + wU s ∧ s.length ≤ wP s
  | [] => ⟨rfl, Nat.le_refl _⟩
  | e :: s => by
    obtain ⟨h1, h2⟩ := w_cnt s
    have el : (e :: s).length = s.length + 1 := rfl
    refine ⟨?_, ?_⟩
    · by_cases c : e.1 = 2 ∨ 6 ≤ e.1
      · rw [wO_y c, wU_y c]; omega
      · rw [wO_n c, wU_n c]; omega
    · by_cases c : e.2.1 = 112
      · rw [wP_y c]; omega
      · rw [wP_n c]; omega
theorem wU_ap : ∀ (s t : List Wt), wU t ≤ wU (s ++ t)
  | [], t => Nat.le_refl _
  | e :: s, t => by
    have := wU_ap s t
    by_cases c : e.1 = 2 ∨ 6 ≤ e.1
    · show _ ≤ wU (e :: (s ++ t)); rw [wU_y c]; exact this
    · show _ ≤ wU (e :: (s ++ t)); rw [wU_n c]; omega
theorem c_settle (S0 : List Wt) (hb : ∀ e s, S0 = e :: s → e.1 < ls) (hls : ls ≤ 8) (hmk : mk ≤ 21504) : ∀ (S' : List Wt) (i : Nat) (cs : List Int32) (τ : CS) (a1 a2 : Nat) (L' : LV), i + S'.length ≤ 32768 → L'.1 1 = nI mk → L'.1 2 = nI ls → L'.1 3 = nI i → WA T n b u al σ0 tb gl Vm o0 mk p sz a1 a2 (S' ++ S0) q v cs 1 τ → (∀ e, e ∈ S' → ls ≤ e.1) → sz + cs.length + wP (S' ++ S0) ≤ 36864 → Tm (fun k => f_X5_settle k 1 L' τ) (QPo b u tb.length sz mk (some ()) (fun _ _ τ' => ∃ cs', WQ T n b u al tb gl Vm o0 mk p sz S0 q v cs' 1 τ' ∧ cs'.length + wP S0 = cs.length + wP (S' ++ S0) ∧ τ'.1 4016 = τ.1 4016 ∧ (S' = [] → cs' = cs ∧ τ' = τ)) σ0 a1 a2) := by
  intro S'
  induction S' with
  | nil =>
    intro i cs τ a1 a2 L' hi l1 l2 l3 wa _ hz
    have wa' : WA T n b u al σ0 tb gl Vm o0 mk p sz a1 a2 S0 q v cs 1 τ := wa
    have fin : Tm (fun k => f_X5_settle k 2 L' τ) (QPo b u tb.length sz mk (some ()) (fun _ _ τ' => ∃ cs', WQ T n b u al tb gl Vm o0 mk p sz S0 q v cs' 1 τ' ∧ cs'.length + wP S0 = cs.length + wP ([] ++ S0) ∧ τ'.1 4016 = τ.1 4016 ∧ (([] : List Wt) = [] → cs' = cs ∧ τ' = τ)) σ0 a1 a2) := by
      refine Tm_suc (fun k => by rw [f_X5_settle]) ?_
      exact Tm_some (Qfin wa'.1.1 ⟨cs, WA_q wa', rfl, rfl, fun _ => ⟨rfl, rfl⟩⟩)
    have e11 := wa'.1.1.1.2.2.1.1
    have m41 := wa'.1.1.1.2.2.1.2
    have hi' : i ≤ 32768 := hi
    refine Tm_suc (fun k => by rw [f_X5_settle]) ?_
    rw [l1, l2, l3, e11]
    refine Tm_no ?_ ?_
    · show ¬ nI 32768 < nI i
      rw [n_lt (by decide) (by omega)]; omega
    rcases S0 with _ | ⟨e, s⟩
    · refine Tm_yes ?_ fin
      rw [n_le (by show mk + 0 < _; omega) (by omega)]; exact Nat.le_refl _
    · have el : (e :: s).length = s.length + 1 := rfl
      rw [el] at e11 m41 ⊢
      have lt := hb e s rfl
      refine Tm_no ?_ ?_
      · rw [n_le (by omega) (by omega)]; omega
      have e3 : nI (mk + 3 * (s.length + 1)) - 3 = nI (mk + 3 * s.length) := by
        rw [show (3 : Int32) = nI 3 from rfl, n_sub (by omega) (by omega)]
        exact congrArg nI (by omega)
      rw [e3]
      refine Tm_chk (u_in (by rw [u_n (by omega)]; omega) (by omega)) ?_
      rw [n_cl (by omega), wa'.2.1.1.1]
      refine Tm_yes ?_ fin
      rw [n_lt (by omega) (by omega)]; exact lt
  | cons e S1 ih =>
    intro i cs τ a1 a2 L' hi l1 l2 l3 wa hl hz
    have el : (e :: S1 ++ S0).length = (S1 ++ S0).length + 1 := rfl
    have el1 : (e :: S1).length = S1.length + 1 := rfl
    obtain ⟨s, ⟨⟨mw1, mw2, mw3⟩, mw⟩, ⟨ok1, ok⟩, ph⟩ := wa
    have mw1 : τ.2.2.1 41 (mk + 3 * (S1 ++ S0).length) = nI e.1 := mw1
    have mw2 : τ.2.2.1 41 (mk + 3 * (S1 ++ S0).length + 1) = nI e.2.1 := mw2
    have mw3 : τ.2.2.1 41 (mk + 3 * (S1 ++ S0).length + 2) = nI e.2.2 := mw3
    have e11 := s.1.1.2.2.1.1
    have m41 := s.1.1.2.2.1.2
    rw [el] at e11 m41
    have le := hl e List.mem_cons_self
    have e7 : e.1 ≤ 7 := by rcases ok1 with z | z | z | z <;> omega
    have op256 : e.2.1 < 256 := by rcases ok1 with z | z | z | z <;> omega
    have w1 := w_cnt (e :: S1 ++ S0)
    have es : e :: S1 ++ S0 = e :: (S1 ++ S0) := rfl
    rw [es] at hz w1 ph
    have wP1 : wP (S1 ++ S0) + 1 ≤ wP (e :: (S1 ++ S0)) := by
      by_cases c : e.2.1 = 112
      · rw [wP_y c]; omega
      · rw [wP_n c]; exact Nat.le_refl _
    have hwo := s.1.1.2.2.2.2.2.1
    rw [es] at hwo
    -- the next round
    have b6 : ∀ (L2 : LV) (τ2 : CS) (n1 n2 : Nat) (c2 : List Int32), L2.1 1 = nI mk → L2.1 2 = nI ls → L2.1 3 = nI i → WA T n b u al σ0 tb gl Vm o0 mk p sz n1 n2 (S1 ++ S0) q v c2 1 τ2 → c2.length + wP (S1 ++ S0) = cs.length + wP (e :: (S1 ++ S0)) → τ2.1 4016 = τ.1 4016 → Tm (fun k => f_X5_settle k 6 L2 τ2) (QPo b u tb.length sz mk (some ()) (fun _ _ τ' => ∃ cs', WQ T n b u al tb gl Vm o0 mk p sz S0 q v cs' 1 τ' ∧ cs'.length + wP S0 = cs.length + wP (e :: S1 ++ S0) ∧ τ'.1 4016 = τ.1 4016 ∧ (e :: S1 = [] → cs' = cs ∧ τ' = τ)) σ0 n1 n2) := by
      intro L2 τ2 n1 n2 c2 g1 g2 g3 wa2 hc h16
      refine Tm_suc (fun k => by rw [f_X5_settle]) ?_
      have t := ih (i + 1) c2 τ2 n1 n2 (lI L2 3 (L2.1 3 + 1)) (by omega) g1 g2 (by show L2.1 3 + 1 = _; rw [g3, n_add1]) wa2 (fun a ha => hl a (List.mem_cons_of_mem _ ha)) (by omega)
      refine Tm_mono t (fun r z => ⟨fun y ey => ?_, z.2⟩)
      obtain ⟨z1, c', z2, z3, z4, z5⟩ := z.1 y ey
      exact ⟨z1, c', z2, z3.trans hc, z4.trans h16, fun w => by cases w⟩
    -- the fold's second half
    have b4 : ∀ (L2 : LV) (τ2 : CS) (n1 n2 : Nat) (c2 : List Int32), L2.1 1 = nI mk → L2.1 2 = nI ls → L2.1 3 = nI i → Sy T n b u al σ0 tb.length sz mk n1 n2 tb (o0 + wO (S1 ++ S0)) q v (mk + 3 * (S1 ++ S0).length) p sz c2 τ2 → (τ2.2.2.1 41 = τ.2.2.1 41 ∧ sN τ2 41 = sN τ 41) → τ2.1 4016 = τ.1 4016 → wOk sz c2 (S1 ++ S0) → c2.length = cs.length + 1 → (¬ e.2.1 = 112 → PKh u p gl Vm (wH sz (S1 ++ S0)) (wT (S1 ++ S0) + 1) c2) → (e.2.1 = 112 → ∀ y, PKh u p gl Vm (wH sz (S1 ++ S0)) (wT (S1 ++ S0) + 1) (c2 ++ [em 113 y])) → Tm (fun k => f_X5_settle k 4 L2 τ2) (QPo b u tb.length sz mk (some ()) (fun _ _ τ' => ∃ cs', WQ T n b u al tb gl Vm o0 mk p sz S0 q v cs' 1 τ' ∧ cs'.length + wP S0 = cs.length + wP (e :: S1 ++ S0) ∧ τ'.1 4016 = τ.1 4016 ∧ (e :: S1 = [] → cs' = cs ∧ τ' = τ)) σ0 n1 n2) := by
      intro L2 τ2 n1 n2 c2 g1 g2 g3 s2 ⟨hm, hsn⟩ h16 ok2 hc2 p1 p2
      have f11 := s2.1.1.2.2.1.1
      have mk2 : MkW τ2 mk (S1 ++ S0) := MkW_k _ mk (fun i _ => by rw [hm]) mw
      have fc1 := fP_c b 1
      refine Tm_suc (fun k => by rw [f_X5_settle]) ?_
      rw [f11, n_add1]
      refine Tm_chk (u_in (by rw [u_n (by omega), hsn]; omega) (by rw [hsn]; omega)) ?_
      rw [n_cl (by omega), hm, mw2]
      by_cases c : e.2.1 = 112
      · refine Tm_yes (by rw [c]; rfl) ?_
        rw [wP_y c] at hz
        refine Tm_oP (Sy_pp s2) ?_
        refine st_emitF (op := 113) s2 rfl rfl (by omega) (fun τ3 x1 x2 s3 k3 f3 => ?_)
        refine b6 L2 τ3 _ _ _ g1 g2 g3 ⟨s3, MkW_k _ mk (fun i _ => by rw [k3.1]) mk2, wOk_ap _ ok2, p2 c _⟩ ?_ ?_
        · rw [List.length_append, hc2, wP_y c]
          show cs.length + 1 + 1 + _ = _
          omega
        · rw [f3 4016 (by omega)]; exact h16
      · refine Tm_no (fun z => c ?_) ?_
        · have z' : nI e.2.1 = nI 112 := z
          exact (n_eq (by omega) (by decide)).1 z'
        refine b6 L2 τ2 _ _ _ g1 g2 g3 ⟨s2, mk2, ok2, p1 c⟩ ?_ h16
        rw [hc2, wP_n c]
        omega
    have m0le : mk + 3 * (S1 ++ S0).length + 3 ≤ sN τ 41 := by omega
    generalize hm0 : mk + 3 * (S1 ++ S0).length = m0 at *
    have u1 : (uI τ 4011 (nI m0)).1 4011 = nI m0 := uI_s
    have fc19 := fP_c b 19
    have fc1 := fP_c b 1
    have s1 : Sy T n b u al σ0 tb.length sz mk a1 a2 tb (o0 + wO (e :: (S1 ++ S0))) q v m0 p sz cs (uI τ 4011 (nI m0)) := ⟨Sx_f s.1 (fun j hj => uI_o (by omega)) rfl (by rw [uI_o (by decide)]; exact hwo.1) hwo.2 uI_s (by rw [el]; omega) (by omega) (by rw [uI_o (by omega)]; exact s.1.1.2.2.2.2.2.2.2), s.2⟩
    have e3 : nI (mk + 3 * ((S1 ++ S0).length + 1)) - 3 = nI m0 := by
      rw [show (3 : Int32) = nI 3 from rfl, n_sub (by omega) (by omega)]
      exact congrArg nI (by omega)
    have q1 : (uI τ 4011 (nI m0)).2.2.1 41 m0 = nI e.1 := mw1
    have q2 : (uI τ 4011 (nI m0)).2.2.1 41 (m0 + 1) = nI e.2.1 := mw2
    have q3 : (uI τ 4011 (nI m0)).2.2.1 41 (m0 + 2) = nI e.2.2 := mw3
    refine Tm_suc (fun k => by rw [f_X5_settle]) ?_
    rw [l1, l2, l3, e11]
    refine Tm_no ?_ ?_
    · show ¬ nI 32768 < nI i
      rw [n_lt (by decide) (by omega)]; omega
    refine Tm_no ?_ ?_
    · rw [n_le (by omega) (by omega)]; omega
    rw [e3]
    refine Tm_chk (u_in (by rw [u_n (by omega)]; omega) (by omega)) ?_
    rw [n_cl (p := m0) (by omega), mw1]
    refine Tm_no ?_ ?_
    · rw [n_lt (by omega) (by omega)]; omega
    rw [u1]
    refine Tm_chk (u_in (by rw [u_n (by omega)]; show m0 < sN τ 41; omega) (by show sN τ 41 ≤ _; omega)) ?_
    rw [show nI m0 + 2 = nI (m0 + 2) from n_add (q := 2) (by omega), n_add1]
    refine Tm_chk (u_in (by rw [u_n (by omega)]; show m0 + 2 < sN τ 41; omega) (by show sN τ 41 ≤ _; omega)) ?_
    refine Tm_oP (Sy_pp s1) ?_
    refine Tm_chk (u_in (by rw [u_n (by omega)]; show m0 + 1 < sN τ 41; omega) (by show sN τ 41 ≤ _; omega)) ?_
    rw [n_cl (p := m0) (by omega), n_cl (p := m0 + 1) (by omega), n_cl (p := m0 + 2) (by omega), q1, q2, q3]
    refine st_emitF (op := e.2.1) s1 rfl rfl (by omega) (fun τ2 x1 x2 s2 k2 f2 => ?_)
    have k2' : τ2.2.2.1 41 = τ.2.2.1 41 ∧ sN τ2 41 = sN τ 41 := k2
    have f16 : τ2.1 4016 = τ.1 4016 := by rw [f2 4016 (by omega), uI_o (by decide)]
    have la : (cs ++ [em e.2.1 0]).length = cs.length + 1 := by rw [List.length_append]; rfl
    have pt := ph.1
    have e4n : ∀ τ2 : CS, Sy T n b u al σ0 tb.length sz mk (a1 + x1) (a2 + x2) tb (o0 + wO (e :: (S1 ++ S0))) q v m0 p sz (cs ++ [em e.2.1 0]) τ2 → (e.1 = 2 ∨ 6 ≤ e.1) → τ2.1 4005 - 1 = nI (o0 + wO (S1 ++ S0)) ∧ o0 + wO (S1 ++ S0) ≤ 20 := fun τ2 s2 ho => by
      have z := s2.1.1.2.2.2.2.2.1
      rw [wO_y ho] at z
      refine ⟨?_, by omega⟩
      rw [z.1, ← Nat.add_assoc, sub1_n (by omega)]
    rcases ok1 with ⟨k1, k8, k9, k10, xx, k11⟩ | ⟨k1, k8⟩ | ⟨k1, k3, k8, k9⟩ | ⟨k1, k8⟩
    · -- and, or
      have n2 : ¬ (e.1 = 2 ∨ 6 ≤ e.1) := by omega
      refine Tm_no ?_ ?_
      · show ¬ nI 1 < nI e.1
        rw [n_lt (by decide) (by omega)]; omega
      refine Tm_oP (Sy_pp s2) (Tm_oP (Sy_pp s2) ?_)
      have ez : τ2.1 (fP b 1) = nI (sz + (cs ++ [em e.2.1 0]).length) := s2.1.1.2.1.1
      rw [ez]
      have hh : e.2.2 - sz < (cs ++ [em e.2.1 0]).length := by omega
      refine Tm_op (c_aimF (h := e.2.2 - sz) (op := 7 - e.1) s2 (Nat.le_refl _) hh (by omega) (by rw [gd_l k10]; exact k11) rfl (by show nI e.2.2 = _; exact congrArg nI (by omega))) (fun r13 z => ?_)
      obtain ⟨s3, z2, z3, z4⟩ := z
      have ej : nI (sz + (cs ++ [em e.2.1 0]).length) - nI e.2.2 = nI ((cs ++ [em e.2.1 0]).length - (e.2.2 - sz)) := by
        rw [show e.2.2 = sz + (e.2.2 - sz) by omega]
        have y := aim_n (szB := sz) (cs := cs ++ [em e.2.1 0]) (j := e.2.2 - sz) (by omega) (by omega)
        rw [show sz + (e.2.2 - sz) - sz = e.2.2 - sz by omega]
        exact y
      have s3' : Sy T n b u al σ0 tb.length sz mk (a1 + x1) (a2 + x2) tb (o0 + wO (S1 ++ S0)) q v m0 p sz ((cs ++ [em e.2.1 0]).set (e.2.2 - sz) (em (7 - e.1) (nI ((cs ++ [em e.2.1 0]).length - (e.2.2 - sz))))) r13.2 := by
        rw [← ej, ← wO_n (s := S1 ++ S0) n2]; exact s3
      rw [wH_or k1, wT_n (by omega)] at ph
      have ph1 : PKh u p gl Vm ((e.2.2 - sz, 7 - e.1, wT (S1 ++ S0)) :: wH sz (S1 ++ S0)) (wT (S1 ++ S0) + 1) (cs ++ [em e.2.1 0]) := by
        rw [k8]; exact Ph_it (b := wT (S1 ++ S0)) (m := 1) (m' := 1) ph (Nat.le_refl 1) (by have := ph.1; show _ ≤ _ + 1; omega) It_tr
      have ph2 := Ph_fi (h := e.2.2 - sz) ph1 (by rw [if_pos (by omega)])
      have pw := ph.2.2.1
      rw [List.pairwise_cons] at pw
      refine b4 _ r13.2 _ _ _ l1 l2 l3 s3' ⟨z2.trans k2'.1, z4.trans k2'.2⟩ (by rw [z3]; exact f16) (wOk_set _ (wOk_ap _ ok) (fun a ha w => pw.1 a ha w.symm)) (by rw [List.length_set]; exact la) (fun _ => ph2) (fun w => absurd w (by omega))
    · -- not
      refine Tm_yes ?_ ?_
      · show nI 1 < nI e.1
        rw [n_lt (by decide) (by omega)]; omega
      refine Tm_suc (fun k => by rw [f_X5_settle]) ?_
      refine Tm_yes (by show nI e.1 = nI 2; rw [k1]) ?_
      refine Tm_suc (fun k => by rw [f_X5_settle]) ?_
      obtain ⟨eo, o20⟩ := e4n τ2 s2 (Or.inl k1)
      rw [eo]
      rw [wH_no (by omega), wT_n (by omega)] at ph
      refine b4 _ _ _ _ _ l1 l2 l3 (Sy_o s2 o20) k2' (by rw [uI_o (by decide)]; exact f16) (wOk_ap _ ok) la (fun _ => ?_) (fun w => absurd w (by omega))
      rw [k8]
      exact Ph_it (b := wT (S1 ++ S0)) (m := 1) (m' := 1) ph (Nat.le_refl 1) (by have := ph.1; show _ ≤ _ + 1; omega) It_not
    · -- of two
      refine Tm_yes ?_ ?_
      · show nI 1 < nI e.1
        rw [n_lt (by decide) (by omega)]; omega
      refine Tm_suc (fun k => by rw [f_X5_settle]) ?_
      refine Tm_no (fun z => ?_) ?_
      · have z' : nI e.1 = nI 2 := z
        rw [n_eq (by omega) (by decide)] at z'
        omega
      rw [wH_no (by omega), wT_y ⟨k1, k3⟩] at ph
      have ph1 : PKh u p gl Vm (wH sz (S1 ++ S0)) (wT (S1 ++ S0) + 1) (cs ++ [em e.2.1 0]) := Ph_it (b := wT (S1 ++ S0)) (m := 2) (m' := 1) ph (Nat.le_refl 1) (by have := ph.1; show _ ≤ _ + 1; omega) (It_bin ⟨k8, k9⟩)
      by_cases c6 : e.1 = 6
      · refine Tm_no ?_ ?_
        · show ¬ nI e.1 < nI 6
          rw [n_lt (by omega) (by decide)]; omega
        refine Tm_suc (fun k => by rw [f_X5_settle]) ?_
        obtain ⟨eo, o20⟩ := e4n τ2 s2 (Or.inr (by omega))
        rw [eo]
        exact b4 _ _ _ _ _ l1 l2 l3 (Sy_o s2 o20) k2' (by rw [uI_o (by decide)]; exact f16) (wOk_ap _ ok) la (fun _ => ph1) (fun w => absurd w (by omega))
      · refine Tm_yes ?_ ?_
        · show nI e.1 < nI 6
          rw [n_lt (by omega) (by decide)]; omega
        rw [wO_n (by omega)] at s2
        exact b4 _ τ2 _ _ _ l1 l2 l3 s2 k2' f16 (wOk_ap _ ok) la (fun _ => ph1) (fun w => absurd w (by omega))
    · -- before an operand
      refine Tm_yes ?_ ?_
      · show nI 1 < nI e.1
        rw [n_lt (by decide) (by omega)]; omega
      refine Tm_suc (fun k => by rw [f_X5_settle]) ?_
      refine Tm_no (fun z => ?_) ?_
      · have z' : nI e.1 = nI 2 := z
        rw [n_eq (by omega) (by decide)] at z'
        omega
      refine Tm_no ?_ ?_
      · show ¬ nI e.1 < nI 6
        rw [n_lt (by omega) (by decide)]; omega
      refine Tm_suc (fun k => by rw [f_X5_settle]) ?_
      obtain ⟨eo, o20⟩ := e4n τ2 s2 (Or.inr (by omega))
      rw [eo]
      rw [wH_no (by omega), wT_n (by omega)] at ph
      refine b4 _ _ _ _ _ l1 l2 l3 (Sy_o s2 o20) k2' (by rw [uI_o (by decide)]; exact f16) (wOk_ap _ ok) la (fun w => ?_) (fun w y => ?_)
      · refine Ph_it (b := wT (S1 ++ S0)) (m := 1) (m' := 1) ph (Nat.le_refl 1) (by have := ph.1; show _ ≤ _ + 1; omega) (It_un ?_)
        omega
      · rw [w, List.append_assoc]
        exact Ph_s2 (b := wT (S1 ++ S0)) (m := 1) (n := 1) ph Sg2_fo (by have := ph.1; show _ ≤ _ + 2; omega)
/-- operators of this level at least are settled -/
theorem st_settle {f' : Nat → RS → Option RS} (S' S0 : List Wt) (wa : WA T n b u al σ0 tb gl Vm o0 mk p sz a1 a2 (S' ++ S0) q v cs 1 τ) (l1 : L.1 1 = nI mk) (l2 : L.1 2 = nI ls) (hl : ∀ e, e ∈ S' → ls ≤ e.1) (hb : ∀ e s, S0 = e :: s → e.1 < ls) (hls : ls ≤ 8) (hz : sz + cs.length + wP (S' ++ S0) ≤ 36864) (cont : ∀ (τ' : CS) (cs' : List Int32) (ret : Int32) (n1 n2 : Nat), WA T n b u al σ0 tb gl Vm o0 mk p sz (a1 + n1) (a2 + n2) S0 q v cs' 1 τ' → cs'.length + wP S0 = cs.length + wP (S' ++ S0) → τ'.1 4016 = τ.1 4016 → (S' = [] → cs' = cs ∧ τ' = τ) → Tm (fun k => f' k ((0, ret), τ', (n1, n2))) (QPo b u tb.length sz mk x S σ0 (a1 + n1) (a2 + n2))) : Tm (fun k => ox (f_X5_settle k 0 L τ) (f' k)) (QPo b u tb.length sz mk x S σ0 a1 a2) := by
  have m41 := wa.1.1.1.2.2.1.2
  have wc := w_cnt (S' ++ S0)
  have la : (S' ++ S0).length = S'.length + S0.length := List.length_append
  have t : Tm (fun k => f_X5_settle k 0 L τ) (QPo b u tb.length sz mk (some ()) (fun _ _ τ' => ∃ cs', WQ T n b u al tb gl Vm o0 mk p sz S0 q v cs' 1 τ' ∧ cs'.length + wP S0 = cs.length + wP (S' ++ S0) ∧ τ'.1 4016 = τ.1 4016 ∧ (S' = [] → cs' = cs ∧ τ' = τ)) σ0 a1 a2) := by
    refine Tm_suc (fun k => by rw [f_X5_settle]) ?_
    exact c_settle S0 hb hls (by omega) S' 0 cs τ a1 a2 _ (by omega) l1 l2 rfl wa hl hz
  refine st_callB t (Or.inr ⟨(), rfl, fun τ' ret n1 n2 hr xk hc => ?_⟩)
  obtain ⟨cs', z1, z2, z3, z4⟩ := hr
  exact cont τ' cs' ret n1 n2 (WQ_a z1 xk hc) z2 z3 z4
end CWB
