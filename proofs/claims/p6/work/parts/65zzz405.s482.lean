/-! The class: one iter more of a for, typed. -/
section CWP
variable {c c' c1 c2 : Ct} {O O' H H' : Nat → Prop} {u nu nu' pc ln R R' re p d d' rk k op w n m m' q t x y x1 x2 g s N N0 X h h0 Bd Bd' ns na nb pl ρ ρt β w2 Wc fi la cnt a : Nat} {r r' pre ms ms' mse xm lm : List Nat} {x0 v y0 y1 wd : Int32} {Vm Vm' : Nat → Prop} {Pc : Nat → Nat → Prop} {cs cs2 ins tl o co bo : List Int32} {gl : Nat × (Nat → Nat → Prop)} {C : Nat → Int32} {qs qa qb es : List Nat} {lo ow : Option Nat}
/-- the names of a for's iter -/
def FNm (a cnt : Nat) (ins : List Int32) : Prop := 1 ≤ cnt ∧ ((cnt = 1 ∧ ins = [em 71 (nI a)]) ∨ ins = [em 72 (nI a), nI cnt])
theorem FNm_l (h : FNm a cnt ins) : 1 ≤ ins.length ∧ ins.length ≤ 2 := by
  rcases h.2 with ⟨_, e⟩ | e
  · rw [e]; exact ⟨Nat.le_refl _, by show 1 ≤ 2; decide⟩
  · rw [e]; exact ⟨by show 1 ≤ 2; decide, Nat.le_refl _⟩
/-- FOR_NAME, FOR_NAMES -/
theorem Is_fn {w2 : Nat} (hre : re ≤ R - ins.length) (hn : FNm a cnt ins) (ti : TI O H nu R c) (no : ∀ q, tcN c ≤ q → ¬ O q) (hD : tcD c (tcN c) = some (u, 1, (bsl + w2) :: ms, R)) (cn : StC O u gl Pc Vm nu c w2 ms) (h1 : a + cnt ≤ w2) (h2 : ∀ i, i ∈ ms → ¬ (a ≤ i ∧ i < a + cnt)) (hR1 : 1000 + ins.length ≤ R) (hR2 : R ≤ RK) (hN : tcN c + ins.length ≤ 36864) (hC1 : ∀ i, i < tcN c → C i = tcC c i) (hC2 : ∀ i, i < ins.length → C (tcN c + i) = ins.getD i 0) : TI O H nu (R - ins.length) (mkc c C (tcN c + ins.length) (up1 c ins.length (u, 0, (bsl + w2) :: (vmL a cnt ++ ms), re))) := by
  have hl := FNm_l hn
  have hc1 := hn.1
  have w200 := cn.2.1.2.2
  have hF := cn.1.2.2.1
  have rk40 : RK = 40000 := rfl
  have dU : ∀ q y', tcD c q = some y' → up1 c ins.length (u, 0, (bsl + w2) :: (vmL a cnt ++ ms), re) q = some y' := fun q y' e => up1_d ti hl.1 e
  refine TI_s1 ti (no _ (Nat.le_refl _)) hl.1 hN hC1 (fun y ey => ?_) (Nat.sub_le _ _)
  rw [hD] at ey
  cases ey
  have nxt : ∀ c' : Ct, CtG O u nu (mkc c C (tcN c + ins.length) (up1 c ins.length (u, 0, (bsl + w2) :: (vmL a cnt ++ ms), re))) c' → Nx c' (tcN c + ins.length) u 0 ((bsl + w2) :: (vmL a cnt ++ ms)) R := fun c' a' => nx_of a' cn.1.1 up1_e (no _ (by omega)) (Rsh_r _ _) (by rw [bt_s]; exact hF) (by rw [bt_s]; exact hF) (by omega)
  rcases hn.2 with ⟨e1, e2⟩ | e2
  · subst e2
    subst e1
    have c0 : C (tcN c) = em 71 (nI a) := hC2 0 (by omega)
    exact OKq_of (op := 71) (x := nI a) (dU _ _ hD) (no _ (Nat.le_refl _)) cn.1.2.1 (Nat.le_refl _) (by omega) (by decide) (Nat.le_refl _) (by show C (tcN c) &&& 255 = _; rw [c0]; exact em_lo (by decide)) (by show C (tcN c) >>> ((8 : Int32) &&& 31) = _; rw [c0]; exact em_hi (by decide) (Sm3_n (by omega))) (fun c' a' hc ro => OKI_4 (by decide) ⟨by decide, by rw [u_n (by omega)]; omega, by
      rw [u_n (by omega)]
      exact ⟨fun z => absurd z (by decide), fun z => absurd z (by decide), fun z => absurd z (by decide), fun z => absurd z (by decide), fun z => absurd z (by decide), fun _ => ⟨tS_of a' cn.1.1 cn.2.1.1, sh_slb (w := w2) (ms := ms) []⟩, fun z => absurd z (by decide), fun z => absurd z (by decide), fun _ => ⟨0, (bsl + w2) :: (vmL a 1 ++ ms), rfl, by rw [tF_of a' cn.1.1, bt_s]; exact hF, by rw [bt_s]; omega, shAll (w := w2) (ms := ms) [] nilp (fun i hi e => h2 i hi (by omega)), sh_mrl (w := w2) (ms := ms) [] nilp (fun i hi => by
        rcases List.mem_append.1 hi with z | z
        · rw [vmL_m] at z; exact Or.inr (by omega)
        · exact Or.inl z), nxt c' a'⟩, fun z => absurd z (by decide), fun z => absurd z (by decide)⟩⟩)
  · subst e2
    have c0 : C (tcN c) = em 72 (nI a) := hC2 0 (by show 0 < 2; decide)
    have c1 : C (tcN c + 1) = nI cnt := hC2 1 (by show 1 < 2; decide)
    exact OKq_of (op := 72) (x := nI a) (dU _ _ hD) (no _ (Nat.le_refl _)) cn.1.2.1 (by show tcN c + 1 ≤ tcN c + 2; omega) (by omega) (by decide) (by show 1 ≤ 2; decide) (by show C (tcN c) &&& 255 = _; rw [c0]; exact em_lo (by decide)) (by show C (tcN c) >>> ((8 : Int32) &&& 31) = _; rw [c0]; exact em_hi (by decide) (Sm3_n (by omega))) (fun c' a' hc ro => OKI_4 (by decide) ⟨by decide, by rw [u_n (by omega)]; omega, by
      have c1' : tcC c' (tcN c + 1) = nI cnt := (hc (tcN c + 1) (by omega) (by show tcN c + 1 < tcN c + 2; omega)).trans c1
      have n1 : tcN c + 2 ≤ tcN c' := a'.1
      rw [u_n (by omega)]
      exact ⟨fun z => absurd z (by decide), fun z => absurd z (by decide), fun z => absurd z (by decide), fun z => absurd z (by decide), fun z => absurd z (by decide), fun _ => ⟨tS_of a' cn.1.1 cn.2.1.1, sh_slb (w := w2) (ms := ms) []⟩, fun z => absurd z (by decide), fun z => absurd z (by decide), fun z => absurd z (by decide), fun _ => ⟨0, (bsl + w2) :: (vmL a cnt ++ ms), rfl, by rw [tF_of a' cn.1.1, bt_s]; exact hF, by omega, by rw [c1', u_n (by omega), bt_s]; exact h1, by rw [c1', u_n (by omega)]; exact shAll (w := w2) (ms := ms) [] nilp (fun i hi => h2 i hi), by
        rw [c1', u_n (by omega)]
        exact sh_mrl (w := w2) (ms := ms) [] nilp (fun i hi => by
          rcases List.mem_append.1 hi with z | z
          · rw [vmL_m] at z; exact Or.inr z
          · exact Or.inl z), nxt c' a'⟩, fun z => absurd z (by decide)⟩⟩)
theorem sub4 (R a b d : Nat) : R - (a + b + 3 + d) = R - a - b - 3 - d := by omega
theorem FRw_ad (k : FRw u gl Pc Vm w N Wc m fi la xm lm cs) (hV : ∀ i, Vm' i → Vm i ∨ (i ∈ xm ∧ 500000 ≤ i ∧ ∀ s, i = 500000 + s → ¬ s ∈ xm)) (hvm : ∀ i, Vm i → Vm' i) (g : Sgm u 0 gl Vm' 1 o) (hn : FNm Wc cnt ins) (hq : Wc + cnt + 2 ≤ 200) (hw : 1 ≤ m → wd = nI la - nI (cs.length + o.length + 1)) : FRw u gl Pc Vm w N (Wc + cnt + 2) (m + 1) (if m = 0 then cs.length + o.length + 1 else fi) (cs.length + o.length + 1) (vmL Wc cnt ++ (Wc + cnt) :: xm) ((Wc + cnt) :: xm) (cs ++ (o ++ (em 69 (nI (Wc + cnt)) :: em 70 (nI (Wc + cnt)) :: wd :: ins))) := by
  obtain ⟨⟨k1, ⟨k2, k2'⟩, k3⟩, kx, kl', kk⟩ := k
  obtain ⟨g1, g2⟩ := g
  have hl := FNm_l hn
  have hc1 := hn.1
  have bs : bsl = 1000000 := rfl
  have rk40 : RK = 40000 := rfl
  have el : (cs ++ (o ++ (em 69 (nI (Wc + cnt)) :: em 70 (nI (Wc + cnt)) :: wd :: ins))).length = cs.length + o.length + 3 + ins.length := by
    rw [List.length_append, List.length_append, List.length_cons, List.length_cons, List.length_cons]; omega
  have fi2 : (if m = 0 then cs.length + o.length + 1 else fi) + 2 ≤ cs.length + o.length + 3 ∧ (if m = 0 then cs.length + o.length + 1 else fi) ≤ cs.length + o.length + 1 := by
    by_cases z : m = 0
    · rw [if_pos z]; omega
    · rw [if_neg z]; have := k3 (by omega); omega
  refine ⟨⟨by omega, ⟨by rw [el]; omega, fun z => absurd z (by omega)⟩, fun _ => ⟨by rw [el]; omega, by rw [el]; omega, fi2.2⟩⟩, fun i hi => ?_, fun i hi => List.mem_append_right _ hi, fun O H nu R ρ β w2 c ms C ti eN no hD cn hR1 hR2 hρ hβ hw1 hw2 hN hC1 hC2 hC3 re hre => ?_⟩
  · rcases List.mem_append.1 hi with z | z
    · rw [vmL_m] at z; omega
    · rcases List.mem_cons.1 z with y | y
      · omega
      · have := kx i y; omega
  rw [el] at hR1 hN hC2 hre ⊢
  have hF := cn.1.2.2.1
  -- which places are told
  have cc : ∀ i, i < cs.length + o.length + 3 + ins.length → ¬ i = 1 → ¬ i = (if m = 0 then cs.length + o.length + 1 else fi) + 1 → C (N + i) = (cs ++ (o ++ (em 69 (nI (Wc + cnt)) :: em 70 (nI (Wc + cnt)) :: wd :: ins))).getD i 0 := fun i h1 h2 h3 => hC2 i h1 h2 (fun _ => h3)
  have f0 : ∀ i, i < cs.length + o.length + 2 → ¬ (1 ≤ m ∧ i = fi + 1) → ¬ i = (if m = 0 then cs.length + o.length + 1 else fi) + 1 := fun i h1 h2 h3 => by
    by_cases z : m = 0
    · rw [if_pos z] at h3; omega
    · rw [if_neg z] at h3; exact h2 ⟨by omega, h3⟩
  have f1 : ∀ i, cs.length ≤ i → i < cs.length + o.length + 2 → ¬ i = (if m = 0 then cs.length + o.length + 1 else fi) + 1 := fun i h1 h2 => f0 i h2 (fun z => by have := k3 z.1; omega)
  have cE : ∀ i, i < o.length → C (N + cs.length + i) = o.getD i 0 := fun i hi => by
    rw [Nat.add_assoc, cc (cs.length + i) (by omega) (by omega) (f1 _ (by omega) (by omega)), gd_r, gd_l hi]
  have c69 : C (N + cs.length + o.length) = em 69 (nI (Wc + cnt)) := by
    rw [show N + cs.length + o.length = N + (cs.length + (o.length + 0)) by omega, cc _ (by omega) (by omega) (f1 _ (by omega) (by omega)), gd_r, gd_r]; rfl
  have c70 : C (N + cs.length + o.length + 1) = em 70 (nI (Wc + cnt)) := by
    rw [show N + cs.length + o.length + 1 = N + (cs.length + (o.length + 1)) by omega, cc _ (by omega) (by omega) (f1 _ (by omega) (by omega)), gd_r, gd_r]; rfl
  have cW : 1 ≤ m → C (N + cs.length + o.length + 1 + 1) = wd := fun hm => by
    rw [show N + cs.length + o.length + 1 + 1 = N + (cs.length + (o.length + 2)) by omega, cc _ (by omega) (by omega) (by rw [if_neg (by omega)]; have := k3 hm; omega), gd_r, gd_r]; rfl
  have cI : ∀ i, i < ins.length → C (N + cs.length + o.length + 3 + i) = ins.getD i 0 := fun i hi => by
    rw [show N + cs.length + o.length + 3 + i = N + (cs.length + (o.length + (i + 3))) by omega, cc _ (by omega) (by omega) (by
      by_cases z : m = 0
      · rw [if_pos z]; omega
      · rw [if_neg z]; have := k3 (by omega); omega), gd_r, gd_r]; rfl
  -- the row so far
  obtain ⟨D1, t1, e1, e2, e3⟩ := kk O H nu R ρ β w2 c ms C ti eN no hD cn (by omega) hR2 hρ (by omega) (by omega) hw2 (by omega) hC1 (fun i hi h1 h2 => by
    rw [cc i (by omega) h1 (f0 i (by omega) (fun z => h2 z.1 z.2)), gd_l hi]) hC3 (R - cs.length) (Nat.le_refl _)
  have dU1 : ∀ q y', tcD c q = some y' → D1 q = some y' := fun q y' e => dd_of ti (fun q hq => e1 q (by omega)) q y' e
  have noq : ∀ q, N ≤ q → ¬ O q := no
  have xb : ∀ i, i ∈ xm → i < bsl ∧ w ≤ i % 500000 ∧ i % 500000 < w2 := fun i hi => by have := kx i hi; omega
  have cn1 : StC O u gl Pc Vm' nu c w2 (xm ++ ms) := StC_f cn (by omega) hw2 xb hV (StC_v cn) hvm
  have u42 := cn.1.2.1
  -- its exp
  obtain ⟨D2, t2, e4, e5⟩ := g2 O (fun q => H q ∨ (1 ≤ m ∧ q = N + fi)) nu (R - cs.length) (mkc c C (N + cs.length) D1) 0 [] w2 (xm ++ ms) C t1 (no _ (by show N ≤ N + cs.length; omega)) e2 nilp (CnC_k cn1.1 dU1) (by omega) (by omega) (by omega) (by show N + cs.length + o.length ≤ _; omega) (fun _ _ => rfl) cE
  have e5' : D2 (N + cs.length + o.length) = some (u, 1, (bsl + w2) :: (xm ++ ms), R - cs.length - o.length) := e5
  have t2' : TI O (fun q => H q ∨ (1 ≤ m ∧ q = N + fi)) nu (R - cs.length - o.length) (mkc c C (N + cs.length + o.length) D2) := t2
  have dU2 : ∀ q y', D1 q = some y' → D2 q = some y' := fun q y' e => dd_of t1 e4 q y' e
  have dU02 : ∀ q y', tcD c q = some y' → D2 q = some y' := fun q y' e => dU2 q y' (dU1 q y' e)
  -- marks
  have msw : ∀ i, i ∈ ms → i % 500000 < w := cn.2.2.1.2
  have amr : ∀ i, i ∈ (Wc + cnt) :: (xm ++ ms) → i < bsl ∧ ¬ i % 500000 = Wc + cnt + 1 := fun i hi => by
    rcases List.mem_cons.1 hi with z | z
    · rw [z]; omega
    · rcases List.mem_append.1 z with y | y
      · have := kx i y; omega
      · have := msw i y; have := st_bs cn i y; omega
  -- FOR_ITER
  have t3 : TI O (fun q => H q ∨ (1 ≤ m ∧ q = N + fi)) nu (R - cs.length - o.length - 1) (mkc c C (N + cs.length + o.length + 1) (up1 (mkc c C (N + cs.length + o.length) D2) 1 (u, 0, (bsl + w2) :: ((Wc + cnt) :: (xm ++ ms)), β + m + 1))) := TI_s1 (c := mkc c C (N + cs.length + o.length) D2) t2' (no _ (by show N ≤ N + cs.length + o.length; omega)) (Nat.le_refl _) (by show N + cs.length + o.length + 1 ≤ _; omega) (fun _ _ => rfl) (fun y ey => by
    have ey' : D2 (N + cs.length + o.length) = some y := ey
    rw [e5'] at ey'
    cases ey'
    have ue : up1 (mkc c C (N + cs.length + o.length) D2) 1 (u, 0, (bsl + w2) :: ((Wc + cnt) :: (xm ++ ms)), β + m + 1) (N + cs.length + o.length + 1) = some (u, 0, (bsl + w2) :: ((Wc + cnt) :: (xm ++ ms)), β + m + 1) := up1_e (c := mkc c C (N + cs.length + o.length) D2)
    exact OKq_of (op := 69) (x := nI (Wc + cnt)) (up1_d t2' (Nat.le_refl _) e5') (no _ (by show N ≤ N + cs.length + o.length; omega)) u42 (Nat.le_refl _) (by omega) (by decide) (Nat.le_refl _) (by show C (N + cs.length + o.length) &&& 255 = _; rw [c69]; exact em_lo (by decide)) (by show C (N + cs.length + o.length) >>> ((8 : Int32) &&& 31) = _; rw [c69]; exact em_hi (by decide) (Sm3_n (by omega))) (fun c' a' hc ro => OKI_4 (by decide) ⟨by decide, by rw [u_n (by omega)]; omega, by
      rw [u_n (by omega)]
      have eF0 := tF_of a' cn.1.1
      have eF : tcF c' u = tcF c u := eF0
      exact ⟨fun z => absurd z (by decide), fun z => absurd z (by decide), fun z => absurd z (by decide), fun z => absurd z (by decide), fun z => absurd z (by decide), fun _ => ⟨tS_of a' cn.1.1 cn.2.1.1, sh_slb (w := w2) (ms := xm ++ ms) []⟩, fun _ => ⟨0, (bsl + w2) :: ((Wc + cnt) :: (xm ++ ms)), rfl, by rw [eF, bt_s]; omega, by rw [bt_s]; omega, by rw [eF]; omega, sh_mrl (w := w2) (ms := xm ++ ms) [] nilp (fun i hi => by
        rcases List.mem_cons.1 hi with z | z
        · exact Or.inl z
        · exact Or.inr z), shAll (w := w2) (ms := (Wc + cnt) :: (xm ++ ms)) [] nilp (fun i hi _ => (amr i hi).2), sh_slb (w := w2) (ms := (Wc + cnt) :: (xm ++ ms)) [], nx_of a' cn.1.1 ue (no _ (by show N ≤ N + cs.length + o.length + 1; omega)) (Rsh_r _ _) (by rw [bt_s]; show tcF c u ≤ w2; omega) (by rw [bt_s]; show tcF c u ≤ w2; omega) (by omega)⟩, fun z => absurd z (by decide), fun z => absurd z (by decide), fun z => absurd z (by decide), fun z => absurd z (by decide)⟩⟩)) (by omega)
  generalize hD3 : up1 (mkc c C (N + cs.length + o.length) D2) 1 (u, 0, (bsl + w2) :: ((Wc + cnt) :: (xm ++ ms)), β + m + 1) = D3 at t3
  have dU3 : ∀ q y', D2 q = some y' → D3 q = some y' := fun q y' e => by rw [← hD3]; exact up1_d t2' (Nat.le_refl _) e
  have m3 : D3 (N + cs.length + o.length + 1) = some (u, 0, (bsl + w2) :: ((Wc + cnt) :: (xm ++ ms)), β + m + 1) := by rw [← hD3]; exact up1_e (c := mkc c C (N + cs.length + o.length) D2)
  have o3 : ∀ q, q ≤ N + cs.length + o.length → D3 q = D2 q := fun q hq => by rw [← hD3]; exact up1_o (by show ¬ q = N + cs.length + o.length + 1; omega)
  -- FOR_NEXT
  have t4 : TI O (fun q => (H q ∨ (1 ≤ m ∧ q = N + fi)) ∨ (q = N + cs.length + o.length + 1 ∧ m = 0)) nu (R - cs.length - o.length - 3) (mkc c C (N + cs.length + o.length + 1 + 2) (up1 (mkc c C (N + cs.length + o.length + 1) D3) 2 (u, 1, (bsl + w2) :: ((Wc + cnt) :: (xm ++ ms)), R - cs.length - o.length - 3))) := by
    refine TI_em (ln := 2) (c := mkc c C (N + cs.length + o.length + 1) D3) (y := some (u, 1, (bsl + w2) :: ((Wc + cnt) :: (xm ++ ms)), R - cs.length - o.length - 3)) (Hn := m = 0) (On := False) t3 (by decide) (by show N + cs.length + o.length + 1 + 2 ≤ _; omega) (fun _ _ => rfl) rfl ⟨⟨rfl, rfl⟩, rfl, rfl⟩ (fun q => rfl) (fun q => ⟨Or.inl, fun z => z.elim id (fun w => w.2.elim)⟩) (fun z => z.elim) (fun q => Iff.rfl) (fun z => absurd z (no _ (by show N ≤ N + cs.length + o.length + 1; omega))) (fun hm y ey => ?_) (by omega)
    have ey' : D3 (N + cs.length + o.length + 1) = some y := ey
    rw [m3] at ey'
    cases ey'
    have hm1 : 1 ≤ m := by omega
    obtain ⟨_, eL⟩ := e3 hm1
    have l3 := k3 hm1
    have dU : ∀ q y', D3 q = some y' → up1 (mkc c C (N + cs.length + o.length + 1) D3) 2 (u, 1, (bsl + w2) :: ((Wc + cnt) :: (xm ++ ms)), R - cs.length - o.length - 3) q = some y' := fun q y' e => up1_d t3 (by decide) e
    have ue : up1 (mkc c C (N + cs.length + o.length + 1) D3) 2 (u, 1, (bsl + w2) :: ((Wc + cnt) :: (xm ++ ms)), R - cs.length - o.length - 3) (N + cs.length + o.length + 1 + 2) = some (u, 1, (bsl + w2) :: ((Wc + cnt) :: (xm ++ ms)), R - cs.length - o.length - 3) := up1_e (c := mkc c C (N + cs.length + o.length + 1) D3)
    have eL' := dU _ _ (dU3 _ _ (dU2 _ _ eL))
    exact OKq_of (op := 70) (x := nI (Wc + cnt)) (dU _ _ m3) (no _ (by show N ≤ N + cs.length + o.length + 1; omega)) u42 (by show N + cs.length + o.length + 1 + 1 ≤ N + cs.length + o.length + 1 + 2; omega) (by omega) (by decide) (by decide) (by show C (N + cs.length + o.length + 1) &&& 255 = _; rw [c70]; exact em_lo (by decide)) (by show C (N + cs.length + o.length + 1) >>> ((8 : Int32) &&& 31) = _; rw [c70]; exact em_hi (by decide) (Sm3_n (by omega))) (fun c' a' hc ro => OKI_4 (by decide) ⟨by decide, by rw [u_n (by omega)]; omega, by
      rw [u_n (by omega)]
      have eF0 := tF_of a' cn.1.1
      have eF : tcF c' u = tcF c u := eF0
      have n1 : N + cs.length + o.length + 1 + 2 ≤ tcN c' := a'.1
      have cw : tcC c' (N + cs.length + o.length + 1 + 1) = nI la - nI (cs.length + o.length + 1) := ((hc (N + cs.length + o.length + 1 + 1) (by show N + cs.length + o.length + 1 ≤ _; omega) (by show _ < N + cs.length + o.length + 1 + 2; omega)).trans (cW hm1)).trans (hw hm1)
      have tg := tg_b (N := N) (a := la) (b := cs.length + o.length + 1) (by omega) (by omega)
      exact ⟨fun z => absurd z (by decide), fun z => absurd z (by decide), fun z => absurd z (by decide), fun z => absurd z (by decide), fun z => absurd z (by decide), fun _ => ⟨tS_of a' cn.1.1 cn.2.1.1, sh_slb (w := w2) (ms := (Wc + cnt) :: (xm ++ ms)) []⟩, fun z => absurd z (by decide), fun _ => ⟨(bsl + w2) :: (lm ++ ms), sh_has (w := w2) (ms := (Wc + cnt) :: (xm ++ ms)) [] nilp List.mem_cons_self, by rw [bt_s]; omega, by rw [eF]; omega, shAll (w := w2) (ms := (Wc + cnt) :: (xm ++ ms)) [] nilp (fun i hi _ => (amr i hi).2), by show N + cs.length + o.length + 1 + 1 < _; omega, sh_mrl (w := w2) (ms := (Wc + cnt) :: (xm ++ ms)) [] nilp (fun i hi => by
        rcases List.mem_append.1 hi with z | z
        · exact List.mem_cons_of_mem _ (List.mem_append_left _ (kl' i z))
        · exact List.mem_cons_of_mem _ (List.mem_append_right _ z)), by
        show Nx c' (uN (nI (N + cs.length + o.length + 1) + tcC c' (N + cs.length + o.length + 1 + 1))) u 0 _ _
        rw [cw, show N + cs.length + o.length + 1 = N + (cs.length + o.length + 1) by omega, tg]
        exact nx_of a' cn.1.1 eL' (no _ (by show N ≤ N + la; omega)) (Rsh_r _ _) (by rw [bt_s]; show tcF c u ≤ w2; omega) (by rw [bt_s]; show tcF c u ≤ w2; omega) (by omega), nxS_of a' cn.1.1 ue (no _ (by show N ≤ N + cs.length + o.length + 1 + 2; omega)) (Rsh_r _ _) (by rw [bt_s]; show tcF c u ≤ w2; omega) (by rw [bt_s]; show tcF c u ≤ w2; omega) (by omega)⟩, fun z => absurd z (by decide), fun z => absurd z (by decide), fun z => absurd z (by decide)⟩⟩)
  generalize hD4 : up1 (mkc c C (N + cs.length + o.length + 1) D3) 2 (u, 1, (bsl + w2) :: ((Wc + cnt) :: (xm ++ ms)), R - cs.length - o.length - 3) = D4 at t4
  have dU4 : ∀ q y', D3 q = some y' → D4 q = some y' := fun q y' e => by rw [← hD4]; exact up1_d t3 (by decide) e
  have m4 : D4 (N + cs.length + o.length + 1 + 2) = some (u, 1, (bsl + w2) :: ((Wc + cnt) :: (xm ++ ms)), R - cs.length - o.length - 3) := by rw [← hD4]; exact up1_e (c := mkc c C (N + cs.length + o.length + 1) D3)
  have o4 : ∀ q, q ≤ N + cs.length + o.length + 1 → D4 q = D3 q := fun q hq => by rw [← hD4]; exact up1_o (by show ¬ q = N + cs.length + o.length + 1 + 2; omega)
  have z4 : D4 (N + cs.length + o.length + 1 + 1) = none := by
    rw [← hD4, up1_o (by show ¬ N + cs.length + o.length + 1 + 1 = N + cs.length + o.length + 1 + 2; omega)]
    exact t3.2.2.2.1 _ (by show N + cs.length + o.length + 1 < _; omega)
  -- the names
  have dU04 : ∀ q y', tcD c q = some y' → D4 q = some y' := fun q y' e => dU4 q y' (dU3 q y' (dU02 q y' e))
  have xb2 : ∀ i, i ∈ (Wc + cnt) :: xm → i < bsl ∧ w ≤ i % 500000 ∧ i % 500000 < w2 := fun i hi => by
    rcases List.mem_cons.1 hi with z | z
    · omega
    · exact xb i z
  have cn4 : StC O u gl Pc Vm nu (mkc c C (N + cs.length + o.length + 1 + 2) D4) w2 (((Wc + cnt) :: xm) ++ ms) := StC_k (StC_f cn (by omega) hw2 xb2 (fun i hi => Or.inl hi) (StC_v cn) (fun i hi => hi)) dU04
  have t5 := Is_fn (a := Wc) (C := C) (re := re) (by omega) hn t4 (fun q hq => no q (by have : N + cs.length + o.length + 1 + 2 ≤ q := hq; omega)) m4 cn4 (by omega) (fun i hi z => by
    rcases List.mem_cons.1 hi with v | v
    · omega
    · rcases List.mem_append.1 v with y | y
      · have := kx i y; omega
      · have := msw i y; have := st_bs cn i y; omega) (by omega) (by omega) (by show N + cs.length + o.length + 1 + 2 + ins.length ≤ _; omega) (fun _ _ => rfl) (fun i hi => by
    show C (N + cs.length + o.length + 1 + 2 + i) = _
    rw [show N + cs.length + o.length + 1 + 2 + i = N + cs.length + o.length + 3 + i by omega]; exact cI i hi)
  generalize hD5 : up1 (mkc c C (N + cs.length + o.length + 1 + 2) D4) ins.length (u, 0, (bsl + w2) :: (vmL Wc cnt ++ (Wc + cnt) :: (xm ++ ms)), re) = D5 at t5
  have dU5 : ∀ q y', D4 q = some y' → D5 q = some y' := fun q y' e => by rw [← hD5]; exact up1_d t4 hl.1 e
  have m5 : D5 (N + cs.length + o.length + 1 + 2 + ins.length) = some (u, 0, (bsl + w2) :: (vmL Wc cnt ++ (Wc + cnt) :: (xm ++ ms)), re) := by rw [← hD5]; exact up1_e (c := mkc c C (N + cs.length + o.length + 1 + 2) D4)
  have o5 : ∀ q, q ≤ N + cs.length + o.length + 1 + 2 → D5 q = D4 q := fun q hq => by rw [← hD5]; exact up1_o (by show ¬ q = N + cs.length + o.length + 1 + 2 + ins.length; omega)
  have eT : N + cs.length + o.length + 1 + 2 + ins.length = N + (cs.length + o.length + 3 + ins.length) := by omega
  have t5' : TI O (fun q => (H q ∨ (1 ≤ m ∧ q = N + fi)) ∨ (q = N + cs.length + o.length + 1 ∧ m = 0)) nu (R - cs.length - o.length - 3 - ins.length) (mkc c C (N + cs.length + o.length + 1 + 2 + ins.length) D5) := t5
  rw [eT] at t5' m5
  have eR : R - (cs.length + o.length + 3 + ins.length) = R - cs.length - o.length - 3 - ins.length := sub4 _ _ _ _
  have eM : vmL Wc cnt ++ (Wc + cnt) :: xm ++ ms = vmL Wc cnt ++ (Wc + cnt) :: (xm ++ ms) := List.append_assoc _ _ _
  have eq1 : D5 (N + (cs.length + o.length + 1)) = some (u, 0, (bsl + w2) :: ((Wc + cnt) :: (xm ++ ms)), β + m + 1) := by
    rw [show N + (cs.length + o.length + 1) = N + cs.length + o.length + 1 by omega]
    exact dU5 _ _ (dU4 _ _ m3)
  rw [eR, eM]
  refine ⟨D5, TI_h t5' (fun q => ?_), fun q hq => ?_, m5, fun _ => ⟨?_, eq1⟩⟩
  · by_cases z : m = 0
    · rw [if_pos z]
      constructor
      · rintro (y | y)
        · exact Or.inl (Or.inl y)
        · exact Or.inr ⟨by omega, z⟩
      · rintro ((y | y) | y)
        · exact Or.inl y
        · omega
        · exact Or.inr ⟨by omega, by omega⟩
    · rw [if_neg z]
      constructor
      · rintro (y | y)
        · exact Or.inl (Or.inl y)
        · exact Or.inl (Or.inr ⟨by omega, y.2⟩)
      · rintro ((y | y) | y)
        · exact Or.inl y
        · exact Or.inr ⟨by omega, y.2⟩
        · exact absurd y.2 z
  · exact (o5 q (by omega)).trans ((o4 q (by omega)).trans ((o3 q (by omega)).trans ((e4 q (by show q ≤ N + cs.length; omega)).trans (e1 q hq))))
  · by_cases z : m = 0
    · rw [if_pos z]
      have xe := k2' z
      refine ⟨Wc + cnt, ⟨?_, by omega, by omega⟩, ?_, ?_, R - cs.length - o.length - 3, by omega, ?_⟩
      · rw [show N + (cs.length + o.length + 1) = N + cs.length + o.length + 1 by omega]; exact c70
      · rw [eq1, z, xe]
      · rw [show N + (cs.length + o.length + 1) + 1 = N + cs.length + o.length + 1 + 1 by omega, o5 _ (by omega)]; exact z4
      · rw [show N + (cs.length + o.length + 1) + 2 = N + cs.length + o.length + 1 + 2 by omega, o5 _ (Nat.le_refl _), m4, xe]
    · rw [if_neg z]
      obtain ⟨⟨n1, ⟨a1, a2, a3⟩, a4, a5, rk, a6, a7⟩, _⟩ := e3 (by omega)
      have l3 := k3 (by omega)
      have up : ∀ q, q ≤ N + cs.length → D5 q = D1 q := fun q hq => (o5 q (by omega)).trans ((o4 q (by omega)).trans ((o3 q (by omega)).trans (e4 q hq)))
      exact ⟨n1, ⟨a1, a2, by omega⟩, (up _ (by omega)).trans a4, (up _ (by omega)).trans a5, rk, a6, (up _ (by omega)).trans a7⟩
end CWP
