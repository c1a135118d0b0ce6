/-! The class: rows of iters within exps, typed. -/
section CUV
variable {c c' c1 c2 : Ct} {O O' H H' : Nat → Prop} {u nu nu' pc ln R R' p p' d rk k op w n m m' q t t' cnt : Nat} {r pre ms ms' xm : List Nat} {x v wd : Int32} {Vm Vm' : Nat → Prop} {cs ins o as : List Int32} {gl : Nat × (Nat → Nat → Prop)} {C : Nat → Int32} {y : Nat × Nat × List Nat × Nat} {nl : List (Nat × Nat × List Nat)}
theorem shRsh (d : Nat) (hp : ∀ e, e ∈ pre → e < bsl) (h : ∀ i, i ∈ ms' → i ∈ ms) : Rsh d (sh pre w ms) d (sh pre w ms') := ⟨fun K lo hi z => SL_sb (Q := fun i s => i ∈ s) (fun i s q _ => q) _ _ _ _ (sh_mrl pre hp h) z, fun K pb m z => PaM_mr (Q := fun i s => i ∈ s) (fun i s q _ => Or.inl ⟨q, rfl⟩) _ _ (sh_mrl pre hp h) z⟩
/-- marks of names: they hold values -/
def nmL (n : Nat) : Nat → List Nat
  | 0 => []
  | k + 1 => (bsl + 500000 + n + k) :: nmL n k
theorem nmL_m {n : Nat} : ∀ (k i : Nat), i ∈ nmL n k ↔ bsl + 500000 + n ≤ i ∧ i < bsl + 500000 + n + k
  | 0, i => ⟨fun h => absurd h List.not_mem_nil, fun h => absurd h.2 (by omega)⟩
  | k + 1, i => by
    show i ∈ (bsl + 500000 + n + k) :: nmL n k ↔ _
    rw [List.mem_cons, nmL_m k i]
    omega
/-- a NEXT and what lies behind it -/
def NxE (u N d : Nat) (pre : List Nat) (w : Nat) (ms : List Nat) (D : Nat → Option (Nat × Nat × List Nat × Nat)) (e : Nat × Nat × List Nat) : Prop := (∃ rk, D (N + e.1) = some (u, d, sh pre w ((bsl + e.2.1) :: (e.2.2 ++ ms)), rk)) ∧ D (N + e.1 + 1) = none ∧ ∃ rk, rk ≤ RK ∧ D (N + e.1 + 2) = some (u, d + 1, sh pre w ((bsl + e.2.1) :: (e.2.2 ++ ms)), rk)
/-- a row of NEXTs, the newest first: place, slot, marks before it -/
def RwL (p : Nat) (cs : List Int32) : List (Nat × Nat × List Nat) → Prop
  | [] => True
  | e :: nl => e.1 + 2 ≤ cs.length ∧ cs.getD e.1 0 = em 65 (nI e.2.1) ∧ (p ≤ e.2.1 ∧ e.2.1 + 1 < 180) ∧ (∀ i, i ∈ e.2.2 → bsl ≤ i ∧ (i - bsl) % 500000 < e.2.1) ∧ (∀ f, f ∈ nl → f.1 + 2 ≤ e.1) ∧ (∀ f nl', nl = f :: nl' → cs.getD (e.1 + 1) 0 = nI f.1 - nI e.1 ∧ ∀ i, i = bsl + f.2.1 ∨ i ∈ f.2.2 → i ∈ e.2.2) ∧ RwL p cs nl
theorem RwL_le : ∀ nl : List (Nat × Nat × List Nat), RwL p cs nl → ∀ e, e ∈ nl → e.1 + 2 ≤ cs.length
  | [], _, e, h => absurd h List.not_mem_nil
  | f :: nl, z, e, h => by
    rcases List.mem_cons.1 h with q | q
    · rw [q]; exact z.1
    · exact RwL_le nl z.2.2.2.2.2.2 e q
theorem RwL_ap : ∀ nl : List (Nat × Nat × List Nat), RwL p cs nl → RwL p (cs ++ o) nl
  | [], _ => trivial
  | e :: nl, z => by
    obtain ⟨z1, z2, z3, z4, z5, z6, z7⟩ := z
    refine ⟨by rw [List.length_append]; omega, by rw [gd_l (by omega)]; exact z2, z3, z4, z5, fun f nl' h => ?_, RwL_ap nl z7⟩
    rw [gd_l (by omega)]
    exact z6 f nl' h
def Row (u p : Nat) (gl : Nat × (Nat → Nat → Prop)) (Vm : Nat → Prop) (p' : Nat) (xm : List Nat) (nl : List (Nat × Nat × List Nat)) (cs : List Int32) : Prop := (p ≤ p' ∧ p' ≤ 180) ∧ (∀ i, i ∈ xm → bsl ≤ i ∧ (i - bsl) % 500000 < p') ∧ 2 * nl.length ≤ cs.length ∧ RwL p cs nl ∧ ∀ (O H : Nat → Prop) (nu R : Nat) (c : Ct) (d : Nat) (pre : List Nat) (w : Nat) (ms : List Nat) (C : Nat → Int32), TI O H nu R c → ¬ O (tcN c) → tcD c (tcN c) = some (u, d, sh pre w ms, R) → (∀ e, e ∈ pre → e < bsl) → CnC O u p gl Vm nu c w ms → 1000 + cs.length ≤ R → R ≤ RK → d + cs.length ≤ 100000 → tcN c + cs.length ≤ 36864 → (∀ i, i < tcN c → C i = tcC c i) → (∀ i, i < cs.length → (∀ e, e ∈ nl → ¬ i = e.1 + 1) → C (tcN c + i) = cs.getD i 0) → ∃ D, TI (fun q => O q ∨ ∃ e, e ∈ nl ∧ q = tcN c + e.1) (fun q => H q ∨ ∃ e, e ∈ nl ∧ q = tcN c + e.1) nu (R - cs.length + nl.length) (mkc c C (tcN c + cs.length) D) ∧ (∀ q, q ≤ tcN c → D q = tcD c q) ∧ D (tcN c + cs.length) = some (u, d, sh pre w (xm ++ ms), R - cs.length + nl.length) ∧ ∀ e, e ∈ nl → NxE u (tcN c) d pre w ms D e
theorem TI_oh (t : TI O H nu R c) (ho : ∀ q, O' q ↔ O q) (h : ∀ q, H' q ↔ H q) : TI O' H' nu R c := by
  have e1 : O' = O := funext (fun q => propext (ho q))
  have e2 : H' = H := funext (fun q => propext (h q))
  rw [e1, e2]; exact t
theorem Row_0 (hp : p ≤ 180) : Row u p gl Vm p [] [] [] := by
  refine ⟨⟨Nat.le_refl _, hp⟩, fun i h => absurd h List.not_mem_nil, Nat.le_refl _, trivial, fun O H nu R c d pre w ms C ti no hD hp cn hR1 hR2 hd hN hC1 hC2 => ?_⟩
  obtain ⟨D, a1, a2, a3⟩ := (Sgm_nil u p gl Vm).2 O H nu R c d pre w ms C ti no hD hp cn hR1 hR2 hd hN hC1 (fun i hi => hC2 i hi (fun e h => absurd h List.not_mem_nil))
  exact ⟨D, TI_oh a1 (fun q => ⟨fun z => z.elim id (fun ⟨e, h, _⟩ => absurd h List.not_mem_nil), Or.inl⟩) (fun q => ⟨fun z => z.elim id (fun ⟨e, h, _⟩ => absurd h List.not_mem_nil), Or.inl⟩), a2, a3, fun e h => absurd h List.not_mem_nil⟩
/-- the names take what is before them: NAME or NAMES -/
def Nms (n cnt : Nat) (ins : List Int32) : Prop := 1 ≤ cnt ∧ ((cnt = 1 ∧ ins = [em 66 (nI n)]) ∨ ins = [em 67 (nI n), nI cnt])
theorem Nms_l (h : Nms n cnt ins) : 1 ≤ ins.length ∧ ins.length ≤ 2 := by
  rcases h.2 with ⟨_, e⟩ | e
  · rw [e]; exact ⟨Nat.le_refl _, by show 1 ≤ 2; decide⟩
  · rw [e]; exact ⟨by show 1 ≤ 2; decide, Nat.le_refl _⟩
theorem Row_ad (h : Row u p gl Vm p' xm nl cs) (hV : ∀ i, Vm' i → Vm i ∨ i ∈ xm) (g : Sgm u (p' + cnt) gl Vm' 1 o) (hq : p' + cnt + 2 ≤ 180) (hn : Nms p' cnt ins) (hw : ∀ f nl', nl = f :: nl' → wd = nI f.1 - nI (cs.length + o.length + 1) ∧ ∀ i, i = bsl + f.2.1 ∨ i ∈ f.2.2 → i ∈ xm) : Row u p gl Vm (p' + cnt + 2) (nmL p' cnt ++ (bsl + (p' + cnt)) :: xm) ((cs.length + o.length + 1, p' + cnt, xm) :: nl) (cs ++ (o ++ (em 64 (nI (p' + cnt)) :: em 65 (nI (p' + cnt)) :: wd :: ins))) := by
  obtain ⟨⟨p1, p2⟩, x1, l1, rl, h1⟩ := h
  obtain ⟨g1, g2⟩ := g
  obtain ⟨i1, i2⟩ := Nms_l hn
  have bs : bsl = 1000000 := rfl
  have rk40 : RK = 40000 := rfl
  have el : (cs ++ (o ++ (em 64 (nI (p' + cnt)) :: em 65 (nI (p' + cnt)) :: wd :: ins))).length = cs.length + (o.length + (ins.length + 3)) := by
    rw [List.length_append, List.length_append]; rfl
  have hc1 := hn.1
  refine ⟨⟨by omega, hq⟩, fun i hi => ?_, ?_, ?_, fun O H nu R c d pre w ms C ti no hD hp cn hR1 hR2 hd hN hC1 hC2 => ?_⟩
  · rcases List.mem_append.1 hi with z | z
    · rw [nmL_m] at z; omega
    · rcases List.mem_cons.1 z with y | y
      · rw [y]; omega
      · have := x1 i y; omega
  · rw [el]; show 2 * (nl.length + 1) ≤ _; omega
  · refine ⟨by rw [el]; show cs.length + o.length + 1 + 2 ≤ _; omega, ?_, ⟨by show p ≤ p' + cnt; omega, by show p' + cnt + 1 < 180; omega⟩, fun i hi => ?_, fun f hf => ?_, fun f nl' e => ?_, RwL_ap nl rl⟩
    · show (cs ++ (o ++ (em 64 (nI (p' + cnt)) :: em 65 (nI (p' + cnt)) :: wd :: ins))).getD (cs.length + o.length + 1) 0 = _
      rw [Nat.add_assoc, gd_r, gd_r]; rfl
    · have := x1 i hi
      show bsl ≤ i ∧ (i - bsl) % 500000 < p' + cnt
      omega
    · have := RwL_le nl rl f hf
      show f.1 + 2 ≤ cs.length + o.length + 1
      omega
    · refine ⟨?_, (hw f nl' e).2⟩
      show (cs ++ (o ++ (em 64 (nI (p' + cnt)) :: em 65 (nI (p' + cnt)) :: wd :: ins))).getD (cs.length + o.length + 1 + 1) 0 = _
      rw [show cs.length + o.length + 1 + 1 = cs.length + (o.length + 2) from by omega, gd_r, gd_r]
      exact (hw f nl' e).1
  rw [el] at hR1 hd hN hC2 ⊢
  have nO := noO_ge ti no
  have ne : ∀ i, i < cs.length → (∀ e, e ∈ nl → ¬ i = e.1 + 1) → ∀ e, e ∈ ((cs.length + o.length + 1, p' + cnt, xm) :: nl) → ¬ i = e.1 + 1 := fun i hi z e he => by
    rcases List.mem_cons.1 he with y | y
    · rw [y]; show ¬ i = cs.length + o.length + 1 + 1; omega
    · exact z e y
  have nf : ∀ i, cs.length ≤ i → ¬ i = cs.length + o.length + 2 → ∀ e, e ∈ ((cs.length + o.length + 1, p' + cnt, xm) :: nl) → ¬ i = e.1 + 1 := fun i hi z e he => by
    rcases List.mem_cons.1 he with y | y
    · rw [y]; show ¬ i = cs.length + o.length + 1 + 1; omega
    · have := RwL_le nl rl e y; omega
  obtain ⟨D1, t1, e1, f1, k1⟩ := h1 O H nu R c d pre w ms C ti no hD hp cn (by omega) hR2 (by omega) (by omega) hC1 (fun i hi hh => by rw [hC2 i (by omega) (ne i hi hh), gd_l hi])
  have nO1 : ∀ q, tcN c + cs.length ≤ q → ¬ (O q ∨ ∃ e, e ∈ nl ∧ q = tcN c + e.1) := fun q hq z => by
    rcases z with z | ⟨e, he, z⟩
    · exact nO q (by omega) z
    · have := RwL_le nl rl e he; omega
  have dU1 : ∀ q y', tcD c q = some y' → D1 q = some y' := dd_of ti e1
  have cn1 : CnC (fun q => O q ∨ ∃ e, e ∈ nl ∧ q = tcN c + e.1) u (p' + cnt) gl Vm' nu (mkc c C (tcN c + cs.length) D1) w (xm ++ ms) := by
    obtain ⟨a1, a2, a3, a4, a5, a6, a7, a8⟩ := CnC_k (C := C) (N := tcN c + cs.length) cn dU1
    refine ⟨a1, a2, a3, a4, by omega, fun i hi hb => ?_, fun i hi => ?_, ?_⟩
    · rcases List.mem_append.1 hi with z | z
      · have := x1 i z; omega
      · have := a6 i z hb; omega
    · rcases hV i hi with z | z
      · exact List.mem_append_right _ (a7 i z)
      · exact List.mem_append_left _ z
    · intro v v1 v2 kv
      obtain ⟨b1, b2, b3, b4, rk, b5, b6⟩ := a8 v v1 v2 kv
      refine ⟨b1, b2, b3, fun z => ?_, rk, b5, b6⟩
      rcases z with z | ⟨e, he, z⟩
      · exact b4 z
      · obtain ⟨_, _, _, _, rk', _, g6⟩ := cn.2.2.2.2.2.2.2 v v1 v2 kv
        have g6' : tcD c (tcE c v) = some (v, 0, (bsl + tcF c v) :: Vl (tcF c v), rk') := g6
        have z' : tcE c v = tcN c + e.1 := z
        rcases Nat.lt_or_ge (tcN c) (tcE c v) with y | y
        · rw [ti.2.2.2.1 _ y] at g6'; cases g6'
        · have e0 : e.1 = 0 := by omega
          obtain ⟨⟨rk2, k2⟩, _⟩ := k1 e he
          rw [e0] at k2
          have k3 : D1 (tcN c) = _ := k2
          rw [e1 _ (Nat.le_refl _), hD] at k3
          have k4 := congrArg (fun s => match s with | some s => s.2.2.1 | none => []) k3
          have k5 : sh pre w ms = sh pre w ((bsl + e.2.1) :: (e.2.2 ++ ms)) := k4
          have k6 := congrArg List.length k5
          rw [List.length_append, List.length_append, List.length_cons, List.length_cons, List.length_cons, List.length_append] at k6
          omega
  obtain ⟨D2, t2, e2, f2⟩ := g2 (fun q => O q ∨ ∃ e, e ∈ nl ∧ q = tcN c + e.1) (fun q => H q ∨ ∃ e, e ∈ nl ∧ q = tcN c + e.1) nu (R - cs.length + nl.length) (mkc c C (tcN c + cs.length) D1) d pre w (xm ++ ms) C t1 (nO1 _ (Nat.le_refl _)) f1 hp cn1 (by omega) (by omega) (by omega) (by show tcN c + cs.length + o.length ≤ _; omega) (fun _ _ => rfl) (fun i hi => by
    show C (tcN c + cs.length + i) = _
    rw [Nat.add_assoc, hC2 _ (by omega) (nf _ (by omega) (by omega)), gd_r, gd_l hi])
  have t2' : TI (fun q => O q ∨ ∃ e, e ∈ nl ∧ q = tcN c + e.1) (fun q => H q ∨ ∃ e, e ∈ nl ∧ q = tcN c + e.1) nu (R - cs.length + nl.length - o.length) (mkc c C (tcN c + cs.length + o.length) D2) := t2
  have f2' : D2 (tcN c + cs.length + o.length) = some (u, d + 1, sh pre w (xm ++ ms), R - cs.length + nl.length - o.length) := f2
  have dU2 : ∀ q y', D1 q = some y' → D2 q = some y' := fun q y' e => dd_of t1 e2 q y' e
  have cI : C (tcN c + cs.length + o.length) = em 64 (nI (p' + cnt)) := by
    have z := hC2 (cs.length + (o.length + 0)) (by omega) (nf _ (by omega) (by omega))
    rw [gd_r, gd_r] at z
    rw [Nat.add_assoc]; exact z
  have cJ : ∀ i, i < ins.length → C (tcN c + cs.length + o.length + 1 + 2 + i) = ins.getD i 0 := fun i hi => by
    have z := hC2 (cs.length + (o.length + (i + 3))) (by omega) (nf _ (by omega) (by omega))
    rw [gd_r, gd_r] at z
    rw [show tcN c + cs.length + o.length + 1 + 2 + i = tcN c + (cs.length + (o.length + (i + 3))) from by omega, z]
    rfl
  generalize hs : tcN c + cs.length + o.length = s at *
  generalize hR' : R - cs.length + nl.length - o.length = Q at *
  have Q1 : 1000 + (ins.length + 3) ≤ Q := by omega
  have Q2 : Q ≤ RK := by omega
  let mS : List Nat := (bsl + (p' + cnt)) :: (xm ++ ms)
  let mT : List Nat := nmL p' cnt ++ mS
  let O2 : Nat → Prop := fun q => (O q ∨ ∃ e, e ∈ nl ∧ q = tcN c + e.1) ∨ (q = s + 1 ∧ True)
  let H2 : Nat → Prop := fun q => (H q ∨ ∃ e, e ∈ nl ∧ q = tcN c + e.1) ∨ (q = s + 1 ∧ True)
  let D3 : Nat → Option (Nat × Nat × List Nat × Nat) := fun q => if q = s + 1 then some (u, d, sh pre w mS, 0) else D2 q
  let D4 : Nat → Option (Nat × Nat × List Nat × Nat) := fun q => if q = s + 1 + 2 then some (u, d + 1, sh pre w mS, Q - 2) else D3 q
  let D5 : Nat → Option (Nat × Nat × List Nat × Nat) := fun q => if q = s + 1 + 2 + ins.length then some (u, d, sh pre w mT, Q - 2 - ins.length) else D4 q
  have nb2 : ∀ q, s < q → D2 q = none := fun q hq => t2'.2.2.2.1 q hq
  have d23 : ∀ q y', D2 q = some y' → D3 q = some y' := fun q y' e => by
    show (if q = s + 1 then _ else D2 q) = _
    rw [if_neg (fun z => by rw [z, nb2 _ (by omega)] at e; cases e)]; exact e
  have d34 : ∀ q y', D3 q = some y' → D4 q = some y' := fun q y' e => by
    show (if q = s + 1 + 2 then _ else D3 q) = _
    rw [if_neg (fun z => by
      rw [z] at e
      have e' : (if s + 1 + 2 = s + 1 then some (u, d, sh pre w mS, 0) else D2 (s + 1 + 2)) = some y' := e
      rw [if_neg (by omega), nb2 _ (by omega)] at e'; cases e')]; exact e
  have d45 : ∀ q y', D4 q = some y' → D5 q = some y' := fun q y' e => by
    show (if q = s + 1 + 2 + ins.length then _ else D4 q) = _
    rw [if_neg (fun z => by
      rw [z] at e
      have e' : (if s + 1 + 2 + ins.length = s + 1 + 2 then some (u, d + 1, sh pre w mS, Q - 2) else if s + 1 + 2 + ins.length = s + 1 then some (u, d, sh pre w mS, 0) else D2 (s + 1 + 2 + ins.length)) = some y' := e
      rw [if_neg (by omega), if_neg (by omega), nb2 _ (by omega)] at e'; cases e')]; exact e
  have d3e : D3 (s + 1) = some (u, d, sh pre w mS, 0) := if_pos rfl
  have d4e : D4 (s + 1 + 2) = some (u, d + 1, sh pre w mS, Q - 2) := if_pos rfl
  have d5e : D5 (s + 1 + 2 + ins.length) = some (u, d, sh pre w mT, Q - 2 - ins.length) := if_pos rfl
  have cnF : tcF c u ≤ w := cn.2.2.1
  have hu := cn.1
  have btw : ∀ (X : List Nat) (d' : Nat), tcF c u ≤ bt d' (sh pre w X) := fun X d' => by rw [sh_bt pre _ hp]; exact cnF
  have all6 : ∀ i, i ∈ xm ++ ms → bsl ≤ i → (i - bsl) % 500000 < p' + cnt := cn1.2.2.2.2.2.1
  -- ITER
  have t3 : TI O2 (fun q => H q ∨ ∃ e, e ∈ nl ∧ q = tcN c + e.1) nu Q (mkc c C (s + 1) D3) := by
    refine TI_em (ln := 1) (y := some (u, d, sh pre w mS, 0)) (Hn := False) (On := True) t2' (Nat.le_refl _) (by show s + 1 ≤ _; omega) (fun _ _ => rfl) rfl ⟨⟨rfl, rfl⟩, rfl, rfl⟩ (fun q => rfl) (fun q => Iff.rfl) (fun _ => rfl) (fun q => ⟨Or.inl, fun z => z.elim id (fun w => w.2.elim)⟩) (fun o => nO1 _ (by show tcN c + cs.length ≤ s; omega) o) (fun _ y ey => ?_) (Nat.le_refl _)
    have ey' : D2 s = some y := ey
    rw [f2'] at ey'
    cases ey'
    have noS : ¬ O2 s := fun z => by
      rcases z with z | z
      · exact nO1 _ (by omega) z
      · omega
    refine OKq_of (O := O2) (op := 64) (x := nI (p' + cnt)) (d23 _ _ f2') noS cn.2.1 (Nat.le_refl _) (by omega) (by decide) (Nat.le_refl _) (by show C s &&& 255 = _; rw [cI]; exact em_lo (by decide)) (by show C s >>> ((8 : Int32) &&& 31) = _; rw [cI]; exact em_hi (by decide) (Sm3_n (by omega))) (fun c' a hc ro => OKI_4 (by decide) ⟨by decide, by rw [u_n (by omega)]; omega, ?_⟩)
    rw [u_n (by omega)]
    have tf := tF_of a hu
    exact ⟨fun _ => ⟨d, sh pre w mS, rfl, by rw [tf]; exact btw _ _, by omega, sh_mrl pre hp (fun i hi => (List.mem_cons.1 hi).elim Or.inl Or.inr), shAll pre hp (fun i hi hb => by
      rcases List.mem_cons.1 hi with z | z
      · rw [z]; omega
      · have := all6 i z hb; omega), nxO_of a hu ro d3e (Or.inr ⟨rfl, trivial⟩) (Rsh_r _ _) (btw _ _) (btw _ _) (Nat.le_refl _)⟩, fun z => absurd z (by decide), fun z => absurd z (by decide), fun z => absurd z (by decide), fun z => absurd z (by decide), fun z => absurd z (by decide), fun z => absurd z (by decide), fun z => absurd z (by decide), fun z => absurd z (by decide), fun z => absurd z (by decide), fun z => absurd z (by decide)⟩
  -- NEXT, its end still to be told
  have t4 : TI O2 H2 nu (Q - 2) (mkc c C (s + 1 + 2) D4) := TI_em (ln := 2) (y := some (u, d + 1, sh pre w mS, Q - 2)) (Hn := True) (On := False) t3 (by decide) (by show s + 1 + 2 ≤ _; omega) (fun _ _ => rfl) rfl ⟨⟨rfl, rfl⟩, rfl, rfl⟩ (fun q => rfl) (fun q => ⟨Or.inl, fun z => z.elim id (fun w => w.2.elim)⟩) (fun z => z.elim) (fun q => Iff.rfl) (fun _ => trivial) (fun z => absurd trivial z) (by omega)
  have noT : ∀ q, s + 1 < q → ¬ O2 q := fun q hq z => by
    rcases z with z | z
    · exact nO1 _ (by omega) z
    · omega
  -- NAME, NAMES
  have t5 : TI O2 H2 nu (Q - 2 - ins.length) (mkc c C (s + 1 + 2 + ins.length) D5) := by
    refine TI_em (ln := ins.length) (y := some (u, d, sh pre w mT, Q - 2 - ins.length)) (Hn := False) (On := False) t4 i1 (by show s + 1 + 2 + ins.length ≤ _; omega) (fun _ _ => rfl) rfl ⟨⟨rfl, rfl⟩, rfl, rfl⟩ (fun q => rfl) (fun q => ⟨Or.inl, fun z => z.elim id (fun w => w.2.elim)⟩) (fun z => z.elim) (fun q => ⟨Or.inl, fun z => z.elim id (fun w => w.2.elim)⟩) (fun o => noT _ (by show s + 1 < s + 1 + 2; omega) o) (fun _ y ey => ?_) (by omega)
    have ey' : D4 (s + 1 + 2) = some y := ey
    rw [d4e] at ey'
    cases ey'
    have cJ0 : C (s + 1 + 2) = ins.getD 0 0 := cJ 0 (by omega)
    have nxN : ∀ c' : Ct, CtG O2 u nu (mkc c C (s + 1 + 2 + ins.length) D5) c' → Nx c' (s + 1 + 2 + ins.length) u d (sh pre w mT) (Q - 2) := fun c' a => nx_of a hu d5e (noT _ (by omega)) (Rsh_r _ _) (btw _ _) (btw _ _) (by omega)
    have r1 : Mrl (fun i s => i ∈ s) (sh pre w mS) (sh pre w mS) := sh_mrl pre hp (fun i hi => hi)
    have noM : ∀ i, i ∈ mS → ¬ (bsl + p' ≤ i ∧ i < bsl + p' + cnt) := fun i hi z => by
      rcases List.mem_cons.1 hi with y | y
      · omega
      · rcases List.mem_append.1 y with y | y
        · have := x1 i y; omega
        · have := cn.2.2.2.2.2.1 i y (by omega); omega
    rcases hn.2 with ⟨n1, n2⟩ | n2
    · subst n2
      have cJ1 : C (s + 1 + 2) = em 66 (nI p') := cJ0
      refine OKq_of (O := O2) (op := 66) (x := nI p') (d45 _ _ d4e) (noT _ (by show s + 1 < s + 1 + 2; omega)) cn.2.1 (Nat.le_refl _) (by omega) (by decide) (Nat.le_refl _) (by show C (s + 1 + 2) &&& 255 = _; rw [cJ1]; exact em_lo (by decide)) (by show C (s + 1 + 2) >>> ((8 : Int32) &&& 31) = _; rw [cJ1]; exact em_hi (by decide) (Sm3_n (by omega))) (fun c' a hc ro => OKI_4 (by decide) ⟨by decide, by rw [u_n (by omega)]; omega, ?_⟩)
      rw [u_n (by omega)]
      have tf := tF_of a hu
      exact ⟨fun z => absurd z (by decide), fun z => absurd z (by decide), fun _ => ⟨d, sh pre w mS, sh pre w mT, rfl, by rw [tf]; exact btw _ _, by omega, r1, shAll pre hp (fun i hi z => noM i hi (by omega)), sh_mrl pre hp (fun i hi => (List.mem_append.1 hi).elim (fun z => Or.inr (by rw [nmL_m] at z; omega)) Or.inl), nxN c' a⟩, fun z => absurd z (by decide), fun z => absurd z (by decide), fun z => absurd z (by decide), fun z => absurd z (by decide), fun z => absurd z (by decide), fun z => absurd z (by decide), fun z => absurd z (by decide), fun z => absurd z (by decide)⟩
    · subst n2
      have cJ1 : C (s + 1 + 2) = em 67 (nI p') := cJ0
      have cJ2 : C (s + 1 + 2 + 1) = nI cnt := cJ 1 (by show 1 < 2; decide)
      refine OKq_of (O := O2) (op := 67) (x := nI p') (d45 _ _ d4e) (noT _ (by show s + 1 < s + 1 + 2; omega)) cn.2.1 (by show s + 1 + 2 + 1 ≤ s + 1 + 2 + 2; omega) (by omega) (by decide) (by show 1 ≤ 2; decide) (by show C (s + 1 + 2) &&& 255 = _; rw [cJ1]; exact em_lo (by decide)) (by show C (s + 1 + 2) >>> ((8 : Int32) &&& 31) = _; rw [cJ1]; exact em_hi (by decide) (Sm3_n (by omega))) (fun c' a hc ro => OKI_4 (by decide) ⟨by decide, by rw [u_n (by omega)]; omega, ?_⟩)
      rw [u_n (by omega)]
      have tf := tF_of a hu
      have cw : uN (tcC c' (s + 1 + 2 + 1)) = cnt := by
        rw [(hc (s + 1 + 2 + 1) (by show s + 1 + 2 ≤ _; omega) (by show s + 1 + 2 + 1 < s + 1 + 2 + 2; omega)).trans cJ2, u_n (by omega)]
      have n9 : s + 1 + 2 + 2 ≤ tcN c' := a.1
      exact ⟨fun z => absurd z (by decide), fun z => absurd z (by decide), fun z => absurd z (by decide), fun _ => ⟨d, sh pre w mS, sh pre w mT, rfl, by rw [tf]; exact btw _ _, by show s + 1 + 2 + 1 < tcN c'; omega, by show p' + uN (tcC c' (s + 1 + 2 + 1)) ≤ 180; rw [cw]; omega, r1, shAll pre hp (fun i hi => by show ¬ (bsl + p' ≤ i ∧ i < bsl + p' + uN (tcC c' (s + 1 + 2 + 1))); rw [cw]; exact noM i hi), sh_mrl pre hp (fun i hi => (List.mem_append.1 hi).elim (fun z => Or.inr (by show bsl + 500000 + p' ≤ i ∧ i < bsl + 500000 + p' + uN (tcC c' (s + 1 + 2 + 1)); rw [cw, ← nmL_m]; exact z) ) Or.inl), nxN c' a⟩, fun z => absurd z (by decide), fun z => absurd z (by decide), fun z => absurd z (by decide), fun z => absurd z (by decide), fun z => absurd z (by decide), fun z => absurd z (by decide), fun z => absurd z (by decide)⟩
  have low : ∀ q y', D2 q = some y' → D5 q = some y' := fun q y' e => d45 _ _ (d34 _ _ (d23 _ _ e))
  have lowE : ∀ q, q ≤ s → D5 q = D2 q := fun q hq => by
    show (if q = s + 1 + 2 + ins.length then _ else if q = s + 1 + 2 then _ else if q = s + 1 then _ else D2 q) = _
    rw [if_neg (by omega), if_neg (by omega), if_neg (by omega)]
  have sN' : tcN c + (cs.length + o.length + 1) = s + 1 := by omega
  refine ⟨D5, ?_, fun q hq => ?_, ?_, fun e he => ?_⟩
  · have r1 : R - (cs.length + (o.length + (ins.length + 3))) + ((cs.length + o.length + 1, p' + cnt, xm) :: nl).length = Q - 2 - ins.length := by
      show R - (cs.length + (o.length + (ins.length + 3))) + (nl.length + 1) = _
      omega
    rw [r1, show tcN c + (cs.length + (o.length + (ins.length + 3))) = s + 1 + 2 + ins.length from by omega]
    refine TI_oh t5 (fun q => ?_) (fun q => ?_)
    · constructor
      · rintro (z | ⟨e, he, z⟩)
        · exact Or.inl (Or.inl z)
        · rcases List.mem_cons.1 he with y | y
          · rw [y] at z; exact Or.inr ⟨z.trans sN', trivial⟩
          · exact Or.inl (Or.inr ⟨e, y, z⟩)
      · rintro ((z | ⟨e, he, z⟩) | ⟨z, _⟩)
        · exact Or.inl z
        · exact Or.inr ⟨e, List.mem_cons_of_mem _ he, z⟩
        · exact Or.inr ⟨_, List.mem_cons_self, z.trans sN'.symm⟩
    · constructor
      · rintro (z | ⟨e, he, z⟩)
        · exact Or.inl (Or.inl z)
        · rcases List.mem_cons.1 he with y | y
          · rw [y] at z; exact Or.inr ⟨z.trans sN', trivial⟩
          · exact Or.inl (Or.inr ⟨e, y, z⟩)
      · rintro ((z | ⟨e, he, z⟩) | ⟨z, _⟩)
        · exact Or.inl z
        · exact Or.inr ⟨e, List.mem_cons_of_mem _ he, z⟩
        · exact Or.inr ⟨_, List.mem_cons_self, z.trans sN'.symm⟩
  · rw [lowE q (by omega), e2 q (by show q ≤ tcN c + cs.length; omega)]
    exact e1 q hq
  · have r1 : R - (cs.length + (o.length + (ins.length + 3))) + ((cs.length + o.length + 1, p' + cnt, xm) :: nl).length = Q - 2 - ins.length := by
      show R - (cs.length + (o.length + (ins.length + 3))) + (nl.length + 1) = _
      omega
    rw [r1, show tcN c + (cs.length + (o.length + (ins.length + 3))) = s + 1 + 2 + ins.length from by omega, d5e]
    show some (u, d, sh pre w (nmL p' cnt ++ ((bsl + (p' + cnt)) :: (xm ++ ms))), _) = some (u, d, sh pre w ((nmL p' cnt ++ (bsl + (p' + cnt)) :: xm) ++ ms), _)
    rw [List.append_assoc, List.cons_append]
  · rcases List.mem_cons.1 he with y | y
    · rw [y]
      refine ⟨⟨0, ?_⟩, ?_, Q - 2, by omega, ?_⟩
      · show D5 (tcN c + (cs.length + o.length + 1)) = _
        rw [sN']
        exact d45 _ _ (d34 _ _ d3e)
      · show D5 (tcN c + (cs.length + o.length + 1) + 1) = none
        rw [sN']
        show (if s + 1 + 1 = s + 1 + 2 + ins.length then _ else if s + 1 + 1 = s + 1 + 2 then _ else if s + 1 + 1 = s + 1 then _ else D2 (s + 1 + 1)) = none
        rw [if_neg (by omega), if_neg (by omega), if_neg (by omega)]
        exact nb2 _ (by omega)
      · show D5 (tcN c + (cs.length + o.length + 1) + 2) = _
        rw [sN']
        exact d45 _ _ d4e
    · have le := RwL_le nl rl e y
      obtain ⟨⟨ra, a1⟩, a2, rb, a3, a4⟩ := k1 e y
      refine ⟨⟨ra, low _ _ (dU2 _ _ a1)⟩, ?_, rb, a3, low _ _ (dU2 _ _ a4)⟩
      rw [lowE _ (by omega), e2 _ (by show _ ≤ tcN c + cs.length; omega)]
      exact a2
end CUV
