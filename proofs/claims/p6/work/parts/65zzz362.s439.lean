/-! The class: rows of iters with what they do, and formers. -/
section CUX
variable {c c' c1 c2 : Ct} {O O' H H' : Nat → Prop} {u nu nu' pc ln R R' p p' d rk k op w n m m' q t t' cnt : Nat} {r pre ms ms' xm : List Nat} {x v wd : Int32} {Vm Vm' : Nat → Prop} {cs ins o as : List Int32} {gl : Nat × (Nat → Nat → Prop)} {C : Nat → Int32} {y : Nat × Nat × List Nat × Nat} {nl : List (Nat × Nat × List Nat)} {e0 : Nat × Nat × List Nat}
theorem tg_b {N a b : Nat} (h1 : N + b ≤ 1000000) (h2 : a ≤ b) : uN (nI (N + b) + (nI a - nI b)) = N + a := by
  have e9 : nI (N + b) + (nI a - nI b) = nI (N + a) := by
    rw [show nI (N + b) = nI N + nI b from (n_add (by omega)).symm, show nI (N + a) = nI N + nI a from (n_add (by omega)).symm]
    rw [Int32.sub_eq_add_neg, Int32.add_assoc (nI N), ← Int32.add_assoc (nI b), Int32.add_comm (nI b) (nI a), Int32.add_assoc (nI a), Int32.add_right_neg, Int32.add_zero]
  rw [e9, u_n (by omega)]
theorem Sm3_s {a b : Nat} (h : a < b) (h2 : b ≤ 1000000) : Sm3 (nI a - nI b) := by
  right
  have z : uN (nI a - nI b) = 4294967296 - (b - a) := by
    have lt := u_lt (nI a - nI b)
    have e : uN ((nI a - nI b) + nI b) = a := by
      rw [Int32.sub_eq_add_neg, Int32.add_assoc, Int32.add_left_neg, Int32.add_zero, u_n (by omega)]
    have f : uN ((nI a - nI b) + nI b) = (uN (nI a - nI b) + uN (nI b)) % 4294967296 := BitVec.toNat_add _ _
    rw [e, u_n (by omega)] at f
    omega
  omega
/-- a row of iters and what is worked behind it -/
def RwB (u p : Nat) (gl : Nat × (Nat → Nat → Prop)) (Vm : Nat → Prop) (p' : Nat) (xm : List Nat) (nl : List (Nat × Nat × List Nat)) (t : Nat) (cs : List Int32) : Prop := (p ≤ p' ∧ p' ≤ 180) ∧ (∀ i, i ∈ xm → bsl ≤ i ∧ (i - bsl) % 500000 < p') ∧ (2 * nl.length ≤ cs.length ∧ t ≤ cs.length) ∧ RwL p cs nl ∧ ∀ (O H : Nat → Prop) (nu R : Nat) (c : Ct) (d : Nat) (pre : List Nat) (w : Nat) (ms : List Nat) (C : Nat → Int32), TI O H nu R c → ¬ O (tcN c) → tcD c (tcN c) = some (u, d, sh pre w ms, R) → (∀ e, e ∈ pre → e < bsl) → CnC O u p gl Vm nu c w ms → 1000 + cs.length ≤ R → R ≤ RK → d + cs.length ≤ 100000 → tcN c + cs.length ≤ 36864 → (∀ i, i < tcN c → C i = tcC c i) → (∀ i, i < cs.length → (∀ e, e ∈ nl → ¬ i = e.1 + 1) → C (tcN c + i) = cs.getD i 0) → ∃ D, TI (fun q => O q ∨ ∃ e, e ∈ nl ∧ q = tcN c + e.1) (fun q => H q ∨ ∃ e, e ∈ nl ∧ q = tcN c + e.1) nu (R - cs.length + nl.length) (mkc c C (tcN c + cs.length) D) ∧ (∀ q, q ≤ tcN c → D q = tcD c q) ∧ D (tcN c + cs.length) = some (u, d + t, sh pre w (xm ++ ms), R - cs.length + nl.length) ∧ ∀ e, e ∈ nl → NxE u (tcN c) d pre w ms D e
theorem RwB_0 (h : Row u p gl Vm p' xm nl cs) : RwB u p gl Vm p' xm nl 0 cs := by
  obtain ⟨h1, h2, h3, h4, h5⟩ := h
  exact ⟨h1, h2, ⟨h3, Nat.zero_le _⟩, h4, h5⟩
/-- funcs are told below, so no NEXT of this row is an entry -/
theorem Unt_n {D : Nat → Option (Nat × Nat × List Nat × Nat)} {N : Nat} (ti : TI O H nu R c) (cn : CnC O u p gl Vm nu c w ms) (hD : tcD c (tcN c) = some (u, d, sh pre w ms, R)) (e1 : ∀ q, q ≤ tcN c → D q = tcD c q) (k1 : ∀ e, e ∈ nl → NxE u (tcN c) d pre w ms D e) : Unt (fun q => O q ∨ ∃ e, e ∈ nl ∧ q = tcN c + e.1) nu (mkc c C N D) := by
  intro v v1 v2 kv
  obtain ⟨b1, b2, b3, b4, rk, b5, b6⟩ := cn.2.2.2.2.2.2.2 v v1 v2 kv
  have dU := dd_of ti e1
  refine ⟨b1, b2, b3, fun z => ?_, rk, b5, dU _ _ b6⟩
  rcases z with z | ⟨e, he, z⟩
  · exact b4 z
  · have z' : tcE c v = tcN c + e.1 := z
    rcases Nat.lt_or_ge (tcN c) (tcE c v) with y | y
    · rw [ti.2.2.2.1 _ y] at b6; cases b6
    · have e0 : e.1 = 0 := by omega
      obtain ⟨⟨rk2, k2⟩, _⟩ := k1 e he
      rw [e0] at k2
      have k3 : D (tcN c) = _ := k2
      rw [e1 _ (Nat.le_refl _), hD] at k3
      have k4 := congrArg (fun s => match s with | some s => s.2.2.1 | none => []) k3
      have k5 : sh pre w ms = sh pre w ((bsl + e.2.1) :: (e.2.2 ++ ms)) := k4
      have k6 := congrArg List.length k5
      rw [List.length_append, List.length_append, List.length_cons, List.length_cons, List.length_cons, List.length_append] at k6
      omega
theorem CnC_n {D : Nat → Option (Nat × Nat × List Nat × Nat)} {N : Nat} (ti : TI O H nu R c) (cn : CnC O u p gl Vm nu c w ms) (hD : tcD c (tcN c) = some (u, d, sh pre w ms, R)) (e1 : ∀ q, q ≤ tcN c → D q = tcD c q) (k1 : ∀ e, e ∈ nl → NxE u (tcN c) d pre w ms D e) (hp' : p ≤ p' ∧ p' ≤ 180) (x1 : ∀ i, i ∈ xm → bsl ≤ i ∧ (i - bsl) % 500000 < p') (hV : ∀ i, Vm' i → Vm i ∨ i ∈ xm) : CnC (fun q => O q ∨ ∃ e, e ∈ nl ∧ q = tcN c + e.1) u p' gl Vm' nu (mkc c C N D) w (xm ++ ms) := by
  obtain ⟨a1, a2, a3, a4, a5, a6, a7, a8⟩ := cn
  refine ⟨a1, a2, a3, a4, hp'.2, fun i hi hb => ?_, fun i hi => ?_, Unt_n ti ⟨a1, a2, a3, a4, a5, a6, a7, a8⟩ hD e1 k1⟩
  · rcases List.mem_append.1 hi with z | z
    · exact (x1 i z).2
    · have := a6 i z hb; omega
  · rcases hV i hi with z | z
    · exact List.mem_append_right _ (a7 i z)
    · exact List.mem_append_left _ z
theorem noO_nl (ti : TI O H nu R c) (no : ¬ O (tcN c)) (rl : RwL p cs nl) : ∀ q, tcN c + cs.length ≤ q → ¬ (O q ∨ ∃ e, e ∈ nl ∧ q = tcN c + e.1) := fun q hq z => by
  rcases z with z | ⟨e, he, z⟩
  · exact noO_ge ti no q (by omega) z
  · have := RwL_le nl rl e he; omega
theorem RwB_sg (h : RwB u p gl Vm p' xm nl t cs) (hV : ∀ i, Vm' i → Vm i ∨ i ∈ xm) (g : Sgm u p' gl Vm' n o) : RwB u p gl Vm p' xm nl (t + n) (cs ++ o) := by
  obtain ⟨h1, h2, h3, h4, h5⟩ := h
  obtain ⟨g1, g2⟩ := g
  refine ⟨h1, h2, by rw [List.length_append]; omega, RwL_ap nl h4, fun O H nu R c d pre w ms C ti no hD hp cn hR1 hR2 hd hN hC1 hC2 => ?_⟩
  rw [List.length_append] at hR1 hd hN hC2 ⊢
  have nf : ∀ i, cs.length ≤ i → ∀ e, e ∈ nl → ¬ i = e.1 + 1 := fun i hi e he => by have := RwL_le nl h4 e he; omega
  obtain ⟨D1, t1, e1, f1, k1⟩ := h5 O H nu R c d pre w ms C ti no hD hp cn (by omega) hR2 (by omega) (by omega) hC1 (fun i hi hh => by rw [hC2 i (by omega) hh, gd_l hi])
  obtain ⟨D2, t2, e2, f2⟩ := g2 _ _ nu (R - cs.length + nl.length) (mkc c C (tcN c + cs.length) D1) (d + t) pre w (xm ++ ms) C t1 (noO_nl ti no h4 _ (Nat.le_refl _)) f1 hp (CnC_n ti cn hD e1 k1 h1 h2 hV) (by omega) (by omega) (by omega) (by show tcN c + cs.length + o.length ≤ _; omega) (fun _ _ => rfl) (fun i hi => by
    show C (tcN c + cs.length + i) = _
    rw [Nat.add_assoc, hC2 _ (by omega) (nf _ (by omega)), gd_r])
  have rr : R - (cs.length + o.length) + nl.length = R - cs.length + nl.length - o.length := by omega
  rw [rr]
  refine ⟨D2, ?_, fun q hq => ?_, ?_, fun e he => ?_⟩
  · rw [← Nat.add_assoc]; exact t2
  · rw [e2 q (by show q ≤ tcN c + cs.length; omega)]; exact e1 q hq
  · rw [← Nat.add_assoc, ← Nat.add_assoc]; exact f2
  · have le := RwL_le nl h4 e he
    obtain ⟨⟨ra, a1⟩, a2, rb, a3, a4⟩ := k1 e he
    refine ⟨⟨ra, (e2 _ (by show tcN c + e.1 ≤ tcN c + cs.length; omega)).trans a1⟩, (e2 _ (by show tcN c + e.1 + 1 ≤ tcN c + cs.length; omega)).trans a2, rb, a3, (e2 _ (by show tcN c + e.1 + 2 ≤ tcN c + cs.length; omega)).trans a4⟩
/-- where it doesn't hold the next turn begins -/
theorem RwB_jb (h : RwB u p gl Vm p' xm (e0 :: nl) 1 cs) (ho : op = 4 ∨ op = 5) (hs : ∀ i, i = bsl + e0.2.1 ∨ i ∈ e0.2.2 → i ∈ xm) : RwB u p gl Vm p' xm (e0 :: nl) 0 (cs ++ [em op (nI e0.1 - nI cs.length)]) := by
  obtain ⟨h1, h2, h3, h4, h5⟩ := h
  have el : (cs ++ [em op (nI e0.1 - nI cs.length)]).length = cs.length + 1 := by rw [List.length_append]; rfl
  have rk40 : RK = 40000 := rfl
  refine ⟨h1, h2, by rw [el]; omega, RwL_ap _ h4, fun O H nu R c d pre w ms C ti no hD hp cn hR1 hR2 hd hN hC1 hC2 => ?_⟩
  rw [el] at hR1 hd hN hC2 ⊢
  have nf : ∀ i, cs.length ≤ i → ∀ e, e ∈ e0 :: nl → ¬ i = e.1 + 1 := fun i hi e he => by have := RwL_le _ h4 e he; omega
  obtain ⟨D1, t1, e1, f1, k1⟩ := h5 O H nu R c d pre w ms C ti no hD hp cn (by omega) hR2 (by omega) (by omega) hC1 (fun i hi hh => by rw [hC2 i (by omega) hh, gd_l hi])
  have nO := noO_nl ti no h4
  have le0 := RwL_le _ h4 e0 List.mem_cons_self
  have cA : C (tcN c + cs.length) = em op (nI e0.1 - nI cs.length) := by
    have z := hC2 (cs.length + 0) (by omega) (nf _ (by omega))
    rw [gd_r] at z; exact z
  have cn1 := CnC_n (C := C) (N := tcN c + cs.length) (Vm' := Vm) ti cn hD e1 k1 h1 h2 (fun i hi => Or.inl hi)
  generalize hQ : R - cs.length + (e0 :: nl).length = Q at *
  have l1 : (e0 :: nl).length = nl.length + 1 := rfl
  obtain ⟨⟨ra, a1⟩, a2, rb, a3, a4⟩ := k1 e0 List.mem_cons_self
  have dU2 : ∀ q y', D1 q = some y' → up1 (mkc c C (tcN c + cs.length) D1) 1 (u, d + 0, sh pre w (xm ++ ms), Q - 1) q = some y' := fun q y' e => up1_d t1 (Nat.le_refl _) e
  have btw : ∀ (X : List Nat) (d' : Nat), tcF c u ≤ bt d' (sh pre w X) := fun X d' => by rw [sh_bt pre _ hp]; exact cn.2.2.1
  have t3 : TI (fun q => O q ∨ ∃ e, e ∈ e0 :: nl ∧ q = tcN c + e.1) (fun q => H q ∨ ∃ e, e ∈ e0 :: nl ∧ q = tcN c + e.1) nu (Q - 1) (mkc c C (tcN c + cs.length + 1) (up1 (mkc c C (tcN c + cs.length) D1) 1 (u, d + 0, sh pre w (xm ++ ms), Q - 1))) := TI_s1 (c := mkc c C (tcN c + cs.length) D1) t1 (nO _ (Nat.le_refl _)) (Nat.le_refl _) (by show tcN c + cs.length + 1 ≤ _; omega) (fun _ _ => rfl) (fun y ey => by
    have ey' : D1 (tcN c + cs.length) = some y := ey
    rw [f1] at ey'
    cases ey'
    refine OKq_of (op := op) (x := nI e0.1 - nI cs.length) (dU2 _ _ f1) (nO _ (Nat.le_refl _)) cn.2.1 (Nat.le_refl _) (by omega) (by omega) (Nat.le_refl _) (by show C (tcN c + cs.length) &&& 255 = _; rw [cA]; exact em_lo (by omega)) (by show C (tcN c + cs.length) >>> ((8 : Int32) &&& 31) = _; rw [cA]; exact em_hi (by omega) (Sm3_s (by omega) (by omega))) (fun c' a hc ro => OKI_1 ⟨by omega, by omega⟩ ⟨fun z => absurd z (by omega), fun z => absurd z (by omega), fun _ => ⟨d, rfl, ?_, ?_⟩, fun z => absurd z (by omega), fun z => absurd z (by omega)⟩)
    · exact nx_of a cn.1 (up1_e (c := mkc c C (tcN c + cs.length) D1) (ln := 1)) (nO _ (by show tcN c + cs.length ≤ tcN c + cs.length + 1; omega)) (Rsh_r _ _) (btw _ _) (btw _ _) (by show Q - 1 < Q; omega)
    · show Nx c' (uN (nI (tcN c + cs.length) + (nI e0.1 - nI cs.length))) u d (sh pre w (xm ++ ms)) Q
      rw [tg_b (by omega) (by omega)]
      exact nxO_of a cn.1 ro (dU2 _ _ a1) (Or.inr ⟨e0, List.mem_cons_self, rfl⟩) (shRsh d hp (fun i hi => by
        rcases List.mem_cons.1 hi with z | z
        · exact List.mem_append_left _ (hs i (Or.inl z))
        · rcases List.mem_append.1 z with z | z
          · exact List.mem_append_left _ (hs i (Or.inr z))
          · exact List.mem_append_right _ z)) (btw _ _) (btw _ _) (Nat.le_refl _)) (by omega)
  have rr : R - (cs.length + 1) + (e0 :: nl).length = Q - 1 := by omega
  rw [rr]
  refine ⟨up1 (mkc c C (tcN c + cs.length) D1) 1 (u, d + 0, sh pre w (xm ++ ms), Q - 1), ?_, fun q hq => ?_, ?_, fun e he => ?_⟩
  · rw [← Nat.add_assoc]; exact t3
  · rw [up1_o (by show ¬ q = tcN c + cs.length + 1; omega)]; exact e1 q hq
  · rw [← Nat.add_assoc]; exact up1_e (c := mkc c C (tcN c + cs.length) D1)
  · have le := RwL_le _ h4 e he
    obtain ⟨⟨ra, a1⟩, a2, rb, a3, a4⟩ := k1 e he
    refine ⟨⟨ra, dU2 _ _ a1⟩, ?_, rb, a3, dU2 _ _ a4⟩
    rw [up1_o (by show ¬ _ = tcN c + cs.length + 1; omega)]; exact a2
theorem gD_mem {α : Type} {z : α} : ∀ (l : List α) (i : Nat), i < l.length → l.getD i z ∈ l
  | [], i, h => absurd h (Nat.not_lt_zero _)
  | a :: l, 0, _ => List.mem_cons_self
  | a :: l, i + 1, h => List.mem_cons_of_mem _ (gD_mem l i (Nat.lt_of_succ_lt_succ h))
/-- the words of a row: each NEXT leads to the one before it, the first to the end -/
theorem RwL_wd : ∀ (nl : List (Nat × Nat × List Nat)), RwL p cs nl → ∀ i, i + 1 < nl.length → cs.getD ((nl.getD i (0, 0, [])).1 + 1) 0 = nI (nl.getD (i + 1) (0, 0, [])).1 - nI (nl.getD i (0, 0, [])).1 ∧ (nl.getD (nl.length - 1) (0, 0, [])).1 + 2 ≤ (nl.getD i (0, 0, [])).1
  | [], _, i, h => absurd h (Nat.not_lt_zero _)
  | [e], _, i, h => absurd h (by show ¬ i + 1 < 1; omega)
  | e :: f :: nl, z, i, h => by
    obtain ⟨z1, z2, z3, z4, z5, z6, z7⟩ := z
    cases i with
    | zero =>
      refine ⟨(z6 f nl rfl).1, ?_⟩
      show ((e :: f :: nl).getD (nl.length + 1) (0, 0, [])).1 + 2 ≤ e.1
      have m : (e :: f :: nl).getD (nl.length + 1) (0, 0, []) ∈ f :: nl := by
        show (f :: nl).getD nl.length (0, 0, []) ∈ f :: nl
        exact gD_mem _ _ (by show nl.length < nl.length + 1; omega)
      exact z5 _ m
    | succ j =>
      have z := RwL_wd (f :: nl) z7 j (by have : j + 1 + 1 < (f :: nl).length + 1 := h; omega)
      exact z
/-- where a row begins -/
def fstP (nl : List (Nat × Nat × List Nat)) : Nat := (nl.getD (nl.length - 1) (0, 0, [])).1
theorem RwL_cd : ∀ (nl : List (Nat × Nat × List Nat)), RwL p cs nl → ∀ e, e ∈ nl → cs.getD e.1 0 = em 65 (nI e.2.1)
  | [], _, e, h => absurd h List.not_mem_nil
  | f :: nl, z, e, h => by
    rcases List.mem_cons.1 h with q | q
    · rw [q]; exact z.2.1
    · exact RwL_cd nl z.2.2.2.2.2.2 e q
theorem RwL_nc : ∀ (nl : List (Nat × Nat × List Nat)), RwL p cs nl → ∀ e f, e ∈ nl → f ∈ nl → ¬ e.1 = f.1 + 1
  | [], _, e, f, h, _ => absurd h List.not_mem_nil
  | g :: nl, z, e, f, he, hf => by
    obtain ⟨z1, z2, z3, z4, z5, z6, z7⟩ := z
    rcases List.mem_cons.1 he with q | q
    · rcases List.mem_cons.1 hf with q2 | q2
      · rw [q, q2]; omega
      · rw [q]; have := z5 f q2; omega
    · rcases List.mem_cons.1 hf with q2 | q2
      · rw [q2]; have := z5 e q; omega
      · exact RwL_nc nl z7 e f q q2
theorem fst_m (h : 1 ≤ nl.length) : ∃ e, e ∈ nl ∧ e.1 = fstP nl := by
  exact ⟨nl.getD (nl.length - 1) (0, 0, []), gD_mem _ _ (by omega), rfl⟩
/-- CLEAR -/
theorem It_cl (h : p + k ≤ 180) : Itc u p gl Vm m m [em 68 (nI p), nI k] := It_2 (by decide) (Sm3_n (by omega)) (fun O nu R c c' pc d pre w ms hN ev no2 hD2 hp cn hR1 hR2 hd a => OKI_4 (by decide) ⟨by decide, by rw [u_n (by omega)]; omega, by
  rw [u_n (by omega)]
  have bs : bsl = 1000000 := rfl
  have n1 := a.1
  exact ⟨fun z => absurd z (by decide), fun z => absurd z (by decide), fun z => absurd z (by decide), fun z => absurd z (by decide), fun _ => ⟨sh pre w ms, by omega, by rw [ev, u_n (by omega)]; exact h, sh_mrl pre hp (fun i hi => hi), shAll pre hp (fun i hi z => by
    have := cn.2.2.2.2.2.1 i hi (by omega)
    rw [ev, u_n (by omega)] at z
    omega), it_N a cn hp hD2 no2 (by omega)⟩, fun z => absurd z (by decide), fun z => absurd z (by decide), fun z => absurd z (by decide), fun z => absurd z (by decide), fun z => absurd z (by decide), fun z => absurd z (by decide)⟩⟩)
end CUX
