/-! The class: quantifiers, typed. -/
section CUZ
variable {c c' c1 c2 : Ct} {O O' H H' : Nat → Prop} {u nu nu' pc ln R R' p p' d rk k op w n m m' q t t' cnt : Nat} {r pre ms ms' xm : List Nat} {x v wd tv fv : Int32} {Vm Vm' : Nat → Prop} {cs ins o as : List Int32} {gl : Nat × (Nat → Nat → Prop)} {C : Nat → Int32} {y : Nat × Nat × List Nat × Nat} {nl : List (Nat × Nat × List Nat)} {e0 : Nat × Nat × List Nat}
/-- an instruction of a kind that is told by Itc, laid at the end of what is typed -/
theorem TI_it (it : Itc u p gl Vm m m' ins) (hl : 1 ≤ ins.length) (t : TI O H nu R c) (no : ∀ q, tcN c ≤ q → ¬ O q) (hD : tcD c (tcN c) = some (u, d + m, sh pre w ms, R)) (hp : ∀ e, e ∈ pre → e < bsl) (cn : CnC O u p gl Vm nu c w ms) (hR1 : 1000 + ins.length ≤ R) (hR2 : R ≤ RK) (hd : d + m ≤ 100000 ∧ d + m' ≤ 100000) (hN : tcN c + ins.length ≤ 36864) (hC1 : ∀ i, i < tcN c → C i = tcC c i) (hC2 : ∀ i, i < ins.length → C (tcN c + i) = ins.getD i 0) : TI O H nu (R - ins.length) (mkc c C (tcN c + ins.length) (up1 c ins.length (u, d + m', sh pre w ms, R - ins.length))) := TI_s1 t (no _ (Nat.le_refl _)) hl hN hC1 (fun y ey => by
  rw [hD] at ey
  cases ey
  exact it O nu R (mkc c C (tcN c + ins.length) (up1 c ins.length (u, d + m', sh pre w ms, R - ins.length))) (tcN c) d pre w ms hC2 (Nat.le_refl _) (no _ (Nat.le_refl _)) (no _ (Nat.le_add_right _ _)) (up1_d t hl hD) up1_e hp (CnC_k cn (fun q y' e => up1_d t hl e)) hR1 hR2 hd) (Nat.sub_le _ _)
/-- exists .. | .. or forall .. | .. -/
theorem Sgm_qu (h : RwB u p gl Vm p' xm (e0 :: nl) 0 cs) (ht : LitG tv) (hf : LitG fv) : Sgm u p gl Vm 1 (cs.set (fstP (e0 :: nl) + 1) (nI (cs.length + 3 - fstP (e0 :: nl))) ++ [em 32 0, tv, em 3 (nI 3), em 32 0, fv, em 68 (nI p), nI (p' - p), em 40 0]) := by
  obtain ⟨h1, h2, h3, h4, h5⟩ := h
  have el : (cs.set (fstP (e0 :: nl) + 1) (nI (cs.length + 3 - fstP (e0 :: nl))) ++ [em 32 0, tv, em 3 (nI 3), em 32 0, fv, em 68 (nI p), nI (p' - p), em 40 0]).length = cs.length + 8 := by
    rw [List.length_append, List.length_set]; rfl
  have rk40 : RK = 40000 := rfl
  have bs : bsl = 1000000 := rfl
  refine ⟨by rw [el]; omega, fun O H nu R c d pre w ms C ti no hD hp cn hR1 hR2 hd hN hC1 hC2 => ?_⟩
  rw [el] at hR1 hd hN hC2 ⊢
  have nO := noO_ge ti no
  obtain ⟨ef, ef1, ef2⟩ := fst_m (nl := e0 :: nl) (by show 1 ≤ nl.length + 1; omega)
  have lf := RwL_le _ h4 ef ef1
  have lset : (cs.set (fstP (e0 :: nl) + 1) (nI (cs.length + 3 - fstP (e0 :: nl)))).length = cs.length := List.length_set
  have cA : ∀ i, i < cs.length → C (tcN c + i) = (cs.set (fstP (e0 :: nl) + 1) (nI (cs.length + 3 - fstP (e0 :: nl)))).getD i 0 := fun i hi => by
    rw [hC2 i (by omega)]
    exact gd_l (by rw [lset]; exact hi)
  have cT : ∀ i, i < 8 → C (tcN c + cs.length + i) = [em 32 0, tv, em 3 (nI 3), em 32 0, fv, em 68 (nI p), nI (p' - p), em 40 0].getD i 0 := fun i hi => by
    rw [show tcN c + cs.length + i = tcN c + (cs.length + i) from by omega, hC2 _ (by omega)]
    exact gd_k lset i
  obtain ⟨D2, t2, e2, f2, k2⟩ := h5 O H nu R c d pre w ms C ti no hD hp cn (by omega) (by omega) (by omega) (by omega) hC1 (fun i hi hh => by
    rw [cA i hi, gd_set, if_neg (fun z => hh ef ef1 (by rw [ef2]; exact z.1))])
  have nO2 : ∀ q, tcN c + cs.length ≤ q → ¬ (O q ∨ ∃ e, e ∈ e0 :: nl ∧ q = tcN c + e.1) := noO_nl ti no h4
  have hu := cn.1
  have btw : ∀ (X : List Nat) (d' : Nat), tcF c u ≤ bt d' (sh pre w X) := fun X d' => by rw [sh_bt _ _ hp]; exact cn.2.2.1
  have l1 : (e0 :: nl).length = nl.length + 1 := rfl
  have ll := h3.1
  have dU2 : ∀ q y', tcD c q = some y' → D2 q = some y' := dd_of ti e2
  have cnA := CnC_n (C := C) (N := tcN c + cs.length) (Vm' := Vm) ti cn hD e2 k2 h1 h2 (fun i hi => Or.inl hi)
  generalize hQ : R - cs.length + (e0 :: nl).length = Q at *
  -- PUSH
  have t3 := TI_it (C := C) (It_pu (v := tv) (u := u) (p := p') (gl := gl) (Vm := Vm) ht) (by show 1 ≤ 2; decide) t2 nO2 f2 hp cnA (by show 1000 + 2 ≤ Q; omega) (by omega) ⟨by omega, by omega⟩ (by show tcN c + cs.length + 2 ≤ _; omega) (fun _ _ => rfl) (fun i hi => by
    have hi' : i < 2 := hi
    rcases (show i = 0 ∨ i = 1 by omega) with z | z
    · rw [z]; exact cT 0 (by decide)
    · rw [z]; exact cT 1 (by decide))
  have t3' : TI (fun q => O q ∨ ∃ e, e ∈ e0 :: nl ∧ q = tcN c + e.1) (fun q => H q ∨ ∃ e, e ∈ e0 :: nl ∧ q = tcN c + e.1) nu (Q - 2) (mkc c C (tcN c + cs.length + 2) (up1 (mkc c C (tcN c + cs.length) D2) 2 (u, d + 1, sh pre w (xm ++ ms), Q - 2))) := t3
  generalize hD3 : up1 (mkc c C (tcN c + cs.length) D2) 2 (u, d + 1, sh pre w (xm ++ ms), Q - 2) = D3 at *
  have f3 : D3 (tcN c + cs.length + 2) = some (u, d + 1, sh pre w (xm ++ ms), Q - 2) := by rw [← hD3]; exact up1_e (c := mkc c C (tcN c + cs.length) D2)
  have e3 : ∀ q, q ≤ tcN c + cs.length → D3 q = D2 q := fun q hq => by rw [← hD3]; exact up1_o (by show ¬ q = tcN c + cs.length + 2; omega)
  -- JUMP, still to be aimed; behind it the row's end
  let rkE := R - (cs.length + 3)
  have rkv : rkE = R - (cs.length + 3) := rfl
  have t4 : TI (fun q => O q ∨ ∃ e, e ∈ e0 :: nl ∧ q = tcN c + e.1) (fun q => (H q ∨ ∃ e, e ∈ e0 :: nl ∧ q = tcN c + e.1) ∨ (q = tcN c + cs.length + 2 ∧ True)) nu (Q - 2) (mkc c C (tcN c + cs.length + 2 + 1) (up1 (mkc c C (tcN c + cs.length + 2) D3) 1 (u, d, sh pre w ms, rkE))) := TI_em (ln := 1) (y := some (u, d, sh pre w ms, rkE)) (Hn := True) (On := False) t3' (Nat.le_refl _) (by show tcN c + cs.length + 2 + 1 ≤ _; omega) (fun _ _ => rfl) rfl ⟨⟨rfl, rfl⟩, rfl, rfl⟩ (fun q => rfl) (fun q => ⟨Or.inl, fun z => z.elim id (fun w => w.2.elim)⟩) (fun z => z.elim) (fun q => Iff.rfl) (fun _ => trivial) (fun z => absurd trivial z) (Nat.le_refl _)
  have dU4 : ∀ q y', D3 q = some y' → up1 (mkc c C (tcN c + cs.length + 2) D3) 1 (u, d, sh pre w ms, rkE) q = some y' := fun q y' e => up1_d t3' (Nat.le_refl _) e
  generalize hD4 : up1 (mkc c C (tcN c + cs.length + 2) D3) 1 (u, d, sh pre w ms, rkE) = D4 at *
  have f4 : D4 (tcN c + cs.length + 2 + 1) = some (u, d, sh pre w ms, rkE) := by rw [← hD4]; exact up1_e (c := mkc c C (tcN c + cs.length + 2) D3)
  have e4 : ∀ q, q ≤ tcN c + cs.length + 2 → D4 q = D3 q := fun q hq => by rw [← hD4]; exact up1_o (by show ¬ q = tcN c + cs.length + 2 + 1; omega)
  have e42 : ∀ q, q ≤ tcN c + cs.length → D4 q = D2 q := fun q hq => (e4 q (by omega)).trans (e3 q hq)
  -- the end
  obtain ⟨D5, t5, e5⟩ := Cl2 (c := mkc c C (tcN c + cs.length + 2 + 1) D4) (N := tcN c) (X := cs.length + 3) (rkE := rkE) (R := Q - 2) (O := O) (H := fun q => H q ∨ q = tcN c + cs.length + 2) (nu := nu) (u := u) (d := d) (pre := pre) (w := w) (ms := ms) (p := p) (cs := cs) (nl := e0 :: nl) hp ⟨hu, cn.2.1, cn.2.2.1⟩ cn.2.2.2.2.2.1 h4 (by omega) (by omega) (by show tcN c + (cs.length + 3) ≤ tcN c + cs.length + 2 + 1; omega) (fun i hi hh => by
    show C (tcN c + i) = _
    rw [cA i hi, gd_set, if_neg (fun z => hh ef ef1 (by rw [ef2]; exact z.1))]) (fun e he => by
    have := RwL_le _ h4 e he
    show C (tcN c + e.1 + 1) = _
    rw [Nat.add_assoc (tcN c), cA _ (by omega)]) (TI_oh t4 (fun q => Iff.rfl) (fun q => by
      constructor
      · rintro ((z | z) | z)
        · exact Or.inl (Or.inl z)
        · exact Or.inr ⟨z, trivial⟩
        · exact Or.inl (Or.inr z)
      · rintro ((z | z) | z)
        · exact Or.inl (Or.inl z)
        · exact Or.inr z
        · exact Or.inl (Or.inr z.1))) (fun q hq hq2 z => by
    rcases z with z | z
    · have := ti.2.2.1 q z; omega
    · omega) (fun q hq => nO q (by omega)) f4 (fun e he => by
    have le := RwL_le _ h4 e he
    obtain ⟨⟨ra, b1⟩, b2, rb, b3, b4⟩ := k2 e he
    exact ⟨⟨ra, (e42 _ (by omega)).trans b1⟩, (e42 _ (by omega)).trans b2, rb, b3, (e42 _ (by omega)).trans b4⟩) (by omega) (by omega)
  have t5' : TI O (fun q => H q ∨ q = tcN c + cs.length + 2) nu (Q - 2) (mkc c C (tcN c + cs.length + 2 + 1) D5) := t5
  have e5' : ∀ q, (∀ e, e ∈ e0 :: nl → ¬ q = tcN c + e.1) → D5 q = D4 q := e5
  have f5 : D5 (tcN c + cs.length + 2 + 1) = some (u, d, sh pre w ms, rkE) := by
    rw [e5' _ (fun e he => by have := RwL_le _ h4 e he; omega)]; exact f4
  have f5j : D5 (tcN c + cs.length + 2) = some (u, d + 1, sh pre w (xm ++ ms), Q - 2) := by
    rw [e5' _ (fun e he => by have := RwL_le _ h4 e he; omega), e4 _ (Nat.le_refl _)]; exact f3
  have lt0 : ∀ e, e ∈ e0 :: nl → 1 ≤ e.1 := fun e he => by
    obtain ⟨⟨ra, b1⟩, _⟩ := k2 e he
    rcases Nat.eq_zero_or_pos e.1 with z | z
    · rw [z] at b1
      have k3 : D2 (tcN c) = _ := b1
      rw [e2 _ (Nat.le_refl _), hD] at k3
      have k4 := congrArg (fun s => match s with | some s => s.2.2.1 | none => []) k3
      have k5 : sh pre w ms = sh pre w ((bsl + e.2.1) :: (e.2.2 ++ ms)) := k4
      have k6 := congrArg List.length k5
      rw [List.length_append, List.length_append, List.length_cons, List.length_cons, List.length_cons, List.length_append] at k6
      omega
    · exact z
  have low : ∀ q, q ≤ tcN c → D5 q = tcD c q := fun q hq => by
    rw [e5' _ (fun e he => by have := lt0 e he; omega), e42 q (by omega)]
    exact e2 q hq
  have dU5 : ∀ q y', tcD c q = some y' → D5 q = some y' := dd_of ti low
  have t5'' := TI_R t5' (R' := rkE) (by omega)
  -- PUSH
  have t6 := TI_it (C := C) (d := d) (It_pu (v := fv) (u := u) (p := p) (gl := gl) (Vm := Vm) hf) (by show 1 ≤ 2; decide) t5'' (fun q hq => nO q (by have : tcN c + cs.length + 2 + 1 ≤ q := hq; omega)) f5 hp (CnC_k cn dU5) (by show 1000 + 2 ≤ rkE; omega) (by omega) ⟨by omega, by omega⟩ (by show tcN c + cs.length + 2 + 1 + 2 ≤ _; omega) (fun _ _ => rfl) (fun i hi => by
    have hi' : i < 2 := hi
    rcases (show i = 0 ∨ i = 1 by omega) with z | z
    · rw [z]; exact cT 3 (by decide)
    · rw [z]; exact cT 4 (by decide))
  have t6' : TI O (fun q => H q ∨ q = tcN c + cs.length + 2) nu (rkE - 2) (mkc c C (tcN c + cs.length + 2 + 1 + 2) (up1 (mkc c C (tcN c + cs.length + 2 + 1) D5) 2 (u, d + 1, sh pre w ms, rkE - 2))) := t6
  have dU6 : ∀ q y', D5 q = some y' → up1 (mkc c C (tcN c + cs.length + 2 + 1) D5) 2 (u, d + 1, sh pre w ms, rkE - 2) q = some y' := fun q y' e => up1_d t5'' (by decide) e
  generalize hD6 : up1 (mkc c C (tcN c + cs.length + 2 + 1) D5) 2 (u, d + 1, sh pre w ms, rkE - 2) = D6 at *
  have f6 : D6 (tcN c + cs.length + 2 + 1 + 2) = some (u, d + 1, sh pre w ms, rkE - 2) := by rw [← hD6]; exact up1_e (c := mkc c C (tcN c + cs.length + 2 + 1) D5)
  have cJ : C (tcN c + cs.length + 2) = em 3 (nI 3) := cT 2 (by decide)
  have t7 : TI O H nu (rkE - 2) (mkc c C (tcN c + cs.length + 2 + 1 + 2) D6) := by
    refine TI_fi (h := tcN c + cs.length + 2) (ln := 1) t6' (Nat.le_refl _) (Or.inr rfl) (nO _ (by omega)) (by show tcN c + cs.length + 2 + 1 ≤ tcN c + cs.length + 2 + 1 + 2; omega) (fun _ _ => rfl) rfl (dU6 _ _ f5j) (fun i y h1 h2 => absurd h1 (by omega)) (fun h' hh => by omega) (fun q => ?_) ?_
    · refine ⟨fun z => ⟨Or.inl z, fun e => ?_⟩, fun z => z.1.elim id (fun e => absurd e z.2)⟩
      have := ti.2.2.1 q z
      omega
    · have z := OKq_of (O := O) (nu := nu) (c := mkc c C (tcN c + cs.length + 2 + 1 + 2) D6) (pc := tcN c + cs.length + 2) (ln := 1) (R := Q - 2) (x := nI 3) (op := 3) (dU6 _ _ f5j) (nO _ (by omega)) cn.2.1 (by show tcN c + cs.length + 2 + 1 ≤ tcN c + cs.length + 2 + 1 + 2; omega) (by omega) (by decide) (Nat.le_refl _) (by show C (tcN c + cs.length + 2) &&& 255 = _; rw [cJ]; exact em_lo (by decide)) (by show C (tcN c + cs.length + 2) >>> ((8 : Int32) &&& 31) = _; rw [cJ]; exact em_hi (by decide) (Sm3_n (by decide))) (fun c' a hc ro => OKI_1 (by decide) ⟨fun z => absurd z (by decide), fun _ => by
        rw [show uN (nI (tcN c + cs.length + 2) + nI 3) = tcN c + cs.length + 2 + 1 + 2 from by rw [u_add (by rw [u_n (by omega), u_n (by omega)]; omega), u_n (by omega), u_n (by omega)]]
        exact nx_of a hu f6 (nO _ (by omega)) (shRsh (d + 1) hp (fun i hi => List.mem_append_right _ hi)) (btw _ _) (btw _ _) (by omega), fun z => absurd z (by decide), fun z => absurd z (by decide), fun z => absurd z (by decide)⟩)
      intro c' a hc ro
      exact z c' a hc (fun p x o e => Nat.lt_of_lt_of_le (ro p x o e) (by omega))
  have cn7 : CnC O u p gl Vm nu (mkc c C (tcN c + cs.length + 2 + 1 + 2) D6) w ms := CnC_k cn (fun q y' e => dU6 q y' (dU5 q y' e))
  -- CLEAR
  have t8 := TI_it (C := C) (d := d) (It_cl (u := u) (p := p) (gl := gl) (Vm := Vm) (m := 1) (k := p' - p) (by omega)) (by show 1 ≤ 2; decide) t7 (fun q hq => nO q (by have : tcN c + cs.length + 2 + 1 + 2 ≤ q := hq; omega)) f6 hp cn7 (by show 1000 + 2 ≤ rkE - 2; omega) (by omega) ⟨by omega, by omega⟩ (by show tcN c + cs.length + 2 + 1 + 2 + 2 ≤ _; omega) (fun _ _ => rfl) (fun i hi => by
    have hi' : i < 2 := hi
    rcases (show i = 0 ∨ i = 1 by omega) with z | z
    · rw [z]; exact cT 5 (by decide)
    · rw [z]; exact cT 6 (by decide))
  have t8' : TI O H nu (rkE - 2 - 2) (mkc c C (tcN c + cs.length + 2 + 1 + 2 + 2) (up1 (mkc c C (tcN c + cs.length + 2 + 1 + 2) D6) 2 (u, d + 1, sh pre w ms, rkE - 2 - 2))) := t8
  have dU8 : ∀ q y', D6 q = some y' → up1 (mkc c C (tcN c + cs.length + 2 + 1 + 2) D6) 2 (u, d + 1, sh pre w ms, rkE - 2 - 2) q = some y' := fun q y' e => up1_d t7 (by decide) e
  generalize hD8 : up1 (mkc c C (tcN c + cs.length + 2 + 1 + 2) D6) 2 (u, d + 1, sh pre w ms, rkE - 2 - 2) = D8 at *
  have f8 : D8 (tcN c + cs.length + 2 + 1 + 2 + 2) = some (u, d + 1, sh pre w ms, rkE - 2 - 2) := by rw [← hD8]; exact up1_e (c := mkc c C (tcN c + cs.length + 2 + 1 + 2) D6)
  -- GIVE
  have t9 := TI_it (C := C) (d := d) (It_gi (u := u) (p := p) (gl := gl) (Vm := Vm)) (by show 1 ≤ 1; decide) t8' (fun q hq => nO q (by have : tcN c + cs.length + 2 + 1 + 2 + 2 ≤ q := hq; omega)) f8 hp (CnC_k cn (fun q y' e => dU8 q y' (dU6 q y' (dU5 q y' e)))) (by show 1000 + 1 ≤ rkE - 2 - 2; omega) (by omega) ⟨by omega, by omega⟩ (by show tcN c + cs.length + 2 + 1 + 2 + 2 + 1 ≤ _; omega) (fun _ _ => rfl) (fun i hi => by
    have hi' : i < 1 := hi
    rw [show i = 0 from by omega]
    exact cT 7 (by decide))
  refine ⟨up1 (mkc c C (tcN c + cs.length + 2 + 1 + 2 + 2) D8) 1 (u, d + 1, sh pre w ms, rkE - 2 - 2 - 1), ?_, fun q hq => ?_, ?_⟩
  · rw [show tcN c + (cs.length + 8) = tcN c + cs.length + 2 + 1 + 2 + 2 + 1 from by omega, show R - (cs.length + 8) = rkE - 2 - 2 - 1 from by omega]; exact t9
  · rw [up1_o (by show ¬ q = tcN c + cs.length + 2 + 1 + 2 + 2 + 1; omega)]
    show D8 q = _
    rw [← hD8, up1_o (by show ¬ q = tcN c + cs.length + 2 + 1 + 2 + 2; omega)]
    show D6 q = _
    rw [← hD6, up1_o (by show ¬ q = tcN c + cs.length + 2 + 1 + 2; omega)]
    exact low q hq
  · rw [show tcN c + (cs.length + 8) = tcN c + cs.length + 2 + 1 + 2 + 2 + 1 from by omega, show R - (cs.length + 8) = rkE - 2 - 2 - 1 from by omega]; exact up1_e (c := mkc c C (tcN c + cs.length + 2 + 1 + 2 + 2) D8)
end CUZ
