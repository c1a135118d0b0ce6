/-! The class: rows of iters with what they do; their NEXTs are told where they end. -/
section CUW
variable {c c' c1 c2 : Ct} {O O' H H' : Nat → Prop} {u nu nu' pc ln R R' p p' d rk k op w n m m' q t t' cnt : Nat} {r pre ms ms' xm : List Nat} {x v wd : Int32} {Vm Vm' : Nat → Prop} {cs ins o as : List Int32} {gl : Nat × (Nat → Nat → Prop)} {C : Nat → Int32} {y : Nat × Nat × List Nat × Nat} {nl : List (Nat × Nat × List Nat)}
theorem TI_R (t : TI O H nu R c) (h : R' ≤ R) : TI O H nu R' c := by
  obtain ⟨t1, t2, th, t3, t4⟩ := t
  refine ⟨t1, t2, th, t3, fun pc x e hp => ?_⟩
  rcases t4 pc x e hp with z | ⟨l, Rp, z1, z2, z3, z4⟩
  · exact Or.inl z
  · exact Or.inr ⟨l, Rp, z1, z2, by omega, z4⟩
/-- the NEXTs of a row, all typed: X is where it ends -/
theorem Cls {N X rkE : Nat} (hp : ∀ e, e ∈ pre → e < bsl) (hu : u ≤ nu ∨ u = 41) (u42 : u < 42) (hx : N + X ≤ 36864) : ∀ (nl : List (Nat × Nat × List Nat)) (O H : Nat → Prop) (c : Ct), tcF c u ≤ w → (∀ i, i ∈ ms → bsl ≤ i → (i - bsl) % 500000 < p) → RwL p cs nl → (∀ e, e ∈ nl → tcC c (N + e.1) = em 65 (nI e.2.1)) → (∀ e nl', nl = e :: nl' → ∀ f nl2, nl' = f :: nl2 → True) → (∀ i e, i < nl.length → nl.getD i (0, 0, []) = e → tcC c (N + e.1 + 1) = (if i + 1 < nl.length then nI (nl.getD (i + 1) (0, 0, [])).1 - nI e.1 else nI (X - e.1))) → (∀ e, e ∈ nl → e.1 + 2 ≤ X) → N + X ≤ tcN c → TI (fun q => O q ∨ ∃ e, e ∈ nl ∧ q = N + e.1) (fun q => H q ∨ ∃ e, e ∈ nl ∧ q = N + e.1) nu R c → (∀ q, N ≤ q → ¬ O q ∨ ∀ e, e ∈ nl → ¬ q = N + e.1 ∧ ¬ q = N + X ∧ ¬ q = N + e.1 + 2) → (∀ e, e ∈ nl → ¬ H (N + e.1) ∧ ¬ H (N + e.1 + 1)) → (∀ e, e ∈ nl → ¬ O (N + e.1) ∧ ¬ O (N + e.1 + 2)) → ¬ O (N + X) → tcD c (N + X) = some (u, d, sh pre w ms, rkE) → (∀ e, e ∈ nl → NxE u N d pre w ms (tcD c) e) → rkE + nl.length < R → R ≤ RK → ∃ D, TI O H nu R (mkc c (tcC c) (tcN c) D) ∧ (∀ q, (∀ e, e ∈ nl → ¬ q = N + e.1) → D q = tcD c q) ∧ ∀ e nl', nl = e :: nl' → D (N + e.1) = some (u, d, sh pre w ((bsl + e.2.1) :: (e.2.2 ++ ms)), rkE + nl.length) := by
  intro nl
  induction nl with
  | nil =>
    intro O H c hF hms hrl hcd _ hwd hX hN ti _ hH hO2 hOX hDX hNx hr hR
    refine ⟨tcD c, ?_, fun _ _ => rfl, fun e nl' h => by cases h⟩
    exact TI_oh ti (fun q => ⟨Or.inl, fun z => z.elim id (fun ⟨e, h, _⟩ => absurd h List.not_mem_nil)⟩) (fun q => ⟨Or.inl, fun z => z.elim id (fun ⟨e, h, _⟩ => absurd h List.not_mem_nil)⟩)
  | cons e0 nl ih =>
    intro O H c hF hms hrl hcd _ hwd hX hN ti _ hH hO2 hOX hDX hNx hr hR
    obtain ⟨z1, z2, ⟨z3, z3'⟩, z4, z5, z6, z7⟩ := hrl
    have bs : bsl = 1000000 := rfl
    have rk40 : RK = 40000 := rfl
    have x0 := hX e0 List.mem_cons_self
    have lt5 : ∀ e, e ∈ nl → e.1 + 2 ≤ e0.1 := z5
    obtain ⟨⟨ra, a1⟩, a2, rb, a3, a4⟩ := hNx e0 List.mem_cons_self
    have rr : rkE + nl.length + 1 < R := by
      have : rkE + (nl.length + 1) < R := hr
      omega
    obtain ⟨D1, t1, e1, f1⟩ := ih (fun q => O q ∨ q = N + e0.1) (fun q => H q ∨ q = N + e0.1) c hF hms z7 (fun e he => hcd e (List.mem_cons_of_mem _ he)) (fun _ _ _ _ _ _ => trivial) (fun i e hi he => by
      have z := hwd (i + 1) e (by show i + 1 < nl.length + 1; omega) he
      rw [z]
      by_cases q : i + 1 < nl.length
      · rw [if_pos q, if_pos (by show i + 1 + 1 < nl.length + 1; omega)]; rfl
      · rw [if_neg q, if_neg (by show ¬ i + 1 + 1 < nl.length + 1; omega)]) (fun e he => hX e (List.mem_cons_of_mem _ he)) hN (TI_oh ti (fun q => by
      constructor
      · rintro ((z | z) | ⟨e, he, z⟩)
        · exact Or.inl z
        · exact Or.inr ⟨e0, List.mem_cons_self, z⟩
        · exact Or.inr ⟨e, List.mem_cons_of_mem _ he, z⟩
      · rintro (z | ⟨e, he, z⟩)
        · exact Or.inl (Or.inl z)
        · rcases List.mem_cons.1 he with y | y
          · rw [y] at z; exact Or.inl (Or.inr z)
          · exact Or.inr ⟨e, y, z⟩) (fun q => by
      constructor
      · rintro ((z | z) | ⟨e, he, z⟩)
        · exact Or.inl z
        · exact Or.inr ⟨e0, List.mem_cons_self, z⟩
        · exact Or.inr ⟨e, List.mem_cons_of_mem _ he, z⟩
      · rintro (z | ⟨e, he, z⟩)
        · exact Or.inl (Or.inl z)
        · rcases List.mem_cons.1 he with y | y
          · rw [y] at z; exact Or.inl (Or.inr z)
          · exact Or.inr ⟨e, y, z⟩)) (fun q hq => by
      by_cases o : O q
      · right
        intro e he
        have h1 := hO2 e (List.mem_cons_of_mem _ he)
        exact ⟨fun z => h1.1 (z ▸ o), fun z => hOX (z ▸ o), fun z => h1.2 (z ▸ o)⟩
      · by_cases o2 : q = N + e0.1
        · right
          intro e he
          have h1 := lt5 e he
          refine ⟨by omega, by omega, fun z => ?_⟩
          have h2 := hNx e (List.mem_cons_of_mem _ he)
          obtain ⟨_, _, rb', _, h3⟩ := h2
          rw [← z, o2, a1] at h3
          have h4 := congrArg (fun s => match s with | some s => s.2.1 | none => 0) h3
          have h5 : d = d + 1 := h4
          omega
        · left
          exact fun z => z.elim o o2) (fun e he => by
      have h1 := hH e (List.mem_cons_of_mem _ he)
      have h2 := lt5 e he
      refine ⟨fun z => z.elim h1.1 (fun y => by omega), fun z => z.elim h1.2 (fun y => by omega)⟩) (fun e he => by
      have h1 := hO2 e (List.mem_cons_of_mem _ he)
      have h2 := lt5 e he
      refine ⟨fun z => z.elim h1.1 (fun y => by omega), fun z => z.elim h1.2 (fun y => ?_)⟩
      have h2 := hNx e (List.mem_cons_of_mem _ he)
      obtain ⟨_, _, rb', _, h3⟩ := h2
      rw [y, a1] at h3
      have h4 := congrArg (fun s => match s with | some s => s.2.1 | none => 0) h3
      have h5 : d = d + 1 := h4
      omega) (fun z => z.elim hOX (fun y => by omega)) hDX (fun e he => hNx e (List.mem_cons_of_mem _ he)) (by omega) hR
    have ne0 : ∀ e, e ∈ nl → ¬ N + e0.1 = N + e.1 := fun e he => by have := lt5 e he; omega
    have g0 : D1 (N + e0.1) = some (u, d, sh pre w ((bsl + e0.2.1) :: (e0.2.2 ++ ms)), ra) := (e1 _ ne0).trans a1
    have g1 : D1 (N + e0.1 + 1) = none := by
      rw [e1 _ (fun e he => by have := lt5 e he; omega)]; exact a2
    have g2 : D1 (N + e0.1 + 2) = some (u, d + 1, sh pre w ((bsl + e0.2.1) :: (e0.2.2 ++ ms)), rb) := by
      rw [e1 _ (fun e he => by have := lt5 e he; omega)]; exact a4
    have gX : D1 (N + X) = some (u, d, sh pre w ms, rkE) := by
      rw [e1 _ (fun e he => by have := hX e (List.mem_cons_of_mem _ he); omega)]; exact hDX
    let D2 : Nat → Option (Nat × Nat × List Nat × Nat) := fun q => if q = N + e0.1 then some (u, d, sh pre w ((bsl + e0.2.1) :: (e0.2.2 ++ ms)), rkE + nl.length + 1) else D1 q
    have d2e : D2 (N + e0.1) = some (u, d, sh pre w ((bsl + e0.2.1) :: (e0.2.2 ++ ms)), rkE + nl.length + 1) := if_pos rfl
    have d2o : ∀ q, ¬ q = N + e0.1 → D2 q = D1 q := fun q hq => if_neg hq
    have noO : ¬ O (N + e0.1) := (hO2 e0 List.mem_cons_self).1
    have t2 : TI O (fun q => H q ∨ q = N + e0.1) nu R (mkc c (tcC c) (tcN c) D2) := TI_cl (p0 := N + e0.1) (rk' := rkE + nl.length + 1) t1 (Or.inr rfl) g0 (by show N + e0.1 < tcN c; omega) rr rfl rfl ⟨⟨rfl, rfl⟩, rfl, rfl⟩ (fun q => rfl) (fun q => ⟨fun o => ⟨Or.inl o, fun z => noO (z ▸ o)⟩, fun z => z.1.elim id (fun y => absurd y z.2)⟩)
    have nxt : ∀ c' : Ct, CtG O u nu (mkc c (tcC c) (tcN c) D2) c' → ∃ r', Mrl (fun i s => i ∈ s) r' (sh pre w ((bsl + e0.2.1) :: (e0.2.2 ++ ms))) ∧ Nx c' (uN (nI (N + e0.1) + tcC c (N + e0.1 + 1))) u d r' (rkE + nl.length + 1) := by
      intro c' a
      have w0 := hwd 0 e0 (by show 0 < nl.length + 1; omega) rfl
      cases nl with
      | nil =>
        have w1 : tcC c (N + e0.1 + 1) = nI (X - e0.1) := w0
        refine ⟨sh pre w ms, sh_mrl pre hp (fun i hi => List.mem_cons_of_mem _ (List.mem_append_right _ hi)), ?_⟩
        rw [w1, u_add (by rw [u_n (by omega), u_n (by omega)]; omega), u_n (by omega), u_n (by omega), show N + e0.1 + (X - e0.1) = N + X from by omega]
        have gX' : D2 (N + X) = some (u, d, sh pre w ms, rkE) := (d2o _ (by omega)).trans gX
        exact nx_of a hu gX' hOX (Rsh_r _ _) (by rw [sh_bt pre _ hp]; exact hF) (by rw [sh_bt pre _ hp]; exact hF) (by show rkE < rkE + 0 + 1; omega)
      | cons f nl2 =>
        have w1 : tcC c (N + e0.1 + 1) = nI f.1 - nI e0.1 := w0
        have h5 := lt5 f List.mem_cons_self
        have sub := (z6 f nl2 rfl).2
        have gf : D1 (N + f.1) = some (u, d, sh pre w ((bsl + f.2.1) :: (f.2.2 ++ ms)), rkE + (f :: nl2).length) := f1 f nl2 rfl
        refine ⟨sh pre w ((bsl + f.2.1) :: (f.2.2 ++ ms)), sh_mrl pre hp (fun i hi => ?_), ?_⟩
        · rcases List.mem_cons.1 hi with y | y
          · exact List.mem_cons_of_mem _ (List.mem_append_left _ (sub i (Or.inl y)))
          · rcases List.mem_append.1 y with y | y
            · exact List.mem_cons_of_mem _ (List.mem_append_left _ (sub i (Or.inr y)))
            · exact List.mem_cons_of_mem _ (List.mem_append_right _ y)
        · have ew : uN (nI (N + e0.1) + tcC c (N + e0.1 + 1)) = N + f.1 := by
            rw [w1]
            have e9 : nI (N + e0.1) + (nI f.1 - nI e0.1) = nI (N + f.1) := by
              rw [show nI (N + e0.1) = nI N + nI e0.1 from (n_add (by omega)).symm, show nI (N + f.1) = nI N + nI f.1 from (n_add (by omega)).symm]
              rw [Int32.sub_eq_add_neg, Int32.add_assoc (nI N), ← Int32.add_assoc (nI e0.1), Int32.add_comm (nI e0.1) (nI f.1), Int32.add_assoc (nI f.1), Int32.add_right_neg, Int32.add_zero]
            rw [e9, u_n (by omega)]
          rw [ew]
          have gf' : D2 (N + f.1) = some (u, d, sh pre w ((bsl + f.2.1) :: (f.2.2 ++ ms)), rkE + (f :: nl2).length) := (d2o _ (by omega)).trans gf
          exact nx_of a hu gf' (hO2 f (List.mem_cons_of_mem _ List.mem_cons_self)).1 (Rsh_r _ _) (by rw [sh_bt pre _ hp]; exact hF) (by rw [sh_bt pre _ hp]; exact hF) (by omega)
    have g2' : D2 (N + e0.1 + 2) = some (u, d + 1, sh pre w ((bsl + e0.2.1) :: (e0.2.2 ++ ms)), rb) := (d2o _ (by omega)).trans g2
    have alln : ∀ i, i ∈ (bsl + e0.2.1) :: (e0.2.2 ++ ms) → bsl ≤ i → ¬ (i - bsl) % 500000 = e0.2.1 + 1 := fun i hi hb => by
      rcases List.mem_cons.1 hi with y | y
      · rw [y]; omega
      · rcases List.mem_append.1 y with y | y
        · have := z4 i y; omega
        · have := hms i y hb; omega
    have cE := hcd e0 List.mem_cons_self
    have t3 : TI O H nu R (mkc c (tcC c) (tcN c) D2) := by
      refine TI_fi (h := N + e0.1) (ln := 2) (x := (u, d, sh pre w ((bsl + e0.2.1) :: (e0.2.2 ++ ms)), rkE + nl.length + 1)) t2 (by decide) (Or.inr rfl) noO (by show N + e0.1 + 2 ≤ tcN c; omega) (fun _ _ => rfl) rfl d2e (fun i y h1 h2 ey => ?_) (fun h' hh => ?_) (fun q => ?_) ?_
      · have ei : i = N + e0.1 + 1 := by omega
        have ey' : D2 i = some y := ey
        rw [ei, d2o _ (by omega), g1] at ey'
        cases ey'
      · rcases hh with y | y
        · rcases Nat.lt_or_ge h' (N + e0.1 + 2) with z | z
          · left
            by_cases y1 : h' = N + e0.1 + 1
            · exact absurd (y1 ▸ y) (hH e0 List.mem_cons_self).2
            · omega
          · exact Or.inr z
        · left; omega
      · exact ⟨fun y => ⟨Or.inl y, fun z => (hH e0 List.mem_cons_self).1 (z ▸ y)⟩, fun y => y.1.elim id (fun z => absurd z y.2)⟩
      · have z := OKq_of (O := O) (nu := nu) (c := mkc c (tcC c) (tcN c) D2) (pc := N + e0.1) (ln := 2) (R := R) (x := nI e0.2.1) (op := 65) d2e noO u42 (by show N + e0.1 + 1 ≤ tcN c; omega) (by omega) (by decide) (by decide) (by show tcC c (N + e0.1) &&& 255 = _; rw [cE]; exact em_lo (by decide)) (by show tcC c (N + e0.1) >>> ((8 : Int32) &&& 31) = _; rw [cE]; exact em_hi (by decide) (Sm3_n (by omega))) (fun c' a hc ro => OKI_4 (by decide) ⟨by decide, by rw [u_n (by omega)]; omega, by
          rw [u_n (by omega)]
          have ew : tcC c' (N + e0.1 + 1) = tcC c (N + e0.1 + 1) := hc (N + e0.1 + 1) (by omega) (by omega)
          have n1 : tcN c ≤ tcN c' := a.1
          obtain ⟨r', m1, m2⟩ := nxt c' a
          exact ⟨fun z => absurd z (by decide), fun _ => ⟨r', sh_has pre hp List.mem_cons_self, z3', shAll pre hp alln, by omega, m1, by rw [ew]; exact m2, nxS_of a hu g2' (hO2 e0 List.mem_cons_self).2 (Rsh_r _ _) (by rw [sh_bt pre _ hp]; exact hF) (by rw [sh_bt pre _ hp]; exact hF) (by omega)⟩, fun z => absurd z (by decide), fun z => absurd z (by decide), fun z => absurd z (by decide), fun z => absurd z (by decide), fun z => absurd z (by decide), fun z => absurd z (by decide), fun z => absurd z (by decide), fun z => absurd z (by decide), fun z => absurd z (by decide)⟩⟩)
        exact z
    refine ⟨D2, t3, fun q hq => ?_, fun e nl' h => ?_⟩
    · rw [d2o q (hq e0 List.mem_cons_self)]
      exact e1 q (fun e he => hq e (List.mem_cons_of_mem _ he))
    · cases h
      exact d2e
end CUW
