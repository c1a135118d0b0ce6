/-! The class: an exp that is asked for, typed; its own places alone. -/
section DZL
variable {σ s : CS} {b : Bool} {N N0 M W n sz V vg nu F : Nat} {E : En} {c c1 : Ct} {MD : Nat → Nat → Nat} {cs : List Int32} {C : Nat → Int32} {gl : List Gn} {pr : Nat → Nat} {D : Nat → Option (Nat × Nat × List Nat × Nat)}
/-- its begin -/
theorem un_v (h : PgT E vg nu N0 W c) (hN0 : N0 ≤ tcN c) : TI noP noP nu RK (mkc c (tcC c) (tcN c) (fun p => if p = tcN c then some (41, 0, [bsl], RK) else tcD c p)) ∧ PgU E vg nu N0 W (mkc c (tcC c) (tcN c) (fun p => if p = tcN c then some (41, 0, [bsl], RK) else tcD c p)) := by
  obtain ⟨t, hD, pg⟩ := h
  refine ⟨TI_tb (On := False) (y := some (41, 0, [bsl], RK)) t (fun _ _ => rfl) rfl (fun u => Or.inl (CtG_r noP u nu c)) (Nat.le_refl _) (Or.inl hD) (fun p => rfl) (fun p => ⟨fun z => z.elim, fun z => z.elim id (fun w => w.2)⟩) (fun z => z.elim) (Nat.le_refl _), PgU_k pg (Nat.le_refl _) (fun q y e => ?_) (fun q y e => ?_)⟩
  · show (if q = tcN c then some (41, 0, [bsl], RK) else tcD c q) = some y
    rw [if_neg (fun z => by rw [z, hD] at e; cases e)]
    exact e
  · by_cases z : q = tcN c
    · omega
    · have e' : (if q = tcN c then some (41, 0, [bsl], RK) else tcD c q) = some y := e
      rw [if_neg z] at e'
      exact pg.1 q y e'
/-- it is laid -/
theorem Un_v (h : PgT E vg nu N0 W c) (hn : nu ≤ 40) (hN0 : N0 ≤ tcN c) (sg : Sgm 41 0 (glD E vg) (VmD 0) 1 cs) (hl : tcN c + cs.length + 1 ≤ 36864) (hC1 : ∀ i, i < tcN c → C i = tcC c i) (hC2 : ∀ i, i < cs.length → C (tcN c + i) = cs.getD i 0) (hC3 : C (tcN c + cs.length) = em 10 0) : ∃ D, PgT E vg nu N0 W (mkc c C (tcN c + cs.length + 1) D) ∧ D (tcN c) = some (41, 0, [bsl], RK) ∧ (∀ q y, tcD c q = some y → D q = some y) ∧ ∀ q, q < tcN c → D q = tcD c q := by
  have rk : RK = 40000 := rfl
  have hD := h.2.1
  have t0 := h.1
  have F0 : tcF c 41 = 0 := h.2.2.2.1.2.2.2
  obtain ⟨t, pg⟩ := un_v h hN0
  generalize hc1 : mkc c (tcC c) (tcN c) (fun p => if p = tcN c then some (41, 0, [bsl], RK) else tcD c p) = c1 at t pg
  have eN : tcN c1 = tcN c := by rw [← hc1]
  have eD : ∀ q, tcD c1 q = if q = tcN c then some (41, 0, [bsl], RK) else tcD c q := fun q => by rw [← hc1]
  have eF : tcF c1 41 = 0 := by rw [← hc1]; exact F0
  have eM : ∀ C N D, mkc c1 C N D = mkc c C N D := fun C N D => by rw [← hc1]
  have eC : tcC c1 = tcC c := by rw [← hc1]
  clear hc1
  have d0 : tcD c1 (tcN c1) = some (41, 0, sh [] 0 [], RK) := by rw [eD, eN, if_pos rfl]; rfl
  obtain ⟨D, t1, e1, f1⟩ := sg.2 noP noP nu RK c1 0 [] 0 [] C t (fun z => z) d0 (fun e he => absurd he List.not_mem_nil) (CnC_P (F := 0) (v := 0) pg hn (Or.inr rfl) eF (by omega) (Nat.le_refl _)) (by omega) (Nat.le_refl _) (by omega) (by omega) (by rw [eN, eC]; exact hC1) (by rw [eN]; exact hC2)
  rw [eN] at t1 e1 f1
  have dd : ∀ q y, tcD c q = some y → D q = some y := fun q y e => by
    have lt : q < tcN c := by
      rcases Nat.lt_trichotomy q (tcN c) with z | z | z
      · exact z
      · rw [z, hD] at e; cases e
      · rw [t0.2.2.2.1 q z] at e; cases e
    rw [e1 q (by omega), eD, if_neg (by omega)]
    exact e
  have t2 := TI_la (op := 10) (C := C) t1 (by decide) (by show tcN c + cs.length + 1 ≤ 36864; omega) f1 (by decide) (by omega) (fun _ _ => rfl) hC3 (fun c' a => OKI_v (by decide) ⟨rfl, by omega⟩)
  refine ⟨fun q => if q = tcN c + cs.length + 1 then none else D q, ⟨?_, if_pos rfl, ?_⟩, ?_, fun q y e => ?_, fun q hq => ?_⟩
  · rw [← eM]
    exact t2
  · refine PgU_k h.2.2 (by omega) (fun q y e => ?_) (fun q y e => ?_)
    · have lt : q ≤ tcN c := by
        rcases Nat.lt_or_ge (tcN c) q with z | z
        · rw [t0.2.2.2.1 q z] at e; cases e
        · exact z
      show (if q = tcN c + cs.length + 1 then none else D q) = some y
      rw [if_neg (by omega)]
      exact dd q y e
    · by_cases z : q = tcN c + cs.length + 1
      · have e' : (if q = tcN c + cs.length + 1 then none else D q) = some y := e
        rw [if_pos z] at e'
        cases e'
      · have e' : (if q = tcN c + cs.length + 1 then none else D q) = some y := e
        rw [if_neg z] at e'
        rcases Nat.lt_or_ge q (tcN c) with w | w
        · rw [e1 q (by omega), eD, if_neg (by omega)] at e'
          exact h.2.2.1 q y e'
        · omega
  · show (if tcN c = tcN c + cs.length + 1 then none else D (tcN c)) = _
    rw [if_neg (by omega), e1 _ (Nat.le_refl _), eD, if_pos rfl]
  · have lt : q ≤ tcN c := by
      rcases Nat.lt_or_ge (tcN c) q with z | z
      · rw [t0.2.2.2.1 q z] at e; cases e
      · exact z
    show (if q = tcN c + cs.length + 1 then none else D q) = some y
    rw [if_neg (by omega)]
    exact dd q y e
  · show (if q = tcN c + cs.length + 1 then none else D q) = _
    rw [if_neg (by omega), e1 q (by omega), eD, if_neg (by omega)]
/-- of what lies from N on, what is of unit 41 -/
def rsD (N : Nat) (D : Nat → Option (Nat × Nat × List Nat × Nat)) (q : Nat) : Option (Nat × Nat × List Nat × Nat) := if q < N then D q else match D q with
  | none => none
  | some x => if x.1 = 41 ∨ x.1 = 141 then some x else none
theorem rsD_1 {q : Nat} (h : q < N) : rsD N D q = D q := if_pos h
theorem rsD_2 {q : Nat} {x : Nat × Nat × List Nat × Nat} (h : D q = some x) (hx : x.1 = 41 ∨ x.1 = 141) : rsD N D q = some x := by
  unfold rsD
  by_cases z : q < N
  · rw [if_pos z]; exact h
  · rw [if_neg z, h]
    exact if_pos hx
theorem rsD_3 {q : Nat} {x : Nat × Nat × List Nat × Nat} (hq : ¬ q < N) (h : rsD N D q = some x) : D q = some x ∧ (x.1 = 41 ∨ x.1 = 141) := by
  unfold rsD at h
  rw [if_neg hq] at h
  cases e : D q with
  | none => rw [e] at h; cases h
  | some y =>
    rw [e] at h
    have h' : (if y.1 = 41 ∨ y.1 = 141 then some y else none) = some x := h
    by_cases k : y.1 = 41 ∨ y.1 = 141
    · rw [if_pos k] at h'
      cases h'
      exact ⟨rfl, k⟩
    · rw [if_neg k] at h'; cases h'
/-- as ck_M, with the told funcs alone -/
theorem ck_M2 (ut : UTb b nu c MD σ) (r18 : σ.2.2.1 (pR18 b) 0 = nI vg) (vg60 : vg ≤ 60) (nu40 : nu ≤ 40) (h : PgT E vg nu 0 vg c) (hc : ∀ i, i < tcN c → cdr b σ i = tcC c i) (le : tcN c ≤ cdn b σ) (h41 : σ.2.2.1 (pR18 b) 41 = 0) {pc : Nat} {x : Nat × Nat × List Nat × Nat} (e' : tcD c pc = some x) : CkP (cdr b σ, cdn b σ, fun v => uN (σ.2.2.1 (pR13 b) v), fun v => uN (σ.2.2.1 (pR14 b) v), fun v => uN (σ.2.2.1 (pR18 b) v), fun v => tcK c v ∧ v ≤ nu, tcD c) pc := by
  obtain ⟨ti, dn, pgu⟩ := h
  have lt : pc < tcN c := by
    rcases Nat.lt_trichotomy pc (tcN c) with z | z | z
    · exact z
    · rw [z, dn] at e'; cases e'
    · rw [ti.2.2.2.1 pc z] at e'; cases e'
  rcases ti.2.2.2.2 pc _ e' lt with z | ⟨ln, Rp, l1, l2, l3, l4, ok⟩
  · exact z.elim
  have cg : CtG noP (x.1 % 100) nu c (cdr b σ, cdn b σ, fun v => if v = 41 then tcE c 41 else uN (σ.2.2.1 (pR13 b) v), fun v => if v = 41 then tcP c 41 else uN (σ.2.2.1 (pR14 b) v), fun v => uN (σ.2.2.1 (pR18 b) v), fun v => tcK c v ∧ v ≤ nu, tcD c) := by
    have f0 : uN (σ.2.2.1 (pR18 b) 0) = tcF c 0 := by rw [r18, u_n (by omega), pgu.2.1.1.2]
    refine ⟨le, fun v hv => ?_, fun v hv => ⟨fun z => z.1, fun z => ⟨z, ?_⟩⟩, ⟨Nat.le_of_eq f0.symm, fun _ => f0⟩, fun p x ex => ⟨fun _ => ex, fun o => o.elim⟩⟩
    · rcases hv with ⟨v1, v2⟩ | hv
      · obtain ⟨k1, k2, k3⟩ := ut_E ut pgu ti.1 v1 v2
        refine ⟨?_, ?_, k3⟩
        · show (if v = 41 then tcE c 41 else uN (σ.2.2.1 (pR13 b) v)) = _
          rw [if_neg (by omega)]; exact k1
        · show (if v = 41 then tcP c 41 else uN (σ.2.2.1 (pR14 b) v)) = _
          rw [if_neg (by omega)]; exact k2
      · subst hv
        refine ⟨(show (if (41 : Nat) = 41 then tcE c 41 else uN (σ.2.2.1 (pR13 b) 41)) = tcE c 41 from if_pos rfl), (show (if (41 : Nat) = 41 then tcP c 41 else uN (σ.2.2.1 (pR14 b) 41)) = tcP c 41 from if_pos rfl), ?_⟩
        show uN (σ.2.2.1 (pR18 b) 41) = tcF c 41
        rw [h41, pgu.2.1.2.2.2]; rfl
    · rcases hv with hv | hv
      · exact hv
      · rw [hv] at z
        exact absurd z pgu.2.1.2.2.1
  have shr : ShR 0 (cdr b σ, cdn b σ, fun v => if v = 41 then tcE c 41 else uN (σ.2.2.1 (pR13 b) v), fun v => if v = 41 then tcP c 41 else uN (σ.2.2.1 (pR14 b) v), fun v => uN (σ.2.2.1 (pR18 b) v), fun v => tcK c v ∧ v ≤ nu, tcD c) (cdr b σ, cdn b σ, fun v => uN (σ.2.2.1 (pR13 b) v), fun v => uN (σ.2.2.1 (pR14 b) v), fun v => uN (σ.2.2.1 (pR18 b) v), fun v => tcK c v ∧ v ≤ nu, tcD c) := ⟨fun p x ex => ⟨Nat.zero_le _, ex⟩, rfl, fun v hv => ⟨if_neg (by omega), if_neg (by omega)⟩, fun _ => rfl, fun _ => Iff.rfl, fun i => rfl⟩
  have ck : CkP (cdr b σ, cdn b σ, fun v => if v = 41 then tcE c 41 else uN (σ.2.2.1 (pR13 b) v), fun v => if v = 41 then tcP c 41 else uN (σ.2.2.1 (pR14 b) v), fun v => uN (σ.2.2.1 (pR18 b) v), fun v => tcK c v ∧ v ≤ nu, tcD c) (pc + 0) := ok _ cg (fun i i1 i2 => hc i (by omega)) (fun _ _ o _ => o.elim)
  have t1 := ti.1
  exact mvd_P shr (fun x ex => ex) (by omega) ck
/-- the machine's code while an exp is asked: c is that of the program, D with the exp -/
theorem ck_R (ck : CkA (cM c b σ)) (t0 : PgT E vg nu 0 vg c) (eN : tcN c = N) (ut : UTb b nu c MD σ) (r18 : σ.2.2.1 (pR18 b) 0 = nI vg) (vg60 : vg ≤ 60) (nu40 : nu ≤ 40) (t1 : PgT E vg nu 0 vg (mkc c C M D)) (hc : ∀ i, i < M → cdr b σ i = C i) (le : M ≤ cdn b σ) (h41 : σ.2.2.1 (pR18 b) 41 = 0) (h1 : ∀ q y, tcD c q = some y → D q = some y) (h2 : ∀ q, q < N → D q = tcD c q) : CkA (cM (mkc c C M (rsD N D)) b σ) ∧ (∀ p x, tcD c p = some x → rsD N D p = some x) ∧ ∀ p x, rsD N D p = some x → x.1 < 41 → tcD c p = some x := by
  have ltN : ∀ p x, tcD c p = some x → p < N := fun p x e => by
    rcases Nat.lt_trichotomy p N with z | z | z
    · exact z
    · rw [z, ← eN, t0.2.1] at e; cases e
    · rw [t0.1.2.2.2.1 p (by omega)] at e; cases e
  have up : ∀ p x, tcD c p = some x → rsD N D p = some x := fun p x e => by rw [rsD_1 (ltN p x e)]; exact h1 p x e
  have dn : ∀ p x, rsD N D p = some x → x.1 < 41 → tcD c p = some x := fun p x e hx => by
    by_cases z : p < N
    · rw [rsD_1 z, h2 p z] at e; exact e
    · have := (rsD_3 z e).2
      omega
  refine ⟨⟨ck.1, ck.2.1, fun pc => ?_⟩, up, dn⟩
  by_cases z : pc < N
  · have sh0 : ShR 0 (cM c b σ) (cM (mkc c C M (rsD N D)) b σ) := ⟨fun p x ex => ⟨Nat.zero_le _, up p x ex⟩, rfl, fun v hv => ⟨rfl, rfl⟩, fun _ => rfl, fun _ => Iff.rfl, fun i => rfl⟩
    have k : CkP (cM c b σ) (pc + 0) := ck.2.2 pc
    exact mvd_P (c2 := cM (mkc c C M (rsD N D)) b σ) sh0 (fun x ex => by
      have ex' : rsD N D pc = some x := ex
      rw [rsD_1 z, h2 pc z] at ex'
      exact ex') (by have := t0.1.1; omega) k
  · intro u d r rk e
    have e' : rsD N D pc = some (u, d, r, rk) := e
    obtain ⟨e1, e2⟩ := rsD_3 z e'
    have k := ck_M2 (c := mkc c C M D) (x := (u, d, r, rk)) (MD := MD) (fun i hi => ut i hi) r18 vg60 nu40 t1 hc le h41 e1
    have lt : pc < M := by
      rcases Nat.lt_trichotomy pc M with w | w | w
      · exact w
      · have y : D M = none := t1.2.1
        rw [w, y] at e1; cases e1
      · have y : D pc = none := t1.1.2.2.2.1 pc w
        rw [y] at e1; cases e1
    have M36 : M ≤ 36864 := t1.1.1
    refine rst_P (c1 := (cdr b σ, cdn b σ, fun v => uN (σ.2.2.1 (pR13 b) v), fun v => uN (σ.2.2.1 (pR14 b) v), fun v => uN (σ.2.2.1 (pR18 b) v), fun v => tcK c v ∧ v ≤ nu, D)) (c2 := cM (mkc c C M (rsD N D)) b σ) ⟨fun p x ex hx => rsD_2 ex hx, rfl, fun v kv => ⟨⟨rfl, rfl⟩, kv.1, fun x ex => ?_⟩, fun _ => rfl, trivial, fun _ => rfl⟩ (fun x ex => rsD_3 z ex) (by omega) k u d r rk e
    have v1 : 1 ≤ v := by
      rcases Nat.eq_zero_or_pos v with w | w
      · have := kv.1
        rw [w] at this
        exact absurd this t0.2.2.2.1.2.1
      · exact w
    have kv2 : v ≤ nu := kv.2
    obtain ⟨k1, _, _⟩ := ut_E ut t0.2.2 t0.1.1 v1 kv2
    obtain ⟨_, _, rk', _, _, a5⟩ := t0.2.2.2.2.1 (v - 1) (by omega)
    rw [show v - 1 + 1 = v by omega] at a5
    have lt2 := ltN _ _ a5
    show rsD N D (uN (σ.2.2.1 (pR13 b) v)) = some x
    have ex' : D (uN (σ.2.2.1 (pR13 b) v)) = some x := ex
    rw [k1] at ex' ⊢
    rw [rsD_1 lt2]
    exact ex'
end DZL
