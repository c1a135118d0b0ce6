/-! The house: a program as it stands, and the machine over it. -/
section DYR
variable {σ σ' : CS} {c c1 c2 : Ct} {gl : List Gn} {pr : Nat → Nat} {b : Bool} {sz V j n : Nat} {XE : XEt} {L : LV}
/-- code as the machine has it -/
def cM (c : Ct) (b : Bool) (σ : CS) : Ct := (cdr b σ, cdn b σ, fun u => uN (σ.2.2.1 (pR13 b) u), fun u => uN (σ.2.2.1 (pR14 b) u), fun u => uN (σ.2.2.1 (pR18 b) u), tcK c, tcD c)
/-- a program that stands: names, units, code, entry, views -/
def PgI (gl : List Gn) (pr : Nat → Nat) (b : Bool) (sz V : Nat) (c : Ct) (σ : CS) : Prop := ∃ (E : En) (nu vg e0 : Nat) (MD : Nat → Nat → Nat), (E.1 = gl ∧ E.2.2.2.2.2.2 = pr) ∧ (TbR b (tbE 0 E) σ ∧ DE E 0 vg nu vg) ∧ (UTb b nu c MD σ ∧ σ.2.2.1 (pR18 b) 0 = nI vg) ∧ PgT E vg nu 0 vg c ∧ (tcN c = sz ∧ ∀ i, i < sz → cdr b σ i = tcC c i) ∧ (σ.1 (fP b 2) = nI e0 ∧ e0 < sz ∧ tcD c e0 = some (0, 0, (bsl + vg) :: Vl vg, 2)) ∧ ∀ i, i < V → ∃ pc rk, σ.2.2.1 64 i = nI pc ∧ pc < sz ∧ rk ≤ RK ∧ tcD c pc = some (41, 0, [bsl], rk)
theorem cdn_le (h : CdL b sz σ) : cdn b σ ≤ 36864 := by
  rcases h.2.2 with z | ⟨z1, z2⟩
  · omega
  · have e : cdn b σ = 1024 := by
      show sN σ (pR0 (sKd σ b)) = 1024
      rcases pR0_c (sKd σ b) with w | w
      · rw [w]; exact z1
      · rw [w]; exact z2
    omega
/-- the units told, as the rows have them -/
theorem ut_E {E : En} {nu vg : Nat} {MD : Nat → Nat → Nat} (ut : UTb b nu c MD σ) (pgu : PgU E vg nu 0 vg c) (ti : tcN c ≤ 36864) {v : Nat} (h1 : 1 ≤ v) (h2 : v ≤ nu) : uN (σ.2.2.1 (pR13 b) v) = tcE c v ∧ uN (σ.2.2.1 (pR14 b) v) = tcP c v ∧ uN (σ.2.2.1 (pR18 b) v) = tcF c v := by
  obtain ⟨i, rfl⟩ : ∃ i, v = i + 1 := ⟨v - 1, by omega⟩
  obtain ⟨⟨y1, y2, y3⟩, _⟩ := ut i (by omega)
  obtain ⟨_, ⟨a1, a2, a3, a4⟩, _⟩ := pgu.2.2.1 i (by omega)
  rw [y1, y2, y3]
  exact ⟨u_n (by omega), u_n (by omega), u_n (by omega)⟩
theorem ck_M (h : PgI gl pr b sz V c σ) (cd : CdL b sz σ) (h41 : σ.2.2.1 (pR18 b) 41 = 0) : CkA (cM c b σ) := by
  obtain ⟨E, nu, vg, e0, MD, ⟨e1, e2⟩, ⟨tb, de⟩, ⟨ut, r18⟩, ⟨ti, dn, pgu⟩, ⟨eN, hc⟩, en, vw⟩ := h
  have nu40 := de.2.1.2.2.1
  have vg60 := de.2.1.2.1
  refine ⟨cdn_le cd, pgu.2.1.2.2.1, fun pc u d r rk e => ?_⟩
  have e' : tcD c pc = some (u, d, r, rk) := e
  have lt : pc < tcN c := by
    rcases Nat.lt_trichotomy pc (tcN c) with z | z | z
    · exact z
    · rw [z, dn] at e'; cases e'
    · rw [ti.2.2.2.1 pc z] at e'; cases e'
  rcases ti.2.2.2.2 pc _ e' lt with z | ⟨ln, Rp, l1, l2, l3, l4, ok⟩
  · exact z.elim
  have cg : CtG noP (u % 100) nu c (cdr b σ, cdn b σ, fun v => if v = 41 then tcE c 41 else uN (σ.2.2.1 (pR13 b) v), fun v => if v = 41 then tcP c 41 else uN (σ.2.2.1 (pR14 b) v), fun v => uN (σ.2.2.1 (pR18 b) v), tcK c, tcD c) := by
    have f0 : uN (σ.2.2.1 (pR18 b) 0) = tcF c 0 := by rw [r18, u_n (by omega), pgu.2.1.1.2]
    refine ⟨by rw [eN]; exact cd.2.1, fun v hv => ?_, fun v hv => Iff.rfl, ⟨Nat.le_of_eq f0.symm, fun _ => f0⟩, fun p x ex => ⟨fun _ => ex, fun o => o.elim⟩⟩
    rcases hv with ⟨v1, v2⟩ | hv
    · obtain ⟨k1, k2, k3⟩ := ut_E ut pgu ti.1 v1 v2
      refine ⟨?_, ?_, k3⟩
      · show (if v = 41 then tcE c 41 else uN (σ.2.2.1 (pR13 b) v)) = _
        rw [if_neg (by omega)]; exact k1
      · show (if v = 41 then tcP c 41 else uN (σ.2.2.1 (pR14 b) v)) = _
        rw [if_neg (by omega)]; exact k2
    · subst hv
      refine ⟨(show (if (41 : Nat) = 41 then tcE c 41 else uN (σ.2.2.1 (pR13 b) 41)) = tcE c 41 from if_pos rfl), (show (if (41 : Nat) = 41 then tcP c 41 else uN (σ.2.2.1 (pR14 b) 41)) = tcP c 41 from if_pos rfl), ?_⟩
      show uN (σ.2.2.1 (pR18 b) 41) = tcF c 41
      rw [h41, pgu.2.1.2.2.2]; rfl
  have sh : ShR 0 (cdr b σ, cdn b σ, fun v => if v = 41 then tcE c 41 else uN (σ.2.2.1 (pR13 b) v), fun v => if v = 41 then tcP c 41 else uN (σ.2.2.1 (pR14 b) v), fun v => uN (σ.2.2.1 (pR18 b) v), tcK c, tcD c) (cM c b σ) := ⟨fun p x ex => ⟨Nat.zero_le _, ex⟩, rfl, fun v hv => ⟨if_neg (by omega), if_neg (by omega)⟩, fun _ => rfl, fun _ => Iff.rfl, fun i => rfl⟩
  have ck : CkP (cdr b σ, cdn b σ, fun v => if v = 41 then tcE c 41 else uN (σ.2.2.1 (pR13 b) v), fun v => if v = 41 then tcP c 41 else uN (σ.2.2.1 (pR14 b) v), fun v => uN (σ.2.2.1 (pR18 b) v), tcK c, tcD c) (pc + 0) := ok _ cg (fun i i1 i2 => hc i (by omega)) (fun _ _ o _ => o.elim)
  have t1 := ti.1
  exact mvd_P sh (fun x ex => ex) (by omega) ck u d r rk e
theorem en_M (h : PgI gl pr b sz V c σ) (cd : CdL b sz σ) : EnP (cM c b σ) σ b := by
  obtain ⟨E, nu, vg, e0, MD, ⟨e1, e2⟩, ⟨tb, de⟩, ⟨ut, r18⟩, ⟨ti, dn, pgu⟩, ⟨eN, hc⟩, ⟨en1, en2, en3⟩, vw⟩ := h
  have vg60 := de.2.1.2.1
  have f0 : tcF (cM c b σ) 0 = vg := by show uN (σ.2.2.1 (pR18 b) 0) = vg; rw [r18, u_n (by omega)]
  have ee : uN (σ.1 (fP b 2)) = e0 := by rw [en1, u_n (by have := ti.1; omega)]
  refine ⟨by rw [f0]; omega, ⟨pgu.2.1.2.1, by decide⟩, by rw [ee]; have := ti.1; omega, 2, by show 2 ≤ 40000; omega, ?_⟩
  rw [ee, f0]
  exact en3
theorem fs_M (h : PgI gl pr b sz V c σ) (cd : CdL b sz σ) : tcS (cM c b σ) 0 ∧ tcF (cM c b σ) 0 ≤ 200 := ⟨(en_M h cd).2.1, (en_M h cd).1⟩
theorem ct_M (e : sPr σ = some b) : CtL (cM c b σ) σ := ⟨b, e, rfl, rfl, fun u _ => ⟨rfl, rfl, rfl⟩⟩
theorem ev_M (h : PgI gl pr b sz V c σ) (h41 : σ.2.2.1 (pR18 b) 41 = 0) {i : Nat} (hi : i < V) : EnV (cM c b σ) (uN (σ.2.2.1 64 i)) := by
  obtain ⟨E, nu, vg, e0, MD, ⟨e1, e2⟩, ⟨tb, de⟩, ⟨ut, r18⟩, ⟨ti, dn, pgu⟩, ⟨eN, hc⟩, en, vw⟩ := h
  obtain ⟨pc, rk, v1, v2, v3, v4⟩ := vw i hi
  refine ⟨by show uN (σ.2.2.1 (pR18 b) 41) = 0; rw [h41]; rfl, rk, v3, ?_⟩
  rw [v1, u_n (by have := ti.1; omega)]
  exact v4
/-- what holds of the house between calls; XE: the names of its program -/
def IC (XE : XEt) (j : Nat) (σ : CS) : Prop := ∃ (n sz : Nat), (tOK σ ∧ σ.1 3701 = nI n ∧ n ≤ 20 * j ∧ σ.2.2.2.1 39 = lxW) ∧ (sOt σ = !(sCur σ) ∧ (∀ b, σ.2.2.1 (pR18 b) 41 = 0 ∧ σ.2.2.1 (pR14 b) 41 = 0) ∧ sN σ 41 ≤ 21504 ∧ (sN σ 42 = 64 ∨ sN σ 42 = 16384) ∧ CdL (sCur σ) sz σ ∧ 2 * sz + 7 * (n + 20 * (512 - j)) ≤ 71682) ∧ (uN (σ.1 7517) ≤ sN σ 66 ∧ uN (σ.1 7518) ≤ 2 ∧ uN (σ.1 7513) ≤ 8) ∧ (Hmx σ ∧ BY False σ) ∧ ((σ.1 7510 = 0 ∧ σ.1 7511 = 0 ∧ XE = none) ∨ (¬ σ.1 7510 = 0 ∧ ∃ (gl : List Gn) (pr : Nat → Nat) (c : Ct), XE = some (gl, pr) ∧ PgI gl pr (sCur σ) sz (uN (σ.1 7513)) c σ ∧ (¬ σ.1 7511 = 0 → sPr σ = some (sCur σ) ∧ Mst (cM c (sCur σ) σ) σ ∧ uN (σ.1 1903) ≤ 20000 * j)))
/-- both sides -/
def IB (j : Nat) (s : CS) (t : MS) : Prop := ∃ XE : XEt, IC XE j s ∧ RfJ XE j t ∧ tRel s t ∧ (s.1 7510 = 0 ↔ t.1 111 = 0) ∧ (s.1 7511 = 0 ↔ t.1 112 = 0) ∧ s.1 7513 = t.1 73
/-- the other program begins behind the current one -/
def EB (b : Bool) (sz : Nat) (σ σ1 : CS) : Prop := ((∀ j, ¬ (fP b 1 ≤ j ∧ j ≤ fP b 19) → σ1.1 j = σ.1 j) ∧ (σ1.1 (fP b 1) = nI sz ∧ σ1.1 (fP b 3) = 0 ∧ σ1.1 (fP b 11) = 0 ∧ σ1.1 (fP b 12) = 0 ∧ σ1.1 (fP b 19) = 0) ∧ σ1.2.1 = σ.2.1) ∧ ((∀ k, ¬ (k = pR13 b ∨ k = pR14 b ∨ k = pR15 b ∨ k = pR16 b ∨ k = pR17 b ∨ k = pR18 b) → σ1.2.2.1 k = σ.2.2.1 k) ∧ (σ1.2.2.1 (pR18 b) 41 = σ.2.2.1 (pR18 b) 41 ∧ σ1.2.2.1 (pR14 b) 41 = σ.2.2.1 (pR14 b) 41) ∧ σ1.2.2.1 (pR16 b) 0 = 0 ∧ σ1.2.2.1 (pR18 b) 0 = 0) ∧ (σ1.2.2.2.1 = σ.2.2.2.1 ∧ sN σ1 = sN σ) ∧ ((sCur σ1 = sCur σ ∧ sOt σ1 = sOt σ ∧ sPr σ1 = sPr σ) ∧ (∀ d, sKd σ1 d = if d = b then sKd σ (!b) else sKd σ d) ∧ σ1.2.2.2.2.2.2 = σ.2.2.2.2.2.2)
theorem fP_B (b : Bool) : ∃ B, (B = 5000 ∨ B = 6800) ∧ (∀ j, fP b j = B + j) ∧ ∀ j, fP (!b) j = 11800 - B + j := by
  cases b
  · exact ⟨6800, Or.inr rfl, fun j => rfl, fun j => rfl⟩
  · exact ⟨5000, Or.inl rfl, fun j => rfl, fun j => rfl⟩
theorem c_empB (h0 : L.2.2.1 0 = b) (h1 : L.2.2.1 1 = !b) (hz : σ.1 (fP (!b) 1) = nI sz) : Tm (fun k => y_X7_emptyBehind__P__P k 0 L σ) (fun r => EB b sz σ r.2) := by
  refine Tm_suc (fun k => by rw [y_X7_emptyBehind__P__P]) ?_
  refine Tm_suc (fun k => by rw [y_X7_emptyBehind__P__P]) ?_
  refine Tm_suc (fun k => by rw [y_X7_emptyBehind__P__P]) ?_
  rw [h0, h1]
  obtain ⟨B, hB, fB, fB'⟩ := fP_B b
  have g1 := fB 1
  have g2 := fB 2
  have g3 := fB 3
  have g4 := fB 4
  have g11 := fB 11
  have g12 := fB 12
  have g19 := fB 19
  have nb : ¬ fP (!b) 1 = fP b 1 := by have := fB' 1; omega
  have y1 : (uI (uKd σ b (sKd σ (!b))) (fP b 1) ((uKd σ b (sKd σ (!b))).1 (fP (!b) 1))).1 (fP (!b) 1) = nI sz := by
    rw [uI_o nb]
    exact hz
  rw [y1, show (uKd σ b (sKd σ (!b))).1 (fP (!b) 1) = nI sz from hz]
  generalize hs : uI (uI (uI (uI (uI (uI (uKd σ b (sKd σ (!b))) (fP b 1) (nI sz)) (fP b 2) (nI sz)) (fP b 3) 0) (fP b 4) 0) (fP b 11) 0) (fP b 12) 0 = s
  have s2 : s.2 = (uKd σ b (sKd σ (!b))).2 := by rw [← hs]; rfl
  have sf : ∀ j, ¬ (fP b 1 ≤ j ∧ j ≤ fP b 19) → s.1 j = σ.1 j := fun j hj => by
    rw [← hs, uI_o (by omega), uI_o (by omega), uI_o (by omega), uI_o (by omega), uI_o (by omega), uI_o (by omega)]
    rfl
  have s1 : s.1 (fP b 1) = nI sz := by
    rw [← hs, uI_o (by omega), uI_o (by omega), uI_o (by omega), uI_o (by omega), uI_o (by omega), uI_s]
  have s3 : s.1 (fP b 3) = 0 := by
    rw [← hs, uI_o (by omega), uI_o (by omega), uI_o (by omega), uI_s]
  have s11 : s.1 (fP b 11) = 0 := by
    rw [← hs, uI_o (by omega), uI_s]
  have s12 : s.1 (fP b 12) = 0 := by
    rw [← hs, uI_s]
  refine Tm_oc (c_openUnit (L := lI (lB lZ 0 b) 1 0) (u := 0) (b := b) (by decide) rfl rfl) (fun r hr => Tm_some ?_)
  show EB b sz σ r.2
  rw [hr]
  refine ⟨⟨fun j hj => ?_, ⟨?_, ?_, ?_, ?_, opU_19⟩, ?_⟩, ⟨fun k hk => ?_, ⟨?_, ?_⟩, ?_, ?_⟩, ⟨?_, ?_⟩, ⟨⟨?_, ?_, ?_⟩, fun d => ?_, ?_⟩⟩
  · exact (opU_f (by omega)).trans (sf j hj)
  · exact (opU_f (by omega)).trans s1
  · exact (opU_f (by omega)).trans s3
  · exact (opU_f (by omega)).trans s11
  · exact (opU_f (by omega)).trans s12
  · rw [opU_2.1, s2]; rfl
  · rw [opU_k hk, s2]; rfl
  · rw [opU_18, upd_other (by decide), s2]; rfl
  · rw [opU_14, upd_other (by decide), s2]; rfl
  · rw [opU_16, upd_same]
  · rw [opU_18, upd_same]
  · rw [opU_2.2, s2]; rfl
  · show (opU b 0 (s.1 (fP b 1)) s).2.2.2.2.1 = _
    rw [opU_2.2, s2]; rfl
  · show (opU b 0 (s.1 (fP b 1)) s).2.2.2.2.2.1.1 = _
    rw [opU_2.2, s2]; rfl
  · show (opU b 0 (s.1 (fP b 1)) s).2.2.2.2.2.1.2.1 = _
    rw [opU_2.2, s2]; rfl
  · show (opU b 0 (s.1 (fP b 1)) s).2.2.2.2.2.1.2.2.1 = _
    rw [opU_2.2, s2]; rfl
  · show (opU b 0 (s.1 (fP b 1)) s).2.2.2.2.2.1.2.2.2.2 d = _
    rw [opU_2.2, s2]; rfl
  · rw [opU_2.2, s2]; rfl
end DYR
