/-! The house: program, whole, on both sides. -/
section DYW
variable {σ : CS} {ρ τ : MS} {b : Bool} {sz j n : Nat} {XE : XEt} {L : LV} {X : Option (PRG × ST)} {up pp : Nat → Int32}
theorem nI_inj {a c : Nat} (h : nI a = nI c) (ha : a < 2147483648) (hc : c < 2147483648) : a = c := (n_eq ha hc).mp h
/-- the tape is told alike, where it is told of so -/
theorem tRel_s {s : CS} (h : tRel σ ρ) (e1 : s.1 3701 = σ.1 3701) (e2 : s.2.2.1 38 = σ.2.2.1 38) : tRel s ρ := by
  unfold tRel at h ⊢
  rw [e1, e2]
  exact h
theorem tRel_0 {s : CS} (e1 : s.1 3701 = 0) (e2 : τ.1 4 = 0) : tRel s τ := by
  unfold tRel
  rw [e1, e2]
  refine ⟨rfl, fun i hi => ?_⟩
  have : (0 : Int32).toInt = 0 := rfl
  omega
theorem c_program (h : IC XE j σ) (hj : j < 512) (ht : tRel σ ρ) (hn : σ.1 3701 = nI n) (n20 : n ≤ 20 * j) (hG : gPrg (ρ.2.2 3) n (g0 (ρ.2.2 3) n up pp) = some X) : Tm (fun k => f_X11_program k 0 L σ) (fun r => r.1.1 = 0 ∧ (r.2.2.1 + PhC r.2.1 ≤ PhC σ + 1 ∧ r.2.2.2 + PhS r.2.1 ≤ PhS σ + 6) ∧ r.2.1.1 3701 = 0 ∧ (X = none → IC XE (j + 1) r.2.1 ∧ r.2.1.1 7510 = σ.1 7510 ∧ r.2.1.1 7511 = σ.1 7511 ∧ r.2.1.1 7513 = σ.1 7513) ∧ ∀ z, X = some z → IC (some (z.1.2.1.1, z.1.2.1.2.2.2.2.2.2)) (j + 1) r.2.1 ∧ r.2.1.1 7510 = 1 ∧ r.2.1.1 7511 = 0 ∧ r.2.1.1 7513 = 0) := by
  have h0 := h
  obtain ⟨n', sz, ⟨t1, t2, t3, t4⟩, ⟨p1, p2, p3, p4, p5, p6⟩, ⟨q1, q2, q3⟩, ⟨m1, m2⟩, pp'⟩ := h
  obtain rfl : n' = n := nI_inj (t2.symm.trans hn) (by omega) (by omega)
  have cu : sCur σ = !(sOt σ) := by rw [p1, Bool.not_not]
  obtain ⟨B, hB, fB, fB'⟩ := fP_B (sOt σ)
  have g1 := fB 1
  have g19 := fB 19
  have pr13 := pR_13 (sOt σ)
  refine Tm_suc (fun k => by rw [f_X11_program]) ?_
  refine Tm_op (c_empB (b := sOt σ) (sz := sz) (L := lB (lB lZ 0 (sOt σ)) 1 (sCur σ)) rfl cu (by rw [← cu]; exact p5.1)) (fun r1 eb => ?_)
  generalize r1.2 = σ1 at eb ⊢
  have so1 : sOt σ1 = sOt σ := eb.2.2.2.1.2.1
  have r38 : σ1.2.2.1 38 = σ.2.2.1 38 := eb.2.1.1 38 (by omega)
  have e37 : σ1.1 3701 = σ.1 3701 := eb.1.1 3701 (by omega)
  have n1 : sN σ1 = sN σ := eb.2.2.1.2
  have kd1 : sKd σ1 (sOt σ) = sKd σ (sCur σ) := by rw [eb.2.2.2.2.1, if_pos rfl, ← cu]
  have rdb : RdB (sOt σ) n' sz σ1 := by
    refine ⟨⟨?_, e37.trans t2, by omega, by rw [eb.2.2.1.1]; exact t4⟩, ⟨eb.1.2.1.1, ?_, ?_⟩, by rw [n1]; exact p3, by rw [n1]; exact p4, by rw [eb.2.1.2.1.1]; exact (p2 _).1⟩
    · unfold tOK at t1 ⊢
      rw [e37, n1, r38]
      exact t1
    · show sz ≤ sN σ1 (pR0 (sKd σ1 (sOt σ)))
      rw [kd1, n1]
      exact p5.2.1
    · show sN σ1 (pR0 (sKd σ1 (sOt σ))) = 36864 ∨ _
      rw [kd1, n1]
      exact p5.2.2
  have ph1 := Ph_s (σ := σ) (σ' := σ1) n1
  refine Tm_oxc (c_readProgram (b := sOt σ) (N0 := sz) (K := 2 * sz + 7 * n' + 110) (L := lB lZ 1 (sOt σ1)) rdb (tRel_s ht e37 r38) so1 ⟨⟨eb.1.2.1.2.1, eb.1.2.1.2.2.1, eb.1.2.1.2.2.2.1, eb.1.2.1.2.2.2.2⟩, eb.2.1.2.2.1, eb.2.1.2.2.2⟩ (by omega) (by omega) hG) (fun r h => h.1) (fun r2 z => ?_)
  obtain ⟨z1, z2, z3, z4, rd⟩ := z
  generalize hs : uKd (uI (uI r2.2.1 3701 0) 7512 ((uI r2.2.1 3701 0).1 4006)) (sCur (uI (uI r2.2.1 3701 0) 7512 ((uI r2.2.1 3701 0).1 4006))) (sKd (uI (uI r2.2.1 3701 0) 7512 ((uI r2.2.1 3701 0).1 4006)) (sOt (uI (uI r2.2.1 3701 0) 7512 ((uI r2.2.1 3701 0).1 4006)))) = s3
  have f0 : s3.1 3701 = 0 := by
    rw [← hs]
    show (uI (uI r2.2.1 3701 0) 7512 ((uI r2.2.1 3701 0).1 4006)).1 3701 = 0
    rw [uI_o (by decide), uI_s]
  have f1 : ∀ j, ¬ (j = 3701 ∨ j = 7512) → s3.1 j = r2.2.1.1 j := fun j hj => by
    rw [← hs]
    show (uI (uI r2.2.1 3701 0) 7512 ((uI r2.2.1 3701 0).1 4006)).1 j = _
    rw [uI_o (by omega), uI_o (by omega)]
  have f2 : s3.2.1 = r2.2.1.2.1 := by rw [← hs]; rfl
  have f3 : s3.2.2.1 = r2.2.1.2.2.1 := by rw [← hs]; rfl
  have f4 : s3.2.2.2.1 = r2.2.1.2.2.2.1 := by rw [← hs]; rfl
  have f5 : sN s3 = sN r2.2.1 := by rw [← hs]; rfl
  have f6 : sCur s3 = sCur r2.2.1 ∧ sOt s3 = sOt r2.2.1 ∧ sPr s3 = sPr r2.2.1 := by rw [← hs]; exact ⟨rfl, rfl, rfl⟩
  have f7 : s3.2.2.2.2.2.2 = r2.2.1.2.2.2.2.2.2 := by rw [← hs]; rfl
  have so2 : sOt r2.2.1 = sOt σ := rd.2.2.1.1.2.1.trans so1
  have sc2 : sCur r2.2.1 = !(sOt σ) := (rd.2.2.1.1.1.trans eb.2.2.2.1.1).trans cu
  have kk : ∀ d, sKd s3 d = if d = sCur r2.2.1 then sKd r2.2.1 (sOt r2.2.1) else sKd r2.2.1 d := fun d => by rw [← hs]; rfl
  have k1 : sKd s3 (!(sOt σ)) = sKd r2.2.1 (sOt σ) := by rw [kk, sc2, if_pos rfl, so2]
  have k2 : sKd s3 (sOt σ) = sKd r2.2.1 (sOt σ) := by
    rw [kk, sc2, if_neg (by cases sOt σ <;> decide)]
  clear hs kk
  have ph3 := Ph_s (σ := r2.2.1) (σ' := s3) f5
  cases X with
  | none =>
    have e0 := z3 rfl
    refine Tm_suc (fun k => by rw [f_X11_program]) ?_
    refine Tm_yes (show r2.1.2 = 0 from e0) ?_
    have w := pg_no h0 hj rfl eb rd p5 f0 f1 f2 f3 f4 f5 f6 f7 k1
    refine Tm_some ⟨rfl, ?_, f0, fun _ => w, fun z e => (by cases e)⟩
    show r2.2.2.1 + 0 + PhC s3 ≤ PhC σ + 1 ∧ r2.2.2.2 + 0 + PhS s3 ≤ PhS σ + 6
    omega
  | some z =>
    obtain ⟨e0, pf⟩ := z2 z rfl
    refine Tm_suc (fun k => by rw [f_X11_program]) ?_
    refine Tm_no (fun y => absurd ((show r2.1.2 = 0 from y).symm.trans e0) (by decide)) ?_
    refine pg_yes h0 hj t2 n20 rfl eb rd p5 pf f0 f1 f2 f3 f4 f5 f6 f7 k2 (fun s4 ic ph e4 => ?_)
    refine Tm_suc (fun k => by rw [f_X11_program]) ?_
    have ph5 := Ph_s (σ := s4) (σ' := uI (uI (uI (uOt (uCur s4 (sOt s4)) (sCur s4)) 7510 1) 7511 0) 7513 0) rfl
    refine Tm_some ⟨rfl, ?_, ?_, fun e => (by cases e), fun y ey => ?_⟩
    · show r2.2.2.1 + 0 + PhC (uI (uI (uI (uOt (uCur s4 (sOt s4)) (sCur s4)) 7510 1) 7511 0) 7513 0) ≤ PhC σ + 1 ∧ r2.2.2.2 + 0 + PhS (uI (uI (uI (uOt (uCur s4 (sOt s4)) (sCur s4)) 7510 1) 7511 0) 7513 0) ≤ PhS σ + 6
      omega
    · show (uI (uI (uI (uOt (uCur s4 (sOt s4)) (sCur s4)) 7510 1) 7511 0) 7513 0).1 3701 = 0
      rw [uI_o (by decide), uI_o (by decide), uI_o (by decide)]
      exact e4
    · obtain rfl := Option.some.inj ey
      refine ⟨ic, ?_, ?_, ?_⟩
      · show (uI (uI (uI (uOt (uCur s4 (sOt s4)) (sCur s4)) 7510 1) 7511 0) 7513 0).1 7510 = 1
        rw [uI_o (by decide), uI_o (by decide), uI_s]
      · show (uI (uI (uI (uOt (uCur s4 (sOt s4)) (sCur s4)) 7510 1) 7511 0) 7513 0).1 7511 = 0
        rw [uI_o (by decide), uI_s]
      · show (uI (uI (uI (uOt (uCur s4 (sOt s4)) (sCur s4)) 7510 1) 7511 0) 7513 0).1 7513 = 0
        rw [uI_s]
/-- a pair of calls -/
def cPr (j : Nat) (cs : Nat → Prop) (gC : CS → Nat → Option RS) (gM : MS → Nat → Option (Int32 × MS)) (E : RS → Int32 × MS → Prop) : Prop := ∀ σ τ, IB j σ τ → Tm (gC σ) (fun r => cs r.1.1 ∧ r.2.2.1 + PhC r.2.1 ≤ PhC σ + 2 ∧ r.2.2.2 + PhS r.2.1 ≤ PhS σ + 12 ∧ Tm (gM τ) (fun q => IB (j + 1) r.2.1 q.2 ∧ E r q))
theorem hp_program (hj : j < 512) : cPr j (fun x => x = 0) (fun σ k => f_X11_program k 0 lZ σ) (fun τ k => x_program k 0 (fun _ => 0) τ) (fun _ _ => True) := by
  intro σ τ h
  obtain ⟨XE, ic, rf, tr, e10, e11, e13⟩ := h
  have ic0 := ic
  obtain ⟨n, sz, ⟨t1, t2, t3, t4⟩, _⟩ := ic
  obtain ⟨X, hG⟩ := gPrg_tot (τ.2.2 3) n (τ.2.2 10) (τ.2.2 11)
  refine Tm_mono (c_program (L := lZ) ic0 hj tr t2 t3 hG) (fun r z => ?_)
  obtain ⟨z1, z2, z3, z4, z5⟩ := z
  refine ⟨z1, by omega, by omega, ?_⟩
  refine Tm_mono (rj_program rf (fun _ => 0)) (fun q w => ⟨?_, trivial⟩)
  obtain ⟨⟨n', tp, w1⟩, w2⟩ := w
  obtain rfl : n' = n := nI_inj (tp.1.1.symm.trans (tr.1.symm.trans t2)) (by have := tp.1.2; omega) (by omega)
  rcases w1 with ⟨y, y1, y2, y3, y4, y5⟩ | ⟨y1, y2, y3, y4, y5⟩
  · rw [y1] at hG
    obtain ⟨k1, k2, k3, k4⟩ := z5 y (Option.some.inj hG).symm
    exact ⟨_, k1, y2, tRel_0 z3 w2, ⟨fun e => absurd (k2.symm.trans e) (by decide), fun e => absurd e y3⟩, ⟨fun _ => y4, fun _ => k3⟩, by rw [k4, y5]⟩
  · rw [y1] at hG
    obtain ⟨k1, k2, k3, k4⟩ := z4 (Option.some.inj hG).symm
    exact ⟨XE, k1, y2, tRel_0 z3 w2, by rw [k2, y3]; exact e10, by rw [k3, y4]; exact e11, by rw [k4, y5]; exact e13⟩
end DYW
