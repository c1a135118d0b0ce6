/-! The class: gathering whole, parts. -/
section CTR
variable {g g' g2 : Nat → Prop} {l l' l2 : List Nat} {t t' t2 : Nat} {σ σ' σ2 : CS} {L : LV} {x y i : Int32} {M M' U U' : Nat → Int32} {K K' K2 K2' K3 K4 K4' KB : Nat → Option Int32} {c : Ct} {B f0 u0 : Nat} {fs : List FrT} {u d : Nat} {r r' : List Nat} {pb nf nc sq rk : Nat}
def Ok5 (c : Ct) (pc u d : Nat) (r : List Nat) (rk op : Nat) (num : Int32) : Prop := (op = 80 → ∃ f, f < 2 ∧ 2 * d + f < 250000 ∧ Nx c (pc + 1) u 0 ((2 * d + f) :: r) rk) ∧ (op = 81 → ∃ e s, d = 1 ∧ r = e :: s ∧ e < 250000 ∧ e % 2 = 1 ∧ Nx c (pc + 1) u 0 r rk) ∧ (op = 82 → ∃ e s, d = 1 ∧ r = e :: s ∧ e < 250000 ∧ e % 2 = 0 ∧ Nx c (pc + 1) u 0 r rk) ∧ (op = 83 ∨ op = 84 ∨ 87 ≤ op → ∃ e s, d = 0 ∧ r = e :: s ∧ e < 250000 ∧ NxS c (pc + 1) u (e / 2 + 1) s) ∧ (op = 85 → ∃ d' m f, d = d' + m ∧ uN num = m ∧ 1 ≤ m ∧ f < 2 ∧ 2 * d' + f < 250000 ∧ (∀ n, tcF c u ≤ bt (d' + n) r) ∧ Nx c (pc + 1) u 0 ((2 * d' + f) :: r) rk) ∧ (op = 86 → ∃ d' m f, d = d' + m ∧ uN num = m ∧ 1 ≤ m ∧ f < 2 ∧ 2 * d' + f < 250000 ∧ Nx c (pc + 1) u 0 ((2 * d' + f) :: r) rk)
theorem c_gather (p : Pre c g l t K K2 K3 K4 B KB f0 u0 σ fs u d r pb nf nc sq) {pc op : Nat} (ho : op < 256) (h80 : 80 ≤ op) (h1 : L.1 1 = nI op) (hp : pc + 1 ≤ tcN c) (hN : tcN c ≤ 36864) (hpc : σ.1 1900 = nI (pc + 1)) (ok : Ok5 c pc u d r rk op (L.1 2)) : Tm (fun k => f_X3_gather k 0 L σ) (IO c B KB f0 u0 σ (mu σ (qv nf sq rk))) := by
  have mi := p.1
  obtain ⟨st1, st2, st3⟩ := mi.2.1.1
  have ts := TyS_sp p.2.1
  have hx : uN (σ.1 1900) = pc + 1 := by rw [hpc, u_n (by omega)]
  obtain ⟨o80, o81, o82, o83, o85, o86⟩ := ok
  have b7 : ∀ (L' : LV) (σ' : CS) (Q : RS → Prop), Q ((0, 0), σ', (0, 0)) → Tm (fun k => f_X3_gather k 7 L' σ') Q := by
    intro L' σ' Q h
    refine Tm_suc (fun k => by rw [f_X3_gather]) ?_
    exact Tm_some h
  have fin : ∀ (L' : LV) (x : Nat → Option RS), Tm x (fun q => q.1.1 = 0 ∧ IO c B KB f0 u0 σ (mu σ (qv nf sq rk)) ((0, 0), q.2.1, (q.2.2.1 + 0, q.2.2.2 + 0))) → Tm (fun k => ox (x k) (fun r1 => f_X3_gather k 7 L' r1.2.1)) (IO c B KB f0 u0 σ (mu σ (qv nf sq rk))) := fun L' x h => Tm_oxc h (fun q z => z.1) (fun q z => b7 _ _ _ z.2)
  have b4 : (op = 83 ∨ op = 84 ∨ 87 ≤ op) → ∀ L' : LV, Tm (fun k => f_X3_gather k 4 L' σ) (IO c B KB f0 u0 σ (mu σ (qv nf sq rk))) := by
    intro hop L'
    obtain ⟨e, s, e1, e2, e3, e4⟩ := o83 hop
    have b11 : ∀ L2 : LV, Tm (fun k => f_X3_gather k 11 L2 σ) (IO c B KB f0 u0 σ (mu σ (qv nf sq rk))) := by
      intro L2
      have p0 : Pre c g l t K K2 K3 K4 B KB f0 u0 σ fs u 0 (e :: s) pb nf nc sq := by rw [← e1, ← e2]; exact p
      refine Tm_suc (fun k => by rw [f_X3_gather]) ?_
      exact fin _ _ (c_gathered p0 e3 (by rw [hx]; exact e4))
    refine Tm_suc (fun k => by rw [f_X3_gather]) ?_
    refine Tm_ite (fun _ => b11 _) (fun _ => ?_)
    refine Tm_suc (fun k => by rw [f_X3_gather]) ?_
    exact b11 _
  -- one more is gathered
  have pop : ∀ (e : Nat) (s : List Nat), d = 1 → r = e :: s → Nx c (pc + 1) u 0 r rk → Pre c g l t K K2 K3 K4 B KB f0 u0 (uI σ 1902 (σ.1 1902 - 1)) fs u 0 (e :: s) pb nf nc sq ∧ 1 ≤ uN (σ.1 1902) := by
    intro e s e1 e2 nx
    obtain ⟨pd, es⟩ := Pre_dr (x := 1) (d' := 0) (n := 1) p e1 rfl nx.choose_spec.2.2
    rw [e2] at pd
    exact ⟨pd, by omega⟩
  have muE : mu (uI σ 1902 (σ.1 1902 - 1)) (qv nf sq rk) = mu σ (qv nf sq rk) := mu_e rfl rfl _
  refine Tm_suc (fun k => by rw [f_X3_gather]) ?_
  rw [h1]
  refine Tm_ite (fun q => ?_) (fun q1 => Tm_ite (fun q => ?_) (fun q2 => Tm_ite (fun q => ?_) (fun q3 => Tm_ite (fun q => ?_) (fun q4 => Tm_ite (fun q => ?_) (fun q5 => Tm_ite (fun q => ?_) (fun q6 => Tm_ite (fun q => ?_) (fun q7 => ?_)))))))
  · obtain ⟨f, f2, f5, nx⟩ := o80 ((op_n ho (by decide)).1 q)
    exact c_gather1 p f2 f5 (by rw [hx]; exact nx)
  · obtain ⟨e, s, e1, e2, e3, e4, nx⟩ := o81 ((op_n ho (by decide)).1 q)
    obtain ⟨pd, s1⟩ := pop e s e1 e2 nx
    have gh := (Ty_v p (q := (uN (σ.1 1902) - 1)) (by omega) (by omega))
    have b9 : ∀ L2 : LV, L2.1 101 = σ.2.2.1 20 (uN (σ.1 1902) - 1) → Tm (fun k => f_X3_gather k 9 L2 (uI σ 1902 (σ.1 1902 - 1))) (IO c B KB f0 u0 σ (mu σ (qv nf sq rk))) := by
      intro L2 l2
      refine Tm_suc (fun k => by rw [f_X3_gather]) ?_
      refine fin _ _ (Tm_mono (c_gatherIntoSet (rk := rk) pd e3 e4 (by show Gv g (L2.1 101); rw [l2]; exact gh) (by show Nx c (uN (σ.1 1900)) u 0 (e :: s) rk; rw [hx, ← e2]; exact nx)) (fun q z => ⟨z.1, ?_⟩))
      have z2 := z.2
      rw [muE] at z2
      exact IO_g (Go_dr σ _) z2
    refine Tm_suc (fun k => by rw [f_X3_gather]) ?_
    refine Tm_op (c_pop s1 st1 st2.2) (fun q2 z => ?_)
    rw [z.1]
    refine Tm_ite (fun _ => ?_) (fun _ => b9 _ rfl)
    refine Tm_suc (fun k => by rw [f_X3_gather]) ?_
    exact b9 _ rfl
  · obtain ⟨e, s, e1, e2, e3, e4, nx⟩ := o82 ((op_n ho (by decide)).1 q)
    obtain ⟨pd, s1⟩ := pop e s e1 e2 nx
    have gh := (Ty_v p (q := (uN (σ.1 1902) - 1)) (by omega) (by omega))
    refine Tm_suc (fun k => by rw [f_X3_gather]) ?_
    refine Tm_op (c_pop s1 st1 st2.2) (fun q2 z => ?_)
    rw [z.1]
    refine fin _ _ (Tm_mono (c_gatherIntoTuple (rk := rk) pd e3 e4 gh (by show Nx c (uN (σ.1 1900)) u 0 (e :: s) rk; rw [hx, ← e2]; exact nx)) (fun q z => ⟨z.1, ?_⟩))
    have z2 := z.2
    rw [muE] at z2
    exact IO_g (Go_dr σ _) z2
  · exact b4 (Or.inl ((op_n ho (by decide)).1 q)) _
  · exact b4 (Or.inr (Or.inl ((op_n ho (by decide)).1 q))) _
  · obtain ⟨d', m, f, e1, e2, e3, e4, e5, e6, nx⟩ := o85 ((op_n ho (by decide)).1 q)
    have p0 : Pre c g l t K K2 K3 K4 B KB f0 u0 σ fs u (d' + m) r pb nf nc sq := by rw [← e1]; exact p
    refine Tm_suc (fun k => by rw [f_X3_gather]) ?_
    exact fin _ _ (c_joinSet p0 e4 e5 e3 e6 e2 (by rw [hx]; exact nx))
  · obtain ⟨d', m, f, e1, e2, e3, e4, e5, nx⟩ := o86 ((op_n ho (by decide)).1 q)
    have p0 : Pre c g l t K K2 K3 K4 B KB f0 u0 σ fs u (d' + m) r pb nf nc sq := by rw [← e1]; exact p
    refine Tm_suc (fun k => by rw [f_X3_gather]) ?_
    exact fin _ _ (c_joinTuple p0 e4 e5 e3 e2 (by rw [hx]; exact nx))
  · have nn : ∀ n, n < 256 → ¬ nI op = nI n → ¬ op = n := fun n hn z e => z ((op_n ho hn).2 e)
    refine b4 ?_ _
    have a1 := nn 80 (by decide) q1
    have a2 := nn 81 (by decide) q2
    have a3 := nn 82 (by decide) q3
    have a4 := nn 83 (by decide) q4
    have a5 := nn 84 (by decide) q5
    have a6 := nn 85 (by decide) q6
    have a7 := nn 86 (by decide) q7
    omega
/-- the stack's top is known to be a tuple from here on -/
theorem Pre_mt {w d0 : Nat} {ms : List Nat} (p : Pre c g l t K K2 K3 K4 B KB f0 u0 σ fs u (d0 + 1) ((bsl + w) :: ms) pb nf nc sq) (hd : d0 < 250000) (hb : tcF c u ≤ w) (k5 : kdC (σ.2.2.1 3) (σ.2.2.1 20 (uN (σ.1 1902) - 1)) = 5) : Pre c g l t (Kw K (uN (σ.1 1902) - 1) 1 (some mkT)) K2 K3 K4 B KB f0 u0 σ fs u 0 ((500000 + d0) :: (bsl + w) :: ms) pb nf nc sq := by
  obtain ⟨mi, ty, w0, h0, bo⟩ := p
  obtain ⟨st1, st2, st3⟩ := mi.2.1.1
  have ts := TyS_sp ty
  have b5 : 500000 < bsl := by decide
  have bw : bt (d0 + 1) ((bsl + w) :: ms) = w := bt_0 _ _ _
  rw [bw] at ts
  have s0 := (SL_0 ty.1).1
  have eb : bt 0 ((500000 + d0) :: (bsl + w) :: ms) = w := by
    show (if bsl ≤ 500000 + d0 then 500000 + d0 - bsl else bt ((500000 + d0) / 2) ((bsl + w) :: ms)) = w
    rw [if_neg (by unfold bsl; omega), bt_0]
  have bB : B ≤ uN (σ.1 1902) - 1 := by
    rcases bo with y | y
    · omega
    · rcases FC_B _ _ _ _ _ _ _ ty.2.1 with e | e
      · rw [e.2] at hb
        omega
      · omega
  have rw1 : Rwk g (σ.2.2.1 3) (Kw K (uN (σ.1 1902) - 1) 1 (some mkT)) (σ.2.2.1 20) (uN (σ.1 1902)) := by
    intro j hj
    by_cases e : j = uN (σ.1 1902) - 1
    · rw [e, Kw_i (Nat.le_refl _) (by omega)]
      refine Rwt ((st3 _ (by omega)).2.1 (SL_top _ _ _ ty.1 _ (by omega) (by omega))) (fun lt => ?_)
      unfold kdC at k5
      rw [if_pos lt] at k5
      omega
    · rw [Kw_o (by omega)]
      exact st3 j hj
  have v := VI_20 (σ' := σ) mi.2.1 (Md_r σ) rfl ⟨fun _ z => z, fun _ _ => rfl⟩ st1 st2 rw1
  refine ⟨MIn_d mi (Md_r σ) mi.1 v (fun j hj => by rw [Kw_o (Or.inl (by omega))]; exact mi.2.2.2.2.2.1 j hj) mi.2.2.2.2.2.2.1.2, ?_, w0, h0, bo⟩
  exact TyS_k (σ' := σ) ty ⟨rfl, rfl, rfl, rfl⟩ (SL_mt ty.1 hd) (fun p hp => Kw_o (Or.inl (by omega))) (by rw [eb]; exact hb) ⟨fun cc => absurd cc (by unfold bsl; omega), fun _ => ty.2.2.2.2.2.2.2.2⟩
def Ok6 (c : Ct) (pc u d : Nat) (r : List Nat) (rk op : Nat) (num : Int32) : Prop := (op = 96 ∨ op = 98 → ∃ d', d = d' + 2 ∧ NxS c (pc + 1) u (d' + 1) r) ∧ (op = 97 → ∃ d', d = d' + 3 ∧ NxS c (pc + 1) u (d' + 1) r) ∧ (op = 99 → ∃ v s, d = 0 ∧ r = (500000 + v) :: s ∧ v < 250000 ∧ Nx c (pc + 1) u 1 r rk) ∧ (op = 100 → ∃ d0 w ms, d = d0 + 1 ∧ r = (bsl + w) :: ms ∧ d0 < 250000 ∧ tcF c u ≤ w ∧ Nx c (pc + 1) u 0 ((500000 + d0) :: r) rk) ∧ (101 ≤ op → 1 ≤ d ∧ pc + 1 < tcN c ∧ Nx c (uN (nI pc + tcC c (pc + 1))) u (d + 1) r rk ∧ NxS c (pc + 2) u (d + 1) r)
theorem c_partly (p : Pre c g l t K K2 K3 K4 B KB f0 u0 σ fs u d r pb nf nc sq) {pc op : Nat} (ho : op < 256) (h96 : 96 ≤ op) (h1 : L.1 1 = nI op) (h3 : L.1 3 = nI pc) (hp : pc + 1 ≤ tcN c) (hN : tcN c ≤ 36864) (hpc : σ.1 1900 = nI (pc + 1)) (ok : Ok6 c pc u d r rk op (L.1 2)) : Tm (fun k => f_X3_partly k 0 L σ) (IO c B KB f0 u0 σ (mu σ (qv nf sq rk))) := by
  have mi := p.1
  obtain ⟨st1, st2, st3⟩ := mi.2.1.1
  have ts := TyS_sp p.2.1
  have hx : uN (σ.1 1900) = pc + 1 := by rw [hpc, u_n (by omega)]
  have u1 : uN (1 : Int32) = 1 := rfl
  obtain ⟨o96, o97, o99, o100, o101⟩ := ok
  have b6 : ∀ (σ' : CS) (L' : LV) (Q : RS → Prop), Q ((0, 0), σ', (0, 0)) → Tm (fun k => f_X3_partly k 6 L' σ') Q := by
    intro σ' L' Q h
    refine Tm_suc (fun k => by rw [f_X3_partly]) ?_
    exact Tm_some h
  have re : ∀ (g' : Nat → Prop) (l' : List Nat) (t' : Nat) (σ' : CS) (x : Int32) (d' : Nat) (L' : LV), Pre c g' l' t' K K2 K3 K4 B KB f0 u0 σ' fs u d' r pb nf nc sq → 1 ≤ d' → Md σ σ' → σ'.2.2.2.2.1 = σ.2.2.2.2.1 → σ'.1 1905 = σ.1 1905 → σ'.1 1900 = σ.1 1900 → Gv g' x → NxS c (pc + 1) u d' r → Tm (fun k => Jvm.Pilot.CSetHouseLaw_law_r7351_1de140.op (y_X3_replace k 0 (lI lZ 1 x) σ') (fun r2 => f_X3_partly k 6 L' r2.2)) (IO c B KB f0 u0 σ (mu σ (qv nf sq rk))) := by
    intro g' l' t' σ' x d' L' p' hd md es e5 e9 gx nx
    refine Tm_op (reX p' hd md es e5 (md.1 1814 (by decide)) gx (by rw [e9, hx]; exact nx) (qv nf sq rk)) (fun q z => ?_)
    exact b6 _ _ _ z
  have b1 : ∀ d', d = d' + 2 → NxS c (pc + 1) u (d' + 1) r → Tm (fun k => f_X3_partly k 1 L σ) (IO c B KB f0 u0 σ (mu σ (qv nf sq rk))) := by
    intro d' k1 k2
    obtain ⟨pd, es⟩ := Pre_dr (x := 1) (d' := d' + 1) (n := 1) p (by omega) rfl k2.choose_spec.2.2
    have ea : uN (σ.1 1902 - 1 - 1) = uN (σ.1 1902) - 2 := by rw [u_sub (by omega), es]; omega
    have ga : Gv g (σ.2.2.1 20 (σ.1 1902 - 1 - 1).toNatClampNeg) := by rw [u_cl (by omega), ea]; exact (Ty_v p (by omega) (by omega))
    have gb : Gv g (σ.2.2.1 20 (σ.1 1902 - 1).toNatClampNeg) := by rw [u_cl (by omega), es]; exact (Ty_v p (by omega) (by omega))
    refine Tm_suc (fun k => by rw [f_X3_partly]) ?_
    refine Tm_chk (u_in (by show uN (σ.1 1902 - 1 - 1) < sN σ 20; omega) (by show sN σ 20 ≤ _; omega)) ?_
    refine Tm_chk (u_in (by show uN (σ.1 1902 - 1) < sN σ 20; omega) (by show sN σ 20 ≤ _; omega)) ?_
    refine Tm_op (c_part pd.1.1 ga gb (Gv_om g)) (fun q3 z => ?_)
    obtain ⟨g', l', t', ga', v⟩ := z
    exact re g' l' t' q3.2 q3.1 (d' + 1) L (Pre_Ga pd ga') (by omega) (Md_t (Md_i σ (by decide) _) (Md_S (Sm_A ga'.2.2.2.2))) (by rw [ga'.2.2.2.2.2.2.2]; rfl) (ga'.2.2.2.2.1 1905 (by decide)) (ga'.2.2.2.2.1 1900 (by decide)) (v.elim id Gv_rw) k2
  refine Tm_suc (fun k => by rw [f_X3_partly]) ?_
  rw [h1]
  refine Tm_ite (fun q => ?_) (fun q1 => Tm_ite (fun q => ?_) (fun q2 => Tm_ite (fun q => ?_) (fun q3 => Tm_ite (fun q => ?_) (fun q4 => Tm_ite (fun q => ?_) (fun q5 => ?_)))))
  · obtain ⟨d', k1, k2⟩ := o96 (Or.inl ((op_n ho (by decide)).1 q))
    exact b1 d' k1 k2
  · obtain ⟨d', k1, k2⟩ := o97 ((op_n ho (by decide)).1 q)
    obtain ⟨pd, es⟩ := Pre_dr (x := 2) (d' := d' + 1) (n := 2) p (by omega) rfl k2.choose_spec.2.2
    have e1 : uN (σ.1 1902 - 2 - 1) = uN (σ.1 1902) - 3 := by rw [u_sub (by omega), es]; omega
    have e2 : uN (σ.1 1902 - 2 + 1) = uN (σ.1 1902) - 1 := by rw [u_inc (by omega), es]; omega
    have g1 : Gv g (σ.2.2.1 20 (σ.1 1902 - 2 - 1).toNatClampNeg) := by rw [u_cl (by omega), e1]; exact (Ty_v p (by omega) (by omega))
    have g2' : Gv g (σ.2.2.1 20 (σ.1 1902 - 2).toNatClampNeg) := by rw [u_cl (by omega), es]; exact (Ty_v p (by omega) (by omega))
    have g3 : Gv g (σ.2.2.1 20 (σ.1 1902 - 2 + 1).toNatClampNeg) := by rw [u_cl (by omega), e2]; exact (Ty_v p (by omega) (by omega))
    refine Tm_suc (fun k => by rw [f_X3_partly]) ?_
    refine Tm_chk (u_in (by show uN (σ.1 1902 - 2 - 1) < sN σ 20; omega) (by show sN σ 20 ≤ _; omega)) ?_
    refine Tm_chk (u_in (by show uN (σ.1 1902 - 2) < sN σ 20; omega) (by show sN σ 20 ≤ _; omega)) ?_
    refine Tm_chk (u_in (by show uN (σ.1 1902 - 2 + 1) < sN σ 20; omega) (by show sN σ 20 ≤ _; omega)) ?_
    refine Tm_op (c_part pd.1.1 g1 g2' g3) (fun q3 z => ?_)
    obtain ⟨g', l', t', ga', v⟩ := z
    exact re g' l' t' q3.2 q3.1 (d' + 1) L (Pre_Ga pd ga') (by omega) (Md_t (Md_i σ (by decide) _) (Md_S (Sm_A ga'.2.2.2.2))) (by rw [ga'.2.2.2.2.2.2.2]; rfl) (ga'.2.2.2.2.1 1905 (by decide)) (ga'.2.2.2.2.1 1900 (by decide)) (v.elim id Gv_rw) k2
  · obtain ⟨d', k1, k2⟩ := o96 (Or.inr ((op_n ho (by decide)).1 q))
    exact b1 d' k1 k2
  · obtain ⟨v, s, k1, k2, k3, nx⟩ := o99 ((op_n ho (by decide)).1 q)
    have sl := p.2.1.1
    rw [k1, k2] at sl
    have dt := SL_dt k3 sl
    have ea : uN (σ.1 1902 - 1) = uN (σ.1 1902) - 1 := by rw [u_sub (by omega), u1]
    have ec : (σ.1 1902 - 1).toNatClampNeg = uN (σ.1 1902) - 1 := by rw [u_cl (by omega), ea]
    have gt := st3 (uN (σ.1 1902) - 1) (by omega)
    have nt0 : Gv g (σ.2.2.1 20 (uN (σ.1 1902) - 1)) ∧ NoT (σ.2.2.1 3) (σ.2.2.1 20 (uN (σ.1 1902) - 1)) := by
      rcases gt.2.2 _ (by have := dt.2.2; rw [Nat.sub_zero] at this; exact this) with z | z
      · have y : 4026531840 ≤ uN mkT := z.2
        exact absurd y (by decide)
      · exact mk_t z
    have nt := nt0.2
    have sq5 : uN (σ.2.2.1 20 (uN (σ.1 1902) - 1)) < 2147483648 → 5 ≤ kdC (σ.2.2.1 3) (σ.2.2.1 20 (uN (σ.1 1902) - 1)) := by
      intro lt
      unfold kdC
      rw [if_pos lt]
      exact nt lt
    refine Tm_suc (fun k => by rw [f_X3_partly]) ?_
    refine Tm_chk (u_in (by omega) (by omega)) ?_
    rw [ec]
    refine Tm_op (c_member mi.1 nt0.1 sq5) (fun q6 z6 => ?_)
    rw [z6]
    refine Tm_oxc (c_push st1 st2) (fun q z => by rw [z.1]) (fun q z => ?_)
    refine b6 _ _ _ (pu_fin (n := 1) p (mbC_g mi.1 nt0.1 sq5) z rfl (fun _ _ => rfl) ?_)
    rw [z.2.2.1.1 1900 (by decide), hx, k1]
    exact nx
  · obtain ⟨d0, w, ms, k1, k2, k3, k4, nx⟩ := o100 ((op_n ho (by decide)).1 q)
    have ea : uN (σ.1 1902 - 1) = uN (σ.1 1902) - 1 := by rw [u_sub (by omega), u1]
    have ec : (σ.1 1902 - 1).toNatClampNeg = uN (σ.1 1902) - 1 := by rw [u_cl (by omega), ea]
    have gt := st3 (uN (σ.1 1902) - 1) (by omega)
    refine Tm_suc (fun k => by rw [f_X3_partly]) ?_
    refine Tm_chk (u_in (by omega) (by omega)) ?_
    rw [ec]
    refine Tm_op (c_kind mi.1 (Ty_v p (by omega) (by omega))) (fun q6 z6 => ?_)
    rw [z6]
    refine Tm_ite (fun c5 => ?_) (fun _ => ?_)
    · have k5 : kdC (σ.2.2.1 3) (σ.2.2.1 20 (uN (σ.1 1902) - 1)) = 5 := kd_n (n := 5) (by decide) c5
      have p0 : Pre c g l t K K2 K3 K4 B KB f0 u0 σ fs u (d0 + 1) ((bsl + w) :: ms) pb nf nc sq := by rw [← k1, ← k2]; exact p
      refine b6 _ _ _ (fl_fin (Pre_mt p0 k3 k4 k5) rfl (fun _ _ => rfl) ?_)
      rw [hx, ← k2]
      exact nx
    · refine Tm_op c_fail (fun q e => ?_)
      rw [e]
      refine b6 _ _ _ (ha_fin p rfl (fun j hj => ?_) rfl (f13 (by decide)))
      show upd (upd σ.1 1813 _) 1812 1 j = _
      rw [upd_other (by omega), upd_other (by omega)]
  · have nn : ∀ n, n < 256 → ¬ nI op = nI n → ¬ op = n := fun n hn z e => z ((op_n ho hn).2 e)
    obtain ⟨k1, k2, k3, k4⟩ := o101 (by
      have a1 := nn 96 (by decide) q1
      have a2 := nn 97 (by decide) q2
      have a3 := nn 98 (by decide) q3
      have a4 := nn 99 (by decide) q4
      have a5 := nn 100 (by decide) q5
      omega)
    refine Tm_suc (fun k => by rw [f_X3_partly]) ?_
    exact Tm_oxc (c_takeFrom p k1 h3 k2 hN k3 k4) (fun q z => z.1) (fun q z => b6 _ _ _ z.2)
end CTR
