/-! The class: calls of procs are read. -/
section CXK
variable {σ σ' σ0 τ τ' τ0 : CS} {L : LV} {b : Bool} {T : Nat → Int32} {n q q' u al o v mk mk' p sz szB szE nc nc0 sz0 mk0 a1 a2 m kk f e s ow a t0 g D op w st w' st' M nm deep vv np : Nat} {y qh qh' : Int32} {l l' cs cs' ll lt lt0 : List Int32} {tb : List Ent} {E : En} {gl : Nat × (Nat → Nat → Prop)} {Vm : Nat → Prop} {Pc : Nat → Nat → Prop} {MD : Nat → Nat → Nat} {md : Nat → Nat} {bt : BT} {ks : List Nat} {lo lo' : Option Nat}
theorem lit_om : LitG (-2147483648) := Or.inl ⟨by decide, by decide⟩
/-- params of procs and their modes -/
def PcR (b : Bool) (Pc : Nat → Nat → Prop) (MD : Nat → Nat → Nat) (σ : CS) : Prop := ∀ vv np, Pc vv np → (vv < 42 ∧ np ≤ 8 ∧ 1 ≤ vv) ∧ σ.2.2.1 (pR14 b) vv = nI np ∧ ∀ i, i < np → (σ.2.2.1 (pR15 b) vv >>> ((2 * nI i) &&& 31)) &&& 3 = nI (MD (vv - 1) i) ∧ MD (vv - 1) i ≤ 2
theorem PcR_k {nc' sz' mk' : Nat} (h : PcR b Pc MD σ) (x : ZK b u nc' sz' mk' σ τ) : PcR b Pc MD τ := fun vv np hp => by
  obtain ⟨h1, h2, h3⟩ := h vv np hp
  have pd := pR_d b
  rw [x.2.1.1 (pR14 b) (by omega), x.2.1.1 (pR15 b) (by omega)]
  exact ⟨h1, h2, h3⟩
theorem c_mode {i : Nat} (h : PcR b Pc MD σ) (hp : Pc vv np) (hi : i < np) (hb : L.2.2.1 0 = b) (l1 : L.1 1 = nI vv) (l2 : L.1 2 = nI i) : Tm (fun k => y_X7_mode__P k 0 L σ) (fun r => r.1 = nI (MD (vv - 1) i) ∧ r.2 = σ) := by
  obtain ⟨h1, h2, h3⟩ := h vv np hp
  refine Tm_suc (fun k => by rw [y_X7_mode__P]) ?_
  rw [hb, l1, l2]
  refine Tm_chk (n_in (by omega) (by omega)) ?_
  rw [n_cl (by omega), (h3 i hi).1]
  exact Tm_some ⟨rfl, rfl⟩
/-- from the ( on, without the ; -/
def gCl0 (T : Nat → Int32) (n f : Nat) (md : Nat → Nat) (np : Nat) (E : En) (o q v : Nat) (b : BT) : RG := gO o (gT T n q (fun q2 => gb (GA T n md np E f (o + 1) q2 v 0 0 0 b) (fun r => if tkK T n r.1 = 7 ∧ r.2.2.1 = np then gT T n r.1 (fun q3 => some (some (q3, r.2.1, 0, 0, b, []))) else some none)))
theorem gCl_0 {p : Nat} {tg : Int32} {x : Option RT} (h : gCl T n f md np p tg E o q v bt = some x) : (tkK T n (tkN T n q) = 0 ∧ x = none) ∨ (¬ tkK T n (tkN T n q) = 0 ∧ ((¬ tkK T n (tkN T n q) = 6 ∧ x = none) ∨ (tkK T n (tkN T n q) = 6 ∧ ∃ z, gCl0 T n f md np E o (tkN T n q) v bt = some z ∧ Sem T n x (z.map (fun r => (r.1, r.2.1)))))) := by
  unfold gCl at h
  rcases gT_any h with ⟨w1, w2⟩ | ⟨w1, w2⟩
  · exact Or.inl ⟨w1, w2⟩
  refine Or.inr ⟨w1, ?_⟩
  by_cases k6 : tkK T n (tkN T n q) = 6
  case neg =>
    rw [if_neg k6] at w2
    exact Or.inl ⟨k6, (Option.some.inj w2).symm⟩
  rw [if_pos k6] at w2
  refine Or.inr ⟨k6, ?_⟩
  unfold gCl0
  rcases gO_any w2 with ⟨w3, w4⟩ | ⟨w3, w4⟩
  · exact ⟨none, by unfold gO; rw [if_pos w3], Or.inl ⟨rfl, w4⟩⟩
  unfold gO
  rw [if_neg w3]
  rcases gT_any w4 with ⟨w5, w6⟩ | ⟨w5, w6⟩
  · exact ⟨none, by unfold gT; rw [if_pos w5], Or.inl ⟨rfl, w6⟩⟩
  unfold gT
  rw [if_neg w5]
  show ∃ z, gb (GA T n md np E f (o + 1) (tkN T n (tkN T n q)) v 0 0 0 bt) (fun r => if tkK T n r.1 = 7 ∧ r.2.2.1 = np then (if tkK T n (tkN T n r.1) = 0 then some none else some (some (tkN T n r.1, r.2.1, 0, 0, bt, []))) else some none) = some z ∧ _
  rcases gb_any w6 with ⟨w7, w8⟩ | ⟨r, w7, w8⟩
  · exact ⟨none, by rw [w7]; rfl, Or.inl ⟨rfl, w8⟩⟩
  rw [w7]
  show ∃ z, (if tkK T n r.1 = 7 ∧ r.2.2.1 = np then (if tkK T n (tkN T n r.1) = 0 then some none else some (some (tkN T n r.1, r.2.1, 0, 0, bt, []))) else some none) = some z ∧ _
  by_cases kc : tkK T n r.1 = 7 ∧ r.2.2.1 = np
  · rw [if_pos kc] at w8 ⊢
    rcases gT_any w8 with ⟨w9, wa⟩ | ⟨w9, wa⟩
    · exact ⟨none, by rw [if_pos w9], Or.inl ⟨rfl, wa⟩⟩
    · exact ⟨some _, by rw [if_neg w9], Or.inr ⟨_, _, _, rfl, wa⟩⟩
  · rw [if_neg kc] at w8 ⊢
    exact ⟨none, rfl, Or.inl ⟨rfl, (Option.some.inj w8).symm⟩⟩
/-- behind a call -/
def ClR (T : Nat → Int32) (n : Nat) (b : Bool) (u al : Nat) (gl : Nat × (Nat → Nat → Prop)) (Pc : Nat → Nat → Prop) (Vm : Nat → Prop) (tb : List Ent) (o mk sz q v w st : Nat) (lo : Option Nat) (qh : Int32) (np : Nat) (lt0 : List Int32) (r : Nat × Nat) (τ : CS) : Prop := ∃ cc pp : List Int32, QS T n b u al tb o r.1 r.2 mk 0 (sz + (cc ++ (pp ++ lt0)).length) τ ∧ (∀ i, i < (cc ++ (pp ++ lt0)).length → cdr b τ (sz + i) = (cc ++ (pp ++ lt0)).getD i 0) ∧ ZF b u w st lo qh τ ∧ (Sst u gl Pc Vm [] 2 0 (1 + np) cc ∧ 1 + np ≤ cc.length) ∧ Sst u gl Pc Vm [] 0 (1 + np) (1 + np) pp ∧ 2 * (cc.length + pp.length) ≤ 7 * (r.1 - q) ∧ q < r.1 ∧ v ≤ r.2
theorem c_call {x : Option RT} (h : QS T n b u al tb o q v mk 0 sz σ) (zf : ZF b u w st lo qh σ) (ev : EvX E b u al gl Vm tb σ) (pr : PcR b Pc MD σ) (hP : Pc vv np) (hmd : md = MD (vv - 1)) (n3 : ∀ i, i < tb.length → ¬ (tb.getD i e0E).2.1 = 3) (n10 : n ≤ 10240) (hmk : mk ≤ 2 * q + 18 * (o + 1)) (hnt : tb.length + (60 - v) ≤ 256) (hsz : 2 * sz + 7 * (n - q) + 2 * lt0.length + 100 ≤ 73728) (hk : tkK T n q = 6) (kp : Kpt lt0 σ) (hlt : 2 * lt0.length ≤ 3 * q) (l1 : L.1 1 = nI vv) (l2 : L.1 2 = nI lt0.length) (hG : gCl0 T n f md np E o q v bt = some x) : Tm (fun k => f_X5_call k 0 L σ) (ZPo b u tb.length sz mk (x.map (fun r => (r.1, r.2.1))) (fun r _ τ => ClR T n b u al gl Pc Vm tb o mk sz q v w st lo qh np lt0 r τ) σ 0 0) := by
  have s0 := Zy_0 h zf
  have go := tk_go h
  have g1 := go.2.2 (by omega)
  have u42 := ev.2.2.1.2
  have gl1 := ev.1.1
  have o20 := h.2.2.2.2.2.1.2
  have v60 := h.2.2.2.2.2.2.1.2
  obtain ⟨⟨pv1, pv2, pv3⟩, pr14, _⟩ := pr vv np hP
  -- behind the exps
  have b4 : ∀ (L' : LV) (τ : CS) (a1 a2 : Nat) (r : RT) (as kks : List Int32) (x : Option RT), (if tkK T n r.1 = 7 ∧ r.2.2.1 = np then gT T n r.1 (fun q3 => some (some (q3, r.2.1, 0, 0, bt, []))) else some none) = some x → L'.1 1 = nI vv → L'.1 2 = nI lt0.length → L'.1 3 = nI np → L'.1 4 = nI r.2.2.1 → Zy T n b u al σ tb.length sz mk a1 a2 tb (o + 1) r.1 r.2.1 mk w st lo qh sz (em 16 0 :: as) τ → Kpt (lt0 ++ kks) τ → Sgm u 0 gl Vm r.2.2.1 as → Sst u gl Pc Vm [] 0 (1 + np) (1 + np) kks → 2 * (as.length + kks.length) ≤ 7 * (r.1 - tkN T n q) + 7 → r.2.2.1 ≤ as.length → tkN T n q ≤ r.1 → v ≤ r.2.1 → Tm (fun k => f_X5_call k 4 L' τ) (ZPo b u tb.length sz mk (x.map (fun r => (r.1, r.2.1))) (fun r _ τ => ClR T n b u al gl Pc Vm tb o mk sz q v w st lo qh np lt0 r τ) σ a1 a2) := by
    intro L' τ a1 a2 r as kks x hg j1 j2 j3 j4 s1 kp1 sg sk ln la lq lv
    have go1 := tk_go s1.1.1
    have el : (em 16 0 :: as).length = as.length + 1 := rfl
    refine Tm_suc (fun k => by rw [f_X5_call]) ?_
    by_cases k7 : tkK T n r.1 = 7
    case neg =>
      rw [if_neg (fun z => k7 z.1)] at hg
      have hx := Option.some.inj hg
      exact zt_want (kk := 7) (C := False) s1 (by decide) rfl (Or.inl ⟨k7, by rw [← hx]; rfl⟩) (fun _ _ _ c _ => c.elim)
    refine zt_want (kk := 7) (C := True) s1 (by decide) rfl (Or.inr ⟨k7, trivial⟩) (fun ret1 n1 n2 _ s2 => ?_)
    rw [j3, j4]
    by_cases kn : r.2.2.1 = np
    case neg =>
      rw [if_neg (fun z => kn z.2)] at hg
      refine Tm_no (by rw [n_eq (by omega) (by omega)]; exact kn) ?_
      rw [← Option.some.inj hg]
      exact zt_ref s2
    rw [if_pos ⟨k7, kn⟩] at hg
    refine Tm_yes (by rw [kn]) ?_
    have g2 := go1.2.2 (by omega)
    refine Tm_suc (fun k => by rw [f_X5_call]) ?_
    rcases gT_any hg with ⟨w1, w2⟩ | ⟨w1, w2⟩
    · rw [w2]
      exact zt_closes (kk := 7) (C := False) s2 (by decide) rfl (Or.inl ⟨fun z => z.2 w1, rfl⟩) (fun _ _ _ _ c _ _ => c.elim)
    refine zt_closes (kk := 7) (C := True) s2 (by decide) rfl (Or.inr ⟨⟨k7, w1⟩, trivial⟩) (fun τ3 ret3 n3' n4 _ s3 xk3 => ?_)
    refine Tm_oP (Zy_pp s3) ?_
    refine zt_emit (op := 19) s3 rfl rfl (by rw [el]; omega) (fun τ4 n5 n6 s4 xk4 => ?_)
    refine Tm_oP (Zy_pp s4) ?_
    have kp4 := Kpt_k (Kpt_k kp1 xk3) xk4
    have l42 : (lt0 ++ kks).length = lt0.length + kks.length := List.length_append
    have k13 : τ4.1 4013 = nI (lt0.length + kks.length) := by have z := kp4.1.1; rw [l42] at z; exact z
    have k42 : lt0.length + kks.length ≤ sN τ4 42 := by have z := kp4.1.2; rw [l42] at z; exact z
    have le4 : ∀ w : Int32, (em 16 0 :: as ++ [w]).length = as.length + 2 := fun w => by rw [List.length_append, el]; rfl
    have l2' : L'.1 2 = nI lt0.length := j2
    have ed : τ4.1 4013 - L'.1 2 = nI kks.length := by
      rw [k13, j2, n_sub (by omega) (by omega)]
      exact congrArg nI (by omega)
    refine zt_words42 (a := lt0.length) (ll := kks) s4 rfl j2 ed k42 (by rw [le4]; omega) (fun i hi => ?_) (fun τ5 n7 n8 s5 xk5 => ?_)
    · have z := kp4.2 (lt0.length + i) (by rw [l42]; omega)
      rw [gd_r] at z
      exact z
    refine Tm_oP (Zy_pp s5) ?_
    have kp5 := Kpt_k kp4 xk5
    have le5 : ∀ w : Int32, (em 16 0 :: as ++ [w] ++ kks).length = as.length + 2 + kks.length := fun w => by rw [List.length_append, le4]
    refine zt_words42 (a := 0) (ll := lt0) s5 rfl rfl j2 (by show 0 + lt0.length ≤ sN τ5 42; have z := kp5.1.2; rw [l42] at z; omega) (by rw [le5]; omega) (fun i hi => ?_) (fun τ6 n9 n10' s6 xk6 => ?_)
    · have z := kp5.2 i (by rw [l42]; omega)
      rw [gd_l hi] at z
      rw [Nat.zero_add]
      exact z
    have hx : x = some (tkN T n r.1, r.2.1, 0, 0, bt, []) := (Option.some.inj w2).symm
    rw [hx]
    have ea : em 16 0 :: as ++ [em 19 (L'.1 1)] ++ kks ++ lt0 = em 16 0 :: (as ++ [em 19 (nI vv)]) ++ (kks ++ lt0) := by
      rw [j1]
      simp only [List.append_assoc, List.cons_append]
    have s6' : Zy T n b u al σ tb.length sz mk (a1 + n1 + n3' + n5 + n7 + n9) (a2 + n2 + n4 + n6 + n8 + n10') tb o (tkN T n r.1) r.2.1 mk w st lo qh sz (em 16 0 :: (as ++ [em 19 (nI vv)]) ++ (kks ++ lt0)) τ6 := by rw [← ea]; exact s6
    have lcc : (em 16 0 :: (as ++ [em 19 (nI vv)])).length = as.length + 2 := by rw [List.length_cons, List.length_append]; rfl
    refine Tm_some (Zfin s6' ⟨_, kks, s6'.1.1, s6'.2.1, s6'.2.2, ⟨Sst_cp hP (kn ▸ sg), by rw [lcc]; omega⟩, sk, ?_, ?_, lv⟩)
    · rw [lcc]
      show 2 * (as.length + 2 + kks.length) ≤ 7 * (tkN T n r.1 - q)
      omega
    · show q < tkN T n r.1
      omega
  -- an exp, and those behind it
  have lp : ∀ (f1 : Nat) (L' : LV) (τ : CS) (a1 a2 q1 v1 c it : Nat) (bt1 : BT) (ii : RT → Nat) (bb : RT → BT) (as kks : List Int32) (x : Option RT), gb (gb (G T n f1 0 E (o + 1) q1 v1 0 0 0 0 bt1) (fun r => if c < np ∧ 0 < md c ∧ r.2.2.1 = 0 then some none else GA T n md np E f1 (o + 1) r.1 r.2.1 (ii r) r.2.2.2.1 (c + 1) (bb r))) (fun r => if tkK T n r.1 = 7 ∧ r.2.2.1 = np then gT T n r.1 (fun q3 => some (some (q3, r.2.1, 0, 0, bt, []))) else some none) = some x → L'.1 1 = nI vv → L'.1 2 = nI lt0.length → L'.1 3 = nI np → L'.1 4 = nI c → L'.1 5 = 1 → L'.1 6 = nI it → it ≤ q1 → c ≤ q1 → Zy T n b u al σ tb.length sz mk a1 a2 tb (o + 1) q1 v1 mk w st lo qh sz (em 16 0 :: as) τ → Kpt (lt0 ++ kks) τ → Sgm u 0 gl Vm c as → Sst u gl Pc Vm [] 0 (1 + np) (1 + np) kks → 2 * (as.length + kks.length) ≤ 7 * (q1 - tkN T n q) → 2 * kks.length ≤ 3 * (q1 - tkN T n q) + 9 * min c np → c ≤ as.length → tkN T n q ≤ q1 → v ≤ v1 → Tm (fun k => f_X5_call k 3 L' τ) (ZPo b u tb.length sz mk (x.map (fun r => (r.1, r.2.1))) (fun r _ τ => ClR T n b u al gl Pc Vm tb o mk sz q v w st lo qh np lt0 r τ) σ a1 a2) := by
    intro f1
    induction f1 using Nat.strongRecOn with
    | ind f1 ih =>
    intro L' τ a1 a2 q1 v1 c it bt1 ii bb as kks x hg j1 j2 j3 j4 j5 j6 hit hcq s1 kp1 sg sk ln lk la lq lv
    have go1 := tk_go s1.1.1
    have el : (em 16 0 :: as).length = as.length + 1 := rfl
    have e3 : τ.1 3703 = nI q1 := s1.1.1.1.2.2.2.2.2.2.1
    have es : τ.1 (fP b 1) = nI (sz + (as.length + 1)) := s1.1.1.2.1.1
    rw [gb_gb] at hg
    have bd1 : BdX n (o + 1) q1 v1 mk 0 (sz + (em 16 0 :: as).length) tb.length := ⟨n10, by rw [el]; omega, by omega, by omega, by omega⟩
    refine Tm_suc (fun k => by rw [f_X5_call]) ?_
    refine Tm_no (by rw [j6]; show ¬ nI 32768 < nI it; rw [n_lt (by decide) (by omega)]; omega) ?_
    refine Tm_no (by rw [j5]; decide) ?_
    refine Tm_oP (Zy_pp s1) ?_
    rcases gb_any hg with ⟨w1, w2⟩ | ⟨r, w1, w2⟩
    · rw [w2]
      exact zt_exp (C := True) s1 (EvX_z ev s1.1.2.1) bd1 rfl w1 (Or.inl ⟨rfl, rfl⟩) (fun _ _ _ _ _ _ z => by cases z)
    refine zt_exp (C := True) s1 (EvX_z ev s1.1.2.1) bd1 rfl w1 (Or.inr ⟨r, rfl, trivial⟩) (fun τ2 ret2 n1 n2 r' l2x hz _ s2 xk2 sg2 ln2 lt2 lv2 tg2 => ?_)
    cases hz
    have kp2 := Kpt_k kp1 xk2
    have go2 := tk_go s2.1.1
    have lcs : (em 16 0 :: as ++ l2x).length = as.length + 1 + l2x.length := by rw [List.length_append, el]
    have l42 : (lt0 ++ kks).length = lt0.length + kks.length := List.length_append
    -- behind one exp, whose code is l3, with what is kept
    have b11 : ∀ (L9 : LV) (τ9 : CS) (a3 a4 : Nat) (l3 kk2 : List Int32), gb (GA T n md np E f1 (o + 1) r.1 r.2.1 (ii r) r.2.2.2.1 (c + 1) (bb r)) (fun r => if tkK T n r.1 = 7 ∧ r.2.2.1 = np then gT T n r.1 (fun q3 => some (some (q3, r.2.1, 0, 0, bt, []))) else some none) = some x → L9.1 1 = nI vv → L9.1 2 = nI lt0.length → L9.1 3 = nI np → L9.1 4 = nI c → L9.1 6 = nI it → Zy T n b u al σ tb.length sz mk a3 a4 tb (o + 1) r.1 r.2.1 mk w st lo qh sz (em 16 0 :: (as ++ l3)) τ9 → Kpt (lt0 ++ (kks ++ kk2)) τ9 → Sgm u 0 gl Vm 1 l3 → Sst u gl Pc Vm [] 0 (1 + np) (1 + np) kk2 → 2 * (l3.length + kk2.length) ≤ 7 * (r.1 - q1) + 7 → 2 * kk2.length ≤ 3 * (r.1 - q1) + 9 * (if c < np then 1 else 0) → Tm (fun k => f_X5_call k 11 L9 τ9) (ZPo b u tb.length sz mk (x.map (fun r => (r.1, r.2.1))) (fun r _ τ => ClR T n b u al gl Pc Vm tb o mk sz q v w st lo qh np lt0 r τ) σ a3 a4) := by
      intro L9 τ9 a3 a4 l3 kk2 hg9 i1 i2 i3 i4 i6 s9 kp9 sg9 sk9 ln9 lk9
      have go9 := tk_go s9.1.1
      have sgs := Sgm_seq sg sg9
      have las : (as ++ l3).length = as.length + l3.length := List.length_append
      have lkk : (kks ++ kk2).length = kks.length + kk2.length := List.length_append
      have sg91 := sg9.1
      have skk : Sst u gl Pc Vm [] 0 (1 + np) (1 + np) (kks ++ kk2) := Sst_seq sk sk9 (by omega)
      cases f1 with
      | zero => cases hg9
      | succ f2 =>
        have hg9' : gb (if c + 1 = 0 then (if tkK T n r.1 = 7 then some (some (r.1, r.2.1, 0, 0, bb r, [])) else gb (G T n f2 0 E (o + 1) r.1 r.2.1 0 0 0 0 (bb r)) (fun r => if 0 < np ∧ 0 < md 0 ∧ r.2.2.1 = 0 then some none else GA T n md np E f2 (o + 1) r.1 r.2.1 r.2.2.2.1 r.2.2.2.1 1 r.2.2.2.2.1)) else if tkK T n r.1 = 12 then gT T n r.1 (fun q1 => gb (G T n f2 0 E (o + 1) q1 r.2.1 0 0 0 0 (bb r)) (fun r' => if c + 1 < np ∧ 0 < md (c + 1) ∧ r'.2.2.1 = 0 then some none else GA T n md np E f2 (o + 1) r'.1 r'.2.1 (ii r) r'.2.2.2.1 (c + 1 + 1) (bSet r'.2.2.2.2.1 9 r.2.2.2.1 (nI r'.2.2.2.1)))) else some (some (r.1, r.2.1, c + 1, ii r, bb r, []))) (fun r => if tkK T n r.1 = 7 ∧ r.2.2.1 = np then gT T n r.1 (fun q3 => some (some (q3, r.2.1, 0, 0, bt, []))) else some none) = some x := hg9
        rw [if_neg (by omega)] at hg9'
        refine Tm_suc (fun k => by rw [f_X5_call]) ?_
        rw [i4, n_add1]
        by_cases k12 : tkK T n r.1 = 12
        · rw [if_pos k12, gb_gT] at hg9'
          have g9 := go9.2.2 (by omega)
          refine Tm_yes ((lx_k (kk := 12) s9.1.1 (by decide)).2 k12) ?_
          refine Tm_suc (fun k => by rw [f_X5_call]) ?_
          refine Tm_no (by show ¬ (1 : Int32) = 0; decide) ?_
          rcases gT_any hg9' with ⟨y1, y2⟩ | ⟨y1, y2⟩
          · rw [y2]
            exact zt_adv (C := False) s9 (Or.inl ⟨y1, rfl⟩) (fun _ _ _ _ c _ _ => c.elim)
          refine zt_adv (C := True) s9 (Or.inr ⟨y1, trivial⟩) (fun τ10 ret10 m1 m2 _ s10 xk10 => ?_)
          refine Tm_suc (fun k => by rw [f_X5_call]) ?_
          refine ih f2 (by omega) _ τ10 _ _ (tkN T n r.1) r.2.1 (c + 1) (it + 1) _ _ _ (as ++ l3) (kks ++ kk2) x y2 i1 i2 i3 rfl rfl ?_ (by omega) (by omega) s10 (Kpt_k kp9 xk10) sgs skk (by rw [las, lkk]; omega) ?_ (by rw [las]; omega) (by omega) (by omega)
          · show L9.1 6 + 1 = _
            rw [i6, n_add1]
          · rw [lkk]
            by_cases z : c < np
            · rw [if_pos z] at lk9
              omega
            · rw [if_neg z] at lk9
              omega
        · rw [if_neg k12] at hg9'
          refine Tm_no (fun z => k12 ((lx_k (kk := 12) s9.1.1 (by decide)).1 z)) ?_
          refine Tm_suc (fun k => by rw [f_X5_call]) ?_
          refine Tm_suc (fun k => by rw [f_X5_call]) ?_
          refine Tm_yes rfl ?_
          refine Tm_suc (fun k => by rw [f_X5_call]) ?_
          refine Tm_suc (fun k => by rw [f_X5_call]) ?_
          refine Tm_no (by show ¬ nI 32768 < L9.1 6 + 1; rw [i6, n_add1, n_lt (by decide) (by omega)]; omega) ?_
          refine Tm_yes rfl ?_
          exact b4 _ τ9 _ _ (r.1, r.2.1, c + 1, ii r, bb r, []) (as ++ l3) (kks ++ kk2) x hg9' i1 i2 i3 rfl s9 kp9 sgs skk (by rw [las, lkk]; show 2 * (as.length + l3.length + (kks.length + kk2.length)) ≤ 7 * (r.1 - tkN T n q) + 7; omega) (by rw [las]; show c + 1 ≤ _; omega) (by show tkN T n q ≤ r.1; omega) (by show v ≤ r.2.1; omega)
    -- what its mode asks: block 8
    have b8 : ∀ (L8 : LV) (τ8 : CS) (a3 a4 mo : Nat) (kk2 : List Int32), gb (GA T n md np E f1 (o + 1) r.1 r.2.1 (ii r) r.2.2.2.1 (c + 1) (bb r)) (fun r => if tkK T n r.1 = 7 ∧ r.2.2.1 = np then gT T n r.1 (fun q3 => some (some (q3, r.2.1, 0, 0, bt, []))) else some none) = some x → L8.1 1 = nI vv → L8.1 2 = nI lt0.length → L8.1 3 = nI np → L8.1 4 = nI c → L8.1 6 = nI it → L8.1 8 = nI (sz + (as.length + 1)) → L8.1 9 = nI mo → mo ≤ 2 → Zy T n b u al σ tb.length sz mk a3 a4 tb (o + 1) r.1 r.2.1 mk w st lo qh sz (em 16 0 :: as ++ l2x) τ8 → Kpt (lt0 ++ (kks ++ kk2)) τ8 → Sst u gl Pc Vm [] 0 (1 + np) (1 + np) kk2 → ((mo = 0 ∧ kk2 = []) ∨ (kk2.length = l2x.length + 4 ∧ c < np ∧ (r.1 - q1 = 1 → l2x.length = 1))) → Tm (fun k => f_X5_call k 8 L8 τ8) (ZPo b u tb.length sz mk (x.map (fun r => (r.1, r.2.1))) (fun r _ τ => ClR T n b u al gl Pc Vm tb o mk sz q v w st lo qh np lt0 r τ) σ a3 a4) := by
      intro L8 τ8 a3 a4 mo kk2 hg8 i1 i2 i3 i4 i6 i8 i9 hmo s8 kp8 sk8 hmk8
      have go8 := tk_go s8.1.1
      have lkb : 2 * kk2.length ≤ 3 * (r.1 - q1) + 9 * (if c < np then 1 else 0) := by
        rcases hmk8 with ⟨z1, z2⟩ | ⟨z1, z2, z3⟩
        · rw [z2]; exact Nat.zero_le _
        · rw [if_pos z2]; omega
      refine Tm_suc (fun k => by rw [f_X5_call]) ?_
      rw [i9]
      by_cases m1 : mo = 1
      · refine Tm_yes (by rw [m1]; rfl) ?_
        refine Tm_oP (Zy_pp s8) ?_
        rcases hmk8 with ⟨z1, z2⟩ | ⟨z1, z2, z3⟩
        · omega
        have s8' := Zy_sz (cs := em 16 0 :: as) (acc := l2x) s8 (Nat.le_add_right _ _)
        have e8 : uI τ8 (fP b 1) (L8.1 8) = uI τ8 (fP b 1) (nI (sz + (em 16 0 :: as).length)) := by rw [i8]; rfl
        rw [e8]
        have kp8' : Kpt (lt0 ++ (kks ++ kk2)) (uI τ8 (fP b 1) (nI (sz + (em 16 0 :: as).length))) := ⟨⟨by rw [uI_o (by have := fP_c b 1; omega)]; exact kp8.1.1, kp8.1.2⟩, kp8.2⟩
        refine zt_push s8' lit_om (by rw [el]; omega) (fun τ9 ret9 m3 m4 s9 xk9 => ?_)
        refine b11 _ τ9 _ _ [em 32 0, -2147483648] kk2 hg8 i1 i2 i3 i4 i6 s9 (Kpt_k kp8' xk9) (Sgm_1 (by show 1 ≤ 2; decide) (by show 1 ≤ 2; decide) (It_pu lit_om)) sk8 ?_ lkb
        show 2 * (2 + kk2.length) ≤ _
        omega
      · refine Tm_no (by intro z; have z' : nI mo = nI 1 := z; rw [n_eq (by omega) (by decide)] at z'; exact m1 z') ?_
        refine b11 _ τ8 _ _ l2x kk2 hg8 i1 i2 i3 i4 i6 s8 kp8 sg2 sk8 ?_ lkb
        rcases hmk8 with ⟨z1, z2⟩ | ⟨z1, z2, z3⟩
        · rw [z2]
          show 2 * (l2x.length + 0) ≤ _
          omega
        · by_cases y1 : r.1 - q1 = 1
          · have := z3 y1
            omega
          · omega
    -- its mode: block 6
    have b6 : ∀ (L6 : LV) (mo : Nat), L6.1 1 = nI vv → L6.1 2 = nI lt0.length → L6.1 3 = nI np → L6.1 4 = nI c → L6.1 6 = nI it → L6.1 7 = nI q1 → L6.1 8 = nI (sz + (as.length + 1)) → L6.1 100 = nI mo → mo ≤ 2 → ((c < np ∧ mo = md c) ∨ (¬ c < np ∧ mo = 0)) → Tm (fun k => f_X5_call k 6 L6 τ2) (ZPo b u tb.length sz mk (x.map (fun r => (r.1, r.2.1))) (fun r _ τ => ClR T n b u al gl Pc Vm tb o mk sz q v w st lo qh np lt0 r τ) σ (a1 + n1) (a2 + n2)) := by
      intro L6 mo i1 i2 i3 i4 i6 i7 i8 i100 hmo hmm
      refine Tm_suc (fun k => by rw [f_X5_call]) ?_
      rw [i100]
      by_cases m0 : mo = 0
      · rw [if_neg (fun z => by rcases hmm with ⟨y1, y2⟩ | ⟨y1, y2⟩ <;> omega)] at w2
        refine Tm_yes (by rw [m0]; rfl) ?_
        refine b8 _ τ2 _ _ mo [] w2 i1 i2 i3 i4 i6 i8 rfl hmo s2 (by rw [List.append_nil]; exact kp2) Sst_nil (Or.inl ⟨m0, rfl⟩)
      refine Tm_no (by rw [n_eq0 (by omega)]; exact m0) ?_
      have hcn : c < np := by rcases hmm with ⟨y1, _⟩ | ⟨_, y2⟩ <;> omega
      by_cases ri : r.2.2.1 = 0
      · rw [if_pos ⟨hcn, by rcases hmm with ⟨_, y2⟩ | ⟨y1, _⟩ <;> omega, ri⟩] at w2
        refine Tm_no (by rw [i7]; exact tg2.1 ri) ?_
        refine Tm_suc (fun k => by rw [f_X5_call]) ?_
        have hx := (Option.some.inj w2).symm
        rw [hx]
        exact zt_ref s2
      · rw [if_neg (fun z => ri z.2.2)] at w2
        obtain ⟨⟨t1, t2, t3⟩, nm, ld, pl, ⟨t4, t5⟩, t6, t7, t8, t9, t10⟩ := tg2.2 ri
        refine Tm_yes (by rw [i7]; exact t1) ?_
        refine Tm_oP (Zy_pp s2) ?_
        have es2 : τ2.1 (fP b 1) = nI (sz + (as.length + 1 + l2x.length)) := by have z := s2.1.1.2.1.1; rw [lcs] at z; exact z
        have t2' : τ2.1 4017 = nI (sz + (as.length + 1) + l2x.length) := t2
        refine Tm_yes (by rw [t2', es2]; exact congrArg nI (by omega)) ?_
        -- its variable
        have tx := g_inf f1 0 q1 v1 bt1 r (Or.inl rfl) w1
        have fd1 : tkK T n q1 = 26 ∧ (fd E (tkS T n q1)).1 = 1 := by
          rcases tx with z | ⟨f', r', z, _⟩
          · exact absurd z ri
          · unfold gTg at z
            by_cases k26 : tkK T n q1 = 26
            · rw [if_pos k26] at z
              rcases gT_any z with ⟨_, y⟩ | ⟨_, y⟩
              · cases y
              · by_cases f1' : (fd E (tkS T n q1)).1 = 1
                · exact ⟨k26, f1'⟩
                · rw [if_neg f1'] at y
                  cases y
            · rw [if_neg k26] at z
              cases z
        have okn : okN (tkS T n q1) := (s1.1.1.1.2.2.2.2.2.2.2.2 fd1.1).2
        obtain ⟨en0, en1, en2, en3, en4⟩ := (ev.1.2 (tkS T n q1) okn).1 nm t6
        have k0 : (tb.getD nm e0E).2.1 = 0 := by
          have z3 := n3 nm t6.1
          have c : (tb.getD nm e0E).2.1 = 0 ∨ (tb.getD nm e0E).2.1 = 1 ∨ (tb.getD nm e0E).2.1 = 2 := by omega
          rcases c with c | c | c
          · exact c
          · have := (en3 c).1; omega
          · have := (en4 c).1; omega
        obtain ⟨_, z2, z3⟩ := en1 k0
        have tv : TgV u gl Vm (tb.getD nm e0E).2.2.2.1 (tb.getD nm e0E).2.2.1 := ⟨z2, z3, en0.2⟩
        have lpl : l2x.length = (kyC pl).length + pl.length + 1 := by rw [t7, List.length_cons, kyC_l]
        have ltc : (ptC pl).length = (kyC pl).length + pl.length := kyC_l pl
        have sgl : l2x.length ≤ 30000 := by omega
        obtain ⟨g, hgg⟩ : ∃ g, g = if (tb.getD nm e0E).2.2.1 = u then 0 else 1 := ⟨_, rfl⟩
        refine Tm_suc (fun k => by rw [f_X5_call]) ?_
        have ed : L6.1 3 - 1 - L6.1 4 = nI (np - 1 - c) := by
          rw [i3, i4, show nI np - 1 = nI (np - 1) from by rw [show (1 : Int32) = nI 1 from rfl, n_sub (by omega) (by omega)], n_sub (by omega) (by omega)]
        have hcd : ∀ j, j < (ptC pl).length → cdr b τ2 (sz + (as.length + 1) + 1 + j) = (ptC pl).getD j 0 := fun j hj => by
          have z := s2.2.1 (as.length + 1 + (1 + j)) (by rw [lcs]; omega)
          have y : (em 16 0 :: as ++ l2x).getD (as.length + 1 + (1 + j)) 0 = l2x.getD (1 + j) 0 := gd_r (a := em 16 0 :: as) (b := l2x) (1 + j)
          rw [y, t7, show 1 + j = j + 1 by omega] at z
          rw [show sz + (as.length + 1) + 1 + j = sz + (as.length + 1 + (j + 1)) by omega]
          exact z
        have t8' : PtM τ2 mk (sz + (as.length + 1) + 1) pl := t8
        refine zt_callZ (C := True) s2 (c_keepT (szE := sz + (as.length + 1)) (nm := nm) (deep := np - 1 - c) (lt := lt0 ++ kks) s2.1.1 s2.2.2 u42 t3 t5 t4 t6.1 ⟨rfl, rfl⟩ en0.2 hgg t8' t9 t10 (by rw [lcs]; omega) hcd kp2 ed (by omega) (by rw [lcs]; omega) (by rw [l42]; omega)) (Or.inr ⟨(), rfl, trivial, fun τ3 ret3 m1 m2 hr zk3 hc3 => ?_⟩)
        obtain ⟨r1, r2, r3⟩ := hr
        have s3 := Zy_c0 s2 r1 zk3 hc3 (Nat.le_refl _) (Nat.le_refl _) r2
        refine b8 _ τ3 _ _ mo (kpW g (tb.getD nm e0E).2.2.2.1 (np - 1 - c) pl) w2 i1 i2 i3 i4 i6 i8 rfl hmo s3 (by rw [← List.append_assoc]; exact r3) (kpW_t tv hgg gl1 t9 (by omega) (by omega) (by omega)) (Or.inr ⟨by rw [kpW_l]; omega, hcn, fun y1 => ?_⟩)
        cases pl with
        | nil => rw [t7]; rfl
        | cons z r' =>
          exfalso
          have hp : 1 ≤ z.1.length := by
            rcases t9.1 with ⟨_, g⟩ | ⟨_, g⟩ | ⟨_, g⟩
            · exact g.1
            · exact g.1
            · have := g.1; omega
          have e1 : (kyC (z :: r')).length = z.1.length + (kyC r').length := by show (z.1 ++ kyC r').length = _; rw [List.length_append]
          rw [e1, List.length_cons] at lpl
          omega
    have j3' : L'.1 3 = nI np := j3
    rw [j3, j4]
    by_cases hcn : np ≤ c
    · refine Tm_yes (by rw [n_le (by omega) (by omega)]; exact hcn) ?_
      refine Tm_suc (fun k => by rw [f_X5_call]) ?_
      exact b6 _ 0 j1 j2 j3 j4 j6 e3 es rfl (by omega) (Or.inr ⟨by omega, rfl⟩)
    · refine Tm_no (by rw [n_le (by omega) (by omega)]; exact hcn) ?_
      refine Tm_oP (Zy_pp s2) ?_
      have pr2 := PcR_k pr s2.1.2.1
      refine Tm_op (c_mode (i := c) pr2 hP (by omega) rfl j1 rfl) (fun r7 z7 => ?_)
      obtain ⟨e7, f7⟩ := z7
      rw [f7]
      have mb := (pr2 vv np hP).2.2 c (by omega)
      exact b6 _ (MD (vv - 1) c) j1 j2 j3 j4 j6 e3 es e7 mb.2 (Or.inl ⟨by omega, by rw [hmd]⟩)
  refine Tm_suc (fun k => by rw [f_X5_call]) ?_
  refine Tm_oP (Zy_pp s0) ?_
  rw [l1]
  refine Tm_chk (n_in (by omega) (by omega)) ?_
  refine Tm_oP (Zy_pp s0) ?_
  rw [n_cl (by omega), pr14]
  refine zt_emit (op := 16) s0 rfl rfl (by show sz + 0 + 1 ≤ _; omega) (fun τ1 n1 n2 s1 xk1 => ?_)
  unfold gCl0 at hG
  rcases gO_any hG with ⟨w1, w2⟩ | ⟨w1, w2⟩
  · rw [w2]
    exact zt_opens (C := False) s1 (Or.inl ⟨fun z => z.1 w1, rfl⟩) (fun _ _ _ _ c _ _ => c.elim)
  rcases gT_any w2 with ⟨w3, w4⟩ | ⟨w3, w4⟩
  · rw [w4]
    exact zt_opens (C := False) s1 (Or.inl ⟨fun z => z.2 w3, rfl⟩) (fun _ _ _ _ c _ _ => c.elim)
  refine zt_opens (C := True) s1 (Or.inr ⟨⟨w1, w3⟩, trivial⟩) (fun τ2 ret2 m1 m2 _ s2 xk2 => ?_)
  have kp2 : Kpt (lt0 ++ []) τ2 := by rw [List.append_nil]; exact Kpt_k (Kpt_k kp xk1) xk2
  have s2' : Zy T n b u al σ tb.length sz mk (0 + n1 + m1) (0 + n2 + m2) tb (o + 1) (tkN T n q) v mk w st lo qh sz [em 16 0] τ2 := s2
  cases f with
  | zero =>
    rcases gb_any w4 with ⟨y, _⟩ | ⟨_, y, _⟩ <;> cases y
  | succ f =>
    have w4' : gb (if (0 : Nat) = 0 then (if tkK T n (tkN T n q) = 7 then some (some (tkN T n q, v, 0, 0, bt, [])) else gb (G T n f 0 E (o + 1) (tkN T n q) v 0 0 0 0 bt) (fun r => if 0 < np ∧ 0 < md 0 ∧ r.2.2.1 = 0 then some none else GA T n md np E f (o + 1) r.1 r.2.1 r.2.2.2.1 r.2.2.2.1 1 r.2.2.2.2.1)) else if tkK T n (tkN T n q) = 12 then gT T n (tkN T n q) (fun q1 => gb (G T n f 0 E (o + 1) q1 v 0 0 0 0 bt) (fun r => if 0 < np ∧ 0 < md 0 ∧ r.2.2.1 = 0 then some none else GA T n md np E f (o + 1) r.1 r.2.1 0 r.2.2.2.1 (0 + 1) (bSet r.2.2.2.2.1 9 0 (nI r.2.2.2.1)))) else some (some (tkN T n q, v, 0, 0, bt, []))) (fun r => if tkK T n r.1 = 7 ∧ r.2.2.1 = np then gT T n r.1 (fun q3 => some (some (q3, r.2.1, 0, 0, bt, []))) else some none) = some x := w4
    rw [if_pos rfl] at w4'
    by_cases k7 : tkK T n (tkN T n q) = 7
    · rw [if_pos k7] at w4'
      refine Tm_yes ((lx_k (kk := 7) s2.1.1 (by decide)).2 k7) ?_
      refine Tm_suc (fun k => by rw [f_X5_call]) ?_
      refine Tm_suc (fun k => by rw [f_X5_call]) ?_
      refine Tm_suc (fun k => by rw [f_X5_call]) ?_
      refine Tm_no (by show ¬ nI 32768 < nI 0; rw [n_lt (by decide) (by decide)]; decide) ?_
      refine Tm_yes rfl ?_
      exact b4 _ τ2 _ _ (tkN T n q, v, 0, 0, bt, []) [] [] x w4' l1 l2 rfl rfl s2' kp2 (Sgm_nil u 0 gl Vm) Sst_nil (by show 2 * (0 + 0) ≤ _; omega) (Nat.le_refl _) (Nat.le_refl _) (Nat.le_refl _)
    · rw [if_neg k7] at w4'
      refine Tm_no (fun z => k7 ((lx_k (kk := 7) s2.1.1 (by decide)).1 z)) ?_
      refine Tm_suc (fun k => by rw [f_X5_call]) ?_
      exact lp f _ τ2 _ _ (tkN T n q) v 0 0 bt _ _ [] [] x w4' l1 l2 rfl rfl rfl rfl (Nat.zero_le _) (Nat.zero_le _) s2' kp2 (Sgm_nil u 0 gl Vm) Sst_nil (by show 2 * (0 + 0) ≤ _; omega) (Nat.zero_le _) (Nat.le_refl _) (Nat.le_refl _) (Nat.le_refl _)
end CXK
