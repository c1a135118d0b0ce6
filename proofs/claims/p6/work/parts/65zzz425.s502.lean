/-! The class: loops are read. -/
section CXR
variable {σ σ' σ0 τ τ' τ0 : CS} {L : LV} {b : Bool} {T : Nat → Int32} {n q q' u al o v mk mk' p sz szB szE nc nc0 sz0 mk0 a1 a2 m kk f e s0 ow a t0 g D w st w' st' M nm deep vv np lp N Bd ns k d P : Nat} {y qh qh' y0 y1 wd : Int32} {l l' cs cs' cs2 ll lt lt0 : List Int32} {tb : List Ent} {E : En} {gl : Nat × (Nat → Nat → Prop)} {Vm : Nat → Prop} {Pc : Nat → Nat → Prop} {MD : Nat → Nat → Nat} {md : Nat → Nat} {bt : BT} {ks qs qs' qa qb : List Nat} {lo lo' : Option Nat} {s : SB}
theorem jsF_g : ∀ (js : List Nat) (cs : List Int32), JsC szB cs js → ∀ i, (i ∈ js → (jsF cs js).getD i 0 = em 3 (nI (cs.length - i))) ∧ (¬ i ∈ js → (jsF cs js).getD i 0 = cs.getD i 0)
  | [], cs, _, i => ⟨fun z => absurd z List.not_mem_nil, fun _ => rfl⟩
  | j :: js, cs, h, i => by
    have l : (cs.set j (em 3 (nI (cs.length - j)))).length = cs.length := List.length_set
    obtain ⟨k1, k2⟩ := jsF_g js (cs.set j (em 3 (nI (cs.length - j)))) (JsC_set js cs j h.2.2.2.1 h.2.2.2.2) i
    rw [l] at k1
    refine ⟨fun z => ?_, fun z => ?_⟩
    · show (jsF (cs.set j (em 3 (nI (cs.length - j)))) js).getD i 0 = _
      by_cases c : i ∈ js
      · exact k1 c
      · rcases List.mem_cons.1 z with y | y
        · rw [k2 c, gd_set, if_pos ⟨y, h.1⟩, y]
        · exact absurd y c
    · show (jsF (cs.set j (em 3 (nI (cs.length - j)))) js).getD i 0 = _
      rw [k2 (fun y => z (List.mem_cons_of_mem _ y)), gd_set, if_neg (fun y => z (by rw [y.1]; exact List.mem_cons_self))]
/-- ranks wanted of what stands so deep, with so many variables told -/
def bdO (o v : Nat) : Nat := 3 * (20 - o) + 2 * (60 - v)
/-- behind a block that began at N -/
def BlR (T : Nat → Int32) (n : Nat) (b : Bool) (u al : Nat) (gl : Nat × (Nat → Nat → Prop)) (Pc : Nat → Nat → Prop) (Vm : Nat → Prop) (tb : List Ent) (o mk N q v w st : Nat) (lo : Option Nat) (qh : Int32) (r : Nat × Nat × Nat) (τ : CS) : Prop := ∃ (cs : List Int32) (qs : List Nat) (ns : Nat), QS T n b u al tb o r.1 r.2.1 mk 0 (N + cs.length) τ ∧ (∀ i, i < cs.length → cdr b τ (N + i) = cs.getD i 0) ∧ ZF b u w r.2.2 lo (hdQ N qh qs) τ ∧ Stm u gl Pc Vm w N lo (bdO o v) ns qs cs ∧ JsT N cs qh qs ∧ (2 * cs.length ≤ 7 * (r.1 - q) ∧ ns + st ≤ r.2.2 ∧ qs.length ≤ lqN lo ns) ∧ q ≤ r.1 ∧ v ≤ r.2.1
/-- what a block comes to, here and there -/
def Bem (T : Nat → Int32) (n : Nat) (x : Option ST) (z : Option (Nat × Nat × Nat)) : Prop := (z = none ∧ x = none) ∨ ∃ r, z = some r ∧ ((x = none ∧ ¬ isBE (tkK T n r.1)) ∨ ∃ t, x = some t ∧ t.1 = r.1 ∧ t.2.1 = r.2.1 ∧ t.2.2.2.2.2.1 = r.2.2)
/-- what statements stand in -/
def CxS (n : Nat) (E : En) (b : Bool) (u al : Nat) (gl : Nat × (Nat → Nat → Prop)) (Vm : Nat → Prop) (Pc : Nat → Nat → Prop) (MD : Nat → Nat → Nat) (tb : List Ent) (lp : Nat) (lo : Option Nat) (σ : CS) : Prop := StX n E b u al gl Vm Pc MD tb σ ∧ E.2.2.2.1 = u ∧ u < 41 ∧ (lp = 0 ↔ lo = none) ∧ ∀ p, lo = some p → p < 100000
def BdB (n o q v mk N w nt : Nat) : Prop := 2 * N + 7 * (n - q) + 110 ≤ 73728 ∧ mk ≤ 2 * q + 18 * o ∧ nt + (60 - v) ≤ 256 ∧ w ≤ 3 * v
/-- blocks, as the grammar has them -/
def PBk (T : Nat → Int32) (n : Nat) (b : Bool) (u al : Nat) (MD : Nat → Nat → Nat) (f : Nat) : Prop := ∀ (E : En) (lp o q v : Nat) (pe : Int32) (i l : Nat) (bt : BT) (s : SB) (x : Option ST), q ≤ n → v ≤ 60 → s.1 ≤ 400 → 1 ≤ bt.1 → GS T n MD f 0 E lp o q v pe i l bt s = some x → ∃ z : Option (Nat × Nat × Nat), Bem T n x z ∧ ∀ (d : Nat) (gl : Nat × (Nat → Nat → Prop)) (Pc : Nat → Nat → Prop) (Vm : Nat → Prop) (tb : List Ent) (mk N w : Nat) (lo : Option Nat) (qh : Int32) (σ : CS) (L : LV), QS T n b u al tb o q v mk 0 N σ → ZF b u w s.1 lo qh σ → CxS n E b u al gl Vm Pc MD tb lp lo σ → BdB n o q v mk N w tb.length → 4 * (20 - o) + 1 ≤ d → Tm (fun k => f_F3 k d 0 0 L σ) (ZPo b u tb.length N mk z (fun r _ τ => BlR T n b u al gl Pc Vm tb o mk N q v w s.1 lo qh r τ) σ 0 0)
/-- what a statement comes to, before its ; -/
def SemS (T : Nat → Int32) (n : Nat) (y : Option ST) (z : Option (Nat × Nat × Nat)) : Prop := (z = none ∧ y = none) ∨ ∃ (r : Nat × Nat × Nat) (nd : Nat) (bb : BT) (ss : SB), z = some r ∧ hW T n 13 r.1 (fun q3 => some (some (q3, r.2.1, 0, nd, bb, ss))) = some y ∧ ss.1 = r.2.2
theorem hT_n {k : Nat → SR} (h : tkK T n (tkN T n q) = 0) : hT T n q k = some none := by unfold hT; rw [if_pos h]
theorem hT_y {k : Nat → SR} (h : ¬ tkK T n (tkN T n q) = 0) : hT T n q k = k (tkN T n q) := by unfold hT; rw [if_neg h]
/-- a loop's statements and end -/
def lbZ (T : Nat → Int32) (n : Nat) (z : Option (Nat × Nat × Nat)) : Option (Nat × Nat × Nat) := match z with
  | none => none
  | some r => if tkK T n r.1 = 38 ∧ ¬ tkK T n (tkN T n r.1) = 0 then some (tkN T n r.1, r.2.1, r.2.2) else none
theorem hE_z {x y : Option ST} {z : Option (Nat × Nat × Nat)} {nd : ST → Nat} {bb : ST → BT} (bz : Bem T n x z) (h : hb (some x) (fun t => hE T n t.1 (fun q3 => some (some (q3, t.2.1, 0, nd t, bb t, t.2.2.2.2.2)))) = some y) : SemS T n y (lbZ T n z) := by
  rcases bz with ⟨e1, e2⟩ | ⟨r, e1, e2⟩
  · rw [e1]
    rw [e2] at h
    exact Or.inl ⟨rfl, (Option.some.inj h).symm⟩
  · rw [e1]
    show SemS T n y (if tkK T n r.1 = 38 ∧ ¬ tkK T n (tkN T n r.1) = 0 then some (tkN T n r.1, r.2.1, r.2.2) else none)
    rcases e2 with ⟨e3, e4⟩ | ⟨t, e3, e4, e5, e6⟩
    · rw [e3] at h
      rw [if_neg (fun z => e4 (by omega))]
      exact Or.inl ⟨rfl, (Option.some.inj h).symm⟩
    · rw [e3] at h
      have h' : hE T n t.1 (fun q3 => some (some (q3, t.2.1, 0, nd t, bb t, t.2.2.2.2.2))) = some y := h
      unfold hE at h'
      rw [e4, e5] at h'
      rcases hW_any h' with ⟨w1, w2⟩ | ⟨w1, w2⟩
      · rw [if_neg w1]
        exact Or.inl ⟨rfl, w2⟩
      · rw [if_pos w1]
        exact Or.inr ⟨_, _, _, _, rfl, w2, e6⟩
/-- behind a loop's statements and its jump back -/
def LbR (T : Nat → Int32) (n : Nat) (b : Bool) (u al : Nat) (gl : Nat × (Nat → Nat → Prop)) (Pc : Nat → Nat → Prop) (Vm : Nat → Prop) (tb : List Ent) (o mk N q v w st P : Nat) (lo : Option Nat) (qh : Int32) (r : Nat × Nat × Nat) (τ : CS) : Prop := ∃ (cs bo : List Int32) (qb : List Nat) (nb : Nat), QS T n b u al tb o r.1 r.2.1 mk 0 (N + cs.length) τ ∧ (∀ i, i < cs.length → cdr b τ (N + i) = cs.getD i 0) ∧ ZF b u w r.2.2 lo qh τ ∧ Stm u gl Pc Vm w N (some P) (bdO (o + 1) v) nb qb bo ∧ (cs.length = bo.length + 1 ∧ (∀ i, i < bo.length → ¬ i ∈ qb → cs.getD i 0 = bo.getD i 0) ∧ (∀ h, h ∈ qb → cs.getD h 0 = em 3 (nI (bo.length + 1 - h))) ∧ cs.getD bo.length 0 = em 3 (nI P - nI (N + bo.length))) ∧ (2 * bo.length + 7 ≤ 7 * (r.1 - q) ∧ nb + st ≤ r.2.2) ∧ q < r.1 ∧ v ≤ r.2.1
theorem lb_0 (k d : Nat) (L : LV) (σ : CS) : f_F3 (k + 1) d 3 0 L σ = (of d (fun e1 => ox (f_F3 k e1 0 0 lZ (uI (uI σ 4008 ((L.1 1))) 4009 0)) (fun r1 => ox (f_X5_closes k 0 (lI lZ 1 38) r1.2.1) (fun r2 => oP (sPp r2.2.1) (fun b3 => oP (sPp r2.2.1) (fun b4 => ox (f_X7_emit__P k 0 (lI (lI (lB lZ 0 b4) 1 3) 2 0) r2.2.1) (fun r5 => op (y_X7_aim__P k 0 (lI (lI (lB lZ 0 b3) 1 r5.1.2) 2 ((L.1 1))) r5.2.1) (fun r6 => op (y_X5_aimAll k 0 (lI lZ 1 ((r6.2.1 4009))) r6.2) (fun r7 => f_F3 k d 3 1 (lI L 3 ((σ.1 4009))) (uI r7.2 4008 ((σ.1 4008)))))))))))) := rfl
theorem lb_1 (k d : Nat) (L : LV) (σ : CS) : f_F3 (k + 1) d 3 1 L σ = (some ((0, 0), (uI σ 4009 ((L.1 3))), (0, 0))) := rfl
theorem c_loopBody {z : Option (Nat × Nat × Nat)} (blk : ∀ (σ' : CS) (L' : LV), QS T n b u al tb (o + 1) q v mk 0 N σ' → ZF b u w st (some P) 0 σ' → ZK b u tb.length N mk σ σ' → Tm (fun k => f_F3 k d 0 0 L' σ') (ZPo b u tb.length N mk z (fun r _ τ => BlR T n b u al gl Pc Vm tb (o + 1) mk N q v w st (some P) 0 r τ) σ' 0 0)) (h : QS T n b u al tb (o + 1) q v mk 0 N σ) (zf : ZF b u w st lo qh σ) (n10 : n ≤ 10240) (hN : 2 * N + 7 * (n - q) + 50 ≤ 73728) (hP : P < N) (l1 : L.1 1 = nI P) : Tm (fun k => f_F3 k (d + 1) 3 0 L σ) (ZPo b u tb.length N mk (lbZ T n z) (fun r _ τ => LbR T n b u al gl Pc Vm tb o mk N q v w st P lo qh r τ) σ 0 0) := by
  have s0 := Zy_0 h zf
  have fc := fP_c b 3
  have s1 : Zy T n b u al σ tb.length N mk 0 0 tb (o + 1) q v mk w st (some P) 0 N [] (uI (uI σ 4008 (L.1 1)) 4009 0) := Zy_g s0 (fun j hj => by rw [uI_o (by omega), uI_o (by omega)]) rfl (by rw [uI_o (by decide), uI_o (by decide)]; exact h.2.2.1.1) (Nat.le_refl _) (Nat.le_refl _) ⟨zf.1, ⟨by rw [uI_o (by omega), uI_o (by omega)]; exact zf.2.1.1, zf.2.1.2⟩, by rw [uI_o (by decide), uI_s]; exact l1, uI_s, zf.2.2.2.2⟩
  refine Tm_suc (fun k => lb_0 k _ _ _) ?_
  refine Tm_d ?_
  refine zt_callZ (C := True) s1 (blk _ _ s1.1.1 s1.2.2 s1.1.2.1) ?_
  cases z with
  | none => exact Or.inl ⟨rfl, rfl⟩
  | some r =>
    refine Or.inr ⟨r, rfl, trivial, fun τ2 ret2 n1 n2 hr zk2 hc2 => ?_⟩
    obtain ⟨bo, qb, nb, r1, r2, r3, r4, r5, ⟨r6, r6', r6''⟩, r7, r8⟩ := hr
    have r6'' : qb.length ≤ nb := r6''
    have s2 := Zy_ca s1 r1 zk2 hc2 r2 (Nat.le_refl _) (Nat.le_refl _) r3
    have s2' : Zy T n b u al σ tb.length N mk (0 + n1) (0 + n2) tb (o + 1) r.1 r.2.1 mk w r.2.2 (some P) (hdQ N 0 qb) N bo τ2 := s2
    have go2 := tk_go s2'.1.1
    have st4 := r3.2.1.2
    by_cases k38 : tkK T n r.1 = 38 ∧ ¬ tkK T n (tkN T n r.1) = 0
    case neg =>
      have e : lbZ T n (some r) = none := if_neg k38
      rw [e]
      exact zt_closes (kk := 38) (C := False) s2' (by decide) rfl (Or.inl ⟨k38, rfl⟩) (fun _ _ _ _ c _ _ => c.elim)
    have e : lbZ T n (some r) = some (tkN T n r.1, r.2.1, r.2.2) := if_pos k38
    rw [e]
    have g2 := go2.2.2 (by omega)
    refine zt_closes (kk := 38) (C := True) s2' (by decide) rfl (Or.inr ⟨k38, trivial⟩) (fun τ3 ret3 n3 n4 _ s3 xk3 => ?_)
    refine Tm_oP (Zy_pp s3) (Tm_oP (Zy_pp s3) ?_)
    refine zt_emit (op := 3) s3 rfl rfl (by omega) (fun τ4 n5 n6 s4 xk4 => ?_)
    have s4' : Zy T n b u al σ tb.length N mk (0 + n1 + n3 + n5) (0 + n2 + n4 + n6) tb o (tkN T n r.1) r.2.1 mk w r.2.2 (some P) (hdQ N 0 qb) N (bo ++ [em 3 0]) τ4 := s4
    have lb1 : (bo ++ [em 3 0]).length = bo.length + 1 := by rw [List.length_append]; rfl
    have gb1 : (bo ++ [em 3 0]).getD bo.length 0 = em 3 0 := by have z := gd_r (a := bo) (b := [em 3 0]) 0; rw [Nat.add_zero] at z; exact z
    refine Tm_op (c_aim (op := 3) (x := 0) (h := bo.length) (Sy_z s4') (Nat.le_refl _) (by rw [lb1]; omega) (by decide) gb1 rfl rfl) (fun r5' z5 => ?_)
    have z5' : Sy T n b u al τ4 tb.length N mk 0 0 tb o (tkN T n r.1) r.2.1 mk 0 N ((bo ++ [em 3 0]).set bo.length (em 3 (nI P - nI (N + bo.length)))) r5'.2 := by
      have e : em 3 ((lI (lI (lB lZ 0 b) 1 (nI (N + bo.length))) 2 (L.1 1)).1 2 - (lI (lI (lB lZ 0 b) 1 (nI (N + bo.length))) 2 (L.1 1)).1 1) = em 3 (nI P - nI (N + bo.length)) := by
        show em 3 (L.1 1 - nI (N + bo.length)) = _
        rw [l1]
      rw [← e]; exact z5
    have s5 := Zy_s s4' z5' (Nat.le_refl _)
    generalize hcb : (bo ++ [em 3 0]).set bo.length (em 3 (nI P - nI (N + bo.length))) = cb at *
    have lcb : cb.length = bo.length + 1 := by rw [← hcb, List.length_set, lb1]
    have gcb : ∀ i, i < bo.length → cb.getD i 0 = bo.getD i 0 := fun i hi => by
      rw [← hcb, gd_set, if_neg (by omega), gd_l hi]
    have gce : cb.getD bo.length 0 = em 3 (nI P - nI (N + bo.length)) := by
      rw [← hcb, gd_set, if_pos ⟨rfl, by rw [lb1]; omega⟩]
    have jc : JsC N cb qb := JsT_0 qb (JsT_o qb r5 (by omega) (fun i hi => gcb i (JsT_l qb r5 i hi)))
    have e9 : r5'.2.1 4009 = nI (jsH N qb) := by
      have z := s5.2.2.2.2.2.1
      rw [hdQ_0] at z
      exact z
    have t6 : Tm (fun k => y_X5_aimAll k 0 (lI lZ 1 (r5'.2.1 4009)) r5'.2) (fun r' => Sy T n b u al r5'.2 tb.length N mk 0 0 tb o (tkN T n r.1) r.2.1 mk 0 N (jsF cb qb) r'.2) := by
      refine Tm_suc (fun k => by rw [y_X5_aimAll]) ?_
      exact c_aimAll (cs := cb) (Nat.le_refl _) (by rw [lcb]; omega) qb 0 cb r5'.2 _ (by omega) (by rw [lcb]; omega) jc e9 rfl (Sy_z s5)
    refine Tm_op t6 (fun r7' z7 => ?_)
    have s7 := Zy_s s5 z7 (Nat.le_refl _)
    have lf := jsF_l qb cb
    have jg := jsF_g qb cb jc
    generalize jsF cb qb = cf at *
    have zf7 := s7.2.2
    refine Tm_suc (fun k => lb_1 k _ _ _) ?_
    have s8 : Zy T n b u al σ tb.length N mk (0 + n1 + n3 + n5 + 0 + 0) (0 + n2 + n4 + n6 + 0 + 0) tb o (tkN T n r.1) r.2.1 mk w r.2.2 lo qh N cf (uI (uI r7'.2 4008 (σ.1 4008)) 4009 (σ.1 4009)) := Zy_g s7 (fun j hj => by rw [uI_o (by omega), uI_o (by omega)]) rfl (by rw [uI_o (by decide), uI_o (by decide)]; exact s7.1.1.2.2.1.1) (Nat.le_refl _) (Nat.le_refl _) ⟨zf7.1, ⟨by rw [uI_o (by omega), uI_o (by omega)]; exact zf7.2.1.1, zf7.2.1.2⟩, by rw [uI_o (by decide), uI_s]; exact zf.2.2.1, by rw [uI_s]; exact zf.2.2.2.1, zf7.2.2.2.2⟩
    have ll' := JsT_l qb r5
    refine Tm_some (Zfin s8 ⟨cf, bo, qb, nb, s8.1.1, s8.2.1, s8.2.2, r4, ⟨by omega, fun i hi hn => ?_, fun i hi => ?_, ?_⟩, ⟨by show 2 * bo.length + 7 ≤ 7 * (tkN T n r.1 - q); omega, r6'⟩, by show q < tkN T n r.1; omega, r8⟩)
    · rw [(jg i).2 hn]; exact gcb i hi
    · rw [(jg i).1 hi, lcb]
    · rw [(jg bo.length).2 (fun y => by have := ll' _ y; omega)]; exact gce
end CXR
