/-! The class: statements that begin with a name are read. -/
section CXM
variable {σ σ' σ0 τ τ' τ0 : CS} {L : LV} {b : Bool} {T : Nat → Int32} {n q q' u al o v mk mk' p sz szB szE nc nc0 sz0 mk0 a1 a2 m kk f e s ow a t0 g D op w st w' st' M nm deep vv np : Nat} {y qh qh' : Int32} {l l' cs cs' ll lt lt0 : List Int32} {tb : List Ent} {E : En} {gl : Nat × (Nat → Nat → Prop)} {Vm : Nat → Prop} {Pc : Nat → Nat → Prop} {MD : Nat → Nat → Nat} {md : Nat → Nat} {bt : BT} {ks : List Nat} {lo lo' : Option Nat}
/-! the grammar, without the ; -/
def gCa0 (T : Nat → Int32) (n f : Nat) (MD : Nat → Nat → Nat) (E : En) (o q v : Nat) (b : BT) : RG := gT T n q (fun q1 => if tkK T n q1 = 6 then gCl0 T n f (MD (fd E (tkS T n q)).2.1) (E.2.2.2.2.2.2 (fd E (tkS T n q)).2.1) E o q1 v b else some none)
def gAs0 (T : Nat → Int32) (n f : Nat) (MD : Nat → Nat → Nat) (E : En) (o i q v : Nat) (b : BT) : RG := if tkK T n q = 26 ∧ (fd E (tkS T n q)).1 = 3 then gCa0 T n f MD E o q v b else if tkK T n q = 63 then (if i = 1 then gT T n q (fun q2 => some (some (q2, v, 0, 0, b, []))) else some none) else G T n f 0 E o q v 0 0 0 0 b
def gBh0 (T : Nat → Int32) (n f : Nat) (MD : Nat → Nat → Nat) (E : En) (o i q v : Nat) (b : BT) : RG := if tkK T n q = 2 ∨ tkK T n q = 3 ∨ tkK T n q = 4 then gT T n q (fun q1 => gW T n 1 q1 (fun q2 => G T n f 0 E o q2 v 0 0 0 0 b)) else if tkK T n q = 57 ∨ tkK T n q = 58 ∨ tkK T n q = 59 then gT T n q (fun q1 => gTg T n f E o q1 v b) else gW T n 1 q (fun q1 => gAs0 T n f MD E o i q1 v b)
def gBg0 (T : Nat → Int32) (n f : Nat) (MD : Nat → Nat → Nat) (E : En) (o q v : Nat) (b : BT) : RG := if (fd E (tkS T n q)).1 = 3 then gCa0 T n f MD E o q v b else gb (gTg T n f E o q v b) (fun r => gBh0 T n f MD E o r.2.2.1 r.1 r.2.1 r.2.2.2.2.1)
def zq (z : Option RT) : Option (Nat × Nat) := z.map (fun r => (r.1, r.2.1))
theorem gT_n {k : Nat → RG} (h : tkK T n (tkN T n q) = 0) : gT T n q k = some none := by unfold gT; rw [if_pos h]
theorem gT_y {k : Nat → RG} (h : ¬ tkK T n (tkN T n q) = 0) : gT T n q k = k (tkN T n q) := by unfold gT; rw [if_neg h]
theorem gW_n {t : Nat} {k : Nat → RG} (h : ¬ (tkK T n q = t ∧ ¬ tkK T n (tkN T n q) = 0)) : gW T n t q k = some none := by
  unfold gW
  by_cases c : tkK T n q = t
  · rw [if_pos c]; exact gT_n (Classical.byContradiction (fun z => h ⟨c, z⟩))
  · rw [if_neg c]
theorem gW_y {t : Nat} {k : Nat → RG} (h : tkK T n q = t ∧ ¬ tkK T n (tkN T n q) = 0) : gW T n t q k = k (tkN T n q) := by
  unfold gW; rw [if_pos h.1]; exact gT_y h.2
theorem gCa_0 {tg : Int32} {x : Option RT} (h : gCa T n f MD tg E o q v bt = some x) : ∃ z, gCa0 T n f MD E o q v bt = some z ∧ Sem T n x (zq z) := by
  unfold gCa at h
  unfold gCa0
  rcases gCl_0 h with ⟨w1, w2⟩ | ⟨w1, w2⟩
  · exact ⟨none, gT_n w1, Or.inl ⟨rfl, w2⟩⟩
  · rw [gT_y w1]
    rcases w2 with ⟨w3, w4⟩ | ⟨w3, z, w4, w5⟩
    · exact ⟨none, if_neg w3, Or.inl ⟨rfl, w4⟩⟩
    · exact ⟨z, by rw [if_pos w3]; exact w4, w5⟩
theorem gE13_0 {a1 c1 z1 : Int32} {x : Option RT} (h : gE13 T n f E o q v bt a1 c1 z1 = some x) : ∃ z, G T n f 0 E o q v 0 0 0 0 bt = some z ∧ Sem T n x (zq z) := by
  unfold gE13 at h
  rcases gb_any h with ⟨w1, w2⟩ | ⟨s, w1, w2⟩
  · exact ⟨none, w1, Or.inl ⟨rfl, w2⟩⟩
  · exact ⟨some s, w1, Or.inr ⟨_, _, _, rfl, w2⟩⟩
theorem gBg_0 {x : Option RT} (h : gBg T n f MD E o q v bt = some x) : ∃ z, gBg0 T n f MD E o q v bt = some z ∧ Sem T n x (zq z) := by
  unfold gBg at h
  unfold gBg0
  by_cases f3 : (fd E (tkS T n q)).1 = 3
  · rw [if_pos f3] at h ⊢
    exact gCa_0 h
  rw [if_neg f3] at h ⊢
  rcases gb_any h with ⟨w1, w2⟩ | ⟨r, w1, w2⟩
  · exact ⟨none, by rw [w1]; rfl, Or.inl ⟨rfl, w2⟩⟩
  rw [w1]
  show ∃ z, gBh0 T n f MD E o r.2.2.1 r.1 r.2.1 r.2.2.2.2.1 = some z ∧ _
  unfold gBh at w2
  unfold gBh0
  by_cases c1 : tkK T n r.1 = 2 ∨ tkK T n r.1 = 3 ∨ tkK T n r.1 = 4
  · rw [if_pos c1] at w2 ⊢
    rcases gT_any w2 with ⟨y1, y2⟩ | ⟨y1, y2⟩
    · exact ⟨none, gT_n y1, Or.inl ⟨rfl, y2⟩⟩
    rw [gT_y y1]
    rcases gW_any y2 with ⟨y3, y4⟩ | ⟨y3, y4⟩
    · exact ⟨none, gW_n y3, Or.inl ⟨rfl, y4⟩⟩
    rw [gW_y y3]
    exact gE13_0 y4
  rw [if_neg c1] at w2 ⊢
  by_cases c2 : tkK T n r.1 = 57 ∨ tkK T n r.1 = 58 ∨ tkK T n r.1 = 59
  · rw [if_pos c2] at w2 ⊢
    rcases gT_any w2 with ⟨y1, y2⟩ | ⟨y1, y2⟩
    · exact ⟨none, gT_n y1, Or.inl ⟨rfl, y2⟩⟩
    rw [gT_y y1]
    rcases gb_any y2 with ⟨y3, y4⟩ | ⟨s, y3, y4⟩
    · exact ⟨none, y3, Or.inl ⟨rfl, y4⟩⟩
    · exact ⟨some s, y3, Or.inr ⟨_, _, _, rfl, y4⟩⟩
  rw [if_neg c2] at w2 ⊢
  rcases gW_any w2 with ⟨y1, y2⟩ | ⟨y1, y2⟩
  · exact ⟨none, gW_n y1, Or.inl ⟨rfl, y2⟩⟩
  rw [gW_y y1]
  unfold gAs at y2
  unfold gAs0
  by_cases c3 : tkK T n (tkN T n r.1) = 63
  · rw [if_pos c3] at y2
    rw [if_neg (fun z => by omega), if_pos c3]
    by_cases c4 : r.2.2.1 = 1
    · rw [if_pos c4] at y2 ⊢
      rcases gT_any y2 with ⟨y3, y4⟩ | ⟨y3, y4⟩
      · exact ⟨none, gT_n y3, Or.inl ⟨rfl, y4⟩⟩
      · exact ⟨some _, gT_y y3, Or.inr ⟨_, _, _, rfl, y4⟩⟩
    · rw [if_neg c4] at y2 ⊢
      exact ⟨none, rfl, Or.inl ⟨rfl, (Option.some.inj y2).symm⟩⟩
  rw [if_neg c3] at y2
  by_cases c5 : tkK T n (tkN T n r.1) = 26 ∧ (fd E (tkS T n (tkN T n r.1))).1 = 3
  · rw [if_pos c5] at y2 ⊢
    exact gCa_0 y2
  · rw [if_neg c5] at y2
    rw [if_neg c5, if_neg c3]
    exact gE13_0 y2
/-- procs that are told -/
def PcE (E : En) (Pc : Nat → Nat → Prop) : Prop := ∀ bs, okN bs → (fd E bs).1 = 3 → Pc ((fd E bs).2.1 + 1) (E.2.2.2.2.2.2 (fd E bs).2.1)
/-- behind a simple statement, with what is around -/
def SzR (T : Nat → Int32) (n : Nat) (b : Bool) (u al : Nat) (gl : Nat × (Nat → Nat → Prop)) (Pc : Nat → Nat → Prop) (Vm : Nat → Prop) (tb : List Ent) (o mk sz q v w st : Nat) (lo : Option Nat) (qh : Int32) (r : Nat × Nat) (τ : CS) : Prop := SqR T n b u al gl Pc Vm tb o mk sz q v r τ ∧ ZF b u w st lo qh τ
/-- what statements stand on -/
def StX (n : Nat) (E : En) (b : Bool) (u al : Nat) (gl : Nat × (Nat → Nat → Prop)) (Vm : Nat → Prop) (Pc : Nat → Nat → Prop) (MD : Nat → Nat → Nat) (tb : List Ent) (σ : CS) : Prop := EvX E b u al gl Vm tb σ ∧ PcR b Pc MD σ ∧ PcE E Pc ∧ (∀ i, i < tb.length → ¬ (tb.getD i e0E).2.1 = 3) ∧ n ≤ 10240
theorem StX_k {nc' sz' mk' : Nat} (h : StX n E b u al gl Vm Pc MD tb σ) (x : ZK b u nc' sz' mk' σ τ) : StX n E b u al gl Vm Pc MD tb τ := ⟨EvX_z h.1 x, PcR_k h.2.1 x, h.2.2⟩
/-- bounds of statements: code, marks, names -/
def BdS (n o q v mk sz nt : Nat) : Prop := 2 * sz + 7 * (n - q) + 100 ≤ 73728 ∧ mk ≤ 2 * q + 18 * o ∧ nt + (60 - v) ≤ 256
theorem c_nmEnd {mkx xx q2 v2 : Nat} (h : Zy T n b u al σ0 nc0 sz0 mk0 a1 a2 tb o q2 v2 mkx w st lo qh szB ll τ) (hm : mk ≤ mkx) (h0 : mk0 ≤ mk) (l5 : L.1 5 = nI mk) (ty : Sse u gl Pc Vm [] xx 0 0 ll) (hx : xx ≤ 2) (hl : 2 * ll.length ≤ 7 * (q2 - q)) (hq : q < q2) (hv : v ≤ v2) : Tm (fun k => f_X5_nameStatement k 12 L τ) (ZPo b u nc0 sz0 mk0 (some (q2, v2)) (fun r _ τ => SzR T n b u al gl Pc Vm tb o mk szB q v w st lo qh r τ) σ0 a1 a2) := by
  have fc := fP_c b 3
  have zf := h.2.2
  have s := Zy_g (τ' := uI τ 4011 (L.1 5)) (mk' := mk) h (fun j hj => uI_o (by omega)) rfl (by rw [uI_s]; exact l5) hm h0 (w' := w) (st' := st) (lo' := lo) (qh' := qh) ⟨zf.1, ⟨by rw [uI_o (by omega)]; exact zf.2.1.1, zf.2.1.2⟩, by rw [uI_o (by decide)]; exact zf.2.2.1, by rw [uI_o (by decide)]; exact zf.2.2.2.1, zf.2.2.2.2⟩
  refine Tm_suc (fun k => by rw [f_X5_nameStatement]) ?_
  exact Tm_some (Zfin s ⟨⟨ll, xx, s.1.1, s.2.1, ⟨ty, hx⟩, hl, hq, hv⟩, s.2.2⟩)
/-- a proc is called -/
theorem c_nmCall {i : Nat} {x : Option RT} (s1 : Zy T n b u al σ tb.length sz mk a1 a2 tb o (tkN T n q) v mk w st lo qh sz [] τ) (sx : StX n E b u al gl Vm Pc MD tb τ) (bd : BdS n o q v mk sz tb.length) (g1 : q < tkN T n q) (hi : i < tb.length) (hk : (tb.getD i e0E).2.1 = 2) (hf : (fd E (tkS T n q)).1 = 3) (hs : (tb.getD i e0E).2.2.2.1 = (fd E (tkS T n q)).2.1 + 1) (okn : okN (tkS T n q)) (l2 : L.1 2 = nI i) (l3 : L.1 3 = 2) (k6 : tkK T n (tkN T n q) = 6) (hG : gCl0 T n f (MD (fd E (tkS T n q)).2.1) (E.2.2.2.2.2.2 (fd E (tkS T n q)).2.1) E o (tkN T n q) v bt = some x) : Tm (fun k => f_X5_nameStatement k 4 L τ) (ZPo b u tb.length sz mk (zq x) (fun r _ τ => SzR T n b u al gl Pc Vm tb o mk sz q v w st lo qh r τ) σ a1 a2) := by
  obtain ⟨ev, pr, pe, n3, n10⟩ := sx
  obtain ⟨bd1, bd2, bd3⟩ := bd
  have hP := pe _ okn hf
  have t256 := s1.1.1.2.2.2.1.2.1
  have go := tk_go s1.1.1
  have fc := fP_c b 1
  obtain ⟨⟨pv1, pv2, pv3⟩, pr14, _⟩ := pr _ _ hP
  generalize hvv : (fd E (tkS T n q)).2.1 + 1 = vv at *
  generalize hnp : E.2.2.2.2.2.2 (fd E (tkS T n q)).2.1 = np at *
  have s2 : Zy T n b u al σ tb.length sz mk (a1 + 0) (a2 + 0) tb o (tkN T n q) v mk w st lo qh sz [] (uI τ 4013 0) := by
    have ph := Ph_s (σ := τ) (σ' := uI τ 4013 0) rfl
    exact Zy_42 s1 (fun j hj => uI_o hj) rfl (fun _ _ => ⟨rfl, rfl⟩) rfl rfl (Or.inl rfl) ⟨by omega, by omega⟩
  have kp2 : Kpt [] (uI τ 4013 0) := ⟨⟨uI_s, Nat.zero_le _⟩, fun i hi => absurd hi (Nat.not_lt_zero _)⟩
  have ii : ¬ (nI i < 0 ∨ 256 ≤ (nI i).toNatClampNeg) := n_in (by omega) (by omega)
  have t6 : (uI τ 4013 0).2.2.1 (pR9 b) (nI i).toNatClampNeg = nI vv := by
    obtain ⟨t1, t2, t3, t4, t5, t6, t7⟩ := s2.1.1.2.2.2.1.2.2 i hi
    rw [n_cl (by omega), t6, hs]
  have ev2 : EvX E b u al gl Vm tb (uI τ 4013 0) := ⟨ev.1, ev.2.1, ev.2.2⟩
  have pr2 : PcR b Pc MD (uI τ 4013 0) := pr
  refine Tm_suc (fun k => by rw [f_X5_nameStatement]) ?_
  refine Tm_yes l3 ?_
  refine Tm_oP (Zy_pp s2) ?_
  rw [l2]
  refine Tm_chk ii ?_
  rw [t6]
  have hmd : MD (fd E (tkS T n q)).2.1 = MD (vv - 1) := by rw [← hvv]; rfl
  refine zt_callZ (C := True) s2 (c_call (lt0 := []) (vv := vv) (np := np) s2.1.1 s2.2.2 ev2 pr2 hP hmd n3 n10 (by omega) (by omega) (by show 2 * (sz + 0) + 7 * (n - tkN T n q) + 2 * 0 + 100 ≤ _; omega) k6 kp2 (Nat.zero_le _) rfl rfl hG) ?_
  cases x with
  | none => exact Or.inl ⟨rfl, rfl⟩
  | some r =>
    refine Or.inr ⟨(r.1, r.2.1), rfl, trivial, fun τ3 ret3 n1 n2 hr zk3 hc3 => ?_⟩
    obtain ⟨cc, pp, r1, r2, r3, ⟨r4, r4'⟩, r5, r6, r7, r8⟩ := hr
    have s3 := Zy_ca s2 r1 zk3 hc3 r2 (Nat.le_refl _) (Nat.le_refl _) r3
    have s3' : Zy T n b u al σ tb.length sz mk (a1 + 0 + n1) (a2 + 0 + n2) tb o r.1 r.2.1 mk w st lo qh sz (cc ++ (pp ++ [])) τ3 := s3
    have lcp : (cc ++ (pp ++ [])).length = cc.length + pp.length := by rw [List.append_nil, List.length_append]
    have go3 := tk_go s3.1.1
    have r7' : tkN T n q < r.1 := r7
    have r6' : 2 * (cc.length + pp.length) ≤ 7 * (r.1 - tkN T n q) := r6
    refine Tm_oP (Zy_pp s3') (Tm_oP (Zy_pp s3') (Tm_oP (Zy_pp s3') ?_))
    refine Tm_chk ii ?_
    have t63 : τ3.2.2.1 (pR9 b) (nI i).toNatClampNeg = nI vv := by
      obtain ⟨t1, t2, t3, t4, t5, t6', t7⟩ := s3'.1.1.2.2.2.1.2.2 i hi
      rw [n_cl (by omega), t6', hs]
    show Tm (fun k => if ¬ (τ3.2.2.1 (pR9 b) (nI i).toNatClampNeg < 0 ∨ 42 ≤ (τ3.2.2.1 (pR9 b) (nI i).toNatClampNeg).toNatClampNeg) then ox (f_X7_emit__P k 0 (lI (lI (lB lZ 0 b) 1 37) 2 (1 + τ3.2.2.1 (pR14 b) (τ3.2.2.1 (pR9 b) (nI i).toNatClampNeg).toNatClampNeg)) τ3) (fun r10 => some ((0, 0), r10.2.1, (0, 0))) else none) _
    rw [t63]
    refine Tm_chk (n_in (by omega) (by omega)) ?_
    have p14 : τ3.2.2.1 (pR14 b) (nI vv).toNatClampNeg = nI np := by
      rw [n_cl (by omega)]; exact (PcR_k pr2 zk3 _ _ hP).2.1
    rw [p14, show (1 : Int32) + nI np = nI (1 + np) from n_add (p := 1) (by omega)]
    refine zt_emit (op := 37) s3' rfl rfl (by rw [lcp]; omega) (fun τ4 n3' n4 s4 xk4 => ?_)
    have ty : Sse u gl Pc Vm [] 2 0 0 (cc ++ (pp ++ []) ++ [em 37 (nI (1 + np))]) := by
      have z0 := Sse_i (pre := []) (Is_dr (u := u) (gl := gl) (Pc := Pc) (Vm := Vm) (pre := []) (n := 0) (k := 1 + np) (by omega)) (by show 1 ≤ 1; decide) (by omega)
      rw [Nat.zero_add] at z0
      have z1 := Sse_seq r5 z0 (by omega)
      have z2 := Sse_seq r4 z1 (by omega)
      rw [List.append_nil, List.append_assoc]
      exact z2
    have le : ∀ w : Int32, (cc ++ (pp ++ []) ++ [w]).length = cc.length + pp.length + 1 := fun w => by rw [List.length_append, lcp]; rfl
    refine Tm_some (Zfin s4 ⟨⟨_, 2, s4.1.1, s4.2.1, ⟨ty, Nat.le_refl _⟩, ?_, ?_, r8⟩, s4.2.2⟩)
    · rw [le]
      show 2 * (cc.length + pp.length + 1) ≤ 7 * (r.1 - q)
      omega
    · show q < r.1
      omega
end CXM
