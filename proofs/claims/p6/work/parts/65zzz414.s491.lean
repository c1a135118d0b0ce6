/-! The class: tuples of targets are read. -/
section CXG
variable {σ σ' σ0 τ τ' : CS} {L : LV} {b : Bool} {T : Nat → Int32} {n q q' u al o v mk mk' p sz szB nc0 sz0 mk0 a1 a2 m kk f e s ow a t0 g D op : Nat} {y : Int32} {l l' cs cs' ll : List Int32} {tb : List Ent} {E : En} {gl : Nat × (Nat → Nat → Prop)} {Vm : Nat → Prop} {Pc : Nat → Nat → Prop} {bt : BT} {ks : List Nat} {α : Type} {S : α → Int32 → CS → Prop} {x : Option α} {C : Prop}
/-! steps that tell what stays since -/
theorem sx_adv {f : Nat → RS → Option RS} (h : Sy T n b u al σ0 nc0 sz0 mk0 a1 a2 tb o q v mk p szB cs τ) (hx : (tkK T n (tkN T n q) = 0 ∧ x = none) ∨ (¬ tkK T n (tkN T n q) = 0 ∧ C)) (cont : ∀ (τ' : CS) (ret : Int32) (n1 n2 : Nat), C → Sy T n b u al σ0 nc0 sz0 mk0 (a1 + n1) (a2 + n2) tb o (tkN T n q) v mk p szB cs τ' → XK b u tb.length (szB + cs.length) mk τ τ' → Tm (fun k => f k ((0, ret), τ', (n1, n2))) (QPo b u nc0 sz0 mk0 x S σ0 (a1 + n1) (a2 + n2))) : Tm (fun k => ox (f_X2_advance k 0 L τ) (f k)) (QPo b u nc0 sz0 mk0 x S σ0 a1 a2) := by
  rcases hx with ⟨w1, w2⟩ | ⟨w1, c⟩
  · exact st_call (C := True) h.1 (c_advX h.1.1 (Or.inl ⟨w1, rfl⟩)) (Or.inl ⟨rfl, w2⟩)
  · exact st_call (C := C) h.1 (c_advX h.1.1 (Or.inr ⟨w1, rfl⟩)) (Or.inr ⟨_, rfl, c, fun τ' ret n1 n2 hq xk hc => cont τ' ret n1 n2 c (Sy_c0 h hq xk hc h.1.2.2.2.1 h.1.2.2.2.2.2) xk⟩)
theorem sx_closes {f : Nat → RS → Option RS} (h : Sy T n b u al σ0 nc0 sz0 mk0 a1 a2 tb (o + 1) q v mk p szB cs τ) (hk : tkV kk) (h1 : L.1 1 = cKd kk) (hx : (¬ (tkK T n q = kk ∧ ¬ tkK T n (tkN T n q) = 0) ∧ x = none) ∨ ((tkK T n q = kk ∧ ¬ tkK T n (tkN T n q) = 0) ∧ C)) (cont : ∀ (τ' : CS) (ret : Int32) (n1 n2 : Nat), C → Sy T n b u al σ0 nc0 sz0 mk0 (a1 + n1) (a2 + n2) tb o (tkN T n q) v mk p szB cs τ' → XK b u tb.length (szB + cs.length) mk τ τ' → Tm (fun k => f k ((0, ret), τ', (n1, n2))) (QPo b u nc0 sz0 mk0 x S σ0 (a1 + n1) (a2 + n2))) : Tm (fun k => ox (f_X5_closes k 0 L τ) (f k)) (QPo b u nc0 sz0 mk0 x S σ0 a1 a2) := by
  rcases hx with ⟨w1, w2⟩ | ⟨w1, c⟩
  · exact st_call (C := True) h.1 (c_closesQ h.1.1 hk h1 (Or.inl ⟨w1, rfl⟩)) (Or.inl ⟨rfl, w2⟩)
  · exact st_call (C := C) h.1 (c_closesQ h.1.1 hk h1 (Or.inr ⟨w1, rfl⟩)) (Or.inr ⟨_, rfl, c, fun τ' ret n1 n2 hq xk hc => cont τ' ret n1 n2 c (Sy_c0 h hq xk hc h.1.2.2.2.1 h.1.2.2.2.2.2) xk⟩)
theorem sx_expect {f : Nat → RS → Option RS} (h : Sy T n b u al σ0 nc0 sz0 mk0 a1 a2 tb o q v mk p szB cs τ) (hk : tkV kk) (h1 : L.1 1 = cKd kk) (hx : (¬ (tkK T n q = kk ∧ ¬ tkK T n (tkN T n q) = 0) ∧ x = none) ∨ ((tkK T n q = kk ∧ ¬ tkK T n (tkN T n q) = 0) ∧ C)) (cont : ∀ (τ' : CS) (ret : Int32) (n1 n2 : Nat), C → Sy T n b u al σ0 nc0 sz0 mk0 (a1 + n1) (a2 + n2) tb o (tkN T n q) v mk p szB cs τ' → XK b u tb.length (szB + cs.length) mk τ τ' → Tm (fun k => f k ((0, ret), τ', (n1, n2))) (QPo b u nc0 sz0 mk0 x S σ0 (a1 + n1) (a2 + n2))) : Tm (fun k => ox (f_X5_expect k 0 L τ) (f k)) (QPo b u nc0 sz0 mk0 x S σ0 a1 a2) := by
  rcases hx with ⟨w1, w2⟩ | ⟨w1, c⟩
  · exact st_call (C := True) h.1 (c_expectQ h.1.1 hk h1 (Or.inl ⟨w1, rfl⟩)) (Or.inl ⟨rfl, w2⟩)
  · exact st_call (C := C) h.1 (c_expectQ h.1.1 hk h1 (Or.inr ⟨w1, rfl⟩)) (Or.inr ⟨_, rfl, c, fun τ' ret n1 n2 hq xk hc => cont τ' ret n1 n2 c (Sy_c0 h hq xk hc h.1.2.2.2.1 h.1.2.2.2.2.2) xk⟩)
theorem c_writeHoles {vt N : Nat} {hs : List Hol} (h : QS T n b u al tb o q v mk p sz σ) (u42 : u < 42) (hvt : vt ≤ 90000) (hN : N ≤ 30000) (hm : hoM σ t0 hs) (hg : hoG u gl Vm hs) (hv : hoV hs = vt) (ha : t0 + hoN hs ≤ mk) (hl : hs.length = N) (l1 : L.1 1 = nI t0) (l2 : L.1 2 = nI N) (l3 : L.1 3 = nI vt) (hsz : sz + hoK hs + 2 ≤ 36864) : Tm (fun k => f_X5_writeHoles k 0 L σ) (QPo b u tb.length sz mk (some ()) (fun _ _ τ => QS T n b u al tb o q v mk p (sz + ([em 100 0] ++ (hoC 0 vt (hoU u hs) ++ [em 37 (nI (vt + 1))])).length) τ ∧ (∀ i, i < ([em 100 0] ++ (hoC 0 vt (hoU u hs) ++ [em 37 (nI (vt + 1))])).length → cdr b τ (sz + i) = ([em 100 0] ++ (hoC 0 vt (hoU u hs) ++ [em 37 (nI (vt + 1))])).getD i 0)) σ 0 0) := by
  have s0 := Sy_0 h
  refine Tm_suc (fun k => by rw [f_X5_writeHoles]) ?_
  refine Tm_oP (Sy_pp s0) ?_
  refine st_emit (op := 100) s0 rfl rfl (by show sz + 0 + 1 ≤ _; omega) (fun τ1 n1 n2 s1 => ?_)
  have s1' : Sy T n b u al σ tb.length sz mk (0 + n1) (0 + n2) tb o q v mk p sz [em 100 0] τ1 := s1
  exact c_whL (vt := vt) (N := N) u42 hvt hN hs 0 vt t0 _ τ1 _ _ [em 100 0] hm hg (by omega) hvt ha (by omega) l2 l3 l3 l1 rfl s1' (by show sz + 1 + hoK hs + 1 ≤ _; omega)
theorem c_markNo (h : QS T n b u al tb o q v mk p sz σ) (hm : mk + 4 ≤ 21504) : Tm (fun k => f_X5_markNoTarget k 0 L σ) (QPo b u tb.length sz mk (some ()) (fun _ _ τ => QS T n b u al tb o q v (mk + 4) p sz τ ∧ τ.2.2.1 41 mk = -1 ∧ τ.2.2.1 41 (mk + 2) = 0 ∧ τ.2.2.1 41 (mk + 3) = 0) σ 0 0) := by
  have s0 := Sy_0 h
  refine Tm_suc (fun k => by rw [f_X5_markNoTarget]) ?_
  refine st_mark s0 (by omega) (fun τ1 m1 m2 s1 k1 w1 => ?_)
  refine st_mark s1 (by omega) (fun τ2 m3 m4 s2 k2 w2 => ?_)
  refine st_mark s2 (by omega) (fun τ3 m5 m6 s3 k3 w3 => ?_)
  refine st_mark s3 (by omega) (fun τ4 m7 m8 s4 k4 w4 => ?_)
  refine Tm_some (Qfin s4.1 ⟨s4.1.1, ?_, ?_, ?_⟩)
  · rw [k4 _ (by omega), k3 _ (by omega), k2 _ (by omega)]; exact w1
  · rw [k4 _ (by omega)]; exact w3
  · exact w4
/-- a tuple of targets and its exp -/
def gPa0 (T : Nat → Int32) (n f : Nat) (E : En) (o q v : Nat) (b : BT) : RG := gO o (gT T n q (fun q1 => gb (GPt T n E f (o + 1) q1 v 0 0 b) (fun r => gW T n 11 r.1 (fun q2 => gW T n 1 q2 (fun q3 => G T n f 0 E o q3 r.2.1 0 0 0 0 r.2.2.2.2.1)))))
theorem gPa_0 {x : Option RT} (h : gPa T n f E o q v bt = some x) : ∃ z, gPa0 T n f E o q v bt = some z ∧ Sem T n x (z.map (fun r => (r.1, r.2.1))) := by
  unfold gPa at h
  unfold gPa0
  rcases gO_any h with ⟨w1, w2⟩ | ⟨w1, w2⟩
  · exact ⟨none, by unfold gO; rw [if_pos w1], Or.inl ⟨rfl, w2⟩⟩
  unfold gO
  rw [if_neg w1]
  rcases gT_any w2 with ⟨w3, w4⟩ | ⟨w3, w4⟩
  · exact ⟨none, by unfold gT; rw [if_pos w3], Or.inl ⟨rfl, w4⟩⟩
  unfold gT
  rw [if_neg w3]
  show ∃ z, gb (GPt T n E f (o + 1) (tkN T n q) v 0 0 bt) (fun r => gW T n 11 r.1 (fun q2 => gW T n 1 q2 (fun q3 => G T n f 0 E o q3 r.2.1 0 0 0 0 r.2.2.2.2.1))) = some z ∧ _
  rcases gb_any w4 with ⟨w5, w6⟩ | ⟨r, w5, w6⟩
  · exact ⟨none, by rw [w5]; rfl, Or.inl ⟨rfl, w6⟩⟩
  rw [w5]
  show ∃ z, gW T n 11 r.1 (fun q2 => gW T n 1 q2 (fun q3 => G T n f 0 E o q3 r.2.1 0 0 0 0 r.2.2.2.2.1)) = some z ∧ _
  have gw : ∀ (t q0 : Nat) (k : Nat → RG), ¬ (tkK T n q0 = t ∧ ¬ tkK T n (tkN T n q0) = 0) → gW T n t q0 k = some none := by
    intro t q0 k hn
    unfold gW gT
    by_cases c1 : tkK T n q0 = t
    · rw [if_pos c1]
      by_cases c2 : tkK T n (tkN T n q0) = 0
      · rw [if_pos c2]
      · exact absurd ⟨c1, c2⟩ hn
    · rw [if_neg c1]
  have gw2 : ∀ (t q0 : Nat) (k : Nat → RG), (tkK T n q0 = t ∧ ¬ tkK T n (tkN T n q0) = 0) → gW T n t q0 k = k (tkN T n q0) := by
    intro t q0 k hn
    unfold gW gT
    rw [if_pos hn.1, if_neg hn.2]
  rcases gW_any w6 with ⟨w7, w8⟩ | ⟨w7, w8⟩
  · exact ⟨none, gw _ _ _ w7, Or.inl ⟨rfl, w8⟩⟩
  rw [gw2 _ _ _ w7]
  rcases gW_any w8 with ⟨w9, wa⟩ | ⟨w9, wa⟩
  · exact ⟨none, gw _ _ _ w9, Or.inl ⟨rfl, wa⟩⟩
  rw [gw2 _ _ _ w9]
  rcases gb_any wa with ⟨wb, wc⟩ | ⟨s, wb, wc⟩
  · exact ⟨none, wb, Or.inl ⟨rfl, wc⟩⟩
  · exact ⟨some s, wb, Or.inr ⟨_, _, _, rfl, wc⟩⟩
/-- behind a simple statement, before its ; -/
def SqR (T : Nat → Int32) (n : Nat) (b : Bool) (u al : Nat) (gl : Nat × (Nat → Nat → Prop)) (Pc : Nat → Nat → Prop) (Vm : Nat → Prop) (tb : List Ent) (o mk sz q v : Nat) (r : Nat × Nat) (τ : CS) : Prop := ∃ (ll : List Int32) (x : Nat), QS T n b u al tb o r.1 r.2 mk 0 (sz + ll.length) τ ∧ (∀ i, i < ll.length → cdr b τ (sz + i) = ll.getD i 0) ∧ (Sse u gl Pc Vm [] x 0 0 ll ∧ x ≤ 2) ∧ 2 * ll.length ≤ 7 * (r.1 - q) ∧ q < r.1 ∧ v ≤ r.2
theorem c_holes {x : Option RT} (h : QS T n b u al tb o q v mk 0 sz σ) (ev : EvX E b u al gl Vm tb σ) (n3 : ∀ i, i < tb.length → ¬ (tb.getD i e0E).2.1 = 3) (n10 : n ≤ 10240) (hmk : mk ≤ 2 * q + 18 * o) (hsz : 2 * sz + 7 * (n - q) + 100 ≤ 73728) (hnt : tb.length + (60 - v) ≤ 256) (hk : tkK T n q = 10) (hG : gPa0 T n f E o q v bt = some x) : Tm (fun k => f_X5_holesStatement k 0 L σ) (QPo b u tb.length sz mk (x.map (fun r => (r.1, r.2.1))) (fun r _ τ => SqR T n b u al gl Pc Vm tb o mk sz q v r τ) σ 0 0) := by
  have s0 := Sy_0 h
  have go := tk_go h
  have g1 := go.2.2 (by omega)
  have u42 := ev.2.2.1.2
  have gl1 := ev.1.1
  have o20 := h.2.2.2.2.2.1.2
  have v60 := h.2.2.2.2.2.2.1.2
  unfold gPa0 at hG
  generalize hq0 : tkN T n q = q0 at *
  -- behind the holes
  have b2 : ∀ (L' : LV) (τ : CS) (a1 a2 q1 v1 N vt : Nat) (cs : List Int32) (hs : List Hol) (bt1 : BT) (x : Option RT), gW T n 11 q1 (fun q2 => gW T n 1 q2 (fun q3 => G T n f 0 E o q3 v1 0 0 0 0 bt1)) = some x → L'.1 1 = nI mk → L'.1 2 = nI N → L'.1 3 = nI vt → Sy T n b u al σ tb.length sz mk a1 a2 tb (o + 1) q1 v1 (mk + hoN hs) 0 sz cs τ → hoM τ mk hs → hoG u gl Vm hs → hoV hs = vt → hs.length = N → Sgm u 0 gl Vm (hoV hs) cs → 2 * cs.length + 2 * hoK hs ≤ 5 * (q1 - q0) + 5 → hoN hs ≤ 2 * (q1 - q0) + 2 → hoV hs ≤ 3 * (q1 - q0) → hs.length ≤ q1 - q0 → q0 ≤ q1 → v ≤ v1 → Tm (fun k => f_X5_holesStatement k 2 L' τ) (QPo b u tb.length sz mk (x.map (fun r => (r.1, r.2.1))) (fun r _ τ => SqR T n b u al gl Pc Vm tb o mk sz q v r τ) σ a1 a2) := by
    intro L' τ a1 a2 q1 v1 N vt cs hs bt1 x hg l1 l2 l3 s1 hm hh hv hl sg ln hn hvb hlb lq lv
    have go1 := tk_go s1.1.1
    refine Tm_suc (fun k => by rw [f_X5_holesStatement]) ?_
    rcases gW_any hg with ⟨w1, w2⟩ | ⟨w1, w2⟩
    · rw [w2]
      exact sx_closes (kk := 11) (C := False) s1 (by decide) rfl (Or.inl ⟨w1, rfl⟩) (fun _ _ _ _ c _ _ => c.elim)
    refine sx_closes (kk := 11) (C := True) s1 (by decide) rfl (Or.inr ⟨w1, trivial⟩) (fun τ2 ret2 n1 n2 _ s2 xk2 => ?_)
    have g2 := go1.2.2 (by omega)
    have go2 := tk_go s2.1.1
    rcases gW_any w2 with ⟨w3, w4⟩ | ⟨w3, w4⟩
    · rw [w4]
      exact sx_expect (kk := 1) (C := False) s2 (by decide) rfl (Or.inl ⟨w3, rfl⟩) (fun _ _ _ _ c _ _ => c.elim)
    refine sx_expect (kk := 1) (C := True) s2 (by decide) rfl (Or.inr ⟨w3, trivial⟩) (fun τ3 ret3 n3' n4 _ s3 xk3 => ?_)
    have g3 := go2.2.2 (by omega)
    have go3 := tk_go s3.1.1
    have bd3 : BdX n o (tkN T n (tkN T n q1)) v1 (mk + hoN hs) 0 (sz + cs.length) tb.length := ⟨n10, by omega, by omega, by omega, by omega⟩
    cases x with
    | none => exact st_exp (C := True) (px_all f 400) (Or.inl ⟨rfl, rfl⟩) s3 (EvX_k ev s3.1.2.1) bd3 rfl (by omega) w4 (Or.inl ⟨rfl, rfl⟩) (fun _ _ _ _ _ _ z => by cases z)
    | some r =>
      refine st_exp (C := True) (px_all f 400) (Or.inl ⟨rfl, rfl⟩) s3 (EvX_k ev s3.1.2.1) bd3 rfl (by omega) w4 (Or.inr ⟨r, rfl, trivial⟩) (fun τ4 ret4 n5 n6 r1 l4 hz _ s4 xk4 sg4 ln4 lt4 lv4 tg4 => ?_)
      cases hz
      have go4 := tk_go s4.1.1
      have m1 := hoM_k xk2 hs mk hm (Nat.le_refl _)
      have m2 := hoM_k xk3 hs mk m1 (Nat.le_refl _)
      have m3 := hoM_k xk4 hs mk m2 (Nat.le_refl _)
      have lc : (cs ++ l4).length = cs.length + l4.length := List.length_append
      refine st_call (C := True) s4.1 (c_writeHoles (t0 := mk) (vt := vt) (N := N) s4.1.1 u42 (by omega) (by omega) m3 hh hv (Nat.le_refl _) hl l1 l2 l3 (by rw [lc]; omega)) (Or.inr ⟨(), rfl, trivial, fun τ5 ret5 n7 n8 hr xk5 hc5 => ?_⟩)
      obtain ⟨r1, r2⟩ := hr
      have s5 := Sy_ca s4 r1 xk5 hc5 r2 (Nat.le_refl _) (by omega)
      have lw : ([em 100 0] ++ (hoC 0 vt (hoU u hs) ++ [em 37 (nI (vt + 1))])).length = hoK hs + 2 := by
        rw [List.length_append, List.length_append, hoC_l]
        show 1 + (hoK hs + 1) = _
        omega
      have ty : Sse u gl Pc Vm [] 0 0 0 (cs ++ l4 ++ ([em 100 0] ++ (hoC 0 vt (hoU u hs) ++ [em 37 (nI (vt + 1))]))) := by
        have z1 := Sse_ho (u := u) (Pc := Pc) (vt := vt) (hs := hoU u hs) (gl := gl) (Vm := Vm) (by omega) (by rw [hoU_l]; omega) (hoO_of gl1 hs vt hh (by omega))
        have z2 := Sst_sg (Pc := Pc) (pre := []) (Sgm_seq sg sg4) 0
        rw [Nat.zero_add] at z2
        rw [hv] at z2
        have sg1 := sg.1
        have sg41 := sg4.1
        exact Sse_seq z2 z1 (by rw [lc]; omega)
      have fc := fP_c b 19
      have s6 : Sx T n b u al σ tb.length sz mk (a1 + n1 + n3' + n5 + n7) (a2 + n2 + n4 + n6 + n8) tb o r.1 r.2.1 mk 0 (sz + (cs ++ l4 ++ ([em 100 0] ++ (hoC 0 vt (hoU u hs) ++ [em 37 (nI (vt + 1))]))).length) (uI τ5 4011 (L'.1 1)) := Sx_f s5.1 (fun j hj => uI_o (by omega)) rfl (by rw [uI_o (by decide)]; exact s5.1.1.2.2.2.2.2.1.1) s5.1.1.2.2.2.2.2.1.2 (by rw [uI_s]; exact l1) (by omega) (Nat.le_refl _) (by rw [uI_o (by omega)]; exact s5.1.1.2.2.2.2.2.2.2)
      refine Tm_some (Qfin s6 ⟨_, 0, s6.1, s5.2, ⟨ty, Nat.zero_le _⟩, ?_, ?_, ?_⟩)
      · rw [List.length_append, lc, lw]
        show 2 * (cs.length + l4.length + (hoK hs + 2)) ≤ 7 * (r.1 - q)
        omega
      · show q < r.1
        omega
      · show v ≤ r.2.1
        omega
  -- the holes
  have lp : ∀ (f1 : Nat) (L' : LV) (τ : CS) (a1 a2 q1 v1 i1 e1 it N vt : Nat) (bt1 : BT) (cs : List Int32) (hs : List Hol) (x : Option RT), gb (GPt T n E f1 (o + 1) q1 v1 i1 e1 bt1) (fun r => gW T n 11 r.1 (fun q2 => gW T n 1 q2 (fun q3 => G T n f 0 E o q3 r.2.1 0 0 0 0 r.2.2.2.2.1))) = some x → L'.1 1 = nI mk → L'.1 2 = nI N → L'.1 3 = nI vt → L'.1 4 = 1 → L'.1 5 = nI it → it ≤ q1 → Sy T n b u al σ tb.length sz mk a1 a2 tb (o + 1) q1 v1 (mk + hoN hs) 0 sz cs τ → hoM τ mk hs → hoG u gl Vm hs → hoV hs = vt → hs.length = N → Sgm u 0 gl Vm (hoV hs) cs → 2 * cs.length + 2 * hoK hs ≤ 5 * (q1 - q0) → hoN hs ≤ 2 * (q1 - q0) → hoV hs ≤ 3 * (q1 - q0) → hs.length ≤ q1 - q0 → q0 ≤ q1 → v ≤ v1 → Tm (fun k => f_X5_holesStatement k 1 L' τ) (QPo b u tb.length sz mk (x.map (fun r => (r.1, r.2.1))) (fun r _ τ => SqR T n b u al gl Pc Vm tb o mk sz q v r τ) σ a1 a2) := by
    intro f1
    induction f1 with
    | zero =>
      intro L' τ a1 a2 q1 v1 i1 e1 it N vt bt1 cs hs x hg
      cases hg
    | succ f1 ih =>
      intro L' τ a1 a2 q1 v1 i1 e1 it N vt bt1 cs hs x hg l1 l2 l3 l4 l5 hit s1 hm hh hv hl sg ln hn hvb hlb lq lv
      have go1 := tk_go s1.1.1
      have hg' : gb (gb (gHo T n f1 E (o + 1) q1 v1 bt1) (fun r => if tkK T n r.1 = 12 then gT T n r.1 (fun q2 => GPt T n E f1 (o + 1) q2 r.2.1 (fst2 i1 r.2.2.2.1) r.2.2.2.1 (bLnk i1 e1 r.2.2.2.1 r.2.2.2.2.1)) else some (some (r.1, r.2.1, 0, fst2 i1 r.2.2.2.1, bLnk i1 e1 r.2.2.2.1 r.2.2.2.2.1, [])))) (fun r => gW T n 11 r.1 (fun q2 => gW T n 1 q2 (fun q3 => G T n f 0 E o q3 r.2.1 0 0 0 0 r.2.2.2.2.1))) = some x := hg
      rw [gb_gb] at hg'
      -- behind one hole
      have b4 : ∀ (L4 : LV) (τ4 : CS) (a3 a4 vt4 : Nat) (r : RT) (cs4 : List Int32) (hs4 : List Hol), gb (if tkK T n r.1 = 12 then gT T n r.1 (fun q2 => GPt T n E f1 (o + 1) q2 r.2.1 (fst2 i1 r.2.2.2.1) r.2.2.2.1 (bLnk i1 e1 r.2.2.2.1 r.2.2.2.2.1)) else some (some (r.1, r.2.1, 0, fst2 i1 r.2.2.2.1, bLnk i1 e1 r.2.2.2.1 r.2.2.2.2.1, []))) (fun r => gW T n 11 r.1 (fun q2 => gW T n 1 q2 (fun q3 => G T n f 0 E o q3 r.2.1 0 0 0 0 r.2.2.2.2.1))) = some x → L4.1 1 = nI mk → L4.1 2 = nI N → L4.1 3 = nI vt4 → L4.1 5 = nI it → Sy T n b u al σ tb.length sz mk a3 a4 tb (o + 1) r.1 r.2.1 (mk + hoN hs4) 0 sz cs4 τ4 → hoM τ4 mk hs4 → hoG u gl Vm hs4 → hoV hs4 = vt4 → hs4.length = N + 1 → Sgm u 0 gl Vm (hoV hs4) cs4 → 2 * cs4.length + 2 * hoK hs4 ≤ 5 * (r.1 - q0) + 5 → hoN hs4 ≤ 2 * (r.1 - q0) + 2 → hoV hs4 ≤ 3 * (r.1 - q0) → hs4.length ≤ r.1 - q0 → q1 < r.1 → v ≤ r.2.1 → Tm (fun k => f_X5_holesStatement k 4 L4 τ4) (QPo b u tb.length sz mk (x.map (fun r => (r.1, r.2.1))) (fun r _ τ => SqR T n b u al gl Pc Vm tb o mk sz q v r τ) σ a3 a4) := by
        intro L4 τ4 a3 a4 vt4 r cs4 hs4 hg4 j1 j2 j3 j5 s4 hm4 hh4 hv4 hl4 sg4 ln4 hn4 hvb4 hlb4 lq4 lv4
        have go4 := tk_go s4.1.1
        refine Tm_suc (fun k => by rw [f_X5_holesStatement]) ?_
        by_cases k12 : tkK T n r.1 = 12
        · rw [if_pos k12, gb_gT] at hg4
          have g4 := go4.2.2 (by omega)
          refine Tm_yes ((lx_k (kk := 12) s4.1.1 (by decide)).2 k12) ?_
          refine Tm_suc (fun k => by rw [f_X5_holesStatement]) ?_
          refine Tm_no (by show ¬ (1 : Int32) = 0; decide) ?_
          rcases gT_any hg4 with ⟨w1, w2⟩ | ⟨w1, w2⟩
          · rw [w2]
            exact sx_adv (C := False) s4 (Or.inl ⟨w1, rfl⟩) (fun _ _ _ _ c _ _ => c.elim)
          refine sx_adv (C := True) s4 (Or.inr ⟨w1, trivial⟩) (fun τ5 ret5 n1 n2 _ s5 xk5 => ?_)
          refine Tm_suc (fun k => by rw [f_X5_holesStatement]) ?_
          refine ih _ τ5 _ _ (tkN T n r.1) r.2.1 _ _ (it + 1) (N + 1) vt4 _ cs4 hs4 x w2 j1 ?_ j3 rfl ?_ (by omega) s5 (hoM_k xk5 hs4 mk hm4 (Nat.le_refl _)) hh4 hv4 hl4 sg4 (by omega) (by omega) (by omega) (by omega) (by omega) lv4
          · show L4.1 2 + 1 = _
            rw [j2, n_add1]
          · show L4.1 5 + 1 = _
            rw [j5, n_add1]
        · rw [if_neg k12] at hg4
          refine Tm_no (fun z => k12 ((lx_k (kk := 12) s4.1.1 (by decide)).1 z)) ?_
          refine Tm_suc (fun k => by rw [f_X5_holesStatement]) ?_
          refine Tm_suc (fun k => by rw [f_X5_holesStatement]) ?_
          refine Tm_yes rfl ?_
          refine Tm_suc (fun k => by rw [f_X5_holesStatement]) ?_
          refine Tm_suc (fun k => by rw [f_X5_holesStatement]) ?_
          refine Tm_no (by show ¬ nI 32768 < L4.1 5 + 1; rw [j5, n_add1, n_lt (by decide) (by omega)]; omega) ?_
          refine Tm_yes rfl ?_
          exact b2 _ τ4 _ _ r.1 r.2.1 (N + 1) vt4 cs4 hs4 _ x hg4 j1 (by show L4.1 2 + 1 = _; rw [j2, n_add1]) j3 s4 hm4 hh4 hv4 hl4 sg4 ln4 hn4 hvb4 hlb4 (by omega) lv4
      refine Tm_suc (fun k => by rw [f_X5_holesStatement]) ?_
      refine Tm_no (by rw [l5]; show ¬ nI 32768 < nI it; rw [n_lt (by decide) (by omega)]; omega) ?_
      refine Tm_no (by rw [l4]; decide) ?_
      by_cases k3 : tkK T n q1 = 3
      · have gh : gHo T n f1 E (o + 1) q1 v1 bt1 = gT T n q1 (fun q2 => some (some (q2, v1, 0, bt1.1, bNode bt1 32 0 0 0, []))) := by unfold gHo; rw [if_pos k3]
        rw [gh, gb_gT] at hg'
        refine Tm_yes ((lx_k (kk := 3) s1.1.1 (by decide)).2 k3) ?_
        rcases gT_any hg' with ⟨w1, w2⟩ | ⟨w1, w2⟩
        · rw [w2]
          exact sx_adv (C := False) s1 (Or.inl ⟨w1, rfl⟩) (fun _ _ _ _ c _ _ => c.elim)
        refine sx_adv (C := True) s1 (Or.inr ⟨w1, trivial⟩) (fun τ2 ret2 n1 n2 _ s2 xk2 => ?_)
        have g2 := go1.2.2 (by omega)
        have go2 := tk_go s2.1.1
        refine st_call (C := True) s2.1 (c_markNo s2.1.1 (by omega)) (Or.inr ⟨(), rfl, trivial, fun τ3 ret3 n3' n4 hr xk3 hc3 => ?_⟩)
        obtain ⟨r1, r2, r3, r4⟩ := hr
        have s3 := Sy_c0 s2 r1 xk3 hc3 (Nat.le_refl _) (by omega)
        have hm3 := hoM_k xk3 hs mk (hoM_k xk2 hs mk hm (Nat.le_refl _)) (Nat.le_refl _)
        have eN : hoN (hs ++ [none]) = hoN hs + 4 := by rw [hoN_ap]; rfl
        have eV : hoV (hs ++ [none]) = hoV hs := by rw [hoV_ap]; rfl
        have eK : hoK (hs ++ [none]) = hoK hs := by rw [hoK_ap]; rfl
        refine b4 L' τ3 _ _ vt (tkN T n q1, v1, 0, bt1.1, bNode bt1 32 0 0 0, []) cs (hs ++ [none]) w2 l1 l2 l3 l5 (by rw [eN, ← Nat.add_assoc]; exact s3) (hoM_ap hs [none] mk hm3 ⟨⟨r2, r3, r4⟩, trivial⟩) (hoG_ap hs [none] hh trivial) (by rw [eV]; exact hv) (by rw [List.length_append, hl]; rfl) (by rw [eV]; exact sg) ?_ ?_ ?_ ?_ g2 lv
        · show 2 * cs.length + 2 * hoK (hs ++ [none]) ≤ 5 * (tkN T n q1 - q0) + 5
          rw [eK]; omega
        · show hoN (hs ++ [none]) ≤ 2 * (tkN T n q1 - q0) + 2
          rw [eN]; omega
        · show hoV (hs ++ [none]) ≤ 3 * (tkN T n q1 - q0)
          rw [eV]; omega
        · rw [List.length_append]
          show hs.length + 1 ≤ tkN T n q1 - q0
          omega
      · have gh : gHo T n f1 E (o + 1) q1 v1 bt1 = gTg T n f1 E (o + 1) q1 v1 bt1 := by unfold gHo; rw [if_neg k3]
        rw [gh] at hg'
        refine Tm_no (fun z => k3 ((lx_k (kk := 3) s1.1.1 (by decide)).1 z)) ?_
        refine Tm_suc (fun k => by rw [f_X5_holesStatement]) ?_
        have gz : ∃ z, gTg T n f1 E (o + 1) q1 v1 bt1 = some z := by
          rcases gb_any hg' with ⟨y1, y2⟩ | ⟨r4, y1, y2⟩
          · exact ⟨_, y1⟩
          · exact ⟨_, y1⟩
        obtain ⟨z, hz⟩ := gz
        refine st_call (C := True) s1.1 (c_target (L := lI lZ 1 (-1)) s1.1.1 (EvX_k ev s1.1.2.1) n3 n10 (by omega) (by omega) (by omega) (by omega) rfl hz) ?_
        rcases gb_any hg' with ⟨y1, y2⟩ | ⟨zz, y1, y2⟩
        · rw [hz] at y1
          exact Or.inl ⟨Option.some.inj y1, by rw [y2]; rfl⟩
        rw [hz] at y1
        refine Or.inr ⟨zz, Option.some.inj y1, trivial, fun τ2 ret2 n1 n2 hr xk2 hc2 => ?_⟩
        obtain ⟨s, ow, tv, gq, er, l2', ks, r1, r2, r3, r4, r5, r6, r7, r8, r9⟩ := hr
        have s2 := Sy_ca s1 r1 xk2 hc2 r2 (Nat.le_refl _) (by omega)
        have hm2 := hoM_k xk2 hs mk hm (Nat.le_refl _)
        have sn := s2.1.1.2.2.1
        have sn1 := sn.2.1
        have sn2 := sn.2.2
        have wb := wdN_b ks
        have eN : hoN (hs ++ [some (s, ow, ks)]) = hoN hs + 4 + ks.length := by rw [hoN_ap]; show hoN hs + (4 + ks.length + 0) = _; omega
        have eV : hoV (hs ++ [some (s, ow, ks)]) = hoV hs + wdN ks := by rw [hoV_ap]; show hoV hs + (wdN ks + 0) = _; omega
        have eK : hoK (hs ++ [some (s, ow, ks)]) = hoK hs + ks.length + 5 := by rw [hoK_ap]; show hoK hs + (ks.length + 5 + 0) = _; omega
        have go2 := tk_go s2.1.1
        have s1k : s < 1000 := by
          by_cases z : ow = u
          · have := (tv.1 z).1; omega
          · have := tv.2.1 z; omega
        have e2 : ret2 + 2 = nI (mk + hoN hs + 2) := by rw [er]; exact n_add (q := 2) (by omega)
        show Tm (fun k => if ¬ (ret2 + 2 < 0 ∨ sN τ2 41 ≤ (ret2 + 2).toNatClampNeg) then f_X5_holesStatement k 4 (lI L' 3 (L'.1 3 + τ2.2.2.1 41 (ret2 + 2).toNatClampNeg)) τ2 else none) _
        rw [e2]
        refine Tm_chk (n_in (by omega) (by omega)) ?_
        rw [n_cl (by omega), r4.1.2.2.1, l3, n_add (by omega)]
        have lc : (cs ++ l2').length = cs.length + l2'.length := List.length_append
        refine b4 _ τ2 _ _ (vt + wdN ks) zz (cs ++ l2') (hs ++ [some (s, ow, ks)]) y2 l1 l2 rfl l5 (by rw [eN, show mk + (hoN hs + 4 + ks.length) = mk + hoN hs + 4 + ks.length by omega]; exact s2) (hoM_ap hs _ mk hm2 ⟨r4, trivial⟩) (hoG_ap hs _ hh ⟨⟨tv, r5, by show ks.length ≤ 30000; omega, s1k⟩, trivial⟩) (by rw [eV, hv]) (by rw [List.length_append, hl]; rfl) (by rw [eV]; exact Sgm_seq sg r3) ?_ ?_ ?_ ?_ (by omega) (by omega)
        · rw [lc, eK]; omega
        · rw [eN]; omega
        · rw [eV]; omega
        · rw [List.length_append]
          show hs.length + 1 ≤ _
          omega
  refine Tm_suc (fun k => by rw [f_X5_holesStatement]) ?_
  have e11 := h.2.2.1.1
  rcases gO_any hG with ⟨w1, w2⟩ | ⟨w1, w2⟩
  · rw [w2]
    exact st_opens (C := False) s0 (Or.inl ⟨fun z => z.1 w1, rfl⟩) (fun _ _ _ _ c _ => c.elim)
  rcases gT_any w2 with ⟨w3, w4⟩ | ⟨w3, w4⟩
  · rw [w4]
    exact st_opens (C := False) s0 (Or.inl ⟨fun z => z.2 w3, rfl⟩) (fun _ _ _ _ c _ => c.elim)
  refine st_opens (C := True) s0 (Or.inr ⟨⟨w1, w3⟩, trivial⟩) (fun τ1 ret1 n1 n2 _ s1 => ?_)
  rw [hq0] at s1 w4
  exact lp f _ τ1 _ _ q0 v 0 0 0 0 0 bt [] [] x w4 e11 rfl rfl rfl rfl (Nat.zero_le _) s1 trivial trivial rfl rfl (Sgm_nil u 0 gl Vm) (by show 2 * 0 + 2 * 0 ≤ _; omega) (Nat.zero_le _) (Nat.zero_le _) (Nat.zero_le _) (Nat.le_refl _) (Nat.le_refl _)
end CXG
