/-! The class: what a param gives back is kept. -/
section CXI
variable {σ σ' σ0 τ τ' τ0 : CS} {L : LV} {b : Bool} {T : Nat → Int32} {n q q' u al o v mk mk' p sz szB nc nc0 sz0 mk0 a1 a2 m kk f e s ow a t0 g D op w st w' st' M : Nat} {y qh qh' : Int32} {l l' cs cs' ll lt : List Int32} {tb : List Ent} {E : En} {gl : Nat × (Nat → Nat → Prop)} {Vm : Nat → Prop} {Pc : Nat → Nat → Prop} {bt : BT} {ks : List Nat} {α : Type} {S : α → Int32 → CS → Prop} {x : Option α} {C : Prop} {lo lo' : Option Nat}
theorem EvX_z {nc' sz' mk' : Nat} (h : EvX E b u al gl Vm tb σ) (x : ZK b u nc' sz' mk' σ τ) : EvX E b u al gl Vm tb τ := by
  refine ⟨h.1, fun w np hw => ?_, h.2.2⟩
  obtain ⟨h1, h2, h3⟩ := h.2.1 w np hw
  have pd := pR_d b
  exact ⟨h1, h2, by rw [x.2.1.1 (pR14 b) (by omega)]; exact h3⟩
/-! steps that tell that only code is laid -/
theorem ztc_emit {op : Nat} {f : Nat → RS → Option RS} (h : Zy T n b u al σ0 nc0 sz0 mk0 a1 a2 tb o q v mk w st lo qh szB cs τ) (hb : L.2.2.1 0 = b) (h1 : L.1 1 = nI op) (hm : szB + cs.length + 1 ≤ 36864) (cont : ∀ (τ' : CS) (n1 n2 : Nat), Zy T n b u al σ0 nc0 sz0 mk0 (a1 + n1) (a2 + n2) tb o q v mk w st lo qh szB (cs ++ [em op (L.1 2)]) τ' → CdO b (szB + cs.length) [em op (L.1 2)] τ τ' → Tm (fun k => f k ((0, nI (szB + cs.length)), τ', (n1, n2))) (ZPo b u nc0 sz0 mk0 x S σ0 (a1 + n1) (a2 + n2))) : Tm (fun k => ox (f_X7_emit__P k 0 L τ) (f k)) (ZPo b u nc0 sz0 mk0 x S σ0 a1 a2) := by
  refine Tm_ox (c_emit h.1.1.2.1 hb hm) (fun r w nz => absurd (by rw [w.1]) nz) (fun r w e0 => ?_)
  obtain ⟨w1, ⟨w2, w2'⟩, w3⟩ := w
  rw [h1] at w3
  obtain ⟨q1, q2⟩ := QS_cd h.1.1 w3
  have hc := h.1.2.2.1
  have k := cont r.2.1 r.2.2.1 r.2.2.2 (Zy_cl h q1 q2 ⟨by omega, by omega⟩ w3.2.2.2 h.1.2.2.2.1 h.1.2.2.2.2.2) w3
  have er : ((0, nI (szB + cs.length)), r.2.1, (r.2.2.1, r.2.2.2)) = r := by rw [← w1]
  rw [er] at k
  exact Tm_mono k (fun q z => ZPo_s z)
theorem ztc_word {f : Nat → RS → Option RS} (h : Zy T n b u al σ0 nc0 sz0 mk0 a1 a2 tb o q v mk w st lo qh szB cs τ) (hb : L.2.2.1 0 = b) (hm : szB + cs.length + 1 ≤ 36864) (cont : ∀ (τ' : CS) (n1 n2 : Nat), Zy T n b u al σ0 nc0 sz0 mk0 (a1 + n1) (a2 + n2) tb o q v mk w st lo qh szB (cs ++ [L.1 1]) τ' → CdO b (szB + cs.length) [L.1 1] τ τ' → Tm (fun k => f k ((0, nI (szB + cs.length)), τ', (n1, n2))) (ZPo b u nc0 sz0 mk0 x S σ0 (a1 + n1) (a2 + n2))) : Tm (fun k => ox (f_X7_word__P k 0 L τ) (f k)) (ZPo b u nc0 sz0 mk0 x S σ0 a1 a2) := by
  refine Tm_ox (c_word h.1.1.2.1 hb hm) (fun r w nz => absurd (by rw [w.1]) nz) (fun r w e0 => ?_)
  obtain ⟨w1, ⟨w2, w2'⟩, w3⟩ := w
  obtain ⟨q1, q2⟩ := QS_cd h.1.1 w3
  have hc := h.1.2.2.1
  have k := cont r.2.1 r.2.2.1 r.2.2.2 (Zy_cl h q1 q2 ⟨by omega, by omega⟩ w3.2.2.2 h.1.2.2.2.1 h.1.2.2.2.2.2) w3
  have er : ((0, nI (szB + cs.length)), r.2.1, (r.2.2.1, r.2.2.2)) = r := by rw [← w1]
  rw [er] at k
  exact Tm_mono k (fun q z => ZPo_s z)
/-- the code's end goes back -/
theorem Zy_sz {acc : List Int32} (h : Zy T n b u al σ0 nc0 sz0 mk0 a1 a2 tb o q v mk w st lo qh szB (cs ++ acc) τ) (h0 : sz0 ≤ szB + cs.length) : Zy T n b u al σ0 nc0 sz0 mk0 a1 a2 tb o q v mk w st lo qh szB cs (uI τ (fP b 1) (nI (szB + cs.length))) := by
  obtain ⟨⟨⟨h1, h2, h3, h4, ⟨h5, h5', h5''⟩, ⟨h6, h6'⟩, ⟨h7, h7'⟩, h8⟩, k1, k2, k3, k4, k5⟩, z1, ⟨z2, z3, z4, z5, z6⟩⟩ := h
  have ph := Ph_s (σ := τ) (σ' := uI τ (fP b 1) (nI (szB + cs.length))) rfl
  have c1 := fP_c b 1
  have n1 := fP_ne b (i := 3) (j := 1) (by decide)
  have n2 := fP_ne b (i := 11) (j := 1) (by decide)
  have n3 := fP_ne b (i := 19) (j := 1) (by decide)
  obtain ⟨d1, d2, d3⟩ := h2
  rw [List.length_append] at d2
  have q1 : QS T n b u al tb o q v mk 0 (szB + cs.length) (uI τ (fP b 1) (nI (szB + cs.length))) := ⟨LxQ_s h1 (fun j _ hj => uI_o (by omega)) ⟨rfl, rfl⟩ rfl rfl rfl, ⟨uI_s, by show szB + cs.length ≤ cdn b τ; omega, d3⟩, ⟨by rw [uI_o (by omega)]; exact h3.1, h3.2⟩, TbR_s h4 (uI_o n2) rfl rfl rfl rfl rfl rfl, ⟨h5, by rw [uI_o (by omega)]; exact h5', by rw [uI_o (by omega)]; exact h5''⟩, ⟨by rw [uI_o (by omega)]; exact h6, h6'⟩, ⟨h7, h7'⟩, by rw [uI_o n3]; exact h8⟩
  obtain ⟨⟨e1, e2⟩, e3⟩ := k1
  refine ⟨⟨q1, ⟨⟨fun j hj => by rw [uI_o (by omega)]; exact e1 j hj, e2⟩, e3⟩, ⟨by omega, by omega⟩, k3, h0, k5⟩, fun i hi => ?_, ⟨z2, ⟨by rw [uI_o n1]; exact z3.1, z3.2⟩, by rw [uI_o (by omega)]; exact z4, by rw [uI_o (by omega)]; exact z5, z6⟩⟩
  have y := z1 i (by rw [List.length_append]; omega)
  rw [gd_l hi] at y
  exact y
/-- the keys of a target, one behind another -/
def kyC : List (List Int32 × Nat) → List Int32
  | [] => []
  | z :: r => z.1 ++ kyC r
def kdP : List (List Int32 × Nat) → List Nat
  | [] => []
  | z :: r => z.2 :: kdP r
theorem kdP_l : ∀ pl : List (List Int32 × Nat), (kdP pl).length = pl.length
  | [] => rfl
  | _ :: r => congrArg (fun z => z + 1) (kdP_l r)
theorem kdP_g : ∀ (pl : List (List Int32 × Nat)) (i : Nat), (kdP pl).getD i 0 = (pl.getD i ([], 0)).2
  | [], _ => rfl
  | _ :: _, 0 => rfl
  | _ :: r, i + 1 => kdP_g r i
theorem Wkk_c (k : Nat) (ks : List Nat) : ∀ n, Wkk (k :: ks) (n + 1) = (if k = 97 then 2 else 1) + Wkk ks n
  | 0 => by show 0 + (if k = 97 then 2 else 1) = _; rw [Nat.zero_add]; rfl
  | n + 1 => by
    show Wkk (k :: ks) (n + 1) + (if ks.getD n 0 = 97 then 2 else 1) = _
    rw [Wkk_c k ks n]
    show _ = (if k = 97 then 2 else 1) + (Wkk ks n + (if ks.getD n 0 = 97 then 2 else 1))
    omega
theorem wdN_c (k : Nat) (ks : List Nat) : wdN (k :: ks) = (if k = 97 then 2 else 1) + wdN ks := Wkk_c k ks ks.length
theorem kyC_l : ∀ pl : List (List Int32 × Nat), (ptC pl).length = (kyC pl).length + pl.length
  | [] => rfl
  | z :: r => by
    show (z.1 ++ (em z.2 0 :: ptC r)).length = (z.1 ++ kyC r).length + (r.length + 1)
    rw [List.length_append, List.length_append, List.length_cons, kyC_l r]; omega
theorem kyC_g : ∀ pl : List (List Int32 × Nat), PtG u p gl Vm pl → Sgm u p gl Vm (wdN (kdP pl)) (kyC pl) ∧ kOK (kdP pl)
  | [], _ => ⟨Sgm_nil u p gl Vm, fun i hi => absurd hi (Nat.not_lt_zero _)⟩
  | z :: r, h => by
    obtain ⟨h1, h2⟩ := kyC_g r h.2
    have hz : z.2 = 96 ∨ z.2 = 97 ∨ z.2 = 98 := by have := h.1; omega
    refine ⟨?_, fun i hi => ?_⟩
    · show Sgm u p gl Vm (wdN (z.2 :: kdP r)) (z.1 ++ kyC r)
      rw [wdN_c]
      rcases h.1 with ⟨e, g⟩ | ⟨e, g⟩ | ⟨e, g⟩
      · rw [if_neg (by omega)]; exact Sgm_seq g h1
      · rw [if_neg (by omega)]; exact Sgm_seq g h1
      · rw [if_pos e]; exact Sgm_seq g h1
    · cases i with
      | zero => exact hz
      | succ i => exact h2 i (Nat.lt_of_succ_lt_succ hi)
/-- the keys are copied -/
theorem c_kpL {N eN deep : Nat} (h18 : τ0.1 4018 = nI mk) (h19 : τ0.1 4019 = nI N) (hN : mk + 3 * N ≤ sN τ0 41) (h41 : sN τ0 41 ≤ 21504) (heN : eN = szB + cs.length) : ∀ (pr : List (List Int32 × Nat)) (i vals stt : Nat) (acc : List Int32) (L' : LV) (τ : CS) (a1 a2 : Nat), PtM τ0 (mk + 3 * i) stt pr → PtG u p gl Vm pr → (∀ j, j < (ptC pr).length → cdr b τ0 (stt + j) = (ptC pr).getD j 0) → stt + (ptC pr).length ≤ eN → i + pr.length = N → vals ≤ 2 * i → L'.1 1 = nI deep → L'.1 2 = nI eN → L'.1 3 = nI vals → L'.1 4 = nI i → Zy T n b u al σ0 nc0 sz0 mk0 a1 a2 tb o q v mk w st lo qh szB (cs ++ acc) τ → CdF b τ0 τ → (∀ j, j < eN → cdr b τ j = cdr b τ0 j) → eN + acc.length + (kyC pr).length ≤ 36864 → (∀ (L2 : LV) (τ2 : CS) (n1 n2 : Nat), L2.1 1 = nI deep → L2.1 2 = nI eN → L2.1 3 = nI (vals + wdN (kdP pr)) → Zy T n b u al σ0 nc0 sz0 mk0 n1 n2 tb o q v mk w st lo qh szB (cs ++ (acc ++ kyC pr)) τ2 → CdF b τ0 τ2 → (∀ j, j < eN → cdr b τ2 j = cdr b τ0 j) → Tm (fun k => f_X5_keepTarget k 2 L2 τ2) (ZPo b u nc0 sz0 mk0 x S σ0 n1 n2)) → Tm (fun k => f_X5_keepTarget k 1 L' τ) (ZPo b u nc0 sz0 mk0 x S σ0 a1 a2) := by
  intro pr
  induction pr with
  | nil =>
    intro i vals stt acc L' τ a1 a2 pm pg pc hst hi hv l1 l2 l3 l4 s1 cf cb hsz fin
    have hi' : i = N := hi
    have e19 : τ.1 4019 = nI N := by rw [cf.1 _ (by have := fP_c b 1; omega)]; exact h19
    refine Tm_suc (fun k => by rw [f_X5_keepTarget]) ?_
    rw [e19, l4]
    refine Tm_yes (by rw [n_le (by omega) (by omega)]; omega) ?_
    refine fin L' τ a1 a2 l1 l2 l3 ?_ cf cb
    show Zy T n b u al σ0 nc0 sz0 mk0 a1 a2 tb o q v mk w st lo qh szB (cs ++ (acc ++ [])) τ
    rw [List.append_nil]; exact s1
  | cons z r ih =>
    intro i vals stt acc L' τ a1 a2 pm pg pc hst hi hv l1 l2 l3 l4 s1 cf cb hsz fin
    have hi' : i + (r.length + 1) = N := hi
    obtain ⟨⟨p1, p2, p3⟩, pm'⟩ := pm
    have hz : z.2 = 96 ∨ z.2 = 97 ∨ z.2 = 98 := by have := pg.1; omega
    have lz : (ptC (z :: r)).length = z.1.length + ((ptC r).length + 1) := by show (z.1 ++ (em z.2 0 :: ptC r)).length = _; rw [List.length_append, List.length_cons]
    rw [lz] at hst pc
    have hsz' : eN + acc.length + (z.1.length + (kyC r).length) ≤ 36864 := by
      have e : (kyC (z :: r)).length = z.1.length + (kyC r).length := by show (z.1 ++ kyC r).length = _; rw [List.length_append]
      rw [e] at hsz; exact hsz
    have fc := fP_c b 1
    have e19 : τ.1 4019 = nI N := by rw [cf.1 _ (by omega)]; exact h19
    have e18 : τ.1 4018 = nI mk := by rw [cf.1 _ (by omega)]; exact h18
    have r41 := cf.2.2.1 41 (by decide)
    have e3 : (3 : Int32) * nI i = nI (3 * i) := n_mulN 3 i
    have ea : nI mk + 3 * nI i = nI (mk + 3 * i) := by rw [e3, n_add (by omega)]
    have ea1 : nI (mk + 3 * i) + 1 = nI (mk + 3 * i + 1) := n_add1 _
    have ea2 : nI (mk + 3 * i) + 2 = nI (mk + 3 * i + 2) := n_add (q := 2) (by omega)
    have m0 : τ.2.2.1 41 (nI (mk + 3 * i)).toNatClampNeg = nI stt := by rw [n_cl (by omega), r41.1]; exact p1
    have m1 : τ.2.2.1 41 (nI (mk + 3 * i + 1)).toNatClampNeg = nI (stt + z.1.length) := by rw [n_cl (by omega), r41.1]; exact p2
    refine Tm_suc (fun k => by rw [f_X5_keepTarget]) ?_
    rw [e19, l4]
    refine Tm_no (by rw [n_le (by omega) (by omega)]; omega) ?_
    refine Tm_oP (Zy_pp s1) (Tm_oP (Zy_pp s1) ?_)
    rw [e18, ea, ea1, ea2]
    refine Tm_chk (n_in (by omega) (by omega)) (Tm_chk (n_in (by omega) (by omega)) (Tm_chk (n_in (by omega) (by omega)) ?_))
    rw [m0, m1, n_sub (by omega) (by omega), show stt + z.1.length - stt = z.1.length by omega]
    have lca : (cs ++ acc).length = cs.length + acc.length := List.length_append
    refine zt_wordsA (a := stt) (ll := z.1) s1 rfl rfl rfl rfl (by rw [lca]; omega) (by rw [lca]; omega) (fun j hj => ?_) (fun τ2 n1 n2 s2 co => ?_)
    · rw [cb _ (by omega), pc j (by omega)]
      show (z.1 ++ (em z.2 0 :: ptC r)).getD j 0 = _
      exact gd_l hj
    have cf2 : CdF b τ0 τ2 := CdF_t cf co.1
    have cb2 : ∀ j, j < eN → cdr b τ2 j = cdr b τ0 j := fun j hj => ((co.2.2.1 j (by rw [lca]; omega)).1).trans (cb j hj)
    have r412 := cf2.2.2.1 41 (by decide)
    refine Tm_chk (n_in (n := sN τ2 41) (by omega) (by omega)) ?_
    have m2 : τ2.2.2.1 41 (nI (mk + 3 * i + 2)).toNatClampNeg = nI z.2 := by rw [n_cl (by omega), r412.1]; exact p3
    have go : ∀ (L4 : LV) (dd : Nat), L4.1 1 = nI deep → L4.1 2 = nI eN → L4.1 4 = nI i → L4.1 100 = nI dd → L4.1 101 = nI vals → dd = (if z.2 = 97 then 2 else 1) → Tm (fun k => f_X5_keepTarget k 4 L4 τ2) (ZPo b u nc0 sz0 mk0 x S σ0 (a1 + n1) (a2 + n2)) := by
      intro L4 dd j1 j2 j4 j100 j101 hdd
      have d2 : dd ≤ 2 := by rw [hdd]; split <;> omega
      refine Tm_suc (fun k => by rw [f_X5_keepTarget]) ?_
      rw [j100, j101, n_add (by omega), j4, n_add1]
      have s2' : Zy T n b u al σ0 nc0 sz0 mk0 (a1 + n1) (a2 + n2) tb o q v mk w st lo qh szB (cs ++ (acc ++ z.1)) τ2 := by rw [← List.append_assoc]; exact s2
      have la : (acc ++ z.1).length = acc.length + z.1.length := List.length_append
      refine ih (i + 1) (vals + dd) (stt + z.1.length + 1) (acc ++ z.1) _ τ2 _ _ (by rw [show mk + 3 * (i + 1) = mk + 3 * i + 3 by omega]; exact pm') pg.2 (fun j hj => ?_) (by omega) (by omega) (by omega) j1 j2 rfl rfl s2' cf2 cb2 (by rw [la]; omega) (fun L2 τ3 k1 k2 g1 g2 g3 g4 g5 g6 => ?_)
      · rw [show stt + z.1.length + 1 + j = stt + (z.1.length + (j + 1)) by omega, pc _ (by omega)]
        show (z.1 ++ (em z.2 0 :: ptC r)).getD (z.1.length + (j + 1)) 0 = _
        rw [gd_r]; rfl
      · have ew : vals + wdN (kdP (z :: r)) = vals + dd + wdN (kdP r) := by
          show vals + wdN (z.2 :: kdP r) = _
          rw [wdN_c, hdd]; omega
        have ec : acc ++ kyC (z :: r) = acc ++ z.1 ++ kyC r := by show acc ++ (z.1 ++ kyC r) = _; rw [List.append_assoc]
        exact fin L2 τ3 k1 k2 g1 g2 (by rw [ew]; exact g3) (by rw [ec]; exact g4) g5 g6
    by_cases k97 : z.2 = 97
    · refine Tm_yes (by show τ2.2.2.1 41 (nI (mk + 3 * i + 2)).toNatClampNeg = 97; rw [m2, k97]; rfl) ?_
      exact go _ 2 l1 l2 l4 rfl l3 (by rw [if_pos k97])
    · refine Tm_no (by show ¬ τ2.2.2.1 41 (nI (mk + 3 * i + 2)).toNatClampNeg = 97; rw [m2]; show ¬ nI z.2 = nI 97; rw [n_eq (by omega) (by decide)]; exact k97) ?_
      refine Tm_suc (fun k => by rw [f_X5_keepTarget]) ?_
      exact go _ 1 l1 l2 l4 rfl l3 (by rw [if_neg k97])
/-- the kinds are laid -/
theorem c_kpK {N eN : Nat} (h18 : τ0.1 4018 = nI mk) (h19 : τ0.1 4019 = nI N) (hN : mk + 3 * N ≤ sN τ0 41) (h41 : sN τ0 41 ≤ 21504) : ∀ (pr : List (List Int32 × Nat)) (i stt : Nat) (acc : List Int32) (L' : LV) (τ : CS) (a1 a2 : Nat) (x2 x3 : Int32), PtM τ0 (mk + 3 * i) stt pr → i + pr.length = N → L'.1 2 = x2 → L'.1 3 = x3 → L'.1 4 = nI i → Zy T n b u al σ0 nc0 sz0 mk0 a1 a2 tb o q v mk w st lo qh szB (cs ++ acc) τ → CdF b τ0 τ → szB + cs.length + acc.length + pr.length ≤ 36864 → (∀ (L2 : LV) (τ2 : CS) (n1 n2 : Nat), L2.1 2 = x2 → L2.1 3 = x3 → Zy T n b u al σ0 nc0 sz0 mk0 n1 n2 tb o q v mk w st lo qh szB (cs ++ (acc ++ kdL (kdP pr))) τ2 → CdF b τ0 τ2 → Tm (fun k => f_X5_keepTarget k 8 L2 τ2) (ZPo b u nc0 sz0 mk0 x S σ0 n1 n2)) → Tm (fun k => f_X5_keepTarget k 7 L' τ) (ZPo b u nc0 sz0 mk0 x S σ0 a1 a2) := by
  intro pr
  induction pr with
  | nil =>
    intro i stt acc L' τ a1 a2 x2 x3 pm hi l2 l3 l4 s1 cf hsz fin
    have hi' : i = N := hi
    have e19 : τ.1 4019 = nI N := by rw [cf.1 _ (by have := fP_c b 1; omega)]; exact h19
    refine Tm_suc (fun k => by rw [f_X5_keepTarget]) ?_
    rw [e19, l4]
    refine Tm_yes (by rw [n_le (by omega) (by omega)]; omega) ?_
    refine fin L' τ a1 a2 l2 l3 ?_ cf
    show Zy T n b u al σ0 nc0 sz0 mk0 a1 a2 tb o q v mk w st lo qh szB (cs ++ (acc ++ [])) τ
    rw [List.append_nil]; exact s1
  | cons z r ih =>
    intro i stt acc L' τ a1 a2 x2 x3 pm hi l2 l3 l4 s1 cf hsz fin
    have hi' : i + (r.length + 1) = N := hi
    have hsz' : szB + cs.length + acc.length + (r.length + 1) ≤ 36864 := hsz
    obtain ⟨⟨p1, p2, p3⟩, pm'⟩ := pm
    have fc := fP_c b 1
    have e19 : τ.1 4019 = nI N := by rw [cf.1 _ (by omega)]; exact h19
    have e18 : τ.1 4018 = nI mk := by rw [cf.1 _ (by omega)]; exact h18
    have r41 := cf.2.2.1 41 (by decide)
    have e3 : (3 : Int32) * nI i = nI (3 * i) := n_mulN 3 i
    have ea : nI mk + 3 * nI i = nI (mk + 3 * i) := by rw [e3, n_add (by omega)]
    have ea2 : nI (mk + 3 * i) + 2 = nI (mk + 3 * i + 2) := n_add (q := 2) (by omega)
    have m2 : τ.2.2.1 41 (nI (mk + 3 * i + 2)).toNatClampNeg = nI z.2 := by rw [n_cl (by omega), r41.1]; exact p3
    refine Tm_suc (fun k => by rw [f_X5_keepTarget]) ?_
    rw [e19, l4]
    refine Tm_no (by rw [n_le (by omega) (by omega)]; omega) ?_
    refine Tm_oP (Zy_pp s1) ?_
    rw [e18, ea, ea2]
    refine Tm_chk (n_in (by omega) (by omega)) ?_
    rw [m2, n_add1]
    have lca : (cs ++ acc).length = cs.length + acc.length := List.length_append
    refine ztc_word s1 rfl (by rw [lca]; omega) (fun τ2 n1 n2 s2 co => ?_)
    have s2' : Zy T n b u al σ0 nc0 sz0 mk0 (a1 + n1) (a2 + n2) tb o q v mk w st lo qh szB (cs ++ (acc ++ [nI z.2])) τ2 := by rw [← List.append_assoc]; exact s2
    have la : (acc ++ [nI z.2]).length = acc.length + 1 := by rw [List.length_append]; rfl
    refine ih (i + 1) (stt + z.1.length + 1) (acc ++ [nI z.2]) _ τ2 _ _ x2 x3 (by rw [show mk + 3 * (i + 1) = mk + 3 * i + 3 by omega]; exact pm') (by omega) l2 l3 rfl s2' (CdF_t cf co.1) (by rw [la]; omega) (fun L2 τ3 k1 k2 g2 g3 g4 g5 => ?_)
    have ec : acc ++ kdL (kdP (z :: r)) = acc ++ [nI z.2] ++ kdL (kdP r) := by
      show acc ++ (nI z.2 :: kdL (kdP r)) = _
      rw [List.append_assoc]; rfl
    exact fin L2 τ3 k1 k2 g2 g3 (by rw [ec]; exact g4) g5
/-- what a param gives back, as it is kept -/
def kpW (g s deep : Nat) (pl : List (List Int32 × Nat)) : List Int32 := kyC pl ++ ([em 38 (nI (wdN (kdP pl) + deep))] ++ (rwL (192 + g) s (wdN (kdP pl) + 1) (kdP pl) ++ [em 37 (nI (wdN (kdP pl) + 1))]))
theorem kpW_l {deep : Nat} {pl : List (List Int32 × Nat)} : (kpW g s deep pl).length = (kyC pl).length + pl.length + 5 := by
  unfold kpW
  rw [List.length_append, List.length_append, List.length_append, rwL_l, kdP_l]
  show (kyC pl).length + (1 + (pl.length + 3 + 1)) = _
  omega
theorem kpW_t {deep : Nat} {pl : List (List Int32 × Nat)} (tv : TgV u gl Vm s ow) (hg : g = if ow = u then 0 else 1) (h1 : gl.1 ≤ 1000) (pg : PtG u 0 gl Vm pl) (kl : pl.length ≤ 30000) (hd : deep < M) (hd8 : deep < 1000) : Sst u gl Pc Vm [] 0 M M (kpW g s deep pl) := by
  obtain ⟨k1, k2⟩ := kyC_g pl pg
  have wb := wdN_b (kdP pl)
  have kb := kdP_l pl
  have z1 : Sst u gl Pc Vm [] 0 M (M + wdN (kdP pl)) (kyC pl) := Sst_sg k1 M
  have z2 : Sst u gl Pc Vm [] 0 (M + wdN (kdP pl)) (M + wdN (kdP pl) + 1) [em 38 (nI (wdN (kdP pl) + deep))] := Sst_i (Is_pk (by omega) (by omega)) (Nat.le_refl _) (by show M + wdN (kdP pl) + 1 ≤ M + wdN (kdP pl) + 1; omega)
  have z3 : Sst u gl Pc Vm [] 0 (M + wdN (kdP pl) + 1) (M + wdN (kdP pl) + 1) (rwL (192 + g) s (wdN (kdP pl) + 1) (kdP pl)) := Sst_i (Is_wr (tgO_of tv hg h1) (kOK_b k2) (Nat.le_refl _) (fun w ms => tpv_0 (by omega)) (by omega) (by omega)) (by rw [rwL_l]; omega) (by omega)
  have z4 : Sst u gl Pc Vm [] 0 (M + (wdN (kdP pl) + 1)) M [em 37 (nI (wdN (kdP pl) + 1))] := Sst_i (Is_dr (by omega)) (Nat.le_refl _) (by omega)
  have y3 := Sst_seq z3 z4 (by omega)
  have y2 := Sst_seq z2 y3 (by show M + wdN (kdP pl) + 1 ≤ M + wdN (kdP pl) + 1; omega)
  have k11 := k1.1
  exact Sst_seq z1 y2 (by omega)
end CXI
