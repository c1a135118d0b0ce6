/-! The class: the end of a for. -/
section CYG
variable {σ σ' σ0 τ τ' τ0 : CS} {L : LV} {b : Bool} {T : Nat → Int32} {n q q' u al o v mk mk' p sz sz' szB szE nc nc0 sz0 mk0 a1 a2 m kk f e s0 ow a t0 g D w st w' st' M nm deep vv np lp N Bd nb k d P h st0 b0 it q0 v0 r0 c : Nat} {y qh qh' y0 y1 wd x0 x1 x3 : Int32} {l l' cs cs' cs2 ll lt lt0 co bo : List Int32} {tb tb' es : List Ent} {ns : List Nm} {E : En} {gl : Nat × (Nat → Nat → Prop)} {Vm Vm' : Nat → Prop} {Pc : Nat → Nat → Prop} {MD : Nat → Nat → Nat} {md : Nat → Nat} {bt : BT} {ks qs qs' qa qb js qsI : List Nat} {lo lo' : Option Nat} {s : SB} {α : Type} {S : α → Int32 → CS → Prop} {x : Option α} {C : Prop} {hd : Bool}
theorem Zy_set {hp : Nat} (h : Zy T n b u al σ0 nc0 sz0 mk0 a1 a2 tb o q v mk w st lo qh szB cs τ) (h0 : sz0 ≤ szB) (hh : hp < cs.length) (x : Int32) : Zy T n b u al σ0 nc0 sz0 mk0 a1 a2 tb o q v mk w st lo qh szB (cs.set hp x) (uA τ (pR0 (sKd τ b)) (szB + hp) x) := Zy_s h (Sy_set (Sy_z h) (Nat.le_refl _) hh x) h0
theorem Zy_in {hp : Nat} (h : Zy T n b u al σ0 nc0 sz0 mk0 a1 a2 tb o q v mk w st lo qh szB cs τ) (hh : hp < cs.length) : ¬ (nI (szB + hp) < 0 ∨ sN τ (pR0 (sKd τ b)) ≤ (nI (szB + hp)).toNatClampNeg) := by
  have n36 := cdn_b h.1.1
  have le : szB + cs.length ≤ cdn b τ := h.1.1.2.1.2.1
  exact u_in (n := cdn b τ) (by rw [u_n (by omega)]; omega) (by omega)
theorem fr1_0 (k d : Nat) (L : LV) (σ : CS) : f_F3 (k + 1) d 1 0 L σ = (oP (sPp σ) (fun b1 => oP (sPp σ) (fun b2 => if ¬ (((σ.1 4003)) < 0 ∨ 42 ≤ ((σ.1 4003)).toNatClampNeg) then (ox (f_X5_opens k 0 lZ σ) (fun r4 => oP (sPp r4.2.1) (fun b5 => ox (f_X7_emit__P k 0 (lI (lI (lB lZ 0 b5) 1 42) 2 0) r4.2.1) (fun r6 => ox (f_X5_iters k 0 (lI lZ 1 1) r6.2.1) (fun r7 => oP (sPp r7.2.1) (fun b8 => if ¬ (((r7.2.1.1 4003)) < 0 ∨ 42 ≤ ((r7.2.1.1 4003)).toNatClampNeg) then (oP (sPp r7.2.1) (fun b10 => if ¬ (r6.1.2 < 0 ∨ (sN r7.2.1 (pR0 ((sKd r7.2.1 b10)))) ≤ r6.1.2.toNatClampNeg) then (if (((uA r7.2.1 (pR0 ((sKd r7.2.1 b10))) r6.1.2.toNatClampNeg ((42 ||| ((((((r7.2.1.2.2.1 (pR18 b8) ((r7.2.1.1 4003)).toNatClampNeg)) - ((σ.2.2.1 (pR18 b2) ((σ.1 4003)).toNatClampNeg)))) <<< ((8 : Int32) &&& 31)))))).1 3702)) = 19 then (ox (f_X2_advance k 0 lZ (uA r7.2.1 (pR0 ((sKd r7.2.1 b10))) r6.1.2.toNatClampNeg ((42 ||| ((((((r7.2.1.2.2.1 (pR18 b8) ((r7.2.1.1 4003)).toNatClampNeg)) - ((σ.2.2.1 (pR18 b2) ((σ.1 4003)).toNatClampNeg)))) <<< ((8 : Int32) &&& 31))))))) (fun r13 => ox (f_X5_exp k 0 (lI lZ 1 0) r13.2.1) (fun r14 => oP (sPp r14.2.1) (fun b15 => oP (sPp r14.2.1) (fun b16 => ox (f_X7_emit__P k 0 (lI (lI (lB lZ 0 b16) 1 4) 2 0) r14.2.1) (fun r17 => op (y_X7_aim__P k 0 (lI (lI (lB lZ 0 b15) 1 r17.1.2) 2 (((uA r7.2.1 (pR0 ((sKd r7.2.1 b10))) r6.1.2.toNatClampNeg ((42 ||| ((((((r7.2.1.2.2.1 (pR18 b8) ((r7.2.1.1 4003)).toNatClampNeg)) - ((σ.2.2.1 (pR18 b2) ((σ.1 4003)).toNatClampNeg)))) <<< ((8 : Int32) &&& 31)))))).1 4015))) r17.2.1) (fun r18 => f_F3 k d 1 1 (lI (lI (lI (lI (lI (lI L 1 ((σ.1 (fP b1 11)))) 2 ((σ.1 4011))) 3 ((σ.2.2.1 (pR18 b2) ((σ.1 4003)).toNatClampNeg))) 5 ((((r7.2.1.2.2.1 (pR18 b8) ((r7.2.1.1 4003)).toNatClampNeg)) - ((σ.2.2.1 (pR18 b2) ((σ.1 4003)).toNatClampNeg))))) 6 (((uA r7.2.1 (pR0 ((sKd r7.2.1 b10))) r6.1.2.toNatClampNeg ((42 ||| ((((((r7.2.1.2.2.1 (pR18 b8) ((r7.2.1.1 4003)).toNatClampNeg)) - ((σ.2.2.1 (pR18 b2) ((σ.1 4003)).toNatClampNeg)))) <<< ((8 : Int32) &&& 31)))))).1 4014))) 7 (((uA r7.2.1 (pR0 ((sKd r7.2.1 b10))) r6.1.2.toNatClampNeg ((42 ||| ((((((r7.2.1.2.2.1 (pR18 b8) ((r7.2.1.1 4003)).toNatClampNeg)) - ((σ.2.2.1 (pR18 b2) ((σ.1 4003)).toNatClampNeg)))) <<< ((8 : Int32) &&& 31)))))).1 4015))) r18.2))))))) else (f_F3 k d 1 1 (lI (lI (lI (lI (lI (lI L 1 ((σ.1 (fP b1 11)))) 2 ((σ.1 4011))) 3 ((σ.2.2.1 (pR18 b2) ((σ.1 4003)).toNatClampNeg))) 5 ((((r7.2.1.2.2.1 (pR18 b8) ((r7.2.1.1 4003)).toNatClampNeg)) - ((σ.2.2.1 (pR18 b2) ((σ.1 4003)).toNatClampNeg))))) 6 (((uA r7.2.1 (pR0 ((sKd r7.2.1 b10))) r6.1.2.toNatClampNeg ((42 ||| ((((((r7.2.1.2.2.1 (pR18 b8) ((r7.2.1.1 4003)).toNatClampNeg)) - ((σ.2.2.1 (pR18 b2) ((σ.1 4003)).toNatClampNeg)))) <<< ((8 : Int32) &&& 31)))))).1 4014))) 7 (((uA r7.2.1 (pR0 ((sKd r7.2.1 b10))) r6.1.2.toNatClampNeg ((42 ||| ((((((r7.2.1.2.2.1 (pR18 b8) ((r7.2.1.1 4003)).toNatClampNeg)) - ((σ.2.2.1 (pR18 b2) ((σ.1 4003)).toNatClampNeg)))) <<< ((8 : Int32) &&& 31)))))).1 4015))) (uA r7.2.1 (pR0 ((sKd r7.2.1 b10))) r6.1.2.toNatClampNeg ((42 ||| ((((((r7.2.1.2.2.1 (pR18 b8) ((r7.2.1.1 4003)).toNatClampNeg)) - ((σ.2.2.1 (pR18 b2) ((σ.1 4003)).toNatClampNeg)))) <<< ((8 : Int32) &&& 31)))))))) else none)) else none)))))) else none))) := rfl
theorem fr1_1 (k d : Nat) (L : LV) (σ : CS) : f_F3 (k + 1) d 1 1 L σ = (ox (f_X5_expect k 0 (lI lZ 1 44) σ) (fun r1 => of d (fun e2 => ox (f_F3 k e2 3 0 (lI lZ 1 ((L.1 7))) r1.2.1) (fun r2 => oP (sPp r2.2.1) (fun b3 => oP (sPp r2.2.1) (fun b4 => if ¬ (((((L.1 6)) + 1)) < 0 ∨ (sN r2.2.1 (pR0 ((sKd r2.2.1 b3)))) ≤ ((((L.1 6)) + 1)).toNatClampNeg) then (f_F3 k d 1 2 (lI L 8 ((L.1 2))) (uA r2.2.1 (pR0 ((sKd r2.2.1 b3))) ((((L.1 6)) + 1)).toNatClampNeg ((((r2.2.1.1 (fP b4 1))) - ((L.1 6)))))) else none)))))) := rfl
theorem fr1_2 (k d : Nat) (L : LV) (σ : CS) : f_F3 (k + 1) d 1 2 L σ = (if ((σ.1 4011)) ≤ ((((L.1 8)) + 2)) then (f_F3 k d 1 3 L σ) else (oP (sPp σ) (fun b2 => if ¬ (((L.1 8)) < 0 ∨ (sN σ 41) ≤ ((L.1 8)).toNatClampNeg) then (ox (f_X7_emit__P k 0 (lI (lI (lB lZ 0 b2) 1 73) 2 ((σ.2.2.1 41 ((L.1 8)).toNatClampNeg))) σ) (fun r4 => oP (sPp r4.2.1) (fun b5 => if ¬ (((((L.1 8)) + 1)) < 0 ∨ (sN r4.2.1 41) ≤ ((((L.1 8)) + 1)).toNatClampNeg) then (ox (f_X7_word__P k 0 (lI (lB lZ 0 b5) 1 ((r4.2.1.2.2.1 41 ((((L.1 8)) + 1)).toNatClampNeg))) r4.2.1) (fun r7 => oP (sPp r7.2.1) (fun b8 => if ¬ (((((L.1 8)) + 2)) < 0 ∨ (sN r7.2.1 41) ≤ ((((L.1 8)) + 2)).toNatClampNeg) then (ox (f_X7_word__P k 0 (lI (lB lZ 0 b8) 1 ((r7.2.1.2.2.1 41 ((((L.1 8)) + 2)).toNatClampNeg))) r7.2.1) (fun r10 => f_F3 k d 1 2 (lI L 8 ((((L.1 8)) + 3))) r10.2.1)) else none))) else none))) else none))) := rfl
theorem fr1_3 (k d : Nat) (L : LV) (σ : CS) : f_F3 (k + 1) d 1 3 L σ = (oP (sPp σ) (fun b1 => ox (f_X7_emit__P k 0 (lI (lI (lB lZ 0 b1) 1 37) 2 ((L.1 5))) σ) (fun r2 => oP (sPp (uI r2.2.1 4011 ((L.1 2)))) (fun b3 => if ¬ ((((uI r2.2.1 4011 ((L.1 2))).1 4003)) < 0 ∨ 42 ≤ (((uI r2.2.1 4011 ((L.1 2))).1 4003)).toNatClampNeg) then (oP (sPp (uA (uI r2.2.1 4011 ((L.1 2))) (pR18 b3) (((uI r2.2.1 4011 ((L.1 2))).1 4003)).toNatClampNeg ((L.1 3)))) (fun b5 => f_F3 k d 1 4 L (uI (uA (uI r2.2.1 4011 ((L.1 2))) (pR18 b3) (((uI r2.2.1 4011 ((L.1 2))).1 4003)).toNatClampNeg ((L.1 3))) (fP b5 11) ((L.1 1))))) else none)))) := rfl
theorem fr1_4 (k d : Nat) (L : LV) (σ : CS) : f_F3 (k + 1) d 1 4 L σ = (some ((0, 0), σ, (0, 0))) := rfl
/-- DROP, and all as it was before the for -/
theorem c_for3 {t : α} {x5 : Int32} (h : Zy T n b u al σ0 nc0 sz0 mk0 a1 a2 (tb ++ es) o q v mk' w' st lo qh szB cs τ) (hu : u < 42) (hm : mk ≤ mk') (h0 : mk0 ≤ mk) (hnc : nc0 ≤ tb.length) (hs : szB + cs.length + 1 ≤ 36864) (l5 : L.1 5 = x5) (l2 : L.1 2 = nI mk) (l3 : L.1 3 = nI w) (l1 : L.1 1 = nI tb.length) (fin : ∀ (τ' : CS) (n1 n2 : Nat), Zy T n b u al σ0 nc0 sz0 mk0 (a1 + n1) (a2 + n2) tb o q v mk w st lo qh szB (cs ++ [em 37 x5]) τ' → S t 0 τ') : Tm (fun k => f_F3 k d 1 3 L τ) (ZPo b u nc0 sz0 mk0 (some t) S σ0 a1 a2) := by
  have i42 : ¬ (nI u < 0 ∨ 42 ≤ (nI u).toNatClampNeg) := u_in (by rw [u_n (by omega)]; omega) (by decide)
  have fc := fP_c b 3
  have fc1 := fP_c b 11
  refine Tm_suc (fun k => fr1_3 k _ _ _) ?_
  refine Tm_oP (Zy_pp h) ?_
  refine zt_emit (op := 37) h rfl rfl hs (fun τ1 n1 n2 s1 xk1 => ?_)
  have s1' : Zy T n b u al σ0 nc0 sz0 mk0 (a1 + n1) (a2 + n2) (tb ++ es) o q v mk' w' st lo qh szB (cs ++ [em 37 x5]) τ1 := by rw [← l5]; exact s1
  have s2 : Zy T n b u al σ0 nc0 sz0 mk0 (a1 + n1) (a2 + n2) (tb ++ es) o q v mk w' st lo qh szB (cs ++ [em 37 x5]) (uI τ1 4011 (L.1 2)) := Zy_g s1' (fun j hj => uI_o (by omega)) rfl (by rw [uI_s]; exact l2) hm h0 (ZF_e s1'.2.2 (fun j hj => uI_o (by omega)) rfl rfl)
  refine Tm_oP (Zy_pp s2) ?_
  have e03 : (uI τ1 4011 (L.1 2)).1 4003 = nI u := s2.1.1.2.2.2.2.1.2.1
  have go : Tm (fun k => if ¬ ((uI τ1 4011 (L.1 2)).1 4003 < 0 ∨ 42 ≤ ((uI τ1 4011 (L.1 2)).1 4003).toNatClampNeg) then (oP (sPp (uA (uI τ1 4011 (L.1 2)) (pR18 b) ((uI τ1 4011 (L.1 2)).1 4003).toNatClampNeg (L.1 3))) (fun b5 => f_F3 k d 1 4 L (uI (uA (uI τ1 4011 (L.1 2)) (pR18 b) ((uI τ1 4011 (L.1 2)).1 4003).toNatClampNeg (L.1 3)) (fP b5 11) (L.1 1)))) else none) (ZPo b u nc0 sz0 mk0 (some t) S σ0 (a1 + n1) (a2 + n2)) := by
    rw [e03]
    refine Tm_chk i42 ?_
    rw [n_cl (p := u) (by omega)]
    have zf2 := s2.2.2
    have s3 : Zy T n b u al σ0 nc0 sz0 mk0 (a1 + n1) (a2 + n2) (tb ++ es) o q v mk w st lo qh szB (cs ++ [em 37 x5]) (uA (uI τ1 4011 (L.1 2)) (pR18 b) u (L.1 3)) := Zy_r s2 (Or.inr rfl) ⟨by rw [uA_r, upd_same]; exact l3, zf2.2⟩
    refine Tm_oP (Zy_pp s3) ?_
    have s4 := Zy_tb s3 (TbQ_tk s3.1.1.2.2.2.1) hnc hnc
    rw [l1]
    refine Tm_suc (fun k => fr1_4 k _ _ _) ?_
    exact Tm_some (Zfin s4 (fin _ _ _ s4))
  exact go
/-- FOR_CLEARs -/
theorem c_for2L {mkE : Nat} {cs0 : List Int32} {pl0 : List (Nat × Nat × Nat)} (hm9 : mkE ≤ 21504) (cont : ∀ (L' : LV) (τ' : CS) (n1 n2 : Nat), (∀ j, ¬ j = 8 → L'.1 j = L.1 j) → Zy T n b u al σ0 nc0 sz0 mk0 n1 n2 tb o q v mkE w st lo qh szB (cs0 ++ fcL pl0) τ' → Tm (fun k => f_F3 k d 1 3 L' τ') (ZPo b u nc0 sz0 mk0 x S σ0 n1 n2)) : ∀ (rest : List (Nat × Nat × Nat)) (j : Nat) (L' : LV) (τ : CS) (a1 a2 : Nat) (cs : List Int32), cs ++ fcL rest = cs0 ++ fcL pl0 → (∀ i, i < 3 * rest.length → τ.2.2.1 41 (j + i) = (mkF3 rest).getD i 0) → mkE = j + 3 * rest.length → L'.1 8 = nI j → (∀ j, ¬ j = 8 → L'.1 j = L.1 j) → szB + cs.length + 3 * rest.length ≤ 36864 → Zy T n b u al σ0 nc0 sz0 mk0 a1 a2 tb o q v mkE w st lo qh szB cs τ → Tm (fun k => f_F3 k d 1 2 L' τ) (ZPo b u nc0 sz0 mk0 x S σ0 a1 a2) := by
  intro rest
  induction rest with
  | nil =>
    intro j L' τ a1 a2 cs ec mks eE l8 lj hs s1
    have e11 : τ.1 4011 = nI mkE := s1.1.1.2.2.1.1
    have eE' : mkE = j := eE
    refine Tm_suc (fun k => fr1_2 k _ _ _) ?_
    rw [e11, l8]
    refine Tm_yes (by show nI mkE ≤ nI j + nI 2; rw [n_add (by omega), n_le (by omega) (by omega)]; omega) ?_
    have ec' : cs = cs0 ++ fcL pl0 := by rw [← ec]; show cs = cs ++ []; rw [List.append_nil]
    rw [ec'] at s1
    exact cont L' τ a1 a2 lj s1
  | cons e rest ih =>
    intro j L' τ a1 a2 cs ec mks eE l8 lj hs s1
    have el : (e :: rest).length = rest.length + 1 := rfl
    rw [el] at mks eE hs
    have e11 : τ.1 4011 = nI mkE := s1.1.1.2.2.1.1
    have b41 : mkE ≤ sN τ 41 := s1.1.1.2.2.1.2.1
    have m0 : τ.2.2.1 41 j = nI e.1 := mks 0 (by omega)
    have m1 : τ.2.2.1 41 (j + 1) = nI e.2.1 := mks 1 (by omega)
    have m2 : τ.2.2.1 41 (j + 2) = nI e.2.2 := mks 2 (by omega)
    have a81 : nI j + 1 = nI (j + 1) := n_add1 j
    have a82 : nI j + 2 = nI (j + 2) := n_add (q := 2) (by omega)
    have a83 : nI j + 3 = nI (j + 3) := n_add (q := 3) (by omega)
    refine Tm_suc (fun k => fr1_2 k _ _ _) ?_
    rw [e11, l8, a82, a83, a81]
    refine Tm_no (by rw [n_le (by omega) (by omega)]; omega) ?_
    refine Tm_oP (Zy_pp s1) ?_
    refine Tm_chk (n_in (n := sN τ 41) (by omega) (by omega)) ?_
    rw [n_cl (p := j) (by omega), m0]
    refine zt_emit (op := 73) s1 rfl rfl (by omega) (fun τ2 n1 n2 s2 xk2 => ?_)
    refine Tm_oP (Zy_pp s2) ?_
    have b42 : mkE ≤ sN τ2 41 := s2.1.1.2.2.1.2.1
    refine Tm_chk (n_in (n := sN τ2 41) (by omega) (by omega)) ?_
    rw [n_cl (p := j + 1) (by omega)]
    have g1 : τ2.2.2.1 41 (j + 1) = nI e.2.1 := (xk2.2.2.2.2.2.2.1 (j + 1) (by omega)).trans m1
    have l1 : (cs ++ [em 73 (nI e.1)]).length = cs.length + 1 := by rw [List.length_append]; rfl
    refine zt_word (L := lI (lB lZ 0 b) 1 (τ2.2.2.1 41 (j + 1))) s2 rfl (by show szB + (cs ++ [em 73 (nI e.1)]).length + 1 ≤ _; rw [l1]; omega) (fun τ3 n3 n4 s3 xk3 => ?_)
    refine Tm_oP (Zy_pp s3) ?_
    have b43 : mkE ≤ sN τ3 41 := s3.1.1.2.2.1.2.1
    refine Tm_chk (n_in (n := sN τ3 41) (by omega) (by omega)) ?_
    rw [n_cl (p := j + 2) (by omega)]
    have g2 : τ3.2.2.1 41 (j + 2) = nI e.2.2 := (xk3.2.2.2.2.2.2.1 (j + 2) (by omega)).trans ((xk2.2.2.2.2.2.2.1 (j + 2) (by omega)).trans m2)
    have l2 : (cs ++ [em 73 (nI e.1)] ++ [nI e.2.1]).length = cs.length + 2 := by rw [List.length_append, l1]; rfl
    have s3' : Zy T n b u al σ0 nc0 sz0 mk0 (a1 + n1 + n3) (a2 + n2 + n4) tb o q v mkE w st lo qh szB (cs ++ [em 73 (nI e.1)] ++ [nI e.2.1]) τ3 := by rw [← g1]; exact s3
    refine zt_word (L := lI (lB lZ 0 b) 1 (τ3.2.2.1 41 (j + 2))) s3' rfl (by rw [l2]; omega) (fun τ4 n5 n6 s4 xk4 => ?_)
    have s4' : Zy T n b u al σ0 nc0 sz0 mk0 (a1 + n1 + n3 + n5) (a2 + n2 + n4 + n6) tb o q v mkE w st lo qh szB (cs ++ [em 73 (nI e.1)] ++ [nI e.2.1] ++ [nI e.2.2]) τ4 := by rw [← g2]; exact s4
    have ea : cs ++ [em 73 (nI e.1)] ++ [nI e.2.1] ++ [nI e.2.2] = cs ++ [em 73 (nI e.1), nI e.2.1, nI e.2.2] := by simp only [List.append_assoc]; rfl
    have l3 : (cs ++ [em 73 (nI e.1), nI e.2.1, nI e.2.2]).length = cs.length + 3 := by rw [List.length_append]; rfl
    rw [ea] at s4'
    refine ih (j + 3) _ τ4 _ _ _ ?_ (fun i hi => ?_) (by omega) rfl (fun j hj => ?_) (by rw [l3]; omega) s4'
    · rw [← ec, List.append_assoc]; rfl
    · have z := mks (3 + i) (by omega)
      rw [xk4.2.2.2.2.2.2.1 (j + 3 + i) (by omega), xk3.2.2.2.2.2.2.1 (j + 3 + i) (by omega), xk2.2.2.2.2.2.2.1 (j + 3 + i) (by omega), Nat.add_assoc, z, Nat.add_comm 3 i]
      rfl
    · show upd L'.1 8 _ j = _
      rw [upd_other hj]
      exact lj j hj
end CYG
