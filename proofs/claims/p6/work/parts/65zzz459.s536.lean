/-! The class: programs are read: declarations one after another. -/
section DYN
variable {σ σ' σ0 σ2 τ τ' τ0 : CS} {L L2 : LV} {b pr : Bool} {T : Nat → Int32} {n q q' q0 q1 u al o v v0 v' mk mk' p sz sz0 nc a1 a2 m f w st r0 vg vg' N N0 N1 M j W np pc b0 K : Nat} {y qh : Int32} {l l' cs cs' : List Int32} {tb tb' A B : List Ent} {E E' E0 E1 Ep : En} {bt bt0 : BT} {lo : Option Nat} {md : Nat → Nat} {MD MD' : Nat → Nat → Nat} {c : Ct} {g : PRG} {s : SB} {F : Nat → Int32} {X : Option (PRG × ST)}
theorem ck_dB : ∀ k : Nat, k < 85 → (!(decide (tkV k) && !(decide (k = 32) || decide (k = 33) || decide (k = 34))) || (decide (cKd k < 32) || decide (34 < cKd k))) = true := by decide +kernel
theorem ck_d {k : Nat} (hk : tkV k) (h : ¬ (k = 32 ∨ k = 33 ∨ k = 34)) : cKd k < 32 ∨ 34 < cKd k := by
  have z := ck_dB k (by omega)
  rw [decide_eq_true hk, decide_eq_false (fun e => h (Or.inl e)), decide_eq_false (fun e => h (Or.inr (Or.inl e))), decide_eq_false (fun e => h (Or.inr (Or.inr e)))] at z
  by_cases e : cKd k < 32
  · exact Or.inl e
  · rw [decide_eq_false e] at z
    exact Or.inr (of_decide_eq_true z)
/-- variables never get fewer -/
theorem gCal_v {pr : Bool} {q : Nat} {g : PRG} (h : gCal T n pr E MD nc pc v bt s F q = some (some g)) : g.2.2.2.2.2.1 = v := by
  unfold gCal at h
  rcases pT_any h with ⟨_, y⟩ | ⟨_, h⟩
  · cases y
  by_cases c1 : nmC T n E nc (tkN T n q)
  · rw [if_pos c1] at h
    rcases pT_any h with ⟨_, y⟩ | ⟨_, h⟩
    · cases y
    by_cases c2 : tkK T n (tkN T n (tkN T n q)) = 6
    · rw [if_pos c2] at h
      unfold gCb at h
      rcases pT_any h with ⟨_, y⟩ | ⟨_, h⟩
      · cases y
      rcases pb_any h with ⟨_, y⟩ | ⟨a, ha, h⟩
      · cases y
      rcases pT_any h with ⟨_, y⟩ | ⟨_, h⟩
      · cases y
      rcases pb_any h with ⟨_, y⟩ | ⟨z, hz, h⟩
      · cases y
      obtain rfl := Option.some.inj (Option.some.inj h)
      rfl
    · rw [if_neg c2] at h; cases h
  · rw [if_neg c1] at h; cases h
theorem gds_v : ∀ (f : Nat) (g h : PRG), GDs T n f g = some (some h) → PL n g → g.2.2.2.2.2.1 ≤ h.2.2.2.2.2.1
  | 0, g, h, hG, _ => by cases hG
  | f + 1, g, h, hG, hP => by
    have ih := gds_v f
    obtain ⟨p1, p2, p3, p4, p5, p6, p7⟩ := hP
    have hN := tkN_b T n g.1 p1
    rw [GDs] at hG
    by_cases c1 : tkK T n g.1 = 32
    · rw [if_pos c1] at hG
      rcases pb_any hG with ⟨_, y⟩ | ⟨r, hr, hG⟩
      · cases y
      rcases pT_any hr with ⟨_, y⟩ | ⟨_, hr⟩
      · cases y
      obtain ⟨m1, m2, m3, m4, m5, m6, m7, m8, _⟩ := gvr_mo _ _ _ _ _ _ hN.2.1 p5 hr
      have z := ih _ _ hG ⟨m2, by show 1 ≤ r.2.2.2.1; omega, by show r.2.2.2.1 ≤ 1 + r.1; omega, by show r.2.2.2.2.1 ≤ r.1; omega, m4, p6, by show r.2.1.2.2.2.1 = 0; rw [m8]; exact p7⟩
      exact Nat.le_trans m3 z
    · rw [if_neg c1] at hG
      by_cases c2 : tkK T n g.1 = 34 ∨ tkK T n g.1 = 33
      · rw [if_pos c2] at hG
        rcases pb_any hG with ⟨_, y⟩ | ⟨r, hr, hG⟩
        · cases y
        have z := ih _ _ hG (gCal_mo p1 p5 p2 p6 ⟨p3, p4⟩ hr).2
        rw [gCal_v hr] at z
        exact z
      · rw [if_neg c2] at hG
        obtain rfl := Option.some.inj (Option.some.inj hG)
        exact Nat.le_refl _
/-- variables of the program were told: so it stands -/
theorem DSt_v {t : DV} (h : DSt T n b N0 W K g σ) (hq : g.1 < t.1) (hv : t.2.2.1 ≤ W) (hb : 1 ≤ t.2.2.2.1) (zk : ZK b 0 (tbE 0 g.2.1).length N1 0 σ τ) (hN1 : ∀ N, QS T n b 0 2 (tbE 0 g.2.1) 0 g.1 g.2.2.2.2.2.1 0 0 N σ → N1 = N) (r : ∀ nc, nc = g.2.2.2.1 → ∀ vg, DE g.2.1 0 vg nc g.2.2.2.2.2.1 → VrS T n b 0 2 0 0 N1 g.2.2.2.2.2.2.2.1.1 none 0 g.2.1 vg nc g.1 g.2.2.2.2.2.1 t τ) : DSt T n b N0 W K (t.1, t.2.1, g.2.2.1, g.2.2.2.1, g.2.2.2.2.1, t.2.2.1, t.2.2.2, g.2.2.2.2.2.2.2) τ := by
  obtain ⟨c, N, vg, ⟨h1, h2, h3⟩, ⟨h4, h5, h6, h41⟩, ut, pg, ⟨eN, hN0, hcd⟩, ⟨bd1, bd2, bd3, bd4, hK⟩⟩ := h
  obtain ⟨vg', s1, s2, s3, ⟨s4, s4'⟩, s5, s6⟩ := r _ rfl vg h3
  have e1 := hN1 N h1
  rw [e1] at s1 zk
  obtain ⟨x1, x2, x3, x4⟩ := s4
  have evg : vg' = t.2.2.1 := (s3.1.2.1 rfl).2
  refine ⟨c, N, vg', ⟨s1, s2, s3⟩, ⟨by show t.2.1.2.2.2.2.1 = true; rw [x1]; exact h4, by show t.2.1.2.2.2.2.2.1 = true; rw [x1]; exact h5, by rw [ZK_12 zk]; exact h6, by rw [(UnK_Z zk 41 (by omega)).2.2]; exact h41⟩, ?_, ⟨pg.1, pg.2.1, pg.2.2.1, ⟨⟨by rw [evg, pg.2.2.2.1.1.2]; exact hv, pg.2.2.2.1.1.2⟩, pg.2.2.2.1.2⟩, fun i hi => ?_, fun x hx => ?_⟩, ⟨eN, hN0, fun i a1 a2 => ?_⟩, ⟨by show 2 * N + 7 * (n - t.1) + 110 ≤ K; omega, hb, bd3, bd4, hK⟩⟩
  · intro i hi
    have e13 := ZK_13 zk
    obtain ⟨⟨y1, y2, y3⟩, y4⟩ := ut i hi
    refine ⟨⟨by rw [e13.1]; exact y1, by rw [e13.2.1]; exact y2, ?_⟩, fun j hj => by rw [e13.2.2]; exact y4 j hj⟩
    rw [(UnK_Z zk (i + 1) (by omega)).2.2]
    exact y3
  · show tcP c (i + 1) = t.2.1.2.2.2.2.2.2 i ∧ _
    rw [x1]
    exact pg.2.2.2.2.1 i hi
  · rcases x3 x hx with z | z
    · exact pg.2.2.2.2.2 x z
    · exact ⟨fun e => absurd (z.symm.trans e) (by decide), fun e => absurd (z.symm.trans e) (by decide)⟩
  · rw [(zk.2.2.2.2.2.1 i a2).1]
    exact hcd i a1 a2
/-- the declarations, then the rest -/
theorem rp_lp : ∀ (f : Nat) (g : PRG) (x : Option PRG), GDs T n f g = some x → (x = none → X = none) → (∀ h, x = some h → gPe T n h = some X) → ((∀ h, x = some h → W = h.2.2.2.2.2.1) ∧ (x = none → W = 60)) → PL n g → ∀ (a1 a2 : Nat) (L : LV) (τ : CS), DSt T n b N0 W K g τ → Dy b σ0 N0 a1 a2 τ → L.2.2.1 1 = b → uN (L.1 2) ≤ g.1 → Tm (fun k => f_X5_readProgram__P k 1 L τ) (RPo b N0 X (fun t τ' => PFn b N0 K t.1 τ') σ0 a1 a2)
  | 0, g, x, hG => by cases hG
  | f + 1, g, x, hG => by
    intro hX hY hW hP a1 a2 L τ h dy hL l2
    have ih := rp_lp f
    have h0 := h
    obtain ⟨c, N, vg, ⟨h1, h2, h3⟩, ⟨h4, h5, h6, h41⟩, ut, pg, ⟨eN, hN0, hcd⟩, ⟨bd1, bd2, bd3, bd4, hK⟩⟩ := h
    obtain ⟨p1, p2, p3, p4, p5, p6, p7⟩ := hP
    have hN := tkN_b T n g.1 p1
    have k0 : ¬ tkK T n g.1 = 0 := h1.1.2.2.2.2.1
    have kv := tk_v p1 k0
    have e2 : τ.1 3702 = cKd (tkK T n g.1) := h1.1.2.2.2.2.2.1
    have nl : ¬ (32768 : Int32) < L.1 2 := fun z => by
      have := (u_ltn (x := 32768) (y := L.1 2) (by decide) (by omega)).1 z
      have e : uN (32768 : Int32) = 32768 := rfl
      omega
    have l2' : ∀ t : Nat, g.1 < t → uN ((lI L 2 (L.1 2 + 1)).1 2) ≤ t := fun t ht => by
      show uN (L.1 2 + 1) ≤ _
      rw [u_inc (by omega)]
      omega
    rw [GDs] at hG
    refine Tm_suc (fun k => by rw [f_X5_readProgram__P]) ?_
    refine Tm_no nl ?_
    by_cases kd : ¬ (tkK T n g.1 = 32 ∨ tkK T n g.1 = 33 ∨ tkK T n g.1 = 34)
    · rw [if_neg (fun z => kd (Or.inl z)), if_neg (fun z => kd (z.elim (fun y => Or.inr (Or.inr y)) (fun y => Or.inr (Or.inl y))))] at hG
      have ex := (Option.some.inj hG).symm
      have t2 := c_rp2 (L := L) h0 (hW.1 g ex) dy hL (hY g ex)
      rw [e2]
      rcases ck_d kv kd with z | z
      · exact Tm_yes z t2
      · by_cases y : cKd (tkK T n g.1) < 32
        · exact Tm_yes y t2
        · exact Tm_no y (Tm_yes z t2)
    · have kd := Classical.not_not.1 kd
      have c32 : ¬ τ.1 3702 < 32 ∧ ¬ 34 < τ.1 3702 := by
        rw [e2]
        rcases kd with z | z | z <;> rw [z] <;> decide
      refine Tm_no c32.1 (Tm_no c32.2 ?_)
      by_cases k32 : tkK T n g.1 = 32
      · rw [if_pos k32] at hG
        refine Tm_yes ((lx_k (kk := 32) h1 (by decide)).2 k32) ?_
        have gx : ∃ y, pT T n g.1 (fun q1 => GVr T n (fu n) g.2.1 q1 g.2.2.2.2.2.1 g.2.2.2.2.2.2.1) = some y := by
          rcases pb_any hG with ⟨z, _⟩ | ⟨t, z, _⟩
          · exact ⟨_, z⟩
          · exact ⟨_, z⟩
        obtain ⟨y, hy⟩ := gx
        rw [hy] at hG
        have t0 := c_vars (L := lI lZ 1 0) (by decide) h1 h2 h3 rfl hy
        cases y with
        | none =>
          rw [pb_nn] at hG
          have ex := (Option.some.inj hG).symm
          rw [hX ex]
          exact rt_callZ (z := none) dy hN0 t0 (Or.inl ⟨rfl, rfl⟩)
        | some t =>
          rw [pb_ss] at hG
          rcases pT_any hy with ⟨_, z⟩ | ⟨_, hr⟩
          · cases z
          obtain ⟨m1, m2, m3, m4, m5, m6, m7, m8, _⟩ := gvr_mo _ _ _ _ _ _ hN.2.1 p5 hr
          have pl : PL n (t.1, t.2.1, g.2.2.1, g.2.2.2.1, g.2.2.2.2.1, t.2.2.1, t.2.2.2, g.2.2.2.2.2.2.2) := ⟨m2, by show 1 ≤ t.2.2.2.1; omega, by show t.2.2.2.1 ≤ 1 + t.1; omega, by show t.2.2.2.2.1 ≤ t.1; omega, m4, p6, by show t.2.1.2.2.2.1 = 0; rw [m8]; exact p7⟩
          have hv : t.2.2.1 ≤ W := by
            cases x with
            | none => rw [hW.2 rfl]; exact m4
            | some h9 => rw [hW.1 h9 rfl]; exact gds_v f _ _ hG pl
          refine rt_callZ (z := some t) dy hN0 t0 (Or.inr ⟨_, rfl, fun τ1 ret1 n1 n2 r1 zk1 dy1 => ?_⟩)
          refine Tm_suc (fun k => by rw [f_X5_readProgram__P]) ?_
          refine ih _ x hG hX hY hW pl _ _ (lI L 2 (L.1 2 + 1)) τ1 ?_ dy1 hL (l2' _ (by show g.1 < t.1; omega))
          refine DSt_v h0 (by omega) hv (by omega) zk1 (fun N' y => ?_) (fun nc' e vg1 de => ?_)
          · have a := h1.2.1.1
            have d := y.2.1.1
            rw [a] at d
            have b1 := h1.2.1.2.1
            have b2 := h1.2.1.2.2
            have b3 := y.2.1.2.1
            have lb : ∀ m : Nat, m ≤ cdn b τ → m < 1000000 := fun m hm => by
              rcases b2 with z | ⟨z1, z2⟩
              · omega
              · have e : cdn b τ = 1024 := by
                  show sN τ (pR0 (sKd τ b)) = 1024
                  rcases pR0_c (sKd τ b) with w | w
                  · rw [w]; exact z1
                  · rw [w]; exact z2
                omega
            have w := u_eq.1 d
            rw [u_n (by have := lb _ b1; omega), u_n (by have := lb _ b3; omega)] at w
            exact w
          · have ev : vg1 = vg := (de.1.2.1 rfl).2.trans (h3.1.2.1 rfl).2.symm
            rw [ev, e]
            exact r1
      · rw [if_neg k32] at hG
        have k2 : tkK T n g.1 = 34 ∨ tkK T n g.1 = 33 := by
          rcases kd with z | z | z
          · exact absurd z k32
          · exact Or.inr z
          · exact Or.inl z
        rw [if_pos k2] at hG
        refine Tm_no (fun z => k32 ((lx_k (kk := 32) h1 (by decide)).1 z)) ?_
        refine Tm_suc (fun k => by rw [f_X5_readProgram__P]) ?_
        have gx : ∃ y, gCal T n (decide (tkK T n g.1 = 33)) g.2.1 g.2.2.1 g.2.2.2.1 g.2.2.2.2.1 g.2.2.2.2.2.1 g.2.2.2.2.2.2.1 g.2.2.2.2.2.2.2.1 g.2.2.2.2.2.2.2.2 g.1 = some y := by
          rcases pb_any hG with ⟨z, _⟩ | ⟨t, z, _⟩
          · exact ⟨_, z⟩
          · exact ⟨_, z⟩
        obtain ⟨y, hy⟩ := gx
        rw [hy] at hG
        have fin : ∀ (gg : Nat → Option RS), Tm gg (DPo b N0 y (fun h _ τ' => DSt T n b N0 W K h τ') τ 0 0) → Tm (fun k => oh (gg k) (fun r2 => f_X5_readProgram__P k 4 L r2.2.1) (fun r => op (y_X5_noteFault k 0 lZ r.2.1) (fun r2 => some ((0, 0), r2.2, (0, 0))))) (RPo b N0 X (fun t τ' => PFn b N0 K t.1 τ') σ0 a1 a2) := fun gg t0 => by
          cases y with
          | none =>
            rw [pb_nn] at hG
            have ex := (Option.some.inj hG).symm
            rw [hX ex]
            exact rt_callD (z := none) dy (Nat.le_refl _) t0 (Or.inl ⟨rfl, rfl⟩)
          | some t =>
            rw [pb_ss] at hG
            have pl := gCal_mo p1 p5 p2 p6 ⟨p3, p4⟩ hy
            refine rt_callD (z := some t) (f := fun k r2 => f_X5_readProgram__P k 4 L r2.2.1) dy (Nat.le_refl _) t0 (Or.inr ⟨_, rfl, fun τ1 ret1 n1 n2 r1 dk1 dy1 => ?_⟩)
            refine Tm_suc (fun k => by rw [f_X5_readProgram__P]) ?_
            exact ih _ x hG hX hY hW pl.2 _ _ (lI L 2 (L.1 2 + 1)) τ1 r1 dy1 hL (l2' _ pl.1)
        by_cases k34 : tkK T n g.1 = 34
        · refine Tm_yes ((lx_k (kk := 34) h1 (by decide)).2 k34) ?_
          rw [decide_eq_false (by rw [k34]; decide)] at hy
          exact fin _ (c_function (L := lZ) h0 hy)
        · refine Tm_no (fun z => k34 ((lx_k (kk := 34) h1 (by decide)).1 z)) ?_
          refine Tm_suc (fun k => by rw [f_X5_readProgram__P]) ?_
          rw [decide_eq_true (k2.resolve_left k34)] at hy
          exact fin _ (c_procedure (L := lZ) h0 hy)
end DYN
