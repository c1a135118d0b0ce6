/-! The class: blocks are read. -/
section CXZ
variable {σ σ' σ0 τ τ' τ0 : CS} {L : LV} {b : Bool} {T : Nat → Int32} {n q q' u al o v mk mk' p sz sz' szB szE nc nc0 sz0 mk0 a1 a2 m kk f e s0 ow a t0 g D w st w' st' M nm deep vv np lp N Bd ns nb k d P h st0 b0 it : Nat} {y qh qh' y0 y1 wd x0 x1 x3 : Int32} {l l' cs cs' cs2 ll lt lt0 co bo : List Int32} {tb : List Ent} {E : En} {gl : Nat × (Nat → Nat → Prop)} {Vm : Nat → Prop} {Pc : Nat → Nat → Prop} {MD : Nat → Nat → Nat} {md : Nat → Nat} {bt : BT} {ks qs qs' qa qb js es qsI : List Nat} {lo lo' : Option Nat} {s : SB} {α : Type} {S : α → Int32 → CS → Prop} {x : Option α} {C : Prop}
/-- a call within that may set the code laid since szB anew; what lies before stays -/
theorem zt_callM {β : Type} {z : Option β} {R : β → Int32 → CS → Prop} {g : Nat → Option RS} {f : Nat → RS → Option RS} (h : Zy T n b u al σ0 nc0 sz0 mk0 a1 a2 tb o q v mk w st lo qh szB cs τ) (h0 : sz0 ≤ szB) (t : Tm g (ZPo b u tb.length szB mk z R τ 0 0)) (hx : (z = none ∧ x = none) ∨ ∃ s, z = some s ∧ C ∧ ∀ (τ' : CS) (ret : Int32) (n1 n2 : Nat), R s ret τ' → ZK b u tb.length szB mk τ τ' → ZK b u nc0 sz0 mk0 σ0 τ' → (a1 + n1 + PhC τ' ≤ PhC σ0 ∧ a2 + n2 + PhS τ' ≤ PhS σ0) → Tm (fun k => f k ((0, ret), τ', (n1, n2))) (ZPo b u nc0 sz0 mk0 x S σ0 (a1 + n1) (a2 + n2))) : Tm (fun k => ox (g k) (f k)) (ZPo b u nc0 sz0 mk0 x S σ0 a1 a2) := by
  obtain ⟨⟨h1, h2, h3, h4, h5, h6⟩, _⟩ := h
  refine Tm_ox t (fun r w nz => ?_) (fun r w e0 => ?_)
  · rcases hx with ⟨e1, e2⟩ | ⟨s, e1, _⟩
    · rw [e2]
      refine ⟨fun t' e => (by cases e), fun _ => w.2.1 e1, fun z => absurd z nz, fun z => ?_, ZK_t h2 w.2.2.2.2 h4 h0 h6⟩
      have y := w.2.2.2.1 z
      omega
    · exact absurd (w.1 s e1).1 nz
  · rcases hx with ⟨e1, e2⟩ | ⟨s, e1, c, cont⟩
    · exact absurd (w.2.1 e1) (by rw [e0]; decide)
    · have y := w.2.2.1 e0
      have k := cont r.2.1 r.1.2 r.2.2.1 r.2.2.2 (w.1 s e1).2 w.2.2.2.2 (ZK_t h2 w.2.2.2.2 h4 h0 h6) ⟨by omega, by omega⟩
      have er : ((0, r.1.2), r.2.1, (r.2.2.1, r.2.2.2)) = r := by
        rw [← e0]
      rw [er] at k
      exact Tm_mono k (fun q z => ZPo_s z)
theorem gXs_mo {t : ST} (hq : q ≤ n) (hv : v ≤ 60) (hs : s.1 ≤ 400) (hB : 1 ≤ bt.1) (h : gXs T n f MD E lp o q v bt s = some (some t)) : s.1 ≤ t.2.2.2.2.2.1 := by
  unfold gXs at h
  have lf : ∀ {x : RG}, lb x (lif s) = some (some t) → s.1 ≤ t.2.2.2.2.2.1 := fun h => by
    obtain ⟨r, _, e⟩ := lb_s h
    unfold lif at e
    cases e
    exact Nat.le_refl _
  have gg : ∀ nt : Nat, (nt = 2 ∨ nt = 4 ∨ nt = 5) → ¬ tkK T n q = 25 → GS T n MD f nt E lp o q v 0 0 0 bt s = some (some t) → s.1 ≤ t.2.2.2.2.2.1 := fun nt hn hk h => by
    have z := (gs_mo f nt E lp o q v 0 0 0 bt s t 1 (by omega) hq hv hs h (Nat.le_refl _) hB (fun z => absurd z (by omega)) (fun _ _ => hk)).1
    obtain ⟨_, _, _, _, _, _, _, _, a9, _⟩ := z
    exact a9
  by_cases k26 : tkK T n q = 26
  · rw [if_pos k26] at h; exact lf h
  rw [if_neg k26] at h
  by_cases k10 : tkK T n q = 10
  · rw [if_pos k10] at h; exact lf h
  rw [if_neg k10] at h
  by_cases k39 : tkK T n q = 39
  · rw [if_pos k39] at h; exact gg 2 (by decide) (by omega) h
  rw [if_neg k39] at h
  by_cases k43 : tkK T n q = 43
  · rw [if_pos k43] at h; exact gg 4 (by decide) (by omega) h
  rw [if_neg k43] at h
  by_cases k45 : tkK T n q = 45
  · rw [if_pos k45] at h; exact gg 5 (by decide) (by omega) h
  rw [if_neg k45] at h
  exact lf h
/-- how a block stands behind some statements -/
def BlS (T : Nat → Int32) (n : Nat) (b : Bool) (u al : Nat) (gl : Nat × (Nat → Nat → Prop)) (Pc : Nat → Nat → Prop) (Vm : Nat → Prop) (σ : CS) (a1 a2 : Nat) (tb : List Ent) (o mk N q0 v0 w st0 : Nat) (lo : Option Nat) (qh : Int32) (r : Nat × Nat × Nat) (it : Nat) (τ : CS) : Prop := ∃ (cs : List Int32) (qs : List Nat) (ns : Nat), Zy T n b u al σ tb.length N mk a1 a2 tb o r.1 r.2.1 mk w r.2.2 lo (hdQ N qh qs) N cs τ ∧ Stm u gl Pc Vm w N lo (bdO o v0) ns qs cs ∧ JsT N cs qh qs ∧ (2 * cs.length ≤ 7 * (r.1 - q0) ∧ ns + st0 ≤ r.2.2 ∧ qs.length ≤ lqN lo ns) ∧ (q0 ≤ r.1 ∧ v0 ≤ r.2.1) ∧ it ≤ r.2.2
def PLk (T : Nat → Int32) (n : Nat) (b : Bool) (u al : Nat) (MD : Nat → Nat → Nat) (f : Nat) : Prop := ∀ (E : En) (lp o q v : Nat) (pe : Int32) (i l : Nat) (bt : BT) (s : SB) (x : Option ST), q ≤ n → v ≤ 60 → s.1 ≤ 400 → 1 ≤ bt.1 → GS T n MD f 0 E lp o q v pe i l bt s = some x → ∃ z : Option (Nat × Nat × Nat), Bem T n x z ∧ ∀ (d : Nat) (gl : Nat × (Nat → Nat → Prop)) (Pc : Nat → Nat → Prop) (Vm : Nat → Prop) (tb : List Ent) (mk N w q0 v0 st0 it a1 a2 : Nat) (lo : Option Nat) (qh : Int32) (σ τ : CS) (L : LV), BlS T n b u al gl Pc Vm σ a1 a2 tb o mk N q0 v0 w st0 lo qh (q, v, s.1) it τ → CxS n E b u al gl Vm Pc MD tb lp lo σ → BdB n o q0 v0 mk N w tb.length → 4 * (20 - o) ≤ d → L.1 1 = nI it → Tm (fun k => f_F3 k (d + 1) 0 1 L τ) (ZPo b u tb.length N mk z (fun r _ τ => BlR T n b u al gl Pc Vm tb o mk N q0 v0 w st0 lo qh r τ) σ a1 a2)
theorem bk_0 (k d : Nat) (L : LV) (σ : CS) : f_F3 (k + 1) d 0 0 L σ = (f_F3 k d 0 1 (lI L 1 0) σ) := rfl
theorem bk_1 (k d : Nat) (L : LV) (σ : CS) : f_F3 (k + 1) d 0 1 L σ = (if 400 < ((L.1 1)) then (f_F3 k d 0 2 L σ) else (op (y_X5_beginsStatement k 0 lZ σ) (fun r2 => if r2.1 = 0 then (f_F3 k d 0 2 L r2.2) else (ox (f_X5_checkStatement k 0 lZ r2.2) (fun r4 => oP (sPp r4.2.1) (fun b5 => oP (sPp (uI r4.2.1 (fP b5 3) ((((r4.2.1.1 (fP b5 3))) + 1)))) (fun b6 => ox (f_X7_emit__P k 0 (lI (lI (lB lZ 0 b6) 1 0) 2 (((uI r4.2.1 (fP b5 3) ((((r4.2.1.1 (fP b5 3))) + 1))).1 3703))) (uI r4.2.1 (fP b5 3) ((((r4.2.1.1 (fP b5 3))) + 1)))) (fun r7 => of d (fun e8 => ox (f_F3 k e8 4 0 (lI lZ 1 r7.1.2) r7.2.1) (fun r8 => f_F3 k d 0 1 (lI L 1 ((((L.1 1)) + 1))) r8.2.1)))))))))) := rfl
theorem bk_2 (k d : Nat) (L : LV) (σ : CS) : f_F3 (k + 1) d 0 2 L σ = (some ((0, 0), σ, (0, 0))) := rfl
/-- a block ends -/
theorem c_blEnd {q0 v0 : Nat} (hs : BlS T n b u al gl Pc Vm σ a1 a2 tb o mk N q0 v0 w st0 lo qh (q, v, st) it τ) (hst : ¬ isSt (tkK T n q)) (l1 : L.1 1 = nI it) : Tm (fun k => f_F3 k (d + 1) 0 1 L τ) (ZPo b u tb.length N mk (some (q, v, st)) (fun r _ τ => BlR T n b u al gl Pc Vm tb o mk N q0 v0 w st0 lo qh r τ) σ a1 a2) := by
  obtain ⟨cs, qs, ns, s1, r4, r5, ⟨r6, r6', r6''⟩, ⟨r7, r8⟩, hit⟩ := hs
  have hit' : it ≤ st := hit
  have st4 : st ≤ 400 := s1.2.2.2.1.2
  refine Tm_suc (fun k => bk_1 k _ _ _) ?_
  refine Tm_no (fun z => by rw [l1] at z; exact absurd ((n_lt (p := 400) (q := it) (by decide) (by omega)).1 z) (by omega)) ?_
  refine Tm_op (c_begins s1.1.1) (fun r2 z2 => ?_)
  refine Tm_yes (z2.2.2 hst) ?_
  rw [z2.1]
  refine Tm_suc (fun k => bk_2 k _ _ _) ?_
  exact Tm_some (Zfin s1 ⟨cs, qs, ns, s1.1.1, s1.2.1, s1.2.2, r4, r5, ⟨r6, r6', r6''⟩, r7, r8⟩)
end CXZ
