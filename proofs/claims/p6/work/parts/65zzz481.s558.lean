/-! The house: value, on both sides. -/
section DZG
variable {σ s : CS} {ρ τ ω : MS} {b : Bool} {sz j n n2 V i : Nat} {XE : XEt} {L : LV} {c : Ct} {gl : List Gn} {pr : Nat → Nat} {E : En}
/-- the text is the name of a variable -/
def VaN (gl : List Gn) (T : Nat → Int32) (n : Nat) : Prop := ∃ x, x ∈ gl ∧ x.2.2.1 = 1 ∧ n = x.1.length ∧ ∀ i, i < n → T i = x.1.getD i 0
def VlQ (j : Nat) (σ : CS) (τ : MS) (r : RS) : Prop := (r.1.1 = 0 ∨ r.1.1 = 2 ∨ r.1.1 = 1) ∧ r.2.2.1 + PhC r.2.1 ≤ PhC σ + 2 ∧ r.2.2.2 + PhS r.2.1 ≤ PhS σ + 12 ∧ Tm (fun k => x_value k 0 (fun _ => 0) τ) (fun q => IB (j + 1) r.2.1 q.2 ∧ True)
theorem tbE_at (h0 : E.2.1 = []) (hi : i < (tbE 0 E).length) : ∃ x, E.1[i]? = some x ∧ (tbE 0 E).getD i e0E = gEn x := by
  have e : tbE 0 E = E.1.map gEn := by
    unfold tbE
    rw [h0]
    exact List.append_nil _
  rw [e] at hi ⊢
  rw [List.length_map] at hi
  refine ⟨E.1[i], List.getElem?_eq_getElem hi, ?_⟩
  rw [List.getD_eq_getElem?_getD, List.getElem?_map, List.getElem?_eq_getElem hi]
  rfl
theorem tbE_of {x : Gn} (h0 : E.2.1 = []) (hx : x ∈ E.1) : ∃ i, i < (tbE 0 E).length ∧ (tbE 0 E).getD i e0E = gEn x := by
  have e : tbE 0 E = E.1.map gEn := by
    unfold tbE
    rw [h0]
    exact List.append_nil _
  obtain ⟨i, hi, ei⟩ := List.mem_iff_getElem.1 hx
  refine ⟨i, by rw [e, List.length_map]; exact hi, ?_⟩
  rw [e, List.getD_eq_getElem?_getD, List.getElem?_map, List.getElem?_eq_getElem hi, ei]
  rfl
theorem pw_ij2 {l : List Gn} (h : l.Pairwise (fun a b => ¬ a.1 = b.1)) {x y : Gn} (hx : x ∈ l) (hy : y ∈ l) (e : x.1 = y.1) : x = y := by
  obtain ⟨i, hi, ei⟩ := List.mem_iff_getElem.1 hx
  obtain ⟨k, hk, ek⟩ := List.mem_iff_getElem.1 hy
  have pw := List.pairwise_iff_getElem.1 h
  rcases Nat.lt_trichotomy i k with z | z | z
  · have := pw i k hi hk z
    rw [ei, ek] at this
    exact absurd e this
  · subst z
    rw [← ei, ← ek]
  · have := pw k i hk hi z
    rw [ei, ek] at this
    exact absurd e.symm this
theorem hp_value (hj : j < 512) : cPr j (fun x => x = 0 ∨ x = 2 ∨ x = 1) (fun σ k => f_X11_value k 0 lZ σ) (fun τ k => x_value k 0 (fun _ => 0) τ) (fun _ _ => True) := by
  intro σ τ h
  have h0 := h
  obtain ⟨XE, ic, rf, tr, e10, e11, e13⟩ := h
  have ic0 := ic
  obtain ⟨n, sz, ⟨t1, t2, t3, t4⟩, _, _, _, pp⟩ := ic
  show Tm (fun k => f_X11_value k 0 lZ σ) (VlQ j σ τ)
  refine Tm_suc (fun k => by rw [f_X11_value]) ?_
  refine Tm_wr (fun z => ?_) (fun nz => ?_)
  · exact ⟨Or.inr (Or.inl rfl), by show 1 + PhC σ ≤ _; omega, by show 6 + PhS σ ≤ _; omega, IB_k2 (gM := fun k => x_value k 0 (fun _ => 0) τ) h0 hj (fun XE rf => Tm_mono (s_valueN (e11.1 z)) (fun r hr => by rw [hr]; exact ⟨RfJ_2 rf, KpT_2⟩))⟩
  have n112 : ¬ τ.1 112 = 0 := fun z => nz (e11.2 z)
  obtain ⟨k0, gl, pr, c, hX, pg, k4⟩ := pp.resolve_left (fun z => nz z.2.1)
  have ida : NmA gl := RfJ_id rf hX
  have e4 : τ.1 4 = nI n := tr.1.symm.trans t2
  obtain ⟨E, nu, vg, e0, MD, ⟨e1, e2⟩, ⟨tb, de⟩, _⟩ := id pg
  subst e1
  have nl : E.2.1 = [] := (de.1.2.1 rfl).1
  have ref : Tm (fun k => x_value k 0 (fun _ => 0) τ) (fun q => RfJ XE (j + 1) q.2 ∧ (q.2.1 73 = τ.1 73 ∧ q.2.1 111 = τ.1 111 ∧ q.2.1 112 = τ.1 112) ∧ ((KpT τ q.2 ∧ ¬ VaN E.1 (τ.2.2 3) n) ∨ (q.2.1 4 = 0 ∧ VaN E.1 (τ.2.2 3) n))) := by
    refine Tm_mono (rj_value rf) (fun q w => ?_)
    obtain ⟨w1, w2, w3⟩ := w
    rcases w3 with ⟨z, _⟩ | ⟨n', g, tn, eg, pgn, w4⟩
    · exact absurd z n112
    · obtain rfl : n' = n := nI_inj (tn.1.symm.trans e4) (by have := tn.2; omega) (by omega)
      rw [hX] at eg
      cases eg
      refine ⟨w1, w2, w4.imp (fun z => ⟨z.1, fun y => ?_⟩) (fun z => ⟨z.1, ?_⟩)⟩
      · obtain ⟨x, x1, x2, x3⟩ := y
        exact z.2 ⟨x, x1, x2, (mNm_of pgn x1).2 x3⟩
      · obtain ⟨_, x, x1, x2, x3⟩ := z
        exact ⟨x, x1, x2, (mNm_of pgn x1).1 x3⟩
  have no : ∀ r : RS, r.1.1 = 1 → HfT σ r.2.1 → cN r.2.1 n → sameT (τ.2.2 3) (r.2.1.2.2.1 38) n → r.2.2.1 + PhC r.2.1 ≤ PhC σ + 2 → r.2.2.2 + PhS r.2.1 ≤ PhS σ + 12 → ¬ VaN E.1 (τ.2.2 3) n → VlQ j σ τ r := fun r r1 fr cn sm c1 c2 na => by
    refine ⟨Or.inr (Or.inr r1), c1, c2, Tm_mono ref (fun q w => ⟨?_, trivial⟩)⟩
    obtain ⟨w1, ⟨w2, w3, w4⟩, w5⟩ := w
    have icq : IC XE j r.2.1 := IC_tq ic0 fr (tOK_cN cn) cn.1 (fun n' e' l' => by have := nI_inj (t2.symm.trans e') (by omega) (by omega); omega)
    rcases w5 with ⟨k, _⟩ | ⟨_, a⟩
    · exact ⟨XE, IC_s icq hj, w1, KpT_rel (tRel_q cn sm e4) k, by rw [fr.1.1 7510 (by decide), w3]; exact e10, by rw [fr.1.1 7511 (by decide), w4]; exact e11, by rw [fr.1.1 7513 (by decide), w2]; exact e13⟩
    · exact absurd a na
  have idx : VaN E.1 (τ.2.2 3) n → tkK (τ.2.2 3) n 0 = 26 ∧ tkE (τ.2.2 3) n 0 = n ∧ sk (τ.2.2 3) n 0 = 0 ∧ ∃ x, x ∈ E.1 ∧ x.2.2.1 = 1 ∧ tkS (τ.2.2 3) n 0 = x.1 := fun a => by
    obtain ⟨x, x1, x2, x3, x4⟩ := a
    obtain ⟨i1, i2, i3, i4⟩ := tk_id (ida x x1) x3 x4
    exact ⟨i1, i2, i4, x, x1, x2, i3⟩
  refine Tm_oxc (s_rewind t1 t2 (by omega) lZ) (fun r z => by rw [z.1]) (fun r1 rw1 => ?_)
  have fr1 := HfT_rw rw1
  have cn1 := rew_cN t2 (by omega) rw1
  have sm1 := rew_same t2 (by omega) tr rw1
  have ph1 := rw_ph rw1
  clear rw1
  have adv := c_advP (T := τ.2.2 3) (L := lZ) cn1.1 sm1 (by rw [fr1.2.1.2.2]; exact t4) cn1.2 (Nat.zero_le n)
  refine Tm_ox adv (fun r3 w nz3 => ?_) (fun r3 w e03 => ?_)
  · have k0 : tkK (τ.2.2 3) n (sk (τ.2.2 3) n 0) = 0 := by
      by_cases k0 : tkK (τ.2.2 3) n (sk (τ.2.2 3) n 0) = 0
      · exact k0
      · exact absurd (by rw [(w.2.1 k0).1]) nz3
    obtain ⟨w1, w2⟩ := w.1 k0
    obtain ⟨kd, st, en, hi, lo, es⟩ := w.2.2
    have ph := Ph_s (σ := r1.2.1) (σ' := r3.2.1) (by rw [es]; rfl)
    refine no _ (by show r3.1.1 = 1; rw [w1]) (HfT_tr fr1 (by show HfT r1.2.1 r3.2.1; rw [es]; exact HfT_sA)) (by show cN r3.2.1 n; rw [es]; exact cN_sA cn1.1) (by show sameT _ (r3.2.1.2.2.1 38) n; rw [es]; exact sm1) ?_ ?_ (fun a => ?_)
    · show r1.2.2.1 + r3.2.2.1 + PhC r3.2.1 ≤ _
      rw [w2]; show r1.2.2.1 + 1 + PhC r3.2.1 ≤ _; omega
    · show r1.2.2.2 + r3.2.2.2 + PhS r3.2.1 ≤ _
      rw [w2]; show r1.2.2.2 + 6 + PhS r3.2.1 ≤ _; omega
    · obtain ⟨i1, i2, i4, _⟩ := idx a
      rw [i4, i1] at k0
      exact absurd k0 (by decide)
  have k0' : ¬ tkK (τ.2.2 3) n (sk (τ.2.2 3) n 0) = 0 := fun k0 => by
    rw [(w.1 k0).1] at e03
    exact absurd e03 (by decide)
  obtain ⟨w1, w2, lx⟩ := w.2.1 k0'
  obtain ⟨kd, st, en, hi, lo, es⟩ := w.2.2
  have fr3 : HfT σ r3.2.1 := HfT_tr fr1 (by rw [es]; exact HfT_sA)
  have ph3 := Ph_s (σ := r1.2.1) (σ' := r3.2.1) (by rw [es]; rfl)
  have w21 : r3.2.2.1 = 0 ∧ r3.2.2.2 = 0 := by rw [w2]; exact ⟨rfl, rfl⟩
  clear es w adv w2
  obtain ⟨l1, l2, l3, l4, l5, l6, l7, l8, l9⟩ := lx
  -- refused
  have fail : ¬ VaN E.1 (τ.2.2 3) n → VlQ j σ τ ((1, 0), r3.2.1, (r1.2.2.1 + (r3.2.2.1 + 1), r1.2.2.2 + (r3.2.2.2 + 6))) := fun na => no _ rfl fr3 l1 l2 (by show r1.2.2.1 + (r3.2.2.1 + 1) + PhC r3.2.1 ≤ _; omega) (by show r1.2.2.2 + (r3.2.2.2 + 6) + PhS r3.2.1 ≤ _; omega) na
  have b5 : ∀ L' : LV, ¬ VaN E.1 (τ.2.2 3) n → Tm (fun k => f_X11_value k 5 L' r3.2.1) (fun q => VlQ j σ τ (q.1, q.2.1, (r1.2.2.1 + (r3.2.2.1 + q.2.2.1), r1.2.2.2 + (r3.2.2.2 + q.2.2.2)))) := fun L' na => Tm_suc (fun k => by rw [f_X11_value]) (Tm_some (fail na))
  have b1 : ∀ L' : LV, ¬ VaN E.1 (τ.2.2 3) n → Tm (fun k => f_X11_value k 1 L' r3.2.1) (fun q => VlQ j σ τ (q.1, q.2.1, (r1.2.2.1 + (r3.2.2.1 + q.2.2.1), r1.2.2.2 + (r3.2.2.2 + q.2.2.2)))) := fun L' na => by
    refine Tm_suc (fun k => by rw [f_X11_value]) ?_
    refine Tm_suc (fun k => by rw [f_X11_value]) ?_
    refine Tm_yes lI_same ?_
    refine Tm_suc (fun k => by rw [f_X11_value]) ?_
    refine Tm_suc (fun k => by rw [f_X11_value]) ?_
    refine Tm_yes lI_same ?_
    exact b5 _ na
  refine Tm_ite (fun c2 => ?_) (fun c2 => b1 _ (fun a => ?_))
  case refine_2 =>
    obtain ⟨i1, i2, i4, _⟩ := idx a
    rw [i4, i1] at l6
    exact c2 l6
  refine Tm_ite (fun c3 => ?_) (fun c3 => b1 _ (fun a => ?_))
  case refine_2 =>
    obtain ⟨i1, i2, i4, _⟩ := idx a
    rw [i4] at l7
    exact c3 l7
  refine Tm_ite (fun c4 => ?_) (fun c4 => b1 _ (fun a => ?_))
  case refine_2 =>
    obtain ⟨i1, i2, i4, _⟩ := idx a
    rw [i4, i2] at l8
    exact c4 (l8.trans l1.1.symm)
  have q0 : sk (τ.2.2 3) n 0 = 0 := nI_inj (l7.symm.trans c3) (by omega) (by decide)
  rw [q0] at l5 l6 l8 l9
  have kk : tkK (τ.2.2 3) n 0 = 26 := (ck_e (tk_v (Nat.zero_le n) l5) (by omega)).1 (l6.symm.trans c2)
  have te := tkE_b (τ.2.2 3) n 0 (Nat.zero_le n)
  have en : tkE (τ.2.2 3) n 0 = n := nI_inj (l8.symm.trans (c4.trans l1.1)) (by omega) (by omega)
  obtain ⟨⟨ky1, ky2⟩, ky3⟩ := l9 kk
  have sc : sCur r3.2.1 = sCur σ := fr3.2.2.1.1
  have tb3 : TbR (sCur σ) (tbE 0 E) r3.2.1 := by
    obtain ⟨h1, h2, h3⟩ := HfT_cd fr3 (sCur σ)
    have p13 := pR_13 (sCur σ)
    exact TbR_s tb (h3 11 (by decide)) (by rw [fr3.2.1.2.2]) (by rw [fr3.2.1.2.2]) (fr3.2.1.1 _ (by omega)) (fr3.2.1.1 _ (by omega)) (fr3.2.1.1 _ (by omega)) (fr3.2.1.1 _ (by omega))
  refine Tm_suc (fun k => by rw [f_X11_value]) ?_
  refine Tm_no (by show ¬ (lI lZ 100 1).1 100 = 0; rw [lI_same]; decide) ?_
  rw [sc]
  refine Tm_op (c_found (tb := tbE 0 E) (bs := tkS (τ.2.2 3) n 0) (L := lJ (lJ (lB lZ 0 (sCur σ)) 1 (r3.2.1.2.1 3705)) 3 (r3.2.1.2.1 3706)) tb3 rfl ky3 ky1 ky2) (fun r4 z => ?_)
  obtain ⟨z1, z2⟩ := z
  rw [z1]
  rcases z2 with ⟨i, ei, li⟩ | ⟨em, ln⟩
  case inr =>
    refine Tm_suc (fun k => by rw [f_X11_value]) ?_
    refine Tm_yes (lI_same.trans em) ?_
    refine b5 _ (fun a => ?_)
    obtain ⟨_, _, _, x, x1, x2, x3⟩ := idx a
    obtain ⟨i, hi, e⟩ := tbE_of nl x1
    exact ln i hi ⟨by rw [e, x3]; rfl, by rw [e]; rfl⟩
  have ti := tb3.2.2 i li.1
  have i256 : i < 256 := Nat.lt_of_lt_of_le li.1 tb3.2.1
  obtain ⟨x, gx, ex⟩ := tbE_at nl li.1
  rw [ex] at ti
  have mx : x ∈ E.1 := List.mem_of_getElem? gx
  have nx : x.1 = tkS (τ.2.2 3) n 0 := by
    have := li.2.1.1
    rw [ex] at this
    exact this
  obtain ⟨_, _, _, r7, _, r9, _⟩ := ti
  have r7' : r3.2.1.2.2.1 (pR7 (sCur σ)) i = nI (x.2.2.1 - 1) := r7
  have r9' : r3.2.1.2.2.1 (pR9 (sCur σ)) i = nI (if x.2.2.1 = 1 then x.2.2.2 else x.2.2.2 + 1) := r9
  have dx := (de.2.2.2.1 x mx).2
  refine Tm_suc (fun k => by rw [f_X11_value]) ?_
  rw [lI_same, ei]
  refine Tm_no (fun e => absurd (u_eq.1 e) (by rw [u_n (by omega)]; show ¬ i = 4294967295; omega)) ?_
  refine Tm_chk (n_in (by omega) i256) ?_
  rw [n_cl (p := i) (by omega), sc, r7']
  refine Tm_ite (fun c7 => ?_) (fun c7 => b5 _ (fun a => ?_))
  case refine_2 =>
    obtain ⟨_, _, _, y, y1, y2, y3⟩ := idx a
    have := pw_ij2 de.2.2.1 mx y1 (nx.trans y3)
    rw [this, y2] at c7
    exact c7 rfl
  have k1 : x.2.2.1 = 1 := by
    have : x.2.2.1 - 1 = 0 := nI_inj (show nI (x.2.2.1 - 1) = nI 0 from c7) (by omega) (by decide)
    omega
  rw [if_pos k1] at r9'
  have va : VaN E.1 (τ.2.2 3) n := by
    have bs : tkS (τ.2.2 3) n 0 = seg (τ.2.2 3) 0 n := by unfold tkS; rw [en]
    refine ⟨x, mx, k1, by rw [nx, bs, seg_len]; omega, fun k hk => ?_⟩
    rw [nx, bs, seg_at (by omega), Nat.zero_add]
  refine Tm_suc (fun k => by rw [f_X11_value]) ?_
  rw [lI_same]
  refine Tm_chk (n_in (by omega) i256) ?_
  rw [n_cl (p := i) (by omega)]
  generalize hs4 : uI r3.2.1 3701 0 = s4
  have fr4 : HfT σ s4 := by rw [← hs4]; exact HfT_tr fr3 (HfT_i (Or.inl ⟨by decide, by decide⟩))
  have sc4 : sCur s4 = sCur σ := fr4.2.2.1.1
  have f37 : s4.1 3701 = 0 := by rw [← hs4, uI_s]
  have ph4 := Ph_s (σ := r3.2.1) (σ' := s4) (by rw [← hs4]; rfl)
  have r94 : s4.2.2.1 (pR9 (sCur s4)) i = nI x.2.2.2 := by rw [sc4, ← hs4]; exact r9'
  have ok4 : tOK s4 := by
    obtain ⟨h1, h2, h3, h4, h5, _⟩ := l1
    unfold tOK
    rw [f37, show sN s4 38 = sN r3.2.1 38 by rw [← hs4]; rfl, show s4.2.2.1 38 = r3.2.1.2.2.1 38 by rw [← hs4]; rfl]
    have z0 : (0 : Int32).toInt = 0 := rfl
    exact ⟨by omega, by omega, by omega, h4, h5⟩
  clear hs4
  have ic4 : IC XE j s4 := IC_tq (n2 := 0) ic0 fr4 ok4 f37 (fun _ _ _ => Nat.zero_le _)
  have e11' : s4.1 7511 = σ.1 7511 := fr4.1.1 7511 (by decide)
  obtain ⟨g, l, t, hq, hv, hg, hc⟩ := IC_g2 ic4 hj (by rw [e11']; exact nz)
  obtain ⟨⟨g1, g2⟩, g3⟩ := hg _ _ x hX mx k1
  have h8 : uN (s4.1 7518) ≤ 2 := by obtain ⟨n, sz, _, _, ⟨_, q, _⟩, _⟩ := ic4; exact q
  have hb : BY False s4 := by obtain ⟨n, sz, _, _, _, ⟨_, q⟩, _⟩ := ic4; exact q
  have x60 : x.2.2.2 < 60 := by have := de.2.1.2.1; omega
  rw [r94]
  refine Tm_op (c_global (L := lI lZ 1 (nI x.2.2.2)) (n := x.2.2.2) (by show uN (nI x.2.2.2) = _; rw [u_n (by omega)]) g1 g2) (fun r5 z5 => ?_)
  rw [z5]
  refine Tm_oxc (c_show (L := lI lZ 1 (s4.2.2.1 20 (4 + x.2.2.2))) hq hv hb h8 g3) (fun r z => z.1) (fun r6 z6 => Tm_some ?_)
  obtain ⟨y1, y2, y3, y4, y5, y6, y7⟩ := z6
  have ic6 := hc r6.2.1 y3 y4 y5 y6 y7
  obtain ⟨k1', k2', k3'⟩ := SwF_M y3
  have v1 : r6.2.2.1 + PhC r6.2.1 ≤ PhC s4 := y2.1
  have v2 : r6.2.2.2 + PhS r6.2.1 ≤ PhS s4 := y2.2
  refine ⟨Or.inl rfl, by show r1.2.2.1 + (r3.2.2.1 + (r6.2.2.1 + 0)) + PhC r6.2.1 ≤ _; omega, by show r1.2.2.2 + (r3.2.2.2 + (r6.2.2.2 + 0)) + PhS r6.2.1 ≤ _; omega, ?_⟩
  refine Tm_mono ref (fun q w => ⟨?_, trivial⟩)
  obtain ⟨w1', ⟨w2', w3', w4'⟩, w5'⟩ := w
  show IB (j + 1) r6.2.1 q.2
  rcases w5' with ⟨_, na⟩ | ⟨q4, _⟩
  · exact absurd va na
  · exact ⟨XE, ic6, w1', tRel_0 ((k1' 3701 (by decide) (by decide)).trans f37) q4, by rw [k1' 7510 (by decide) (by decide), fr4.1.1 7510 (by decide), w3']; exact e10, by rw [k1' 7511 (by decide) (by decide), e11', w4']; exact e11, by rw [k1' 7513 (by decide) (by decide), fr4.1.1 7513 (by decide), w2']; exact e13⟩
end DZG
