/-! The house: a text is looked at; a variable's value. -/
section DZF
variable {σ s : CS} {ρ τ ω : MS} {b : Bool} {sz j n n2 V : Nat} {XE : XEt} {L : LV} {c : Ct} {gl : List Gn} {pr : Nat → Nat}
/-- the tape is no longer than before -/
theorem IC_tq (h : IC XE j σ) (fr : HfT σ s) (ok : tOK s) (e : s.1 3701 = nI n2) (hn : ∀ n, σ.1 3701 = nI n → n ≤ 20 * j → n2 ≤ n) : IC XE j s := by
  obtain ⟨n, sz, ⟨t1, t2, t3, t4⟩, ⟨p1, p2, p3, p4, p5, p6⟩, ⟨q1, q2, q3⟩, ⟨m1, m2⟩, pp⟩ := h
  have fm := HfT_m fr
  have l := hn n t2 t3
  have ff := fr.1.1
  have sc := fr.2.2.1.1
  refine ⟨n2, sz, ⟨ok, e, by omega, by rw [fr.2.1.2.2]; exact t4⟩, ⟨by rw [sc, fr.2.2.1.2.1]; exact p1, fun d => ?_, by rw [fr.2.1.2.1 41 (by decide)]; exact p3, by rw [fr.2.1.2.1 42 (by decide)]; exact p4, by rw [sc]; exact HfT_CdL fr p5, by omega⟩, ⟨by rw [ff 7517 (by decide), fr.2.1.2.1 66 (by decide)]; exact q1, by rw [ff 7518 (by decide)]; exact q2, by rw [ff 7513 (by decide)]; exact q3⟩, ⟨Hmx_m fm m1, BY_m fm m2⟩, ?_⟩
  · have p13 := pR_13 d
    exact ⟨by rw [fr.2.1.1 _ (by omega)]; exact (p2 d).1, by rw [fr.2.1.1 _ (by omega)]; exact (p2 d).2⟩
  · rw [ff 7510 (by decide), ff 7511 (by decide), ff 7513 (by decide), sc]
    refine pp.imp id (fun ⟨k0, gl, pr, c, k2, k3, k4⟩ => ⟨k0, gl, pr, c, k2, HfT_pg fr k3, fun z => ?_⟩)
    obtain ⟨y1, y2, y3⟩ := k4 z
    have e9 : s.1 1903 = σ.1 1903 := ff 1903 (by decide)
    exact ⟨fr.2.2.1.2.2.1.trans y1, Mst_m (HfT_ct fr) fm (ct_M (fr.2.2.1.2.2.1.trans y1)) y2, by rw [e9]; exact y3⟩
theorem HfT_tr {s2 : CS} (a : HfT σ s) (d : HfT s s2) : HfT σ s2 := ⟨⟨fun i hi => (d.1.1 i hi).trans (a.1.1 i hi), fun i hi => (d.1.2 i hi).trans (a.1.2 i hi)⟩, ⟨fun k hk => (d.2.1.1 k hk).trans (a.2.1.1 k hk), fun k hk => (d.2.1.2.1 k hk).trans (a.2.1.2.1 k hk), d.2.1.2.2.trans a.2.1.2.2⟩, ⟨d.2.2.1.1.trans a.2.2.1.1, d.2.2.1.2.1.trans a.2.2.1.2.1, d.2.2.1.2.2.1.trans a.2.2.1.2.2.1, d.2.2.1.2.2.2.trans a.2.2.1.2.2.2⟩, d.2.2.2.trans a.2.2.2⟩
theorem HfT_i {i : Nat} {x : Int32} (hi : (3701 ≤ i ∧ i ≤ 3704) ∨ (4003 ≤ i ∧ i ≤ 4020) ∨ i = 7512 ∨ i = 7519) : HfT σ (uI σ i x) := ⟨⟨fun k hk => uI_o (by omega), fun _ _ => rfl⟩, ⟨fun _ _ => rfl, fun _ _ => rfl, rfl⟩, ⟨rfl, rfl, rfl, rfl⟩, rfl⟩
theorem HfT_sA {kd st en : Int32} {hi lo : Int64} : HfT σ (sA σ kd st en hi lo) := by
  refine ⟨⟨fun i hi => ?_, fun i hi => ?_⟩, ⟨fun _ _ => rfl, fun _ _ => rfl, rfl⟩, ⟨rfl, rfl, rfl, rfl⟩, rfl⟩
  · show upd (upd (upd σ.1 3702 kd) 3703 st) 3704 en i = _
    rw [upd_other (by omega), upd_other (by omega), upd_other (by omega)]
  · show updW (updW σ.2.1 3705 _) 3706 lo i = _
    rw [updW_other (by omega), updW_other (by omega)]
theorem HfT_rw {r : RS} (h : cRew σ n r) : HfT σ r.2.1 := by
  obtain ⟨_, row, m, e, _⟩ := h
  rw [e]
  exact HfT_tr HfT_tC (HfT_i (Or.inl ⟨by decide, by decide⟩))
theorem tOK_cN (h : cN s n) : tOK s := by
  obtain ⟨h1, h2, h3, h4, h5, _⟩ := h
  unfold tOK
  rw [h1, n_int (by omega)]
  exact ⟨by omega, by omega, by omega, h4, h5⟩
theorem tRel_q (h : cN s n) (hs : sameT (τ.2.2 3) (s.2.2.1 38) n) (e : τ.1 4 = nI n) : tRel s τ := by
  refine ⟨h.1.trans e.symm, fun i hi => ?_⟩
  rw [h.1, n_int (by have := h.2.1; omega)] at hi
  exact hs.1 i (by omega)
/-- the cost of a text looked at -/
theorem rw_ph {r : RS} (h : cRew σ n r) : r.2.2.1 + PhC r.2.1 ≤ PhC σ ∧ r.2.2.2 + PhS r.2.1 ≤ PhS σ := by
  have fr := HfT_rw h
  obtain ⟨_, row, m, e, _, _, _, _, _, _, _, h10, h11⟩ := h
  have kM : sN r.2.1 38 = m := by
    rw [e]
    exact (tC_n : sN (tC σ (σ.1 3701) row m) 38 = m)
  have ph := Ph_38 (σ := σ) (σ' := r.2.1) (fun k hk => fr.2.1.2.1 k hk)
  rw [kM] at ph
  omega
/-- as IC_g, and the variables' values -/
theorem IC_g2 (h : IC XE j σ) (hj : j < 512) (h11 : ¬ σ.1 7511 = 0) : ∃ (g : Nat → Prop) (l : List Nat) (t : Nat), HQ g l t σ ∧ (∀ i, i < 27 → Gv g (σ.2.2.1 67 i)) ∧ (∀ gl pr x, XE = some (gl, pr) → x ∈ gl → x.2.2.1 = 1 → (4 + x.2.2.2 < sN σ 20 ∧ sN σ 20 ≤ 91000) ∧ Gv g (σ.2.2.1 20 (4 + x.2.2.2))) ∧ ∀ s, SwF σ s → (∀ i, i < 27 → Gv g (s.2.2.1 67 i)) → BY False s → uN (s.1 7517) ≤ sN s 66 → uN (s.1 7518) ≤ 2 → IC XE (j + 1) s := by
  obtain ⟨n, sz, ⟨t1, t2, t3, t4⟩, ⟨p1, p2, p3, p4, p5, p6⟩, ⟨q1, q2, q3⟩, ⟨m1, m2⟩, pp⟩ := h
  obtain ⟨z0, gl, pr, c, z2, z3, z4⟩ := pp.resolve_left (fun z => h11 z.2.1)
  obtain ⟨y1, y2, y3⟩ := z4 h11
  obtain ⟨g, l, t, mg⟩ := Mst_G y2
  obtain ⟨hq, hv⟩ := MsG_v mg
  refine ⟨g, l, t, hq, hv, fun gl' pr' x ex hx k1 => ?_, fun s fr h67 by0 e7 e8 => ?_⟩
  · rw [z2] at ex
    cases ex
    obtain ⟨E, nu, vg, e0, MD, ⟨e1, e2⟩, ⟨tb, de⟩, ⟨ut, r18⟩, _⟩ := z3
    have vg60 := de.2.1.2.1
    have hs : x.2.2.2 < vg := by
      rw [← e1] at hx
      rcases (de.2.2.2.1 x hx).2 with z | z
      · exact z.2
      · omega
    have f0 : tcF (cM c (sCur σ) σ) 0 = vg := by show uN (σ.2.2.1 (pR18 (sCur σ)) 0) = vg; rw [r18, u_n (by omega)]
    obtain ⟨_, _, K, K2, K3, K4, mi, _⟩ := mg
    obtain ⟨_, ⟨⟨v1, v2, v3⟩, _⟩, _, _, _, kk, ⟨b1, b2⟩, _⟩ := mi
    rw [f0] at kk b2
    refine ⟨⟨by omega, v2.2⟩, ((v3 (4 + x.2.2.2) (by omega)).2.1 ?_)⟩
    rw [kk (4 + x.2.2.2) (by omega)]
    unfold KH
    exact if_neg (by omega)
  · obtain ⟨k1, k2, k3, k4, k5, k6⟩ := SwF_M fr
    have e : cM c (sCur σ) s = cM c (sCur σ) σ := Sw_cM fr
    have ct : CtL (cM c (sCur σ) s) s := ct_M (k5.trans y1)
    rw [e] at ct
    have mg2 := MsG_xx (c1 := cM c (sCur σ) σ) (c2 := cM c (sCur σ) σ) ⟨rfl, rfl, rfl, fun _ _ z => z⟩ (SwF_x fr) ct by0 h67 mg
    have ms2 := Mst_of mg2
    refine ⟨n, sz, ⟨?_, (k1 3701 (by decide) (by decide)).trans t2, by omega, by rw [fr.2.1.2.2]; exact t4⟩, ⟨by rw [k3, k4]; exact p1, fun d => ?_, by rw [(k2 41 (by omega)).2]; exact p3, by rw [(k2 42 (by omega)).2]; exact p4, by rw [k3]; exact Sw_CdL fr p5, by omega⟩, ⟨e7, e8, by rw [k1 7513 (by decide) (by decide)]; exact q3⟩, ⟨Hmx_of ms2, by0⟩, ?_⟩
    · unfold tOK at t1 ⊢
      rw [k1 3701 (by decide) (by decide), (k2 38 (by omega)).1, (k2 38 (by omega)).2]
      exact t1
    · have p13 := pR_13 d
      exact ⟨by rw [(k2 _ (by omega)).1]; exact (p2 d).1, by rw [(k2 _ (by omega)).1]; exact (p2 d).2⟩
    · rw [k1 7510 (by decide) (by decide), k1 7511 (by decide) (by decide), k1 7513 (by decide) (by decide), k3]
      have e9 : s.1 1903 = σ.1 1903 := fr.1.1 1903 (by decide)
      exact Or.inr ⟨z0, gl, pr, c, z2, Sw_pg fr z3, fun _ => ⟨k5.trans y1, by rw [e]; exact ms2, by rw [e9]; omega⟩⟩
/-- a name of the program, as the reference finds it -/
theorem mNm_of {x : Gn} (h : PGn gl τ) (hx : x ∈ gl) : mNm τ 0 n x.2.1 x.1.length ↔ (n = x.1.length ∧ ∀ i, i < n → τ.2.2 3 i = x.1.getD i 0) := by
  obtain ⟨bt, pb, _, _, gk⟩ := h
  obtain ⟨k, hk⟩ := List.mem_iff_getElem?.1 hx
  obtain ⟨_, _, _, _, q5, _, _, _, q9⟩ := gk k x hk
  unfold mNm
  constructor
  · rintro ⟨z1, z2⟩
    refine ⟨z1, fun i hi => ?_⟩
    have z3 := z2 i (by omega)
    rw [Nat.zero_add, pb.2.2.2.2 _ (by omega), q9 i (by omega)] at z3
    exact z3.symm
  · rintro ⟨z1, z2⟩
    refine ⟨z1, fun i hi => ?_⟩
    rw [Nat.zero_add, pb.2.2.2.2 _ (by omega), q9 i (by omega), z2 i (by omega)]
end DZF
