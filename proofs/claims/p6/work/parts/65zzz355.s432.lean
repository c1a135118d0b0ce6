/-! The class: code that is typed as it is laid. -/
section CUQ
variable {c c' c1 c2 : Ct} {O O' H H' : Nat → Prop} {u nu nu' pc ln R R' p d rk k : Nat} {r : List Nat}
/-- code goes on from c: what is typed stays; places of O have their ranks still to come -/
def CtG (O : Nat → Prop) (u nu : Nat) (c c' : Ct) : Prop := tcN c ≤ tcN c' ∧ (∀ v, (1 ≤ v ∧ v ≤ nu) ∨ v = 41 → tcE c' v = tcE c v ∧ tcP c' v = tcP c v ∧ tcF c' v = tcF c v) ∧ (∀ v, v ≤ nu ∨ v = 41 → (tcK c' v ↔ tcK c v)) ∧ (tcF c 0 ≤ tcF c' 0 ∧ (u = 0 → tcF c' 0 = tcF c 0)) ∧ ∀ pc x, tcD c pc = some x → (¬ O pc → tcD c' pc = some x) ∧ (O pc → ∃ rk', tcD c' pc = some (x.1, x.2.1, x.2.2.1, rk'))
theorem CtG_r (O : Nat → Prop) (u nu : Nat) (c : Ct) : CtG O u nu c c := ⟨Nat.le_refl _, fun _ _ => ⟨rfl, rfl, rfl⟩, fun _ _ => Iff.rfl, ⟨Nat.le_refl _, fun _ => rfl⟩, fun pc x h => ⟨fun _ => h, fun _ => ⟨x.2.2.2, h⟩⟩⟩
theorem CtG_t (a : CtG O u nu c c1) (b : CtG O' u nu' c1 c2) (hn : nu ≤ nu') (ho : ∀ p x, tcD c p = some x → O' p → O p) : CtG O u nu c c2 := by
  obtain ⟨a1, a2, a3, a4, a5⟩ := a
  obtain ⟨b1, b2, b3, b4, b5⟩ := b
  refine ⟨by omega, fun v hv => ?_, fun v hv => (b3 v (by omega)).trans (a3 v hv), ⟨by omega, fun e => (b4.2 e).trans (a4.2 e)⟩, fun pc x h => ⟨fun n => ?_, fun o => ?_⟩⟩
  · have y := a2 v hv
    have z := b2 v (by omega)
    exact ⟨z.1.trans y.1, z.2.1.trans y.2.1, z.2.2.trans y.2.2⟩
  · exact (b5 pc x ((a5 pc x h).1 n)).1 (fun o' => n (ho pc x h o'))
  · obtain ⟨k, e⟩ := (a5 pc x h).2 o
    by_cases o' : O' pc
    · obtain ⟨k', e'⟩ := (b5 pc _ e).2 o'
      exact ⟨k', e'⟩
    · exact ⟨k, (b5 pc _ e).1 o'⟩
/-- what CkA asks of a place -/
def CkP (c : Ct) (pc : Nat) : Prop := ∀ u d r rk, tcD c pc = some (u, d, r, rk) → pc + 1 ≤ tcN c ∧ rk ≤ 72 * (RK + 1) ∧ ∃ op, op < 256 ∧ tcC c pc &&& 255 = nI op ∧ (u < 42 → OKI c pc u d r rk op (tcC c pc >>> ((8 : Int32) &&& 31))) ∧ (100 ≤ u → op = 113 ∧ 1000 ≤ rk ∧ ∀ d' r0, r = (750000 + (d' + 2)) :: r0 → NxS c (pc + 1) (u - 100) (d' + 1) r0)
/-- so it is, however the code goes on -/
def OKq (O : Nat → Prop) (u nu : Nat) (c : Ct) (pc ln R : Nat) : Prop := ∀ c', CtG O u nu c c' → (∀ i, pc ≤ i → i < pc + ln → tcC c' i = tcC c i) → (∀ p x, O p → tcD c' p = some x → x.2.2.2 < R) → CkP c' pc
theorem OKq_m (h : OKq O u nu c pc ln R) (a : CtG O u nu c c1) (hc : ∀ i, pc ≤ i → i < pc + ln → tcC c1 i = tcC c i) (hi : ∀ p, O p → ∃ x, tcD c p = some x) (cl : ∀ p x, O p → ¬ O' p → tcD c1 p = some x → x.2.2.2 < R) (hn : nu ≤ nu') (ho : ∀ p x, tcD c p = some x → O' p → O p) : OKq O' u nu' c1 pc ln R := by
  intro c' a' hc' ro
  refine h c' (CtG_t a a' hn ho) (fun i h1 h2 => (hc' i h1 h2).trans (hc i h1 h2)) (fun p x o e => ?_)
  by_cases o' : O' p
  · exact ro p x o' e
  · obtain ⟨x0, e0⟩ := hi p o
    obtain ⟨k, e1⟩ := (a.2.2.2.2 p x0 e0).2 o
    have e2 := (a'.2.2.2.2 p _ e1).1 o'
    rw [e2] at e
    cases e
    exact cl p _ o o' e1
/-- code laid so far is typed, but for the places of H -/
def TI (O H : Nat → Prop) (nu R : Nat) (c : Ct) : Prop := tcN c ≤ 36864 ∧ (∀ p, O p → (H p ∨ tcN c ≤ p) ∧ ∃ x, tcD c p = some x) ∧ (∀ h, H h → h < tcN c) ∧ (∀ p, tcN c < p → tcD c p = none) ∧ ∀ pc x, tcD c pc = some x → pc < tcN c → H pc ∨ ∃ ln Rp, 1 ≤ ln ∧ pc + ln ≤ tcN c ∧ R ≤ Rp ∧ (∀ h, H h → h < pc ∨ pc + ln ≤ h) ∧ OKq O (x.1 % 100) nu c pc ln Rp
/-- the same code, units told besides, a place typed that wasn't -/
def CtB (nu : Nat) (c c' : Ct) : Prop := (∀ v, (1 ≤ v ∧ v ≤ nu) ∨ v = 41 → tcE c' v = tcE c v ∧ tcP c' v = tcP c v ∧ tcF c' v = tcF c v) ∧ (∀ v, v ≤ nu ∨ v = 41 → (tcK c' v ↔ tcK c v))
/-- an instruction is laid; y: how it goes on behind it; Hn: it is still to be aimed; On: what follows is a NEXT -/
theorem TI_em {y : Option (Nat × Nat × List Nat × Nat)} {Hn On : Prop} (h : TI O H nu R c) (l1 : 1 ≤ ln) (hN : tcN c + ln ≤ 36864) (e1 : ∀ i, i < tcN c → tcC c' i = tcC c i) (e2 : tcN c' = tcN c + ln) (eT : (tcE c' = tcE c ∧ tcP c' = tcP c) ∧ tcF c' = tcF c ∧ tcK c' = tcK c) (eD : ∀ p, tcD c' p = if p = tcN c + ln then y else tcD c p) (hO : ∀ p, O' p ↔ O p ∨ (p = tcN c + ln ∧ On)) (hOn : On → y.isSome = true) (hH : ∀ p, H' p ↔ H p ∨ (p = tcN c ∧ Hn)) (hOH : O (tcN c) → Hn) (ok : ¬ Hn → ∀ x, tcD c (tcN c) = some x → OKq O' (x.1 % 100) nu c' (tcN c) ln R) (hR : R' ≤ R) : TI O' H' nu R' c' := by
  obtain ⟨t1, t2, th, t3, t4⟩ := h
  obtain ⟨⟨eE, eP⟩, eF, eK⟩ := eT
  have noD : tcD c (tcN c + ln) = none := t3 _ (by omega)
  have ne : ∀ p x, tcD c p = some x → ¬ p = tcN c + ln := fun p x e q => by rw [q, noD] at e; cases e
  have dd : ∀ p x, tcD c p = some x → tcD c' p = some x := fun p x e => by rw [eD, if_neg (ne p x e)]; exact e
  have ho : ∀ p x, tcD c p = some x → O' p → O p := fun p x e o => ((hO p).1 o).elim id (fun z => absurd z.1 (ne p x e))
  have ca : ∀ u, CtG O u nu c c' := fun u => ⟨by omega, fun v _ => by rw [eE, eP, eF]; exact ⟨rfl, rfl, rfl⟩, fun v _ => by rw [eK], ⟨by rw [eF]; exact Nat.le_refl _, fun _ => by rw [eF]⟩, fun p x e => ⟨fun _ => dd p x e, fun _ => ⟨x.2.2.2, dd p x e⟩⟩⟩
  refine ⟨by omega, fun p o => ?_, fun p hp => ?_, fun p hp => ?_, fun p x e hp => ?_⟩
  · rcases (hO p).1 o with z | z
    · obtain ⟨w, x, ex⟩ := t2 p z
      refine ⟨?_, x, dd p x ex⟩
      rcases w with w | w
      · exact Or.inl ((hH p).2 (Or.inl w))
      · by_cases q : p = tcN c
        · exact Or.inl ((hH p).2 (Or.inr ⟨q, hOH (q ▸ z)⟩))
        · rw [t3 p (by omega)] at ex
          cases ex
    · refine ⟨Or.inr (by omega), ?_⟩
      rw [eD, if_pos z.1]
      exact Option.isSome_iff_exists.1 (hOn z.2)
  · rcases (hH p).1 hp with z | z
    · have := th p z; omega
    · omega
  · rw [eD, if_neg (by omega)]
    exact t3 p (by omega)
  · rw [eD, if_neg (by omega)] at e
    rcases Nat.lt_or_ge p (tcN c) with q | q
    · rcases t4 p x e q with z | ⟨l, Rp, z1, z2, z3, z4, z5⟩
      · exact Or.inl ((hH p).2 (Or.inl z))
      · refine Or.inr ⟨l, Rp, z1, by omega, by omega, fun h' hh => ?_, ?_⟩
        · rcases (hH h').1 hh with w | w
          · exact z4 h' w
          · right; omega
        · exact OKq_m z5 (ca _) (fun i h1 h2 => e1 i (by omega)) (fun p o => (t2 p o).2) (fun p' x' o n _ => absurd ((hO p').2 (Or.inl o)) n) (Nat.le_refl _) ho
    · have ep : p = tcN c := by
        rcases Nat.lt_or_ge (tcN c) p with w | w
        · rw [t3 p w] at e; cases e
        · omega
      subst ep
      by_cases hn : Hn
      · exact Or.inl ((hH _).2 (Or.inr ⟨rfl, hn⟩))
      · refine Or.inr ⟨ln, R, l1, by omega, hR, fun h' hh => ?_, ok hn x e⟩
        rcases (hH h').1 hh with w | w
        · exact Or.inl (th h' w)
        · exact absurd w.2 hn
/-- a place that was left open to be aimed is filled -/
theorem TI_fi {h : Nat} {x : Nat × Nat × List Nat × Nat} (t : TI O H nu R c) (l1 : 1 ≤ ln) (hh : H h) (no : ¬ O h) (hl : h + ln ≤ tcN c) (e1 : ∀ i, i < h ∨ h + ln ≤ i → tcC c' i = tcC c i) (e2 : c'.2 = c.2) (hD : tcD c h = some x) (hg : ∀ i y, h < i → i < h + ln → ¬ tcD c i = some y) (hg2 : ∀ h', H h' → h' ≤ h ∨ h + ln ≤ h') (hH : ∀ p, H' p ↔ H p ∧ ¬ p = h) (ok : OKq O (x.1 % 100) nu c' h ln R) : TI O H' nu R c' := by
  obtain ⟨t1, t2, th, t3, t4⟩ := t
  have eN : tcN c' = tcN c := by show c'.2.1 = _; rw [e2]
  have eD : tcD c' = tcD c := by show c'.2.2.2.2.2.2 = _; rw [e2]
  have eE : tcE c' = tcE c := by show c'.2.2.1 = _; rw [e2]
  have eP : tcP c' = tcP c := by show c'.2.2.2.1 = _; rw [e2]
  have eF : tcF c' = tcF c := by show c'.2.2.2.2.1 = _; rw [e2]
  have eK : tcK c' = tcK c := by show c'.2.2.2.2.2.1 = _; rw [e2]
  have ca : ∀ u, CtG O u nu c c' := fun u => ⟨by omega, fun v _ => by rw [eE, eP, eF]; exact ⟨rfl, rfl, rfl⟩, fun v _ => by rw [eK], ⟨by rw [eF]; exact Nat.le_refl _, fun _ => by rw [eF]⟩, fun p x e => by rw [eD]; exact ⟨fun _ => e, fun _ => ⟨x.2.2.2, e⟩⟩⟩
  refine ⟨by omega, fun p o => ?_, fun p hp => by rw [eN]; exact th p ((hH p).1 hp).1, fun p hp => by rw [eD]; exact t3 p (by omega), fun p y e hp => ?_⟩
  · obtain ⟨w, y, ey⟩ := t2 p o
    refine ⟨?_, y, by rw [eD]; exact ey⟩
    rcases w with w | w
    · exact Or.inl ((hH p).2 ⟨w, fun q => no (q ▸ o)⟩)
    · exact Or.inr (by omega)
  · rw [eD] at e
    rw [eN] at hp
    by_cases q : p = h
    · subst q
      rw [hD] at e
      cases e
      refine Or.inr ⟨ln, R, l1, by omega, Nat.le_refl _, fun h' hh' => ?_, ok⟩
      have z := (hH h').1 hh'
      rcases hg2 h' z.1 with w | w
      · exact Or.inl (by have := z.2; omega)
      · exact Or.inr w
    · rcases t4 p y e hp with z | ⟨l, Rp, z1, z2, z3, z4, z5⟩
      · exact Or.inl ((hH p).2 ⟨z, q⟩)
      · refine Or.inr ⟨l, Rp, z1, by omega, z3, fun h' hh' => z4 h' ((hH h').1 hh').1, ?_⟩
        have far : h + ln ≤ p ∨ p + l ≤ h := by
          rcases z4 h hh with w | w
          · rcases Nat.lt_or_ge p (h + ln) with v | v
            · exact absurd e (hg p y w v)
            · exact Or.inl v
          · exact Or.inr w
        exact OKq_m z5 (ca _) (fun i h1 h2 => e1 i (by omega)) (fun p o => (t2 p o).2) (fun p' x' o n _ => absurd o n) (Nat.le_refl _) (fun _ _ _ o => o)
/-- a NEXT's rank is told when its loop is over -/
theorem TI_cl {p0 rk' : Nat} {x : Nat × Nat × List Nat × Nat} (t : TI O H nu R c) (hp : O p0) (hD : tcD c p0 = some x) (hl : p0 < tcN c) (hr : rk' < R) (e1 : tcC c' = tcC c) (e2 : tcN c' = tcN c) (eT : (tcE c' = tcE c ∧ tcP c' = tcP c) ∧ tcF c' = tcF c ∧ tcK c' = tcK c) (eD : ∀ p, tcD c' p = if p = p0 then some (x.1, x.2.1, x.2.2.1, rk') else tcD c p) (hO : ∀ p, O' p ↔ O p ∧ ¬ p = p0) : TI O' H nu R c' := by
  obtain ⟨t1, t2, th, t3, t4⟩ := t
  obtain ⟨⟨eE, eP⟩, eF, eK⟩ := eT
  have dd : ∀ p y, tcD c p = some y → ¬ p = p0 → tcD c' p = some y := fun p y e n => by rw [eD, if_neg n]; exact e
  have ca : ∀ u, CtG O u nu c c' := fun u => ⟨by omega, fun v _ => by rw [eE, eP, eF]; exact ⟨rfl, rfl, rfl⟩, fun v _ => by rw [eK], ⟨by rw [eF]; exact Nat.le_refl _, fun _ => by rw [eF]⟩, fun p y e => ⟨fun n => dd p y e (fun q => n (q ▸ hp)), fun o => by
    by_cases q : p = p0
    · rw [eD, if_pos q]
      rw [q, hD] at e
      cases e
      exact ⟨rk', rfl⟩
    · exact ⟨y.2.2.2, dd p y e q⟩⟩⟩
  have hp0 : H p0 := by
    rcases (t2 p0 hp).1 with w | w
    · exact w
    · omega
  refine ⟨by omega, fun p o => ?_, fun h hh => by rw [e2]; exact th h hh, fun p hp' => ?_, fun p y e hp' => ?_⟩
  · have z := (hO p).1 o
    obtain ⟨w, y, ey⟩ := t2 p z.1
    exact ⟨by rw [e2]; exact w, y, dd p y ey z.2⟩
  · rw [eD, if_neg (by omega)]
    exact t3 p (by omega)
  · rw [e2] at hp'
    by_cases q : p = p0
    · rw [q]; exact Or.inl hp0
    · rw [eD, if_neg q] at e
      rcases t4 p y e hp' with z | ⟨l, Rp, z1, z2, z3, z4, z5⟩
      · exact Or.inl z
      · refine Or.inr ⟨l, Rp, z1, by omega, z3, z4, ?_⟩
        refine OKq_m z5 (ca _) (fun i _ _ => by rw [e1]) (fun p o => (t2 p o).2) (fun p' x' o n e' => ?_) (Nat.le_refl _) (fun p' _ _ o => ((hO p').1 o).1)
        have q' : p' = p0 := Classical.byContradiction (fun q' => n ((hO p').2 ⟨o, q'⟩))
        rw [eD, if_pos q'] at e'
        cases e'
        show rk' < Rp
        omega
/-- tables grow: a unit more, a global more; the place where code goes on is typed; nothing of the code changes -/
theorem TI_tb {y : Option (Nat × Nat × List Nat × Nat)} {On : Prop} (t : TI O H nu R c) (e1 : ∀ i, i < tcN c → tcC c' i = tcC c i) (e2 : tcN c' = tcN c) (eT : ∀ u, CtG O u nu c (tcC c', tcN c', tcE c', tcP c', tcF c', tcK c', tcD c) ∨ ¬ (∃ pc x, tcD c pc = some x ∧ pc < tcN c ∧ x.1 % 100 = u)) (hn : nu ≤ nu') (hy : tcD c (tcN c) = none ∨ tcD c (tcN c) = y) (eD : ∀ p, tcD c' p = if p = tcN c then y else tcD c p) (hO : ∀ p, O' p ↔ O p ∨ (p = tcN c ∧ On)) (hOn : On → y.isSome = true ∧ (tcD c (tcN c) = none ∨ O (tcN c))) (hR : R' ≤ R) : TI O' H nu' R' c' := by
  obtain ⟨t1, t2, th, t3, t4⟩ := t
  have dd : ∀ p x, tcD c p = some x → tcD c' p = some x := fun p x e => by
    rw [eD]
    by_cases q : p = tcN c
    · rw [if_pos q]
      rw [q] at e
      rcases hy with z | z
      · rw [z] at e; cases e
      · rw [← z]; exact e
    · rw [if_neg q]; exact e
  refine ⟨by omega, fun p o => ?_, fun h hh => by rw [e2]; exact th h hh, fun p hp => ?_, fun p x e hp => ?_⟩
  · rcases (hO p).1 o with z | z
    · obtain ⟨w, x, ex⟩ := t2 p z
      exact ⟨by rw [e2]; exact w, x, dd p x ex⟩
    · refine ⟨Or.inr (by omega), ?_⟩
      rw [eD, if_pos z.1]
      exact Option.isSome_iff_exists.1 (hOn z.2).1
  · rw [eD, if_neg (by omega)]
    exact t3 p (by omega)
  · rw [e2] at hp
    rw [eD, if_neg (by omega)] at e
    rcases t4 p x e hp with z | ⟨l, Rp, z1, z2, z3, z4, z5⟩
    · exact Or.inl z
    · refine Or.inr ⟨l, Rp, z1, by omega, by omega, z4, ?_⟩
      have ca0 := (eT (x.1 % 100)).resolve_right (fun z => z ⟨p, x, e, hp, rfl⟩)
      have ca : CtG O (x.1 % 100) nu c c' := ⟨ca0.1, ca0.2.1, ca0.2.2.1, ca0.2.2.2.1, fun p' x' e' => ⟨fun _ => dd p' x' e', fun _ => ⟨x'.2.2.2, dd p' x' e'⟩⟩⟩
      refine OKq_m z5 ca (fun i h1 h2 => e1 i (by omega)) (fun p o => (t2 p o).2) (fun p' x' o n _ => absurd ((hO p').2 (Or.inl o)) n) hn (fun p' x' e' o => ?_)
      rcases (hO p').1 o with w | w
      · exact w
      · rcases (hOn w.2).2 with v | v
        · rw [w.1, v] at e'; cases e'
        · rw [w.1]; exact v
theorem TI_ck (t : TI (fun _ => False) (fun _ => False) nu R c) (h0 : tcD c (tcN c) = none) (k : ¬ tcK c 41) : CkA c := by
  obtain ⟨t1, t2, th, t3, t4⟩ := t
  refine ⟨t1, k, fun pc u d r rk e => ?_⟩
  rcases Nat.lt_or_ge pc (tcN c) with q | q
  · rcases t4 pc _ e q with z | ⟨l, Rp, z1, z2, z3, z4, z5⟩
    · exact z.elim
    · exact z5 c (CtG_r _ _ _ _) (fun _ _ _ => rfl) (fun _ _ o => o.elim) u d r rk e
  · rcases Nat.lt_or_ge (tcN c) pc with w | w
    · rw [t3 pc w] at e; cases e
    · rw [show pc = tcN c from by omega, h0] at e; cases e
/-- what holds of the code as it goes on -/
theorem tF_of (a : CtG O u nu c c') (hu : u ≤ nu ∨ u = 41) : tcF c' u = tcF c u := by
  by_cases e : u = 0
  · subst e; exact a.2.2.2.1.2 rfl
  · exact (a.2.1 u (by omega)).2.2
theorem tS_of (a : CtG O u nu c c') (hu : u ≤ nu ∨ u = 41) (h : tcS c u) : tcS c' u := ⟨fun k => h.1 ((a.2.2.1 u hu).1 k), h.2⟩
theorem nxD_of {d' : Nat} {r' : List Nat} (a : CtG O u nu c c') (hu : u ≤ nu ∨ u = 41) (h : tcD c p = some (u, d', r', rk)) (no : ¬ O p) (rs : Rsh d r d' r') (hb : tcF c u ≤ bt d' r') : NxD c' p u d r rk := ⟨d', r', (a.2.2.2.2 p _ h).1 no, rs, by rw [tF_of a hu]; exact hb⟩
theorem nx_of {d' : Nat} {r' : List Nat} (a : CtG O u nu c c') (hu : u ≤ nu ∨ u = 41) (h : tcD c p = some (u, d', r', rk)) (no : ¬ O p) (rs : Rsh d r d' r') (hb : tcF c u ≤ bt d' r') (hb2 : tcF c u ≤ bt d r) (hk : rk < k) : Nx c' p u d r k := ⟨rk, nxD_of a hu h no rs hb, hk, by rw [tF_of a hu]; exact hb2⟩
theorem nxS_of {d' : Nat} {r' : List Nat} (a : CtG O u nu c c') (hu : u ≤ nu ∨ u = 41) (h : tcD c p = some (u, d', r', rk)) (no : ¬ O p) (rs : Rsh d r d' r') (hb : tcF c u ≤ bt d' r') (hb2 : tcF c u ≤ bt d r) (hk : rk ≤ 72 * (RK + 1)) : NxS c' p u d r := ⟨rk, nxD_of a hu h no rs hb, hk, by rw [tF_of a hu]; exact hb2⟩
theorem nxO_of {d' : Nat} {r' : List Nat} (a : CtG O u nu c c') (hu : u ≤ nu ∨ u = 41) (ro : ∀ p x, O p → tcD c' p = some x → x.2.2.2 < R) (h : tcD c p = some (u, d', r', rk)) (o : O p) (rs : Rsh d r d' r') (hb : tcF c u ≤ bt d' r') (hb2 : tcF c u ≤ bt d r) (hk : R ≤ k) : Nx c' p u d r k := by
  obtain ⟨rk', e⟩ := (a.2.2.2.2 p _ h).2 o
  have z : rk' < R := ro p _ o e
  exact ⟨rk', ⟨d', r', e, rs, by rw [tF_of a hu]; exact hb⟩, by omega, by rw [tF_of a hu]; exact hb2⟩
theorem nxR_of (a : CtG O u nu c c') (hu : u ≤ nu ∨ u = 41) (h : tcD c p = some (u, d, r, rk)) (no : ¬ O p) (hb : tcF c u ≤ bt d r) (hk : rk ≤ RK) : NxR c' p u d r := ⟨rk, (a.2.2.2.2 p _ h).1 no, hk, by rw [tF_of a hu]; exact hb⟩
/-- an instruction of an ordinary unit -/
theorem OKq_of {op : Nat} {x : Int32} (hD : tcD c pc = some (u, d, r, rk)) (no : ¬ O pc) (hu : u < 42) (hN : pc + 1 ≤ tcN c) (hk : rk ≤ 72 * (RK + 1)) (ho : op < 256) (l1 : 1 ≤ ln) (w1 : tcC c pc &&& 255 = nI op) (w2 : tcC c pc >>> ((8 : Int32) &&& 31) = x) (ok : ∀ c', CtG O u nu c c' → (∀ i, pc ≤ i → i < pc + ln → tcC c' i = tcC c i) → (∀ p x, O p → tcD c' p = some x → x.2.2.2 < R) → OKI c' pc u d r rk op x) : OKq O (u % 100) nu c pc ln R := by
  rw [Nat.mod_eq_of_lt (by omega)]
  intro c' a hc ro u' d' r' rk' e
  have e0 := (a.2.2.2.2 pc _ hD).1 no
  rw [e0] at e
  cases e
  have ec := hc pc (Nat.le_refl _) (by omega)
  have n1 := a.1
  exact ⟨by omega, hk, op, ho, by rw [ec]; exact w1, fun _ => by rw [ec, w2]; exact ok c' a hc ro, fun z => absurd z (by omega)⟩
/-- ops are told by what OKI asks of their kind -/
theorem OKI_0 {op : Nat} {x : Int32} (h : op = 0) (k : Ok0 c pc u d r rk) : OKI c pc u d r rk op x := ⟨fun _ => k, fun z w => absurd z (by omega), fun z w => absurd z (by omega), fun z w => absurd z (by omega), fun z w => absurd z (by omega), fun z w => absurd z (by omega), fun z w => absurd z (by omega), fun z w => absurd z (by omega), fun z w => absurd z (by omega), fun z w => absurd z (by omega), fun z w => absurd z (by omega), fun z => absurd z (by omega), fun z w => absurd z (by omega), fun z w => absurd z (by omega), fun z w => absurd z (by omega)⟩
theorem OKI_1 {op : Nat} {x : Int32} (h : 1 ≤ op ∧ op < 10) (k : Ok1 c pc u d r rk op x) : OKI c pc u d r rk op x := ⟨fun z => absurd z (by omega), fun _ _ => k, fun z w => absurd z (by omega), fun z w => absurd z (by omega), fun z w => absurd z (by omega), fun z w => absurd z (by omega), fun z w => absurd z (by omega), fun z w => absurd z (by omega), fun z w => absurd z (by omega), fun z w => absurd z (by omega), fun z w => absurd z (by omega), fun z => absurd z (by omega), fun z w => absurd z (by omega), fun z w => absurd z (by omega), fun z w => absurd z (by omega)⟩
theorem OKI_v {op : Nat} {x : Int32} (h : 10 ≤ op ∧ op < 16) (k : u = 41 ∧ 1 ≤ d) : OKI c pc u d r rk op x := ⟨fun z => absurd z (by omega), fun z w => absurd z (by omega), fun _ _ => k, fun z w => absurd z (by omega), fun z w => absurd z (by omega), fun z w => absurd z (by omega), fun z w => absurd z (by omega), fun z w => absurd z (by omega), fun z w => absurd z (by omega), fun z w => absurd z (by omega), fun z w => absurd z (by omega), fun z => absurd z (by omega), fun z w => absurd z (by omega), fun z w => absurd z (by omega), fun z w => absurd z (by omega)⟩
theorem OKI_7 {op : Nat} {x : Int32} (h : 16 ≤ op ∧ op < 32) (k : (op = 17 → pc + 1 < tcN c) ∧ Ok7 c pc u d r rk op x) : OKI c pc u d r rk op x := ⟨fun z => absurd z (by omega), fun z w => absurd z (by omega), fun z w => absurd z (by omega), fun _ _ => k, fun z w => absurd z (by omega), fun z w => absurd z (by omega), fun z w => absurd z (by omega), fun z w => absurd z (by omega), fun z w => absurd z (by omega), fun z w => absurd z (by omega), fun z w => absurd z (by omega), fun z => absurd z (by omega), fun z w => absurd z (by omega), fun z w => absurd z (by omega), fun z w => absurd z (by omega)⟩
theorem OKI_2 {op : Nat} {x : Int32} (h : 32 ≤ op ∧ op < 48) (k : Ok2 c pc u d r rk op x) : OKI c pc u d r rk op x := ⟨fun z => absurd z (by omega), fun z w => absurd z (by omega), fun z w => absurd z (by omega), fun z w => absurd z (by omega), fun _ _ => k, fun z w => absurd z (by omega), fun z w => absurd z (by omega), fun z w => absurd z (by omega), fun z w => absurd z (by omega), fun z w => absurd z (by omega), fun z w => absurd z (by omega), fun z => absurd z (by omega), fun z w => absurd z (by omega), fun z w => absurd z (by omega), fun z w => absurd z (by omega)⟩
theorem OKI_3 {op : Nat} {x : Int32} (h : 48 ≤ op ∧ op < 64) (k : Ok3 c pc u d r rk op x) : OKI c pc u d r rk op x := ⟨fun z => absurd z (by omega), fun z w => absurd z (by omega), fun z w => absurd z (by omega), fun z w => absurd z (by omega), fun z w => absurd z (by omega), fun _ _ => k, fun z w => absurd z (by omega), fun z w => absurd z (by omega), fun z w => absurd z (by omega), fun z w => absurd z (by omega), fun z w => absurd z (by omega), fun z => absurd z (by omega), fun z w => absurd z (by omega), fun z w => absurd z (by omega), fun z w => absurd z (by omega)⟩
theorem OKI_4 {op : Nat} {x : Int32} (h : 64 ≤ op ∧ op < 80) (k : op ≤ 73 ∧ uN x < 200 ∧ Ok4 c pc u d r rk op (uN x)) : OKI c pc u d r rk op x := ⟨fun z => absurd z (by omega), fun z w => absurd z (by omega), fun z w => absurd z (by omega), fun z w => absurd z (by omega), fun z w => absurd z (by omega), fun z w => absurd z (by omega), fun _ _ => k, fun z w => absurd z (by omega), fun z w => absurd z (by omega), fun z w => absurd z (by omega), fun z w => absurd z (by omega), fun z => absurd z (by omega), fun z w => absurd z (by omega), fun z w => absurd z (by omega), fun z w => absurd z (by omega)⟩
theorem OKI_5 {op : Nat} {x : Int32} (h : 80 ≤ op ∧ op < 96) (k : Ok5 c pc u d r rk op x) : OKI c pc u d r rk op x := ⟨fun z => absurd z (by omega), fun z w => absurd z (by omega), fun z w => absurd z (by omega), fun z w => absurd z (by omega), fun z w => absurd z (by omega), fun z w => absurd z (by omega), fun z w => absurd z (by omega), fun _ _ => k, fun z w => absurd z (by omega), fun z w => absurd z (by omega), fun z w => absurd z (by omega), fun z => absurd z (by omega), fun z w => absurd z (by omega), fun z w => absurd z (by omega), fun z w => absurd z (by omega)⟩
theorem OKI_6 {op : Nat} {x : Int32} (h : 96 ≤ op ∧ op < 112) (k : Ok6 c pc u d r rk op x) : OKI c pc u d r rk op x := ⟨fun z => absurd z (by omega), fun z w => absurd z (by omega), fun z w => absurd z (by omega), fun z w => absurd z (by omega), fun z w => absurd z (by omega), fun z w => absurd z (by omega), fun z w => absurd z (by omega), fun z w => absurd z (by omega), fun _ _ => k, fun z w => absurd z (by omega), fun z w => absurd z (by omega), fun z => absurd z (by omega), fun z w => absurd z (by omega), fun z w => absurd z (by omega), fun z w => absurd z (by omega)⟩
theorem OKI_f {op : Nat} {x : Int32} (h : 112 ≤ op ∧ op < 128) (k : op = 112 ∧ 1 ≤ d ∧ ∃ e0 r1 rk', r = e0 :: r1 ∧ d + 1 < 250000 ∧ tcD c (pc + 1) = some (u + 100, 0, (750000 + (d + 1)) :: r, rk') ∧ (1000 ≤ rk' ∧ rk' ≤ rk) ∧ NxS c (pc + 2) u d r) : OKI c pc u d r rk op x := ⟨fun z => absurd z (by omega), fun z w => absurd z (by omega), fun z w => absurd z (by omega), fun z w => absurd z (by omega), fun z w => absurd z (by omega), fun z w => absurd z (by omega), fun z w => absurd z (by omega), fun z w => absurd z (by omega), fun z w => absurd z (by omega), fun _ _ => k, fun z w => absurd z (by omega), fun z => absurd z (by omega), fun z w => absurd z (by omega), fun z w => absurd z (by omega), fun z w => absurd z (by omega)⟩
theorem OKI_b {op : Nat} {x : Int32} (h : 128 ≤ op ∧ op < 144) (k : ∃ d', d = d' + 2 ∧ NxS c (pc + 1) u (d' + 1) r) : OKI c pc u d r rk op x := ⟨fun z => absurd z (by omega), fun z w => absurd z (by omega), fun z w => absurd z (by omega), fun z w => absurd z (by omega), fun z w => absurd z (by omega), fun z w => absurd z (by omega), fun z w => absurd z (by omega), fun z w => absurd z (by omega), fun z w => absurd z (by omega), fun z w => absurd z (by omega), fun _ _ => k, fun z => absurd z (by omega), fun z w => absurd z (by omega), fun z w => absurd z (by omega), fun z w => absurd z (by omega)⟩
theorem OKI_p {op : Nat} {x : Int32} (h : 208 ≤ op) (k : ∃ d', d = d' + uN x ∧ tcS c u ∧ Nx c (pc + 1) u d' r rk) : OKI c pc u d r rk op x := ⟨fun z => absurd z (by omega), fun z w => absurd z (by omega), fun z w => absurd z (by omega), fun z w => absurd z (by omega), fun z w => absurd z (by omega), fun z w => absurd z (by omega), fun z w => absurd z (by omega), fun z w => absurd z (by omega), fun z w => absurd z (by omega), fun z w => absurd z (by omega), fun z w => absurd z (by omega), fun _ => k, fun z w => absurd z (by omega), fun z w => absurd z (by omega), fun z w => absurd z (by omega)⟩
theorem OKI_u {op : Nat} {x : Int32} (h : 160 ≤ op ∧ op < 176) (k : 1 ≤ d ∧ NxS c (pc + 1) u d r) : OKI c pc u d r rk op x := ⟨fun z => absurd z (by omega), fun z w => absurd z (by omega), fun z w => absurd z (by omega), fun z w => absurd z (by omega), fun z w => absurd z (by omega), fun z w => absurd z (by omega), fun z w => absurd z (by omega), fun z w => absurd z (by omega), fun z w => absurd z (by omega), fun z w => absurd z (by omega), fun z w => absurd z (by omega), fun z => absurd z (by omega), fun _ _ => k, fun z w => absurd z (by omega), fun z w => absurd z (by omega)⟩
theorem OKI_8 {op : Nat} {x : Int32} (h : 176 ≤ op ∧ op < 192) (k : Ok8 c pc u d r rk op x) : OKI c pc u d r rk op x := ⟨fun z => absurd z (by omega), fun z w => absurd z (by omega), fun z w => absurd z (by omega), fun z w => absurd z (by omega), fun z w => absurd z (by omega), fun z w => absurd z (by omega), fun z w => absurd z (by omega), fun z w => absurd z (by omega), fun z w => absurd z (by omega), fun z w => absurd z (by omega), fun z w => absurd z (by omega), fun z => absurd z (by omega), fun z w => absurd z (by omega), fun _ _ => k, fun z w => absurd z (by omega)⟩
theorem OKI_9 {op : Nat} {x : Int32} (h : 192 ≤ op ∧ op < 208) (k : Ok9 c pc u d r rk op x) : OKI c pc u d r rk op x := ⟨fun z => absurd z (by omega), fun z w => absurd z (by omega), fun z w => absurd z (by omega), fun z w => absurd z (by omega), fun z w => absurd z (by omega), fun z w => absurd z (by omega), fun z w => absurd z (by omega), fun z w => absurd z (by omega), fun z w => absurd z (by omega), fun z w => absurd z (by omega), fun z w => absurd z (by omega), fun z => absurd z (by omega), fun z w => absurd z (by omega), fun z w => absurd z (by omega), fun _ _ => k⟩
end CUQ
