/-! The class: ifs, as they are laid. -/
section CXT
variable {σ σ' σ0 τ τ' τ0 : CS} {L : LV} {b : Bool} {T : Nat → Int32} {n q q' u al o v mk mk' p sz sz' szB szE nc nc0 sz0 mk0 a1 a2 m kk f e s0 ow a t0 g D w st w' st' M nm deep vv np lp N Bd ns nb k d P h : Nat} {y qh qh' y0 y1 wd x0 : Int32} {l l' cs cs' cs2 ll lt lt0 co bo : List Int32} {tb : List Ent} {E : En} {gl : Nat × (Nat → Nat → Prop)} {Vm : Nat → Prop} {Pc : Nat → Nat → Prop} {MD : Nat → Nat → Nat} {md : Nat → Nat} {bt : BT} {ks qs qs' qa qb js es qsI : List Nat} {lo lo' : Option Nat} {s : SB}
theorem set_l {x : Int32} : ∀ (a b : List Int32) (h : Nat), h < a.length → (a ++ b).set h x = a.set h x ++ b
  | [], _, _, hh => absurd hh (Nat.not_lt_zero _)
  | _ :: _, _, 0, _ => rfl
  | y :: a, b, h + 1, hh => congrArg (fun l => y :: l) (set_l a b h (Nat.lt_of_succ_lt_succ hh))
theorem JsC_o : ∀ js : List Nat, JsC szB cs js → cs.length ≤ cs2.length → (∀ i, i ∈ js → cs2.getD i 0 = cs.getD i 0) → JsC szB cs2 js
  | [], _, _, _ => trivial
  | j :: js, z, hl, he => ⟨Nat.lt_of_lt_of_le z.1 hl, z.2.1, by rw [he j List.mem_cons_self]; exact z.2.2.1, z.2.2.2.1, JsC_o js z.2.2.2.2 hl (fun i hi => he i (List.mem_cons_of_mem _ hi))⟩
theorem JsC_l : ∀ js : List Nat, JsC szB cs js → ∀ h, h ∈ js → h < cs.length
  | [], _, h, hh => absurd hh List.not_mem_nil
  | j :: js, z, h, hh => by
    rcases List.mem_cons.1 hh with y | y
    · rw [y]; exact z.1
    · exact JsC_l js z.2.2.2.2 h y
theorem shQ_l {k : Nat} : (shQ k qs).length = qs.length := List.length_map _
/-- an if as it stands: what waits for its end, for its next branch, what quits -/
def IfX (u : Nat) (gl : Nat × (Nat → Nat → Prop)) (Pc : Nat → Nat → Prop) (Vm : Nat → Prop) (w N : Nat) (lo : Option Nat) (qh : Int32) (Bd ns : Nat) (js es : List Nat) (ow : Option Nat) (cs : List Int32) : Prop := (∃ qsI : List Nat, IfK u gl Pc Vm w N lo Bd ns qsI es ow cs ∧ ∀ i, i ∈ js ↔ i ∈ qsI) ∧ JsC N cs es ∧ JsT N cs qh js ∧ (∀ h, ow = some h → cs.getD h 0 = em 4 0) ∧ js.length ≤ lqN lo ns
/-- if .. then .. -/
theorem IfX_0 (hc : Sst u gl Pc Vm [] 0 0 1 co) (hb : Stm u gl Pc Vm w (N + (co.length + 2)) lo Bd nb qb bo) (jb : JsT (N + (co.length + 2)) bo qh qb) (hl : qb.length ≤ lqN lo nb) (hp : q < 8388608) : IfX u gl Pc Vm w N lo qh Bd (nb + 1) (shQ (co.length + 2) qb) [] (some (co.length + 1)) (em 0 (nI q) :: (co ++ (em 4 0 :: bo))) ∧ hdQ N qh (shQ (co.length + 2) qb) = hdQ (N + (co.length + 2)) qh qb := by
  have la : ([em 0 (nI q)] ++ (co ++ [em 4 0])).length = co.length + 2 := by rw [List.length_append, List.length_append]; show 1 + (co.length + 1) = _; omega
  have ea : em 0 (nI q) :: (co ++ (em 4 0 :: bo)) = ([em 0 (nI q)] ++ (co ++ [em 4 0])) ++ bo := by simp only [List.append_assoc]; rfl
  have z := JsT_s (cs := [em 0 (nI q)] ++ (co ++ [em 4 0])) (cs2 := bo) (szB := N) (y0 := qh) qb [] trivial (by rw [la]; exact jb)
  rw [la, List.append_nil] at z
  refine ⟨⟨⟨_, IfK_0 hc hb hp, fun i => Iff.rfl⟩, trivial, by rw [ea]; exact z.1, fun h e => ?_, by rw [shQ_l]; exact Nat.le_trans hl (lqN_m (Nat.le_succ _))⟩, z.2⟩
  cases e
  have y := gd_r (a := em 0 (nI q) :: co) (b := em 4 0 :: bo) 0
  exact y
theorem IfX_go (k : IfX u gl Pc Vm w N lo qh Bd ns js es (some h) cs) (y1 : Int32) (rest : List Int32) : (h < cs.length ∧ ¬ h ∈ es ∧ ¬ h ∈ js) ∧ JsC N (cs.set h y1 ++ rest) es ∧ JsT N (cs.set h y1 ++ rest) qh js := by
  obtain ⟨⟨qsI, kk, hm⟩, jc, jt, g4, jl⟩ := k
  obtain ⟨⟨k1, k2, k3, k4⟩, _⟩ := kk
  have kh := k4 h rfl
  have hh : h < cs.length := k1 h (Or.inr rfl)
  have nj : ¬ h ∈ js := fun z => kh.1 ((hm h).1 z)
  have ls : (cs.set h y1).length = cs.length := List.length_set
  have ge : ∀ i, i < cs.length → ¬ i = h → (cs.set h y1 ++ rest).getD i 0 = cs.getD i 0 := fun i hi hn => by
    rw [gd_l (by rw [ls]; exact hi), gd_set, if_neg (fun z => hn z.1)]
  refine ⟨⟨hh, kh.2, nj⟩, JsC_o es jc (by rw [List.length_append, ls]; omega) (fun i hi => ge i (JsC_l es jc i hi) (fun z => kh.2 (z ▸ hi))), JsT_o js jt (by rw [List.length_append, ls]; omega) (fun i hi => ge i (JsT_l js jt i hi) (fun z => nj (z ▸ hi)))⟩
/-- elseif .. then .. -/
theorem IfX_e (k : IfX u gl Pc Vm w N lo qh Bd ns js es (some h) cs) (hc : Sst u gl Pc Vm [] 0 0 1 co) (hb : Stm u gl Pc Vm w (N + (cs.length + 1 + (co.length + 1))) lo Bd nb qb bo) (jb : JsT (N + (cs.length + 1 + (co.length + 1))) bo (hdQ N qh js) qb) (hl : qb.length ≤ lqN lo nb) : IfX u gl Pc Vm w N lo qh Bd (ns + nb) (shQ (cs.length + 1 + (co.length + 1)) qb ++ js) (cs.length :: es) (some (cs.length + 1 + co.length)) (cs.set h (em 4 (nI (cs.length + 1 - h))) ++ (em 3 (nI (jsH N es)) :: (co ++ (em 4 0 :: bo)))) ∧ hdQ N qh (shQ (cs.length + 1 + (co.length + 1)) qb ++ js) = hdQ (N + (cs.length + 1 + (co.length + 1))) (hdQ N qh js) qb := by
  obtain ⟨⟨hh, hne, hnj⟩, jc1, jt1⟩ := IfX_go k (em 4 (nI (cs.length + 1 - h))) (em 3 (nI (jsH N es)) :: (co ++ [em 4 0]))
  obtain ⟨⟨qsI, kk, hm⟩, jc, jt, g4, jl⟩ := k
  have ls : (cs.set h (em 4 (nI (cs.length + 1 - h)))).length = cs.length := List.length_set
  have la : (cs.set h (em 4 (nI (cs.length + 1 - h))) ++ (em 3 (nI (jsH N es)) :: (co ++ [em 4 0]))).length = cs.length + 1 + (co.length + 1) := by rw [List.length_append, ls, List.length_cons, List.length_append]; show cs.length + (co.length + 1 + 1) = _; omega
  have ea : cs.set h (em 4 (nI (cs.length + 1 - h))) ++ (em 3 (nI (jsH N es)) :: (co ++ (em 4 0 :: bo))) = (cs.set h (em 4 (nI (cs.length + 1 - h))) ++ (em 3 (nI (jsH N es)) :: (co ++ [em 4 0]))) ++ bo := by simp only [List.append_assoc, List.cons_append]; rfl
  have z := JsT_s (cs2 := bo) (szB := N) (y0 := qh) qb js jt1 (by rw [la]; exact jb)
  rw [la] at z
  generalize hA : cs.set h (em 4 (nI (cs.length + 1 - h))) ++ (em 3 (nI (jsH N es)) :: (co ++ [em 4 0])) = A at *
  have gA : A.getD cs.length 0 = em 3 (nI (jsH N es)) := by
    have y := gd_r (a := cs.set h (em 4 (nI (cs.length + 1 - h)))) (b := em 3 (nI (jsH N es)) :: (co ++ [em 4 0])) 0
    rw [ls, hA] at y
    exact y
  have ke := IfK_e (y1 := em 3 (nI (jsH N es))) (y0 := em 4 0) kk hc hb
  rw [ea] at ke ⊢
  have jl2 := JsC_l es jc
  refine ⟨⟨⟨_, ke, fun i => ?_⟩, ⟨by rw [List.length_append, la]; omega, ?_, ?_, fun i hi => by have := jl2 i hi; omega, JsC_o es jc1 (by rw [List.length_append]; omega) (fun i hi => gd_l (by have := jl2 i hi; rw [la]; omega))⟩, z.1, fun h' e => ?_, by rw [List.length_append, shQ_l, Nat.add_comm qb.length]; exact lqN_a jl hl⟩, z.2⟩
  · rw [List.mem_append, List.mem_append, hm i]
    exact ⟨fun z => z.symm, fun z => z.symm⟩
  · show 1 ≤ N + cs.length
    omega
  · rw [gd_l (by rw [la]; omega)]; exact gA
  · cases e
    rw [← ea]
    have e2 : cs.set h (em 4 (nI (cs.length + 1 - h))) ++ (em 3 (nI (jsH N es)) :: (co ++ (em 4 0 :: bo))) = (cs.set h (em 4 (nI (cs.length + 1 - h))) ++ (em 3 (nI (jsH N es)) :: co)) ++ (em 4 0 :: bo) := by simp only [List.append_assoc, List.cons_append]
    have l2 : (cs.set h (em 4 (nI (cs.length + 1 - h))) ++ (em 3 (nI (jsH N es)) :: co)).length = cs.length + 1 + co.length := by rw [List.length_append, ls, List.length_cons]; omega
    have y := gd_r (a := cs.set h (em 4 (nI (cs.length + 1 - h))) ++ (em 3 (nI (jsH N es)) :: co)) (b := em 4 0 :: bo) 0
    rw [l2] at y
    rw [e2]; exact y
/-- else .. -/
theorem IfX_l (k : IfX u gl Pc Vm w N lo qh Bd ns js es (some h) cs) (hb : Stm u gl Pc Vm w (N + (cs.length + 1)) lo Bd nb qb bo) (jb : JsT (N + (cs.length + 1)) bo (hdQ N qh js) qb) (hl : qb.length ≤ lqN lo nb) : IfX u gl Pc Vm w N lo qh Bd (ns + nb) (shQ (cs.length + 1) qb ++ js) (cs.length :: es) none (cs.set h (em 4 (nI (cs.length + 1 - h))) ++ (em 3 (nI (jsH N es)) :: bo)) ∧ hdQ N qh (shQ (cs.length + 1) qb ++ js) = hdQ (N + (cs.length + 1)) (hdQ N qh js) qb := by
  obtain ⟨⟨hh, hne, hnj⟩, jc1, jt1⟩ := IfX_go k (em 4 (nI (cs.length + 1 - h))) [em 3 (nI (jsH N es))]
  obtain ⟨⟨qsI, kk, hm⟩, jc, jt, g4, jl⟩ := k
  have ls : (cs.set h (em 4 (nI (cs.length + 1 - h)))).length = cs.length := List.length_set
  have la : (cs.set h (em 4 (nI (cs.length + 1 - h))) ++ [em 3 (nI (jsH N es))]).length = cs.length + 1 := by rw [List.length_append, ls]; rfl
  have ea : cs.set h (em 4 (nI (cs.length + 1 - h))) ++ (em 3 (nI (jsH N es)) :: bo) = (cs.set h (em 4 (nI (cs.length + 1 - h))) ++ [em 3 (nI (jsH N es))]) ++ bo := by simp only [List.append_assoc]; rfl
  have z := JsT_s (cs2 := bo) (szB := N) (y0 := qh) qb js jt1 (by rw [la]; exact jb)
  rw [la] at z
  generalize hA : cs.set h (em 4 (nI (cs.length + 1 - h))) ++ [em 3 (nI (jsH N es))] = A at *
  have gA : A.getD cs.length 0 = em 3 (nI (jsH N es)) := by
    have y := gd_r (a := cs.set h (em 4 (nI (cs.length + 1 - h)))) (b := [em 3 (nI (jsH N es))]) 0
    rw [ls, hA] at y
    exact y
  have ke := IfK_l (y1 := em 3 (nI (jsH N es))) kk hb
  rw [ea] at ke ⊢
  have jl2 := JsC_l es jc
  refine ⟨⟨⟨_, ke, fun i => ?_⟩, ⟨by rw [List.length_append, la]; omega, ?_, ?_, fun i hi => by have := jl2 i hi; omega, JsC_o es jc1 (by rw [List.length_append]; omega) (fun i hi => gd_l (by have := jl2 i hi; rw [la]; omega))⟩, z.1, fun h' e => (by cases e), by rw [List.length_append, shQ_l, Nat.add_comm qb.length]; exact lqN_a jl hl⟩, z.2⟩
  · rw [List.mem_append, List.mem_append, hm i]
    exact ⟨fun z => z.symm, fun z => z.symm⟩
  · show 1 ≤ N + cs.length
    omega
  · rw [gd_l (by rw [la]; omega)]; exact gA
/-- end: what waits for the next branch has come to the end already -/
theorem IfX_end {ow : Option Nat} (k : IfX u gl Pc Vm w N lo qh Bd ns js es ow cs) (l : cs2.length = cs.length) (g1 : ∀ i, i < cs.length → ¬ i ∈ es → ¬ ow = some i → cs2.getD i 0 = cs.getD i 0) (g2 : ∀ i, i ∈ es → cs2.getD i 0 = em 3 (nI (cs.length - i))) (g3 : ∀ i, ow = some i → cs2.getD i 0 = em 4 (nI (cs.length - i))) : Stm u gl Pc Vm w N lo (Bd + 1) ns js cs2 ∧ JsT N cs2 qh js := by
  obtain ⟨⟨qsI, kk, hm⟩, jc, jt, g4, jl⟩ := k
  have kk0 := kk
  obtain ⟨⟨k1, k2, k3, k4⟩, _⟩ := kk
  have st := IfK_end kk0 l (fun i hi hn => g1 i hi (fun z => hn (Or.inl (Or.inr z))) (fun z => hn (Or.inr z))) g2 g3
  have jt2 : JsT N cs2 qh js := JsT_o js jt (by omega) (fun i hi => g1 i (JsT_l js jt i hi) (k3 i ((hm i).1 hi)) (fun z => (k4 i z).1 ((hm i).1 hi)))
  exact ⟨Stm_q st hm (JsT_p js jt), jt2⟩
end CXT
