theorem nb_cpy_id {α : Type} (f : Nat → α) (k n : Nat) : va_cpy f f k k n = f := by
  funext j
  unfold va_cpy
  by_cases h : k ≤ j ∧ j < k + n
  · rw [if_pos h, show k + (j - k) = j by omega]
  · rw [if_neg h]
/-- as Met.ofW, for a method with a table of its own -/
theorem nb_ofWH {l : Launch} {y : MethodName} {ws ws' : List Cond} {rm : Room} {Pc : Array Value → State → Prop} {Qc : Array Value → State → Outcome → State → Prop} {mc ms : Nat} {free : Addr → Prop} {cc : ByteArray} {maxL : Nat} {ret : Option FieldType} {hh : List (Nat × Nat × Nat × Nat)} (hy : plainName y.cls = true) (hw : ws = Cond.codeWith y cc maxL ret hh :: ws') (body : ∀ p e s m args below meth c s₁, BodyLoose p l y (headSpec ws rm) cc maxL ret e s m args below meth c s₁ → c.maxLocals = maxL → Pc args s → W p l e (headSpec ws rm).room s m args below meth c s.heap [] 0 0 (MQ below Qc args s mc ms free) (entryFrame m args maxL)) : Met l y ws rm Pc Qc mc ms free := by
  refine MetFree.of_bodyS (code := cc) (maxLocals := maxL) (ret := ret) hy ?_ ?_
  · intro args s m h hn
    obtain ⟨m9, meth, c, hn9, h1, h2, h3, h4, -, h5, h6, -⟩ := Cond.codeWith_spec (atoms_spec (ws := ws) h _ (by rw [hw]; exact List.mem_cons_self))
    cases hn.symm.trans hn9
    exact ⟨meth, c, h1, h2, h3, h4, h5, h6⟩
  · intro p e s m args below meth c s₁ B hml hP _
    have hh0 : s₁.heap = s.heap := by rw [B.state]; rfl
    obtain ⟨t, a1, o, b1, b2, b3⟩ := body p e s m args below meth c s₁ B hml hP s₁ hh0 (Stand.of_body B)
    exact ⟨t, o, a1, b1, b2, b3⟩
def o_k_X7_openUnit : List Cond := [.fieldLink RX7 35 "SetHouse$Program" "entries" "[I", .fieldLink RX7 53 "SetHouse$Program" "size" "I", .fieldLink RX7 38 "SetHouse$Program" "params" "[I", .fieldLink RX7 41 "SetHouse$Program" "modes" "[I", .fieldLink RX7 44 "SetHouse$Program" "variables" "[I", .fieldLink RX7 47 "SetHouse$Program" "counted" "[I", .fieldLink RX7 50 "SetHouse$Program" "frames" "[I", .fieldLink RX7 82 "SetHouse$Program" "passing" "I"]
theorem o_k_X7_openUnit_good : o_k_X7_openUnit.all goodWord = true := by decide +kernel
def p_k_X7_openUnit : List Cond := o_k_X7_openUnit ++ []
theorem p_k_X7_openUnit_good : p_k_X7_openUnit.all goodWord = true := nb_all2 o_k_X7_openUnit_good rfl
def w_k_X7_openUnit : List Cond := .code yX7_openUnit cX7_openUnit 2 none :: (p_k_X7_openUnit ++ fC)
theorem w_k_X7_openUnit_good : w_k_X7_openUnit.all goodWord = true := nb_allc (by decide +kernel) (nb_all2 p_k_X7_openUnit_good fC_good)
theorem in_k_X7_openUnit_X7 : ∀ w ∈ wsX70, w ∈ w_k_X7_openUnit := fun _ h => List.mem_cons_of_mem _ (List.mem_append_right _ (List.mem_append_right _ (List.mem_append_right _ (List.mem_append_right _ (List.mem_append_right _ (List.mem_append_right _ (List.mem_append_right _ (List.mem_append_left _ h))))))))
def v0_k_X7_openUnit (cy : Nat → ClassId) (a : Nat → Nat) : va_W := [((a 0), .inr (6, [.ref (a 7), .int 0, .int 0, .int 0, .int 0, .ref (a 8), .ref (a 9), .ref (a 10), .ref (a 11), .ref (a 12), .ref (a 13), .int 0, .int 0, .ref (a 1), .ref (a 2), .ref (a 3), .ref (a 4), .ref (a 5), .ref (a 6), .int 0])), ((a 1), .inl (cy 1, 42, .inl nZ)), ((a 2), .inl (cy 1, 42, .inl nZ)), ((a 3), .inl (cy 1, 42, .inl nZ)), ((a 4), .inl (cy 1, 42, .inl nZ)), ((a 5), .inl (cy 1, 42, .inl nZ)), ((a 6), .inl (cy 1, 42, .inl nZ))]
def v1_k_X7_openUnit (cy : Nat → ClassId) (a : Nat → Nat) (r : Nat → Nat) : va_W := [((a 0), .inr (6, [.ref (a 7), .int 0, .int 0, .int 0, .int 0, .ref (a 8), .ref (a 9), .ref (a 10), .ref (a 11), .ref (a 12), .ref (a 13), .int 0, .int 0, .ref (a 1), .ref (a 2), .ref (a 3), .ref (a 4), .ref (a 5), .ref (a 6), .int 0])), ((a 1), .inl (cy 1, 42, .inl nZ)), ((a 2), .inl (cy 1, 42, .inl nZ)), ((a 3), .inl (cy 1, 42, .inl nZ)), ((a 4), .inl (cy 1, 42, .inl nZ)), ((a 5), .inl (cy 1, 42, .inl nZ)), ((a 6), .inl (cy 1, 42, .inl nZ))]
set_option maxHeartbeats 40000000 in
set_option maxRecDepth 100000 in
theorem k_X7_openUnit (l : Launch) (dC : Nat → ClassId) (dI : Nat → Nat → Nat) (cy : Nat → ClassId) (k : Nat → Nat) (a : Nat → Nat) (sz : Nat) : Met l yX7_openUnit w_k_X7_openUnit ({ frames := 0, cells := 0, slots := 0, locals := 0 }) (va_Pc [.ref (a 0), .int 0] (nInE (dC, dI) cy k sz (v0_k_X7_openUnit cy a))) (va_Qv (fun _ : Nat → Nat => True) (fun r t => nOut (dC, dI) cy (va_A (v0_k_X7_openUnit cy a) sz) (v1_k_X7_openUnit cy a r) t) (va_A (v0_k_X7_openUnit cy a) sz)) 0 0 (va_A (v0_k_X7_openUnit cy a) sz) := by
  refine Met.ofW (cc := cX7_openUnit) (maxL := 2) (ret := none) (by decide) rfl ?_
  intro p e s m args below meth c s₁ B hml hv
  obtain ⟨rfl, ⟨hsz, hP, hK, hD0, hG⟩, hE⟩ := hv
  have hx := B.exec
  have hb := B.bytes
  have hr := B.returns
  have hts := atoms_spec (ws := w_k_X7_openUnit) B.pre
  have hown : s.vm.findClass RX7 = some m.cls := findClass_of_methodNamed B.named
  have hlocks := B.notSynchronized
  subst hsz
  have hD := hD0.self (sz := s.heap.size)
  generalize hAe : va_A (v0_k_X7_openUnit cy a) s.heap.size = A at hD hE ⊢
  have hA : ∀ q : Nat, s.heap.size ≤ q → A q := fun q h => by rw [← hAe]; exact Or.inr h
  have hS : va_S A s.heap s.heap [] := va_S.rf
  have hP : va_P (dC, dI) nCl (v0_k_X7_openUnit cy a) s.heap := hP
  have hl := lv_entry ([.ref (a 0), .int 0]) (n := 2) (Nat.le_of_ble_eq_true rfl)
  rw [lg_entry_eq]
  generalize (lg_sl ([.ref (a 0), .int 0]) ++ List.replicate (2 - (lg_sl ([.ref (a 0), .int 0])).length) Slot.unset).toArray = ls at hl ⊢
  have hl : lv_has ls 2 [(0, .ref (a 0)), (1, .int 0)] := hl
  have hP : va_P (dC, dI) nCl [((a 0), .inr (6, [.ref (a 7), .int 0, .int 0, .int 0, .int 0, .ref (a 8), .ref (a 9), .ref (a 10), .ref (a 11), .ref (a 12), .ref (a 13), .int 0, .int 0, .ref (a 1), .ref (a 2), .ref (a 3), .ref (a 4), .ref (a 5), .ref (a 6), .int 0])), ((a 1), .inl (cy 1, 42, .inl nZ)), ((a 2), .inl (cy 1, 42, .inl nZ)), ((a 3), .inl (cy 1, 42, .inl nZ)), ((a 4), .inl (cy 1, 42, .inl nZ)), ((a 5), .inl (cy 1, 42, .inl nZ)), ((a 6), .inl (cy 1, 42, .inl nZ))] s.heap := hP
  have hD : va_D A [((a 0), .inr (6, [.ref (a 7), .int 0, .int 0, .int 0, .int 0, .ref (a 8), .ref (a 9), .ref (a 10), .ref (a 11), .ref (a 12), .ref (a 13), .int 0, .int 0, .ref (a 1), .ref (a 2), .ref (a 3), .ref (a 4), .ref (a 5), .ref (a 6), .int 0])), ((a 1), .inl (cy 1, 42, .inl nZ)), ((a 2), .inl (cy 1, 42, .inl nZ)), ((a 3), .inl (cy 1, 42, .inl nZ)), ((a 4), .inl (cy 1, 42, .inl nZ)), ((a 5), .inl (cy 1, 42, .inl nZ)), ((a 6), .inl (cy 1, 42, .inl nZ))] := hD
  refine lv_aload_n hx hb dX7_openUnit_0 rfl (lv_at hl 0 rfl) ?_
  refine va_get (D := (dC, dI)) (ci := 6) (v := .ref (a 1)) (C := RX7) (T := TX7) (N := 20) hx hb hts in_k_X7_openUnit_X7 hown hK hP 0 rfl rfl 13 (by decide) (hts _ (List.mem_cons_of_mem _ (List.mem_append_left _ (List.mem_append_left _ (List.mem_of_getElem? (i := 0) rfl))))) (fun _ h9 => h9) rfl dX7_openUnit_1 ?_
  refine lv_iload_n hx hb dX7_openUnit_4 rfl (lv_at hl 1 rfl) ?_
  refine lv_aload_n hx hb dX7_openUnit_5 rfl (lv_at hl 0 rfl) ?_
  refine va_get (D := (dC, dI)) (ci := 6) (v := .int 0) (C := RX7) (T := TX7) (N := 20) hx hb hts in_k_X7_openUnit_X7 hown hK hP 0 rfl rfl 1 (by decide) (hts _ (List.mem_cons_of_mem _ (List.mem_append_left _ (List.mem_append_left _ (List.mem_of_getElem? (i := 1) rfl))))) (fun _ h9 => h9) rfl dX7_openUnit_6 ?_
  refine nb_iz hx hb hK hP hD hS 1 1 rfl rfl (nb_in (by decide)) dX7_openUnit_9 (fun H locs hP hS => ?_)
  refine lv_aload_n hx hb dX7_openUnit_10 rfl (lv_at hl 0 rfl) ?_
  refine va_get (D := (dC, dI)) (ci := 6) (v := .ref (a 2)) (C := RX7) (T := TX7) (N := 20) hx hb hts in_k_X7_openUnit_X7 hown hK hP 0 rfl rfl 14 (by decide) (hts _ (List.mem_cons_of_mem _ (List.mem_append_left _ (List.mem_append_left _ (List.mem_of_getElem? (i := 2) rfl))))) (fun _ h9 => h9) rfl dX7_openUnit_11 ?_
  refine lv_iload_n hx hb dX7_openUnit_14 rfl (lv_at hl 1 rfl) ?_
  refine lv_iconst (v := 0) hx hb dX7_openUnit_15 (by decide) ?_
  refine nb_iz hx hb hK hP hD hS 2 1 rfl rfl (nb_in (by decide)) dX7_openUnit_16 (fun H locs hP hS => ?_)
  refine lv_aload_n hx hb dX7_openUnit_17 rfl (lv_at hl 0 rfl) ?_
  refine va_get (D := (dC, dI)) (ci := 6) (v := .ref (a 3)) (C := RX7) (T := TX7) (N := 20) hx hb hts in_k_X7_openUnit_X7 hown hK hP 0 rfl rfl 15 (by decide) (hts _ (List.mem_cons_of_mem _ (List.mem_append_left _ (List.mem_append_left _ (List.mem_of_getElem? (i := 3) rfl))))) (fun _ h9 => h9) rfl dX7_openUnit_18 ?_
  refine lv_iload_n hx hb dX7_openUnit_21 rfl (lv_at hl 1 rfl) ?_
  refine lv_iconst (v := 0) hx hb dX7_openUnit_22 (by decide) ?_
  refine nb_iz hx hb hK hP hD hS 3 1 rfl rfl (nb_in (by decide)) dX7_openUnit_23 (fun H locs hP hS => ?_)
  refine lv_aload_n hx hb dX7_openUnit_24 rfl (lv_at hl 0 rfl) ?_
  refine va_get (D := (dC, dI)) (ci := 6) (v := .ref (a 4)) (C := RX7) (T := TX7) (N := 20) hx hb hts in_k_X7_openUnit_X7 hown hK hP 0 rfl rfl 16 (by decide) (hts _ (List.mem_cons_of_mem _ (List.mem_append_left _ (List.mem_append_left _ (List.mem_of_getElem? (i := 4) rfl))))) (fun _ h9 => h9) rfl dX7_openUnit_25 ?_
  refine lv_iload_n hx hb dX7_openUnit_28 rfl (lv_at hl 1 rfl) ?_
  refine lv_iconst (v := 0) hx hb dX7_openUnit_29 (by decide) ?_
  refine nb_iz hx hb hK hP hD hS 4 1 rfl rfl (nb_in (by decide)) dX7_openUnit_30 (fun H locs hP hS => ?_)
  refine lv_aload_n hx hb dX7_openUnit_31 rfl (lv_at hl 0 rfl) ?_
  refine va_get (D := (dC, dI)) (ci := 6) (v := .ref (a 5)) (C := RX7) (T := TX7) (N := 20) hx hb hts in_k_X7_openUnit_X7 hown hK hP 0 rfl rfl 17 (by decide) (hts _ (List.mem_cons_of_mem _ (List.mem_append_left _ (List.mem_append_left _ (List.mem_of_getElem? (i := 5) rfl))))) (fun _ h9 => h9) rfl dX7_openUnit_32 ?_
  refine lv_iload_n hx hb dX7_openUnit_35 rfl (lv_at hl 1 rfl) ?_
  refine lv_iconst (v := 0) hx hb dX7_openUnit_36 (by decide) ?_
  refine nb_iz hx hb hK hP hD hS 5 1 rfl rfl (nb_in (by decide)) dX7_openUnit_37 (fun H locs hP hS => ?_)
  refine lv_aload_n hx hb dX7_openUnit_38 rfl (lv_at hl 0 rfl) ?_
  refine va_get (D := (dC, dI)) (ci := 6) (v := .ref (a 6)) (C := RX7) (T := TX7) (N := 20) hx hb hts in_k_X7_openUnit_X7 hown hK hP 0 rfl rfl 18 (by decide) (hts _ (List.mem_cons_of_mem _ (List.mem_append_left _ (List.mem_append_left _ (List.mem_of_getElem? (i := 6) rfl))))) (fun _ h9 => h9) rfl dX7_openUnit_39 ?_
  refine lv_iload_n hx hb dX7_openUnit_42 rfl (lv_at hl 1 rfl) ?_
  refine lv_iconst (v := 0) hx hb dX7_openUnit_43 (by decide) ?_
  refine nb_iz hx hb hK hP hD hS 6 1 rfl rfl (nb_in (by decide)) dX7_openUnit_44 (fun H locs hP hS => ?_)
  refine lv_aload_n hx hb dX7_openUnit_45 rfl (lv_at hl 0 rfl) ?_
  refine lv_iconst (v := 0) hx hb dX7_openUnit_46 (by decide) ?_
  refine va_put (D := (dC, dI)) (ci := 6) (v := .int 0) (ty := .int) (C := RX7) (T := TX7) (N := 20) hx hb hts in_k_X7_openUnit_X7 tyX7 tyX7_ok nmX7 hown hK hP hD hS 0 rfl rfl 19 (by decide) (hts _ (List.mem_cons_of_mem _ (List.mem_append_left _ (List.mem_append_left _ (List.mem_of_getElem? (i := 7) rfl))))) (fun _ h9 => h9) rfl (by decide +kernel) rfl rfl (Nat.le_of_ble_eq_true rfl) dX7_openUnit_47 (fun H locs hP hD hS => ?_)
  have hP : va_P (dC, dI) nCl [((a 0), .inr (6, [.ref (a 7), .int 0, .int 0, .int 0, .int 0, .ref (a 8), .ref (a 9), .ref (a 10), .ref (a 11), .ref (a 12), .ref (a 13), .int 0, .int 0, .ref (a 1), .ref (a 2), .ref (a 3), .ref (a 4), .ref (a 5), .ref (a 6), .int 0])), ((a 1), .inl (cy 1, 42, .inl nZ)), ((a 2), .inl (cy 1, 42, .inl nZ)), ((a 3), .inl (cy 1, 42, .inl nZ)), ((a 4), .inl (cy 1, 42, .inl nZ)), ((a 5), .inl (cy 1, 42, .inl nZ)), ((a 6), .inl (cy 1, 42, .inl nZ))] H := hP
  have hD : va_D A [((a 0), .inr (6, [.ref (a 7), .int 0, .int 0, .int 0, .int 0, .ref (a 8), .ref (a 9), .ref (a 10), .ref (a 11), .ref (a 12), .ref (a 13), .int 0, .int 0, .ref (a 1), .ref (a 2), .ref (a 3), .ref (a 4), .ref (a 5), .ref (a 6), .int 0])), ((a 1), .inl (cy 1, 42, .inl nZ)), ((a 2), .inl (cy 1, 42, .inl nZ)), ((a 3), .inl (cy 1, 42, .inl nZ)), ((a 4), .inl (cy 1, 42, .inl nZ)), ((a 5), .inl (cy 1, 42, .inl nZ)), ((a 6), .inl (cy 1, 42, .inl nZ))] := hD
  have hP : va_P (dC, dI) nCl (v1_k_X7_openUnit cy a (fun _ => 0)) H := hP
  have hD : va_D A (v1_k_X7_openUnit cy a (fun _ => 0)) := hD
  exact W.vret hx hb hr (fun t ht hW => ⟨⟨(fun _ => 0), rfl, trivial, by rw [ht]; exact hP, va_K.moved hW.alike hK, hD⟩, hS.F ht⟩) hS.2.2 dX7_openUnit_50
def o_k_X7_emptyBehind : List Cond := [.fieldLink RX7 9 "SetHouse$Program" "code" "[I", .fieldLink RX7 53 "SetHouse$Program" "size" "I", .fieldLink RX7 57 "SetHouse$Program" "entry" "I", .fieldLink RX7 60 "SetHouse$Program" "statements" "I", .fieldLink RX7 63 "SetHouse$Program" "procs" "I", .fieldLink RX7 66 "SetHouse$Program" "names" "I", .fieldLink RX7 69 "SetHouse$Program" "units" "I", .methodLink RX7 72 yX7_openUnit, .instanceMethod yX7_openUnit, .selects RX7 yX7_openUnit yX7_openUnit, .initialized RX7]
theorem o_k_X7_emptyBehind_good : o_k_X7_emptyBehind.all goodWord = true := by decide +kernel
def p_k_X7_emptyBehind : List Cond := o_k_X7_emptyBehind ++ ((.code yX7_openUnit cX7_openUnit 2 none :: p_k_X7_openUnit) ++ [])
theorem p_k_X7_emptyBehind_good : p_k_X7_emptyBehind.all goodWord = true := nb_all2 o_k_X7_emptyBehind_good (nb_all2 (nb_allc (by decide +kernel) p_k_X7_openUnit_good) rfl)
def w_k_X7_emptyBehind : List Cond := .code yX7_emptyBehind cX7_emptyBehind 2 none :: (p_k_X7_emptyBehind ++ fC)
theorem w_k_X7_emptyBehind_good : w_k_X7_emptyBehind.all goodWord = true := nb_allc (by decide +kernel) (nb_all2 p_k_X7_emptyBehind_good fC_good)
theorem in_k_X7_emptyBehind_X7 : ∀ w ∈ wsX70, w ∈ w_k_X7_emptyBehind := fun _ h => List.mem_cons_of_mem _ (List.mem_append_right _ (List.mem_append_right _ (List.mem_append_right _ (List.mem_append_right _ (List.mem_append_right _ (List.mem_append_right _ (List.mem_append_right _ (List.mem_append_left _ h))))))))
theorem gg_k_X7_emptyBehind_k_X7_openUnit : GoodIn w_k_X7_emptyBehind w_k_X7_openUnit := goodIn_sub (fun w h => (List.mem_cons.mp h).elim (fun e => (List.mem_cons_of_mem _ (List.mem_append_left _ (List.mem_append_right _ (List.mem_append_left _ (List.mem_cons.mpr (Or.inl e))))))) (fun h => (List.mem_append.mp h).elim (fun h => (List.mem_cons_of_mem _ (List.mem_append_left _ (List.mem_append_right _ (List.mem_append_left _ (List.mem_cons_of_mem _ h)))))) (fun h => List.mem_cons_of_mem _ (List.mem_append_right _ h)))) w_k_X7_openUnit_good
theorem g_k_X7_emptyBehind_72_k_X7_openUnit : GoodIn w_k_X7_emptyBehind (wsV RX7 72 RX7 yX7_openUnit w_k_X7_openUnit) := goodIn_app (nb_g4 (List.mem_cons_of_mem _ (List.mem_append_left _ (List.mem_append_left _ (List.mem_of_getElem? (i := 7) rfl)))) (List.mem_cons_of_mem _ (List.mem_append_left _ (List.mem_append_left _ (List.mem_of_getElem? (i := 8) rfl)))) (List.mem_cons_of_mem _ (List.mem_append_left _ (List.mem_append_left _ (List.mem_of_getElem? (i := 9) rfl)))) (List.mem_cons_of_mem _ (List.mem_append_left _ (List.mem_append_left _ (List.mem_of_getElem? (i := 10) rfl)))) (by decide +kernel)) gg_k_X7_emptyBehind_k_X7_openUnit
def v0_k_X7_emptyBehind (cy : Nat → ClassId) (a : Nat → Nat) : va_W := [((a 0), .inr (6, [.ref (a 8), .int 0, .int 0, .int 0, .int 0, .ref (a 9), .ref (a 10), .ref (a 11), .ref (a 12), .ref (a 13), .ref (a 14), .int 0, .int 0, .ref (a 2), .ref (a 3), .ref (a 4), .ref (a 5), .ref (a 6), .ref (a 7), .int 0])), ((a 2), .inl (cy 1, 42, .inl nZ)), ((a 3), .inl (cy 1, 42, .inl nZ)), ((a 4), .inl (cy 1, 42, .inl nZ)), ((a 5), .inl (cy 1, 42, .inl nZ)), ((a 6), .inl (cy 1, 42, .inl nZ)), ((a 7), .inl (cy 1, 42, .inl nZ)), ((a 1), .inr (6, [.ref (a 15), .int 0, .int 0, .int 0, .int 0, .ref (a 16), .ref (a 17), .ref (a 18), .ref (a 19), .ref (a 20), .ref (a 21), .int 0, .int 0, .ref (a 22), .ref (a 23), .ref (a 24), .ref (a 25), .ref (a 26), .ref (a 27), .int 0]))]
def v1_k_X7_emptyBehind (cy : Nat → ClassId) (a : Nat → Nat) (r : Nat → Nat) : va_W := [((a 1), .inr (6, [.ref (a 15), .int 0, .int 0, .int 0, .int 0, .ref (a 16), .ref (a 17), .ref (a 18), .ref (a 19), .ref (a 20), .ref (a 21), .int 0, .int 0, .ref (a 22), .ref (a 23), .ref (a 24), .ref (a 25), .ref (a 26), .ref (a 27), .int 0])), ((a 0), .inr (6, [.ref (a 15), .int 0, .int 0, .int 0, .int 0, .ref (a 9), .ref (a 10), .ref (a 11), .ref (a 12), .ref (a 13), .ref (a 14), .int 0, .int 0, .ref (a 2), .ref (a 3), .ref (a 4), .ref (a 5), .ref (a 6), .ref (a 7), .int 0])), ((a 2), .inl (cy 1, 42, .inl nZ)), ((a 3), .inl (cy 1, 42, .inl nZ)), ((a 4), .inl (cy 1, 42, .inl nZ)), ((a 5), .inl (cy 1, 42, .inl nZ)), ((a 6), .inl (cy 1, 42, .inl nZ)), ((a 7), .inl (cy 1, 42, .inl nZ))]
set_option maxHeartbeats 40000000 in
set_option maxRecDepth 100000 in
theorem k_X7_emptyBehind (l : Launch) (dC : Nat → ClassId) (dI : Nat → Nat → Nat) (cy : Nat → ClassId) (k : Nat → Nat) (a : Nat → Nat) (sz : Nat) : Met l yX7_emptyBehind w_k_X7_emptyBehind ({ frames := 1, cells := 0, slots := 0, locals := 21 }) (va_Pc [.ref (a 0), .ref (a 1)] (nInE (dC, dI) cy k sz (v0_k_X7_emptyBehind cy a))) (va_Qv (fun _ : Nat → Nat => True) (fun r t => nOut (dC, dI) cy (va_A (v0_k_X7_emptyBehind cy a) sz) (v1_k_X7_emptyBehind cy a r) t) (va_A (v0_k_X7_emptyBehind cy a) sz)) 0 0 (va_A (v0_k_X7_emptyBehind cy a) sz) := by
  refine Met.ofW (cc := cX7_emptyBehind) (maxL := 2) (ret := none) (by decide) rfl ?_
  intro p e s m args below meth c s₁ B hml hv
  obtain ⟨rfl, ⟨hsz, hP, hK, hD0, hG⟩, hE⟩ := hv
  have hx := B.exec
  have hb := B.bytes
  have hr := B.returns
  have hts := atoms_spec (ws := w_k_X7_emptyBehind) B.pre
  have hown : s.vm.findClass RX7 = some m.cls := findClass_of_methodNamed B.named
  have hlocks := B.notSynchronized
  subst hsz
  have hD := hD0.self (sz := s.heap.size)
  generalize hAe : va_A (v0_k_X7_emptyBehind cy a) s.heap.size = A at hD hE ⊢
  have hA : ∀ q : Nat, s.heap.size ≤ q → A q := fun q h => by rw [← hAe]; exact Or.inr h
  have hS : va_S A s.heap s.heap [] := va_S.rf
  have hP : va_P (dC, dI) nCl (v0_k_X7_emptyBehind cy a) s.heap := hP
  have hl := lv_entry ([.ref (a 0), .ref (a 1)]) (n := 2) (Nat.le_of_ble_eq_true rfl)
  rw [lg_entry_eq]
  generalize (lg_sl ([.ref (a 0), .ref (a 1)]) ++ List.replicate (2 - (lg_sl ([.ref (a 0), .ref (a 1)])).length) Slot.unset).toArray = ls at hl ⊢
  have hl : lv_has ls 2 [(0, .ref (a 0)), (1, .ref (a 1))] := hl
  have hP : va_P (dC, dI) nCl [((a 0), .inr (6, [.ref (a 8), .int 0, .int 0, .int 0, .int 0, .ref (a 9), .ref (a 10), .ref (a 11), .ref (a 12), .ref (a 13), .ref (a 14), .int 0, .int 0, .ref (a 2), .ref (a 3), .ref (a 4), .ref (a 5), .ref (a 6), .ref (a 7), .int 0])), ((a 2), .inl (cy 1, 42, .inl nZ)), ((a 3), .inl (cy 1, 42, .inl nZ)), ((a 4), .inl (cy 1, 42, .inl nZ)), ((a 5), .inl (cy 1, 42, .inl nZ)), ((a 6), .inl (cy 1, 42, .inl nZ)), ((a 7), .inl (cy 1, 42, .inl nZ)), ((a 1), .inr (6, [.ref (a 15), .int 0, .int 0, .int 0, .int 0, .ref (a 16), .ref (a 17), .ref (a 18), .ref (a 19), .ref (a 20), .ref (a 21), .int 0, .int 0, .ref (a 22), .ref (a 23), .ref (a 24), .ref (a 25), .ref (a 26), .ref (a 27), .int 0]))] s.heap := hP
  have hD : va_D A [((a 0), .inr (6, [.ref (a 8), .int 0, .int 0, .int 0, .int 0, .ref (a 9), .ref (a 10), .ref (a 11), .ref (a 12), .ref (a 13), .ref (a 14), .int 0, .int 0, .ref (a 2), .ref (a 3), .ref (a 4), .ref (a 5), .ref (a 6), .ref (a 7), .int 0])), ((a 2), .inl (cy 1, 42, .inl nZ)), ((a 3), .inl (cy 1, 42, .inl nZ)), ((a 4), .inl (cy 1, 42, .inl nZ)), ((a 5), .inl (cy 1, 42, .inl nZ)), ((a 6), .inl (cy 1, 42, .inl nZ)), ((a 7), .inl (cy 1, 42, .inl nZ)), ((a 1), .inr (6, [.ref (a 15), .int 0, .int 0, .int 0, .int 0, .ref (a 16), .ref (a 17), .ref (a 18), .ref (a 19), .ref (a 20), .ref (a 21), .int 0, .int 0, .ref (a 22), .ref (a 23), .ref (a 24), .ref (a 25), .ref (a 26), .ref (a 27), .int 0]))] := hD
  refine lv_aload_n hx hb dX7_emptyBehind_0 rfl (lv_at hl 0 rfl) ?_
  refine lv_aload_n hx hb dX7_emptyBehind_1 rfl (lv_at hl 1 rfl) ?_
  refine va_get (D := (dC, dI)) (ci := 6) (v := .ref (a 15)) (C := RX7) (T := TX7) (N := 20) hx hb hts in_k_X7_emptyBehind_X7 hown hK hP 7 rfl rfl 0 (by decide) (hts _ (List.mem_cons_of_mem _ (List.mem_append_left _ (List.mem_append_left _ (List.mem_of_getElem? (i := 0) rfl))))) (fun _ h9 => h9) rfl dX7_emptyBehind_2 ?_
  refine va_put (D := (dC, dI)) (ci := 6) (v := .ref (a 15)) (ty := .array .int) (C := RX7) (T := TX7) (N := 20) hx hb hts in_k_X7_emptyBehind_X7 tyX7 tyX7_ok nmX7 hown hK hP hD hS 0 rfl rfl 0 (by decide) (hts _ (List.mem_cons_of_mem _ (List.mem_append_left _ (List.mem_append_left _ (List.mem_of_getElem? (i := 0) rfl))))) (fun _ h9 => h9) rfl (by decide +kernel) rfl rfl (Nat.le_of_ble_eq_true rfl) dX7_emptyBehind_5 (fun H locs hP hD hS => ?_)
  have hP : va_P (dC, dI) nCl [((a 0), .inr (6, [.ref (a 15), .int 0, .int 0, .int 0, .int 0, .ref (a 9), .ref (a 10), .ref (a 11), .ref (a 12), .ref (a 13), .ref (a 14), .int 0, .int 0, .ref (a 2), .ref (a 3), .ref (a 4), .ref (a 5), .ref (a 6), .ref (a 7), .int 0])), ((a 2), .inl (cy 1, 42, .inl nZ)), ((a 3), .inl (cy 1, 42, .inl nZ)), ((a 4), .inl (cy 1, 42, .inl nZ)), ((a 5), .inl (cy 1, 42, .inl nZ)), ((a 6), .inl (cy 1, 42, .inl nZ)), ((a 7), .inl (cy 1, 42, .inl nZ)), ((a 1), .inr (6, [.ref (a 15), .int 0, .int 0, .int 0, .int 0, .ref (a 16), .ref (a 17), .ref (a 18), .ref (a 19), .ref (a 20), .ref (a 21), .int 0, .int 0, .ref (a 22), .ref (a 23), .ref (a 24), .ref (a 25), .ref (a 26), .ref (a 27), .int 0]))] H := hP
  have hD : va_D A [((a 0), .inr (6, [.ref (a 15), .int 0, .int 0, .int 0, .int 0, .ref (a 9), .ref (a 10), .ref (a 11), .ref (a 12), .ref (a 13), .ref (a 14), .int 0, .int 0, .ref (a 2), .ref (a 3), .ref (a 4), .ref (a 5), .ref (a 6), .ref (a 7), .int 0])), ((a 2), .inl (cy 1, 42, .inl nZ)), ((a 3), .inl (cy 1, 42, .inl nZ)), ((a 4), .inl (cy 1, 42, .inl nZ)), ((a 5), .inl (cy 1, 42, .inl nZ)), ((a 6), .inl (cy 1, 42, .inl nZ)), ((a 7), .inl (cy 1, 42, .inl nZ)), ((a 1), .inr (6, [.ref (a 15), .int 0, .int 0, .int 0, .int 0, .ref (a 16), .ref (a 17), .ref (a 18), .ref (a 19), .ref (a 20), .ref (a 21), .int 0, .int 0, .ref (a 22), .ref (a 23), .ref (a 24), .ref (a 25), .ref (a 26), .ref (a 27), .int 0]))] := hD
  refine lv_aload_n hx hb dX7_emptyBehind_8 rfl (lv_at hl 0 rfl) ?_
  refine lv_aload_n hx hb dX7_emptyBehind_9 rfl (lv_at hl 1 rfl) ?_
  refine va_get (D := (dC, dI)) (ci := 6) (v := .int 0) (C := RX7) (T := TX7) (N := 20) hx hb hts in_k_X7_emptyBehind_X7 hown hK hP 7 rfl rfl 1 (by decide) (hts _ (List.mem_cons_of_mem _ (List.mem_append_left _ (List.mem_append_left _ (List.mem_of_getElem? (i := 1) rfl))))) (fun _ h9 => h9) rfl dX7_emptyBehind_10 ?_
  refine va_put (D := (dC, dI)) (ci := 6) (v := .int 0) (ty := .int) (C := RX7) (T := TX7) (N := 20) hx hb hts in_k_X7_emptyBehind_X7 tyX7 tyX7_ok nmX7 hown hK hP hD hS 0 rfl rfl 1 (by decide) (hts _ (List.mem_cons_of_mem _ (List.mem_append_left _ (List.mem_append_left _ (List.mem_of_getElem? (i := 1) rfl))))) (fun _ h9 => h9) rfl (by decide +kernel) rfl rfl (Nat.le_of_ble_eq_true rfl) dX7_emptyBehind_13 (fun H locs hP hD hS => ?_)
  have hP : va_P (dC, dI) nCl [((a 0), .inr (6, [.ref (a 15), .int 0, .int 0, .int 0, .int 0, .ref (a 9), .ref (a 10), .ref (a 11), .ref (a 12), .ref (a 13), .ref (a 14), .int 0, .int 0, .ref (a 2), .ref (a 3), .ref (a 4), .ref (a 5), .ref (a 6), .ref (a 7), .int 0])), ((a 2), .inl (cy 1, 42, .inl nZ)), ((a 3), .inl (cy 1, 42, .inl nZ)), ((a 4), .inl (cy 1, 42, .inl nZ)), ((a 5), .inl (cy 1, 42, .inl nZ)), ((a 6), .inl (cy 1, 42, .inl nZ)), ((a 7), .inl (cy 1, 42, .inl nZ)), ((a 1), .inr (6, [.ref (a 15), .int 0, .int 0, .int 0, .int 0, .ref (a 16), .ref (a 17), .ref (a 18), .ref (a 19), .ref (a 20), .ref (a 21), .int 0, .int 0, .ref (a 22), .ref (a 23), .ref (a 24), .ref (a 25), .ref (a 26), .ref (a 27), .int 0]))] H := hP
  have hD : va_D A [((a 0), .inr (6, [.ref (a 15), .int 0, .int 0, .int 0, .int 0, .ref (a 9), .ref (a 10), .ref (a 11), .ref (a 12), .ref (a 13), .ref (a 14), .int 0, .int 0, .ref (a 2), .ref (a 3), .ref (a 4), .ref (a 5), .ref (a 6), .ref (a 7), .int 0])), ((a 2), .inl (cy 1, 42, .inl nZ)), ((a 3), .inl (cy 1, 42, .inl nZ)), ((a 4), .inl (cy 1, 42, .inl nZ)), ((a 5), .inl (cy 1, 42, .inl nZ)), ((a 6), .inl (cy 1, 42, .inl nZ)), ((a 7), .inl (cy 1, 42, .inl nZ)), ((a 1), .inr (6, [.ref (a 15), .int 0, .int 0, .int 0, .int 0, .ref (a 16), .ref (a 17), .ref (a 18), .ref (a 19), .ref (a 20), .ref (a 21), .int 0, .int 0, .ref (a 22), .ref (a 23), .ref (a 24), .ref (a 25), .ref (a 26), .ref (a 27), .int 0]))] := hD
  refine lv_aload_n hx hb dX7_emptyBehind_16 rfl (lv_at hl 0 rfl) ?_
  refine lv_aload_n hx hb dX7_emptyBehind_17 rfl (lv_at hl 1 rfl) ?_
  refine va_get (D := (dC, dI)) (ci := 6) (v := .int 0) (C := RX7) (T := TX7) (N := 20) hx hb hts in_k_X7_emptyBehind_X7 hown hK hP 7 rfl rfl 1 (by decide) (hts _ (List.mem_cons_of_mem _ (List.mem_append_left _ (List.mem_append_left _ (List.mem_of_getElem? (i := 1) rfl))))) (fun _ h9 => h9) rfl dX7_emptyBehind_18 ?_
  refine va_put (D := (dC, dI)) (ci := 6) (v := .int 0) (ty := .int) (C := RX7) (T := TX7) (N := 20) hx hb hts in_k_X7_emptyBehind_X7 tyX7 tyX7_ok nmX7 hown hK hP hD hS 0 rfl rfl 2 (by decide) (hts _ (List.mem_cons_of_mem _ (List.mem_append_left _ (List.mem_append_left _ (List.mem_of_getElem? (i := 2) rfl))))) (fun _ h9 => h9) rfl (by decide +kernel) rfl rfl (Nat.le_of_ble_eq_true rfl) dX7_emptyBehind_21 (fun H locs hP hD hS => ?_)
  have hP : va_P (dC, dI) nCl [((a 0), .inr (6, [.ref (a 15), .int 0, .int 0, .int 0, .int 0, .ref (a 9), .ref (a 10), .ref (a 11), .ref (a 12), .ref (a 13), .ref (a 14), .int 0, .int 0, .ref (a 2), .ref (a 3), .ref (a 4), .ref (a 5), .ref (a 6), .ref (a 7), .int 0])), ((a 2), .inl (cy 1, 42, .inl nZ)), ((a 3), .inl (cy 1, 42, .inl nZ)), ((a 4), .inl (cy 1, 42, .inl nZ)), ((a 5), .inl (cy 1, 42, .inl nZ)), ((a 6), .inl (cy 1, 42, .inl nZ)), ((a 7), .inl (cy 1, 42, .inl nZ)), ((a 1), .inr (6, [.ref (a 15), .int 0, .int 0, .int 0, .int 0, .ref (a 16), .ref (a 17), .ref (a 18), .ref (a 19), .ref (a 20), .ref (a 21), .int 0, .int 0, .ref (a 22), .ref (a 23), .ref (a 24), .ref (a 25), .ref (a 26), .ref (a 27), .int 0]))] H := hP
  have hD : va_D A [((a 0), .inr (6, [.ref (a 15), .int 0, .int 0, .int 0, .int 0, .ref (a 9), .ref (a 10), .ref (a 11), .ref (a 12), .ref (a 13), .ref (a 14), .int 0, .int 0, .ref (a 2), .ref (a 3), .ref (a 4), .ref (a 5), .ref (a 6), .ref (a 7), .int 0])), ((a 2), .inl (cy 1, 42, .inl nZ)), ((a 3), .inl (cy 1, 42, .inl nZ)), ((a 4), .inl (cy 1, 42, .inl nZ)), ((a 5), .inl (cy 1, 42, .inl nZ)), ((a 6), .inl (cy 1, 42, .inl nZ)), ((a 7), .inl (cy 1, 42, .inl nZ)), ((a 1), .inr (6, [.ref (a 15), .int 0, .int 0, .int 0, .int 0, .ref (a 16), .ref (a 17), .ref (a 18), .ref (a 19), .ref (a 20), .ref (a 21), .int 0, .int 0, .ref (a 22), .ref (a 23), .ref (a 24), .ref (a 25), .ref (a 26), .ref (a 27), .int 0]))] := hD
  refine lv_aload_n hx hb dX7_emptyBehind_24 rfl (lv_at hl 0 rfl) ?_
  refine lv_iconst (v := 0) hx hb dX7_emptyBehind_25 (by decide) ?_
  refine va_put (D := (dC, dI)) (ci := 6) (v := .int 0) (ty := .int) (C := RX7) (T := TX7) (N := 20) hx hb hts in_k_X7_emptyBehind_X7 tyX7 tyX7_ok nmX7 hown hK hP hD hS 0 rfl rfl 3 (by decide) (hts _ (List.mem_cons_of_mem _ (List.mem_append_left _ (List.mem_append_left _ (List.mem_of_getElem? (i := 3) rfl))))) (fun _ h9 => h9) rfl (by decide +kernel) rfl rfl (Nat.le_of_ble_eq_true rfl) dX7_emptyBehind_26 (fun H locs hP hD hS => ?_)
  have hP : va_P (dC, dI) nCl [((a 0), .inr (6, [.ref (a 15), .int 0, .int 0, .int 0, .int 0, .ref (a 9), .ref (a 10), .ref (a 11), .ref (a 12), .ref (a 13), .ref (a 14), .int 0, .int 0, .ref (a 2), .ref (a 3), .ref (a 4), .ref (a 5), .ref (a 6), .ref (a 7), .int 0])), ((a 2), .inl (cy 1, 42, .inl nZ)), ((a 3), .inl (cy 1, 42, .inl nZ)), ((a 4), .inl (cy 1, 42, .inl nZ)), ((a 5), .inl (cy 1, 42, .inl nZ)), ((a 6), .inl (cy 1, 42, .inl nZ)), ((a 7), .inl (cy 1, 42, .inl nZ)), ((a 1), .inr (6, [.ref (a 15), .int 0, .int 0, .int 0, .int 0, .ref (a 16), .ref (a 17), .ref (a 18), .ref (a 19), .ref (a 20), .ref (a 21), .int 0, .int 0, .ref (a 22), .ref (a 23), .ref (a 24), .ref (a 25), .ref (a 26), .ref (a 27), .int 0]))] H := hP
  have hD : va_D A [((a 0), .inr (6, [.ref (a 15), .int 0, .int 0, .int 0, .int 0, .ref (a 9), .ref (a 10), .ref (a 11), .ref (a 12), .ref (a 13), .ref (a 14), .int 0, .int 0, .ref (a 2), .ref (a 3), .ref (a 4), .ref (a 5), .ref (a 6), .ref (a 7), .int 0])), ((a 2), .inl (cy 1, 42, .inl nZ)), ((a 3), .inl (cy 1, 42, .inl nZ)), ((a 4), .inl (cy 1, 42, .inl nZ)), ((a 5), .inl (cy 1, 42, .inl nZ)), ((a 6), .inl (cy 1, 42, .inl nZ)), ((a 7), .inl (cy 1, 42, .inl nZ)), ((a 1), .inr (6, [.ref (a 15), .int 0, .int 0, .int 0, .int 0, .ref (a 16), .ref (a 17), .ref (a 18), .ref (a 19), .ref (a 20), .ref (a 21), .int 0, .int 0, .ref (a 22), .ref (a 23), .ref (a 24), .ref (a 25), .ref (a 26), .ref (a 27), .int 0]))] := hD
  refine lv_aload_n hx hb dX7_emptyBehind_29 rfl (lv_at hl 0 rfl) ?_
  refine lv_iconst (v := 0) hx hb dX7_emptyBehind_30 (by decide) ?_
  refine va_put (D := (dC, dI)) (ci := 6) (v := .int 0) (ty := .int) (C := RX7) (T := TX7) (N := 20) hx hb hts in_k_X7_emptyBehind_X7 tyX7 tyX7_ok nmX7 hown hK hP hD hS 0 rfl rfl 4 (by decide) (hts _ (List.mem_cons_of_mem _ (List.mem_append_left _ (List.mem_append_left _ (List.mem_of_getElem? (i := 4) rfl))))) (fun _ h9 => h9) rfl (by decide +kernel) rfl rfl (Nat.le_of_ble_eq_true rfl) dX7_emptyBehind_31 (fun H locs hP hD hS => ?_)
  have hP : va_P (dC, dI) nCl [((a 0), .inr (6, [.ref (a 15), .int 0, .int 0, .int 0, .int 0, .ref (a 9), .ref (a 10), .ref (a 11), .ref (a 12), .ref (a 13), .ref (a 14), .int 0, .int 0, .ref (a 2), .ref (a 3), .ref (a 4), .ref (a 5), .ref (a 6), .ref (a 7), .int 0])), ((a 2), .inl (cy 1, 42, .inl nZ)), ((a 3), .inl (cy 1, 42, .inl nZ)), ((a 4), .inl (cy 1, 42, .inl nZ)), ((a 5), .inl (cy 1, 42, .inl nZ)), ((a 6), .inl (cy 1, 42, .inl nZ)), ((a 7), .inl (cy 1, 42, .inl nZ)), ((a 1), .inr (6, [.ref (a 15), .int 0, .int 0, .int 0, .int 0, .ref (a 16), .ref (a 17), .ref (a 18), .ref (a 19), .ref (a 20), .ref (a 21), .int 0, .int 0, .ref (a 22), .ref (a 23), .ref (a 24), .ref (a 25), .ref (a 26), .ref (a 27), .int 0]))] H := hP
  have hD : va_D A [((a 0), .inr (6, [.ref (a 15), .int 0, .int 0, .int 0, .int 0, .ref (a 9), .ref (a 10), .ref (a 11), .ref (a 12), .ref (a 13), .ref (a 14), .int 0, .int 0, .ref (a 2), .ref (a 3), .ref (a 4), .ref (a 5), .ref (a 6), .ref (a 7), .int 0])), ((a 2), .inl (cy 1, 42, .inl nZ)), ((a 3), .inl (cy 1, 42, .inl nZ)), ((a 4), .inl (cy 1, 42, .inl nZ)), ((a 5), .inl (cy 1, 42, .inl nZ)), ((a 6), .inl (cy 1, 42, .inl nZ)), ((a 7), .inl (cy 1, 42, .inl nZ)), ((a 1), .inr (6, [.ref (a 15), .int 0, .int 0, .int 0, .int 0, .ref (a 16), .ref (a 17), .ref (a 18), .ref (a 19), .ref (a 20), .ref (a 21), .int 0, .int 0, .ref (a 22), .ref (a 23), .ref (a 24), .ref (a 25), .ref (a 26), .ref (a 27), .int 0]))] := hD
  refine lv_aload_n hx hb dX7_emptyBehind_34 rfl (lv_at hl 0 rfl) ?_
  refine lv_iconst (v := 0) hx hb dX7_emptyBehind_35 (by decide) ?_
  refine va_put (D := (dC, dI)) (ci := 6) (v := .int 0) (ty := .int) (C := RX7) (T := TX7) (N := 20) hx hb hts in_k_X7_emptyBehind_X7 tyX7 tyX7_ok nmX7 hown hK hP hD hS 0 rfl rfl 11 (by decide) (hts _ (List.mem_cons_of_mem _ (List.mem_append_left _ (List.mem_append_left _ (List.mem_of_getElem? (i := 5) rfl))))) (fun _ h9 => h9) rfl (by decide +kernel) rfl rfl (Nat.le_of_ble_eq_true rfl) dX7_emptyBehind_36 (fun H locs hP hD hS => ?_)
  have hP : va_P (dC, dI) nCl [((a 0), .inr (6, [.ref (a 15), .int 0, .int 0, .int 0, .int 0, .ref (a 9), .ref (a 10), .ref (a 11), .ref (a 12), .ref (a 13), .ref (a 14), .int 0, .int 0, .ref (a 2), .ref (a 3), .ref (a 4), .ref (a 5), .ref (a 6), .ref (a 7), .int 0])), ((a 2), .inl (cy 1, 42, .inl nZ)), ((a 3), .inl (cy 1, 42, .inl nZ)), ((a 4), .inl (cy 1, 42, .inl nZ)), ((a 5), .inl (cy 1, 42, .inl nZ)), ((a 6), .inl (cy 1, 42, .inl nZ)), ((a 7), .inl (cy 1, 42, .inl nZ)), ((a 1), .inr (6, [.ref (a 15), .int 0, .int 0, .int 0, .int 0, .ref (a 16), .ref (a 17), .ref (a 18), .ref (a 19), .ref (a 20), .ref (a 21), .int 0, .int 0, .ref (a 22), .ref (a 23), .ref (a 24), .ref (a 25), .ref (a 26), .ref (a 27), .int 0]))] H := hP
  have hD : va_D A [((a 0), .inr (6, [.ref (a 15), .int 0, .int 0, .int 0, .int 0, .ref (a 9), .ref (a 10), .ref (a 11), .ref (a 12), .ref (a 13), .ref (a 14), .int 0, .int 0, .ref (a 2), .ref (a 3), .ref (a 4), .ref (a 5), .ref (a 6), .ref (a 7), .int 0])), ((a 2), .inl (cy 1, 42, .inl nZ)), ((a 3), .inl (cy 1, 42, .inl nZ)), ((a 4), .inl (cy 1, 42, .inl nZ)), ((a 5), .inl (cy 1, 42, .inl nZ)), ((a 6), .inl (cy 1, 42, .inl nZ)), ((a 7), .inl (cy 1, 42, .inl nZ)), ((a 1), .inr (6, [.ref (a 15), .int 0, .int 0, .int 0, .int 0, .ref (a 16), .ref (a 17), .ref (a 18), .ref (a 19), .ref (a 20), .ref (a 21), .int 0, .int 0, .ref (a 22), .ref (a 23), .ref (a 24), .ref (a 25), .ref (a 26), .ref (a 27), .int 0]))] := hD
  refine lv_aload_n hx hb dX7_emptyBehind_39 rfl (lv_at hl 0 rfl) ?_
  refine lv_iconst (v := 0) hx hb dX7_emptyBehind_40 (by decide) ?_
  refine va_put (D := (dC, dI)) (ci := 6) (v := .int 0) (ty := .int) (C := RX7) (T := TX7) (N := 20) hx hb hts in_k_X7_emptyBehind_X7 tyX7 tyX7_ok nmX7 hown hK hP hD hS 0 rfl rfl 12 (by decide) (hts _ (List.mem_cons_of_mem _ (List.mem_append_left _ (List.mem_append_left _ (List.mem_of_getElem? (i := 6) rfl))))) (fun _ h9 => h9) rfl (by decide +kernel) rfl rfl (Nat.le_of_ble_eq_true rfl) dX7_emptyBehind_41 (fun H locs hP hD hS => ?_)
  have hP : va_P (dC, dI) nCl [((a 0), .inr (6, [.ref (a 15), .int 0, .int 0, .int 0, .int 0, .ref (a 9), .ref (a 10), .ref (a 11), .ref (a 12), .ref (a 13), .ref (a 14), .int 0, .int 0, .ref (a 2), .ref (a 3), .ref (a 4), .ref (a 5), .ref (a 6), .ref (a 7), .int 0])), ((a 2), .inl (cy 1, 42, .inl nZ)), ((a 3), .inl (cy 1, 42, .inl nZ)), ((a 4), .inl (cy 1, 42, .inl nZ)), ((a 5), .inl (cy 1, 42, .inl nZ)), ((a 6), .inl (cy 1, 42, .inl nZ)), ((a 7), .inl (cy 1, 42, .inl nZ)), ((a 1), .inr (6, [.ref (a 15), .int 0, .int 0, .int 0, .int 0, .ref (a 16), .ref (a 17), .ref (a 18), .ref (a 19), .ref (a 20), .ref (a 21), .int 0, .int 0, .ref (a 22), .ref (a 23), .ref (a 24), .ref (a 25), .ref (a 26), .ref (a 27), .int 0]))] H := hP
  have hD : va_D A [((a 0), .inr (6, [.ref (a 15), .int 0, .int 0, .int 0, .int 0, .ref (a 9), .ref (a 10), .ref (a 11), .ref (a 12), .ref (a 13), .ref (a 14), .int 0, .int 0, .ref (a 2), .ref (a 3), .ref (a 4), .ref (a 5), .ref (a 6), .ref (a 7), .int 0])), ((a 2), .inl (cy 1, 42, .inl nZ)), ((a 3), .inl (cy 1, 42, .inl nZ)), ((a 4), .inl (cy 1, 42, .inl nZ)), ((a 5), .inl (cy 1, 42, .inl nZ)), ((a 6), .inl (cy 1, 42, .inl nZ)), ((a 7), .inl (cy 1, 42, .inl nZ)), ((a 1), .inr (6, [.ref (a 15), .int 0, .int 0, .int 0, .int 0, .ref (a 16), .ref (a 17), .ref (a 18), .ref (a 19), .ref (a 20), .ref (a 21), .int 0, .int 0, .ref (a 22), .ref (a 23), .ref (a 24), .ref (a 25), .ref (a 26), .ref (a 27), .int 0]))] := hD
  refine lv_aload_n hx hb dX7_emptyBehind_44 rfl (lv_at hl 0 rfl) ?_
  refine lv_iconst (v := 0) hx hb dX7_emptyBehind_45 (by decide) ?_
  have hPc := hP.sub (ws' := [((a 0), .inr (6, [.ref (a 15), .int 0, .int 0, .int 0, .int 0, .ref (a 9), .ref (a 10), .ref (a 11), .ref (a 12), .ref (a 13), .ref (a 14), .int 0, .int 0, .ref (a 2), .ref (a 3), .ref (a 4), .ref (a 5), .ref (a 6), .ref (a 7), .int 0])), ((a 2), .inl (cy 1, 42, .inl nZ)), ((a 3), .inl (cy 1, 42, .inl nZ)), ((a 4), .inl (cy 1, 42, .inl nZ)), ((a 5), .inl (cy 1, 42, .inl nZ)), ((a 6), .inl (cy 1, 42, .inl nZ)), ((a 7), .inl (cy 1, 42, .inl nZ))]) [0, 1, 2, 3, 4, 5, 6] rfl
  have hPc : va_P (dC, dI) nCl (v0_k_X7_openUnit cy (fun j9 => [(a 0), (a 2), (a 3), (a 4), (a 5), (a 6), (a 7), (a 15), (a 9), (a 10), (a 11), (a 12), (a 13), (a 14)].getD j9 0)) H := hPc
  have hDc := hD.sub (ws' := [((a 0), .inr (6, [.ref (a 15), .int 0, .int 0, .int 0, .int 0, .ref (a 9), .ref (a 10), .ref (a 11), .ref (a 12), .ref (a 13), .ref (a 14), .int 0, .int 0, .ref (a 2), .ref (a 3), .ref (a 4), .ref (a 5), .ref (a 6), .ref (a 7), .int 0])), ((a 2), .inl (cy 1, 42, .inl nZ)), ((a 3), .inl (cy 1, 42, .inl nZ)), ((a 4), .inl (cy 1, 42, .inl nZ)), ((a 5), .inl (cy 1, 42, .inl nZ)), ((a 6), .inl (cy 1, 42, .inl nZ)), ((a 7), .inl (cy 1, 42, .inl nZ))]) [0, 1, 2, 3, 4, 5, 6] (by decide) rfl
  have hDc : va_D A (v0_k_X7_openUnit cy (fun j9 => [(a 0), (a 2), (a 3), (a 4), (a 5), (a 6), (a 7), (a 15), (a 9), (a 10), (a 11), (a 12), (a 13), (a 14)].getD j9 0)) := hDc
  have hFc := va_free (wc := (v0_k_X7_openUnit cy (fun j9 => [(a 0), (a 2), (a 3), (a 4), (a 5), (a 6), (a 7), (a 15), (a 9), (a 10), (a 11), (a 12), (a 13), (a 14)].getD j9 0))) hD hS hA [0, 1, 2, 3, 4, 5, 6] rfl
  refine va_callv (va_runV (As := [.int 0]) (rest := []) ⟨hx, hb, hml, hown, hts⟩ (k_X7_openUnit l dC dI cy k (fun j9 => [(a 0), (a 2), (a 3), (a 4), (a 5), (a 6), (a 7), (a 15), (a 9), (a 10), (a 11), (a 12), (a 13), (a 14)].getD j9 0) H.size) (cwV 1 hts g_k_X7_emptyBehind_72_k_X7_openUnit rfl rfl rfl (by decide +kernel) ⟨Nat.le_of_ble_eq_true rfl, Nat.le_of_ble_eq_true rfl⟩) ⟨nb_blindE, va_recv hK hPc (ci := 6) (q0 := 0) rfl rfl, fun U hU hW => ⟨rfl, ⟨by rw [hU], by rw [hU]; exact hPc, va_K.moved hW.alike hK, hDc.weaken (fun _ _ _ _ => trivial), hG.warm hW⟩, nE.to hE hS hW hU hFc⟩⟩ rfl rfl hl.1 rfl (lv_room (Nat.le_of_ble_eq_true rfl)) dX7_emptyBehind_46 ⟨Nat.le_of_ble_eq_true rfl, Nat.le_of_ble_eq_true rfl⟩) hS (fun q _ h => hFc q h) hFc (fun u1 t H1 locs ht hvm hw hB hz1 hk1 hS => ?_)
  obtain ⟨hP1, hK1, hD1⟩ := hB
  rw [ht] at hP1
  obtain ⟨hP, hD⟩ := va_join (wr := [((a 1), .inr (6, [.ref (a 15), .int 0, .int 0, .int 0, .int 0, .ref (a 16), .ref (a 17), .ref (a 18), .ref (a 19), .ref (a 20), .ref (a 21), .int 0, .int 0, .ref (a 22), .ref (a 23), .ref (a 24), .ref (a 25), .ref (a 26), .ref (a 27), .int 0]))]) (w1 := v1_k_X7_openUnit cy (fun j9 => [(a 0), (a 2), (a 3), (a 4), (a 5), (a 6), (a 7), (a 15), (a 9), (a 10), (a 11), (a 12), (a 13), (a 14)].getD j9 0) u1) hP hD [0, 1, 2, 3, 4, 5, 6] [7] rfl rfl (by decide) (by decide) hk1 hFc hP1 hD1
  generalize H1 = H at hP hS ⊢
  have hP : va_P (dC, dI) nCl [((a 1), .inr (6, [.ref (a 15), .int 0, .int 0, .int 0, .int 0, .ref (a 16), .ref (a 17), .ref (a 18), .ref (a 19), .ref (a 20), .ref (a 21), .int 0, .int 0, .ref (a 22), .ref (a 23), .ref (a 24), .ref (a 25), .ref (a 26), .ref (a 27), .int 0])), ((a 0), .inr (6, [.ref (a 15), .int 0, .int 0, .int 0, .int 0, .ref (a 9), .ref (a 10), .ref (a 11), .ref (a 12), .ref (a 13), .ref (a 14), .int 0, .int 0, .ref (a 2), .ref (a 3), .ref (a 4), .ref (a 5), .ref (a 6), .ref (a 7), .int 0])), ((a 2), .inl (cy 1, 42, .inl nZ)), ((a 3), .inl (cy 1, 42, .inl nZ)), ((a 4), .inl (cy 1, 42, .inl nZ)), ((a 5), .inl (cy 1, 42, .inl nZ)), ((a 6), .inl (cy 1, 42, .inl nZ)), ((a 7), .inl (cy 1, 42, .inl nZ))] H := hP
  have hD : va_D A [((a 1), .inr (6, [.ref (a 15), .int 0, .int 0, .int 0, .int 0, .ref (a 16), .ref (a 17), .ref (a 18), .ref (a 19), .ref (a 20), .ref (a 21), .int 0, .int 0, .ref (a 22), .ref (a 23), .ref (a 24), .ref (a 25), .ref (a 26), .ref (a 27), .int 0])), ((a 0), .inr (6, [.ref (a 15), .int 0, .int 0, .int 0, .int 0, .ref (a 9), .ref (a 10), .ref (a 11), .ref (a 12), .ref (a 13), .ref (a 14), .int 0, .int 0, .ref (a 2), .ref (a 3), .ref (a 4), .ref (a 5), .ref (a 6), .ref (a 7), .int 0])), ((a 2), .inl (cy 1, 42, .inl nZ)), ((a 3), .inl (cy 1, 42, .inl nZ)), ((a 4), .inl (cy 1, 42, .inl nZ)), ((a 5), .inl (cy 1, 42, .inl nZ)), ((a 6), .inl (cy 1, 42, .inl nZ)), ((a 7), .inl (cy 1, 42, .inl nZ))] := hD
  have hP : va_P (dC, dI) nCl (v1_k_X7_emptyBehind cy a (fun _ => 0)) H := hP
  have hD : va_D A (v1_k_X7_emptyBehind cy a (fun _ => 0)) := hD
  exact W.vret hx hb hr (fun t ht hW => ⟨⟨(fun _ => 0), rfl, trivial, by rw [ht]; exact hP, va_K.moved hW.alike hK, hD⟩, hS.F ht⟩) hS.2.2 dX7_emptyBehind_49
def o_k_X11_widenedBytes : List Cond := []
theorem o_k_X11_widenedBytes_good : o_k_X11_widenedBytes.all goodWord = true := by decide +kernel
def p_k_X11_widenedBytes : List Cond := o_k_X11_widenedBytes ++ []
theorem p_k_X11_widenedBytes_good : p_k_X11_widenedBytes.all goodWord = true := nb_all2 o_k_X11_widenedBytes_good rfl
def w_k_X11_widenedBytes : List Cond := .code yX11_widenedBytes cX11_widenedBytes 3 (some (.array .byte)) :: (p_k_X11_widenedBytes ++ fC)
theorem w_k_X11_widenedBytes_good : w_k_X11_widenedBytes.all goodWord = true := nb_allc (by decide +kernel) (nb_all2 p_k_X11_widenedBytes_good fC_good)
def v0_k_X11_widenedBytes (cy : Nat → ClassId) (a : Nat → Nat) : va_W := [((a 0), .inl (cy 0, 1024, .inl nZ))]
def v1_k_X11_widenedBytes (cy : Nat → ClassId) (a : Nat → Nat) (r : Nat → Nat) : va_W := [((a 0), .inl (cy 0, 1024, .inl nZ))]
set_option maxHeartbeats 40000000 in
set_option maxRecDepth 100000 in
theorem k_X11_widenedBytes (l : Launch) (dC : Nat → ClassId) (dI : Nat → Nat → Nat) (cy : Nat → ClassId) (k : Nat → Nat) (a : Nat → Nat) (sz : Nat) : Met l yX11_widenedBytes w_k_X11_widenedBytes ({ frames := 0, cells := 0, slots := 0, locals := 0 }) (va_Pc [.ref (a 0), .int 2, .int 10242] (nInE (dC, dI) cy k sz (v0_k_X11_widenedBytes cy a))) (va_Qr (fun _ : Nat → Nat => True) (fun r q t => q = (a 0) ∧ nOut (dC, dI) cy (va_A (v0_k_X11_widenedBytes cy a) sz) (v1_k_X11_widenedBytes cy a r) t) (va_A (v0_k_X11_widenedBytes cy a) sz)) 0 0 (va_A (v0_k_X11_widenedBytes cy a) sz) := by
  refine Met.ofW (cc := cX11_widenedBytes) (maxL := 3) (ret := (some (.array .byte))) (by decide) rfl ?_
  intro p e s m args below meth c s₁ B hml hv
  obtain ⟨rfl, ⟨hsz, hP, hK, hD0, hG⟩, hE⟩ := hv
  have hx := B.exec
  have hb := B.bytes
  have hr := B.returns
  have hts := atoms_spec (ws := w_k_X11_widenedBytes) B.pre
  have hown : s.vm.findClass RX11 = some m.cls := findClass_of_methodNamed B.named
  have hlocks := B.notSynchronized
  subst hsz
  have hD := hD0.self (sz := s.heap.size)
  generalize hAe : va_A (v0_k_X11_widenedBytes cy a) s.heap.size = A at hD hE ⊢
  have hA : ∀ q : Nat, s.heap.size ≤ q → A q := fun q h => by rw [← hAe]; exact Or.inr h
  have hS : va_S A s.heap s.heap [] := va_S.rf
  have hP : va_P (dC, dI) nCl (v0_k_X11_widenedBytes cy a) s.heap := hP
  have hl := lv_entry ([.ref (a 0), .int 2, .int 10242]) (n := 3) (Nat.le_of_ble_eq_true rfl)
  rw [lg_entry_eq]
  generalize (lg_sl ([.ref (a 0), .int 2, .int 10242]) ++ List.replicate (3 - (lg_sl ([.ref (a 0), .int 2, .int 10242])).length) Slot.unset).toArray = ls at hl ⊢
  have hl : lv_has ls 3 [(0, .ref (a 0)), (1, .int 2), (2, .int 10242)] := hl
  have hP : va_P (dC, dI) nCl [((a 0), .inl (cy 0, 1024, .inl nZ))] s.heap := hP
  have hD : va_D A [((a 0), .inl (cy 0, 1024, .inl nZ))] := hD
  refine lv_iload_n hx hb dX11_widenedBytes_0 rfl (lv_at hl 1 rfl) ?_
  refine lv_aload_n hx hb dX11_widenedBytes_1 rfl (lv_at hl 0 rfl) ?_
  refine va_alen hx hb hK hP 0 0 rfl rfl (v := 1024) rfl dX11_widenedBytes_2 ?_
  refine lv_icmp_le (tgt := 20) hx hb dX11_widenedBytes_3 (by decide) (fun _ => ?_) (fun c1 => False.elim (by revert c1; decide))
  refine lv_aload_n hx hb dX11_widenedBytes_20 rfl (lv_at hl 0 rfl) ?_
  have hP : va_P (dC, dI) nCl (v1_k_X11_widenedBytes cy a (fun _ => 0)) s.heap := hP
  have hD : va_D A (v1_k_X11_widenedBytes cy a (fun _ => 0)) := hD
  exact W.aret hx hb hr (Or.inr ⟨_, rfl⟩) (Or.inr ⟨_, rfl⟩) (fun t ht hW => ⟨⟨(fun _ => 0), (a 0), rfl, trivial, rfl, by rw [ht]; exact hP, va_K.moved hW.alike hK, hD⟩, hS.F ht⟩) hS.2.2 dX11_widenedBytes_21
def o_k_X2_widen : List Cond := [.fieldLink RX2 11 "SetHouse$Lexer" "tape" "[B", .initialized RX11, .static yX11_widenedBytes]
theorem o_k_X2_widen_good : o_k_X2_widen.all goodWord = true := by decide +kernel
def p_k_X2_widen : List Cond := o_k_X2_widen ++ ((.code yX11_widenedBytes cX11_widenedBytes 3 (some (.array .byte)) :: p_k_X11_widenedBytes) ++ [])
theorem p_k_X2_widen_good : p_k_X2_widen.all goodWord = true := nb_all2 o_k_X2_widen_good (nb_all2 (nb_allc (by decide +kernel) p_k_X11_widenedBytes_good) rfl)
def w_k_X2_widen : List Cond := .code yX2_widen cX2_widen 2 none :: (p_k_X2_widen ++ fC)
theorem w_k_X2_widen_good : w_k_X2_widen.all goodWord = true := nb_allc (by decide +kernel) (nb_all2 p_k_X2_widen_good fC_good)
theorem in_k_X2_widen_X2 : ∀ w ∈ wsX20, w ∈ w_k_X2_widen := fun _ h => List.mem_cons_of_mem _ (List.mem_append_right _ (List.mem_append_right _ (List.mem_append_right _ (List.mem_append_left _ h))))
theorem gg_k_X2_widen_k_X11_widenedBytes : GoodIn w_k_X2_widen w_k_X11_widenedBytes := goodIn_sub (fun w h => (List.mem_cons.mp h).elim (fun e => (List.mem_cons_of_mem _ (List.mem_append_left _ (List.mem_append_right _ (List.mem_append_left _ (List.mem_cons.mpr (Or.inl e))))))) (fun h => (List.mem_append.mp h).elim (fun h => (List.mem_cons_of_mem _ (List.mem_append_left _ (List.mem_append_right _ (List.mem_append_left _ (List.mem_cons_of_mem _ h)))))) (fun h => List.mem_cons_of_mem _ (List.mem_append_right _ h)))) w_k_X11_widenedBytes_good
theorem g_k_X2_widen_39_k_X11_widenedBytes : GoodIn w_k_X2_widen w_k_X11_widenedBytes := gg_k_X2_widen_k_X11_widenedBytes
def v0_k_X2_widen (cy : Nat → ClassId) (a : Nat → Nat) : va_W := [((a 0), .inr (2, [.ref (a 1), .int 0, .int 0, .int 0, .int 0, .long 0, .long 0, .ref (a 2)])), ((a 1), .inl (cy 0, 1024, .inl nZ))]
def v1_k_X2_widen (cy : Nat → ClassId) (a : Nat → Nat) (r : Nat → Nat) : va_W := [((a 0), .inr (2, [.ref (a 1), .int 0, .int 0, .int 0, .int 0, .long 0, .long 0, .ref (a 2)])), ((a 1), .inl (cy 0, 1024, .inl nZ))]
set_option maxHeartbeats 40000000 in
set_option maxRecDepth 100000 in
theorem k_X2_widen (l : Launch) (dC : Nat → ClassId) (dI : Nat → Nat → Nat) (cy : Nat → ClassId) (k : Nat → Nat) (a : Nat → Nat) (sz : Nat) : Met l yX2_widen w_k_X2_widen ({ frames := 1, cells := 0, slots := 0, locals := 22 }) (va_Pc [.ref (a 0), .int 2] (nInE (dC, dI) cy k sz (v0_k_X2_widen cy a))) (va_Qv (fun _ : Nat → Nat => True) (fun r t => nOut (dC, dI) cy (va_A (v0_k_X2_widen cy a) sz) (v1_k_X2_widen cy a r) t) (va_A (v0_k_X2_widen cy a) sz)) 0 0 (va_A (v0_k_X2_widen cy a) sz) := by
  refine Met.ofW (cc := cX2_widen) (maxL := 2) (ret := none) (by decide) rfl ?_
  intro p e s m args below meth c s₁ B hml hv
  obtain ⟨rfl, ⟨hsz, hP, hK, hD0, hG⟩, hE⟩ := hv
  have hx := B.exec
  have hb := B.bytes
  have hr := B.returns
  have hts := atoms_spec (ws := w_k_X2_widen) B.pre
  have hown : s.vm.findClass RX2 = some m.cls := findClass_of_methodNamed B.named
  have hlocks := B.notSynchronized
  subst hsz
  have hD := hD0.self (sz := s.heap.size)
  generalize hAe : va_A (v0_k_X2_widen cy a) s.heap.size = A at hD hE ⊢
  have hA : ∀ q : Nat, s.heap.size ≤ q → A q := fun q h => by rw [← hAe]; exact Or.inr h
  have hS : va_S A s.heap s.heap [] := va_S.rf
  have hP : va_P (dC, dI) nCl (v0_k_X2_widen cy a) s.heap := hP
  have hl := lv_entry ([.ref (a 0), .int 2]) (n := 2) (Nat.le_of_ble_eq_true rfl)
  rw [lg_entry_eq]
  generalize (lg_sl ([.ref (a 0), .int 2]) ++ List.replicate (2 - (lg_sl ([.ref (a 0), .int 2])).length) Slot.unset).toArray = ls at hl ⊢
  have hl : lv_has ls 2 [(0, .ref (a 0)), (1, .int 2)] := hl
  have hP : va_P (dC, dI) nCl [((a 0), .inr (2, [.ref (a 1), .int 0, .int 0, .int 0, .int 0, .long 0, .long 0, .ref (a 2)])), ((a 1), .inl (cy 0, 1024, .inl nZ))] s.heap := hP
  have hD : va_D A [((a 0), .inr (2, [.ref (a 1), .int 0, .int 0, .int 0, .int 0, .long 0, .long 0, .ref (a 2)])), ((a 1), .inl (cy 0, 1024, .inl nZ))] := hD
  refine lv_aload_n hx hb dX2_widen_0 rfl (lv_at hl 0 rfl) ?_
  refine lv_aload_n hx hb dX2_widen_1 rfl (lv_at hl 0 rfl) ?_
  refine va_get (D := (dC, dI)) (ci := 2) (v := .ref (a 1)) (C := RX2) (T := TX2) (N := 8) hx hb hts in_k_X2_widen_X2 hown hK hP 0 rfl rfl 0 (by decide) (hts _ (List.mem_cons_of_mem _ (List.mem_append_left _ (List.mem_append_left _ (List.mem_of_getElem? (i := 0) rfl))))) (fun _ h9 => h9) rfl dX2_widen_2 ?_
  refine lv_iload_n hx hb dX2_widen_5 rfl (lv_at hl 1 rfl) ?_
  refine lv_iload_n hx hb dX2_widen_6 rfl (lv_at hl 1 rfl) ?_
  refine lv_sipush (v := 10242) hx hb dX2_widen_7 (by decide) ?_
  refine lv_icmp_gt (tgt := 19) hx hb dX2_widen_10 (by decide) (fun c1 => False.elim (by revert c1; decide)) (fun _ => ?_)
  refine lv_sipush (v := 10242) hx hb dX2_widen_13 (by decide) ?_
  refine lv_goto (tgt := 21) hx hb dX2_widen_16 (by decide) ?_
  have hPc := hP.sub (ws' := [((a 1), .inl (cy 0, 1024, .inl nZ))]) [1] rfl
  have hPc : va_P (dC, dI) nCl (v0_k_X11_widenedBytes cy (fun j9 => [(a 1)].getD j9 0)) s.heap := hPc
  have hDc := hD.sub (ws' := [((a 1), .inl (cy 0, 1024, .inl nZ))]) [1] (by decide) rfl
  have hDc : va_D A (v0_k_X11_widenedBytes cy (fun j9 => [(a 1)].getD j9 0)) := hDc
  have hFc := va_free (wc := (v0_k_X11_widenedBytes cy (fun j9 => [(a 1)].getD j9 0))) hD hS hA [1] rfl
  refine va_callr (va_runSN (As := [.ref (a 1), .int 2, .int 10242]) (rest := [.ref (a 0)]) ⟨hx, hb, hml, hown, hts⟩ (k_X11_widenedBytes l dC dI cy k (fun j9 => [(a 1)].getD j9 0) s.heap.size) ⟨va_cnB 3 hts g_k_X2_widen_39_k_X11_widenedBytes rfl rfl rfl (hG.1 _ (List.mem_of_getElem? (i := 95) rfl)) (hts _ (List.mem_cons_of_mem _ (List.mem_append_left _ (List.mem_append_left _ (List.mem_of_getElem? (i := 1) rfl))))) (by decide +kernel) ⟨Nat.le_of_ble_eq_true rfl, Nat.le_of_ble_eq_true rfl⟩, (hts _ (List.mem_cons_of_mem _ (List.mem_append_left _ (List.mem_append_left _ (List.mem_of_getElem? (i := 2) rfl))))), trivial⟩ ⟨nb_blindE, fun U hU hW => ⟨rfl, ⟨by rw [hU], by rw [hU]; exact hPc, va_K.moved hW.alike hK, hDc.weaken (fun _ _ _ _ => trivial), hG.warm hW⟩, nE.to hE hS hW hU hFc⟩⟩ rfl rfl hl.1 rfl (lv_room (Nat.le_of_ble_eq_true rfl)) dX2_widen_21 ⟨Nat.le_of_ble_eq_true rfl, Nat.le_of_ble_eq_true rfl⟩) hS (fun q _ h => hFc q h) hFc (fun u1 r_1 t H1 locs ht hvm hw hB hz1 hk1 hS => ?_)
  obtain ⟨hra, hP1, hK1, hD1⟩ := hB
  subst hra
  rw [ht] at hP1
  obtain ⟨hP, hD⟩ := va_join (wr := [((a 0), .inr (2, [.ref (a 1), .int 0, .int 0, .int 0, .int 0, .long 0, .long 0, .ref (a 2)]))]) (w1 := v1_k_X11_widenedBytes cy (fun j9 => [(a 1)].getD j9 0) u1) hP hD [1] [0] rfl rfl (by decide) (by decide) hk1 hFc hP1 hD1
  generalize H1 = H at hP hS ⊢
  have hP : va_P (dC, dI) nCl [((a 0), .inr (2, [.ref (a 1), .int 0, .int 0, .int 0, .int 0, .long 0, .long 0, .ref (a 2)])), ((a 1), .inl (cy 0, 1024, .inl nZ))] H := hP
  have hD : va_D A [((a 0), .inr (2, [.ref (a 1), .int 0, .int 0, .int 0, .int 0, .long 0, .long 0, .ref (a 2)])), ((a 1), .inl (cy 0, 1024, .inl nZ))] := hD
  refine va_put (D := (dC, dI)) (ci := 2) (v := .ref (a 1)) (ty := .array .byte) (C := RX2) (T := TX2) (N := 8) hx hb hts in_k_X2_widen_X2 tyX2 tyX2_ok nmX2 hown hK hP hD hS 0 rfl rfl 0 (by decide) (hts _ (List.mem_cons_of_mem _ (List.mem_append_left _ (List.mem_append_left _ (List.mem_of_getElem? (i := 0) rfl))))) (fun _ h9 => h9) rfl (by decide +kernel) rfl rfl (Nat.le_of_ble_eq_true rfl) dX2_widen_24 (fun H locs hP hD hS => ?_)
  have hP : va_P (dC, dI) nCl [((a 0), .inr (2, [.ref (a 1), .int 0, .int 0, .int 0, .int 0, .long 0, .long 0, .ref (a 2)])), ((a 1), .inl (cy 0, 1024, .inl nZ))] H := hP
  have hD : va_D A [((a 0), .inr (2, [.ref (a 1), .int 0, .int 0, .int 0, .int 0, .long 0, .long 0, .ref (a 2)])), ((a 1), .inl (cy 0, 1024, .inl nZ))] := hD
  have hP : va_P (dC, dI) nCl (v1_k_X2_widen cy a (fun _ => 0)) H := hP
  have hD : va_D A (v1_k_X2_widen cy a (fun _ => 0)) := hD
  exact W.vret hx hb hr (fun t ht hW => ⟨⟨(fun _ => 0), rfl, trivial, by rw [ht]; exact hP, va_K.moved hW.alike hK, hD⟩, hS.F ht⟩) hS.2.2 dX2_widen_27
def o_k_X2_rewind : List Cond := [.fieldLink RX2 31 "SetHouse$Lexer" "length" "I", .methodLink RX2 34 yX2_widen, .instanceMethod yX2_widen, .selects RX2 yX2_widen yX2_widen, .initialized RX2, .fieldLink RX2 11 "SetHouse$Lexer" "tape" "[B", .fieldLink RX2 43 "SetHouse$Lexer" "end" "I"]
theorem o_k_X2_rewind_good : o_k_X2_rewind.all goodWord = true := by decide +kernel
def p_k_X2_rewind : List Cond := o_k_X2_rewind ++ ((.code yX2_widen cX2_widen 2 none :: p_k_X2_widen) ++ [])
theorem p_k_X2_rewind_good : p_k_X2_rewind.all goodWord = true := nb_all2 o_k_X2_rewind_good (nb_all2 (nb_allc (by decide +kernel) p_k_X2_widen_good) rfl)
def w_k_X2_rewind : List Cond := .code yX2_rewind cX2_rewind 1 none :: (p_k_X2_rewind ++ fC)
theorem w_k_X2_rewind_good : w_k_X2_rewind.all goodWord = true := nb_allc (by decide +kernel) (nb_all2 p_k_X2_rewind_good fC_good)
theorem in_k_X2_rewind_X2 : ∀ w ∈ wsX20, w ∈ w_k_X2_rewind := fun _ h => List.mem_cons_of_mem _ (List.mem_append_right _ (List.mem_append_right _ (List.mem_append_right _ (List.mem_append_left _ h))))
theorem gg_k_X2_rewind_k_X2_widen : GoodIn w_k_X2_rewind w_k_X2_widen := goodIn_sub (fun w h => (List.mem_cons.mp h).elim (fun e => (List.mem_cons_of_mem _ (List.mem_append_left _ (List.mem_append_right _ (List.mem_append_left _ (List.mem_cons.mpr (Or.inl e))))))) (fun h => (List.mem_append.mp h).elim (fun h => (List.mem_cons_of_mem _ (List.mem_append_left _ (List.mem_append_right _ (List.mem_append_left _ (List.mem_cons_of_mem _ h)))))) (fun h => List.mem_cons_of_mem _ (List.mem_append_right _ h)))) w_k_X2_widen_good
theorem g_k_X2_rewind_34_k_X2_widen : GoodIn w_k_X2_rewind (wsV RX2 34 RX2 yX2_widen w_k_X2_widen) := goodIn_app (nb_g4 (List.mem_cons_of_mem _ (List.mem_append_left _ (List.mem_append_left _ (List.mem_of_getElem? (i := 1) rfl)))) (List.mem_cons_of_mem _ (List.mem_append_left _ (List.mem_append_left _ (List.mem_of_getElem? (i := 2) rfl)))) (List.mem_cons_of_mem _ (List.mem_append_left _ (List.mem_append_left _ (List.mem_of_getElem? (i := 3) rfl)))) (List.mem_cons_of_mem _ (List.mem_append_left _ (List.mem_append_left _ (List.mem_of_getElem? (i := 4) rfl)))) (by decide +kernel)) gg_k_X2_rewind_k_X2_widen
def v0_k_X2_rewind (cy : Nat → ClassId) (a : Nat → Nat) : va_W := [((a 0), .inr (2, [.ref (a 1), .int 0, .int 0, .int 0, .int 0, .long 0, .long 0, .ref (a 2)])), ((a 1), .inl (cy 0, 1024, .inl nZ))]
def v1_k_X2_rewind (cy : Nat → ClassId) (a : Nat → Nat) (r : Nat → Nat) : va_W := [((a 0), .inr (2, [.ref (a 1), .int 0, .int 0, .int 0, .int 0, .long 0, .long 0, .ref (a 2)])), ((a 1), .inl (cy 0, 1024, .inl nZ))]
set_option maxHeartbeats 40000000 in
set_option maxRecDepth 100000 in
theorem k_X2_rewind (l : Launch) (dC : Nat → ClassId) (dI : Nat → Nat → Nat) (cy : Nat → ClassId) (k : Nat → Nat) (a : Nat → Nat) (sz : Nat) : Met l yX2_rewind w_k_X2_rewind ({ frames := 2, cells := 0, slots := 0, locals := 43 }) (va_Pc [.ref (a 0)] (nInE (dC, dI) cy k sz (v0_k_X2_rewind cy a))) (va_Qv (fun _ : Nat → Nat => True) (fun r t => nOut (dC, dI) cy (va_A (v0_k_X2_rewind cy a) sz) (v1_k_X2_rewind cy a r) t) (va_A (v0_k_X2_rewind cy a) sz)) 0 0 (va_A (v0_k_X2_rewind cy a) sz) := by
  refine Met.ofW (cc := cX2_rewind) (maxL := 1) (ret := none) (by decide) rfl ?_
  intro p e s m args below meth c s₁ B hml hv
  obtain ⟨rfl, ⟨hsz, hP, hK, hD0, hG⟩, hE⟩ := hv
  have hx := B.exec
  have hb := B.bytes
  have hr := B.returns
  have hts := atoms_spec (ws := w_k_X2_rewind) B.pre
  have hown : s.vm.findClass RX2 = some m.cls := findClass_of_methodNamed B.named
  have hlocks := B.notSynchronized
  subst hsz
  have hD := hD0.self (sz := s.heap.size)
  generalize hAe : va_A (v0_k_X2_rewind cy a) s.heap.size = A at hD hE ⊢
  have hA : ∀ q : Nat, s.heap.size ≤ q → A q := fun q h => by rw [← hAe]; exact Or.inr h
  have hS : va_S A s.heap s.heap [] := va_S.rf
  have hP : va_P (dC, dI) nCl (v0_k_X2_rewind cy a) s.heap := hP
  have hl := lv_entry ([.ref (a 0)]) (n := 1) (Nat.le_of_ble_eq_true rfl)
  rw [lg_entry_eq]
  generalize (lg_sl ([.ref (a 0)]) ++ List.replicate (1 - (lg_sl ([.ref (a 0)])).length) Slot.unset).toArray = ls at hl ⊢
  have hl : lv_has ls 1 [(0, .ref (a 0))] := hl
  have hP : va_P (dC, dI) nCl [((a 0), .inr (2, [.ref (a 1), .int 0, .int 0, .int 0, .int 0, .long 0, .long 0, .ref (a 2)])), ((a 1), .inl (cy 0, 1024, .inl nZ))] s.heap := hP
  have hD : va_D A [((a 0), .inr (2, [.ref (a 1), .int 0, .int 0, .int 0, .int 0, .long 0, .long 0, .ref (a 2)])), ((a 1), .inl (cy 0, 1024, .inl nZ))] := hD
  refine lv_aload_n hx hb dX2_rewind_0 rfl (lv_at hl 0 rfl) ?_
  refine lv_aload_n hx hb dX2_rewind_1 rfl (lv_at hl 0 rfl) ?_
  refine va_get (D := (dC, dI)) (ci := 2) (v := .int 0) (C := RX2) (T := TX2) (N := 8) hx hb hts in_k_X2_rewind_X2 hown hK hP 0 rfl rfl 1 (by decide) (hts _ (List.mem_cons_of_mem _ (List.mem_append_left _ (List.mem_append_left _ (List.mem_of_getElem? (i := 0) rfl))))) (fun _ h9 => h9) rfl dX2_rewind_2 ?_
  refine lv_iconst (v := 2) hx hb dX2_rewind_5 (by decide) ?_
  refine lv_iadd hx hb dX2_rewind_6 ?_
  refine W.eq (g2 := F0 m 7 ls [.int 2, .ref (a 0)]) rfl ?_
  have hPc := hP.sub (ws' := [((a 0), .inr (2, [.ref (a 1), .int 0, .int 0, .int 0, .int 0, .long 0, .long 0, .ref (a 2)])), ((a 1), .inl (cy 0, 1024, .inl nZ))]) [0, 1] rfl
  have hPc : va_P (dC, dI) nCl (v0_k_X2_widen cy (fun j9 => [(a 0), (a 1), (a 2)].getD j9 0)) s.heap := hPc
  have hDc := hD.sub (ws' := [((a 0), .inr (2, [.ref (a 1), .int 0, .int 0, .int 0, .int 0, .long 0, .long 0, .ref (a 2)])), ((a 1), .inl (cy 0, 1024, .inl nZ))]) [0, 1] (by decide) rfl
  have hDc : va_D A (v0_k_X2_widen cy (fun j9 => [(a 0), (a 1), (a 2)].getD j9 0)) := hDc
  have hFc := va_free (wc := (v0_k_X2_widen cy (fun j9 => [(a 0), (a 1), (a 2)].getD j9 0))) hD hS hA [0, 1] rfl
  refine va_callv (va_runV (As := [.int 2]) (rest := []) ⟨hx, hb, hml, hown, hts⟩ (k_X2_widen l dC dI cy k (fun j9 => [(a 0), (a 1), (a 2)].getD j9 0) s.heap.size) (cwV 1 hts g_k_X2_rewind_34_k_X2_widen rfl rfl rfl (by decide +kernel) ⟨Nat.le_of_ble_eq_true rfl, Nat.le_of_ble_eq_true rfl⟩) ⟨nb_blindE, va_recv hK hPc (ci := 2) (q0 := 0) rfl rfl, fun U hU hW => ⟨rfl, ⟨by rw [hU], by rw [hU]; exact hPc, va_K.moved hW.alike hK, hDc.weaken (fun _ _ _ _ => trivial), hG.warm hW⟩, nE.to hE hS hW hU hFc⟩⟩ rfl rfl hl.1 rfl (lv_room (Nat.le_of_ble_eq_true rfl)) dX2_rewind_7 ⟨Nat.le_of_ble_eq_true rfl, Nat.le_of_ble_eq_true rfl⟩) hS (fun q _ h => hFc q h) hFc (fun u1 t H1 locs ht hvm hw hB hz1 hk1 hS => ?_)
  obtain ⟨hP1, hK1, hD1⟩ := hB
  rw [ht] at hP1
  obtain ⟨hP, hD⟩ := va_join (wr := []) (w1 := v1_k_X2_widen cy (fun j9 => [(a 0), (a 1), (a 2)].getD j9 0) u1) hP hD [0, 1] [] rfl rfl (by decide) (by decide) hk1 hFc hP1 hD1
  generalize H1 = H at hP hS ⊢
  have hP : va_P (dC, dI) nCl [((a 0), .inr (2, [.ref (a 1), .int 0, .int 0, .int 0, .int 0, .long 0, .long 0, .ref (a 2)])), ((a 1), .inl (cy 0, 1024, .inl nZ))] H := hP
  have hD : va_D A [((a 0), .inr (2, [.ref (a 1), .int 0, .int 0, .int 0, .int 0, .long 0, .long 0, .ref (a 2)])), ((a 1), .inl (cy 0, 1024, .inl nZ))] := hD
  refine lv_aload_n hx hb dX2_rewind_10 rfl (lv_at hl 0 rfl) ?_
  refine va_get (D := (dC, dI)) (ci := 2) (v := .ref (a 1)) (C := RX2) (T := TX2) (N := 8) hx hb hts in_k_X2_rewind_X2 hown hK hP 0 rfl rfl 0 (by decide) (hts _ (List.mem_cons_of_mem _ (List.mem_append_left _ (List.mem_append_left _ (List.mem_of_getElem? (i := 5) rfl))))) (fun _ h9 => h9) rfl dX2_rewind_11 ?_
  refine lv_aload_n hx hb dX2_rewind_14 rfl (lv_at hl 0 rfl) ?_
  refine va_get (D := (dC, dI)) (ci := 2) (v := .int 0) (C := RX2) (T := TX2) (N := 8) hx hb hts in_k_X2_rewind_X2 hown hK hP 0 rfl rfl 1 (by decide) (hts _ (List.mem_cons_of_mem _ (List.mem_append_left _ (List.mem_append_left _ (List.mem_of_getElem? (i := 0) rfl))))) (fun _ h9 => h9) rfl dX2_rewind_15 ?_
  refine lv_iconst (v := 0) hx hb dX2_rewind_18 (by decide) ?_
  refine va_bast hx hb hK hP hD hS 1 0 rfl rfl (nb_in (by decide)) dX2_rewind_19 (fun H locs hP hD hS => ?_)
  have e9 : upd nZ (Int32.toNatClampNeg 0) (vp_nar .byte 0) = nZ := nZ_upd _
  rw [e9] at hP hD
  have hP : va_P (dC, dI) nCl [((a 0), .inr (2, [.ref (a 1), .int 0, .int 0, .int 0, .int 0, .long 0, .long 0, .ref (a 2)])), ((a 1), .inl (cy 0, 1024, .inl nZ))] H := hP
  have hD : va_D A [((a 0), .inr (2, [.ref (a 1), .int 0, .int 0, .int 0, .int 0, .long 0, .long 0, .ref (a 2)])), ((a 1), .inl (cy 0, 1024, .inl nZ))] := hD
  refine lv_aload_n hx hb dX2_rewind_20 rfl (lv_at hl 0 rfl) ?_
  refine va_get (D := (dC, dI)) (ci := 2) (v := .ref (a 1)) (C := RX2) (T := TX2) (N := 8) hx hb hts in_k_X2_rewind_X2 hown hK hP 0 rfl rfl 0 (by decide) (hts _ (List.mem_cons_of_mem _ (List.mem_append_left _ (List.mem_append_left _ (List.mem_of_getElem? (i := 5) rfl))))) (fun _ h9 => h9) rfl dX2_rewind_21 ?_
  refine lv_aload_n hx hb dX2_rewind_24 rfl (lv_at hl 0 rfl) ?_
  refine va_get (D := (dC, dI)) (ci := 2) (v := .int 0) (C := RX2) (T := TX2) (N := 8) hx hb hts in_k_X2_rewind_X2 hown hK hP 0 rfl rfl 1 (by decide) (hts _ (List.mem_cons_of_mem _ (List.mem_append_left _ (List.mem_append_left _ (List.mem_of_getElem? (i := 0) rfl))))) (fun _ h9 => h9) rfl dX2_rewind_25 ?_
  refine lv_iconst (v := 1) hx hb dX2_rewind_28 (by decide) ?_
  refine lv_iadd hx hb dX2_rewind_29 ?_
  refine W.eq (g2 := F0 m 30 ls [.int 1, .ref (a 1)]) rfl ?_
  refine lv_iconst (v := 0) hx hb dX2_rewind_30 (by decide) ?_
  refine va_bast hx hb hK hP hD hS 1 0 rfl rfl (nb_in (by decide)) dX2_rewind_31 (fun H locs hP hD hS => ?_)
  have e9 : upd nZ (Int32.toNatClampNeg 1) (vp_nar .byte 0) = nZ := nZ_upd _
  rw [e9] at hP hD
  have hP : va_P (dC, dI) nCl [((a 0), .inr (2, [.ref (a 1), .int 0, .int 0, .int 0, .int 0, .long 0, .long 0, .ref (a 2)])), ((a 1), .inl (cy 0, 1024, .inl nZ))] H := hP
  have hD : va_D A [((a 0), .inr (2, [.ref (a 1), .int 0, .int 0, .int 0, .int 0, .long 0, .long 0, .ref (a 2)])), ((a 1), .inl (cy 0, 1024, .inl nZ))] := hD
  refine lv_aload_n hx hb dX2_rewind_32 rfl (lv_at hl 0 rfl) ?_
  refine lv_iconst (v := 0) hx hb dX2_rewind_33 (by decide) ?_
  refine va_put (D := (dC, dI)) (ci := 2) (v := .int 0) (ty := .int) (C := RX2) (T := TX2) (N := 8) hx hb hts in_k_X2_rewind_X2 tyX2 tyX2_ok nmX2 hown hK hP hD hS 0 rfl rfl 4 (by decide) (hts _ (List.mem_cons_of_mem _ (List.mem_append_left _ (List.mem_append_left _ (List.mem_of_getElem? (i := 6) rfl))))) (fun _ h9 => h9) rfl (by decide +kernel) rfl rfl (Nat.le_of_ble_eq_true rfl) dX2_rewind_34 (fun H locs hP hD hS => ?_)
  have hP : va_P (dC, dI) nCl [((a 0), .inr (2, [.ref (a 1), .int 0, .int 0, .int 0, .int 0, .long 0, .long 0, .ref (a 2)])), ((a 1), .inl (cy 0, 1024, .inl nZ))] H := hP
  have hD : va_D A [((a 0), .inr (2, [.ref (a 1), .int 0, .int 0, .int 0, .int 0, .long 0, .long 0, .ref (a 2)])), ((a 1), .inl (cy 0, 1024, .inl nZ))] := hD
  have hP : va_P (dC, dI) nCl (v1_k_X2_rewind cy a (fun _ => 0)) H := hP
  have hD : va_D A (v1_k_X2_rewind cy a (fun _ => 0)) := hD
  exact W.vret hx hb hr (fun t ht hW => ⟨⟨(fun _ => 0), rfl, trivial, by rw [ht]; exact hP, va_K.moved hW.alike hK, hD⟩, hS.F ht⟩) hS.2.2 dX2_rewind_37
def o_k_X5_begin : List Cond := [.fieldLink RX5 93 "SetHouse$Parser" "p" "LSetHouse$Program;", .fieldLink RX5 97 "SetHouse$Parser" "unit" "I", .fieldLink RX5 100 "SetHouse$Parser" "allowed" "I", .fieldLink RX5 103 "SetHouse$Parser" "open" "I", .fieldLink RX5 75 "SetHouse$Parser" "faultCode" "I", .fieldLink RX5 81 "SetHouse$Parser" "faultPlace" "I", .fieldLink RX5 106 "SetHouse$Parser" "loopNext" "I", .fieldLink RX5 109 "SetHouse$Parser" "quits" "I", .fieldLink RX5 112 "SetHouse$Parser" "marked" "I", .fieldLink RX5 115 "SetHouse$Parser" "kept" "I", .fieldLink RX5 118 "SetHouse$Parser" "targetPlace" "I", .fieldLink RX5 18 "SetHouse$Parser" "lex" "LSetHouse$Lexer;", .methodLink RX5 121 yX2_rewind, .instanceMethod yX2_rewind, .selects RX2 yX2_rewind yX2_rewind, .initialized RX2]
theorem o_k_X5_begin_good : o_k_X5_begin.all goodWord = true := by decide +kernel
def p_k_X5_begin : List Cond := o_k_X5_begin ++ ((.code yX2_rewind cX2_rewind 1 none :: p_k_X2_rewind) ++ [])
theorem p_k_X5_begin_good : p_k_X5_begin.all goodWord = true := nb_all2 o_k_X5_begin_good (nb_all2 (nb_allc (by decide +kernel) p_k_X2_rewind_good) rfl)
def w_k_X5_begin : List Cond := .code yX5_begin cX5_begin 4 none :: (p_k_X5_begin ++ fC)
theorem w_k_X5_begin_good : w_k_X5_begin.all goodWord = true := nb_allc (by decide +kernel) (nb_all2 p_k_X5_begin_good fC_good)
theorem in_k_X5_begin_X5 : ∀ w ∈ wsX50, w ∈ w_k_X5_begin := fun _ h => List.mem_cons_of_mem _ (List.mem_append_right _ (List.mem_append_right _ (List.mem_append_right _ (List.mem_append_right _ (List.mem_append_right _ (List.mem_append_left _ h))))))
theorem gg_k_X5_begin_k_X2_rewind : GoodIn w_k_X5_begin w_k_X2_rewind := goodIn_sub (fun w h => (List.mem_cons.mp h).elim (fun e => (List.mem_cons_of_mem _ (List.mem_append_left _ (List.mem_append_right _ (List.mem_append_left _ (List.mem_cons.mpr (Or.inl e))))))) (fun h => (List.mem_append.mp h).elim (fun h => (List.mem_cons_of_mem _ (List.mem_append_left _ (List.mem_append_right _ (List.mem_append_left _ (List.mem_cons_of_mem _ h)))))) (fun h => List.mem_cons_of_mem _ (List.mem_append_right _ h)))) w_k_X2_rewind_good
theorem g_k_X5_begin_121_k_X2_rewind : GoodIn w_k_X5_begin (wsV RX5 121 RX2 yX2_rewind w_k_X2_rewind) := goodIn_app (nb_g4 (List.mem_cons_of_mem _ (List.mem_append_left _ (List.mem_append_left _ (List.mem_of_getElem? (i := 12) rfl)))) (List.mem_cons_of_mem _ (List.mem_append_left _ (List.mem_append_left _ (List.mem_of_getElem? (i := 13) rfl)))) (List.mem_cons_of_mem _ (List.mem_append_left _ (List.mem_append_left _ (List.mem_of_getElem? (i := 14) rfl)))) (List.mem_cons_of_mem _ (List.mem_append_left _ (List.mem_append_left _ (List.mem_of_getElem? (i := 15) rfl)))) (by decide +kernel)) gg_k_X5_begin_k_X2_rewind
def v0_k_X5_begin (cy : Nat → ClassId) (a : Nat → Nat) : va_W := [((a 0), .inr (4, [.ref (a 2), .ref (a 4), .null, .int 0, .int 0, .int 0, .int 0, .int 0, .int 0, .int 0, .ref (a 5), .int 0, .ref (a 6), .int 0, .int 0, .int 0, .int 0, .int 0, .int 0, .int 0, .int 0])), ((a 2), .inr (2, [.ref (a 3), .int 0, .int 0, .int 0, .int 0, .long 0, .long 0, .ref (a 7)])), ((a 3), .inl (cy 0, 1024, .inl nZ))]
def v1_k_X5_begin (cy : Nat → ClassId) (a : Nat → Nat) (r : Nat → Nat) : va_W := [((a 0), .inr (4, [.ref (a 2), .ref (a 4), .ref (a 1), .int 0, .int 2, .int 0, .int 0, .int 0, .int (-1), .int 0, .ref (a 5), .int 0, .ref (a 6), .int 0, .int 0, .int 0, .int (-1), .int 0, .int 0, .int 0, .int 0])), ((a 2), .inr (2, [.ref (a 3), .int 0, .int 0, .int 0, .int 0, .long 0, .long 0, .ref (a 7)])), ((a 3), .inl (cy 0, 1024, .inl nZ))]
set_option maxHeartbeats 40000000 in
set_option maxRecDepth 100000 in
theorem k_X5_begin (l : Launch) (dC : Nat → ClassId) (dI : Nat → Nat → Nat) (cy : Nat → ClassId) (k : Nat → Nat) (a : Nat → Nat) (sz : Nat) : Met l yX5_begin w_k_X5_begin ({ frames := 3, cells := 0, slots := 0, locals := 63 }) (va_Pc [.ref (a 0), .ref (a 1), .int 0, .int 2] (nInE (dC, dI) cy k sz (v0_k_X5_begin cy a))) (va_Qv (fun _ : Nat → Nat => True) (fun r t => nOut (dC, dI) cy (va_A (v0_k_X5_begin cy a) sz) (v1_k_X5_begin cy a r) t) (va_A (v0_k_X5_begin cy a) sz)) 0 0 (va_A (v0_k_X5_begin cy a) sz) := by
  refine Met.ofW (cc := cX5_begin) (maxL := 4) (ret := none) (by decide) rfl ?_
  intro p e s m args below meth c s₁ B hml hv
  obtain ⟨rfl, ⟨hsz, hP, hK, hD0, hG⟩, hE⟩ := hv
  have hx := B.exec
  have hb := B.bytes
  have hr := B.returns
  have hts := atoms_spec (ws := w_k_X5_begin) B.pre
  have hown : s.vm.findClass RX5 = some m.cls := findClass_of_methodNamed B.named
  have hlocks := B.notSynchronized
  subst hsz
  have hD := hD0.self (sz := s.heap.size)
  generalize hAe : va_A (v0_k_X5_begin cy a) s.heap.size = A at hD hE ⊢
  have hA : ∀ q : Nat, s.heap.size ≤ q → A q := fun q h => by rw [← hAe]; exact Or.inr h
  have hS : va_S A s.heap s.heap [] := va_S.rf
  have hP : va_P (dC, dI) nCl (v0_k_X5_begin cy a) s.heap := hP
  have hl := lv_entry ([.ref (a 0), .ref (a 1), .int 0, .int 2]) (n := 4) (Nat.le_of_ble_eq_true rfl)
  rw [lg_entry_eq]
  generalize (lg_sl ([.ref (a 0), .ref (a 1), .int 0, .int 2]) ++ List.replicate (4 - (lg_sl ([.ref (a 0), .ref (a 1), .int 0, .int 2])).length) Slot.unset).toArray = ls at hl ⊢
  have hl : lv_has ls 4 [(0, .ref (a 0)), (1, .ref (a 1)), (2, .int 0), (3, .int 2)] := hl
  have hP : va_P (dC, dI) nCl [((a 0), .inr (4, [.ref (a 2), .ref (a 4), .null, .int 0, .int 0, .int 0, .int 0, .int 0, .int 0, .int 0, .ref (a 5), .int 0, .ref (a 6), .int 0, .int 0, .int 0, .int 0, .int 0, .int 0, .int 0, .int 0])), ((a 2), .inr (2, [.ref (a 3), .int 0, .int 0, .int 0, .int 0, .long 0, .long 0, .ref (a 7)])), ((a 3), .inl (cy 0, 1024, .inl nZ))] s.heap := hP
  have hD : va_D A [((a 0), .inr (4, [.ref (a 2), .ref (a 4), .null, .int 0, .int 0, .int 0, .int 0, .int 0, .int 0, .int 0, .ref (a 5), .int 0, .ref (a 6), .int 0, .int 0, .int 0, .int 0, .int 0, .int 0, .int 0, .int 0])), ((a 2), .inr (2, [.ref (a 3), .int 0, .int 0, .int 0, .int 0, .long 0, .long 0, .ref (a 7)])), ((a 3), .inl (cy 0, 1024, .inl nZ))] := hD
  refine lv_aload_n hx hb dX5_begin_0 rfl (lv_at hl 0 rfl) ?_
  refine lv_aload_n hx hb dX5_begin_1 rfl (lv_at hl 1 rfl) ?_
  refine va_put (D := (dC, dI)) (ci := 4) (v := .ref (a 1)) (ty := .object "SetHouse$Program") (C := RX5) (T := TX5) (N := 21) hx hb hts in_k_X5_begin_X5 tyX5 tyX5_ok nmX5 hown hK hP hD hS 0 rfl rfl 2 (by decide) (hts _ (List.mem_cons_of_mem _ (List.mem_append_left _ (List.mem_append_left _ (List.mem_of_getElem? (i := 0) rfl))))) (fun _ h9 => h9) rfl (by decide +kernel) rfl rfl (Nat.le_of_ble_eq_true rfl) dX5_begin_2 (fun H locs hP hD hS => ?_)
  have hP : va_P (dC, dI) nCl [((a 0), .inr (4, [.ref (a 2), .ref (a 4), .ref (a 1), .int 0, .int 0, .int 0, .int 0, .int 0, .int 0, .int 0, .ref (a 5), .int 0, .ref (a 6), .int 0, .int 0, .int 0, .int 0, .int 0, .int 0, .int 0, .int 0])), ((a 2), .inr (2, [.ref (a 3), .int 0, .int 0, .int 0, .int 0, .long 0, .long 0, .ref (a 7)])), ((a 3), .inl (cy 0, 1024, .inl nZ))] H := hP
  have hD : va_D A [((a 0), .inr (4, [.ref (a 2), .ref (a 4), .ref (a 1), .int 0, .int 0, .int 0, .int 0, .int 0, .int 0, .int 0, .ref (a 5), .int 0, .ref (a 6), .int 0, .int 0, .int 0, .int 0, .int 0, .int 0, .int 0, .int 0])), ((a 2), .inr (2, [.ref (a 3), .int 0, .int 0, .int 0, .int 0, .long 0, .long 0, .ref (a 7)])), ((a 3), .inl (cy 0, 1024, .inl nZ))] := hD
  refine lv_aload_n hx hb dX5_begin_5 rfl (lv_at hl 0 rfl) ?_
  refine lv_iload_n hx hb dX5_begin_6 rfl (lv_at hl 2 rfl) ?_
  refine va_put (D := (dC, dI)) (ci := 4) (v := .int 0) (ty := .int) (C := RX5) (T := TX5) (N := 21) hx hb hts in_k_X5_begin_X5 tyX5 tyX5_ok nmX5 hown hK hP hD hS 0 rfl rfl 3 (by decide) (hts _ (List.mem_cons_of_mem _ (List.mem_append_left _ (List.mem_append_left _ (List.mem_of_getElem? (i := 1) rfl))))) (fun _ h9 => h9) rfl (by decide +kernel) rfl rfl (Nat.le_of_ble_eq_true rfl) dX5_begin_7 (fun H locs hP hD hS => ?_)
  have hP : va_P (dC, dI) nCl [((a 0), .inr (4, [.ref (a 2), .ref (a 4), .ref (a 1), .int 0, .int 0, .int 0, .int 0, .int 0, .int 0, .int 0, .ref (a 5), .int 0, .ref (a 6), .int 0, .int 0, .int 0, .int 0, .int 0, .int 0, .int 0, .int 0])), ((a 2), .inr (2, [.ref (a 3), .int 0, .int 0, .int 0, .int 0, .long 0, .long 0, .ref (a 7)])), ((a 3), .inl (cy 0, 1024, .inl nZ))] H := hP
  have hD : va_D A [((a 0), .inr (4, [.ref (a 2), .ref (a 4), .ref (a 1), .int 0, .int 0, .int 0, .int 0, .int 0, .int 0, .int 0, .ref (a 5), .int 0, .ref (a 6), .int 0, .int 0, .int 0, .int 0, .int 0, .int 0, .int 0, .int 0])), ((a 2), .inr (2, [.ref (a 3), .int 0, .int 0, .int 0, .int 0, .long 0, .long 0, .ref (a 7)])), ((a 3), .inl (cy 0, 1024, .inl nZ))] := hD
  refine lv_aload_n hx hb dX5_begin_10 rfl (lv_at hl 0 rfl) ?_
  refine lv_iload_n hx hb dX5_begin_11 rfl (lv_at hl 3 rfl) ?_
  refine va_put (D := (dC, dI)) (ci := 4) (v := .int 2) (ty := .int) (C := RX5) (T := TX5) (N := 21) hx hb hts in_k_X5_begin_X5 tyX5 tyX5_ok nmX5 hown hK hP hD hS 0 rfl rfl 4 (by decide) (hts _ (List.mem_cons_of_mem _ (List.mem_append_left _ (List.mem_append_left _ (List.mem_of_getElem? (i := 2) rfl))))) (fun _ h9 => h9) rfl (by decide +kernel) rfl rfl (Nat.le_of_ble_eq_true rfl) dX5_begin_12 (fun H locs hP hD hS => ?_)
  have hP : va_P (dC, dI) nCl [((a 0), .inr (4, [.ref (a 2), .ref (a 4), .ref (a 1), .int 0, .int 2, .int 0, .int 0, .int 0, .int 0, .int 0, .ref (a 5), .int 0, .ref (a 6), .int 0, .int 0, .int 0, .int 0, .int 0, .int 0, .int 0, .int 0])), ((a 2), .inr (2, [.ref (a 3), .int 0, .int 0, .int 0, .int 0, .long 0, .long 0, .ref (a 7)])), ((a 3), .inl (cy 0, 1024, .inl nZ))] H := hP
  have hD : va_D A [((a 0), .inr (4, [.ref (a 2), .ref (a 4), .ref (a 1), .int 0, .int 2, .int 0, .int 0, .int 0, .int 0, .int 0, .ref (a 5), .int 0, .ref (a 6), .int 0, .int 0, .int 0, .int 0, .int 0, .int 0, .int 0, .int 0])), ((a 2), .inr (2, [.ref (a 3), .int 0, .int 0, .int 0, .int 0, .long 0, .long 0, .ref (a 7)])), ((a 3), .inl (cy 0, 1024, .inl nZ))] := hD
  refine lv_aload_n hx hb dX5_begin_15 rfl (lv_at hl 0 rfl) ?_
  refine lv_iconst (v := 0) hx hb dX5_begin_16 (by decide) ?_
  refine va_put (D := (dC, dI)) (ci := 4) (v := .int 0) (ty := .int) (C := RX5) (T := TX5) (N := 21) hx hb hts in_k_X5_begin_X5 tyX5 tyX5_ok nmX5 hown hK hP hD hS 0 rfl rfl 5 (by decide) (hts _ (List.mem_cons_of_mem _ (List.mem_append_left _ (List.mem_append_left _ (List.mem_of_getElem? (i := 3) rfl))))) (fun _ h9 => h9) rfl (by decide +kernel) rfl rfl (Nat.le_of_ble_eq_true rfl) dX5_begin_17 (fun H locs hP hD hS => ?_)
  have hP : va_P (dC, dI) nCl [((a 0), .inr (4, [.ref (a 2), .ref (a 4), .ref (a 1), .int 0, .int 2, .int 0, .int 0, .int 0, .int 0, .int 0, .ref (a 5), .int 0, .ref (a 6), .int 0, .int 0, .int 0, .int 0, .int 0, .int 0, .int 0, .int 0])), ((a 2), .inr (2, [.ref (a 3), .int 0, .int 0, .int 0, .int 0, .long 0, .long 0, .ref (a 7)])), ((a 3), .inl (cy 0, 1024, .inl nZ))] H := hP
  have hD : va_D A [((a 0), .inr (4, [.ref (a 2), .ref (a 4), .ref (a 1), .int 0, .int 2, .int 0, .int 0, .int 0, .int 0, .int 0, .ref (a 5), .int 0, .ref (a 6), .int 0, .int 0, .int 0, .int 0, .int 0, .int 0, .int 0, .int 0])), ((a 2), .inr (2, [.ref (a 3), .int 0, .int 0, .int 0, .int 0, .long 0, .long 0, .ref (a 7)])), ((a 3), .inl (cy 0, 1024, .inl nZ))] := hD
  refine lv_aload_n hx hb dX5_begin_20 rfl (lv_at hl 0 rfl) ?_
  refine lv_iconst (v := 0) hx hb dX5_begin_21 (by decide) ?_
  refine va_put (D := (dC, dI)) (ci := 4) (v := .int 0) (ty := .int) (C := RX5) (T := TX5) (N := 21) hx hb hts in_k_X5_begin_X5 tyX5 tyX5_ok nmX5 hown hK hP hD hS 0 rfl rfl 6 (by decide) (hts _ (List.mem_cons_of_mem _ (List.mem_append_left _ (List.mem_append_left _ (List.mem_of_getElem? (i := 4) rfl))))) (fun _ h9 => h9) rfl (by decide +kernel) rfl rfl (Nat.le_of_ble_eq_true rfl) dX5_begin_22 (fun H locs hP hD hS => ?_)
  have hP : va_P (dC, dI) nCl [((a 0), .inr (4, [.ref (a 2), .ref (a 4), .ref (a 1), .int 0, .int 2, .int 0, .int 0, .int 0, .int 0, .int 0, .ref (a 5), .int 0, .ref (a 6), .int 0, .int 0, .int 0, .int 0, .int 0, .int 0, .int 0, .int 0])), ((a 2), .inr (2, [.ref (a 3), .int 0, .int 0, .int 0, .int 0, .long 0, .long 0, .ref (a 7)])), ((a 3), .inl (cy 0, 1024, .inl nZ))] H := hP
  have hD : va_D A [((a 0), .inr (4, [.ref (a 2), .ref (a 4), .ref (a 1), .int 0, .int 2, .int 0, .int 0, .int 0, .int 0, .int 0, .ref (a 5), .int 0, .ref (a 6), .int 0, .int 0, .int 0, .int 0, .int 0, .int 0, .int 0, .int 0])), ((a 2), .inr (2, [.ref (a 3), .int 0, .int 0, .int 0, .int 0, .long 0, .long 0, .ref (a 7)])), ((a 3), .inl (cy 0, 1024, .inl nZ))] := hD
  refine lv_aload_n hx hb dX5_begin_25 rfl (lv_at hl 0 rfl) ?_
  refine lv_iconst (v := 0) hx hb dX5_begin_26 (by decide) ?_
  refine va_put (D := (dC, dI)) (ci := 4) (v := .int 0) (ty := .int) (C := RX5) (T := TX5) (N := 21) hx hb hts in_k_X5_begin_X5 tyX5 tyX5_ok nmX5 hown hK hP hD hS 0 rfl rfl 7 (by decide) (hts _ (List.mem_cons_of_mem _ (List.mem_append_left _ (List.mem_append_left _ (List.mem_of_getElem? (i := 5) rfl))))) (fun _ h9 => h9) rfl (by decide +kernel) rfl rfl (Nat.le_of_ble_eq_true rfl) dX5_begin_27 (fun H locs hP hD hS => ?_)
  have hP : va_P (dC, dI) nCl [((a 0), .inr (4, [.ref (a 2), .ref (a 4), .ref (a 1), .int 0, .int 2, .int 0, .int 0, .int 0, .int 0, .int 0, .ref (a 5), .int 0, .ref (a 6), .int 0, .int 0, .int 0, .int 0, .int 0, .int 0, .int 0, .int 0])), ((a 2), .inr (2, [.ref (a 3), .int 0, .int 0, .int 0, .int 0, .long 0, .long 0, .ref (a 7)])), ((a 3), .inl (cy 0, 1024, .inl nZ))] H := hP
  have hD : va_D A [((a 0), .inr (4, [.ref (a 2), .ref (a 4), .ref (a 1), .int 0, .int 2, .int 0, .int 0, .int 0, .int 0, .int 0, .ref (a 5), .int 0, .ref (a 6), .int 0, .int 0, .int 0, .int 0, .int 0, .int 0, .int 0, .int 0])), ((a 2), .inr (2, [.ref (a 3), .int 0, .int 0, .int 0, .int 0, .long 0, .long 0, .ref (a 7)])), ((a 3), .inl (cy 0, 1024, .inl nZ))] := hD
  refine lv_aload_n hx hb dX5_begin_30 rfl (lv_at hl 0 rfl) ?_
  refine lv_iconst (v := (-1)) hx hb dX5_begin_31 (by decide) ?_
  refine va_put (D := (dC, dI)) (ci := 4) (v := .int (-1)) (ty := .int) (C := RX5) (T := TX5) (N := 21) hx hb hts in_k_X5_begin_X5 tyX5 tyX5_ok nmX5 hown hK hP hD hS 0 rfl rfl 8 (by decide) (hts _ (List.mem_cons_of_mem _ (List.mem_append_left _ (List.mem_append_left _ (List.mem_of_getElem? (i := 6) rfl))))) (fun _ h9 => h9) rfl (by decide +kernel) rfl rfl (Nat.le_of_ble_eq_true rfl) dX5_begin_32 (fun H locs hP hD hS => ?_)
  have hP : va_P (dC, dI) nCl [((a 0), .inr (4, [.ref (a 2), .ref (a 4), .ref (a 1), .int 0, .int 2, .int 0, .int 0, .int 0, .int (-1), .int 0, .ref (a 5), .int 0, .ref (a 6), .int 0, .int 0, .int 0, .int 0, .int 0, .int 0, .int 0, .int 0])), ((a 2), .inr (2, [.ref (a 3), .int 0, .int 0, .int 0, .int 0, .long 0, .long 0, .ref (a 7)])), ((a 3), .inl (cy 0, 1024, .inl nZ))] H := hP
  have hD : va_D A [((a 0), .inr (4, [.ref (a 2), .ref (a 4), .ref (a 1), .int 0, .int 2, .int 0, .int 0, .int 0, .int (-1), .int 0, .ref (a 5), .int 0, .ref (a 6), .int 0, .int 0, .int 0, .int 0, .int 0, .int 0, .int 0, .int 0])), ((a 2), .inr (2, [.ref (a 3), .int 0, .int 0, .int 0, .int 0, .long 0, .long 0, .ref (a 7)])), ((a 3), .inl (cy 0, 1024, .inl nZ))] := hD
  refine lv_aload_n hx hb dX5_begin_35 rfl (lv_at hl 0 rfl) ?_
  refine lv_iconst (v := 0) hx hb dX5_begin_36 (by decide) ?_
  refine va_put (D := (dC, dI)) (ci := 4) (v := .int 0) (ty := .int) (C := RX5) (T := TX5) (N := 21) hx hb hts in_k_X5_begin_X5 tyX5 tyX5_ok nmX5 hown hK hP hD hS 0 rfl rfl 9 (by decide) (hts _ (List.mem_cons_of_mem _ (List.mem_append_left _ (List.mem_append_left _ (List.mem_of_getElem? (i := 7) rfl))))) (fun _ h9 => h9) rfl (by decide +kernel) rfl rfl (Nat.le_of_ble_eq_true rfl) dX5_begin_37 (fun H locs hP hD hS => ?_)
  have hP : va_P (dC, dI) nCl [((a 0), .inr (4, [.ref (a 2), .ref (a 4), .ref (a 1), .int 0, .int 2, .int 0, .int 0, .int 0, .int (-1), .int 0, .ref (a 5), .int 0, .ref (a 6), .int 0, .int 0, .int 0, .int 0, .int 0, .int 0, .int 0, .int 0])), ((a 2), .inr (2, [.ref (a 3), .int 0, .int 0, .int 0, .int 0, .long 0, .long 0, .ref (a 7)])), ((a 3), .inl (cy 0, 1024, .inl nZ))] H := hP
  have hD : va_D A [((a 0), .inr (4, [.ref (a 2), .ref (a 4), .ref (a 1), .int 0, .int 2, .int 0, .int 0, .int 0, .int (-1), .int 0, .ref (a 5), .int 0, .ref (a 6), .int 0, .int 0, .int 0, .int 0, .int 0, .int 0, .int 0, .int 0])), ((a 2), .inr (2, [.ref (a 3), .int 0, .int 0, .int 0, .int 0, .long 0, .long 0, .ref (a 7)])), ((a 3), .inl (cy 0, 1024, .inl nZ))] := hD
  refine lv_aload_n hx hb dX5_begin_40 rfl (lv_at hl 0 rfl) ?_
  refine lv_iconst (v := 0) hx hb dX5_begin_41 (by decide) ?_
  refine va_put (D := (dC, dI)) (ci := 4) (v := .int 0) (ty := .int) (C := RX5) (T := TX5) (N := 21) hx hb hts in_k_X5_begin_X5 tyX5 tyX5_ok nmX5 hown hK hP hD hS 0 rfl rfl 11 (by decide) (hts _ (List.mem_cons_of_mem _ (List.mem_append_left _ (List.mem_append_left _ (List.mem_of_getElem? (i := 8) rfl))))) (fun _ h9 => h9) rfl (by decide +kernel) rfl rfl (Nat.le_of_ble_eq_true rfl) dX5_begin_42 (fun H locs hP hD hS => ?_)
  have hP : va_P (dC, dI) nCl [((a 0), .inr (4, [.ref (a 2), .ref (a 4), .ref (a 1), .int 0, .int 2, .int 0, .int 0, .int 0, .int (-1), .int 0, .ref (a 5), .int 0, .ref (a 6), .int 0, .int 0, .int 0, .int 0, .int 0, .int 0, .int 0, .int 0])), ((a 2), .inr (2, [.ref (a 3), .int 0, .int 0, .int 0, .int 0, .long 0, .long 0, .ref (a 7)])), ((a 3), .inl (cy 0, 1024, .inl nZ))] H := hP
  have hD : va_D A [((a 0), .inr (4, [.ref (a 2), .ref (a 4), .ref (a 1), .int 0, .int 2, .int 0, .int 0, .int 0, .int (-1), .int 0, .ref (a 5), .int 0, .ref (a 6), .int 0, .int 0, .int 0, .int 0, .int 0, .int 0, .int 0, .int 0])), ((a 2), .inr (2, [.ref (a 3), .int 0, .int 0, .int 0, .int 0, .long 0, .long 0, .ref (a 7)])), ((a 3), .inl (cy 0, 1024, .inl nZ))] := hD
  refine lv_aload_n hx hb dX5_begin_45 rfl (lv_at hl 0 rfl) ?_
  refine lv_iconst (v := 0) hx hb dX5_begin_46 (by decide) ?_
  refine va_put (D := (dC, dI)) (ci := 4) (v := .int 0) (ty := .int) (C := RX5) (T := TX5) (N := 21) hx hb hts in_k_X5_begin_X5 tyX5 tyX5_ok nmX5 hown hK hP hD hS 0 rfl rfl 13 (by decide) (hts _ (List.mem_cons_of_mem _ (List.mem_append_left _ (List.mem_append_left _ (List.mem_of_getElem? (i := 9) rfl))))) (fun _ h9 => h9) rfl (by decide +kernel) rfl rfl (Nat.le_of_ble_eq_true rfl) dX5_begin_47 (fun H locs hP hD hS => ?_)
  have hP : va_P (dC, dI) nCl [((a 0), .inr (4, [.ref (a 2), .ref (a 4), .ref (a 1), .int 0, .int 2, .int 0, .int 0, .int 0, .int (-1), .int 0, .ref (a 5), .int 0, .ref (a 6), .int 0, .int 0, .int 0, .int 0, .int 0, .int 0, .int 0, .int 0])), ((a 2), .inr (2, [.ref (a 3), .int 0, .int 0, .int 0, .int 0, .long 0, .long 0, .ref (a 7)])), ((a 3), .inl (cy 0, 1024, .inl nZ))] H := hP
  have hD : va_D A [((a 0), .inr (4, [.ref (a 2), .ref (a 4), .ref (a 1), .int 0, .int 2, .int 0, .int 0, .int 0, .int (-1), .int 0, .ref (a 5), .int 0, .ref (a 6), .int 0, .int 0, .int 0, .int 0, .int 0, .int 0, .int 0, .int 0])), ((a 2), .inr (2, [.ref (a 3), .int 0, .int 0, .int 0, .int 0, .long 0, .long 0, .ref (a 7)])), ((a 3), .inl (cy 0, 1024, .inl nZ))] := hD
  refine lv_aload_n hx hb dX5_begin_50 rfl (lv_at hl 0 rfl) ?_
  refine lv_iconst (v := (-1)) hx hb dX5_begin_51 (by decide) ?_
  refine va_put (D := (dC, dI)) (ci := 4) (v := .int (-1)) (ty := .int) (C := RX5) (T := TX5) (N := 21) hx hb hts in_k_X5_begin_X5 tyX5 tyX5_ok nmX5 hown hK hP hD hS 0 rfl rfl 16 (by decide) (hts _ (List.mem_cons_of_mem _ (List.mem_append_left _ (List.mem_append_left _ (List.mem_of_getElem? (i := 10) rfl))))) (fun _ h9 => h9) rfl (by decide +kernel) rfl rfl (Nat.le_of_ble_eq_true rfl) dX5_begin_52 (fun H locs hP hD hS => ?_)
  have hP : va_P (dC, dI) nCl [((a 0), .inr (4, [.ref (a 2), .ref (a 4), .ref (a 1), .int 0, .int 2, .int 0, .int 0, .int 0, .int (-1), .int 0, .ref (a 5), .int 0, .ref (a 6), .int 0, .int 0, .int 0, .int (-1), .int 0, .int 0, .int 0, .int 0])), ((a 2), .inr (2, [.ref (a 3), .int 0, .int 0, .int 0, .int 0, .long 0, .long 0, .ref (a 7)])), ((a 3), .inl (cy 0, 1024, .inl nZ))] H := hP
  have hD : va_D A [((a 0), .inr (4, [.ref (a 2), .ref (a 4), .ref (a 1), .int 0, .int 2, .int 0, .int 0, .int 0, .int (-1), .int 0, .ref (a 5), .int 0, .ref (a 6), .int 0, .int 0, .int 0, .int (-1), .int 0, .int 0, .int 0, .int 0])), ((a 2), .inr (2, [.ref (a 3), .int 0, .int 0, .int 0, .int 0, .long 0, .long 0, .ref (a 7)])), ((a 3), .inl (cy 0, 1024, .inl nZ))] := hD
  refine lv_aload_n hx hb dX5_begin_55 rfl (lv_at hl 0 rfl) ?_
  refine va_get (D := (dC, dI)) (ci := 4) (v := .ref (a 2)) (C := RX5) (T := TX5) (N := 21) hx hb hts in_k_X5_begin_X5 hown hK hP 0 rfl rfl 0 (by decide) (hts _ (List.mem_cons_of_mem _ (List.mem_append_left _ (List.mem_append_left _ (List.mem_of_getElem? (i := 11) rfl))))) (fun _ h9 => h9) rfl dX5_begin_56 ?_
  have hPc := hP.sub (ws' := [((a 2), .inr (2, [.ref (a 3), .int 0, .int 0, .int 0, .int 0, .long 0, .long 0, .ref (a 7)])), ((a 3), .inl (cy 0, 1024, .inl nZ))]) [1, 2] rfl
  have hPc : va_P (dC, dI) nCl (v0_k_X2_rewind cy (fun j9 => [(a 2), (a 3), (a 7)].getD j9 0)) H := hPc
  have hDc := hD.sub (ws' := [((a 2), .inr (2, [.ref (a 3), .int 0, .int 0, .int 0, .int 0, .long 0, .long 0, .ref (a 7)])), ((a 3), .inl (cy 0, 1024, .inl nZ))]) [1, 2] (by decide) rfl
  have hDc : va_D A (v0_k_X2_rewind cy (fun j9 => [(a 2), (a 3), (a 7)].getD j9 0)) := hDc
  have hFc := va_free (wc := (v0_k_X2_rewind cy (fun j9 => [(a 2), (a 3), (a 7)].getD j9 0))) hD hS hA [1, 2] rfl
  refine va_callv (va_runV (As := []) (rest := []) ⟨hx, hb, hml, hown, hts⟩ (k_X2_rewind l dC dI cy k (fun j9 => [(a 2), (a 3), (a 7)].getD j9 0) H.size) (cwV 0 hts g_k_X5_begin_121_k_X2_rewind rfl rfl rfl (by decide +kernel) ⟨Nat.le_of_ble_eq_true rfl, Nat.le_of_ble_eq_true rfl⟩) ⟨nb_blindE, va_recv hK hPc (ci := 2) (q0 := 0) rfl rfl, fun U hU hW => ⟨rfl, ⟨by rw [hU], by rw [hU]; exact hPc, va_K.moved hW.alike hK, hDc.weaken (fun _ _ _ _ => trivial), hG.warm hW⟩, nE.to hE hS hW hU hFc⟩⟩ rfl rfl hl.1 rfl (lv_room (Nat.le_of_ble_eq_true rfl)) dX5_begin_59 ⟨Nat.le_of_ble_eq_true rfl, Nat.le_of_ble_eq_true rfl⟩) hS (fun q _ h => hFc q h) hFc (fun u1 t H1 locs ht hvm hw hB hz1 hk1 hS => ?_)
  obtain ⟨hP1, hK1, hD1⟩ := hB
  rw [ht] at hP1
  obtain ⟨hP, hD⟩ := va_join (wr := [((a 0), .inr (4, [.ref (a 2), .ref (a 4), .ref (a 1), .int 0, .int 2, .int 0, .int 0, .int 0, .int (-1), .int 0, .ref (a 5), .int 0, .ref (a 6), .int 0, .int 0, .int 0, .int (-1), .int 0, .int 0, .int 0, .int 0]))]) (w1 := v1_k_X2_rewind cy (fun j9 => [(a 2), (a 3), (a 7)].getD j9 0) u1) hP hD [1, 2] [0] rfl rfl (by decide) (by decide) hk1 hFc hP1 hD1
  generalize H1 = H at hP hS ⊢
  have hP : va_P (dC, dI) nCl [((a 0), .inr (4, [.ref (a 2), .ref (a 4), .ref (a 1), .int 0, .int 2, .int 0, .int 0, .int 0, .int (-1), .int 0, .ref (a 5), .int 0, .ref (a 6), .int 0, .int 0, .int 0, .int (-1), .int 0, .int 0, .int 0, .int 0])), ((a 2), .inr (2, [.ref (a 3), .int 0, .int 0, .int 0, .int 0, .long 0, .long 0, .ref (a 7)])), ((a 3), .inl (cy 0, 1024, .inl nZ))] H := hP
  have hD : va_D A [((a 0), .inr (4, [.ref (a 2), .ref (a 4), .ref (a 1), .int 0, .int 2, .int 0, .int 0, .int 0, .int (-1), .int 0, .ref (a 5), .int 0, .ref (a 6), .int 0, .int 0, .int 0, .int (-1), .int 0, .int 0, .int 0, .int 0])), ((a 2), .inr (2, [.ref (a 3), .int 0, .int 0, .int 0, .int 0, .long 0, .long 0, .ref (a 7)])), ((a 3), .inl (cy 0, 1024, .inl nZ))] := hD
  have hP : va_P (dC, dI) nCl (v1_k_X5_begin cy a (fun _ => 0)) H := hP
  have hD : va_D A (v1_k_X5_begin cy a (fun _ => 0)) := hD
  exact W.vret hx hb hr (fun t ht hW => ⟨⟨(fun _ => 0), rfl, trivial, by rw [ht]; exact hP, va_K.moved hW.alike hK, hD⟩, hS.F ht⟩) hS.2.2 dX5_begin_62
def o_k_X2_advance : List Cond := [.fieldLink RX2 43 "SetHouse$Lexer" "end" "I", .fieldLink RX2 31 "SetHouse$Lexer" "length" "I", .fieldLink RX2 49 "SetHouse$Lexer" "start" "I", .fieldLink RX2 52 "SetHouse$Lexer" "kind" "I", .fieldLink RX2 11 "SetHouse$Lexer" "tape" "[B"]
theorem o_k_X2_advance_good : o_k_X2_advance.all goodWord = true := by decide +kernel
def p_k_X2_advance : List Cond := o_k_X2_advance ++ []
theorem p_k_X2_advance_good : p_k_X2_advance.all goodWord = true := nb_all2 o_k_X2_advance_good rfl
def w_k_X2_advance : List Cond := .code yX2_advance cX2_advance 7 none :: (p_k_X2_advance ++ fC)
theorem w_k_X2_advance_good : w_k_X2_advance.all goodWord = true := nb_allc (by decide +kernel) (nb_all2 p_k_X2_advance_good fC_good)
theorem in_k_X2_advance_X2 : ∀ w ∈ wsX20, w ∈ w_k_X2_advance := fun _ h => List.mem_cons_of_mem _ (List.mem_append_right _ (List.mem_append_right _ (List.mem_append_right _ (List.mem_append_left _ h))))
def v0_k_X2_advance (cy : Nat → ClassId) (a : Nat → Nat) : va_W := [((a 0), .inr (2, [.ref (a 1), .int 0, .int 0, .int 0, .int 0, .long 0, .long 0, .ref (a 2)])), ((a 1), .inl (cy 0, 1024, .inl nZ))]
def v1_k_X2_advance (cy : Nat → ClassId) (a : Nat → Nat) (r : Nat → Nat) : va_W := [((a 0), .inr (2, [.ref (a 1), .int 0, .int 1, .int 0, .int 0, .long 0, .long 0, .ref (a 2)])), ((a 1), .inl (cy 0, 1024, .inl nZ))]
set_option maxHeartbeats 40000000 in
set_option maxRecDepth 100000 in
theorem k_X2_advance (l : Launch) (dC : Nat → ClassId) (dI : Nat → Nat → Nat) (cy : Nat → ClassId) (k : Nat → Nat) (a : Nat → Nat) (sz : Nat) : Met l yX2_advance w_k_X2_advance ({ frames := 0, cells := 0, slots := 0, locals := 0 }) (va_Pc [.ref (a 0)] (nInE (dC, dI) cy k sz (v0_k_X2_advance cy a))) (va_Qv (fun _ : Nat → Nat => True) (fun r t => nOut (dC, dI) cy (va_A (v0_k_X2_advance cy a) sz) (v1_k_X2_advance cy a r) t) (va_A (v0_k_X2_advance cy a) sz)) 0 0 (va_A (v0_k_X2_advance cy a) sz) := by
  refine Met.ofW (cc := cX2_advance) (maxL := 7) (ret := none) (by decide) rfl ?_
  intro p e s m args below meth c s₁ B hml hv
  obtain ⟨rfl, ⟨hsz, hP, hK, hD0, hG⟩, hE⟩ := hv
  have hx := B.exec
  have hb := B.bytes
  have hr := B.returns
  have hts := atoms_spec (ws := w_k_X2_advance) B.pre
  have hown : s.vm.findClass RX2 = some m.cls := findClass_of_methodNamed B.named
  have hlocks := B.notSynchronized
  subst hsz
  have hD := hD0.self (sz := s.heap.size)
  generalize hAe : va_A (v0_k_X2_advance cy a) s.heap.size = A at hD hE ⊢
  have hA : ∀ q : Nat, s.heap.size ≤ q → A q := fun q h => by rw [← hAe]; exact Or.inr h
  have hS : va_S A s.heap s.heap [] := va_S.rf
  have hP : va_P (dC, dI) nCl (v0_k_X2_advance cy a) s.heap := hP
  have hl := lv_entry ([.ref (a 0)]) (n := 7) (Nat.le_of_ble_eq_true rfl)
  rw [lg_entry_eq]
  generalize (lg_sl ([.ref (a 0)]) ++ List.replicate (7 - (lg_sl ([.ref (a 0)])).length) Slot.unset).toArray = ls at hl ⊢
  have hl : lv_has ls 7 [(0, .ref (a 0))] := hl
  have hP : va_P (dC, dI) nCl [((a 0), .inr (2, [.ref (a 1), .int 0, .int 0, .int 0, .int 0, .long 0, .long 0, .ref (a 2)])), ((a 1), .inl (cy 0, 1024, .inl nZ))] s.heap := hP
  have hD : va_D A [((a 0), .inr (2, [.ref (a 1), .int 0, .int 0, .int 0, .int 0, .long 0, .long 0, .ref (a 2)])), ((a 1), .inl (cy 0, 1024, .inl nZ))] := hD
  refine lv_aload_n hx hb dX2_advance_0 rfl (lv_at hl 0 rfl) ?_
  refine va_get (D := (dC, dI)) (ci := 2) (v := .int 0) (C := RX2) (T := TX2) (N := 8) hx hb hts in_k_X2_advance_X2 hown hK hP 0 rfl rfl 4 (by decide) (hts _ (List.mem_cons_of_mem _ (List.mem_append_left _ (List.mem_append_left _ (List.mem_of_getElem? (i := 0) rfl))))) (fun _ h9 => h9) rfl dX2_advance_1 ?_
  refine lv_istore_n (lv' := [(1, .int 0), (0, .ref (a 0))]) hx hb dX2_advance_4 rfl hl (by decide) rfl (fun ls hl => ?_)
  refine lv_iconst (v := 0) hx hb dX2_advance_5 (by decide) ?_
  refine lv_istore_n (lv' := [(2, .int 0), (1, .int 0), (0, .ref (a 0))]) hx hb dX2_advance_6 rfl hl (by decide) rfl (fun ls hl => ?_)
  refine lv_iconst (v := 1) hx hb dX2_advance_7 (by decide) ?_
  refine lv_istore_n (lv' := [(3, .int 1), (2, .int 0), (1, .int 0), (0, .ref (a 0))]) hx hb dX2_advance_8 rfl hl (by decide) rfl (fun ls hl => ?_)
  refine lv_aload_n hx hb dX2_advance_9 rfl (lv_at hl 3 rfl) ?_
  refine va_get (D := (dC, dI)) (ci := 2) (v := .int 0) (C := RX2) (T := TX2) (N := 8) hx hb hts in_k_X2_advance_X2 hown hK hP 0 rfl rfl 4 (by decide) (hts _ (List.mem_cons_of_mem _ (List.mem_append_left _ (List.mem_append_left _ (List.mem_of_getElem? (i := 0) rfl))))) (fun _ h9 => h9) rfl dX2_advance_10 ?_
  refine lv_istore (lv' := [(4, .int 0), (3, .int 1), (2, .int 0), (1, .int 0), (0, .ref (a 0))]) hx hb dX2_advance_13 hl (by decide) rfl (fun ls hl => ?_)
  refine lv_iload hx hb dX2_advance_15 (lv_at hl 0 rfl) ?_
  refine lv_aload_n hx hb dX2_advance_17 rfl (lv_at hl 4 rfl) ?_
  refine va_get (D := (dC, dI)) (ci := 2) (v := .int 0) (C := RX2) (T := TX2) (N := 8) hx hb hts in_k_X2_advance_X2 hown hK hP 0 rfl rfl 1 (by decide) (hts _ (List.mem_cons_of_mem _ (List.mem_append_left _ (List.mem_append_left _ (List.mem_of_getElem? (i := 1) rfl))))) (fun _ h9 => h9) rfl dX2_advance_18 ?_
  refine lv_icmp_ge (tgt := 129) hx hb dX2_advance_21 (by decide) (fun _ => ?_) (fun c1 => False.elim (by revert c1; decide))
  refine lv_aload_n hx hb dX2_advance_129 rfl (lv_at hl 4 rfl) ?_
  refine lv_iload_n hx hb dX2_advance_130 rfl (lv_at hl 3 rfl) ?_
  refine va_put (D := (dC, dI)) (ci := 2) (v := .int 0) (ty := .int) (C := RX2) (T := TX2) (N := 8) hx hb hts in_k_X2_advance_X2 tyX2 tyX2_ok nmX2 hown hK hP hD hS 0 rfl rfl 3 (by decide) (hts _ (List.mem_cons_of_mem _ (List.mem_append_left _ (List.mem_append_left _ (List.mem_of_getElem? (i := 2) rfl))))) (fun _ h9 => h9) rfl (by decide +kernel) rfl rfl (Nat.le_of_ble_eq_true rfl) dX2_advance_131 (fun H locs hP hD hS => ?_)
  have hP : va_P (dC, dI) nCl [((a 0), .inr (2, [.ref (a 1), .int 0, .int 0, .int 0, .int 0, .long 0, .long 0, .ref (a 2)])), ((a 1), .inl (cy 0, 1024, .inl nZ))] H := hP
  have hD : va_D A [((a 0), .inr (2, [.ref (a 1), .int 0, .int 0, .int 0, .int 0, .long 0, .long 0, .ref (a 2)])), ((a 1), .inl (cy 0, 1024, .inl nZ))] := hD
  refine lv_aload_n hx hb dX2_advance_134 rfl (lv_at hl 4 rfl) ?_
  refine lv_iload_n hx hb dX2_advance_135 rfl (lv_at hl 3 rfl) ?_
  refine lv_aload_n hx hb dX2_advance_136 rfl (lv_at hl 4 rfl) ?_
  refine va_get (D := (dC, dI)) (ci := 2) (v := .int 0) (C := RX2) (T := TX2) (N := 8) hx hb hts in_k_X2_advance_X2 hown hK hP 0 rfl rfl 1 (by decide) (hts _ (List.mem_cons_of_mem _ (List.mem_append_left _ (List.mem_append_left _ (List.mem_of_getElem? (i := 1) rfl))))) (fun _ h9 => h9) rfl dX2_advance_137 ?_
  refine lv_icmp_ge (tgt := 149) hx hb dX2_advance_140 (by decide) (fun _ => ?_) (fun c1 => False.elim (by revert c1; decide))
  refine lv_iload_n hx hb dX2_advance_149 rfl (lv_at hl 3 rfl) ?_
  refine va_put (D := (dC, dI)) (ci := 2) (v := .int 0) (ty := .int) (C := RX2) (T := TX2) (N := 8) hx hb hts in_k_X2_advance_X2 tyX2 tyX2_ok nmX2 hown hK hP hD hS 0 rfl rfl 4 (by decide) (hts _ (List.mem_cons_of_mem _ (List.mem_append_left _ (List.mem_append_left _ (List.mem_of_getElem? (i := 0) rfl))))) (fun _ h9 => h9) rfl (by decide +kernel) rfl rfl (Nat.le_of_ble_eq_true rfl) dX2_advance_150 (fun H locs hP hD hS => ?_)
  have hP : va_P (dC, dI) nCl [((a 0), .inr (2, [.ref (a 1), .int 0, .int 0, .int 0, .int 0, .long 0, .long 0, .ref (a 2)])), ((a 1), .inl (cy 0, 1024, .inl nZ))] H := hP
  have hD : va_D A [((a 0), .inr (2, [.ref (a 1), .int 0, .int 0, .int 0, .int 0, .long 0, .long 0, .ref (a 2)])), ((a 1), .inl (cy 0, 1024, .inl nZ))] := hD
  refine lv_aload_n hx hb dX2_advance_153 rfl (lv_at hl 4 rfl) ?_
  refine lv_iload_n hx hb dX2_advance_154 rfl (lv_at hl 3 rfl) ?_
  refine lv_aload_n hx hb dX2_advance_155 rfl (lv_at hl 4 rfl) ?_
  refine va_get (D := (dC, dI)) (ci := 2) (v := .int 0) (C := RX2) (T := TX2) (N := 8) hx hb hts in_k_X2_advance_X2 hown hK hP 0 rfl rfl 1 (by decide) (hts _ (List.mem_cons_of_mem _ (List.mem_append_left _ (List.mem_append_left _ (List.mem_of_getElem? (i := 1) rfl))))) (fun _ h9 => h9) rfl dX2_advance_156 ?_
  refine lv_icmp_lt (tgt := 166) hx hb dX2_advance_159 (by decide) (fun c1 => False.elim (by revert c1; decide)) (fun _ => ?_)
  refine lv_iconst (v := 1) hx hb dX2_advance_162 (by decide) ?_
  refine lv_goto (tgt := 189) hx hb dX2_advance_163 (by decide) ?_
  refine va_put (D := (dC, dI)) (ci := 2) (v := .int 1) (ty := .int) (C := RX2) (T := TX2) (N := 8) hx hb hts in_k_X2_advance_X2 tyX2 tyX2_ok nmX2 hown hK hP hD hS 0 rfl rfl 2 (by decide) (hts _ (List.mem_cons_of_mem _ (List.mem_append_left _ (List.mem_append_left _ (List.mem_of_getElem? (i := 3) rfl))))) (fun _ h9 => h9) rfl (by decide +kernel) rfl rfl (Nat.le_of_ble_eq_true rfl) dX2_advance_189 (fun H locs hP hD hS => ?_)
  have hP : va_P (dC, dI) nCl [((a 0), .inr (2, [.ref (a 1), .int 0, .int 1, .int 0, .int 0, .long 0, .long 0, .ref (a 2)])), ((a 1), .inl (cy 0, 1024, .inl nZ))] H := hP
  have hD : va_D A [((a 0), .inr (2, [.ref (a 1), .int 0, .int 1, .int 0, .int 0, .long 0, .long 0, .ref (a 2)])), ((a 1), .inl (cy 0, 1024, .inl nZ))] := hD
  refine lv_aload_n hx hb dX2_advance_192 rfl (lv_at hl 4 rfl) ?_
  refine va_get (D := (dC, dI)) (ci := 2) (v := .ref (a 1)) (C := RX2) (T := TX2) (N := 8) hx hb hts in_k_X2_advance_X2 hown hK hP 0 rfl rfl 0 (by decide) (hts _ (List.mem_cons_of_mem _ (List.mem_append_left _ (List.mem_append_left _ (List.mem_of_getElem? (i := 4) rfl))))) (fun _ h9 => h9) rfl dX2_advance_193 ?_
  refine lv_aload_n hx hb dX2_advance_196 rfl (lv_at hl 4 rfl) ?_
  refine va_get (D := (dC, dI)) (ci := 2) (v := .int 0) (C := RX2) (T := TX2) (N := 8) hx hb hts in_k_X2_advance_X2 hown hK hP 0 rfl rfl 4 (by decide) (hts _ (List.mem_cons_of_mem _ (List.mem_append_left _ (List.mem_append_left _ (List.mem_of_getElem? (i := 0) rfl))))) (fun _ h9 => h9) rfl dX2_advance_197 ?_
  refine va_bald hx hb hK hP 1 0 rfl rfl (nb_in (by decide)) dX2_advance_200 ?_
  refine W.eq (g2 := F0 m 201 ls [.int 0]) rfl ?_
  refine lv_istore (lv' := [(4, .int 0), (3, .int 1), (2, .int 0), (1, .int 0), (0, .ref (a 0))]) hx hb dX2_advance_201 hl (by decide) rfl (fun ls hl => ?_)
  refine lv_aload_n hx hb dX2_advance_203 rfl (lv_at hl 4 rfl) ?_
  refine va_get (D := (dC, dI)) (ci := 2) (v := .int 1) (C := RX2) (T := TX2) (N := 8) hx hb hts in_k_X2_advance_X2 hown hK hP 0 rfl rfl 2 (by decide) (hts _ (List.mem_cons_of_mem _ (List.mem_append_left _ (List.mem_append_left _ (List.mem_of_getElem? (i := 3) rfl))))) (fun _ h9 => h9) rfl dX2_advance_204 ?_
  refine lv_iconst (v := 2) hx hb dX2_advance_207 (by decide) ?_
  refine lv_icmp_ne (tgt := 456) hx hb dX2_advance_208 (by decide) (fun _ => ?_) (fun c1 => False.elim (by revert c1; decide))
  refine lv_aload_n hx hb dX2_advance_456 rfl (lv_at hl 4 rfl) ?_
  refine va_get (D := (dC, dI)) (ci := 2) (v := .int 1) (C := RX2) (T := TX2) (N := 8) hx hb hts in_k_X2_advance_X2 hown hK hP 0 rfl rfl 2 (by decide) (hts _ (List.mem_cons_of_mem _ (List.mem_append_left _ (List.mem_append_left _ (List.mem_of_getElem? (i := 3) rfl))))) (fun _ h9 => h9) rfl dX2_advance_457 ?_
  refine lv_iconst (v := 3) hx hb dX2_advance_460 (by decide) ?_
  refine lv_icmp_ne (tgt := 537) hx hb dX2_advance_461 (by decide) (fun _ => ?_) (fun c1 => False.elim (by revert c1; decide))
  refine lv_aload_n hx hb dX2_advance_537 rfl (lv_at hl 4 rfl) ?_
  refine va_get (D := (dC, dI)) (ci := 2) (v := .int 1) (C := RX2) (T := TX2) (N := 8) hx hb hts in_k_X2_advance_X2 hown hK hP 0 rfl rfl 2 (by decide) (hts _ (List.mem_cons_of_mem _ (List.mem_append_left _ (List.mem_append_left _ (List.mem_of_getElem? (i := 3) rfl))))) (fun _ h9 => h9) rfl dX2_advance_538 ?_
  refine lv_iconst (v := 4) hx hb dX2_advance_541 (by decide) ?_
  refine lv_icmp_ne (tgt := 661) hx hb dX2_advance_542 (by decide) (fun _ => ?_) (fun c1 => False.elim (by revert c1; decide))
  refine lv_iload hx hb dX2_advance_661 (lv_at hl 0 rfl) ?_
  refine lv_bipush (v := 61) hx hb dX2_advance_663 (by decide) ?_
  refine lv_icmp_ne (tgt := 754) hx hb dX2_advance_665 (by decide) (fun _ => ?_) (fun c1 => False.elim (by revert c1; decide))
  refine lv_aload_n hx hb dX2_advance_754 rfl (lv_at hl 4 rfl) ?_
  refine va_get (D := (dC, dI)) (ci := 2) (v := .int 1) (C := RX2) (T := TX2) (N := 8) hx hb hts in_k_X2_advance_X2 hown hK hP 0 rfl rfl 2 (by decide) (hts _ (List.mem_cons_of_mem _ (List.mem_append_left _ (List.mem_append_left _ (List.mem_of_getElem? (i := 3) rfl))))) (fun _ h9 => h9) rfl dX2_advance_755 ?_
  refine lv_bipush (v := 8) hx hb dX2_advance_758 (by decide) ?_
  refine lv_icmp_ne (tgt := 770) hx hb dX2_advance_760 (by decide) (fun _ => ?_) (fun c1 => False.elim (by revert c1; decide))
  refine lv_aload_n hx hb dX2_advance_770 rfl (lv_at hl 4 rfl) ?_
  refine va_get (D := (dC, dI)) (ci := 2) (v := .int 1) (C := RX2) (T := TX2) (N := 8) hx hb hts in_k_X2_advance_X2 hown hK hP 0 rfl rfl 2 (by decide) (hts _ (List.mem_cons_of_mem _ (List.mem_append_left _ (List.mem_append_left _ (List.mem_of_getElem? (i := 3) rfl))))) (fun _ h9 => h9) rfl dX2_advance_771 ?_
  refine lv_bipush (v := 29) hx hb dX2_advance_774 (by decide) ?_
  refine lv_icmp_ne (tgt := 816) hx hb dX2_advance_776 (by decide) (fun _ => ?_) (fun c1 => False.elim (by revert c1; decide))
  refine lv_aload_n hx hb dX2_advance_816 rfl (lv_at hl 4 rfl) ?_
  refine va_get (D := (dC, dI)) (ci := 2) (v := .int 1) (C := RX2) (T := TX2) (N := 8) hx hb hts in_k_X2_advance_X2 hown hK hP 0 rfl rfl 2 (by decide) (hts _ (List.mem_cons_of_mem _ (List.mem_append_left _ (List.mem_append_left _ (List.mem_of_getElem? (i := 3) rfl))))) (fun _ h9 => h9) rfl dX2_advance_817 ?_
  refine lv_if_eq (tgt := 841) hx hb dX2_advance_820 (by decide) (fun c1 => False.elim (by revert c1; decide)) (fun _ => ?_)
  refine lv_aload_n hx hb dX2_advance_823 rfl (lv_at hl 4 rfl) ?_
  refine va_get (D := (dC, dI)) (ci := 2) (v := .int 1) (C := RX2) (T := TX2) (N := 8) hx hb hts in_k_X2_advance_X2 hown hK hP 0 rfl rfl 2 (by decide) (hts _ (List.mem_cons_of_mem _ (List.mem_append_left _ (List.mem_append_left _ (List.mem_of_getElem? (i := 3) rfl))))) (fun _ h9 => h9) rfl dX2_advance_824 ?_
  refine lv_bipush (v := 29) hx hb dX2_advance_827 (by decide) ?_
  refine lv_icmp_eq (tgt := 841) hx hb dX2_advance_829 (by decide) (fun c1 => False.elim (by revert c1; decide)) (fun _ => ?_)
  refine lv_aload_n hx hb dX2_advance_832 rfl (lv_at hl 4 rfl) ?_
  refine va_get (D := (dC, dI)) (ci := 2) (v := .int 1) (C := RX2) (T := TX2) (N := 8) hx hb hts in_k_X2_advance_X2 hown hK hP 0 rfl rfl 2 (by decide) (hts _ (List.mem_cons_of_mem _ (List.mem_append_left _ (List.mem_append_left _ (List.mem_of_getElem? (i := 3) rfl))))) (fun _ h9 => h9) rfl dX2_advance_833 ?_
  refine lv_bipush (v := 30) hx hb dX2_advance_836 (by decide) ?_
  refine lv_icmp_ne (tgt := 849) hx hb dX2_advance_838 (by decide) (fun _ => ?_) (fun c1 => False.elim (by revert c1; decide))
  have hP : va_P (dC, dI) nCl (v1_k_X2_advance cy a (fun _ => 0)) H := hP
  have hD : va_D A (v1_k_X2_advance cy a (fun _ => 0)) := hD
  exact W.vret hx hb hr (fun t ht hW => ⟨⟨(fun _ => 0), rfl, trivial, by rw [ht]; exact hP, va_K.moved hW.alike hK, hD⟩, hS.F ht⟩) hS.2.2 dX2_advance_849
def o_k_X5_beginsStatement : List Cond := [.fieldLink RX5 18 "SetHouse$Parser" "lex" "LSetHouse$Lexer;"]
theorem o_k_X5_beginsStatement_good : o_k_X5_beginsStatement.all goodWord = true := by decide +kernel
def p_k_X5_beginsStatement : List Cond := o_k_X5_beginsStatement ++ []
theorem p_k_X5_beginsStatement_good : p_k_X5_beginsStatement.all goodWord = true := nb_all2 o_k_X5_beginsStatement_good rfl
def w_k_X5_beginsStatement : List Cond := .code yX5_beginsStatement cX5_beginsStatement 1 (some .boolean) :: (p_k_X5_beginsStatement ++ fC)
theorem w_k_X5_beginsStatement_good : w_k_X5_beginsStatement.all goodWord = true := nb_allc (by decide +kernel) (nb_all2 p_k_X5_beginsStatement_good fC_good)
theorem in_k_X5_beginsStatement_X2 : ∀ w ∈ wsX20, w ∈ w_k_X5_beginsStatement := fun _ h => List.mem_cons_of_mem _ (List.mem_append_right _ (List.mem_append_right _ (List.mem_append_right _ (List.mem_append_left _ h))))
theorem in_k_X5_beginsStatement_X5 : ∀ w ∈ wsX50, w ∈ w_k_X5_beginsStatement := fun _ h => List.mem_cons_of_mem _ (List.mem_append_right _ (List.mem_append_right _ (List.mem_append_right _ (List.mem_append_right _ (List.mem_append_right _ (List.mem_append_left _ h))))))
def v0_k_X5_beginsStatement (cy : Nat → ClassId) (a : Nat → Nat) : va_W := [((a 0), .inr (4, [.ref (a 1), .ref (a 2), .ref (a 3), .int 0, .int 2, .int 0, .int 0, .int 0, .int (-1), .int 0, .ref (a 4), .int 0, .ref (a 5), .int 0, .int 0, .int 0, .int (-1), .int 0, .int 0, .int 0, .int 0])), ((a 1), .inr (2, [.ref (a 6), .int 0, .int 1, .int 0, .int 0, .long 0, .long 0, .ref (a 7)]))]
def v1_k_X5_beginsStatement (cy : Nat → ClassId) (a : Nat → Nat) (r : Nat → Nat) : va_W := [((a 0), .inr (4, [.ref (a 1), .ref (a 2), .ref (a 3), .int 0, .int 2, .int 0, .int 0, .int 0, .int (-1), .int 0, .ref (a 4), .int 0, .ref (a 5), .int 0, .int 0, .int 0, .int (-1), .int 0, .int 0, .int 0, .int 0])), ((a 1), .inr (2, [.ref (a 6), .int 0, .int 1, .int 0, .int 0, .long 0, .long 0, .ref (a 7)]))]
set_option maxHeartbeats 40000000 in
set_option maxRecDepth 100000 in
theorem k_X5_beginsStatement (l : Launch) (dC : Nat → ClassId) (dI : Nat → Nat → Nat) (cy : Nat → ClassId) (k : Nat → Nat) (a : Nat → Nat) (sz : Nat) : Met l yX5_beginsStatement w_k_X5_beginsStatement ({ frames := 0, cells := 0, slots := 0, locals := 0 }) (va_Pc [.ref (a 0)] (nInE (dC, dI) cy k sz (v0_k_X5_beginsStatement cy a))) (va_Qi (fun (z : Int32) (_ : Nat → Nat) => z = 0) (fun r t => nOut (dC, dI) cy (va_A (v0_k_X5_beginsStatement cy a) sz) (v1_k_X5_beginsStatement cy a r) t) (va_A (v0_k_X5_beginsStatement cy a) sz)) 0 0 (va_A (v0_k_X5_beginsStatement cy a) sz) := by
  refine Met.ofW (cc := cX5_beginsStatement) (maxL := 1) (ret := (some .boolean)) (by decide) rfl ?_
  intro p e s m args below meth c s₁ B hml hv
  obtain ⟨rfl, ⟨hsz, hP, hK, hD0, hG⟩, hE⟩ := hv
  have hx := B.exec
  have hb := B.bytes
  have hr := B.returns
  have hts := atoms_spec (ws := w_k_X5_beginsStatement) B.pre
  have hown : s.vm.findClass RX5 = some m.cls := findClass_of_methodNamed B.named
  have hlocks := B.notSynchronized
  subst hsz
  have hD := hD0.self (sz := s.heap.size)
  generalize hAe : va_A (v0_k_X5_beginsStatement cy a) s.heap.size = A at hD hE ⊢
  have hA : ∀ q : Nat, s.heap.size ≤ q → A q := fun q h => by rw [← hAe]; exact Or.inr h
  have hS : va_S A s.heap s.heap [] := va_S.rf
  have hP : va_P (dC, dI) nCl (v0_k_X5_beginsStatement cy a) s.heap := hP
  have hl := lv_entry ([.ref (a 0)]) (n := 1) (Nat.le_of_ble_eq_true rfl)
  rw [lg_entry_eq]
  generalize (lg_sl ([.ref (a 0)]) ++ List.replicate (1 - (lg_sl ([.ref (a 0)])).length) Slot.unset).toArray = ls at hl ⊢
  have hl : lv_has ls 1 [(0, .ref (a 0))] := hl
  have hP : va_P (dC, dI) nCl [((a 0), .inr (4, [.ref (a 1), .ref (a 2), .ref (a 3), .int 0, .int 2, .int 0, .int 0, .int 0, .int (-1), .int 0, .ref (a 4), .int 0, .ref (a 5), .int 0, .int 0, .int 0, .int (-1), .int 0, .int 0, .int 0, .int 0])), ((a 1), .inr (2, [.ref (a 6), .int 0, .int 1, .int 0, .int 0, .long 0, .long 0, .ref (a 7)]))] s.heap := hP
  have hD : va_D A [((a 0), .inr (4, [.ref (a 1), .ref (a 2), .ref (a 3), .int 0, .int 2, .int 0, .int 0, .int 0, .int (-1), .int 0, .ref (a 4), .int 0, .ref (a 5), .int 0, .int 0, .int 0, .int (-1), .int 0, .int 0, .int 0, .int 0])), ((a 1), .inr (2, [.ref (a 6), .int 0, .int 1, .int 0, .int 0, .long 0, .long 0, .ref (a 7)]))] := hD
  refine lv_aload_n hx hb dX5_beginsStatement_0 rfl (lv_at hl 0 rfl) ?_
  refine va_get (D := (dC, dI)) (ci := 4) (v := .ref (a 1)) (C := RX5) (T := TX5) (N := 21) hx hb hts in_k_X5_beginsStatement_X5 hown hK hP 0 rfl rfl 0 (by decide) (hts _ (List.mem_cons_of_mem _ (List.mem_append_left _ (List.mem_append_left _ (List.mem_of_getElem? (i := 0) rfl))))) (fun _ h9 => h9) rfl dX5_beginsStatement_1 ?_
  refine va_getN (D := (dC, dI)) (ci := 2) (v := .int 1) (C := RX2) (T := TX2) (N := 8) hx hb hts in_k_X5_beginsStatement_X2 hown hK hP 1 rfl rfl 2 (by decide) (va_Nw.use rfl (hG.1 _ (List.mem_of_getElem? (i := 52) rfl))) (fun _ h9 => h9) rfl dX5_beginsStatement_4 ?_
  refine lv_tableOut (tgt := 242) hx hb dX5_beginsStatement_7 (by decide) (by decide) ?_
  refine lv_iconst (v := 0) hx hb dX5_beginsStatement_242 (by decide) ?_
  have hP : va_P (dC, dI) nCl (v1_k_X5_beginsStatement cy a (fun _ => 0)) s.heap := hP
  have hD : va_D A (v1_k_X5_beginsStatement cy a (fun _ => 0)) := hD
  exact W.zret (v := 0) hx hb hr rfl (fun t ht hW => ⟨⟨0, (fun _ => 0), rfl, rfl, by rw [ht]; exact hP, va_K.moved hW.alike hK, hD⟩, hS.F ht⟩) hS.2.2 dX5_beginsStatement_243
def o_k_X5_block : List Cond := [.methodLink RX5 205 yX5_beginsStatement, .instanceMethod yX5_beginsStatement, .selects RX5 yX5_beginsStatement yX5_beginsStatement, .initialized RX5]
theorem o_k_X5_block_good : o_k_X5_block.all goodWord = true := by decide +kernel
def p_k_X5_block : List Cond := o_k_X5_block ++ ((.code yX5_beginsStatement cX5_beginsStatement 1 (some .boolean) :: p_k_X5_beginsStatement) ++ [])
theorem p_k_X5_block_good : p_k_X5_block.all goodWord = true := nb_all2 o_k_X5_block_good (nb_all2 (nb_allc (by decide +kernel) p_k_X5_beginsStatement_good) rfl)
def w_k_X5_block : List Cond := .code yX5_block cX5_block 3 none :: (p_k_X5_block ++ fC)
theorem w_k_X5_block_good : w_k_X5_block.all goodWord = true := nb_allc (by decide +kernel) (nb_all2 p_k_X5_block_good fC_good)
theorem gg_k_X5_block_k_X5_beginsStatement : GoodIn w_k_X5_block w_k_X5_beginsStatement := goodIn_sub (fun w h => (List.mem_cons.mp h).elim (fun e => (List.mem_cons_of_mem _ (List.mem_append_left _ (List.mem_append_right _ (List.mem_append_left _ (List.mem_cons.mpr (Or.inl e))))))) (fun h => (List.mem_append.mp h).elim (fun h => (List.mem_cons_of_mem _ (List.mem_append_left _ (List.mem_append_right _ (List.mem_append_left _ (List.mem_cons_of_mem _ h)))))) (fun h => List.mem_cons_of_mem _ (List.mem_append_right _ h)))) w_k_X5_beginsStatement_good
theorem g_k_X5_block_205_k_X5_beginsStatement : GoodIn w_k_X5_block (wsV RX5 205 RX5 yX5_beginsStatement w_k_X5_beginsStatement) := goodIn_app (nb_g4 (List.mem_cons_of_mem _ (List.mem_append_left _ (List.mem_append_left _ (List.mem_of_getElem? (i := 0) rfl)))) (List.mem_cons_of_mem _ (List.mem_append_left _ (List.mem_append_left _ (List.mem_of_getElem? (i := 1) rfl)))) (List.mem_cons_of_mem _ (List.mem_append_left _ (List.mem_append_left _ (List.mem_of_getElem? (i := 2) rfl)))) (List.mem_cons_of_mem _ (List.mem_append_left _ (List.mem_append_left _ (List.mem_of_getElem? (i := 3) rfl)))) (by decide +kernel)) gg_k_X5_block_k_X5_beginsStatement
def v0_k_X5_block (cy : Nat → ClassId) (a : Nat → Nat) : va_W := [((a 0), .inr (4, [.ref (a 1), .ref (a 2), .ref (a 3), .int 0, .int 2, .int 0, .int 0, .int 0, .int (-1), .int 0, .ref (a 4), .int 0, .ref (a 5), .int 0, .int 0, .int 0, .int (-1), .int 0, .int 0, .int 0, .int 0])), ((a 1), .inr (2, [.ref (a 6), .int 0, .int 1, .int 0, .int 0, .long 0, .long 0, .ref (a 7)]))]
def v1_k_X5_block (cy : Nat → ClassId) (a : Nat → Nat) (r : Nat → Nat) : va_W := [((a 0), .inr (4, [.ref (a 1), .ref (a 2), .ref (a 3), .int 0, .int 2, .int 0, .int 0, .int 0, .int (-1), .int 0, .ref (a 4), .int 0, .ref (a 5), .int 0, .int 0, .int 0, .int (-1), .int 0, .int 0, .int 0, .int 0])), ((a 1), .inr (2, [.ref (a 6), .int 0, .int 1, .int 0, .int 0, .long 0, .long 0, .ref (a 7)]))]
set_option maxHeartbeats 40000000 in
set_option maxRecDepth 100000 in
theorem k_X5_block (l : Launch) (dC : Nat → ClassId) (dI : Nat → Nat → Nat) (cy : Nat → ClassId) (k : Nat → Nat) (a : Nat → Nat) (sz : Nat) : Met l yX5_block w_k_X5_block ({ frames := 1, cells := 0, slots := 0, locals := 20 }) (va_Pc [.ref (a 0)] (nInE (dC, dI) cy k sz (v0_k_X5_block cy a))) (va_Qv (fun _ : Nat → Nat => True) (fun r t => nOut (dC, dI) cy (va_A (v0_k_X5_block cy a) sz) (v1_k_X5_block cy a r) t) (va_A (v0_k_X5_block cy a) sz)) 0 0 (va_A (v0_k_X5_block cy a) sz) := by
  refine Met.ofW (cc := cX5_block) (maxL := 3) (ret := none) (by decide) rfl ?_
  intro p e s m args below meth c s₁ B hml hv
  obtain ⟨rfl, ⟨hsz, hP, hK, hD0, hG⟩, hE⟩ := hv
  have hx := B.exec
  have hb := B.bytes
  have hr := B.returns
  have hts := atoms_spec (ws := w_k_X5_block) B.pre
  have hown : s.vm.findClass RX5 = some m.cls := findClass_of_methodNamed B.named
  have hlocks := B.notSynchronized
  subst hsz
  have hD := hD0.self (sz := s.heap.size)
  generalize hAe : va_A (v0_k_X5_block cy a) s.heap.size = A at hD hE ⊢
  have hA : ∀ q : Nat, s.heap.size ≤ q → A q := fun q h => by rw [← hAe]; exact Or.inr h
  have hS : va_S A s.heap s.heap [] := va_S.rf
  have hP : va_P (dC, dI) nCl (v0_k_X5_block cy a) s.heap := hP
  have hl := lv_entry ([.ref (a 0)]) (n := 3) (Nat.le_of_ble_eq_true rfl)
  rw [lg_entry_eq]
  generalize (lg_sl ([.ref (a 0)]) ++ List.replicate (3 - (lg_sl ([.ref (a 0)])).length) Slot.unset).toArray = ls at hl ⊢
  have hl : lv_has ls 3 [(0, .ref (a 0))] := hl
  have hP : va_P (dC, dI) nCl [((a 0), .inr (4, [.ref (a 1), .ref (a 2), .ref (a 3), .int 0, .int 2, .int 0, .int 0, .int 0, .int (-1), .int 0, .ref (a 4), .int 0, .ref (a 5), .int 0, .int 0, .int 0, .int (-1), .int 0, .int 0, .int 0, .int 0])), ((a 1), .inr (2, [.ref (a 6), .int 0, .int 1, .int 0, .int 0, .long 0, .long 0, .ref (a 7)]))] s.heap := hP
  have hD : va_D A [((a 0), .inr (4, [.ref (a 1), .ref (a 2), .ref (a 3), .int 0, .int 2, .int 0, .int 0, .int 0, .int (-1), .int 0, .ref (a 4), .int 0, .ref (a 5), .int 0, .int 0, .int 0, .int (-1), .int 0, .int 0, .int 0, .int 0])), ((a 1), .inr (2, [.ref (a 6), .int 0, .int 1, .int 0, .int 0, .long 0, .long 0, .ref (a 7)]))] := hD
  refine lv_iconst (v := 0) hx hb dX5_block_0 (by decide) ?_
  refine lv_istore_n (lv' := [(1, .int 0), (0, .ref (a 0))]) hx hb dX5_block_1 rfl hl (by decide) rfl (fun ls hl => ?_)
  refine lv_iload_n hx hb dX5_block_2 rfl (lv_at hl 0 rfl) ?_
  refine lv_sipush (v := 400) hx hb dX5_block_3 (by decide) ?_
  refine lv_icmp_gt (tgt := 60) hx hb dX5_block_6 (by decide) (fun c1 => False.elim (by revert c1; decide)) (fun _ => ?_)
  refine lv_aload_n hx hb dX5_block_9 rfl (lv_at hl 1 rfl) ?_
  have hPc := hP.sub (ws' := [((a 0), .inr (4, [.ref (a 1), .ref (a 2), .ref (a 3), .int 0, .int 2, .int 0, .int 0, .int 0, .int (-1), .int 0, .ref (a 4), .int 0, .ref (a 5), .int 0, .int 0, .int 0, .int (-1), .int 0, .int 0, .int 0, .int 0])), ((a 1), .inr (2, [.ref (a 6), .int 0, .int 1, .int 0, .int 0, .long 0, .long 0, .ref (a 7)]))]) [0, 1] rfl
  have hPc : va_P (dC, dI) nCl (v0_k_X5_beginsStatement cy (fun j9 => [(a 0), (a 1), (a 2), (a 3), (a 4), (a 5), (a 6), (a 7)].getD j9 0)) s.heap := hPc
  have hDc := hD.sub (ws' := [((a 0), .inr (4, [.ref (a 1), .ref (a 2), .ref (a 3), .int 0, .int 2, .int 0, .int 0, .int 0, .int (-1), .int 0, .ref (a 4), .int 0, .ref (a 5), .int 0, .int 0, .int 0, .int (-1), .int 0, .int 0, .int 0, .int 0])), ((a 1), .inr (2, [.ref (a 6), .int 0, .int 1, .int 0, .int 0, .long 0, .long 0, .ref (a 7)]))]) [0, 1] (by decide) rfl
  have hDc : va_D A (v0_k_X5_beginsStatement cy (fun j9 => [(a 0), (a 1), (a 2), (a 3), (a 4), (a 5), (a 6), (a 7)].getD j9 0)) := hDc
  have hFc := va_free (wc := (v0_k_X5_beginsStatement cy (fun j9 => [(a 0), (a 1), (a 2), (a 3), (a 4), (a 5), (a 6), (a 7)].getD j9 0))) hD hS hA [0, 1] rfl
  refine va_calli (va_runV (As := []) (rest := []) ⟨hx, hb, hml, hown, hts⟩ (k_X5_beginsStatement l dC dI cy k (fun j9 => [(a 0), (a 1), (a 2), (a 3), (a 4), (a 5), (a 6), (a 7)].getD j9 0) s.heap.size) (cwV 0 hts g_k_X5_block_205_k_X5_beginsStatement rfl rfl rfl (by decide +kernel) ⟨Nat.le_of_ble_eq_true rfl, Nat.le_of_ble_eq_true rfl⟩) ⟨nb_blindE, va_recv hK hPc (ci := 4) (q0 := 0) rfl rfl, fun U hU hW => ⟨rfl, ⟨by rw [hU], by rw [hU]; exact hPc, va_K.moved hW.alike hK, hDc.weaken (fun _ _ _ _ => trivial), hG.warm hW⟩, nE.to hE hS hW hU hFc⟩⟩ rfl rfl hl.1 rfl (lv_room (Nat.le_of_ble_eq_true rfl)) dX5_block_10 ⟨Nat.le_of_ble_eq_true rfl, Nat.le_of_ble_eq_true rfl⟩) hS (fun q _ h => hFc q h) hFc (fun r_1 u1 t H1 locs ht hvm hw hB hz1 hk1 hS => ?_)
  subst hw
  obtain ⟨hP1, hK1, hD1⟩ := hB
  rw [ht] at hP1
  obtain ⟨hP, hD⟩ := va_join (wr := []) (w1 := v1_k_X5_beginsStatement cy (fun j9 => [(a 0), (a 1), (a 2), (a 3), (a 4), (a 5), (a 6), (a 7)].getD j9 0) u1) hP hD [0, 1] [] rfl rfl (by decide) (by decide) hk1 hFc hP1 hD1
  generalize H1 = H at hP hS ⊢
  have hP : va_P (dC, dI) nCl [((a 0), .inr (4, [.ref (a 1), .ref (a 2), .ref (a 3), .int 0, .int 2, .int 0, .int 0, .int 0, .int (-1), .int 0, .ref (a 4), .int 0, .ref (a 5), .int 0, .int 0, .int 0, .int (-1), .int 0, .int 0, .int 0, .int 0])), ((a 1), .inr (2, [.ref (a 6), .int 0, .int 1, .int 0, .int 0, .long 0, .long 0, .ref (a 7)]))] H := hP
  have hD : va_D A [((a 0), .inr (4, [.ref (a 1), .ref (a 2), .ref (a 3), .int 0, .int 2, .int 0, .int 0, .int 0, .int (-1), .int 0, .ref (a 4), .int 0, .ref (a 5), .int 0, .int 0, .int 0, .int (-1), .int 0, .int 0, .int 0, .int 0])), ((a 1), .inr (2, [.ref (a 6), .int 0, .int 1, .int 0, .int 0, .long 0, .long 0, .ref (a 7)]))] := hD
  refine lv_if_eq (tgt := 60) hx hb dX5_block_13 (by decide) (fun _ => ?_) (fun c1 => False.elim (by revert c1; decide))
  have hP : va_P (dC, dI) nCl (v1_k_X5_block cy a (fun _ => 0)) H := hP
  have hD : va_D A (v1_k_X5_block cy a (fun _ => 0)) := hD
  exact W.vret hx hb hr (fun t ht hW => ⟨⟨(fun _ => 0), rfl, trivial, by rw [ht]; exact hP, va_K.moved hW.alike hK, hD⟩, hS.F ht⟩) hS.2.2 dX5_block_60
def o_k_X5_want : List Cond := [.fieldLink RX5 18 "SetHouse$Parser" "lex" "LSetHouse$Lexer;"]
theorem o_k_X5_want_good : o_k_X5_want.all goodWord = true := by decide +kernel
def p_k_X5_want : List Cond := o_k_X5_want ++ []
theorem p_k_X5_want_good : p_k_X5_want.all goodWord = true := nb_all2 o_k_X5_want_good rfl
def w_k_X5_want : List Cond := .code yX5_want cX5_want 2 none :: (p_k_X5_want ++ fC)
theorem w_k_X5_want_good : w_k_X5_want.all goodWord = true := nb_allc (by decide +kernel) (nb_all2 p_k_X5_want_good fC_good)
theorem in_k_X5_want_X2 : ∀ w ∈ wsX20, w ∈ w_k_X5_want := fun _ h => List.mem_cons_of_mem _ (List.mem_append_right _ (List.mem_append_right _ (List.mem_append_right _ (List.mem_append_left _ h))))
theorem in_k_X5_want_X5 : ∀ w ∈ wsX50, w ∈ w_k_X5_want := fun _ h => List.mem_cons_of_mem _ (List.mem_append_right _ (List.mem_append_right _ (List.mem_append_right _ (List.mem_append_right _ (List.mem_append_right _ (List.mem_append_left _ h))))))
def v0_k_X5_want (cy : Nat → ClassId) (a : Nat → Nat) : va_W := [((a 0), .inr (4, [.ref (a 1), .ref (a 2), .ref (a 3), .int 0, .int 2, .int 0, .int 0, .int 0, .int (-1), .int 0, .ref (a 4), .int 0, .ref (a 5), .int 0, .int 0, .int 0, .int (-1), .int 0, .int 0, .int 0, .int 0])), ((a 1), .inr (2, [.ref (a 6), .int 0, .int 1, .int 0, .int 0, .long 0, .long 0, .ref (a 7)]))]
def v1_k_X5_want (cy : Nat → ClassId) (a : Nat → Nat) (r : Nat → Nat) : va_W := [((a 0), .inr (4, [.ref (a 1), .ref (a 2), .ref (a 3), .int 0, .int 2, .int 0, .int 0, .int 0, .int (-1), .int 0, .ref (a 4), .int 0, .ref (a 5), .int 0, .int 0, .int 0, .int (-1), .int 0, .int 0, .int 0, .int 0])), ((a 1), .inr (2, [.ref (a 6), .int 0, .int 1, .int 0, .int 0, .long 0, .long 0, .ref (a 7)]))]
set_option maxHeartbeats 40000000 in
set_option maxRecDepth 100000 in
theorem k_X5_want (l : Launch) (dC : Nat → ClassId) (dI : Nat → Nat → Nat) (cy : Nat → ClassId) (k : Nat → Nat) (a : Nat → Nat) (sz : Nat) : Met l yX5_want w_k_X5_want ({ frames := 0, cells := 0, slots := 0, locals := 0 }) (va_Pc [.ref (a 0), .int 1] (nInE (dC, dI) cy k sz (v0_k_X5_want cy a))) (va_Qv (fun _ : Nat → Nat => True) (fun r t => nOut (dC, dI) cy (va_A (v0_k_X5_want cy a) sz) (v1_k_X5_want cy a r) t) (va_A (v0_k_X5_want cy a) sz)) 0 0 (va_A (v0_k_X5_want cy a) sz) := by
  refine Met.ofW (cc := cX5_want) (maxL := 2) (ret := none) (by decide) rfl ?_
  intro p e s m args below meth c s₁ B hml hv
  obtain ⟨rfl, ⟨hsz, hP, hK, hD0, hG⟩, hE⟩ := hv
  have hx := B.exec
  have hb := B.bytes
  have hr := B.returns
  have hts := atoms_spec (ws := w_k_X5_want) B.pre
  have hown : s.vm.findClass RX5 = some m.cls := findClass_of_methodNamed B.named
  have hlocks := B.notSynchronized
  subst hsz
  have hD := hD0.self (sz := s.heap.size)
  generalize hAe : va_A (v0_k_X5_want cy a) s.heap.size = A at hD hE ⊢
  have hA : ∀ q : Nat, s.heap.size ≤ q → A q := fun q h => by rw [← hAe]; exact Or.inr h
  have hS : va_S A s.heap s.heap [] := va_S.rf
  have hP : va_P (dC, dI) nCl (v0_k_X5_want cy a) s.heap := hP
  have hl := lv_entry ([.ref (a 0), .int 1]) (n := 2) (Nat.le_of_ble_eq_true rfl)
  rw [lg_entry_eq]
  generalize (lg_sl ([.ref (a 0), .int 1]) ++ List.replicate (2 - (lg_sl ([.ref (a 0), .int 1])).length) Slot.unset).toArray = ls at hl ⊢
  have hl : lv_has ls 2 [(0, .ref (a 0)), (1, .int 1)] := hl
  have hP : va_P (dC, dI) nCl [((a 0), .inr (4, [.ref (a 1), .ref (a 2), .ref (a 3), .int 0, .int 2, .int 0, .int 0, .int 0, .int (-1), .int 0, .ref (a 4), .int 0, .ref (a 5), .int 0, .int 0, .int 0, .int (-1), .int 0, .int 0, .int 0, .int 0])), ((a 1), .inr (2, [.ref (a 6), .int 0, .int 1, .int 0, .int 0, .long 0, .long 0, .ref (a 7)]))] s.heap := hP
  have hD : va_D A [((a 0), .inr (4, [.ref (a 1), .ref (a 2), .ref (a 3), .int 0, .int 2, .int 0, .int 0, .int 0, .int (-1), .int 0, .ref (a 4), .int 0, .ref (a 5), .int 0, .int 0, .int 0, .int (-1), .int 0, .int 0, .int 0, .int 0])), ((a 1), .inr (2, [.ref (a 6), .int 0, .int 1, .int 0, .int 0, .long 0, .long 0, .ref (a 7)]))] := hD
  refine lv_aload_n hx hb dX5_want_0 rfl (lv_at hl 0 rfl) ?_
  refine va_get (D := (dC, dI)) (ci := 4) (v := .ref (a 1)) (C := RX5) (T := TX5) (N := 21) hx hb hts in_k_X5_want_X5 hown hK hP 0 rfl rfl 0 (by decide) (hts _ (List.mem_cons_of_mem _ (List.mem_append_left _ (List.mem_append_left _ (List.mem_of_getElem? (i := 0) rfl))))) (fun _ h9 => h9) rfl dX5_want_1 ?_
  refine va_getN (D := (dC, dI)) (ci := 2) (v := .int 1) (C := RX2) (T := TX2) (N := 8) hx hb hts in_k_X5_want_X2 hown hK hP 1 rfl rfl 2 (by decide) (va_Nw.use rfl (hG.1 _ (List.mem_of_getElem? (i := 52) rfl))) (fun _ h9 => h9) rfl dX5_want_4 ?_
  refine lv_iload_n hx hb dX5_want_7 rfl (lv_at hl 1 rfl) ?_
  refine lv_icmp_eq (tgt := 23) hx hb dX5_want_8 (by decide) (fun _ => ?_) (fun c1 => False.elim (by revert c1; decide))
  have hP : va_P (dC, dI) nCl (v1_k_X5_want cy a (fun _ => 0)) s.heap := hP
  have hD : va_D A (v1_k_X5_want cy a (fun _ => 0)) := hD
  exact W.vret hx hb hr (fun t ht hW => ⟨⟨(fun _ => 0), rfl, trivial, by rw [ht]; exact hP, va_K.moved hW.alike hK, hD⟩, hS.F ht⟩) hS.2.2 dX5_want_23
def o_k_X7_widen : List Cond := [.fieldLink RX7 53 "SetHouse$Program" "size" "I", .fieldLink RX7 9 "SetHouse$Program" "code" "[I"]
theorem o_k_X7_widen_good : o_k_X7_widen.all goodWord = true := by decide +kernel
def p_k_X7_widen : List Cond := o_k_X7_widen ++ []
theorem p_k_X7_widen_good : p_k_X7_widen.all goodWord = true := nb_all2 o_k_X7_widen_good rfl
def w_k_X7_widen : List Cond := .code yX7_widen cX7_widen 2 none :: (p_k_X7_widen ++ fC)
theorem w_k_X7_widen_good : w_k_X7_widen.all goodWord = true := nb_allc (by decide +kernel) (nb_all2 p_k_X7_widen_good fC_good)
theorem in_k_X7_widen_X7 : ∀ w ∈ wsX70, w ∈ w_k_X7_widen := fun _ h => List.mem_cons_of_mem _ (List.mem_append_right _ (List.mem_append_right _ (List.mem_append_right _ (List.mem_append_right _ (List.mem_append_right _ (List.mem_append_right _ (List.mem_append_right _ (List.mem_append_left _ h))))))))
def v0_k_X7_widen (cy : Nat → ClassId) (a : Nat → Nat) : va_W := [((a 0), .inr (6, [.ref (a 1), .int 0, .int 0, .int 0, .int 0, .ref (a 2), .ref (a 3), .ref (a 4), .ref (a 5), .ref (a 6), .ref (a 7), .int 0, .int 0, .ref (a 8), .ref (a 9), .ref (a 10), .ref (a 11), .ref (a 12), .ref (a 13), .int 0])), ((a 1), .inl (cy 1, 1024, .inl nZ))]
def v1_k_X7_widen (cy : Nat → ClassId) (a : Nat → Nat) (r : Nat → Nat) : va_W := [((a 0), .inr (6, [.ref (a 1), .int 0, .int 0, .int 0, .int 0, .ref (a 2), .ref (a 3), .ref (a 4), .ref (a 5), .ref (a 6), .ref (a 7), .int 0, .int 0, .ref (a 8), .ref (a 9), .ref (a 10), .ref (a 11), .ref (a 12), .ref (a 13), .int 0])), ((a 1), .inl (cy 1, 1024, .inl nZ))]
set_option maxHeartbeats 40000000 in
set_option maxRecDepth 100000 in
theorem k_X7_widen (l : Launch) (dC : Nat → ClassId) (dI : Nat → Nat → Nat) (cy : Nat → ClassId) (k : Nat → Nat) (a : Nat → Nat) (sz : Nat) : Met l yX7_widen w_k_X7_widen ({ frames := 0, cells := 0, slots := 0, locals := 0 }) (va_Pc [.ref (a 0), .int 1] (nInE (dC, dI) cy k sz (v0_k_X7_widen cy a))) (va_Qv (fun _ : Nat → Nat => True) (fun r t => nOut (dC, dI) cy (va_A (v0_k_X7_widen cy a) sz) (v1_k_X7_widen cy a r) t) (va_A (v0_k_X7_widen cy a) sz)) 0 0 (va_A (v0_k_X7_widen cy a) sz) := by
  refine Met.ofW (cc := cX7_widen) (maxL := 2) (ret := none) (by decide) rfl ?_
  intro p e s m args below meth c s₁ B hml hv
  obtain ⟨rfl, ⟨hsz, hP, hK, hD0, hG⟩, hE⟩ := hv
  have hx := B.exec
  have hb := B.bytes
  have hr := B.returns
  have hts := atoms_spec (ws := w_k_X7_widen) B.pre
  have hown : s.vm.findClass RX7 = some m.cls := findClass_of_methodNamed B.named
  have hlocks := B.notSynchronized
  subst hsz
  have hD := hD0.self (sz := s.heap.size)
  generalize hAe : va_A (v0_k_X7_widen cy a) s.heap.size = A at hD hE ⊢
  have hA : ∀ q : Nat, s.heap.size ≤ q → A q := fun q h => by rw [← hAe]; exact Or.inr h
  have hS : va_S A s.heap s.heap [] := va_S.rf
  have hP : va_P (dC, dI) nCl (v0_k_X7_widen cy a) s.heap := hP
  have hl := lv_entry ([.ref (a 0), .int 1]) (n := 2) (Nat.le_of_ble_eq_true rfl)
  rw [lg_entry_eq]
  generalize (lg_sl ([.ref (a 0), .int 1]) ++ List.replicate (2 - (lg_sl ([.ref (a 0), .int 1])).length) Slot.unset).toArray = ls at hl ⊢
  have hl : lv_has ls 2 [(0, .ref (a 0)), (1, .int 1)] := hl
  have hP : va_P (dC, dI) nCl [((a 0), .inr (6, [.ref (a 1), .int 0, .int 0, .int 0, .int 0, .ref (a 2), .ref (a 3), .ref (a 4), .ref (a 5), .ref (a 6), .ref (a 7), .int 0, .int 0, .ref (a 8), .ref (a 9), .ref (a 10), .ref (a 11), .ref (a 12), .ref (a 13), .int 0])), ((a 1), .inl (cy 1, 1024, .inl nZ))] s.heap := hP
  have hD : va_D A [((a 0), .inr (6, [.ref (a 1), .int 0, .int 0, .int 0, .int 0, .ref (a 2), .ref (a 3), .ref (a 4), .ref (a 5), .ref (a 6), .ref (a 7), .int 0, .int 0, .ref (a 8), .ref (a 9), .ref (a 10), .ref (a 11), .ref (a 12), .ref (a 13), .int 0])), ((a 1), .inl (cy 1, 1024, .inl nZ))] := hD
  refine lv_aload_n hx hb dX7_widen_0 rfl (lv_at hl 0 rfl) ?_
  refine va_get (D := (dC, dI)) (ci := 6) (v := .int 0) (C := RX7) (T := TX7) (N := 20) hx hb hts in_k_X7_widen_X7 hown hK hP 0 rfl rfl 1 (by decide) (hts _ (List.mem_cons_of_mem _ (List.mem_append_left _ (List.mem_append_left _ (List.mem_of_getElem? (i := 0) rfl))))) (fun _ h9 => h9) rfl dX7_widen_1 ?_
  refine lv_iload_n hx hb dX7_widen_4 rfl (lv_at hl 1 rfl) ?_
  refine lv_iadd hx hb dX7_widen_5 ?_
  refine W.eq (g2 := F0 m 6 ls [.int 1]) rfl ?_
  refine lv_aload_n hx hb dX7_widen_6 rfl (lv_at hl 0 rfl) ?_
  refine va_get (D := (dC, dI)) (ci := 6) (v := .ref (a 1)) (C := RX7) (T := TX7) (N := 20) hx hb hts in_k_X7_widen_X7 hown hK hP 0 rfl rfl 0 (by decide) (hts _ (List.mem_cons_of_mem _ (List.mem_append_left _ (List.mem_append_left _ (List.mem_of_getElem? (i := 1) rfl))))) (fun _ h9 => h9) rfl dX7_widen_7 ?_
  refine va_alen hx hb hK hP 1 1 rfl rfl (v := 1024) rfl dX7_widen_10 ?_
  refine lv_icmp_le (tgt := 37) hx hb dX7_widen_11 (by decide) (fun _ => ?_) (fun c1 => False.elim (by revert c1; decide))
  refine lv_aload_n hx hb dX7_widen_37 rfl (lv_at hl 0 rfl) ?_
  refine va_get (D := (dC, dI)) (ci := 6) (v := .int 0) (C := RX7) (T := TX7) (N := 20) hx hb hts in_k_X7_widen_X7 hown hK hP 0 rfl rfl 1 (by decide) (hts _ (List.mem_cons_of_mem _ (List.mem_append_left _ (List.mem_append_left _ (List.mem_of_getElem? (i := 0) rfl))))) (fun _ h9 => h9) rfl dX7_widen_38 ?_
  refine lv_iload_n hx hb dX7_widen_41 rfl (lv_at hl 1 rfl) ?_
  refine lv_iadd hx hb dX7_widen_42 ?_
  refine W.eq (g2 := F0 m 43 ls [.int 1]) rfl ?_
  refine lv_aload_n hx hb dX7_widen_43 rfl (lv_at hl 0 rfl) ?_
  refine va_get (D := (dC, dI)) (ci := 6) (v := .ref (a 1)) (C := RX7) (T := TX7) (N := 20) hx hb hts in_k_X7_widen_X7 hown hK hP 0 rfl rfl 0 (by decide) (hts _ (List.mem_cons_of_mem _ (List.mem_append_left _ (List.mem_append_left _ (List.mem_of_getElem? (i := 1) rfl))))) (fun _ h9 => h9) rfl dX7_widen_44 ?_
  refine va_alen hx hb hK hP 1 1 rfl rfl (v := 1024) rfl dX7_widen_47 ?_
  refine lv_icmp_le (tgt := 59) hx hb dX7_widen_48 (by decide) (fun _ => ?_) (fun c1 => False.elim (by revert c1; decide))
  have hP : va_P (dC, dI) nCl (v1_k_X7_widen cy a (fun _ => 0)) s.heap := hP
  have hD : va_D A (v1_k_X7_widen cy a (fun _ => 0)) := hD
  exact W.vret hx hb hr (fun t ht hW => ⟨⟨(fun _ => 0), rfl, trivial, by rw [ht]; exact hP, va_K.moved hW.alike hK, hD⟩, hS.F ht⟩) hS.2.2 dX7_widen_59
def o_k_X7_emit : List Cond := [.methodLink RX7 85 yX7_widen, .instanceMethod yX7_widen, .selects RX7 yX7_widen yX7_widen, .initialized RX7, .fieldLink RX7 9 "SetHouse$Program" "code" "[I", .fieldLink RX7 53 "SetHouse$Program" "size" "I"]
theorem o_k_X7_emit_good : o_k_X7_emit.all goodWord = true := by decide +kernel
def p_k_X7_emit : List Cond := o_k_X7_emit ++ ((.code yX7_widen cX7_widen 2 none :: p_k_X7_widen) ++ [])
theorem p_k_X7_emit_good : p_k_X7_emit.all goodWord = true := nb_all2 o_k_X7_emit_good (nb_all2 (nb_allc (by decide +kernel) p_k_X7_widen_good) rfl)
def w_k_X7_emit : List Cond := .code yX7_emit cX7_emit 3 (some .int) :: (p_k_X7_emit ++ fC)
theorem w_k_X7_emit_good : w_k_X7_emit.all goodWord = true := nb_allc (by decide +kernel) (nb_all2 p_k_X7_emit_good fC_good)
theorem in_k_X7_emit_X7 : ∀ w ∈ wsX70, w ∈ w_k_X7_emit := fun _ h => List.mem_cons_of_mem _ (List.mem_append_right _ (List.mem_append_right _ (List.mem_append_right _ (List.mem_append_right _ (List.mem_append_right _ (List.mem_append_right _ (List.mem_append_right _ (List.mem_append_left _ h))))))))
theorem gg_k_X7_emit_k_X7_widen : GoodIn w_k_X7_emit w_k_X7_widen := goodIn_sub (fun w h => (List.mem_cons.mp h).elim (fun e => (List.mem_cons_of_mem _ (List.mem_append_left _ (List.mem_append_right _ (List.mem_append_left _ (List.mem_cons.mpr (Or.inl e))))))) (fun h => (List.mem_append.mp h).elim (fun h => (List.mem_cons_of_mem _ (List.mem_append_left _ (List.mem_append_right _ (List.mem_append_left _ (List.mem_cons_of_mem _ h)))))) (fun h => List.mem_cons_of_mem _ (List.mem_append_right _ h)))) w_k_X7_widen_good
theorem g_k_X7_emit_85_k_X7_widen : GoodIn w_k_X7_emit (wsV RX7 85 RX7 yX7_widen w_k_X7_widen) := goodIn_app (nb_g4 (List.mem_cons_of_mem _ (List.mem_append_left _ (List.mem_append_left _ (List.mem_of_getElem? (i := 0) rfl)))) (List.mem_cons_of_mem _ (List.mem_append_left _ (List.mem_append_left _ (List.mem_of_getElem? (i := 1) rfl)))) (List.mem_cons_of_mem _ (List.mem_append_left _ (List.mem_append_left _ (List.mem_of_getElem? (i := 2) rfl)))) (List.mem_cons_of_mem _ (List.mem_append_left _ (List.mem_append_left _ (List.mem_of_getElem? (i := 3) rfl)))) (by decide +kernel)) gg_k_X7_emit_k_X7_widen
def v0_k_X7_emit (cy : Nat → ClassId) (a : Nat → Nat) : va_W := [((a 0), .inr (6, [.ref (a 1), .int 0, .int 0, .int 0, .int 0, .ref (a 2), .ref (a 3), .ref (a 4), .ref (a 5), .ref (a 6), .ref (a 7), .int 0, .int 0, .ref (a 8), .ref (a 9), .ref (a 10), .ref (a 11), .ref (a 12), .ref (a 13), .int 0])), ((a 1), .inl (cy 1, 1024, .inl nZ))]
def v1_k_X7_emit (cy : Nat → ClassId) (a : Nat → Nat) (r : Nat → Nat) : va_W := [((a 0), .inr (6, [.ref (a 1), .int 1, .int 0, .int 0, .int 0, .ref (a 2), .ref (a 3), .ref (a 4), .ref (a 5), .ref (a 6), .ref (a 7), .int 0, .int 0, .ref (a 8), .ref (a 9), .ref (a 10), .ref (a 11), .ref (a 12), .ref (a 13), .int 0])), ((a 1), .inl (cy 1, 1024, .inl (upd nZ 0 1)))]
set_option maxHeartbeats 40000000 in
set_option maxRecDepth 100000 in
theorem k_X7_emit (l : Launch) (dC : Nat → ClassId) (dI : Nat → Nat → Nat) (cy : Nat → ClassId) (k : Nat → Nat) (a : Nat → Nat) (sz : Nat) : Met l yX7_emit w_k_X7_emit ({ frames := 1, cells := 0, slots := 0, locals := 21 }) (va_Pc [.ref (a 0), .int 1, .int 0] (nInE (dC, dI) cy k sz (v0_k_X7_emit cy a))) (va_Qi (fun (z : Int32) (_ : Nat → Nat) => z = 0) (fun r t => nOut (dC, dI) cy (va_A (v0_k_X7_emit cy a) sz) (v1_k_X7_emit cy a r) t) (va_A (v0_k_X7_emit cy a) sz)) 0 0 (va_A (v0_k_X7_emit cy a) sz) := by
  refine Met.ofW (cc := cX7_emit) (maxL := 3) (ret := (some .int)) (by decide) rfl ?_
  intro p e s m args below meth c s₁ B hml hv
  obtain ⟨rfl, ⟨hsz, hP, hK, hD0, hG⟩, hE⟩ := hv
  have hx := B.exec
  have hb := B.bytes
  have hr := B.returns
  have hts := atoms_spec (ws := w_k_X7_emit) B.pre
  have hown : s.vm.findClass RX7 = some m.cls := findClass_of_methodNamed B.named
  have hlocks := B.notSynchronized
  subst hsz
  have hD := hD0.self (sz := s.heap.size)
  generalize hAe : va_A (v0_k_X7_emit cy a) s.heap.size = A at hD hE ⊢
  have hA : ∀ q : Nat, s.heap.size ≤ q → A q := fun q h => by rw [← hAe]; exact Or.inr h
  have hS : va_S A s.heap s.heap [] := va_S.rf
  have hP : va_P (dC, dI) nCl (v0_k_X7_emit cy a) s.heap := hP
  have hl := lv_entry ([.ref (a 0), .int 1, .int 0]) (n := 3) (Nat.le_of_ble_eq_true rfl)
  rw [lg_entry_eq]
  generalize (lg_sl ([.ref (a 0), .int 1, .int 0]) ++ List.replicate (3 - (lg_sl ([.ref (a 0), .int 1, .int 0])).length) Slot.unset).toArray = ls at hl ⊢
  have hl : lv_has ls 3 [(0, .ref (a 0)), (1, .int 1), (2, .int 0)] := hl
  have hP : va_P (dC, dI) nCl [((a 0), .inr (6, [.ref (a 1), .int 0, .int 0, .int 0, .int 0, .ref (a 2), .ref (a 3), .ref (a 4), .ref (a 5), .ref (a 6), .ref (a 7), .int 0, .int 0, .ref (a 8), .ref (a 9), .ref (a 10), .ref (a 11), .ref (a 12), .ref (a 13), .int 0])), ((a 1), .inl (cy 1, 1024, .inl nZ))] s.heap := hP
  have hD : va_D A [((a 0), .inr (6, [.ref (a 1), .int 0, .int 0, .int 0, .int 0, .ref (a 2), .ref (a 3), .ref (a 4), .ref (a 5), .ref (a 6), .ref (a 7), .int 0, .int 0, .ref (a 8), .ref (a 9), .ref (a 10), .ref (a 11), .ref (a 12), .ref (a 13), .int 0])), ((a 1), .inl (cy 1, 1024, .inl nZ))] := hD
  refine lv_aload_n hx hb dX7_emit_0 rfl (lv_at hl 0 rfl) ?_
  refine lv_iconst (v := 1) hx hb dX7_emit_1 (by decide) ?_
  have hPc := hP.sub (ws' := [((a 0), .inr (6, [.ref (a 1), .int 0, .int 0, .int 0, .int 0, .ref (a 2), .ref (a 3), .ref (a 4), .ref (a 5), .ref (a 6), .ref (a 7), .int 0, .int 0, .ref (a 8), .ref (a 9), .ref (a 10), .ref (a 11), .ref (a 12), .ref (a 13), .int 0])), ((a 1), .inl (cy 1, 1024, .inl nZ))]) [0, 1] rfl
  have hPc : va_P (dC, dI) nCl (v0_k_X7_widen cy (fun j9 => [(a 0), (a 1), (a 2), (a 3), (a 4), (a 5), (a 6), (a 7), (a 8), (a 9), (a 10), (a 11), (a 12), (a 13)].getD j9 0)) s.heap := hPc
  have hDc := hD.sub (ws' := [((a 0), .inr (6, [.ref (a 1), .int 0, .int 0, .int 0, .int 0, .ref (a 2), .ref (a 3), .ref (a 4), .ref (a 5), .ref (a 6), .ref (a 7), .int 0, .int 0, .ref (a 8), .ref (a 9), .ref (a 10), .ref (a 11), .ref (a 12), .ref (a 13), .int 0])), ((a 1), .inl (cy 1, 1024, .inl nZ))]) [0, 1] (by decide) rfl
  have hDc : va_D A (v0_k_X7_widen cy (fun j9 => [(a 0), (a 1), (a 2), (a 3), (a 4), (a 5), (a 6), (a 7), (a 8), (a 9), (a 10), (a 11), (a 12), (a 13)].getD j9 0)) := hDc
  have hFc := va_free (wc := (v0_k_X7_widen cy (fun j9 => [(a 0), (a 1), (a 2), (a 3), (a 4), (a 5), (a 6), (a 7), (a 8), (a 9), (a 10), (a 11), (a 12), (a 13)].getD j9 0))) hD hS hA [0, 1] rfl
  refine va_callv (va_runV (As := [.int 1]) (rest := []) ⟨hx, hb, hml, hown, hts⟩ (k_X7_widen l dC dI cy k (fun j9 => [(a 0), (a 1), (a 2), (a 3), (a 4), (a 5), (a 6), (a 7), (a 8), (a 9), (a 10), (a 11), (a 12), (a 13)].getD j9 0) s.heap.size) (cwV 1 hts g_k_X7_emit_85_k_X7_widen rfl rfl rfl (by decide +kernel) ⟨Nat.le_of_ble_eq_true rfl, Nat.le_of_ble_eq_true rfl⟩) ⟨nb_blindE, va_recv hK hPc (ci := 6) (q0 := 0) rfl rfl, fun U hU hW => ⟨rfl, ⟨by rw [hU], by rw [hU]; exact hPc, va_K.moved hW.alike hK, hDc.weaken (fun _ _ _ _ => trivial), hG.warm hW⟩, nE.to hE hS hW hU hFc⟩⟩ rfl rfl hl.1 rfl (lv_room (Nat.le_of_ble_eq_true rfl)) dX7_emit_2 ⟨Nat.le_of_ble_eq_true rfl, Nat.le_of_ble_eq_true rfl⟩) hS (fun q _ h => hFc q h) hFc (fun u1 t H1 locs ht hvm hw hB hz1 hk1 hS => ?_)
  obtain ⟨hP1, hK1, hD1⟩ := hB
  rw [ht] at hP1
  obtain ⟨hP, hD⟩ := va_join (wr := []) (w1 := v1_k_X7_widen cy (fun j9 => [(a 0), (a 1), (a 2), (a 3), (a 4), (a 5), (a 6), (a 7), (a 8), (a 9), (a 10), (a 11), (a 12), (a 13)].getD j9 0) u1) hP hD [0, 1] [] rfl rfl (by decide) (by decide) hk1 hFc hP1 hD1
  generalize H1 = H at hP hS ⊢
  have hP : va_P (dC, dI) nCl [((a 0), .inr (6, [.ref (a 1), .int 0, .int 0, .int 0, .int 0, .ref (a 2), .ref (a 3), .ref (a 4), .ref (a 5), .ref (a 6), .ref (a 7), .int 0, .int 0, .ref (a 8), .ref (a 9), .ref (a 10), .ref (a 11), .ref (a 12), .ref (a 13), .int 0])), ((a 1), .inl (cy 1, 1024, .inl nZ))] H := hP
  have hD : va_D A [((a 0), .inr (6, [.ref (a 1), .int 0, .int 0, .int 0, .int 0, .ref (a 2), .ref (a 3), .ref (a 4), .ref (a 5), .ref (a 6), .ref (a 7), .int 0, .int 0, .ref (a 8), .ref (a 9), .ref (a 10), .ref (a 11), .ref (a 12), .ref (a 13), .int 0])), ((a 1), .inl (cy 1, 1024, .inl nZ))] := hD
  refine lv_aload_n hx hb dX7_emit_5 rfl (lv_at hl 0 rfl) ?_
  refine va_get (D := (dC, dI)) (ci := 6) (v := .ref (a 1)) (C := RX7) (T := TX7) (N := 20) hx hb hts in_k_X7_emit_X7 hown hK hP 0 rfl rfl 0 (by decide) (hts _ (List.mem_cons_of_mem _ (List.mem_append_left _ (List.mem_append_left _ (List.mem_of_getElem? (i := 4) rfl))))) (fun _ h9 => h9) rfl dX7_emit_6 ?_
  refine lv_aload_n hx hb dX7_emit_9 rfl (lv_at hl 0 rfl) ?_
  refine va_get (D := (dC, dI)) (ci := 6) (v := .int 0) (C := RX7) (T := TX7) (N := 20) hx hb hts in_k_X7_emit_X7 hown hK hP 0 rfl rfl 1 (by decide) (hts _ (List.mem_cons_of_mem _ (List.mem_append_left _ (List.mem_append_left _ (List.mem_of_getElem? (i := 5) rfl))))) (fun _ h9 => h9) rfl dX7_emit_10 ?_
  refine lv_iload_n hx hb dX7_emit_13 rfl (lv_at hl 1 rfl) ?_
  refine lv_iload_n hx hb dX7_emit_14 rfl (lv_at hl 2 rfl) ?_
  refine lv_bipush (v := 8) hx hb dX7_emit_15 (by decide) ?_
  refine lv_ishl hx hb dX7_emit_17 ?_
  refine W.eq (g2 := F0 m 18 ls [.int 0, .int 1, .int 0, .ref (a 1)]) rfl ?_
  refine lv_ior hx hb dX7_emit_18 ?_
  refine W.eq (g2 := F0 m 19 ls [.int 1, .int 0, .ref (a 1)]) rfl ?_
  refine va_iast hx hb hK hP hD hS 1 1 rfl rfl (nb_in (by decide)) dX7_emit_19 (fun H locs hP hD hS => ?_)
  have hP : va_P (dC, dI) nCl [((a 0), .inr (6, [.ref (a 1), .int 0, .int 0, .int 0, .int 0, .ref (a 2), .ref (a 3), .ref (a 4), .ref (a 5), .ref (a 6), .ref (a 7), .int 0, .int 0, .ref (a 8), .ref (a 9), .ref (a 10), .ref (a 11), .ref (a 12), .ref (a 13), .int 0])), ((a 1), .inl (cy 1, 1024, .inl (upd nZ 0 1)))] H := hP
  have hD : va_D A [((a 0), .inr (6, [.ref (a 1), .int 0, .int 0, .int 0, .int 0, .ref (a 2), .ref (a 3), .ref (a 4), .ref (a 5), .ref (a 6), .ref (a 7), .int 0, .int 0, .ref (a 8), .ref (a 9), .ref (a 10), .ref (a 11), .ref (a 12), .ref (a 13), .int 0])), ((a 1), .inl (cy 1, 1024, .inl (upd nZ 0 1)))] := hD
  refine lv_aload_n hx hb dX7_emit_20 rfl (lv_at hl 0 rfl) ?_
  refine lv_dup hx hb dX7_emit_21 rfl ?_
  refine va_get (D := (dC, dI)) (ci := 6) (v := .int 0) (C := RX7) (T := TX7) (N := 20) hx hb hts in_k_X7_emit_X7 hown hK hP 0 rfl rfl 1 (by decide) (hts _ (List.mem_cons_of_mem _ (List.mem_append_left _ (List.mem_append_left _ (List.mem_of_getElem? (i := 5) rfl))))) (fun _ h9 => h9) rfl dX7_emit_22 ?_
  refine lv_iconst (v := 1) hx hb dX7_emit_25 (by decide) ?_
  refine lv_iadd hx hb dX7_emit_26 ?_
  refine W.eq (g2 := F0 m 27 ls [.int 1, .ref (a 0)]) rfl ?_
  refine va_put (D := (dC, dI)) (ci := 6) (v := .int 1) (ty := .int) (C := RX7) (T := TX7) (N := 20) hx hb hts in_k_X7_emit_X7 tyX7 tyX7_ok nmX7 hown hK hP hD hS 0 rfl rfl 1 (by decide) (hts _ (List.mem_cons_of_mem _ (List.mem_append_left _ (List.mem_append_left _ (List.mem_of_getElem? (i := 5) rfl))))) (fun _ h9 => h9) rfl (by decide +kernel) rfl rfl (Nat.le_of_ble_eq_true rfl) dX7_emit_27 (fun H locs hP hD hS => ?_)
  have hP : va_P (dC, dI) nCl [((a 0), .inr (6, [.ref (a 1), .int 1, .int 0, .int 0, .int 0, .ref (a 2), .ref (a 3), .ref (a 4), .ref (a 5), .ref (a 6), .ref (a 7), .int 0, .int 0, .ref (a 8), .ref (a 9), .ref (a 10), .ref (a 11), .ref (a 12), .ref (a 13), .int 0])), ((a 1), .inl (cy 1, 1024, .inl (upd nZ 0 1)))] H := hP
  have hD : va_D A [((a 0), .inr (6, [.ref (a 1), .int 1, .int 0, .int 0, .int 0, .ref (a 2), .ref (a 3), .ref (a 4), .ref (a 5), .ref (a 6), .ref (a 7), .int 0, .int 0, .ref (a 8), .ref (a 9), .ref (a 10), .ref (a 11), .ref (a 12), .ref (a 13), .int 0])), ((a 1), .inl (cy 1, 1024, .inl (upd nZ 0 1)))] := hD
  refine lv_aload_n hx hb dX7_emit_30 rfl (lv_at hl 0 rfl) ?_
  refine va_get (D := (dC, dI)) (ci := 6) (v := .int 1) (C := RX7) (T := TX7) (N := 20) hx hb hts in_k_X7_emit_X7 hown hK hP 0 rfl rfl 1 (by decide) (hts _ (List.mem_cons_of_mem _ (List.mem_append_left _ (List.mem_append_left _ (List.mem_of_getElem? (i := 5) rfl))))) (fun _ h9 => h9) rfl dX7_emit_31 ?_
  refine lv_iconst (v := 1) hx hb dX7_emit_34 (by decide) ?_
  refine lv_isub hx hb dX7_emit_35 ?_
  refine W.eq (g2 := F0 m 36 ls [.int 0]) rfl ?_
  have hP : va_P (dC, dI) nCl (v1_k_X7_emit cy a (fun _ => 0)) H := hP
  have hD : va_D A (v1_k_X7_emit cy a (fun _ => 0)) := hD
  exact W.iret (v := 0) hx hb hr (fun t ht hW => ⟨⟨0, (fun _ => 0), rfl, rfl, by rw [ht]; exact hP, va_K.moved hW.alike hK, hD⟩, hS.F ht⟩) hS.2.2 dX7_emit_36
def o_k_X5_readProgram : List Cond := [.methodLink RX5 26 yX5_begin, .instanceMethod yX5_begin, .selects RX5 yX5_begin yX5_begin, .initialized RX5, .fieldLink RX5 18 "SetHouse$Parser" "lex" "LSetHouse$Lexer;", .methodLink RX5 30 yX2_advance, .instanceMethod yX2_advance, .selects RX2 yX2_advance yX2_advance, .initialized RX2, .constant RX5 35 (32768), .methodLink RX5 58 yX5_block, .instanceMethod yX5_block, .selects RX5 yX5_block yX5_block, .methodLink RX5 61 yX5_want, .instanceMethod yX5_want, .selects RX5 yX5_want yX5_want, .methodLink RX5 66 yX7_emit, .instanceMethod yX7_emit, .selects RX7 yX7_emit yX7_emit, .initialized RX7]
theorem o_k_X5_readProgram_good : o_k_X5_readProgram.all goodWord = true := by decide +kernel
def p_k_X5_readProgram : List Cond := o_k_X5_readProgram ++ ((.code yX5_begin cX5_begin 4 none :: p_k_X5_begin) ++ ((.code yX2_advance cX2_advance 7 none :: p_k_X2_advance) ++ ((.code yX5_block cX5_block 3 none :: p_k_X5_block) ++ ((.code yX5_want cX5_want 2 none :: p_k_X5_want) ++ ((.code yX7_emit cX7_emit 3 (some .int) :: p_k_X7_emit) ++ [])))))
theorem p_k_X5_readProgram_good : p_k_X5_readProgram.all goodWord = true := nb_all2 o_k_X5_readProgram_good (nb_all2 (nb_allc (by decide +kernel) p_k_X5_begin_good) (nb_all2 (nb_allc (by decide +kernel) p_k_X2_advance_good) (nb_all2 (nb_allc (by decide +kernel) p_k_X5_block_good) (nb_all2 (nb_allc (by decide +kernel) p_k_X5_want_good) (nb_all2 (nb_allc (by decide +kernel) p_k_X7_emit_good) rfl)))))
def w_k_X5_readProgram : List Cond := .codeWith yX5_readProgram cX5_readProgram 3 (some .boolean) [(7, 120, 121, 70)] :: (p_k_X5_readProgram ++ fC)
theorem w_k_X5_readProgram_good : w_k_X5_readProgram.all goodWord = true := nb_allc (by decide +kernel) (nb_all2 p_k_X5_readProgram_good fC_good)
theorem in_k_X5_readProgram_X2 : ∀ w ∈ wsX20, w ∈ w_k_X5_readProgram := fun _ h => List.mem_cons_of_mem _ (List.mem_append_right _ (List.mem_append_right _ (List.mem_append_right _ (List.mem_append_left _ h))))
theorem in_k_X5_readProgram_X5 : ∀ w ∈ wsX50, w ∈ w_k_X5_readProgram := fun _ h => List.mem_cons_of_mem _ (List.mem_append_right _ (List.mem_append_right _ (List.mem_append_right _ (List.mem_append_right _ (List.mem_append_right _ (List.mem_append_left _ h))))))
theorem in_k_X5_readProgram_X7 : ∀ w ∈ wsX70, w ∈ w_k_X5_readProgram := fun _ h => List.mem_cons_of_mem _ (List.mem_append_right _ (List.mem_append_right _ (List.mem_append_right _ (List.mem_append_right _ (List.mem_append_right _ (List.mem_append_right _ (List.mem_append_right _ (List.mem_append_left _ h))))))))
theorem gg_k_X5_readProgram_k_X5_begin : GoodIn w_k_X5_readProgram w_k_X5_begin := goodIn_sub (fun w h => (List.mem_cons.mp h).elim (fun e => (List.mem_cons_of_mem _ (List.mem_append_left _ (List.mem_append_right _ (List.mem_append_left _ (List.mem_cons.mpr (Or.inl e))))))) (fun h => (List.mem_append.mp h).elim (fun h => (List.mem_cons_of_mem _ (List.mem_append_left _ (List.mem_append_right _ (List.mem_append_left _ (List.mem_cons_of_mem _ h)))))) (fun h => List.mem_cons_of_mem _ (List.mem_append_right _ h)))) w_k_X5_begin_good
theorem g_k_X5_readProgram_26_k_X5_begin : GoodIn w_k_X5_readProgram (wsV RX5 26 RX5 yX5_begin w_k_X5_begin) := goodIn_app (nb_g4 (List.mem_cons_of_mem _ (List.mem_append_left _ (List.mem_append_left _ (List.mem_of_getElem? (i := 0) rfl)))) (List.mem_cons_of_mem _ (List.mem_append_left _ (List.mem_append_left _ (List.mem_of_getElem? (i := 1) rfl)))) (List.mem_cons_of_mem _ (List.mem_append_left _ (List.mem_append_left _ (List.mem_of_getElem? (i := 2) rfl)))) (List.mem_cons_of_mem _ (List.mem_append_left _ (List.mem_append_left _ (List.mem_of_getElem? (i := 3) rfl)))) (by decide +kernel)) gg_k_X5_readProgram_k_X5_begin
theorem gg_k_X5_readProgram_k_X2_advance : GoodIn w_k_X5_readProgram w_k_X2_advance := goodIn_sub (fun w h => (List.mem_cons.mp h).elim (fun e => (List.mem_cons_of_mem _ (List.mem_append_left _ (List.mem_append_right _ (List.mem_append_right _ (List.mem_append_left _ (List.mem_cons.mpr (Or.inl e)))))))) (fun h => (List.mem_append.mp h).elim (fun h => (List.mem_cons_of_mem _ (List.mem_append_left _ (List.mem_append_right _ (List.mem_append_right _ (List.mem_append_left _ (List.mem_cons_of_mem _ h))))))) (fun h => List.mem_cons_of_mem _ (List.mem_append_right _ h)))) w_k_X2_advance_good
theorem g_k_X5_readProgram_30_k_X2_advance : GoodIn w_k_X5_readProgram (wsV RX5 30 RX2 yX2_advance w_k_X2_advance) := goodIn_app (nb_g4 (List.mem_cons_of_mem _ (List.mem_append_left _ (List.mem_append_left _ (List.mem_of_getElem? (i := 5) rfl)))) (List.mem_cons_of_mem _ (List.mem_append_left _ (List.mem_append_left _ (List.mem_of_getElem? (i := 6) rfl)))) (List.mem_cons_of_mem _ (List.mem_append_left _ (List.mem_append_left _ (List.mem_of_getElem? (i := 7) rfl)))) (List.mem_cons_of_mem _ (List.mem_append_left _ (List.mem_append_left _ (List.mem_of_getElem? (i := 8) rfl)))) (by decide +kernel)) gg_k_X5_readProgram_k_X2_advance
theorem gg_k_X5_readProgram_k_X5_block : GoodIn w_k_X5_readProgram w_k_X5_block := goodIn_sub (fun w h => (List.mem_cons.mp h).elim (fun e => (List.mem_cons_of_mem _ (List.mem_append_left _ (List.mem_append_right _ (List.mem_append_right _ (List.mem_append_right _ (List.mem_append_left _ (List.mem_cons.mpr (Or.inl e))))))))) (fun h => (List.mem_append.mp h).elim (fun h => (List.mem_cons_of_mem _ (List.mem_append_left _ (List.mem_append_right _ (List.mem_append_right _ (List.mem_append_right _ (List.mem_append_left _ (List.mem_cons_of_mem _ h)))))))) (fun h => List.mem_cons_of_mem _ (List.mem_append_right _ h)))) w_k_X5_block_good
theorem g_k_X5_readProgram_58_k_X5_block : GoodIn w_k_X5_readProgram (wsV RX5 58 RX5 yX5_block w_k_X5_block) := goodIn_app (nb_g4 (List.mem_cons_of_mem _ (List.mem_append_left _ (List.mem_append_left _ (List.mem_of_getElem? (i := 10) rfl)))) (List.mem_cons_of_mem _ (List.mem_append_left _ (List.mem_append_left _ (List.mem_of_getElem? (i := 11) rfl)))) (List.mem_cons_of_mem _ (List.mem_append_left _ (List.mem_append_left _ (List.mem_of_getElem? (i := 12) rfl)))) (List.mem_cons_of_mem _ (List.mem_append_left _ (List.mem_append_left _ (List.mem_of_getElem? (i := 3) rfl)))) (by decide +kernel)) gg_k_X5_readProgram_k_X5_block
theorem gg_k_X5_readProgram_k_X5_want : GoodIn w_k_X5_readProgram w_k_X5_want := goodIn_sub (fun w h => (List.mem_cons.mp h).elim (fun e => (List.mem_cons_of_mem _ (List.mem_append_left _ (List.mem_append_right _ (List.mem_append_right _ (List.mem_append_right _ (List.mem_append_right _ (List.mem_append_left _ (List.mem_cons.mpr (Or.inl e)))))))))) (fun h => (List.mem_append.mp h).elim (fun h => (List.mem_cons_of_mem _ (List.mem_append_left _ (List.mem_append_right _ (List.mem_append_right _ (List.mem_append_right _ (List.mem_append_right _ (List.mem_append_left _ (List.mem_cons_of_mem _ h))))))))) (fun h => List.mem_cons_of_mem _ (List.mem_append_right _ h)))) w_k_X5_want_good
theorem g_k_X5_readProgram_61_k_X5_want : GoodIn w_k_X5_readProgram (wsV RX5 61 RX5 yX5_want w_k_X5_want) := goodIn_app (nb_g4 (List.mem_cons_of_mem _ (List.mem_append_left _ (List.mem_append_left _ (List.mem_of_getElem? (i := 13) rfl)))) (List.mem_cons_of_mem _ (List.mem_append_left _ (List.mem_append_left _ (List.mem_of_getElem? (i := 14) rfl)))) (List.mem_cons_of_mem _ (List.mem_append_left _ (List.mem_append_left _ (List.mem_of_getElem? (i := 15) rfl)))) (List.mem_cons_of_mem _ (List.mem_append_left _ (List.mem_append_left _ (List.mem_of_getElem? (i := 3) rfl)))) (by decide +kernel)) gg_k_X5_readProgram_k_X5_want
theorem gg_k_X5_readProgram_k_X7_emit : GoodIn w_k_X5_readProgram w_k_X7_emit := goodIn_sub (fun w h => (List.mem_cons.mp h).elim (fun e => (List.mem_cons_of_mem _ (List.mem_append_left _ (List.mem_append_right _ (List.mem_append_right _ (List.mem_append_right _ (List.mem_append_right _ (List.mem_append_right _ (List.mem_append_left _ (List.mem_cons.mpr (Or.inl e))))))))))) (fun h => (List.mem_append.mp h).elim (fun h => (List.mem_cons_of_mem _ (List.mem_append_left _ (List.mem_append_right _ (List.mem_append_right _ (List.mem_append_right _ (List.mem_append_right _ (List.mem_append_right _ (List.mem_append_left _ (List.mem_cons_of_mem _ h)))))))))) (fun h => List.mem_cons_of_mem _ (List.mem_append_right _ h)))) w_k_X7_emit_good
theorem g_k_X5_readProgram_66_k_X7_emit : GoodIn w_k_X5_readProgram (wsV RX5 66 RX7 yX7_emit w_k_X7_emit) := goodIn_app (nb_g4 (List.mem_cons_of_mem _ (List.mem_append_left _ (List.mem_append_left _ (List.mem_of_getElem? (i := 16) rfl)))) (List.mem_cons_of_mem _ (List.mem_append_left _ (List.mem_append_left _ (List.mem_of_getElem? (i := 17) rfl)))) (List.mem_cons_of_mem _ (List.mem_append_left _ (List.mem_append_left _ (List.mem_of_getElem? (i := 18) rfl)))) (List.mem_cons_of_mem _ (List.mem_append_left _ (List.mem_append_left _ (List.mem_of_getElem? (i := 19) rfl)))) (by decide +kernel)) gg_k_X5_readProgram_k_X7_emit
def v0_k_X5_readProgram (cy : Nat → ClassId) (a : Nat → Nat) : va_W := [((a 0), .inr (4, [.ref (a 2), .ref (a 5), .null, .int 0, .int 0, .int 0, .int 0, .int 0, .int 0, .int 0, .ref (a 6), .int 0, .ref (a 7), .int 0, .int 0, .int 0, .int 0, .int 0, .int 0, .int 0, .int 0])), ((a 2), .inr (2, [.ref (a 3), .int 0, .int 0, .int 0, .int 0, .long 0, .long 0, .ref (a 8)])), ((a 3), .inl (cy 0, 1024, .inl nZ)), ((a 4), .inl (cy 1, 1024, .inl nZ)), ((a 1), .inr (6, [.ref (a 4), .int 0, .int 0, .int 0, .int 0, .ref (a 9), .ref (a 10), .ref (a 11), .ref (a 12), .ref (a 13), .ref (a 14), .int 0, .int 0, .ref (a 15), .ref (a 16), .ref (a 17), .ref (a 18), .ref (a 19), .ref (a 20), .int 0]))]
def v1_k_X5_readProgram (cy : Nat → ClassId) (a : Nat → Nat) (r : Nat → Nat) : va_W := [((a 3), .inl (cy 0, 1024, .inl nZ)), ((a 0), .inr (4, [.ref (a 2), .ref (a 5), .ref (a 1), .int 0, .int 2, .int 0, .int 0, .int 0, .int (-1), .int 0, .ref (a 6), .int 0, .ref (a 7), .int 0, .int 0, .int 0, .int (-1), .int 0, .int 0, .int 0, .int 0])), ((a 2), .inr (2, [.ref (a 3), .int 0, .int 1, .int 0, .int 0, .long 0, .long 0, .ref (a 8)])), ((a 1), .inr (6, [.ref (a 4), .int 1, .int 0, .int 0, .int 0, .ref (a 9), .ref (a 10), .ref (a 11), .ref (a 12), .ref (a 13), .ref (a 14), .int 0, .int 0, .ref (a 15), .ref (a 16), .ref (a 17), .ref (a 18), .ref (a 19), .ref (a 20), .int 0])), ((a 4), .inl (cy 1, 1024, .inl (upd nZ 0 1)))]
set_option maxHeartbeats 40000000 in
set_option maxRecDepth 100000 in
theorem k_X5_readProgram (l : Launch) (dC : Nat → ClassId) (dI : Nat → Nat → Nat) (cy : Nat → ClassId) (k : Nat → Nat) (a : Nat → Nat) (sz : Nat) : Met l yX5_readProgram w_k_X5_readProgram ({ frames := 4, cells := 0, slots := 0, locals := 86 }) (va_Pc [.ref (a 0), .ref (a 1)] (nInE (dC, dI) cy k sz (v0_k_X5_readProgram cy a))) (va_Qi (fun (z : Int32) (_ : Nat → Nat) => z = 1) (fun r t => nOut (dC, dI) cy (va_A (v0_k_X5_readProgram cy a) sz) (v1_k_X5_readProgram cy a r) t) (va_A (v0_k_X5_readProgram cy a) sz)) 0 0 (va_A (v0_k_X5_readProgram cy a) sz) := by
  refine nb_ofWH (cc := cX5_readProgram) (maxL := 3) (ret := (some .boolean)) (by decide) rfl ?_
  intro p e s m args below meth c s₁ B hml hv
  obtain ⟨rfl, ⟨hsz, hP, hK, hD0, hG⟩, hE⟩ := hv
  have hx := B.exec
  have hb := B.bytes
  have hr := B.returns
  have hts := atoms_spec (ws := w_k_X5_readProgram) B.pre
  have hown : s.vm.findClass RX5 = some m.cls := findClass_of_methodNamed B.named
  have hlocks := B.notSynchronized
  subst hsz
  have hD := hD0.self (sz := s.heap.size)
  generalize hAe : va_A (v0_k_X5_readProgram cy a) s.heap.size = A at hD hE ⊢
  have hA : ∀ q : Nat, s.heap.size ≤ q → A q := fun q h => by rw [← hAe]; exact Or.inr h
  have hS : va_S A s.heap s.heap [] := va_S.rf
  have hP : va_P (dC, dI) nCl (v0_k_X5_readProgram cy a) s.heap := hP
  have hl := lv_entry ([.ref (a 0), .ref (a 1)]) (n := 3) (Nat.le_of_ble_eq_true rfl)
  rw [lg_entry_eq]
  generalize (lg_sl ([.ref (a 0), .ref (a 1)]) ++ List.replicate (3 - (lg_sl ([.ref (a 0), .ref (a 1)])).length) Slot.unset).toArray = ls at hl ⊢
  have hl : lv_has ls 3 [(0, .ref (a 0)), (1, .ref (a 1))] := hl
  have hP : va_P (dC, dI) nCl [((a 0), .inr (4, [.ref (a 2), .ref (a 5), .null, .int 0, .int 0, .int 0, .int 0, .int 0, .int 0, .int 0, .ref (a 6), .int 0, .ref (a 7), .int 0, .int 0, .int 0, .int 0, .int 0, .int 0, .int 0, .int 0])), ((a 2), .inr (2, [.ref (a 3), .int 0, .int 0, .int 0, .int 0, .long 0, .long 0, .ref (a 8)])), ((a 3), .inl (cy 0, 1024, .inl nZ)), ((a 4), .inl (cy 1, 1024, .inl nZ)), ((a 1), .inr (6, [.ref (a 4), .int 0, .int 0, .int 0, .int 0, .ref (a 9), .ref (a 10), .ref (a 11), .ref (a 12), .ref (a 13), .ref (a 14), .int 0, .int 0, .ref (a 15), .ref (a 16), .ref (a 17), .ref (a 18), .ref (a 19), .ref (a 20), .int 0]))] s.heap := hP
  have hD : va_D A [((a 0), .inr (4, [.ref (a 2), .ref (a 5), .null, .int 0, .int 0, .int 0, .int 0, .int 0, .int 0, .int 0, .ref (a 6), .int 0, .ref (a 7), .int 0, .int 0, .int 0, .int 0, .int 0, .int 0, .int 0, .int 0])), ((a 2), .inr (2, [.ref (a 3), .int 0, .int 0, .int 0, .int 0, .long 0, .long 0, .ref (a 8)])), ((a 3), .inl (cy 0, 1024, .inl nZ)), ((a 4), .inl (cy 1, 1024, .inl nZ)), ((a 1), .inr (6, [.ref (a 4), .int 0, .int 0, .int 0, .int 0, .ref (a 9), .ref (a 10), .ref (a 11), .ref (a 12), .ref (a 13), .ref (a 14), .int 0, .int 0, .ref (a 15), .ref (a 16), .ref (a 17), .ref (a 18), .ref (a 19), .ref (a 20), .int 0]))] := hD
  refine lv_aload_n hx hb dX5_readProgram_0 rfl (lv_at hl 0 rfl) ?_
  refine lv_aload_n hx hb dX5_readProgram_1 rfl (lv_at hl 1 rfl) ?_
  refine lv_iconst (v := 0) hx hb dX5_readProgram_2 (by decide) ?_
  refine lv_iconst (v := 2) hx hb dX5_readProgram_3 (by decide) ?_
  have hPc := hP.sub (ws' := [((a 0), .inr (4, [.ref (a 2), .ref (a 5), .null, .int 0, .int 0, .int 0, .int 0, .int 0, .int 0, .int 0, .ref (a 6), .int 0, .ref (a 7), .int 0, .int 0, .int 0, .int 0, .int 0, .int 0, .int 0, .int 0])), ((a 2), .inr (2, [.ref (a 3), .int 0, .int 0, .int 0, .int 0, .long 0, .long 0, .ref (a 8)])), ((a 3), .inl (cy 0, 1024, .inl nZ))]) [0, 1, 2] rfl
  have hPc : va_P (dC, dI) nCl (v0_k_X5_begin cy (fun j9 => [(a 0), (a 1), (a 2), (a 3), (a 5), (a 6), (a 7), (a 8)].getD j9 0)) s.heap := hPc
  have hDc := hD.sub (ws' := [((a 0), .inr (4, [.ref (a 2), .ref (a 5), .null, .int 0, .int 0, .int 0, .int 0, .int 0, .int 0, .int 0, .ref (a 6), .int 0, .ref (a 7), .int 0, .int 0, .int 0, .int 0, .int 0, .int 0, .int 0, .int 0])), ((a 2), .inr (2, [.ref (a 3), .int 0, .int 0, .int 0, .int 0, .long 0, .long 0, .ref (a 8)])), ((a 3), .inl (cy 0, 1024, .inl nZ))]) [0, 1, 2] (by decide) rfl
  have hDc : va_D A (v0_k_X5_begin cy (fun j9 => [(a 0), (a 1), (a 2), (a 3), (a 5), (a 6), (a 7), (a 8)].getD j9 0)) := hDc
  have hFc := va_free (wc := (v0_k_X5_begin cy (fun j9 => [(a 0), (a 1), (a 2), (a 3), (a 5), (a 6), (a 7), (a 8)].getD j9 0))) hD hS hA [0, 1, 2] rfl
  refine va_callv (va_runV (As := [.ref (a 1), .int 0, .int 2]) (rest := []) ⟨hx, hb, hml, hown, hts⟩ (k_X5_begin l dC dI cy k (fun j9 => [(a 0), (a 1), (a 2), (a 3), (a 5), (a 6), (a 7), (a 8)].getD j9 0) s.heap.size) (cwV 3 hts g_k_X5_readProgram_26_k_X5_begin rfl rfl rfl (by decide +kernel) ⟨Nat.le_of_ble_eq_true rfl, Nat.le_of_ble_eq_true rfl⟩) ⟨nb_blindE, va_recv hK hPc (ci := 4) (q0 := 0) rfl rfl, fun U hU hW => ⟨rfl, ⟨by rw [hU], by rw [hU]; exact hPc, va_K.moved hW.alike hK, hDc.weaken (fun _ _ _ _ => trivial), hG.warm hW⟩, nE.to hE hS hW hU hFc⟩⟩ rfl rfl hl.1 rfl (lv_room (Nat.le_of_ble_eq_true rfl)) dX5_readProgram_4 ⟨Nat.le_of_ble_eq_true rfl, Nat.le_of_ble_eq_true rfl⟩) hS (fun q _ h => hFc q h) hFc (fun u1 t H1 locs ht hvm hw hB hz1 hk1 hS => ?_)
  obtain ⟨hP1, hK1, hD1⟩ := hB
  rw [ht] at hP1
  obtain ⟨hP, hD⟩ := va_join (wr := [((a 4), .inl (cy 1, 1024, .inl nZ)), ((a 1), .inr (6, [.ref (a 4), .int 0, .int 0, .int 0, .int 0, .ref (a 9), .ref (a 10), .ref (a 11), .ref (a 12), .ref (a 13), .ref (a 14), .int 0, .int 0, .ref (a 15), .ref (a 16), .ref (a 17), .ref (a 18), .ref (a 19), .ref (a 20), .int 0]))]) (w1 := v1_k_X5_begin cy (fun j9 => [(a 0), (a 1), (a 2), (a 3), (a 5), (a 6), (a 7), (a 8)].getD j9 0) u1) hP hD [0, 1, 2] [3, 4] rfl rfl (by decide) (by decide) hk1 hFc hP1 hD1
  generalize H1 = H at hP hS ⊢
  have hP : va_P (dC, dI) nCl [((a 4), .inl (cy 1, 1024, .inl nZ)), ((a 1), .inr (6, [.ref (a 4), .int 0, .int 0, .int 0, .int 0, .ref (a 9), .ref (a 10), .ref (a 11), .ref (a 12), .ref (a 13), .ref (a 14), .int 0, .int 0, .ref (a 15), .ref (a 16), .ref (a 17), .ref (a 18), .ref (a 19), .ref (a 20), .int 0])), ((a 0), .inr (4, [.ref (a 2), .ref (a 5), .ref (a 1), .int 0, .int 2, .int 0, .int 0, .int 0, .int (-1), .int 0, .ref (a 6), .int 0, .ref (a 7), .int 0, .int 0, .int 0, .int (-1), .int 0, .int 0, .int 0, .int 0])), ((a 2), .inr (2, [.ref (a 3), .int 0, .int 0, .int 0, .int 0, .long 0, .long 0, .ref (a 8)])), ((a 3), .inl (cy 0, 1024, .inl nZ))] H := hP
  have hD : va_D A [((a 4), .inl (cy 1, 1024, .inl nZ)), ((a 1), .inr (6, [.ref (a 4), .int 0, .int 0, .int 0, .int 0, .ref (a 9), .ref (a 10), .ref (a 11), .ref (a 12), .ref (a 13), .ref (a 14), .int 0, .int 0, .ref (a 15), .ref (a 16), .ref (a 17), .ref (a 18), .ref (a 19), .ref (a 20), .int 0])), ((a 0), .inr (4, [.ref (a 2), .ref (a 5), .ref (a 1), .int 0, .int 2, .int 0, .int 0, .int 0, .int (-1), .int 0, .ref (a 6), .int 0, .ref (a 7), .int 0, .int 0, .int 0, .int (-1), .int 0, .int 0, .int 0, .int 0])), ((a 2), .inr (2, [.ref (a 3), .int 0, .int 0, .int 0, .int 0, .long 0, .long 0, .ref (a 8)])), ((a 3), .inl (cy 0, 1024, .inl nZ))] := hD
  refine lv_aload_n hx hb dX5_readProgram_7 rfl (lv_at hl 0 rfl) ?_
  refine va_get (D := (dC, dI)) (ci := 4) (v := .ref (a 2)) (C := RX5) (T := TX5) (N := 21) hx hb hts in_k_X5_readProgram_X5 hown hK hP 2 rfl rfl 0 (by decide) (hts _ (List.mem_cons_of_mem _ (List.mem_append_left _ (List.mem_append_left _ (List.mem_of_getElem? (i := 4) rfl))))) (fun _ h9 => h9) rfl dX5_readProgram_8 ?_
  have hPc := hP.sub (ws' := [((a 2), .inr (2, [.ref (a 3), .int 0, .int 0, .int 0, .int 0, .long 0, .long 0, .ref (a 8)])), ((a 3), .inl (cy 0, 1024, .inl nZ))]) [3, 4] rfl
  have hPc : va_P (dC, dI) nCl (v0_k_X2_advance cy (fun j9 => [(a 2), (a 3), (a 8)].getD j9 0)) H := hPc
  have hDc := hD.sub (ws' := [((a 2), .inr (2, [.ref (a 3), .int 0, .int 0, .int 0, .int 0, .long 0, .long 0, .ref (a 8)])), ((a 3), .inl (cy 0, 1024, .inl nZ))]) [3, 4] (by decide) rfl
  have hDc : va_D A (v0_k_X2_advance cy (fun j9 => [(a 2), (a 3), (a 8)].getD j9 0)) := hDc
  have hFc := va_free (wc := (v0_k_X2_advance cy (fun j9 => [(a 2), (a 3), (a 8)].getD j9 0))) hD hS hA [3, 4] rfl
  refine va_callv (va_runV (As := []) (rest := []) ⟨hx, hb, hml, hown, hts⟩ (k_X2_advance l dC dI cy k (fun j9 => [(a 2), (a 3), (a 8)].getD j9 0) H.size) (cwV 0 hts g_k_X5_readProgram_30_k_X2_advance rfl rfl rfl (by decide +kernel) ⟨Nat.le_of_ble_eq_true rfl, Nat.le_of_ble_eq_true rfl⟩) ⟨nb_blindE, va_recv hK hPc (ci := 2) (q0 := 0) rfl rfl, fun U hU hW => ⟨rfl, ⟨by rw [hU], by rw [hU]; exact hPc, va_K.moved hW.alike hK, hDc.weaken (fun _ _ _ _ => trivial), hG.warm hW⟩, nE.to hE hS hW hU hFc⟩⟩ rfl rfl hl.1 rfl (lv_room (Nat.le_of_ble_eq_true rfl)) dX5_readProgram_11 ⟨Nat.le_of_ble_eq_true rfl, Nat.le_of_ble_eq_true rfl⟩) hS (fun q _ h => hFc q h) hFc (fun u2 t H1 locs ht hvm hw hB hz1 hk1 hS => ?_)
  obtain ⟨hP1, hK1, hD1⟩ := hB
  rw [ht] at hP1
  obtain ⟨hP, hD⟩ := va_join (wr := [((a 4), .inl (cy 1, 1024, .inl nZ)), ((a 1), .inr (6, [.ref (a 4), .int 0, .int 0, .int 0, .int 0, .ref (a 9), .ref (a 10), .ref (a 11), .ref (a 12), .ref (a 13), .ref (a 14), .int 0, .int 0, .ref (a 15), .ref (a 16), .ref (a 17), .ref (a 18), .ref (a 19), .ref (a 20), .int 0])), ((a 0), .inr (4, [.ref (a 2), .ref (a 5), .ref (a 1), .int 0, .int 2, .int 0, .int 0, .int 0, .int (-1), .int 0, .ref (a 6), .int 0, .ref (a 7), .int 0, .int 0, .int 0, .int (-1), .int 0, .int 0, .int 0, .int 0]))]) (w1 := v1_k_X2_advance cy (fun j9 => [(a 2), (a 3), (a 8)].getD j9 0) u2) hP hD [3, 4] [0, 1, 2] rfl rfl (by decide) (by decide) hk1 hFc hP1 hD1
  generalize H1 = H at hP hS ⊢
  have hP : va_P (dC, dI) nCl [((a 4), .inl (cy 1, 1024, .inl nZ)), ((a 1), .inr (6, [.ref (a 4), .int 0, .int 0, .int 0, .int 0, .ref (a 9), .ref (a 10), .ref (a 11), .ref (a 12), .ref (a 13), .ref (a 14), .int 0, .int 0, .ref (a 15), .ref (a 16), .ref (a 17), .ref (a 18), .ref (a 19), .ref (a 20), .int 0])), ((a 0), .inr (4, [.ref (a 2), .ref (a 5), .ref (a 1), .int 0, .int 2, .int 0, .int 0, .int 0, .int (-1), .int 0, .ref (a 6), .int 0, .ref (a 7), .int 0, .int 0, .int 0, .int (-1), .int 0, .int 0, .int 0, .int 0])), ((a 2), .inr (2, [.ref (a 3), .int 0, .int 1, .int 0, .int 0, .long 0, .long 0, .ref (a 8)])), ((a 3), .inl (cy 0, 1024, .inl nZ))] H := hP
  have hD : va_D A [((a 4), .inl (cy 1, 1024, .inl nZ)), ((a 1), .inr (6, [.ref (a 4), .int 0, .int 0, .int 0, .int 0, .ref (a 9), .ref (a 10), .ref (a 11), .ref (a 12), .ref (a 13), .ref (a 14), .int 0, .int 0, .ref (a 15), .ref (a 16), .ref (a 17), .ref (a 18), .ref (a 19), .ref (a 20), .int 0])), ((a 0), .inr (4, [.ref (a 2), .ref (a 5), .ref (a 1), .int 0, .int 2, .int 0, .int 0, .int 0, .int (-1), .int 0, .ref (a 6), .int 0, .ref (a 7), .int 0, .int 0, .int 0, .int (-1), .int 0, .int 0, .int 0, .int 0])), ((a 2), .inr (2, [.ref (a 3), .int 0, .int 1, .int 0, .int 0, .long 0, .long 0, .ref (a 8)])), ((a 3), .inl (cy 0, 1024, .inl nZ))] := hD
  refine lv_iconst (v := 0) hx hb dX5_readProgram_14 (by decide) ?_
  refine lv_istore_n (lv' := [(2, .int 0), (0, .ref (a 0)), (1, .ref (a 1))]) hx hb dX5_readProgram_15 rfl hl (by decide) rfl (fun ls hl => ?_)
  refine lv_iload_n hx hb dX5_readProgram_16 rfl (lv_at hl 0 rfl) ?_
  refine lv_ldc (v := 32768) hx hb hown (hts _ (List.mem_cons_of_mem _ (List.mem_append_left _ (List.mem_append_left _ (List.mem_of_getElem? (i := 9) rfl))))) dX5_readProgram_17 ?_
  refine lv_icmp_gt (tgt := 95) hx hb dX5_readProgram_19 (by decide) (fun c1 => False.elim (by revert c1; decide)) (fun _ => ?_)
  refine lv_aload_n hx hb dX5_readProgram_22 rfl (lv_at hl 1 rfl) ?_
  refine va_get (D := (dC, dI)) (ci := 4) (v := .ref (a 2)) (C := RX5) (T := TX5) (N := 21) hx hb hts in_k_X5_readProgram_X5 hown hK hP 2 rfl rfl 0 (by decide) (hts _ (List.mem_cons_of_mem _ (List.mem_append_left _ (List.mem_append_left _ (List.mem_of_getElem? (i := 4) rfl))))) (fun _ h9 => h9) rfl dX5_readProgram_23 ?_
  refine va_getN (D := (dC, dI)) (ci := 2) (v := .int 1) (C := RX2) (T := TX2) (N := 8) hx hb hts in_k_X5_readProgram_X2 hown hK hP 3 rfl rfl 2 (by decide) (va_Nw.use rfl (hG.1 _ (List.mem_of_getElem? (i := 52) rfl))) (fun _ h9 => h9) rfl dX5_readProgram_26 ?_
  refine lv_bipush (v := 32) hx hb dX5_readProgram_29 (by decide) ?_
  refine lv_icmp_lt (tgt := 95) hx hb dX5_readProgram_31 (by decide) (fun _ => ?_) (fun c1 => False.elim (by revert c1; decide))
  refine lv_aload_n hx hb dX5_readProgram_95 rfl (lv_at hl 2 rfl) ?_
  refine lv_aload_n hx hb dX5_readProgram_96 rfl (lv_at hl 2 rfl) ?_
  refine va_getN (D := (dC, dI)) (ci := 6) (v := .int 0) (C := RX7) (T := TX7) (N := 20) hx hb hts in_k_X5_readProgram_X7 hown hK hP 1 rfl rfl 1 (by decide) (va_Nw.use rfl (hG.1 _ (List.mem_of_getElem? (i := 68) rfl))) (fun _ h9 => h9) rfl dX5_readProgram_97 ?_
  refine va_putN (D := (dC, dI)) (ci := 6) (v := .int 0) (ty := .int) (C := RX7) (T := TX7) (N := 20) hx hb hts in_k_X5_readProgram_X7 tyX7 tyX7_ok nmX7 hown hK hP hD hS 1 rfl rfl 2 (by decide) (va_Nw.use rfl (hG.1 _ (List.mem_of_getElem? (i := 70) rfl))) (fun _ h9 => h9) rfl (by decide +kernel) rfl rfl (Nat.le_of_ble_eq_true rfl) dX5_readProgram_100 (fun H locs hP hD hS => ?_)
  have hP : va_P (dC, dI) nCl [((a 4), .inl (cy 1, 1024, .inl nZ)), ((a 1), .inr (6, [.ref (a 4), .int 0, .int 0, .int 0, .int 0, .ref (a 9), .ref (a 10), .ref (a 11), .ref (a 12), .ref (a 13), .ref (a 14), .int 0, .int 0, .ref (a 15), .ref (a 16), .ref (a 17), .ref (a 18), .ref (a 19), .ref (a 20), .int 0])), ((a 0), .inr (4, [.ref (a 2), .ref (a 5), .ref (a 1), .int 0, .int 2, .int 0, .int 0, .int 0, .int (-1), .int 0, .ref (a 6), .int 0, .ref (a 7), .int 0, .int 0, .int 0, .int (-1), .int 0, .int 0, .int 0, .int 0])), ((a 2), .inr (2, [.ref (a 3), .int 0, .int 1, .int 0, .int 0, .long 0, .long 0, .ref (a 8)])), ((a 3), .inl (cy 0, 1024, .inl nZ))] H := hP
  have hD : va_D A [((a 4), .inl (cy 1, 1024, .inl nZ)), ((a 1), .inr (6, [.ref (a 4), .int 0, .int 0, .int 0, .int 0, .ref (a 9), .ref (a 10), .ref (a 11), .ref (a 12), .ref (a 13), .ref (a 14), .int 0, .int 0, .ref (a 15), .ref (a 16), .ref (a 17), .ref (a 18), .ref (a 19), .ref (a 20), .int 0])), ((a 0), .inr (4, [.ref (a 2), .ref (a 5), .ref (a 1), .int 0, .int 2, .int 0, .int 0, .int 0, .int (-1), .int 0, .ref (a 6), .int 0, .ref (a 7), .int 0, .int 0, .int 0, .int (-1), .int 0, .int 0, .int 0, .int 0])), ((a 2), .inr (2, [.ref (a 3), .int 0, .int 1, .int 0, .int 0, .long 0, .long 0, .ref (a 8)])), ((a 3), .inl (cy 0, 1024, .inl nZ))] := hD
  refine lv_aload_n hx hb dX5_readProgram_103 rfl (lv_at hl 1 rfl) ?_
  have hPc := hP.sub (ws' := [((a 0), .inr (4, [.ref (a 2), .ref (a 5), .ref (a 1), .int 0, .int 2, .int 0, .int 0, .int 0, .int (-1), .int 0, .ref (a 6), .int 0, .ref (a 7), .int 0, .int 0, .int 0, .int (-1), .int 0, .int 0, .int 0, .int 0])), ((a 2), .inr (2, [.ref (a 3), .int 0, .int 1, .int 0, .int 0, .long 0, .long 0, .ref (a 8)]))]) [2, 3] rfl
  have hPc : va_P (dC, dI) nCl (v0_k_X5_block cy (fun j9 => [(a 0), (a 2), (a 5), (a 1), (a 6), (a 7), (a 3), (a 8)].getD j9 0)) H := hPc
  have hDc := hD.sub (ws' := [((a 0), .inr (4, [.ref (a 2), .ref (a 5), .ref (a 1), .int 0, .int 2, .int 0, .int 0, .int 0, .int (-1), .int 0, .ref (a 6), .int 0, .ref (a 7), .int 0, .int 0, .int 0, .int (-1), .int 0, .int 0, .int 0, .int 0])), ((a 2), .inr (2, [.ref (a 3), .int 0, .int 1, .int 0, .int 0, .long 0, .long 0, .ref (a 8)]))]) [2, 3] (by decide) rfl
  have hDc : va_D A (v0_k_X5_block cy (fun j9 => [(a 0), (a 2), (a 5), (a 1), (a 6), (a 7), (a 3), (a 8)].getD j9 0)) := hDc
  have hFc := va_free (wc := (v0_k_X5_block cy (fun j9 => [(a 0), (a 2), (a 5), (a 1), (a 6), (a 7), (a 3), (a 8)].getD j9 0))) hD hS hA [2, 3] rfl
  refine va_callv (va_runV (As := []) (rest := []) ⟨hx, hb, hml, hown, hts⟩ (k_X5_block l dC dI cy k (fun j9 => [(a 0), (a 2), (a 5), (a 1), (a 6), (a 7), (a 3), (a 8)].getD j9 0) H.size) (cwV 0 hts g_k_X5_readProgram_58_k_X5_block rfl rfl rfl (by decide +kernel) ⟨Nat.le_of_ble_eq_true rfl, Nat.le_of_ble_eq_true rfl⟩) ⟨nb_blindE, va_recv hK hPc (ci := 4) (q0 := 0) rfl rfl, fun U hU hW => ⟨rfl, ⟨by rw [hU], by rw [hU]; exact hPc, va_K.moved hW.alike hK, hDc.weaken (fun _ _ _ _ => trivial), hG.warm hW⟩, nE.to hE hS hW hU hFc⟩⟩ rfl rfl hl.1 rfl (lv_room (Nat.le_of_ble_eq_true rfl)) dX5_readProgram_104 ⟨Nat.le_of_ble_eq_true rfl, Nat.le_of_ble_eq_true rfl⟩) hS (fun q _ h => hFc q h) hFc (fun u3 t H1 locs ht hvm hw hB hz1 hk1 hS => ?_)
  obtain ⟨hP1, hK1, hD1⟩ := hB
  rw [ht] at hP1
  obtain ⟨hP, hD⟩ := va_join (wr := [((a 4), .inl (cy 1, 1024, .inl nZ)), ((a 1), .inr (6, [.ref (a 4), .int 0, .int 0, .int 0, .int 0, .ref (a 9), .ref (a 10), .ref (a 11), .ref (a 12), .ref (a 13), .ref (a 14), .int 0, .int 0, .ref (a 15), .ref (a 16), .ref (a 17), .ref (a 18), .ref (a 19), .ref (a 20), .int 0])), ((a 3), .inl (cy 0, 1024, .inl nZ))]) (w1 := v1_k_X5_block cy (fun j9 => [(a 0), (a 2), (a 5), (a 1), (a 6), (a 7), (a 3), (a 8)].getD j9 0) u3) hP hD [2, 3] [0, 1, 4] rfl rfl (by decide) (by decide) hk1 hFc hP1 hD1
  generalize H1 = H at hP hS ⊢
  have hP : va_P (dC, dI) nCl [((a 4), .inl (cy 1, 1024, .inl nZ)), ((a 1), .inr (6, [.ref (a 4), .int 0, .int 0, .int 0, .int 0, .ref (a 9), .ref (a 10), .ref (a 11), .ref (a 12), .ref (a 13), .ref (a 14), .int 0, .int 0, .ref (a 15), .ref (a 16), .ref (a 17), .ref (a 18), .ref (a 19), .ref (a 20), .int 0])), ((a 3), .inl (cy 0, 1024, .inl nZ)), ((a 0), .inr (4, [.ref (a 2), .ref (a 5), .ref (a 1), .int 0, .int 2, .int 0, .int 0, .int 0, .int (-1), .int 0, .ref (a 6), .int 0, .ref (a 7), .int 0, .int 0, .int 0, .int (-1), .int 0, .int 0, .int 0, .int 0])), ((a 2), .inr (2, [.ref (a 3), .int 0, .int 1, .int 0, .int 0, .long 0, .long 0, .ref (a 8)]))] H := hP
  have hD : va_D A [((a 4), .inl (cy 1, 1024, .inl nZ)), ((a 1), .inr (6, [.ref (a 4), .int 0, .int 0, .int 0, .int 0, .ref (a 9), .ref (a 10), .ref (a 11), .ref (a 12), .ref (a 13), .ref (a 14), .int 0, .int 0, .ref (a 15), .ref (a 16), .ref (a 17), .ref (a 18), .ref (a 19), .ref (a 20), .int 0])), ((a 3), .inl (cy 0, 1024, .inl nZ)), ((a 0), .inr (4, [.ref (a 2), .ref (a 5), .ref (a 1), .int 0, .int 2, .int 0, .int 0, .int 0, .int (-1), .int 0, .ref (a 6), .int 0, .ref (a 7), .int 0, .int 0, .int 0, .int (-1), .int 0, .int 0, .int 0, .int 0])), ((a 2), .inr (2, [.ref (a 3), .int 0, .int 1, .int 0, .int 0, .long 0, .long 0, .ref (a 8)]))] := hD
  refine lv_aload_n hx hb dX5_readProgram_107 rfl (lv_at hl 1 rfl) ?_
  refine lv_iconst (v := 1) hx hb dX5_readProgram_108 (by decide) ?_
  have hPc := hP.sub (ws' := [((a 0), .inr (4, [.ref (a 2), .ref (a 5), .ref (a 1), .int 0, .int 2, .int 0, .int 0, .int 0, .int (-1), .int 0, .ref (a 6), .int 0, .ref (a 7), .int 0, .int 0, .int 0, .int (-1), .int 0, .int 0, .int 0, .int 0])), ((a 2), .inr (2, [.ref (a 3), .int 0, .int 1, .int 0, .int 0, .long 0, .long 0, .ref (a 8)]))]) [3, 4] rfl
  have hPc : va_P (dC, dI) nCl (v0_k_X5_want cy (fun j9 => [(a 0), (a 2), (a 5), (a 1), (a 6), (a 7), (a 3), (a 8)].getD j9 0)) H := hPc
  have hDc := hD.sub (ws' := [((a 0), .inr (4, [.ref (a 2), .ref (a 5), .ref (a 1), .int 0, .int 2, .int 0, .int 0, .int 0, .int (-1), .int 0, .ref (a 6), .int 0, .ref (a 7), .int 0, .int 0, .int 0, .int (-1), .int 0, .int 0, .int 0, .int 0])), ((a 2), .inr (2, [.ref (a 3), .int 0, .int 1, .int 0, .int 0, .long 0, .long 0, .ref (a 8)]))]) [3, 4] (by decide) rfl
  have hDc : va_D A (v0_k_X5_want cy (fun j9 => [(a 0), (a 2), (a 5), (a 1), (a 6), (a 7), (a 3), (a 8)].getD j9 0)) := hDc
  have hFc := va_free (wc := (v0_k_X5_want cy (fun j9 => [(a 0), (a 2), (a 5), (a 1), (a 6), (a 7), (a 3), (a 8)].getD j9 0))) hD hS hA [3, 4] rfl
  refine va_callv (va_runV (As := [.int 1]) (rest := []) ⟨hx, hb, hml, hown, hts⟩ (k_X5_want l dC dI cy k (fun j9 => [(a 0), (a 2), (a 5), (a 1), (a 6), (a 7), (a 3), (a 8)].getD j9 0) H.size) (cwV 1 hts g_k_X5_readProgram_61_k_X5_want rfl rfl rfl (by decide +kernel) ⟨Nat.le_of_ble_eq_true rfl, Nat.le_of_ble_eq_true rfl⟩) ⟨nb_blindE, va_recv hK hPc (ci := 4) (q0 := 0) rfl rfl, fun U hU hW => ⟨rfl, ⟨by rw [hU], by rw [hU]; exact hPc, va_K.moved hW.alike hK, hDc.weaken (fun _ _ _ _ => trivial), hG.warm hW⟩, nE.to hE hS hW hU hFc⟩⟩ rfl rfl hl.1 rfl (lv_room (Nat.le_of_ble_eq_true rfl)) dX5_readProgram_109 ⟨Nat.le_of_ble_eq_true rfl, Nat.le_of_ble_eq_true rfl⟩) hS (fun q _ h => hFc q h) hFc (fun u4 t H1 locs ht hvm hw hB hz1 hk1 hS => ?_)
  obtain ⟨hP1, hK1, hD1⟩ := hB
  rw [ht] at hP1
  obtain ⟨hP, hD⟩ := va_join (wr := [((a 4), .inl (cy 1, 1024, .inl nZ)), ((a 1), .inr (6, [.ref (a 4), .int 0, .int 0, .int 0, .int 0, .ref (a 9), .ref (a 10), .ref (a 11), .ref (a 12), .ref (a 13), .ref (a 14), .int 0, .int 0, .ref (a 15), .ref (a 16), .ref (a 17), .ref (a 18), .ref (a 19), .ref (a 20), .int 0])), ((a 3), .inl (cy 0, 1024, .inl nZ))]) (w1 := v1_k_X5_want cy (fun j9 => [(a 0), (a 2), (a 5), (a 1), (a 6), (a 7), (a 3), (a 8)].getD j9 0) u4) hP hD [3, 4] [0, 1, 2] rfl rfl (by decide) (by decide) hk1 hFc hP1 hD1
  generalize H1 = H at hP hS ⊢
  have hP : va_P (dC, dI) nCl [((a 4), .inl (cy 1, 1024, .inl nZ)), ((a 1), .inr (6, [.ref (a 4), .int 0, .int 0, .int 0, .int 0, .ref (a 9), .ref (a 10), .ref (a 11), .ref (a 12), .ref (a 13), .ref (a 14), .int 0, .int 0, .ref (a 15), .ref (a 16), .ref (a 17), .ref (a 18), .ref (a 19), .ref (a 20), .int 0])), ((a 3), .inl (cy 0, 1024, .inl nZ)), ((a 0), .inr (4, [.ref (a 2), .ref (a 5), .ref (a 1), .int 0, .int 2, .int 0, .int 0, .int 0, .int (-1), .int 0, .ref (a 6), .int 0, .ref (a 7), .int 0, .int 0, .int 0, .int (-1), .int 0, .int 0, .int 0, .int 0])), ((a 2), .inr (2, [.ref (a 3), .int 0, .int 1, .int 0, .int 0, .long 0, .long 0, .ref (a 8)]))] H := hP
  have hD : va_D A [((a 4), .inl (cy 1, 1024, .inl nZ)), ((a 1), .inr (6, [.ref (a 4), .int 0, .int 0, .int 0, .int 0, .ref (a 9), .ref (a 10), .ref (a 11), .ref (a 12), .ref (a 13), .ref (a 14), .int 0, .int 0, .ref (a 15), .ref (a 16), .ref (a 17), .ref (a 18), .ref (a 19), .ref (a 20), .int 0])), ((a 3), .inl (cy 0, 1024, .inl nZ)), ((a 0), .inr (4, [.ref (a 2), .ref (a 5), .ref (a 1), .int 0, .int 2, .int 0, .int 0, .int 0, .int (-1), .int 0, .ref (a 6), .int 0, .ref (a 7), .int 0, .int 0, .int 0, .int (-1), .int 0, .int 0, .int 0, .int 0])), ((a 2), .inr (2, [.ref (a 3), .int 0, .int 1, .int 0, .int 0, .long 0, .long 0, .ref (a 8)]))] := hD
  refine lv_aload_n hx hb dX5_readProgram_112 rfl (lv_at hl 2 rfl) ?_
  refine lv_iconst (v := 1) hx hb dX5_readProgram_113 (by decide) ?_
  refine lv_iconst (v := 0) hx hb dX5_readProgram_114 (by decide) ?_
  have hPc := hP.sub (ws' := [((a 1), .inr (6, [.ref (a 4), .int 0, .int 0, .int 0, .int 0, .ref (a 9), .ref (a 10), .ref (a 11), .ref (a 12), .ref (a 13), .ref (a 14), .int 0, .int 0, .ref (a 15), .ref (a 16), .ref (a 17), .ref (a 18), .ref (a 19), .ref (a 20), .int 0])), ((a 4), .inl (cy 1, 1024, .inl nZ))]) [1, 0] rfl
  have hPc : va_P (dC, dI) nCl (v0_k_X7_emit cy (fun j9 => [(a 1), (a 4), (a 9), (a 10), (a 11), (a 12), (a 13), (a 14), (a 15), (a 16), (a 17), (a 18), (a 19), (a 20)].getD j9 0)) H := hPc
  have hDc := hD.sub (ws' := [((a 1), .inr (6, [.ref (a 4), .int 0, .int 0, .int 0, .int 0, .ref (a 9), .ref (a 10), .ref (a 11), .ref (a 12), .ref (a 13), .ref (a 14), .int 0, .int 0, .ref (a 15), .ref (a 16), .ref (a 17), .ref (a 18), .ref (a 19), .ref (a 20), .int 0])), ((a 4), .inl (cy 1, 1024, .inl nZ))]) [1, 0] (by decide) rfl
  have hDc : va_D A (v0_k_X7_emit cy (fun j9 => [(a 1), (a 4), (a 9), (a 10), (a 11), (a 12), (a 13), (a 14), (a 15), (a 16), (a 17), (a 18), (a 19), (a 20)].getD j9 0)) := hDc
  have hFc := va_free (wc := (v0_k_X7_emit cy (fun j9 => [(a 1), (a 4), (a 9), (a 10), (a 11), (a 12), (a 13), (a 14), (a 15), (a 16), (a 17), (a 18), (a 19), (a 20)].getD j9 0))) hD hS hA [1, 0] rfl
  refine va_calli (va_runV (As := [.int 1, .int 0]) (rest := []) ⟨hx, hb, hml, hown, hts⟩ (k_X7_emit l dC dI cy k (fun j9 => [(a 1), (a 4), (a 9), (a 10), (a 11), (a 12), (a 13), (a 14), (a 15), (a 16), (a 17), (a 18), (a 19), (a 20)].getD j9 0) H.size) (cwV 2 hts g_k_X5_readProgram_66_k_X7_emit rfl rfl rfl (by decide +kernel) ⟨Nat.le_of_ble_eq_true rfl, Nat.le_of_ble_eq_true rfl⟩) ⟨nb_blindE, va_recv hK hPc (ci := 6) (q0 := 0) rfl rfl, fun U hU hW => ⟨rfl, ⟨by rw [hU], by rw [hU]; exact hPc, va_K.moved hW.alike hK, hDc.weaken (fun _ _ _ _ => trivial), hG.warm hW⟩, nE.to hE hS hW hU hFc⟩⟩ rfl rfl hl.1 rfl (lv_room (Nat.le_of_ble_eq_true rfl)) dX5_readProgram_115 ⟨Nat.le_of_ble_eq_true rfl, Nat.le_of_ble_eq_true rfl⟩) hS (fun q _ h => hFc q h) hFc (fun r_5 u5 t H1 locs ht hvm hw hB hz1 hk1 hS => ?_)
  subst hw
  obtain ⟨hP1, hK1, hD1⟩ := hB
  rw [ht] at hP1
  obtain ⟨hP, hD⟩ := va_join (wr := [((a 3), .inl (cy 0, 1024, .inl nZ)), ((a 0), .inr (4, [.ref (a 2), .ref (a 5), .ref (a 1), .int 0, .int 2, .int 0, .int 0, .int 0, .int (-1), .int 0, .ref (a 6), .int 0, .ref (a 7), .int 0, .int 0, .int 0, .int (-1), .int 0, .int 0, .int 0, .int 0])), ((a 2), .inr (2, [.ref (a 3), .int 0, .int 1, .int 0, .int 0, .long 0, .long 0, .ref (a 8)]))]) (w1 := v1_k_X7_emit cy (fun j9 => [(a 1), (a 4), (a 9), (a 10), (a 11), (a 12), (a 13), (a 14), (a 15), (a 16), (a 17), (a 18), (a 19), (a 20)].getD j9 0) u5) hP hD [1, 0] [2, 3, 4] rfl rfl (by decide) (by decide) hk1 hFc hP1 hD1
  generalize H1 = H at hP hS ⊢
  have hP : va_P (dC, dI) nCl [((a 3), .inl (cy 0, 1024, .inl nZ)), ((a 0), .inr (4, [.ref (a 2), .ref (a 5), .ref (a 1), .int 0, .int 2, .int 0, .int 0, .int 0, .int (-1), .int 0, .ref (a 6), .int 0, .ref (a 7), .int 0, .int 0, .int 0, .int (-1), .int 0, .int 0, .int 0, .int 0])), ((a 2), .inr (2, [.ref (a 3), .int 0, .int 1, .int 0, .int 0, .long 0, .long 0, .ref (a 8)])), ((a 1), .inr (6, [.ref (a 4), .int 1, .int 0, .int 0, .int 0, .ref (a 9), .ref (a 10), .ref (a 11), .ref (a 12), .ref (a 13), .ref (a 14), .int 0, .int 0, .ref (a 15), .ref (a 16), .ref (a 17), .ref (a 18), .ref (a 19), .ref (a 20), .int 0])), ((a 4), .inl (cy 1, 1024, .inl (upd nZ 0 1)))] H := hP
  have hD : va_D A [((a 3), .inl (cy 0, 1024, .inl nZ)), ((a 0), .inr (4, [.ref (a 2), .ref (a 5), .ref (a 1), .int 0, .int 2, .int 0, .int 0, .int 0, .int (-1), .int 0, .ref (a 6), .int 0, .ref (a 7), .int 0, .int 0, .int 0, .int (-1), .int 0, .int 0, .int 0, .int 0])), ((a 2), .inr (2, [.ref (a 3), .int 0, .int 1, .int 0, .int 0, .long 0, .long 0, .ref (a 8)])), ((a 1), .inr (6, [.ref (a 4), .int 1, .int 0, .int 0, .int 0, .ref (a 9), .ref (a 10), .ref (a 11), .ref (a 12), .ref (a 13), .ref (a 14), .int 0, .int 0, .ref (a 15), .ref (a 16), .ref (a 17), .ref (a 18), .ref (a 19), .ref (a 20), .int 0])), ((a 4), .inl (cy 1, 1024, .inl (upd nZ 0 1)))] := hD
  refine lv_pop hx hb dX5_readProgram_118 rfl ?_
  refine lv_iconst (v := 1) hx hb dX5_readProgram_119 (by decide) ?_
  have hP : va_P (dC, dI) nCl (v1_k_X5_readProgram cy a (fun _ => 0)) H := hP
  have hD : va_D A (v1_k_X5_readProgram cy a (fun _ => 0)) := hD
  exact W.zret (v := 1) hx hb hr rfl (fun t ht hW => ⟨⟨1, (fun _ => 0), rfl, rfl, by rw [ht]; exact hP, va_K.moved hW.alike hK, hD⟩, hS.F ht⟩) hS.2.2 dX5_readProgram_120
def o_k_X7_moveDown : List Cond := [.fieldLink RX7 53 "SetHouse$Program" "size" "I", .fieldLink RX7 57 "SetHouse$Program" "entry" "I", .fieldLink RX7 9 "SetHouse$Program" "code" "[I", .methodLink RX7 76 arraycopyName, .native arraycopyName, .static arraycopyName, .initialized "java/lang/System", .fieldLink RX7 69 "SetHouse$Program" "units" "I", .fieldLink RX7 35 "SetHouse$Program" "entries" "[I"]
theorem o_k_X7_moveDown_good : o_k_X7_moveDown.all goodWord = true := by decide +kernel
def p_k_X7_moveDown : List Cond := o_k_X7_moveDown ++ []
theorem p_k_X7_moveDown_good : p_k_X7_moveDown.all goodWord = true := nb_all2 o_k_X7_moveDown_good rfl
def w_k_X7_moveDown : List Cond := .code yX7_moveDown cX7_moveDown 3 none :: (p_k_X7_moveDown ++ fC)
theorem w_k_X7_moveDown_good : w_k_X7_moveDown.all goodWord = true := nb_allc (by decide +kernel) (nb_all2 p_k_X7_moveDown_good fC_good)
theorem in_k_X7_moveDown_X7 : ∀ w ∈ wsX70, w ∈ w_k_X7_moveDown := fun _ h => List.mem_cons_of_mem _ (List.mem_append_right _ (List.mem_append_right _ (List.mem_append_right _ (List.mem_append_right _ (List.mem_append_right _ (List.mem_append_right _ (List.mem_append_right _ (List.mem_append_left _ h))))))))
def v0_k_X7_moveDown (cy : Nat → ClassId) (a : Nat → Nat) : va_W := [((a 0), .inr (6, [.ref (a 2), .int 1, .int 0, .int 0, .int 0, .ref (a 3), .ref (a 4), .ref (a 5), .ref (a 6), .ref (a 7), .ref (a 8), .int 0, .int 0, .ref (a 1), .ref (a 9), .ref (a 10), .ref (a 11), .ref (a 12), .ref (a 13), .int 0])), ((a 1), .inl (cy 1, 42, .inl nZ)), ((a 2), .inl (cy 1, 1024, .inl (upd nZ 0 1)))]
def v1_k_X7_moveDown (cy : Nat → ClassId) (a : Nat → Nat) (r : Nat → Nat) : va_W := [((a 0), .inr (6, [.ref (a 2), .int 1, .int 0, .int 0, .int 0, .ref (a 3), .ref (a 4), .ref (a 5), .ref (a 6), .ref (a 7), .ref (a 8), .int 0, .int 0, .ref (a 1), .ref (a 9), .ref (a 10), .ref (a 11), .ref (a 12), .ref (a 13), .int 0])), ((a 1), .inl (cy 1, 42, .inl nZ)), ((a 2), .inl (cy 1, 1024, .inl (upd nZ 0 1)))]
set_option maxHeartbeats 40000000 in
set_option maxRecDepth 100000 in
theorem k_X7_moveDown (l : Launch) (dC : Nat → ClassId) (dI : Nat → Nat → Nat) (cy : Nat → ClassId) (k : Nat → Nat) (a : Nat → Nat) (sz : Nat) : Met l yX7_moveDown w_k_X7_moveDown ({ frames := 1, cells := 0, slots := 0, locals := 60 }) (va_Pc [.ref (a 0), .int 0] (nInE (dC, dI) cy k sz (v0_k_X7_moveDown cy a))) (va_Qv (fun _ : Nat → Nat => True) (fun r t => nOut (dC, dI) cy (va_A (v0_k_X7_moveDown cy a) sz) (v1_k_X7_moveDown cy a r) t) (va_A (v0_k_X7_moveDown cy a) sz)) 0 0 (va_A (v0_k_X7_moveDown cy a) sz) := by
  refine Met.ofW (cc := cX7_moveDown) (maxL := 3) (ret := none) (by decide) rfl ?_
  intro p e s m args below meth c s₁ B hml hv
  obtain ⟨rfl, ⟨hsz, hP, hK, hD0, hG⟩, hE⟩ := hv
  have hx := B.exec
  have hb := B.bytes
  have hr := B.returns
  have hts := atoms_spec (ws := w_k_X7_moveDown) B.pre
  have hown : s.vm.findClass RX7 = some m.cls := findClass_of_methodNamed B.named
  have hlocks := B.notSynchronized
  subst hsz
  have hD := hD0.self (sz := s.heap.size)
  generalize hAe : va_A (v0_k_X7_moveDown cy a) s.heap.size = A at hD hE ⊢
  have hA : ∀ q : Nat, s.heap.size ≤ q → A q := fun q h => by rw [← hAe]; exact Or.inr h
  have hS : va_S A s.heap s.heap [] := va_S.rf
  have hP : va_P (dC, dI) nCl (v0_k_X7_moveDown cy a) s.heap := hP
  have hl := lv_entry ([.ref (a 0), .int 0]) (n := 3) (Nat.le_of_ble_eq_true rfl)
  rw [lg_entry_eq]
  generalize (lg_sl ([.ref (a 0), .int 0]) ++ List.replicate (3 - (lg_sl ([.ref (a 0), .int 0])).length) Slot.unset).toArray = ls at hl ⊢
  have hl : lv_has ls 3 [(0, .ref (a 0)), (1, .int 0)] := hl
  have hP : va_P (dC, dI) nCl [((a 0), .inr (6, [.ref (a 2), .int 1, .int 0, .int 0, .int 0, .ref (a 3), .ref (a 4), .ref (a 5), .ref (a 6), .ref (a 7), .ref (a 8), .int 0, .int 0, .ref (a 1), .ref (a 9), .ref (a 10), .ref (a 11), .ref (a 12), .ref (a 13), .int 0])), ((a 1), .inl (cy 1, 42, .inl nZ)), ((a 2), .inl (cy 1, 1024, .inl (upd nZ 0 1)))] s.heap := hP
  have hD : va_D A [((a 0), .inr (6, [.ref (a 2), .int 1, .int 0, .int 0, .int 0, .ref (a 3), .ref (a 4), .ref (a 5), .ref (a 6), .ref (a 7), .ref (a 8), .int 0, .int 0, .ref (a 1), .ref (a 9), .ref (a 10), .ref (a 11), .ref (a 12), .ref (a 13), .int 0])), ((a 1), .inl (cy 1, 42, .inl nZ)), ((a 2), .inl (cy 1, 1024, .inl (upd nZ 0 1)))] := hD
  refine lv_aload_n hx hb dX7_moveDown_0 rfl (lv_at hl 0 rfl) ?_
  refine lv_aload_n hx hb dX7_moveDown_1 rfl (lv_at hl 0 rfl) ?_
  refine va_get (D := (dC, dI)) (ci := 6) (v := .int 1) (C := RX7) (T := TX7) (N := 20) hx hb hts in_k_X7_moveDown_X7 hown hK hP 0 rfl rfl 1 (by decide) (hts _ (List.mem_cons_of_mem _ (List.mem_append_left _ (List.mem_append_left _ (List.mem_of_getElem? (i := 0) rfl))))) (fun _ h9 => h9) rfl dX7_moveDown_2 ?_
  refine lv_iload_n hx hb dX7_moveDown_5 rfl (lv_at hl 1 rfl) ?_
  refine lv_isub hx hb dX7_moveDown_6 ?_
  refine W.eq (g2 := F0 m 7 ls [.int 1, .ref (a 0)]) rfl ?_
  refine va_put (D := (dC, dI)) (ci := 6) (v := .int 1) (ty := .int) (C := RX7) (T := TX7) (N := 20) hx hb hts in_k_X7_moveDown_X7 tyX7 tyX7_ok nmX7 hown hK hP hD hS 0 rfl rfl 1 (by decide) (hts _ (List.mem_cons_of_mem _ (List.mem_append_left _ (List.mem_append_left _ (List.mem_of_getElem? (i := 0) rfl))))) (fun _ h9 => h9) rfl (by decide +kernel) rfl rfl (Nat.le_of_ble_eq_true rfl) dX7_moveDown_7 (fun H locs hP hD hS => ?_)
  have hP : va_P (dC, dI) nCl [((a 0), .inr (6, [.ref (a 2), .int 1, .int 0, .int 0, .int 0, .ref (a 3), .ref (a 4), .ref (a 5), .ref (a 6), .ref (a 7), .ref (a 8), .int 0, .int 0, .ref (a 1), .ref (a 9), .ref (a 10), .ref (a 11), .ref (a 12), .ref (a 13), .int 0])), ((a 1), .inl (cy 1, 42, .inl nZ)), ((a 2), .inl (cy 1, 1024, .inl (upd nZ 0 1)))] H := hP
  have hD : va_D A [((a 0), .inr (6, [.ref (a 2), .int 1, .int 0, .int 0, .int 0, .ref (a 3), .ref (a 4), .ref (a 5), .ref (a 6), .ref (a 7), .ref (a 8), .int 0, .int 0, .ref (a 1), .ref (a 9), .ref (a 10), .ref (a 11), .ref (a 12), .ref (a 13), .int 0])), ((a 1), .inl (cy 1, 42, .inl nZ)), ((a 2), .inl (cy 1, 1024, .inl (upd nZ 0 1)))] := hD
  refine lv_aload_n hx hb dX7_moveDown_10 rfl (lv_at hl 0 rfl) ?_
  refine lv_aload_n hx hb dX7_moveDown_11 rfl (lv_at hl 0 rfl) ?_
  refine va_get (D := (dC, dI)) (ci := 6) (v := .int 0) (C := RX7) (T := TX7) (N := 20) hx hb hts in_k_X7_moveDown_X7 hown hK hP 0 rfl rfl 2 (by decide) (hts _ (List.mem_cons_of_mem _ (List.mem_append_left _ (List.mem_append_left _ (List.mem_of_getElem? (i := 1) rfl))))) (fun _ h9 => h9) rfl dX7_moveDown_12 ?_
  refine lv_iload_n hx hb dX7_moveDown_15 rfl (lv_at hl 1 rfl) ?_
  refine lv_isub hx hb dX7_moveDown_16 ?_
  refine W.eq (g2 := F0 m 17 ls [.int 0, .ref (a 0)]) rfl ?_
  refine va_put (D := (dC, dI)) (ci := 6) (v := .int 0) (ty := .int) (C := RX7) (T := TX7) (N := 20) hx hb hts in_k_X7_moveDown_X7 tyX7 tyX7_ok nmX7 hown hK hP hD hS 0 rfl rfl 2 (by decide) (hts _ (List.mem_cons_of_mem _ (List.mem_append_left _ (List.mem_append_left _ (List.mem_of_getElem? (i := 1) rfl))))) (fun _ h9 => h9) rfl (by decide +kernel) rfl rfl (Nat.le_of_ble_eq_true rfl) dX7_moveDown_17 (fun H locs hP hD hS => ?_)
  have hP : va_P (dC, dI) nCl [((a 0), .inr (6, [.ref (a 2), .int 1, .int 0, .int 0, .int 0, .ref (a 3), .ref (a 4), .ref (a 5), .ref (a 6), .ref (a 7), .ref (a 8), .int 0, .int 0, .ref (a 1), .ref (a 9), .ref (a 10), .ref (a 11), .ref (a 12), .ref (a 13), .int 0])), ((a 1), .inl (cy 1, 42, .inl nZ)), ((a 2), .inl (cy 1, 1024, .inl (upd nZ 0 1)))] H := hP
  have hD : va_D A [((a 0), .inr (6, [.ref (a 2), .int 1, .int 0, .int 0, .int 0, .ref (a 3), .ref (a 4), .ref (a 5), .ref (a 6), .ref (a 7), .ref (a 8), .int 0, .int 0, .ref (a 1), .ref (a 9), .ref (a 10), .ref (a 11), .ref (a 12), .ref (a 13), .int 0])), ((a 1), .inl (cy 1, 42, .inl nZ)), ((a 2), .inl (cy 1, 1024, .inl (upd nZ 0 1)))] := hD
  refine lv_aload_n hx hb dX7_moveDown_20 rfl (lv_at hl 0 rfl) ?_
  refine va_get (D := (dC, dI)) (ci := 6) (v := .ref (a 2)) (C := RX7) (T := TX7) (N := 20) hx hb hts in_k_X7_moveDown_X7 hown hK hP 0 rfl rfl 0 (by decide) (hts _ (List.mem_cons_of_mem _ (List.mem_append_left _ (List.mem_append_left _ (List.mem_of_getElem? (i := 2) rfl))))) (fun _ h9 => h9) rfl dX7_moveDown_21 ?_
  refine lv_iload_n hx hb dX7_moveDown_24 rfl (lv_at hl 1 rfl) ?_
  refine lv_aload_n hx hb dX7_moveDown_25 rfl (lv_at hl 0 rfl) ?_
  refine va_get (D := (dC, dI)) (ci := 6) (v := .ref (a 2)) (C := RX7) (T := TX7) (N := 20) hx hb hts in_k_X7_moveDown_X7 hown hK hP 0 rfl rfl 0 (by decide) (hts _ (List.mem_cons_of_mem _ (List.mem_append_left _ (List.mem_append_left _ (List.mem_of_getElem? (i := 2) rfl))))) (fun _ h9 => h9) rfl dX7_moveDown_26 ?_
  refine lv_iconst (v := 0) hx hb dX7_moveDown_29 (by decide) ?_
  refine lv_aload_n hx hb dX7_moveDown_30 rfl (lv_at hl 0 rfl) ?_
  refine va_get (D := (dC, dI)) (ci := 6) (v := .int 1) (C := RX7) (T := TX7) (N := 20) hx hb hts in_k_X7_moveDown_X7 hown hK hP 0 rfl rfl 1 (by decide) (hts _ (List.mem_cons_of_mem _ (List.mem_append_left _ (List.mem_append_left _ (List.mem_of_getElem? (i := 0) rfl))))) (fun _ h9 => h9) rfl dX7_moveDown_31 ?_
  refine va_copyi (ty := .int) hx hb (hml.trans hl.1.symm) hown (hts _ (List.mem_cons_of_mem _ (List.mem_append_left _ (List.mem_append_left _ (List.mem_of_getElem? (i := 3) rfl))))) (hts _ (List.mem_cons_of_mem _ (List.mem_append_left _ (List.mem_append_left _ (List.mem_of_getElem? (i := 4) rfl))))) (hts _ (List.mem_cons_of_mem _ (List.mem_append_left _ (List.mem_append_left _ (List.mem_of_getElem? (i := 5) rfl))))) (hts _ (List.mem_cons_of_mem _ (List.mem_append_left _ (List.mem_append_left _ (List.mem_of_getElem? (i := 6) rfl))))) hK hP hD hS 2 2 1 1 rfl rfl rfl rfl rfl (by decide) (by decide) (by decide) (by decide) (by decide) (fun _ _ => rfl) (Nat.le_of_ble_eq_true rfl) (Nat.le_of_ble_eq_true rfl) dX7_moveDown_34 (fun H locs hP hD hS => ?_)
  rw [nb_cpy_id] at hP hD
  have hP : va_P (dC, dI) nCl [((a 0), .inr (6, [.ref (a 2), .int 1, .int 0, .int 0, .int 0, .ref (a 3), .ref (a 4), .ref (a 5), .ref (a 6), .ref (a 7), .ref (a 8), .int 0, .int 0, .ref (a 1), .ref (a 9), .ref (a 10), .ref (a 11), .ref (a 12), .ref (a 13), .int 0])), ((a 1), .inl (cy 1, 42, .inl nZ)), ((a 2), .inl (cy 1, 1024, .inl (upd nZ 0 1)))] H := hP
  have hD : va_D A [((a 0), .inr (6, [.ref (a 2), .int 1, .int 0, .int 0, .int 0, .ref (a 3), .ref (a 4), .ref (a 5), .ref (a 6), .ref (a 7), .ref (a 8), .int 0, .int 0, .ref (a 1), .ref (a 9), .ref (a 10), .ref (a 11), .ref (a 12), .ref (a 13), .int 0])), ((a 1), .inl (cy 1, 42, .inl nZ)), ((a 2), .inl (cy 1, 1024, .inl (upd nZ 0 1)))] := hD
  refine lv_iconst (v := 0) hx hb dX7_moveDown_37 (by decide) ?_
  refine lv_istore_n (lv' := [(2, .int 0), (0, .ref (a 0)), (1, .int 0)]) hx hb dX7_moveDown_38 rfl hl (by decide) rfl (fun ls hl => ?_)
  refine lv_iload_n hx hb dX7_moveDown_39 rfl (lv_at hl 0 rfl) ?_
  refine lv_aload_n hx hb dX7_moveDown_40 rfl (lv_at hl 1 rfl) ?_
  refine va_get (D := (dC, dI)) (ci := 6) (v := .int 0) (C := RX7) (T := TX7) (N := 20) hx hb hts in_k_X7_moveDown_X7 hown hK hP 0 rfl rfl 12 (by decide) (hts _ (List.mem_cons_of_mem _ (List.mem_append_left _ (List.mem_append_left _ (List.mem_of_getElem? (i := 7) rfl))))) (fun _ h9 => h9) rfl dX7_moveDown_41 ?_
  refine lv_icmp_gt (tgt := 67) hx hb dX7_moveDown_44 (by decide) (fun c1 => False.elim (by revert c1; decide)) (fun _ => ?_)
  refine lv_aload_n hx hb dX7_moveDown_47 rfl (lv_at hl 1 rfl) ?_
  refine va_get (D := (dC, dI)) (ci := 6) (v := .ref (a 1)) (C := RX7) (T := TX7) (N := 20) hx hb hts in_k_X7_moveDown_X7 hown hK hP 0 rfl rfl 13 (by decide) (hts _ (List.mem_cons_of_mem _ (List.mem_append_left _ (List.mem_append_left _ (List.mem_of_getElem? (i := 8) rfl))))) (fun _ h9 => h9) rfl dX7_moveDown_48 ?_
  refine lv_iload_n hx hb dX7_moveDown_51 rfl (lv_at hl 0 rfl) ?_
  refine lv_aload_n hx hb dX7_moveDown_52 rfl (lv_at hl 1 rfl) ?_
  refine va_get (D := (dC, dI)) (ci := 6) (v := .ref (a 1)) (C := RX7) (T := TX7) (N := 20) hx hb hts in_k_X7_moveDown_X7 hown hK hP 0 rfl rfl 13 (by decide) (hts _ (List.mem_cons_of_mem _ (List.mem_append_left _ (List.mem_append_left _ (List.mem_of_getElem? (i := 8) rfl))))) (fun _ h9 => h9) rfl dX7_moveDown_53 ?_
  refine lv_iload_n hx hb dX7_moveDown_56 rfl (lv_at hl 0 rfl) ?_
  refine va_iald hx hb hK hP 1 1 rfl rfl (nb_in (by decide)) dX7_moveDown_57 ?_
  refine W.eq (g2 := F0 m 58 ls [.int 0, .int 0, .ref (a 1)]) rfl ?_
  refine lv_iload_n hx hb dX7_moveDown_58 rfl (lv_at hl 2 rfl) ?_
  refine lv_isub hx hb dX7_moveDown_59 ?_
  refine W.eq (g2 := F0 m 60 ls [.int 0, .int 0, .ref (a 1)]) rfl ?_
  refine nb_iz hx hb hK hP hD hS 1 1 rfl rfl (nb_in (by decide)) dX7_moveDown_60 (fun H locs hP hS => ?_)
  refine lv_iinc (v := 1) (lv' := [(2, .int 1), (0, .ref (a 0)), (1, .int 0)]) hx hb dX7_moveDown_61 hl (k := 0) rfl (by decide) (by decide) rfl (fun ls hl => ?_)
  refine lv_goto (tgt := 39) hx hb dX7_moveDown_64 (by decide) ?_
  refine lv_iload_n hx hb dX7_moveDown_39 rfl (lv_at hl 0 rfl) ?_
  refine lv_aload_n hx hb dX7_moveDown_40 rfl (lv_at hl 1 rfl) ?_
  refine va_get (D := (dC, dI)) (ci := 6) (v := .int 0) (C := RX7) (T := TX7) (N := 20) hx hb hts in_k_X7_moveDown_X7 hown hK hP 0 rfl rfl 12 (by decide) (hts _ (List.mem_cons_of_mem _ (List.mem_append_left _ (List.mem_append_left _ (List.mem_of_getElem? (i := 7) rfl))))) (fun _ h9 => h9) rfl dX7_moveDown_41 ?_
  refine lv_icmp_gt (tgt := 67) hx hb dX7_moveDown_44 (by decide) (fun _ => ?_) (fun c1 => False.elim (by revert c1; decide))
  have hP : va_P (dC, dI) nCl (v1_k_X7_moveDown cy a (fun _ => 0)) H := hP
  have hD : va_D A (v1_k_X7_moveDown cy a (fun _ => 0)) := hD
  exact W.vret hx hb hr (fun t ht hW => ⟨⟨(fun _ => 0), rfl, trivial, by rw [ht]; exact hP, va_K.moved hW.alike hK, hD⟩, hS.F ht⟩) hS.2.2 dX7_moveDown_67
def o_k_X11_program : List Cond := [.fieldLink RX11 92 "SetHouse" "other" "LSetHouse$Program;", .fieldLink RX11 88 "SetHouse" "current" "LSetHouse$Program;", .methodLink RX11 111 yX7_emptyBehind, .instanceMethod yX7_emptyBehind, .selects RX7 yX7_emptyBehind yX7_emptyBehind, .initialized RX7, .fieldLink RX11 81 "SetHouse" "parser" "LSetHouse$Parser;", .methodLink RX11 130 yX5_readProgram, .instanceMethod yX5_readProgram, .selects RX5 yX5_readProgram yX5_readProgram, .initialized RX5, .fieldLink RX11 72 "SetHouse" "lex" "LSetHouse$Lexer;", .fieldLink RX11 137 "SetHouse" "latestFault" "I", .methodLink RX11 149 yX7_moveDown, .instanceMethod yX7_moveDown, .selects RX7 yX7_moveDown yX7_moveDown, .fieldLink RX11 152 "SetHouse" "hasProgram" "Z", .fieldLink RX11 156 "SetHouse" "hasRun" "Z", .fieldLink RX11 159 "SetHouse" "views" "I"]
theorem o_k_X11_program_good : o_k_X11_program.all goodWord = true := by decide +kernel
def p_k_X11_program : List Cond := o_k_X11_program ++ ((.code yX7_emptyBehind cX7_emptyBehind 2 none :: p_k_X7_emptyBehind) ++ ((.codeWith yX5_readProgram cX5_readProgram 3 (some .boolean) [(7, 120, 121, 70)] :: p_k_X5_readProgram) ++ ((.code yX7_moveDown cX7_moveDown 3 none :: p_k_X7_moveDown) ++ [])))
theorem p_k_X11_program_good : p_k_X11_program.all goodWord = true := nb_all2 o_k_X11_program_good (nb_all2 (nb_allc (by decide +kernel) p_k_X7_emptyBehind_good) (nb_all2 (nb_allc (by decide +kernel) p_k_X5_readProgram_good) (nb_all2 (nb_allc (by decide +kernel) p_k_X7_moveDown_good) rfl)))
def w_k_X11_program : List Cond := .code yX11_program cX11_program 3 (some .int) :: (p_k_X11_program ++ fC)
theorem w_k_X11_program_good : w_k_X11_program.all goodWord = true := nb_allc (by decide +kernel) (nb_all2 p_k_X11_program_good fC_good)
theorem in_k_X11_program_X2 : ∀ w ∈ wsX20, w ∈ w_k_X11_program := fun _ h => List.mem_cons_of_mem _ (List.mem_append_right _ (List.mem_append_right _ (List.mem_append_right _ (List.mem_append_left _ h))))
theorem in_k_X11_program_X5 : ∀ w ∈ wsX50, w ∈ w_k_X11_program := fun _ h => List.mem_cons_of_mem _ (List.mem_append_right _ (List.mem_append_right _ (List.mem_append_right _ (List.mem_append_right _ (List.mem_append_right _ (List.mem_append_left _ h))))))
theorem in_k_X11_program_X7 : ∀ w ∈ wsX70, w ∈ w_k_X11_program := fun _ h => List.mem_cons_of_mem _ (List.mem_append_right _ (List.mem_append_right _ (List.mem_append_right _ (List.mem_append_right _ (List.mem_append_right _ (List.mem_append_right _ (List.mem_append_right _ (List.mem_append_left _ h))))))))
theorem in_k_X11_program_X11 : ∀ w ∈ wsX110, w ∈ w_k_X11_program := fun _ h => List.mem_cons_of_mem _ (List.mem_append_right _ (List.mem_append_right _ (List.mem_append_right _ (List.mem_append_right _ (List.mem_append_right _ (List.mem_append_right _ (List.mem_append_right _ (List.mem_append_right _ (List.mem_append_right _ (List.mem_append_right _ (List.mem_append_right _ h)))))))))))
theorem gg_k_X11_program_k_X7_emptyBehind : GoodIn w_k_X11_program w_k_X7_emptyBehind := goodIn_sub (fun w h => (List.mem_cons.mp h).elim (fun e => (List.mem_cons_of_mem _ (List.mem_append_left _ (List.mem_append_right _ (List.mem_append_left _ (List.mem_cons.mpr (Or.inl e))))))) (fun h => (List.mem_append.mp h).elim (fun h => (List.mem_cons_of_mem _ (List.mem_append_left _ (List.mem_append_right _ (List.mem_append_left _ (List.mem_cons_of_mem _ h)))))) (fun h => List.mem_cons_of_mem _ (List.mem_append_right _ h)))) w_k_X7_emptyBehind_good
theorem g_k_X11_program_111_k_X7_emptyBehind : GoodIn w_k_X11_program (wsV RX11 111 RX7 yX7_emptyBehind w_k_X7_emptyBehind) := goodIn_app (nb_g4 (List.mem_cons_of_mem _ (List.mem_append_left _ (List.mem_append_left _ (List.mem_of_getElem? (i := 2) rfl)))) (List.mem_cons_of_mem _ (List.mem_append_left _ (List.mem_append_left _ (List.mem_of_getElem? (i := 3) rfl)))) (List.mem_cons_of_mem _ (List.mem_append_left _ (List.mem_append_left _ (List.mem_of_getElem? (i := 4) rfl)))) (List.mem_cons_of_mem _ (List.mem_append_left _ (List.mem_append_left _ (List.mem_of_getElem? (i := 5) rfl)))) (by decide +kernel)) gg_k_X11_program_k_X7_emptyBehind
theorem gg_k_X11_program_k_X5_readProgram : GoodIn w_k_X11_program w_k_X5_readProgram := goodIn_sub (fun w h => (List.mem_cons.mp h).elim (fun e => (List.mem_cons_of_mem _ (List.mem_append_left _ (List.mem_append_right _ (List.mem_append_right _ (List.mem_append_left _ (List.mem_cons.mpr (Or.inl e)))))))) (fun h => (List.mem_append.mp h).elim (fun h => (List.mem_cons_of_mem _ (List.mem_append_left _ (List.mem_append_right _ (List.mem_append_right _ (List.mem_append_left _ (List.mem_cons_of_mem _ h))))))) (fun h => List.mem_cons_of_mem _ (List.mem_append_right _ h)))) w_k_X5_readProgram_good
theorem g_k_X11_program_130_k_X5_readProgram : GoodIn w_k_X11_program (wsV RX11 130 RX5 yX5_readProgram w_k_X5_readProgram) := goodIn_app (nb_g4 (List.mem_cons_of_mem _ (List.mem_append_left _ (List.mem_append_left _ (List.mem_of_getElem? (i := 7) rfl)))) (List.mem_cons_of_mem _ (List.mem_append_left _ (List.mem_append_left _ (List.mem_of_getElem? (i := 8) rfl)))) (List.mem_cons_of_mem _ (List.mem_append_left _ (List.mem_append_left _ (List.mem_of_getElem? (i := 9) rfl)))) (List.mem_cons_of_mem _ (List.mem_append_left _ (List.mem_append_left _ (List.mem_of_getElem? (i := 10) rfl)))) (by decide +kernel)) gg_k_X11_program_k_X5_readProgram
theorem gg_k_X11_program_k_X7_moveDown : GoodIn w_k_X11_program w_k_X7_moveDown := goodIn_sub (fun w h => (List.mem_cons.mp h).elim (fun e => (List.mem_cons_of_mem _ (List.mem_append_left _ (List.mem_append_right _ (List.mem_append_right _ (List.mem_append_right _ (List.mem_append_left _ (List.mem_cons.mpr (Or.inl e))))))))) (fun h => (List.mem_append.mp h).elim (fun h => (List.mem_cons_of_mem _ (List.mem_append_left _ (List.mem_append_right _ (List.mem_append_right _ (List.mem_append_right _ (List.mem_append_left _ (List.mem_cons_of_mem _ h)))))))) (fun h => List.mem_cons_of_mem _ (List.mem_append_right _ h)))) w_k_X7_moveDown_good
theorem g_k_X11_program_149_k_X7_moveDown : GoodIn w_k_X11_program (wsV RX11 149 RX7 yX7_moveDown w_k_X7_moveDown) := goodIn_app (nb_g4 (List.mem_cons_of_mem _ (List.mem_append_left _ (List.mem_append_left _ (List.mem_of_getElem? (i := 13) rfl)))) (List.mem_cons_of_mem _ (List.mem_append_left _ (List.mem_append_left _ (List.mem_of_getElem? (i := 14) rfl)))) (List.mem_cons_of_mem _ (List.mem_append_left _ (List.mem_append_left _ (List.mem_of_getElem? (i := 15) rfl)))) (List.mem_cons_of_mem _ (List.mem_append_left _ (List.mem_append_left _ (List.mem_of_getElem? (i := 5) rfl)))) (by decide +kernel)) gg_k_X11_program_k_X7_moveDown
def v0_k_X11_program (cy : Nat → ClassId) (a : Nat → Nat) : va_W := [((a 0), .inr (10, [.ref (a 13), .ref (a 14), .ref (a 15), .ref (a 16), .ref (a 17), .ref (a 18), .ref (a 1), .ref (a 3), .ref (a 12), .ref (a 5), .int 0, .int 0, .int 0, .int 0, .ref (a 19), .ref (a 20), .ref (a 21), .int 0, .int 0, .int 0])), ((a 1), .inr (2, [.ref (a 2), .int 0, .int 0, .int 0, .int 0, .long 0, .long 0, .ref (a 22)])), ((a 2), .inl (cy 0, 1024, .inl nZ)), ((a 3), .inr (4, [.ref (a 1), .ref (a 14), .null, .int 0, .int 0, .int 0, .int 0, .int 0, .int 0, .int 0, .ref (a 23), .int 0, .ref (a 24), .int 0, .int 0, .int 0, .int 0, .int 0, .int 0, .int 0, .int 0])), ((a 4), .inl (cy 1, 1024, .inl nZ)), ((a 5), .inr (6, [.ref (a 25), .int 0, .int 0, .int 0, .int 0, .ref (a 26), .ref (a 27), .ref (a 28), .ref (a 29), .ref (a 30), .ref (a 31), .int 0, .int 0, .ref (a 6), .ref (a 7), .ref (a 8), .ref (a 9), .ref (a 10), .ref (a 11), .int 0])), ((a 6), .inl (cy 1, 42, .inl nZ)), ((a 7), .inl (cy 1, 42, .inl nZ)), ((a 8), .inl (cy 1, 42, .inl nZ)), ((a 9), .inl (cy 1, 42, .inl nZ)), ((a 10), .inl (cy 1, 42, .inl nZ)), ((a 11), .inl (cy 1, 42, .inl nZ)), ((a 12), .inr (6, [.ref (a 4), .int 0, .int 0, .int 0, .int 0, .ref (a 32), .ref (a 33), .ref (a 34), .ref (a 35), .ref (a 36), .ref (a 37), .int 0, .int 0, .ref (a 38), .ref (a 39), .ref (a 40), .ref (a 41), .ref (a 42), .ref (a 43), .int 0]))]
def v1_k_X11_program (cy : Nat → ClassId) (a : Nat → Nat) (r : Nat → Nat) : va_W := []
set_option maxHeartbeats 40000000 in
set_option maxRecDepth 100000 in
/-- program of a new object -/
theorem k_X11_program (l : Launch) (dC : Nat → ClassId) (dI : Nat → Nat → Nat) (cy : Nat → ClassId) (k : Nat → Nat) (a : Nat → Nat) (sz : Nat) : Met l yX11_program w_k_X11_program ({ frames := 5, cells := 0, slots := 0, locals := 108 }) (va_Pc [.ref (a 0)] (nInE (dC, dI) cy k sz (v0_k_X11_program cy a))) (va_Qi (fun (z : Int32) (_ : Nat → Nat) => z = 0) (fun r t => nOut (dC, dI) cy (va_A (v0_k_X11_program cy a) sz) (v1_k_X11_program cy a r) t) (va_A (v0_k_X11_program cy a) sz)) 0 0 (va_A (v0_k_X11_program cy a) sz) := by
  refine Met.ofW (cc := cX11_program) (maxL := 3) (ret := (some .int)) (by decide) rfl ?_
  intro p e s m args below meth c s₁ B hml hv
  obtain ⟨rfl, ⟨hsz, hP, hK, hD0, hG⟩, hE⟩ := hv
  have hx := B.exec
  have hb := B.bytes
  have hr := B.returns
  have hts := atoms_spec (ws := w_k_X11_program) B.pre
  have hown : s.vm.findClass RX11 = some m.cls := findClass_of_methodNamed B.named
  have hlocks := B.notSynchronized
  subst hsz
  have hD := hD0.self (sz := s.heap.size)
  generalize hAe : va_A (v0_k_X11_program cy a) s.heap.size = A at hD hE ⊢
  have hA : ∀ q : Nat, s.heap.size ≤ q → A q := fun q h => by rw [← hAe]; exact Or.inr h
  have hS : va_S A s.heap s.heap [] := va_S.rf
  have hP : va_P (dC, dI) nCl (v0_k_X11_program cy a) s.heap := hP
  have hl := lv_entry ([.ref (a 0)]) (n := 3) (Nat.le_of_ble_eq_true rfl)
  rw [lg_entry_eq]
  generalize (lg_sl ([.ref (a 0)]) ++ List.replicate (3 - (lg_sl ([.ref (a 0)])).length) Slot.unset).toArray = ls at hl ⊢
  have hl : lv_has ls 3 [(0, .ref (a 0))] := hl
  have hP : va_P (dC, dI) nCl [((a 0), .inr (10, [.ref (a 13), .ref (a 14), .ref (a 15), .ref (a 16), .ref (a 17), .ref (a 18), .ref (a 1), .ref (a 3), .ref (a 12), .ref (a 5), .int 0, .int 0, .int 0, .int 0, .ref (a 19), .ref (a 20), .ref (a 21), .int 0, .int 0, .int 0])), ((a 1), .inr (2, [.ref (a 2), .int 0, .int 0, .int 0, .int 0, .long 0, .long 0, .ref (a 22)])), ((a 2), .inl (cy 0, 1024, .inl nZ)), ((a 3), .inr (4, [.ref (a 1), .ref (a 14), .null, .int 0, .int 0, .int 0, .int 0, .int 0, .int 0, .int 0, .ref (a 23), .int 0, .ref (a 24), .int 0, .int 0, .int 0, .int 0, .int 0, .int 0, .int 0, .int 0])), ((a 4), .inl (cy 1, 1024, .inl nZ)), ((a 5), .inr (6, [.ref (a 25), .int 0, .int 0, .int 0, .int 0, .ref (a 26), .ref (a 27), .ref (a 28), .ref (a 29), .ref (a 30), .ref (a 31), .int 0, .int 0, .ref (a 6), .ref (a 7), .ref (a 8), .ref (a 9), .ref (a 10), .ref (a 11), .int 0])), ((a 6), .inl (cy 1, 42, .inl nZ)), ((a 7), .inl (cy 1, 42, .inl nZ)), ((a 8), .inl (cy 1, 42, .inl nZ)), ((a 9), .inl (cy 1, 42, .inl nZ)), ((a 10), .inl (cy 1, 42, .inl nZ)), ((a 11), .inl (cy 1, 42, .inl nZ)), ((a 12), .inr (6, [.ref (a 4), .int 0, .int 0, .int 0, .int 0, .ref (a 32), .ref (a 33), .ref (a 34), .ref (a 35), .ref (a 36), .ref (a 37), .int 0, .int 0, .ref (a 38), .ref (a 39), .ref (a 40), .ref (a 41), .ref (a 42), .ref (a 43), .int 0]))] s.heap := hP
  have hD : va_D A [((a 0), .inr (10, [.ref (a 13), .ref (a 14), .ref (a 15), .ref (a 16), .ref (a 17), .ref (a 18), .ref (a 1), .ref (a 3), .ref (a 12), .ref (a 5), .int 0, .int 0, .int 0, .int 0, .ref (a 19), .ref (a 20), .ref (a 21), .int 0, .int 0, .int 0])), ((a 1), .inr (2, [.ref (a 2), .int 0, .int 0, .int 0, .int 0, .long 0, .long 0, .ref (a 22)])), ((a 2), .inl (cy 0, 1024, .inl nZ)), ((a 3), .inr (4, [.ref (a 1), .ref (a 14), .null, .int 0, .int 0, .int 0, .int 0, .int 0, .int 0, .int 0, .ref (a 23), .int 0, .ref (a 24), .int 0, .int 0, .int 0, .int 0, .int 0, .int 0, .int 0, .int 0])), ((a 4), .inl (cy 1, 1024, .inl nZ)), ((a 5), .inr (6, [.ref (a 25), .int 0, .int 0, .int 0, .int 0, .ref (a 26), .ref (a 27), .ref (a 28), .ref (a 29), .ref (a 30), .ref (a 31), .int 0, .int 0, .ref (a 6), .ref (a 7), .ref (a 8), .ref (a 9), .ref (a 10), .ref (a 11), .int 0])), ((a 6), .inl (cy 1, 42, .inl nZ)), ((a 7), .inl (cy 1, 42, .inl nZ)), ((a 8), .inl (cy 1, 42, .inl nZ)), ((a 9), .inl (cy 1, 42, .inl nZ)), ((a 10), .inl (cy 1, 42, .inl nZ)), ((a 11), .inl (cy 1, 42, .inl nZ)), ((a 12), .inr (6, [.ref (a 4), .int 0, .int 0, .int 0, .int 0, .ref (a 32), .ref (a 33), .ref (a 34), .ref (a 35), .ref (a 36), .ref (a 37), .int 0, .int 0, .ref (a 38), .ref (a 39), .ref (a 40), .ref (a 41), .ref (a 42), .ref (a 43), .int 0]))] := hD
  refine lv_aload_n hx hb dX11_program_0 rfl (lv_at hl 0 rfl) ?_
  refine va_get (D := (dC, dI)) (ci := 10) (v := .ref (a 5)) (C := RX11) (T := TX11) (N := 20) hx hb hts in_k_X11_program_X11 hown hK hP 0 rfl rfl 9 (by decide) (hts _ (List.mem_cons_of_mem _ (List.mem_append_left _ (List.mem_append_left _ (List.mem_of_getElem? (i := 0) rfl))))) (fun _ h9 => h9) rfl dX11_program_1 ?_
  refine lv_aload_n hx hb dX11_program_4 rfl (lv_at hl 0 rfl) ?_
  refine va_get (D := (dC, dI)) (ci := 10) (v := .ref (a 12)) (C := RX11) (T := TX11) (N := 20) hx hb hts in_k_X11_program_X11 hown hK hP 0 rfl rfl 8 (by decide) (hts _ (List.mem_cons_of_mem _ (List.mem_append_left _ (List.mem_append_left _ (List.mem_of_getElem? (i := 1) rfl))))) (fun _ h9 => h9) rfl dX11_program_5 ?_
  have hPc := hP.sub (ws' := [((a 5), .inr (6, [.ref (a 25), .int 0, .int 0, .int 0, .int 0, .ref (a 26), .ref (a 27), .ref (a 28), .ref (a 29), .ref (a 30), .ref (a 31), .int 0, .int 0, .ref (a 6), .ref (a 7), .ref (a 8), .ref (a 9), .ref (a 10), .ref (a 11), .int 0])), ((a 6), .inl (cy 1, 42, .inl nZ)), ((a 7), .inl (cy 1, 42, .inl nZ)), ((a 8), .inl (cy 1, 42, .inl nZ)), ((a 9), .inl (cy 1, 42, .inl nZ)), ((a 10), .inl (cy 1, 42, .inl nZ)), ((a 11), .inl (cy 1, 42, .inl nZ)), ((a 12), .inr (6, [.ref (a 4), .int 0, .int 0, .int 0, .int 0, .ref (a 32), .ref (a 33), .ref (a 34), .ref (a 35), .ref (a 36), .ref (a 37), .int 0, .int 0, .ref (a 38), .ref (a 39), .ref (a 40), .ref (a 41), .ref (a 42), .ref (a 43), .int 0]))]) [5, 6, 7, 8, 9, 10, 11, 12] rfl
  have hPc : va_P (dC, dI) nCl (v0_k_X7_emptyBehind cy (fun j9 => [(a 5), (a 12), (a 6), (a 7), (a 8), (a 9), (a 10), (a 11), (a 25), (a 26), (a 27), (a 28), (a 29), (a 30), (a 31), (a 4), (a 32), (a 33), (a 34), (a 35), (a 36), (a 37), (a 38), (a 39), (a 40), (a 41), (a 42), (a 43)].getD j9 0)) s.heap := hPc
  have hDc := hD.sub (ws' := [((a 5), .inr (6, [.ref (a 25), .int 0, .int 0, .int 0, .int 0, .ref (a 26), .ref (a 27), .ref (a 28), .ref (a 29), .ref (a 30), .ref (a 31), .int 0, .int 0, .ref (a 6), .ref (a 7), .ref (a 8), .ref (a 9), .ref (a 10), .ref (a 11), .int 0])), ((a 6), .inl (cy 1, 42, .inl nZ)), ((a 7), .inl (cy 1, 42, .inl nZ)), ((a 8), .inl (cy 1, 42, .inl nZ)), ((a 9), .inl (cy 1, 42, .inl nZ)), ((a 10), .inl (cy 1, 42, .inl nZ)), ((a 11), .inl (cy 1, 42, .inl nZ)), ((a 12), .inr (6, [.ref (a 4), .int 0, .int 0, .int 0, .int 0, .ref (a 32), .ref (a 33), .ref (a 34), .ref (a 35), .ref (a 36), .ref (a 37), .int 0, .int 0, .ref (a 38), .ref (a 39), .ref (a 40), .ref (a 41), .ref (a 42), .ref (a 43), .int 0]))]) [5, 6, 7, 8, 9, 10, 11, 12] (by decide) rfl
  have hDc : va_D A (v0_k_X7_emptyBehind cy (fun j9 => [(a 5), (a 12), (a 6), (a 7), (a 8), (a 9), (a 10), (a 11), (a 25), (a 26), (a 27), (a 28), (a 29), (a 30), (a 31), (a 4), (a 32), (a 33), (a 34), (a 35), (a 36), (a 37), (a 38), (a 39), (a 40), (a 41), (a 42), (a 43)].getD j9 0)) := hDc
  have hFc := va_free (wc := (v0_k_X7_emptyBehind cy (fun j9 => [(a 5), (a 12), (a 6), (a 7), (a 8), (a 9), (a 10), (a 11), (a 25), (a 26), (a 27), (a 28), (a 29), (a 30), (a 31), (a 4), (a 32), (a 33), (a 34), (a 35), (a 36), (a 37), (a 38), (a 39), (a 40), (a 41), (a 42), (a 43)].getD j9 0))) hD hS hA [5, 6, 7, 8, 9, 10, 11, 12] rfl
  refine va_callv (va_runV (As := [.ref (a 12)]) (rest := []) ⟨hx, hb, hml, hown, hts⟩ (k_X7_emptyBehind l dC dI cy k (fun j9 => [(a 5), (a 12), (a 6), (a 7), (a 8), (a 9), (a 10), (a 11), (a 25), (a 26), (a 27), (a 28), (a 29), (a 30), (a 31), (a 4), (a 32), (a 33), (a 34), (a 35), (a 36), (a 37), (a 38), (a 39), (a 40), (a 41), (a 42), (a 43)].getD j9 0) s.heap.size) (cwV 1 hts g_k_X11_program_111_k_X7_emptyBehind rfl rfl rfl (by decide +kernel) ⟨Nat.le_of_ble_eq_true rfl, Nat.le_of_ble_eq_true rfl⟩) ⟨nb_blindE, va_recv hK hPc (ci := 6) (q0 := 0) rfl rfl, fun U hU hW => ⟨rfl, ⟨by rw [hU], by rw [hU]; exact hPc, va_K.moved hW.alike hK, hDc.weaken (fun _ _ _ _ => trivial), hG.warm hW⟩, nE.to hE hS hW hU hFc⟩⟩ rfl rfl hl.1 rfl (lv_room (Nat.le_of_ble_eq_true rfl)) dX11_program_8 ⟨Nat.le_of_ble_eq_true rfl, Nat.le_of_ble_eq_true rfl⟩) hS (fun q _ h => hFc q h) hFc (fun u1 t H1 locs ht hvm hw hB hz1 hk1 hS => ?_)
  obtain ⟨hP1, hK1, hD1⟩ := hB
  rw [ht] at hP1
  obtain ⟨hP, hD⟩ := va_join (wr := [((a 0), .inr (10, [.ref (a 13), .ref (a 14), .ref (a 15), .ref (a 16), .ref (a 17), .ref (a 18), .ref (a 1), .ref (a 3), .ref (a 12), .ref (a 5), .int 0, .int 0, .int 0, .int 0, .ref (a 19), .ref (a 20), .ref (a 21), .int 0, .int 0, .int 0])), ((a 1), .inr (2, [.ref (a 2), .int 0, .int 0, .int 0, .int 0, .long 0, .long 0, .ref (a 22)])), ((a 2), .inl (cy 0, 1024, .inl nZ)), ((a 3), .inr (4, [.ref (a 1), .ref (a 14), .null, .int 0, .int 0, .int 0, .int 0, .int 0, .int 0, .int 0, .ref (a 23), .int 0, .ref (a 24), .int 0, .int 0, .int 0, .int 0, .int 0, .int 0, .int 0, .int 0])), ((a 4), .inl (cy 1, 1024, .inl nZ))]) (w1 := v1_k_X7_emptyBehind cy (fun j9 => [(a 5), (a 12), (a 6), (a 7), (a 8), (a 9), (a 10), (a 11), (a 25), (a 26), (a 27), (a 28), (a 29), (a 30), (a 31), (a 4), (a 32), (a 33), (a 34), (a 35), (a 36), (a 37), (a 38), (a 39), (a 40), (a 41), (a 42), (a 43)].getD j9 0) u1) hP hD [5, 6, 7, 8, 9, 10, 11, 12] [0, 1, 2, 3, 4] rfl rfl (by decide) (by decide) hk1 hFc hP1 hD1
  generalize H1 = H at hP hS ⊢
  have hP : va_P (dC, dI) nCl [((a 0), .inr (10, [.ref (a 13), .ref (a 14), .ref (a 15), .ref (a 16), .ref (a 17), .ref (a 18), .ref (a 1), .ref (a 3), .ref (a 12), .ref (a 5), .int 0, .int 0, .int 0, .int 0, .ref (a 19), .ref (a 20), .ref (a 21), .int 0, .int 0, .int 0])), ((a 1), .inr (2, [.ref (a 2), .int 0, .int 0, .int 0, .int 0, .long 0, .long 0, .ref (a 22)])), ((a 2), .inl (cy 0, 1024, .inl nZ)), ((a 3), .inr (4, [.ref (a 1), .ref (a 14), .null, .int 0, .int 0, .int 0, .int 0, .int 0, .int 0, .int 0, .ref (a 23), .int 0, .ref (a 24), .int 0, .int 0, .int 0, .int 0, .int 0, .int 0, .int 0, .int 0])), ((a 4), .inl (cy 1, 1024, .inl nZ)), ((a 12), .inr (6, [.ref (a 4), .int 0, .int 0, .int 0, .int 0, .ref (a 32), .ref (a 33), .ref (a 34), .ref (a 35), .ref (a 36), .ref (a 37), .int 0, .int 0, .ref (a 38), .ref (a 39), .ref (a 40), .ref (a 41), .ref (a 42), .ref (a 43), .int 0])), ((a 5), .inr (6, [.ref (a 4), .int 0, .int 0, .int 0, .int 0, .ref (a 26), .ref (a 27), .ref (a 28), .ref (a 29), .ref (a 30), .ref (a 31), .int 0, .int 0, .ref (a 6), .ref (a 7), .ref (a 8), .ref (a 9), .ref (a 10), .ref (a 11), .int 0])), ((a 6), .inl (cy 1, 42, .inl nZ)), ((a 7), .inl (cy 1, 42, .inl nZ)), ((a 8), .inl (cy 1, 42, .inl nZ)), ((a 9), .inl (cy 1, 42, .inl nZ)), ((a 10), .inl (cy 1, 42, .inl nZ)), ((a 11), .inl (cy 1, 42, .inl nZ))] H := hP
  have hD : va_D A [((a 0), .inr (10, [.ref (a 13), .ref (a 14), .ref (a 15), .ref (a 16), .ref (a 17), .ref (a 18), .ref (a 1), .ref (a 3), .ref (a 12), .ref (a 5), .int 0, .int 0, .int 0, .int 0, .ref (a 19), .ref (a 20), .ref (a 21), .int 0, .int 0, .int 0])), ((a 1), .inr (2, [.ref (a 2), .int 0, .int 0, .int 0, .int 0, .long 0, .long 0, .ref (a 22)])), ((a 2), .inl (cy 0, 1024, .inl nZ)), ((a 3), .inr (4, [.ref (a 1), .ref (a 14), .null, .int 0, .int 0, .int 0, .int 0, .int 0, .int 0, .int 0, .ref (a 23), .int 0, .ref (a 24), .int 0, .int 0, .int 0, .int 0, .int 0, .int 0, .int 0, .int 0])), ((a 4), .inl (cy 1, 1024, .inl nZ)), ((a 12), .inr (6, [.ref (a 4), .int 0, .int 0, .int 0, .int 0, .ref (a 32), .ref (a 33), .ref (a 34), .ref (a 35), .ref (a 36), .ref (a 37), .int 0, .int 0, .ref (a 38), .ref (a 39), .ref (a 40), .ref (a 41), .ref (a 42), .ref (a 43), .int 0])), ((a 5), .inr (6, [.ref (a 4), .int 0, .int 0, .int 0, .int 0, .ref (a 26), .ref (a 27), .ref (a 28), .ref (a 29), .ref (a 30), .ref (a 31), .int 0, .int 0, .ref (a 6), .ref (a 7), .ref (a 8), .ref (a 9), .ref (a 10), .ref (a 11), .int 0])), ((a 6), .inl (cy 1, 42, .inl nZ)), ((a 7), .inl (cy 1, 42, .inl nZ)), ((a 8), .inl (cy 1, 42, .inl nZ)), ((a 9), .inl (cy 1, 42, .inl nZ)), ((a 10), .inl (cy 1, 42, .inl nZ)), ((a 11), .inl (cy 1, 42, .inl nZ))] := hD
  refine lv_aload_n hx hb dX11_program_11 rfl (lv_at hl 0 rfl) ?_
  refine va_get (D := (dC, dI)) (ci := 10) (v := .ref (a 3)) (C := RX11) (T := TX11) (N := 20) hx hb hts in_k_X11_program_X11 hown hK hP 0 rfl rfl 7 (by decide) (hts _ (List.mem_cons_of_mem _ (List.mem_append_left _ (List.mem_append_left _ (List.mem_of_getElem? (i := 6) rfl))))) (fun _ h9 => h9) rfl dX11_program_12 ?_
  refine lv_aload_n hx hb dX11_program_15 rfl (lv_at hl 0 rfl) ?_
  refine va_get (D := (dC, dI)) (ci := 10) (v := .ref (a 5)) (C := RX11) (T := TX11) (N := 20) hx hb hts in_k_X11_program_X11 hown hK hP 0 rfl rfl 9 (by decide) (hts _ (List.mem_cons_of_mem _ (List.mem_append_left _ (List.mem_append_left _ (List.mem_of_getElem? (i := 0) rfl))))) (fun _ h9 => h9) rfl dX11_program_16 ?_
  have hPc := hP.sub (ws' := [((a 3), .inr (4, [.ref (a 1), .ref (a 14), .null, .int 0, .int 0, .int 0, .int 0, .int 0, .int 0, .int 0, .ref (a 23), .int 0, .ref (a 24), .int 0, .int 0, .int 0, .int 0, .int 0, .int 0, .int 0, .int 0])), ((a 1), .inr (2, [.ref (a 2), .int 0, .int 0, .int 0, .int 0, .long 0, .long 0, .ref (a 22)])), ((a 2), .inl (cy 0, 1024, .inl nZ)), ((a 4), .inl (cy 1, 1024, .inl nZ)), ((a 5), .inr (6, [.ref (a 4), .int 0, .int 0, .int 0, .int 0, .ref (a 26), .ref (a 27), .ref (a 28), .ref (a 29), .ref (a 30), .ref (a 31), .int 0, .int 0, .ref (a 6), .ref (a 7), .ref (a 8), .ref (a 9), .ref (a 10), .ref (a 11), .int 0]))]) [3, 1, 2, 4, 6] rfl
  have hPc : va_P (dC, dI) nCl (v0_k_X5_readProgram cy (fun j9 => [(a 3), (a 5), (a 1), (a 2), (a 4), (a 14), (a 23), (a 24), (a 22), (a 26), (a 27), (a 28), (a 29), (a 30), (a 31), (a 6), (a 7), (a 8), (a 9), (a 10), (a 11)].getD j9 0)) H := hPc
  have hDc := hD.sub (ws' := [((a 3), .inr (4, [.ref (a 1), .ref (a 14), .null, .int 0, .int 0, .int 0, .int 0, .int 0, .int 0, .int 0, .ref (a 23), .int 0, .ref (a 24), .int 0, .int 0, .int 0, .int 0, .int 0, .int 0, .int 0, .int 0])), ((a 1), .inr (2, [.ref (a 2), .int 0, .int 0, .int 0, .int 0, .long 0, .long 0, .ref (a 22)])), ((a 2), .inl (cy 0, 1024, .inl nZ)), ((a 4), .inl (cy 1, 1024, .inl nZ)), ((a 5), .inr (6, [.ref (a 4), .int 0, .int 0, .int 0, .int 0, .ref (a 26), .ref (a 27), .ref (a 28), .ref (a 29), .ref (a 30), .ref (a 31), .int 0, .int 0, .ref (a 6), .ref (a 7), .ref (a 8), .ref (a 9), .ref (a 10), .ref (a 11), .int 0]))]) [3, 1, 2, 4, 6] (by decide) rfl
  have hDc : va_D A (v0_k_X5_readProgram cy (fun j9 => [(a 3), (a 5), (a 1), (a 2), (a 4), (a 14), (a 23), (a 24), (a 22), (a 26), (a 27), (a 28), (a 29), (a 30), (a 31), (a 6), (a 7), (a 8), (a 9), (a 10), (a 11)].getD j9 0)) := hDc
  have hFc := va_free (wc := (v0_k_X5_readProgram cy (fun j9 => [(a 3), (a 5), (a 1), (a 2), (a 4), (a 14), (a 23), (a 24), (a 22), (a 26), (a 27), (a 28), (a 29), (a 30), (a 31), (a 6), (a 7), (a 8), (a 9), (a 10), (a 11)].getD j9 0))) hD hS hA [3, 1, 2, 4, 6] rfl
  refine va_calli (vx_runVW (As := [.ref (a 5)]) (rest := []) ⟨hx, hb, hml, hown, hts⟩ (k_X5_readProgram l dC dI cy k (fun j9 => [(a 3), (a 5), (a 1), (a 2), (a 4), (a 14), (a 23), (a 24), (a 22), (a 26), (a 27), (a 28), (a 29), (a 30), (a 31), (a 6), (a 7), (a 8), (a 9), (a 10), (a 11)].getD j9 0) H.size) (vx_cwVW 1 hts g_k_X11_program_130_k_X5_readProgram rfl rfl rfl (by decide +kernel) ⟨Nat.le_of_ble_eq_true rfl, Nat.le_of_ble_eq_true rfl⟩) ⟨nb_blindE, va_recv hK hPc (ci := 4) (q0 := 0) rfl rfl, fun U hU hW => ⟨rfl, ⟨by rw [hU], by rw [hU]; exact hPc, va_K.moved hW.alike hK, hDc.weaken (fun _ _ _ _ => trivial), hG.warm hW⟩, nE.to hE hS hW hU hFc⟩⟩ rfl rfl hl.1 rfl (lv_room (Nat.le_of_ble_eq_true rfl)) dX11_program_19 ⟨Nat.le_of_ble_eq_true rfl, Nat.le_of_ble_eq_true rfl⟩) hS (fun q _ h => hFc q h) hFc (fun r_2 u2 t H1 locs ht hvm hw hB hz1 hk1 hS => ?_)
  subst hw
  obtain ⟨hP1, hK1, hD1⟩ := hB
  rw [ht] at hP1
  obtain ⟨hP, hD⟩ := va_join (wr := [((a 0), .inr (10, [.ref (a 13), .ref (a 14), .ref (a 15), .ref (a 16), .ref (a 17), .ref (a 18), .ref (a 1), .ref (a 3), .ref (a 12), .ref (a 5), .int 0, .int 0, .int 0, .int 0, .ref (a 19), .ref (a 20), .ref (a 21), .int 0, .int 0, .int 0])), ((a 12), .inr (6, [.ref (a 4), .int 0, .int 0, .int 0, .int 0, .ref (a 32), .ref (a 33), .ref (a 34), .ref (a 35), .ref (a 36), .ref (a 37), .int 0, .int 0, .ref (a 38), .ref (a 39), .ref (a 40), .ref (a 41), .ref (a 42), .ref (a 43), .int 0])), ((a 6), .inl (cy 1, 42, .inl nZ)), ((a 7), .inl (cy 1, 42, .inl nZ)), ((a 8), .inl (cy 1, 42, .inl nZ)), ((a 9), .inl (cy 1, 42, .inl nZ)), ((a 10), .inl (cy 1, 42, .inl nZ)), ((a 11), .inl (cy 1, 42, .inl nZ))]) (w1 := v1_k_X5_readProgram cy (fun j9 => [(a 3), (a 5), (a 1), (a 2), (a 4), (a 14), (a 23), (a 24), (a 22), (a 26), (a 27), (a 28), (a 29), (a 30), (a 31), (a 6), (a 7), (a 8), (a 9), (a 10), (a 11)].getD j9 0) u2) hP hD [3, 1, 2, 4, 6] [0, 5, 7, 8, 9, 10, 11, 12] rfl rfl (by decide) (by decide) hk1 hFc hP1 hD1
  generalize H1 = H at hP hS ⊢
  have hP : va_P (dC, dI) nCl [((a 0), .inr (10, [.ref (a 13), .ref (a 14), .ref (a 15), .ref (a 16), .ref (a 17), .ref (a 18), .ref (a 1), .ref (a 3), .ref (a 12), .ref (a 5), .int 0, .int 0, .int 0, .int 0, .ref (a 19), .ref (a 20), .ref (a 21), .int 0, .int 0, .int 0])), ((a 12), .inr (6, [.ref (a 4), .int 0, .int 0, .int 0, .int 0, .ref (a 32), .ref (a 33), .ref (a 34), .ref (a 35), .ref (a 36), .ref (a 37), .int 0, .int 0, .ref (a 38), .ref (a 39), .ref (a 40), .ref (a 41), .ref (a 42), .ref (a 43), .int 0])), ((a 6), .inl (cy 1, 42, .inl nZ)), ((a 7), .inl (cy 1, 42, .inl nZ)), ((a 8), .inl (cy 1, 42, .inl nZ)), ((a 9), .inl (cy 1, 42, .inl nZ)), ((a 10), .inl (cy 1, 42, .inl nZ)), ((a 11), .inl (cy 1, 42, .inl nZ)), ((a 2), .inl (cy 0, 1024, .inl nZ)), ((a 3), .inr (4, [.ref (a 1), .ref (a 14), .ref (a 5), .int 0, .int 2, .int 0, .int 0, .int 0, .int (-1), .int 0, .ref (a 23), .int 0, .ref (a 24), .int 0, .int 0, .int 0, .int (-1), .int 0, .int 0, .int 0, .int 0])), ((a 1), .inr (2, [.ref (a 2), .int 0, .int 1, .int 0, .int 0, .long 0, .long 0, .ref (a 22)])), ((a 5), .inr (6, [.ref (a 4), .int 1, .int 0, .int 0, .int 0, .ref (a 26), .ref (a 27), .ref (a 28), .ref (a 29), .ref (a 30), .ref (a 31), .int 0, .int 0, .ref (a 6), .ref (a 7), .ref (a 8), .ref (a 9), .ref (a 10), .ref (a 11), .int 0])), ((a 4), .inl (cy 1, 1024, .inl (upd nZ 0 1)))] H := hP
  have hD : va_D A [((a 0), .inr (10, [.ref (a 13), .ref (a 14), .ref (a 15), .ref (a 16), .ref (a 17), .ref (a 18), .ref (a 1), .ref (a 3), .ref (a 12), .ref (a 5), .int 0, .int 0, .int 0, .int 0, .ref (a 19), .ref (a 20), .ref (a 21), .int 0, .int 0, .int 0])), ((a 12), .inr (6, [.ref (a 4), .int 0, .int 0, .int 0, .int 0, .ref (a 32), .ref (a 33), .ref (a 34), .ref (a 35), .ref (a 36), .ref (a 37), .int 0, .int 0, .ref (a 38), .ref (a 39), .ref (a 40), .ref (a 41), .ref (a 42), .ref (a 43), .int 0])), ((a 6), .inl (cy 1, 42, .inl nZ)), ((a 7), .inl (cy 1, 42, .inl nZ)), ((a 8), .inl (cy 1, 42, .inl nZ)), ((a 9), .inl (cy 1, 42, .inl nZ)), ((a 10), .inl (cy 1, 42, .inl nZ)), ((a 11), .inl (cy 1, 42, .inl nZ)), ((a 2), .inl (cy 0, 1024, .inl nZ)), ((a 3), .inr (4, [.ref (a 1), .ref (a 14), .ref (a 5), .int 0, .int 2, .int 0, .int 0, .int 0, .int (-1), .int 0, .ref (a 23), .int 0, .ref (a 24), .int 0, .int 0, .int 0, .int (-1), .int 0, .int 0, .int 0, .int 0])), ((a 1), .inr (2, [.ref (a 2), .int 0, .int 1, .int 0, .int 0, .long 0, .long 0, .ref (a 22)])), ((a 5), .inr (6, [.ref (a 4), .int 1, .int 0, .int 0, .int 0, .ref (a 26), .ref (a 27), .ref (a 28), .ref (a 29), .ref (a 30), .ref (a 31), .int 0, .int 0, .ref (a 6), .ref (a 7), .ref (a 8), .ref (a 9), .ref (a 10), .ref (a 11), .int 0])), ((a 4), .inl (cy 1, 1024, .inl (upd nZ 0 1)))] := hD
  refine lv_istore_n (lv' := [(1, .int 1), (0, .ref (a 0))]) hx hb dX11_program_22 rfl hl (by decide) rfl (fun ls hl => ?_)
  refine lv_aload_n hx hb dX11_program_23 rfl (lv_at hl 1 rfl) ?_
  refine va_get (D := (dC, dI)) (ci := 10) (v := .ref (a 1)) (C := RX11) (T := TX11) (N := 20) hx hb hts in_k_X11_program_X11 hown hK hP 0 rfl rfl 6 (by decide) (hts _ (List.mem_cons_of_mem _ (List.mem_append_left _ (List.mem_append_left _ (List.mem_of_getElem? (i := 11) rfl))))) (fun _ h9 => h9) rfl dX11_program_24 ?_
  refine lv_iconst (v := 0) hx hb dX11_program_27 (by decide) ?_
  refine va_putN (D := (dC, dI)) (ci := 2) (v := .int 0) (ty := .int) (C := RX2) (T := TX2) (N := 8) hx hb hts in_k_X11_program_X2 tyX2 tyX2_ok nmX2 hown hK hP hD hS 10 rfl rfl 1 (by decide) (va_Nw.use rfl (hG.1 _ (List.mem_of_getElem? (i := 51) rfl))) (fun _ h9 => h9) rfl (by decide +kernel) rfl rfl (Nat.le_of_ble_eq_true rfl) dX11_program_28 (fun H locs hP hD hS => ?_)
  have hP : va_P (dC, dI) nCl [((a 0), .inr (10, [.ref (a 13), .ref (a 14), .ref (a 15), .ref (a 16), .ref (a 17), .ref (a 18), .ref (a 1), .ref (a 3), .ref (a 12), .ref (a 5), .int 0, .int 0, .int 0, .int 0, .ref (a 19), .ref (a 20), .ref (a 21), .int 0, .int 0, .int 0])), ((a 12), .inr (6, [.ref (a 4), .int 0, .int 0, .int 0, .int 0, .ref (a 32), .ref (a 33), .ref (a 34), .ref (a 35), .ref (a 36), .ref (a 37), .int 0, .int 0, .ref (a 38), .ref (a 39), .ref (a 40), .ref (a 41), .ref (a 42), .ref (a 43), .int 0])), ((a 6), .inl (cy 1, 42, .inl nZ)), ((a 7), .inl (cy 1, 42, .inl nZ)), ((a 8), .inl (cy 1, 42, .inl nZ)), ((a 9), .inl (cy 1, 42, .inl nZ)), ((a 10), .inl (cy 1, 42, .inl nZ)), ((a 11), .inl (cy 1, 42, .inl nZ)), ((a 2), .inl (cy 0, 1024, .inl nZ)), ((a 3), .inr (4, [.ref (a 1), .ref (a 14), .ref (a 5), .int 0, .int 2, .int 0, .int 0, .int 0, .int (-1), .int 0, .ref (a 23), .int 0, .ref (a 24), .int 0, .int 0, .int 0, .int (-1), .int 0, .int 0, .int 0, .int 0])), ((a 1), .inr (2, [.ref (a 2), .int 0, .int 1, .int 0, .int 0, .long 0, .long 0, .ref (a 22)])), ((a 5), .inr (6, [.ref (a 4), .int 1, .int 0, .int 0, .int 0, .ref (a 26), .ref (a 27), .ref (a 28), .ref (a 29), .ref (a 30), .ref (a 31), .int 0, .int 0, .ref (a 6), .ref (a 7), .ref (a 8), .ref (a 9), .ref (a 10), .ref (a 11), .int 0])), ((a 4), .inl (cy 1, 1024, .inl (upd nZ 0 1)))] H := hP
  have hD : va_D A [((a 0), .inr (10, [.ref (a 13), .ref (a 14), .ref (a 15), .ref (a 16), .ref (a 17), .ref (a 18), .ref (a 1), .ref (a 3), .ref (a 12), .ref (a 5), .int 0, .int 0, .int 0, .int 0, .ref (a 19), .ref (a 20), .ref (a 21), .int 0, .int 0, .int 0])), ((a 12), .inr (6, [.ref (a 4), .int 0, .int 0, .int 0, .int 0, .ref (a 32), .ref (a 33), .ref (a 34), .ref (a 35), .ref (a 36), .ref (a 37), .int 0, .int 0, .ref (a 38), .ref (a 39), .ref (a 40), .ref (a 41), .ref (a 42), .ref (a 43), .int 0])), ((a 6), .inl (cy 1, 42, .inl nZ)), ((a 7), .inl (cy 1, 42, .inl nZ)), ((a 8), .inl (cy 1, 42, .inl nZ)), ((a 9), .inl (cy 1, 42, .inl nZ)), ((a 10), .inl (cy 1, 42, .inl nZ)), ((a 11), .inl (cy 1, 42, .inl nZ)), ((a 2), .inl (cy 0, 1024, .inl nZ)), ((a 3), .inr (4, [.ref (a 1), .ref (a 14), .ref (a 5), .int 0, .int 2, .int 0, .int 0, .int 0, .int (-1), .int 0, .ref (a 23), .int 0, .ref (a 24), .int 0, .int 0, .int 0, .int (-1), .int 0, .int 0, .int 0, .int 0])), ((a 1), .inr (2, [.ref (a 2), .int 0, .int 1, .int 0, .int 0, .long 0, .long 0, .ref (a 22)])), ((a 5), .inr (6, [.ref (a 4), .int 1, .int 0, .int 0, .int 0, .ref (a 26), .ref (a 27), .ref (a 28), .ref (a 29), .ref (a 30), .ref (a 31), .int 0, .int 0, .ref (a 6), .ref (a 7), .ref (a 8), .ref (a 9), .ref (a 10), .ref (a 11), .int 0])), ((a 4), .inl (cy 1, 1024, .inl (upd nZ 0 1)))] := hD
  refine lv_aload_n hx hb dX11_program_31 rfl (lv_at hl 1 rfl) ?_
  refine lv_aload_n hx hb dX11_program_32 rfl (lv_at hl 1 rfl) ?_
  refine va_get (D := (dC, dI)) (ci := 10) (v := .ref (a 3)) (C := RX11) (T := TX11) (N := 20) hx hb hts in_k_X11_program_X11 hown hK hP 0 rfl rfl 7 (by decide) (hts _ (List.mem_cons_of_mem _ (List.mem_append_left _ (List.mem_append_left _ (List.mem_of_getElem? (i := 6) rfl))))) (fun _ h9 => h9) rfl dX11_program_33 ?_
  refine va_getN (D := (dC, dI)) (ci := 4) (v := .int 0) (C := RX5) (T := TX5) (N := 21) hx hb hts in_k_X11_program_X5 hown hK hP 9 rfl rfl 6 (by decide) (va_Nw.use rfl (hG.1 _ (List.mem_of_getElem? (i := 62) rfl))) (fun _ h9 => h9) rfl dX11_program_36 ?_
  refine va_put (D := (dC, dI)) (ci := 10) (v := .int 0) (ty := .int) (C := RX11) (T := TX11) (N := 20) hx hb hts in_k_X11_program_X11 tyX11 tyX11_ok nmX11 hown hK hP hD hS 0 rfl rfl 12 (by decide) (hts _ (List.mem_cons_of_mem _ (List.mem_append_left _ (List.mem_append_left _ (List.mem_of_getElem? (i := 12) rfl))))) (fun _ h9 => h9) rfl (by decide +kernel) rfl rfl (Nat.le_of_ble_eq_true rfl) dX11_program_39 (fun H locs hP hD hS => ?_)
  have hP : va_P (dC, dI) nCl [((a 0), .inr (10, [.ref (a 13), .ref (a 14), .ref (a 15), .ref (a 16), .ref (a 17), .ref (a 18), .ref (a 1), .ref (a 3), .ref (a 12), .ref (a 5), .int 0, .int 0, .int 0, .int 0, .ref (a 19), .ref (a 20), .ref (a 21), .int 0, .int 0, .int 0])), ((a 12), .inr (6, [.ref (a 4), .int 0, .int 0, .int 0, .int 0, .ref (a 32), .ref (a 33), .ref (a 34), .ref (a 35), .ref (a 36), .ref (a 37), .int 0, .int 0, .ref (a 38), .ref (a 39), .ref (a 40), .ref (a 41), .ref (a 42), .ref (a 43), .int 0])), ((a 6), .inl (cy 1, 42, .inl nZ)), ((a 7), .inl (cy 1, 42, .inl nZ)), ((a 8), .inl (cy 1, 42, .inl nZ)), ((a 9), .inl (cy 1, 42, .inl nZ)), ((a 10), .inl (cy 1, 42, .inl nZ)), ((a 11), .inl (cy 1, 42, .inl nZ)), ((a 2), .inl (cy 0, 1024, .inl nZ)), ((a 3), .inr (4, [.ref (a 1), .ref (a 14), .ref (a 5), .int 0, .int 2, .int 0, .int 0, .int 0, .int (-1), .int 0, .ref (a 23), .int 0, .ref (a 24), .int 0, .int 0, .int 0, .int (-1), .int 0, .int 0, .int 0, .int 0])), ((a 1), .inr (2, [.ref (a 2), .int 0, .int 1, .int 0, .int 0, .long 0, .long 0, .ref (a 22)])), ((a 5), .inr (6, [.ref (a 4), .int 1, .int 0, .int 0, .int 0, .ref (a 26), .ref (a 27), .ref (a 28), .ref (a 29), .ref (a 30), .ref (a 31), .int 0, .int 0, .ref (a 6), .ref (a 7), .ref (a 8), .ref (a 9), .ref (a 10), .ref (a 11), .int 0])), ((a 4), .inl (cy 1, 1024, .inl (upd nZ 0 1)))] H := hP
  have hD : va_D A [((a 0), .inr (10, [.ref (a 13), .ref (a 14), .ref (a 15), .ref (a 16), .ref (a 17), .ref (a 18), .ref (a 1), .ref (a 3), .ref (a 12), .ref (a 5), .int 0, .int 0, .int 0, .int 0, .ref (a 19), .ref (a 20), .ref (a 21), .int 0, .int 0, .int 0])), ((a 12), .inr (6, [.ref (a 4), .int 0, .int 0, .int 0, .int 0, .ref (a 32), .ref (a 33), .ref (a 34), .ref (a 35), .ref (a 36), .ref (a 37), .int 0, .int 0, .ref (a 38), .ref (a 39), .ref (a 40), .ref (a 41), .ref (a 42), .ref (a 43), .int 0])), ((a 6), .inl (cy 1, 42, .inl nZ)), ((a 7), .inl (cy 1, 42, .inl nZ)), ((a 8), .inl (cy 1, 42, .inl nZ)), ((a 9), .inl (cy 1, 42, .inl nZ)), ((a 10), .inl (cy 1, 42, .inl nZ)), ((a 11), .inl (cy 1, 42, .inl nZ)), ((a 2), .inl (cy 0, 1024, .inl nZ)), ((a 3), .inr (4, [.ref (a 1), .ref (a 14), .ref (a 5), .int 0, .int 2, .int 0, .int 0, .int 0, .int (-1), .int 0, .ref (a 23), .int 0, .ref (a 24), .int 0, .int 0, .int 0, .int (-1), .int 0, .int 0, .int 0, .int 0])), ((a 1), .inr (2, [.ref (a 2), .int 0, .int 1, .int 0, .int 0, .long 0, .long 0, .ref (a 22)])), ((a 5), .inr (6, [.ref (a 4), .int 1, .int 0, .int 0, .int 0, .ref (a 26), .ref (a 27), .ref (a 28), .ref (a 29), .ref (a 30), .ref (a 31), .int 0, .int 0, .ref (a 6), .ref (a 7), .ref (a 8), .ref (a 9), .ref (a 10), .ref (a 11), .int 0])), ((a 4), .inl (cy 1, 1024, .inl (upd nZ 0 1)))] := hD
  refine lv_aload_n hx hb dX11_program_42 rfl (lv_at hl 1 rfl) ?_
  refine va_get (D := (dC, dI)) (ci := 10) (v := .ref (a 12)) (C := RX11) (T := TX11) (N := 20) hx hb hts in_k_X11_program_X11 hown hK hP 0 rfl rfl 8 (by decide) (hts _ (List.mem_cons_of_mem _ (List.mem_append_left _ (List.mem_append_left _ (List.mem_of_getElem? (i := 1) rfl))))) (fun _ h9 => h9) rfl dX11_program_43 ?_
  refine lv_aload_n hx hb dX11_program_46 rfl (lv_at hl 1 rfl) ?_
  refine va_get (D := (dC, dI)) (ci := 10) (v := .ref (a 5)) (C := RX11) (T := TX11) (N := 20) hx hb hts in_k_X11_program_X11 hown hK hP 0 rfl rfl 9 (by decide) (hts _ (List.mem_cons_of_mem _ (List.mem_append_left _ (List.mem_append_left _ (List.mem_of_getElem? (i := 0) rfl))))) (fun _ h9 => h9) rfl dX11_program_47 ?_
  refine va_getN (D := (dC, dI)) (ci := 6) (v := .ref (a 4)) (C := RX7) (T := TX7) (N := 20) hx hb hts in_k_X11_program_X7 hown hK hP 11 rfl rfl 0 (by decide) (va_Nw.use rfl (hG.1 _ (List.mem_of_getElem? (i := 65) rfl))) (fun _ h9 => h9) rfl dX11_program_50 ?_
  refine va_putN (D := (dC, dI)) (ci := 6) (v := .ref (a 4)) (ty := .array .int) (C := RX7) (T := TX7) (N := 20) hx hb hts in_k_X11_program_X7 tyX7 tyX7_ok nmX7 hown hK hP hD hS 1 rfl rfl 0 (by decide) (va_Nw.use rfl (hG.1 _ (List.mem_of_getElem? (i := 65) rfl))) (fun _ h9 => h9) rfl (by decide +kernel) rfl rfl (Nat.le_of_ble_eq_true rfl) dX11_program_53 (fun H locs hP hD hS => ?_)
  have hP : va_P (dC, dI) nCl [((a 0), .inr (10, [.ref (a 13), .ref (a 14), .ref (a 15), .ref (a 16), .ref (a 17), .ref (a 18), .ref (a 1), .ref (a 3), .ref (a 12), .ref (a 5), .int 0, .int 0, .int 0, .int 0, .ref (a 19), .ref (a 20), .ref (a 21), .int 0, .int 0, .int 0])), ((a 12), .inr (6, [.ref (a 4), .int 0, .int 0, .int 0, .int 0, .ref (a 32), .ref (a 33), .ref (a 34), .ref (a 35), .ref (a 36), .ref (a 37), .int 0, .int 0, .ref (a 38), .ref (a 39), .ref (a 40), .ref (a 41), .ref (a 42), .ref (a 43), .int 0])), ((a 6), .inl (cy 1, 42, .inl nZ)), ((a 7), .inl (cy 1, 42, .inl nZ)), ((a 8), .inl (cy 1, 42, .inl nZ)), ((a 9), .inl (cy 1, 42, .inl nZ)), ((a 10), .inl (cy 1, 42, .inl nZ)), ((a 11), .inl (cy 1, 42, .inl nZ)), ((a 2), .inl (cy 0, 1024, .inl nZ)), ((a 3), .inr (4, [.ref (a 1), .ref (a 14), .ref (a 5), .int 0, .int 2, .int 0, .int 0, .int 0, .int (-1), .int 0, .ref (a 23), .int 0, .ref (a 24), .int 0, .int 0, .int 0, .int (-1), .int 0, .int 0, .int 0, .int 0])), ((a 1), .inr (2, [.ref (a 2), .int 0, .int 1, .int 0, .int 0, .long 0, .long 0, .ref (a 22)])), ((a 5), .inr (6, [.ref (a 4), .int 1, .int 0, .int 0, .int 0, .ref (a 26), .ref (a 27), .ref (a 28), .ref (a 29), .ref (a 30), .ref (a 31), .int 0, .int 0, .ref (a 6), .ref (a 7), .ref (a 8), .ref (a 9), .ref (a 10), .ref (a 11), .int 0])), ((a 4), .inl (cy 1, 1024, .inl (upd nZ 0 1)))] H := hP
  have hD : va_D A [((a 0), .inr (10, [.ref (a 13), .ref (a 14), .ref (a 15), .ref (a 16), .ref (a 17), .ref (a 18), .ref (a 1), .ref (a 3), .ref (a 12), .ref (a 5), .int 0, .int 0, .int 0, .int 0, .ref (a 19), .ref (a 20), .ref (a 21), .int 0, .int 0, .int 0])), ((a 12), .inr (6, [.ref (a 4), .int 0, .int 0, .int 0, .int 0, .ref (a 32), .ref (a 33), .ref (a 34), .ref (a 35), .ref (a 36), .ref (a 37), .int 0, .int 0, .ref (a 38), .ref (a 39), .ref (a 40), .ref (a 41), .ref (a 42), .ref (a 43), .int 0])), ((a 6), .inl (cy 1, 42, .inl nZ)), ((a 7), .inl (cy 1, 42, .inl nZ)), ((a 8), .inl (cy 1, 42, .inl nZ)), ((a 9), .inl (cy 1, 42, .inl nZ)), ((a 10), .inl (cy 1, 42, .inl nZ)), ((a 11), .inl (cy 1, 42, .inl nZ)), ((a 2), .inl (cy 0, 1024, .inl nZ)), ((a 3), .inr (4, [.ref (a 1), .ref (a 14), .ref (a 5), .int 0, .int 2, .int 0, .int 0, .int 0, .int (-1), .int 0, .ref (a 23), .int 0, .ref (a 24), .int 0, .int 0, .int 0, .int (-1), .int 0, .int 0, .int 0, .int 0])), ((a 1), .inr (2, [.ref (a 2), .int 0, .int 1, .int 0, .int 0, .long 0, .long 0, .ref (a 22)])), ((a 5), .inr (6, [.ref (a 4), .int 1, .int 0, .int 0, .int 0, .ref (a 26), .ref (a 27), .ref (a 28), .ref (a 29), .ref (a 30), .ref (a 31), .int 0, .int 0, .ref (a 6), .ref (a 7), .ref (a 8), .ref (a 9), .ref (a 10), .ref (a 11), .int 0])), ((a 4), .inl (cy 1, 1024, .inl (upd nZ 0 1)))] := hD
  refine lv_iload_n hx hb dX11_program_56 rfl (lv_at hl 0 rfl) ?_
  refine lv_if_ne (tgt := 70) hx hb dX11_program_57 (by decide) (fun _ => ?_) (fun c1 => False.elim (by revert c1; decide))
  refine lv_aload_n hx hb dX11_program_70 rfl (lv_at hl 1 rfl) ?_
  refine va_get (D := (dC, dI)) (ci := 10) (v := .ref (a 5)) (C := RX11) (T := TX11) (N := 20) hx hb hts in_k_X11_program_X11 hown hK hP 0 rfl rfl 9 (by decide) (hts _ (List.mem_cons_of_mem _ (List.mem_append_left _ (List.mem_append_left _ (List.mem_of_getElem? (i := 0) rfl))))) (fun _ h9 => h9) rfl dX11_program_71 ?_
  refine lv_aload_n hx hb dX11_program_74 rfl (lv_at hl 1 rfl) ?_
  refine va_get (D := (dC, dI)) (ci := 10) (v := .ref (a 12)) (C := RX11) (T := TX11) (N := 20) hx hb hts in_k_X11_program_X11 hown hK hP 0 rfl rfl 8 (by decide) (hts _ (List.mem_cons_of_mem _ (List.mem_append_left _ (List.mem_append_left _ (List.mem_of_getElem? (i := 1) rfl))))) (fun _ h9 => h9) rfl dX11_program_75 ?_
  refine va_getN (D := (dC, dI)) (ci := 6) (v := .int 0) (C := RX7) (T := TX7) (N := 20) hx hb hts in_k_X11_program_X7 hown hK hP 1 rfl rfl 1 (by decide) (va_Nw.use rfl (hG.1 _ (List.mem_of_getElem? (i := 69) rfl))) (fun _ h9 => h9) rfl dX11_program_78 ?_
  have hPc := hP.sub (ws' := [((a 5), .inr (6, [.ref (a 4), .int 1, .int 0, .int 0, .int 0, .ref (a 26), .ref (a 27), .ref (a 28), .ref (a 29), .ref (a 30), .ref (a 31), .int 0, .int 0, .ref (a 6), .ref (a 7), .ref (a 8), .ref (a 9), .ref (a 10), .ref (a 11), .int 0])), ((a 6), .inl (cy 1, 42, .inl nZ)), ((a 4), .inl (cy 1, 1024, .inl (upd nZ 0 1)))]) [11, 2, 12] rfl
  have hPc : va_P (dC, dI) nCl (v0_k_X7_moveDown cy (fun j9 => [(a 5), (a 6), (a 4), (a 26), (a 27), (a 28), (a 29), (a 30), (a 31), (a 7), (a 8), (a 9), (a 10), (a 11)].getD j9 0)) H := hPc
  have hDc := hD.sub (ws' := [((a 5), .inr (6, [.ref (a 4), .int 1, .int 0, .int 0, .int 0, .ref (a 26), .ref (a 27), .ref (a 28), .ref (a 29), .ref (a 30), .ref (a 31), .int 0, .int 0, .ref (a 6), .ref (a 7), .ref (a 8), .ref (a 9), .ref (a 10), .ref (a 11), .int 0])), ((a 6), .inl (cy 1, 42, .inl nZ)), ((a 4), .inl (cy 1, 1024, .inl (upd nZ 0 1)))]) [11, 2, 12] (by decide) rfl
  have hDc : va_D A (v0_k_X7_moveDown cy (fun j9 => [(a 5), (a 6), (a 4), (a 26), (a 27), (a 28), (a 29), (a 30), (a 31), (a 7), (a 8), (a 9), (a 10), (a 11)].getD j9 0)) := hDc
  have hFc := va_free (wc := (v0_k_X7_moveDown cy (fun j9 => [(a 5), (a 6), (a 4), (a 26), (a 27), (a 28), (a 29), (a 30), (a 31), (a 7), (a 8), (a 9), (a 10), (a 11)].getD j9 0))) hD hS hA [11, 2, 12] rfl
  refine va_callv (va_runV (As := [.int 0]) (rest := []) ⟨hx, hb, hml, hown, hts⟩ (k_X7_moveDown l dC dI cy k (fun j9 => [(a 5), (a 6), (a 4), (a 26), (a 27), (a 28), (a 29), (a 30), (a 31), (a 7), (a 8), (a 9), (a 10), (a 11)].getD j9 0) H.size) (cwV 1 hts g_k_X11_program_149_k_X7_moveDown rfl rfl rfl (by decide +kernel) ⟨Nat.le_of_ble_eq_true rfl, Nat.le_of_ble_eq_true rfl⟩) ⟨nb_blindE, va_recv hK hPc (ci := 6) (q0 := 0) rfl rfl, fun U hU hW => ⟨rfl, ⟨by rw [hU], by rw [hU]; exact hPc, va_K.moved hW.alike hK, hDc.weaken (fun _ _ _ _ => trivial), hG.warm hW⟩, nE.to hE hS hW hU hFc⟩⟩ rfl rfl hl.1 rfl (lv_room (Nat.le_of_ble_eq_true rfl)) dX11_program_81 ⟨Nat.le_of_ble_eq_true rfl, Nat.le_of_ble_eq_true rfl⟩) hS (fun q _ h => hFc q h) hFc (fun u3 t H1 locs ht hvm hw hB hz1 hk1 hS => ?_)
  obtain ⟨hP1, hK1, hD1⟩ := hB
  rw [ht] at hP1
  obtain ⟨hP, hD⟩ := va_join (wr := [((a 0), .inr (10, [.ref (a 13), .ref (a 14), .ref (a 15), .ref (a 16), .ref (a 17), .ref (a 18), .ref (a 1), .ref (a 3), .ref (a 12), .ref (a 5), .int 0, .int 0, .int 0, .int 0, .ref (a 19), .ref (a 20), .ref (a 21), .int 0, .int 0, .int 0])), ((a 12), .inr (6, [.ref (a 4), .int 0, .int 0, .int 0, .int 0, .ref (a 32), .ref (a 33), .ref (a 34), .ref (a 35), .ref (a 36), .ref (a 37), .int 0, .int 0, .ref (a 38), .ref (a 39), .ref (a 40), .ref (a 41), .ref (a 42), .ref (a 43), .int 0])), ((a 7), .inl (cy 1, 42, .inl nZ)), ((a 8), .inl (cy 1, 42, .inl nZ)), ((a 9), .inl (cy 1, 42, .inl nZ)), ((a 10), .inl (cy 1, 42, .inl nZ)), ((a 11), .inl (cy 1, 42, .inl nZ)), ((a 2), .inl (cy 0, 1024, .inl nZ)), ((a 3), .inr (4, [.ref (a 1), .ref (a 14), .ref (a 5), .int 0, .int 2, .int 0, .int 0, .int 0, .int (-1), .int 0, .ref (a 23), .int 0, .ref (a 24), .int 0, .int 0, .int 0, .int (-1), .int 0, .int 0, .int 0, .int 0])), ((a 1), .inr (2, [.ref (a 2), .int 0, .int 1, .int 0, .int 0, .long 0, .long 0, .ref (a 22)]))]) (w1 := v1_k_X7_moveDown cy (fun j9 => [(a 5), (a 6), (a 4), (a 26), (a 27), (a 28), (a 29), (a 30), (a 31), (a 7), (a 8), (a 9), (a 10), (a 11)].getD j9 0) u3) hP hD [11, 2, 12] [0, 1, 3, 4, 5, 6, 7, 8, 9, 10] rfl rfl (by decide) (by decide) hk1 hFc hP1 hD1
  generalize H1 = H at hP hS ⊢
  have hP : va_P (dC, dI) nCl [((a 0), .inr (10, [.ref (a 13), .ref (a 14), .ref (a 15), .ref (a 16), .ref (a 17), .ref (a 18), .ref (a 1), .ref (a 3), .ref (a 12), .ref (a 5), .int 0, .int 0, .int 0, .int 0, .ref (a 19), .ref (a 20), .ref (a 21), .int 0, .int 0, .int 0])), ((a 12), .inr (6, [.ref (a 4), .int 0, .int 0, .int 0, .int 0, .ref (a 32), .ref (a 33), .ref (a 34), .ref (a 35), .ref (a 36), .ref (a 37), .int 0, .int 0, .ref (a 38), .ref (a 39), .ref (a 40), .ref (a 41), .ref (a 42), .ref (a 43), .int 0])), ((a 7), .inl (cy 1, 42, .inl nZ)), ((a 8), .inl (cy 1, 42, .inl nZ)), ((a 9), .inl (cy 1, 42, .inl nZ)), ((a 10), .inl (cy 1, 42, .inl nZ)), ((a 11), .inl (cy 1, 42, .inl nZ)), ((a 2), .inl (cy 0, 1024, .inl nZ)), ((a 3), .inr (4, [.ref (a 1), .ref (a 14), .ref (a 5), .int 0, .int 2, .int 0, .int 0, .int 0, .int (-1), .int 0, .ref (a 23), .int 0, .ref (a 24), .int 0, .int 0, .int 0, .int (-1), .int 0, .int 0, .int 0, .int 0])), ((a 1), .inr (2, [.ref (a 2), .int 0, .int 1, .int 0, .int 0, .long 0, .long 0, .ref (a 22)])), ((a 5), .inr (6, [.ref (a 4), .int 1, .int 0, .int 0, .int 0, .ref (a 26), .ref (a 27), .ref (a 28), .ref (a 29), .ref (a 30), .ref (a 31), .int 0, .int 0, .ref (a 6), .ref (a 7), .ref (a 8), .ref (a 9), .ref (a 10), .ref (a 11), .int 0])), ((a 6), .inl (cy 1, 42, .inl nZ)), ((a 4), .inl (cy 1, 1024, .inl (upd nZ 0 1)))] H := hP
  have hD : va_D A [((a 0), .inr (10, [.ref (a 13), .ref (a 14), .ref (a 15), .ref (a 16), .ref (a 17), .ref (a 18), .ref (a 1), .ref (a 3), .ref (a 12), .ref (a 5), .int 0, .int 0, .int 0, .int 0, .ref (a 19), .ref (a 20), .ref (a 21), .int 0, .int 0, .int 0])), ((a 12), .inr (6, [.ref (a 4), .int 0, .int 0, .int 0, .int 0, .ref (a 32), .ref (a 33), .ref (a 34), .ref (a 35), .ref (a 36), .ref (a 37), .int 0, .int 0, .ref (a 38), .ref (a 39), .ref (a 40), .ref (a 41), .ref (a 42), .ref (a 43), .int 0])), ((a 7), .inl (cy 1, 42, .inl nZ)), ((a 8), .inl (cy 1, 42, .inl nZ)), ((a 9), .inl (cy 1, 42, .inl nZ)), ((a 10), .inl (cy 1, 42, .inl nZ)), ((a 11), .inl (cy 1, 42, .inl nZ)), ((a 2), .inl (cy 0, 1024, .inl nZ)), ((a 3), .inr (4, [.ref (a 1), .ref (a 14), .ref (a 5), .int 0, .int 2, .int 0, .int 0, .int 0, .int (-1), .int 0, .ref (a 23), .int 0, .ref (a 24), .int 0, .int 0, .int 0, .int (-1), .int 0, .int 0, .int 0, .int 0])), ((a 1), .inr (2, [.ref (a 2), .int 0, .int 1, .int 0, .int 0, .long 0, .long 0, .ref (a 22)])), ((a 5), .inr (6, [.ref (a 4), .int 1, .int 0, .int 0, .int 0, .ref (a 26), .ref (a 27), .ref (a 28), .ref (a 29), .ref (a 30), .ref (a 31), .int 0, .int 0, .ref (a 6), .ref (a 7), .ref (a 8), .ref (a 9), .ref (a 10), .ref (a 11), .int 0])), ((a 6), .inl (cy 1, 42, .inl nZ)), ((a 4), .inl (cy 1, 1024, .inl (upd nZ 0 1)))] := hD
  refine lv_aload_n hx hb dX11_program_84 rfl (lv_at hl 1 rfl) ?_
  refine va_get (D := (dC, dI)) (ci := 10) (v := .ref (a 12)) (C := RX11) (T := TX11) (N := 20) hx hb hts in_k_X11_program_X11 hown hK hP 0 rfl rfl 8 (by decide) (hts _ (List.mem_cons_of_mem _ (List.mem_append_left _ (List.mem_append_left _ (List.mem_of_getElem? (i := 1) rfl))))) (fun _ h9 => h9) rfl dX11_program_85 ?_
  refine lv_astore_n (lv' := [(2, .ref (a 12)), (1, .int 1), (0, .ref (a 0))]) hx hb dX11_program_88 rfl hl (by decide) rfl (fun ls hl => ?_)
  refine lv_aload_n hx hb dX11_program_89 rfl (lv_at hl 2 rfl) ?_
  refine lv_aload_n hx hb dX11_program_90 rfl (lv_at hl 2 rfl) ?_
  refine va_get (D := (dC, dI)) (ci := 10) (v := .ref (a 5)) (C := RX11) (T := TX11) (N := 20) hx hb hts in_k_X11_program_X11 hown hK hP 0 rfl rfl 9 (by decide) (hts _ (List.mem_cons_of_mem _ (List.mem_append_left _ (List.mem_append_left _ (List.mem_of_getElem? (i := 0) rfl))))) (fun _ h9 => h9) rfl dX11_program_91 ?_
  refine va_put (D := (dC, dI)) (ci := 10) (v := .ref (a 5)) (ty := .object "SetHouse$Program") (C := RX11) (T := TX11) (N := 20) hx hb hts in_k_X11_program_X11 tyX11 tyX11_ok nmX11 hown hK hP hD hS 0 rfl rfl 8 (by decide) (hts _ (List.mem_cons_of_mem _ (List.mem_append_left _ (List.mem_append_left _ (List.mem_of_getElem? (i := 1) rfl))))) (fun _ h9 => h9) rfl (by decide +kernel) rfl rfl (Nat.le_of_ble_eq_true rfl) dX11_program_94 (fun H locs hP hD hS => ?_)
  have hP : va_P (dC, dI) nCl [((a 0), .inr (10, [.ref (a 13), .ref (a 14), .ref (a 15), .ref (a 16), .ref (a 17), .ref (a 18), .ref (a 1), .ref (a 3), .ref (a 5), .ref (a 5), .int 0, .int 0, .int 0, .int 0, .ref (a 19), .ref (a 20), .ref (a 21), .int 0, .int 0, .int 0])), ((a 12), .inr (6, [.ref (a 4), .int 0, .int 0, .int 0, .int 0, .ref (a 32), .ref (a 33), .ref (a 34), .ref (a 35), .ref (a 36), .ref (a 37), .int 0, .int 0, .ref (a 38), .ref (a 39), .ref (a 40), .ref (a 41), .ref (a 42), .ref (a 43), .int 0])), ((a 7), .inl (cy 1, 42, .inl nZ)), ((a 8), .inl (cy 1, 42, .inl nZ)), ((a 9), .inl (cy 1, 42, .inl nZ)), ((a 10), .inl (cy 1, 42, .inl nZ)), ((a 11), .inl (cy 1, 42, .inl nZ)), ((a 2), .inl (cy 0, 1024, .inl nZ)), ((a 3), .inr (4, [.ref (a 1), .ref (a 14), .ref (a 5), .int 0, .int 2, .int 0, .int 0, .int 0, .int (-1), .int 0, .ref (a 23), .int 0, .ref (a 24), .int 0, .int 0, .int 0, .int (-1), .int 0, .int 0, .int 0, .int 0])), ((a 1), .inr (2, [.ref (a 2), .int 0, .int 1, .int 0, .int 0, .long 0, .long 0, .ref (a 22)])), ((a 5), .inr (6, [.ref (a 4), .int 1, .int 0, .int 0, .int 0, .ref (a 26), .ref (a 27), .ref (a 28), .ref (a 29), .ref (a 30), .ref (a 31), .int 0, .int 0, .ref (a 6), .ref (a 7), .ref (a 8), .ref (a 9), .ref (a 10), .ref (a 11), .int 0])), ((a 6), .inl (cy 1, 42, .inl nZ)), ((a 4), .inl (cy 1, 1024, .inl (upd nZ 0 1)))] H := hP
  have hD : va_D A [((a 0), .inr (10, [.ref (a 13), .ref (a 14), .ref (a 15), .ref (a 16), .ref (a 17), .ref (a 18), .ref (a 1), .ref (a 3), .ref (a 5), .ref (a 5), .int 0, .int 0, .int 0, .int 0, .ref (a 19), .ref (a 20), .ref (a 21), .int 0, .int 0, .int 0])), ((a 12), .inr (6, [.ref (a 4), .int 0, .int 0, .int 0, .int 0, .ref (a 32), .ref (a 33), .ref (a 34), .ref (a 35), .ref (a 36), .ref (a 37), .int 0, .int 0, .ref (a 38), .ref (a 39), .ref (a 40), .ref (a 41), .ref (a 42), .ref (a 43), .int 0])), ((a 7), .inl (cy 1, 42, .inl nZ)), ((a 8), .inl (cy 1, 42, .inl nZ)), ((a 9), .inl (cy 1, 42, .inl nZ)), ((a 10), .inl (cy 1, 42, .inl nZ)), ((a 11), .inl (cy 1, 42, .inl nZ)), ((a 2), .inl (cy 0, 1024, .inl nZ)), ((a 3), .inr (4, [.ref (a 1), .ref (a 14), .ref (a 5), .int 0, .int 2, .int 0, .int 0, .int 0, .int (-1), .int 0, .ref (a 23), .int 0, .ref (a 24), .int 0, .int 0, .int 0, .int (-1), .int 0, .int 0, .int 0, .int 0])), ((a 1), .inr (2, [.ref (a 2), .int 0, .int 1, .int 0, .int 0, .long 0, .long 0, .ref (a 22)])), ((a 5), .inr (6, [.ref (a 4), .int 1, .int 0, .int 0, .int 0, .ref (a 26), .ref (a 27), .ref (a 28), .ref (a 29), .ref (a 30), .ref (a 31), .int 0, .int 0, .ref (a 6), .ref (a 7), .ref (a 8), .ref (a 9), .ref (a 10), .ref (a 11), .int 0])), ((a 6), .inl (cy 1, 42, .inl nZ)), ((a 4), .inl (cy 1, 1024, .inl (upd nZ 0 1)))] := hD
  refine lv_aload_n hx hb dX11_program_97 rfl (lv_at hl 2 rfl) ?_
  refine lv_aload_n hx hb dX11_program_98 rfl (lv_at hl 0 rfl) ?_
  refine va_put (D := (dC, dI)) (ci := 10) (v := .ref (a 12)) (ty := .object "SetHouse$Program") (C := RX11) (T := TX11) (N := 20) hx hb hts in_k_X11_program_X11 tyX11 tyX11_ok nmX11 hown hK hP hD hS 0 rfl rfl 9 (by decide) (hts _ (List.mem_cons_of_mem _ (List.mem_append_left _ (List.mem_append_left _ (List.mem_of_getElem? (i := 0) rfl))))) (fun _ h9 => h9) rfl (by decide +kernel) rfl rfl (Nat.le_of_ble_eq_true rfl) dX11_program_99 (fun H locs hP hD hS => ?_)
  have hP : va_P (dC, dI) nCl [((a 0), .inr (10, [.ref (a 13), .ref (a 14), .ref (a 15), .ref (a 16), .ref (a 17), .ref (a 18), .ref (a 1), .ref (a 3), .ref (a 5), .ref (a 12), .int 0, .int 0, .int 0, .int 0, .ref (a 19), .ref (a 20), .ref (a 21), .int 0, .int 0, .int 0])), ((a 12), .inr (6, [.ref (a 4), .int 0, .int 0, .int 0, .int 0, .ref (a 32), .ref (a 33), .ref (a 34), .ref (a 35), .ref (a 36), .ref (a 37), .int 0, .int 0, .ref (a 38), .ref (a 39), .ref (a 40), .ref (a 41), .ref (a 42), .ref (a 43), .int 0])), ((a 7), .inl (cy 1, 42, .inl nZ)), ((a 8), .inl (cy 1, 42, .inl nZ)), ((a 9), .inl (cy 1, 42, .inl nZ)), ((a 10), .inl (cy 1, 42, .inl nZ)), ((a 11), .inl (cy 1, 42, .inl nZ)), ((a 2), .inl (cy 0, 1024, .inl nZ)), ((a 3), .inr (4, [.ref (a 1), .ref (a 14), .ref (a 5), .int 0, .int 2, .int 0, .int 0, .int 0, .int (-1), .int 0, .ref (a 23), .int 0, .ref (a 24), .int 0, .int 0, .int 0, .int (-1), .int 0, .int 0, .int 0, .int 0])), ((a 1), .inr (2, [.ref (a 2), .int 0, .int 1, .int 0, .int 0, .long 0, .long 0, .ref (a 22)])), ((a 5), .inr (6, [.ref (a 4), .int 1, .int 0, .int 0, .int 0, .ref (a 26), .ref (a 27), .ref (a 28), .ref (a 29), .ref (a 30), .ref (a 31), .int 0, .int 0, .ref (a 6), .ref (a 7), .ref (a 8), .ref (a 9), .ref (a 10), .ref (a 11), .int 0])), ((a 6), .inl (cy 1, 42, .inl nZ)), ((a 4), .inl (cy 1, 1024, .inl (upd nZ 0 1)))] H := hP
  have hD : va_D A [((a 0), .inr (10, [.ref (a 13), .ref (a 14), .ref (a 15), .ref (a 16), .ref (a 17), .ref (a 18), .ref (a 1), .ref (a 3), .ref (a 5), .ref (a 12), .int 0, .int 0, .int 0, .int 0, .ref (a 19), .ref (a 20), .ref (a 21), .int 0, .int 0, .int 0])), ((a 12), .inr (6, [.ref (a 4), .int 0, .int 0, .int 0, .int 0, .ref (a 32), .ref (a 33), .ref (a 34), .ref (a 35), .ref (a 36), .ref (a 37), .int 0, .int 0, .ref (a 38), .ref (a 39), .ref (a 40), .ref (a 41), .ref (a 42), .ref (a 43), .int 0])), ((a 7), .inl (cy 1, 42, .inl nZ)), ((a 8), .inl (cy 1, 42, .inl nZ)), ((a 9), .inl (cy 1, 42, .inl nZ)), ((a 10), .inl (cy 1, 42, .inl nZ)), ((a 11), .inl (cy 1, 42, .inl nZ)), ((a 2), .inl (cy 0, 1024, .inl nZ)), ((a 3), .inr (4, [.ref (a 1), .ref (a 14), .ref (a 5), .int 0, .int 2, .int 0, .int 0, .int 0, .int (-1), .int 0, .ref (a 23), .int 0, .ref (a 24), .int 0, .int 0, .int 0, .int (-1), .int 0, .int 0, .int 0, .int 0])), ((a 1), .inr (2, [.ref (a 2), .int 0, .int 1, .int 0, .int 0, .long 0, .long 0, .ref (a 22)])), ((a 5), .inr (6, [.ref (a 4), .int 1, .int 0, .int 0, .int 0, .ref (a 26), .ref (a 27), .ref (a 28), .ref (a 29), .ref (a 30), .ref (a 31), .int 0, .int 0, .ref (a 6), .ref (a 7), .ref (a 8), .ref (a 9), .ref (a 10), .ref (a 11), .int 0])), ((a 6), .inl (cy 1, 42, .inl nZ)), ((a 4), .inl (cy 1, 1024, .inl (upd nZ 0 1)))] := hD
  refine lv_aload_n hx hb dX11_program_102 rfl (lv_at hl 2 rfl) ?_
  refine lv_iconst (v := 1) hx hb dX11_program_103 (by decide) ?_
  refine va_put (D := (dC, dI)) (ci := 10) (v := .int 1) (ty := .boolean) (C := RX11) (T := TX11) (N := 20) hx hb hts in_k_X11_program_X11 tyX11 tyX11_ok nmX11 hown hK hP hD hS 0 rfl rfl 10 (by decide) (hts _ (List.mem_cons_of_mem _ (List.mem_append_left _ (List.mem_append_left _ (List.mem_of_getElem? (i := 16) rfl))))) (fun _ h9 => h9) rfl (by decide +kernel) rfl rfl (Nat.le_of_ble_eq_true rfl) dX11_program_104 (fun H locs hP hD hS => ?_)
  have hP : va_P (dC, dI) nCl [((a 0), .inr (10, [.ref (a 13), .ref (a 14), .ref (a 15), .ref (a 16), .ref (a 17), .ref (a 18), .ref (a 1), .ref (a 3), .ref (a 5), .ref (a 12), .int 1, .int 0, .int 0, .int 0, .ref (a 19), .ref (a 20), .ref (a 21), .int 0, .int 0, .int 0])), ((a 12), .inr (6, [.ref (a 4), .int 0, .int 0, .int 0, .int 0, .ref (a 32), .ref (a 33), .ref (a 34), .ref (a 35), .ref (a 36), .ref (a 37), .int 0, .int 0, .ref (a 38), .ref (a 39), .ref (a 40), .ref (a 41), .ref (a 42), .ref (a 43), .int 0])), ((a 7), .inl (cy 1, 42, .inl nZ)), ((a 8), .inl (cy 1, 42, .inl nZ)), ((a 9), .inl (cy 1, 42, .inl nZ)), ((a 10), .inl (cy 1, 42, .inl nZ)), ((a 11), .inl (cy 1, 42, .inl nZ)), ((a 2), .inl (cy 0, 1024, .inl nZ)), ((a 3), .inr (4, [.ref (a 1), .ref (a 14), .ref (a 5), .int 0, .int 2, .int 0, .int 0, .int 0, .int (-1), .int 0, .ref (a 23), .int 0, .ref (a 24), .int 0, .int 0, .int 0, .int (-1), .int 0, .int 0, .int 0, .int 0])), ((a 1), .inr (2, [.ref (a 2), .int 0, .int 1, .int 0, .int 0, .long 0, .long 0, .ref (a 22)])), ((a 5), .inr (6, [.ref (a 4), .int 1, .int 0, .int 0, .int 0, .ref (a 26), .ref (a 27), .ref (a 28), .ref (a 29), .ref (a 30), .ref (a 31), .int 0, .int 0, .ref (a 6), .ref (a 7), .ref (a 8), .ref (a 9), .ref (a 10), .ref (a 11), .int 0])), ((a 6), .inl (cy 1, 42, .inl nZ)), ((a 4), .inl (cy 1, 1024, .inl (upd nZ 0 1)))] H := hP
  have hD : va_D A [((a 0), .inr (10, [.ref (a 13), .ref (a 14), .ref (a 15), .ref (a 16), .ref (a 17), .ref (a 18), .ref (a 1), .ref (a 3), .ref (a 5), .ref (a 12), .int 1, .int 0, .int 0, .int 0, .ref (a 19), .ref (a 20), .ref (a 21), .int 0, .int 0, .int 0])), ((a 12), .inr (6, [.ref (a 4), .int 0, .int 0, .int 0, .int 0, .ref (a 32), .ref (a 33), .ref (a 34), .ref (a 35), .ref (a 36), .ref (a 37), .int 0, .int 0, .ref (a 38), .ref (a 39), .ref (a 40), .ref (a 41), .ref (a 42), .ref (a 43), .int 0])), ((a 7), .inl (cy 1, 42, .inl nZ)), ((a 8), .inl (cy 1, 42, .inl nZ)), ((a 9), .inl (cy 1, 42, .inl nZ)), ((a 10), .inl (cy 1, 42, .inl nZ)), ((a 11), .inl (cy 1, 42, .inl nZ)), ((a 2), .inl (cy 0, 1024, .inl nZ)), ((a 3), .inr (4, [.ref (a 1), .ref (a 14), .ref (a 5), .int 0, .int 2, .int 0, .int 0, .int 0, .int (-1), .int 0, .ref (a 23), .int 0, .ref (a 24), .int 0, .int 0, .int 0, .int (-1), .int 0, .int 0, .int 0, .int 0])), ((a 1), .inr (2, [.ref (a 2), .int 0, .int 1, .int 0, .int 0, .long 0, .long 0, .ref (a 22)])), ((a 5), .inr (6, [.ref (a 4), .int 1, .int 0, .int 0, .int 0, .ref (a 26), .ref (a 27), .ref (a 28), .ref (a 29), .ref (a 30), .ref (a 31), .int 0, .int 0, .ref (a 6), .ref (a 7), .ref (a 8), .ref (a 9), .ref (a 10), .ref (a 11), .int 0])), ((a 6), .inl (cy 1, 42, .inl nZ)), ((a 4), .inl (cy 1, 1024, .inl (upd nZ 0 1)))] := hD
  refine lv_aload_n hx hb dX11_program_107 rfl (lv_at hl 2 rfl) ?_
  refine lv_iconst (v := 0) hx hb dX11_program_108 (by decide) ?_
  refine va_put (D := (dC, dI)) (ci := 10) (v := .int 0) (ty := .boolean) (C := RX11) (T := TX11) (N := 20) hx hb hts in_k_X11_program_X11 tyX11 tyX11_ok nmX11 hown hK hP hD hS 0 rfl rfl 11 (by decide) (hts _ (List.mem_cons_of_mem _ (List.mem_append_left _ (List.mem_append_left _ (List.mem_of_getElem? (i := 17) rfl))))) (fun _ h9 => h9) rfl (by decide +kernel) rfl rfl (Nat.le_of_ble_eq_true rfl) dX11_program_109 (fun H locs hP hD hS => ?_)
  have hP : va_P (dC, dI) nCl [((a 0), .inr (10, [.ref (a 13), .ref (a 14), .ref (a 15), .ref (a 16), .ref (a 17), .ref (a 18), .ref (a 1), .ref (a 3), .ref (a 5), .ref (a 12), .int 1, .int 0, .int 0, .int 0, .ref (a 19), .ref (a 20), .ref (a 21), .int 0, .int 0, .int 0])), ((a 12), .inr (6, [.ref (a 4), .int 0, .int 0, .int 0, .int 0, .ref (a 32), .ref (a 33), .ref (a 34), .ref (a 35), .ref (a 36), .ref (a 37), .int 0, .int 0, .ref (a 38), .ref (a 39), .ref (a 40), .ref (a 41), .ref (a 42), .ref (a 43), .int 0])), ((a 7), .inl (cy 1, 42, .inl nZ)), ((a 8), .inl (cy 1, 42, .inl nZ)), ((a 9), .inl (cy 1, 42, .inl nZ)), ((a 10), .inl (cy 1, 42, .inl nZ)), ((a 11), .inl (cy 1, 42, .inl nZ)), ((a 2), .inl (cy 0, 1024, .inl nZ)), ((a 3), .inr (4, [.ref (a 1), .ref (a 14), .ref (a 5), .int 0, .int 2, .int 0, .int 0, .int 0, .int (-1), .int 0, .ref (a 23), .int 0, .ref (a 24), .int 0, .int 0, .int 0, .int (-1), .int 0, .int 0, .int 0, .int 0])), ((a 1), .inr (2, [.ref (a 2), .int 0, .int 1, .int 0, .int 0, .long 0, .long 0, .ref (a 22)])), ((a 5), .inr (6, [.ref (a 4), .int 1, .int 0, .int 0, .int 0, .ref (a 26), .ref (a 27), .ref (a 28), .ref (a 29), .ref (a 30), .ref (a 31), .int 0, .int 0, .ref (a 6), .ref (a 7), .ref (a 8), .ref (a 9), .ref (a 10), .ref (a 11), .int 0])), ((a 6), .inl (cy 1, 42, .inl nZ)), ((a 4), .inl (cy 1, 1024, .inl (upd nZ 0 1)))] H := hP
  have hD : va_D A [((a 0), .inr (10, [.ref (a 13), .ref (a 14), .ref (a 15), .ref (a 16), .ref (a 17), .ref (a 18), .ref (a 1), .ref (a 3), .ref (a 5), .ref (a 12), .int 1, .int 0, .int 0, .int 0, .ref (a 19), .ref (a 20), .ref (a 21), .int 0, .int 0, .int 0])), ((a 12), .inr (6, [.ref (a 4), .int 0, .int 0, .int 0, .int 0, .ref (a 32), .ref (a 33), .ref (a 34), .ref (a 35), .ref (a 36), .ref (a 37), .int 0, .int 0, .ref (a 38), .ref (a 39), .ref (a 40), .ref (a 41), .ref (a 42), .ref (a 43), .int 0])), ((a 7), .inl (cy 1, 42, .inl nZ)), ((a 8), .inl (cy 1, 42, .inl nZ)), ((a 9), .inl (cy 1, 42, .inl nZ)), ((a 10), .inl (cy 1, 42, .inl nZ)), ((a 11), .inl (cy 1, 42, .inl nZ)), ((a 2), .inl (cy 0, 1024, .inl nZ)), ((a 3), .inr (4, [.ref (a 1), .ref (a 14), .ref (a 5), .int 0, .int 2, .int 0, .int 0, .int 0, .int (-1), .int 0, .ref (a 23), .int 0, .ref (a 24), .int 0, .int 0, .int 0, .int (-1), .int 0, .int 0, .int 0, .int 0])), ((a 1), .inr (2, [.ref (a 2), .int 0, .int 1, .int 0, .int 0, .long 0, .long 0, .ref (a 22)])), ((a 5), .inr (6, [.ref (a 4), .int 1, .int 0, .int 0, .int 0, .ref (a 26), .ref (a 27), .ref (a 28), .ref (a 29), .ref (a 30), .ref (a 31), .int 0, .int 0, .ref (a 6), .ref (a 7), .ref (a 8), .ref (a 9), .ref (a 10), .ref (a 11), .int 0])), ((a 6), .inl (cy 1, 42, .inl nZ)), ((a 4), .inl (cy 1, 1024, .inl (upd nZ 0 1)))] := hD
  refine lv_aload_n hx hb dX11_program_112 rfl (lv_at hl 2 rfl) ?_
  refine lv_iconst (v := 0) hx hb dX11_program_113 (by decide) ?_
  refine va_put (D := (dC, dI)) (ci := 10) (v := .int 0) (ty := .int) (C := RX11) (T := TX11) (N := 20) hx hb hts in_k_X11_program_X11 tyX11 tyX11_ok nmX11 hown hK hP hD hS 0 rfl rfl 13 (by decide) (hts _ (List.mem_cons_of_mem _ (List.mem_append_left _ (List.mem_append_left _ (List.mem_of_getElem? (i := 18) rfl))))) (fun _ h9 => h9) rfl (by decide +kernel) rfl rfl (Nat.le_of_ble_eq_true rfl) dX11_program_114 (fun H locs hP hD hS => ?_)
  have hP : va_P (dC, dI) nCl [((a 0), .inr (10, [.ref (a 13), .ref (a 14), .ref (a 15), .ref (a 16), .ref (a 17), .ref (a 18), .ref (a 1), .ref (a 3), .ref (a 5), .ref (a 12), .int 1, .int 0, .int 0, .int 0, .ref (a 19), .ref (a 20), .ref (a 21), .int 0, .int 0, .int 0])), ((a 12), .inr (6, [.ref (a 4), .int 0, .int 0, .int 0, .int 0, .ref (a 32), .ref (a 33), .ref (a 34), .ref (a 35), .ref (a 36), .ref (a 37), .int 0, .int 0, .ref (a 38), .ref (a 39), .ref (a 40), .ref (a 41), .ref (a 42), .ref (a 43), .int 0])), ((a 7), .inl (cy 1, 42, .inl nZ)), ((a 8), .inl (cy 1, 42, .inl nZ)), ((a 9), .inl (cy 1, 42, .inl nZ)), ((a 10), .inl (cy 1, 42, .inl nZ)), ((a 11), .inl (cy 1, 42, .inl nZ)), ((a 2), .inl (cy 0, 1024, .inl nZ)), ((a 3), .inr (4, [.ref (a 1), .ref (a 14), .ref (a 5), .int 0, .int 2, .int 0, .int 0, .int 0, .int (-1), .int 0, .ref (a 23), .int 0, .ref (a 24), .int 0, .int 0, .int 0, .int (-1), .int 0, .int 0, .int 0, .int 0])), ((a 1), .inr (2, [.ref (a 2), .int 0, .int 1, .int 0, .int 0, .long 0, .long 0, .ref (a 22)])), ((a 5), .inr (6, [.ref (a 4), .int 1, .int 0, .int 0, .int 0, .ref (a 26), .ref (a 27), .ref (a 28), .ref (a 29), .ref (a 30), .ref (a 31), .int 0, .int 0, .ref (a 6), .ref (a 7), .ref (a 8), .ref (a 9), .ref (a 10), .ref (a 11), .int 0])), ((a 6), .inl (cy 1, 42, .inl nZ)), ((a 4), .inl (cy 1, 1024, .inl (upd nZ 0 1)))] H := hP
  have hD : va_D A [((a 0), .inr (10, [.ref (a 13), .ref (a 14), .ref (a 15), .ref (a 16), .ref (a 17), .ref (a 18), .ref (a 1), .ref (a 3), .ref (a 5), .ref (a 12), .int 1, .int 0, .int 0, .int 0, .ref (a 19), .ref (a 20), .ref (a 21), .int 0, .int 0, .int 0])), ((a 12), .inr (6, [.ref (a 4), .int 0, .int 0, .int 0, .int 0, .ref (a 32), .ref (a 33), .ref (a 34), .ref (a 35), .ref (a 36), .ref (a 37), .int 0, .int 0, .ref (a 38), .ref (a 39), .ref (a 40), .ref (a 41), .ref (a 42), .ref (a 43), .int 0])), ((a 7), .inl (cy 1, 42, .inl nZ)), ((a 8), .inl (cy 1, 42, .inl nZ)), ((a 9), .inl (cy 1, 42, .inl nZ)), ((a 10), .inl (cy 1, 42, .inl nZ)), ((a 11), .inl (cy 1, 42, .inl nZ)), ((a 2), .inl (cy 0, 1024, .inl nZ)), ((a 3), .inr (4, [.ref (a 1), .ref (a 14), .ref (a 5), .int 0, .int 2, .int 0, .int 0, .int 0, .int (-1), .int 0, .ref (a 23), .int 0, .ref (a 24), .int 0, .int 0, .int 0, .int (-1), .int 0, .int 0, .int 0, .int 0])), ((a 1), .inr (2, [.ref (a 2), .int 0, .int 1, .int 0, .int 0, .long 0, .long 0, .ref (a 22)])), ((a 5), .inr (6, [.ref (a 4), .int 1, .int 0, .int 0, .int 0, .ref (a 26), .ref (a 27), .ref (a 28), .ref (a 29), .ref (a 30), .ref (a 31), .int 0, .int 0, .ref (a 6), .ref (a 7), .ref (a 8), .ref (a 9), .ref (a 10), .ref (a 11), .int 0])), ((a 6), .inl (cy 1, 42, .inl nZ)), ((a 4), .inl (cy 1, 1024, .inl (upd nZ 0 1)))] := hD
  refine lv_aload_n hx hb dX11_program_117 rfl (lv_at hl 2 rfl) ?_
  refine va_get (D := (dC, dI)) (ci := 10) (v := .ref (a 5)) (C := RX11) (T := TX11) (N := 20) hx hb hts in_k_X11_program_X11 hown hK hP 0 rfl rfl 8 (by decide) (hts _ (List.mem_cons_of_mem _ (List.mem_append_left _ (List.mem_append_left _ (List.mem_of_getElem? (i := 1) rfl))))) (fun _ h9 => h9) rfl dX11_program_118 ?_
  refine va_getN (D := (dC, dI)) (ci := 6) (v := .int 0) (C := RX7) (T := TX7) (N := 20) hx hb hts in_k_X11_program_X7 hown hK hP 10 rfl rfl 3 (by decide) (va_Nw.use rfl (hG.1 _ (List.mem_of_getElem? (i := 72) rfl))) (fun _ h9 => h9) rfl dX11_program_121 ?_
  have hP := hP.sub (ws' := []) [] rfl
  have hD := hD.sub (ws' := []) [] (by decide) rfl
  have hP : va_P (dC, dI) nCl (v1_k_X11_program cy a (fun _ => 0)) H := hP
  have hD : va_D A (v1_k_X11_program cy a (fun _ => 0)) := hD
  exact W.iret (v := 0) hx hb hr (fun t ht hW => ⟨⟨0, (fun _ => 0), rfl, rfl, by rw [ht]; exact hP, va_K.moved hW.alike hK, hD⟩, hS.F ht⟩) hS.2.2 dX11_program_124
def o_k_X11_fault : List Cond := [.fieldLink RX11 137 "SetHouse" "latestFault" "I"]
theorem o_k_X11_fault_good : o_k_X11_fault.all goodWord = true := by decide +kernel
def p_k_X11_fault : List Cond := o_k_X11_fault ++ []
theorem p_k_X11_fault_good : p_k_X11_fault.all goodWord = true := nb_all2 o_k_X11_fault_good rfl
def w_k_X11_fault : List Cond := .code yX11_fault cX11_fault 1 (some .int) :: (p_k_X11_fault ++ fC)
theorem w_k_X11_fault_good : w_k_X11_fault.all goodWord = true := nb_allc (by decide +kernel) (nb_all2 p_k_X11_fault_good fC_good)
theorem in_k_X11_fault_X11 : ∀ w ∈ wsX110, w ∈ w_k_X11_fault := fun _ h => List.mem_cons_of_mem _ (List.mem_append_right _ (List.mem_append_right _ (List.mem_append_right _ (List.mem_append_right _ (List.mem_append_right _ (List.mem_append_right _ (List.mem_append_right _ (List.mem_append_right _ (List.mem_append_right _ (List.mem_append_right _ (List.mem_append_right _ h)))))))))))
def v0_k_X11_fault (cy : Nat → ClassId) (a : Nat → Nat) : va_W := [((a 0), .inr (10, [.ref (a 1), .ref (a 2), .ref (a 3), .ref (a 4), .ref (a 5), .ref (a 6), .ref (a 7), .ref (a 8), .ref (a 9), .ref (a 10), .int 0, .int 0, .int 0, .int 0, .ref (a 11), .ref (a 12), .ref (a 13), .int 0, .int 0, .int 0]))]
def v1_k_X11_fault (cy : Nat → ClassId) (a : Nat → Nat) (r : Nat → Nat) : va_W := []
set_option maxHeartbeats 40000000 in
set_option maxRecDepth 100000 in
/-- fault of a new object -/
theorem k_X11_fault (l : Launch) (dC : Nat → ClassId) (dI : Nat → Nat → Nat) (cy : Nat → ClassId) (k : Nat → Nat) (a : Nat → Nat) (sz : Nat) : Met l yX11_fault w_k_X11_fault ({ frames := 0, cells := 0, slots := 0, locals := 0 }) (va_Pc [.ref (a 0)] (nInE (dC, dI) cy k sz (v0_k_X11_fault cy a))) (va_Qi (fun (z : Int32) (_ : Nat → Nat) => z = 0) (fun r t => nOut (dC, dI) cy (va_A (v0_k_X11_fault cy a) sz) (v1_k_X11_fault cy a r) t) (va_A (v0_k_X11_fault cy a) sz)) 0 0 (va_A (v0_k_X11_fault cy a) sz) := by
  refine Met.ofW (cc := cX11_fault) (maxL := 1) (ret := (some .int)) (by decide) rfl ?_
  intro p e s m args below meth c s₁ B hml hv
  obtain ⟨rfl, ⟨hsz, hP, hK, hD0, hG⟩, hE⟩ := hv
  have hx := B.exec
  have hb := B.bytes
  have hr := B.returns
  have hts := atoms_spec (ws := w_k_X11_fault) B.pre
  have hown : s.vm.findClass RX11 = some m.cls := findClass_of_methodNamed B.named
  have hlocks := B.notSynchronized
  subst hsz
  have hD := hD0.self (sz := s.heap.size)
  generalize hAe : va_A (v0_k_X11_fault cy a) s.heap.size = A at hD hE ⊢
  have hA : ∀ q : Nat, s.heap.size ≤ q → A q := fun q h => by rw [← hAe]; exact Or.inr h
  have hS : va_S A s.heap s.heap [] := va_S.rf
  have hP : va_P (dC, dI) nCl (v0_k_X11_fault cy a) s.heap := hP
  have hl := lv_entry ([.ref (a 0)]) (n := 1) (Nat.le_of_ble_eq_true rfl)
  rw [lg_entry_eq]
  generalize (lg_sl ([.ref (a 0)]) ++ List.replicate (1 - (lg_sl ([.ref (a 0)])).length) Slot.unset).toArray = ls at hl ⊢
  have hl : lv_has ls 1 [(0, .ref (a 0))] := hl
  have hP : va_P (dC, dI) nCl [((a 0), .inr (10, [.ref (a 1), .ref (a 2), .ref (a 3), .ref (a 4), .ref (a 5), .ref (a 6), .ref (a 7), .ref (a 8), .ref (a 9), .ref (a 10), .int 0, .int 0, .int 0, .int 0, .ref (a 11), .ref (a 12), .ref (a 13), .int 0, .int 0, .int 0]))] s.heap := hP
  have hD : va_D A [((a 0), .inr (10, [.ref (a 1), .ref (a 2), .ref (a 3), .ref (a 4), .ref (a 5), .ref (a 6), .ref (a 7), .ref (a 8), .ref (a 9), .ref (a 10), .int 0, .int 0, .int 0, .int 0, .ref (a 11), .ref (a 12), .ref (a 13), .int 0, .int 0, .int 0]))] := hD
  refine lv_aload_n hx hb dX11_fault_0 rfl (lv_at hl 0 rfl) ?_
  refine va_get (D := (dC, dI)) (ci := 10) (v := .int 0) (C := RX11) (T := TX11) (N := 20) hx hb hts in_k_X11_fault_X11 hown hK hP 0 rfl rfl 12 (by decide) (hts _ (List.mem_cons_of_mem _ (List.mem_append_left _ (List.mem_append_left _ (List.mem_of_getElem? (i := 0) rfl))))) (fun _ h9 => h9) rfl dX11_fault_1 ?_
  have hP := hP.sub (ws' := []) [] rfl
  have hD := hD.sub (ws' := []) [] (by decide) rfl
  have hP : va_P (dC, dI) nCl (v1_k_X11_fault cy a (fun _ => 0)) s.heap := hP
  have hD : va_D A (v1_k_X11_fault cy a (fun _ => 0)) := hD
  exact W.iret (v := 0) hx hb hr (fun t ht hW => ⟨⟨0, (fun _ => 0), rfl, rfl, by rw [ht]; exact hP, va_K.moved hW.alike hK, hD⟩, hS.F ht⟩) hS.2.2 dX11_fault_4
def o_k_X11_order : List Cond := [.fieldLink RX11 228 "SetHouse" "shownValues" "I"]
theorem o_k_X11_order_good : o_k_X11_order.all goodWord = true := by decide +kernel
def p_k_X11_order : List Cond := o_k_X11_order ++ []
theorem p_k_X11_order_good : p_k_X11_order.all goodWord = true := nb_all2 o_k_X11_order_good rfl
def w_k_X11_order : List Cond := .code yX11_order cX11_order 1 (some .int) :: (p_k_X11_order ++ fC)
theorem w_k_X11_order_good : w_k_X11_order.all goodWord = true := nb_allc (by decide +kernel) (nb_all2 p_k_X11_order_good fC_good)
theorem in_k_X11_order_X11 : ∀ w ∈ wsX110, w ∈ w_k_X11_order := fun _ h => List.mem_cons_of_mem _ (List.mem_append_right _ (List.mem_append_right _ (List.mem_append_right _ (List.mem_append_right _ (List.mem_append_right _ (List.mem_append_right _ (List.mem_append_right _ (List.mem_append_right _ (List.mem_append_right _ (List.mem_append_right _ (List.mem_append_right _ h)))))))))))
def v0_k_X11_order (cy : Nat → ClassId) (a : Nat → Nat) : va_W := [((a 0), .inr (10, [.ref (a 1), .ref (a 2), .ref (a 3), .ref (a 4), .ref (a 5), .ref (a 6), .ref (a 7), .ref (a 8), .ref (a 9), .ref (a 10), .int 0, .int 0, .int 0, .int 0, .ref (a 11), .ref (a 12), .ref (a 13), .int 0, .int 0, .int 0]))]
def v1_k_X11_order (cy : Nat → ClassId) (a : Nat → Nat) (r : Nat → Nat) : va_W := []
set_option maxHeartbeats 40000000 in
set_option maxRecDepth 100000 in
/-- order of a new object -/
theorem k_X11_order (l : Launch) (dC : Nat → ClassId) (dI : Nat → Nat → Nat) (cy : Nat → ClassId) (k : Nat → Nat) (a : Nat → Nat) (sz : Nat) : Met l yX11_order w_k_X11_order ({ frames := 0, cells := 0, slots := 0, locals := 0 }) (va_Pc [.ref (a 0)] (nInE (dC, dI) cy k sz (v0_k_X11_order cy a))) (va_Qi (fun (z : Int32) (_ : Nat → Nat) => z = 0) (fun r t => nOut (dC, dI) cy (va_A (v0_k_X11_order cy a) sz) (v1_k_X11_order cy a r) t) (va_A (v0_k_X11_order cy a) sz)) 0 0 (va_A (v0_k_X11_order cy a) sz) := by
  refine Met.ofW (cc := cX11_order) (maxL := 1) (ret := (some .int)) (by decide) rfl ?_
  intro p e s m args below meth c s₁ B hml hv
  obtain ⟨rfl, ⟨hsz, hP, hK, hD0, hG⟩, hE⟩ := hv
  have hx := B.exec
  have hb := B.bytes
  have hr := B.returns
  have hts := atoms_spec (ws := w_k_X11_order) B.pre
  have hown : s.vm.findClass RX11 = some m.cls := findClass_of_methodNamed B.named
  have hlocks := B.notSynchronized
  subst hsz
  have hD := hD0.self (sz := s.heap.size)
  generalize hAe : va_A (v0_k_X11_order cy a) s.heap.size = A at hD hE ⊢
  have hA : ∀ q : Nat, s.heap.size ≤ q → A q := fun q h => by rw [← hAe]; exact Or.inr h
  have hS : va_S A s.heap s.heap [] := va_S.rf
  have hP : va_P (dC, dI) nCl (v0_k_X11_order cy a) s.heap := hP
  have hl := lv_entry ([.ref (a 0)]) (n := 1) (Nat.le_of_ble_eq_true rfl)
  rw [lg_entry_eq]
  generalize (lg_sl ([.ref (a 0)]) ++ List.replicate (1 - (lg_sl ([.ref (a 0)])).length) Slot.unset).toArray = ls at hl ⊢
  have hl : lv_has ls 1 [(0, .ref (a 0))] := hl
  have hP : va_P (dC, dI) nCl [((a 0), .inr (10, [.ref (a 1), .ref (a 2), .ref (a 3), .ref (a 4), .ref (a 5), .ref (a 6), .ref (a 7), .ref (a 8), .ref (a 9), .ref (a 10), .int 0, .int 0, .int 0, .int 0, .ref (a 11), .ref (a 12), .ref (a 13), .int 0, .int 0, .int 0]))] s.heap := hP
  have hD : va_D A [((a 0), .inr (10, [.ref (a 1), .ref (a 2), .ref (a 3), .ref (a 4), .ref (a 5), .ref (a 6), .ref (a 7), .ref (a 8), .ref (a 9), .ref (a 10), .int 0, .int 0, .int 0, .int 0, .ref (a 11), .ref (a 12), .ref (a 13), .int 0, .int 0, .int 0]))] := hD
  refine lv_aload_n hx hb dX11_order_0 rfl (lv_at hl 0 rfl) ?_
  refine va_get (D := (dC, dI)) (ci := 10) (v := .int 0) (C := RX11) (T := TX11) (N := 20) hx hb hts in_k_X11_order_X11 hown hK hP 0 rfl rfl 18 (by decide) (hts _ (List.mem_cons_of_mem _ (List.mem_append_left _ (List.mem_append_left _ (List.mem_of_getElem? (i := 0) rfl))))) (fun _ h9 => h9) rfl dX11_order_1 ?_
  refine lv_iconst (v := 2) hx hb dX11_order_4 (by decide) ?_
  refine lv_icmp_ge (tgt := 12) hx hb dX11_order_5 (by decide) (fun c1 => False.elim (by revert c1; decide)) (fun _ => ?_)
  refine lv_iconst (v := 0) hx hb dX11_order_8 (by decide) ?_
  refine lv_goto (tgt := 31) hx hb dX11_order_9 (by decide) ?_
  have hP := hP.sub (ws' := []) [] rfl
  have hD := hD.sub (ws' := []) [] (by decide) rfl
  have hP : va_P (dC, dI) nCl (v1_k_X11_order cy a (fun _ => 0)) s.heap := hP
  have hD : va_D A (v1_k_X11_order cy a (fun _ => 0)) := hD
  exact W.iret (v := 0) hx hb hr (fun t ht hW => ⟨⟨0, (fun _ => 0), rfl, rfl, by rw [ht]; exact hP, va_K.moved hW.alike hK, hD⟩, hS.F ht⟩) hS.2.2 dX11_order_31
def o_k_X11_end_0 : List Cond := [.fieldLink RX11 72 "SetHouse" "lex" "LSetHouse$Lexer;"]
theorem o_k_X11_end_0_good : o_k_X11_end_0.all goodWord = true := by decide +kernel
def p_k_X11_end_0 : List Cond := o_k_X11_end_0 ++ []
theorem p_k_X11_end_0_good : p_k_X11_end_0.all goodWord = true := nb_all2 o_k_X11_end_0_good rfl
def w_k_X11_end_0 : List Cond := .code yX11_end cX11_end 2 none :: (p_k_X11_end_0 ++ fC)
theorem w_k_X11_end_0_good : w_k_X11_end_0.all goodWord = true := nb_allc (by decide +kernel) (nb_all2 p_k_X11_end_0_good fC_good)
theorem in_k_X11_end_0_X2 : ∀ w ∈ wsX20, w ∈ w_k_X11_end_0 := fun _ h => List.mem_cons_of_mem _ (List.mem_append_right _ (List.mem_append_right _ (List.mem_append_right _ (List.mem_append_left _ h))))
theorem in_k_X11_end_0_X11 : ∀ w ∈ wsX110, w ∈ w_k_X11_end_0 := fun _ h => List.mem_cons_of_mem _ (List.mem_append_right _ (List.mem_append_right _ (List.mem_append_right _ (List.mem_append_right _ (List.mem_append_right _ (List.mem_append_right _ (List.mem_append_right _ (List.mem_append_right _ (List.mem_append_right _ (List.mem_append_right _ (List.mem_append_right _ h)))))))))))
def v0_k_X11_end_0 (cy : Nat → ClassId) (a : Nat → Nat) : va_W := [((a 0), .inr (10, [.ref (a 2), .ref (a 3), .ref (a 4), .ref (a 5), .ref (a 6), .ref (a 7), .ref (a 1), .ref (a 8), .ref (a 9), .ref (a 10), .int 0, .int 0, .int 0, .int 0, .ref (a 11), .ref (a 12), .ref (a 13), .int 0, .int 0, .int 0])), ((a 1), .inr (2, [.ref (a 14), .int 0, .int 0, .int 0, .int 0, .long 0, .long 0, .ref (a 15)]))]
def v1_k_X11_end_0 (cy : Nat → ClassId) (a : Nat → Nat) (r : Nat → Nat) : va_W := []
set_option maxHeartbeats 40000000 in
set_option maxRecDepth 100000 in
/-- end of a new object -/
theorem k_X11_end_0 (l : Launch) (dC : Nat → ClassId) (dI : Nat → Nat → Nat) (cy : Nat → ClassId) (k : Nat → Nat) (a : Nat → Nat) (sz : Nat) : Met l yX11_end w_k_X11_end_0 ({ frames := 0, cells := 0, slots := 0, locals := 0 }) (va_Pc [.ref (a 0), .int 0] (nInE (dC, dI) cy k sz (v0_k_X11_end_0 cy a))) (va_Qv (fun _ : Nat → Nat => True) (fun r t => nOut (dC, dI) cy (va_A (v0_k_X11_end_0 cy a) sz) (v1_k_X11_end_0 cy a r) t) (va_A (v0_k_X11_end_0 cy a) sz)) 0 0 (va_A (v0_k_X11_end_0 cy a) sz) := by
  refine Met.ofW (cc := cX11_end) (maxL := 2) (ret := none) (by decide) rfl ?_
  intro p e s m args below meth c s₁ B hml hv
  obtain ⟨rfl, ⟨hsz, hP, hK, hD0, hG⟩, hE⟩ := hv
  have hx := B.exec
  have hb := B.bytes
  have hr := B.returns
  have hts := atoms_spec (ws := w_k_X11_end_0) B.pre
  have hown : s.vm.findClass RX11 = some m.cls := findClass_of_methodNamed B.named
  have hlocks := B.notSynchronized
  subst hsz
  have hD := hD0.self (sz := s.heap.size)
  generalize hAe : va_A (v0_k_X11_end_0 cy a) s.heap.size = A at hD hE ⊢
  have hA : ∀ q : Nat, s.heap.size ≤ q → A q := fun q h => by rw [← hAe]; exact Or.inr h
  have hS : va_S A s.heap s.heap [] := va_S.rf
  have hP : va_P (dC, dI) nCl (v0_k_X11_end_0 cy a) s.heap := hP
  have hl := lv_entry ([.ref (a 0), .int 0]) (n := 2) (Nat.le_of_ble_eq_true rfl)
  rw [lg_entry_eq]
  generalize (lg_sl ([.ref (a 0), .int 0]) ++ List.replicate (2 - (lg_sl ([.ref (a 0), .int 0])).length) Slot.unset).toArray = ls at hl ⊢
  have hl : lv_has ls 2 [(0, .ref (a 0)), (1, .int 0)] := hl
  have hP : va_P (dC, dI) nCl [((a 0), .inr (10, [.ref (a 2), .ref (a 3), .ref (a 4), .ref (a 5), .ref (a 6), .ref (a 7), .ref (a 1), .ref (a 8), .ref (a 9), .ref (a 10), .int 0, .int 0, .int 0, .int 0, .ref (a 11), .ref (a 12), .ref (a 13), .int 0, .int 0, .int 0])), ((a 1), .inr (2, [.ref (a 14), .int 0, .int 0, .int 0, .int 0, .long 0, .long 0, .ref (a 15)]))] s.heap := hP
  have hD : va_D A [((a 0), .inr (10, [.ref (a 2), .ref (a 3), .ref (a 4), .ref (a 5), .ref (a 6), .ref (a 7), .ref (a 1), .ref (a 8), .ref (a 9), .ref (a 10), .int 0, .int 0, .int 0, .int 0, .ref (a 11), .ref (a 12), .ref (a 13), .int 0, .int 0, .int 0])), ((a 1), .inr (2, [.ref (a 14), .int 0, .int 0, .int 0, .int 0, .long 0, .long 0, .ref (a 15)]))] := hD
  refine lv_iload_n hx hb dX11_end_0 rfl (lv_at hl 1 rfl) ?_
  refine lv_if_lt (tgt := 15) hx hb dX11_end_1 (by decide) (fun c1 => False.elim (by revert c1; decide)) (fun _ => ?_)
  refine lv_iload_n hx hb dX11_end_4 rfl (lv_at hl 1 rfl) ?_
  refine lv_aload_n hx hb dX11_end_5 rfl (lv_at hl 0 rfl) ?_
  refine va_get (D := (dC, dI)) (ci := 10) (v := .ref (a 1)) (C := RX11) (T := TX11) (N := 20) hx hb hts in_k_X11_end_0_X11 hown hK hP 0 rfl rfl 6 (by decide) (hts _ (List.mem_cons_of_mem _ (List.mem_append_left _ (List.mem_append_left _ (List.mem_of_getElem? (i := 0) rfl))))) (fun _ h9 => h9) rfl dX11_end_6 ?_
  refine va_getN (D := (dC, dI)) (ci := 2) (v := .int 0) (C := RX2) (T := TX2) (N := 8) hx hb hts in_k_X11_end_0_X2 hown hK hP 1 rfl rfl 1 (by decide) (va_Nw.use rfl (hG.1 _ (List.mem_of_getElem? (i := 51) rfl))) (fun _ h9 => h9) rfl dX11_end_9 ?_
  refine lv_icmp_le (tgt := 23) hx hb dX11_end_12 (by decide) (fun _ => ?_) (fun c1 => False.elim (by revert c1; decide))
  refine lv_aload_n hx hb dX11_end_23 rfl (lv_at hl 0 rfl) ?_
  refine va_get (D := (dC, dI)) (ci := 10) (v := .ref (a 1)) (C := RX11) (T := TX11) (N := 20) hx hb hts in_k_X11_end_0_X11 hown hK hP 0 rfl rfl 6 (by decide) (hts _ (List.mem_cons_of_mem _ (List.mem_append_left _ (List.mem_append_left _ (List.mem_of_getElem? (i := 0) rfl))))) (fun _ h9 => h9) rfl dX11_end_24 ?_
  refine lv_iload_n hx hb dX11_end_27 rfl (lv_at hl 1 rfl) ?_
  refine va_putN (D := (dC, dI)) (ci := 2) (v := .int 0) (ty := .int) (C := RX2) (T := TX2) (N := 8) hx hb hts in_k_X11_end_0_X2 tyX2 tyX2_ok nmX2 hown hK hP hD hS 1 rfl rfl 1 (by decide) (va_Nw.use rfl (hG.1 _ (List.mem_of_getElem? (i := 51) rfl))) (fun _ h9 => h9) rfl (by decide +kernel) rfl rfl (Nat.le_of_ble_eq_true rfl) dX11_end_28 (fun H locs hP hD hS => ?_)
  have hP : va_P (dC, dI) nCl [((a 0), .inr (10, [.ref (a 2), .ref (a 3), .ref (a 4), .ref (a 5), .ref (a 6), .ref (a 7), .ref (a 1), .ref (a 8), .ref (a 9), .ref (a 10), .int 0, .int 0, .int 0, .int 0, .ref (a 11), .ref (a 12), .ref (a 13), .int 0, .int 0, .int 0])), ((a 1), .inr (2, [.ref (a 14), .int 0, .int 0, .int 0, .int 0, .long 0, .long 0, .ref (a 15)]))] H := hP
  have hD : va_D A [((a 0), .inr (10, [.ref (a 2), .ref (a 3), .ref (a 4), .ref (a 5), .ref (a 6), .ref (a 7), .ref (a 1), .ref (a 8), .ref (a 9), .ref (a 10), .int 0, .int 0, .int 0, .int 0, .ref (a 11), .ref (a 12), .ref (a 13), .int 0, .int 0, .int 0])), ((a 1), .inr (2, [.ref (a 14), .int 0, .int 0, .int 0, .int 0, .long 0, .long 0, .ref (a 15)]))] := hD
  have hP := hP.sub (ws' := []) [] rfl
  have hD := hD.sub (ws' := []) [] (by decide) rfl
  have hP : va_P (dC, dI) nCl (v1_k_X11_end_0 cy a (fun _ => 0)) H := hP
  have hD : va_D A (v1_k_X11_end_0 cy a (fun _ => 0)) := hD
  exact W.vret hx hb hr (fun t ht hW => ⟨⟨(fun _ => 0), rfl, trivial, by rw [ht]; exact hP, va_K.moved hW.alike hK, hD⟩, hS.F ht⟩) hS.2.2 dX11_end_31
def o_k_X11_shape_0 : List Cond := [.fieldLink RX11 228 "SetHouse" "shownValues" "I"]
theorem o_k_X11_shape_0_good : o_k_X11_shape_0.all goodWord = true := by decide +kernel
def p_k_X11_shape_0 : List Cond := o_k_X11_shape_0 ++ []
theorem p_k_X11_shape_0_good : p_k_X11_shape_0.all goodWord = true := nb_all2 o_k_X11_shape_0_good rfl
def w_k_X11_shape_0 : List Cond := .code yX11_shape cX11_shape 4 (some .int) :: (p_k_X11_shape_0 ++ fC)
theorem w_k_X11_shape_0_good : w_k_X11_shape_0.all goodWord = true := nb_allc (by decide +kernel) (nb_all2 p_k_X11_shape_0_good fC_good)
theorem in_k_X11_shape_0_X11 : ∀ w ∈ wsX110, w ∈ w_k_X11_shape_0 := fun _ h => List.mem_cons_of_mem _ (List.mem_append_right _ (List.mem_append_right _ (List.mem_append_right _ (List.mem_append_right _ (List.mem_append_right _ (List.mem_append_right _ (List.mem_append_right _ (List.mem_append_right _ (List.mem_append_right _ (List.mem_append_right _ (List.mem_append_right _ h)))))))))))
def v0_k_X11_shape_0 (cy : Nat → ClassId) (a : Nat → Nat) : va_W := [((a 0), .inr (10, [.ref (a 1), .ref (a 2), .ref (a 3), .ref (a 4), .ref (a 5), .ref (a 6), .ref (a 7), .ref (a 8), .ref (a 9), .ref (a 10), .int 0, .int 0, .int 0, .int 0, .ref (a 11), .ref (a 12), .ref (a 13), .int 0, .int 0, .int 0]))]
def v1_k_X11_shape_0 (cy : Nat → ClassId) (a : Nat → Nat) (r : Nat → Nat) : va_W := []
set_option maxHeartbeats 40000000 in
set_option maxRecDepth 100000 in
/-- shape of a new object -/
theorem k_X11_shape_0 (l : Launch) (dC : Nat → ClassId) (dI : Nat → Nat → Nat) (cy : Nat → ClassId) (k : Nat → Nat) (a : Nat → Nat) (sz : Nat) : Met l yX11_shape w_k_X11_shape_0 ({ frames := 0, cells := 0, slots := 0, locals := 0 }) (va_Pc [.ref (a 0), .int 0] (nInE (dC, dI) cy k sz (v0_k_X11_shape_0 cy a))) (va_Qi (fun (z : Int32) (_ : Nat → Nat) => z = 0) (fun r t => nOut (dC, dI) cy (va_A (v0_k_X11_shape_0 cy a) sz) (v1_k_X11_shape_0 cy a r) t) (va_A (v0_k_X11_shape_0 cy a) sz)) 0 0 (va_A (v0_k_X11_shape_0 cy a) sz) := by
  refine Met.ofW (cc := cX11_shape) (maxL := 4) (ret := (some .int)) (by decide) rfl ?_
  intro p e s m args below meth c s₁ B hml hv
  obtain ⟨rfl, ⟨hsz, hP, hK, hD0, hG⟩, hE⟩ := hv
  have hx := B.exec
  have hb := B.bytes
  have hr := B.returns
  have hts := atoms_spec (ws := w_k_X11_shape_0) B.pre
  have hown : s.vm.findClass RX11 = some m.cls := findClass_of_methodNamed B.named
  have hlocks := B.notSynchronized
  subst hsz
  have hD := hD0.self (sz := s.heap.size)
  generalize hAe : va_A (v0_k_X11_shape_0 cy a) s.heap.size = A at hD hE ⊢
  have hA : ∀ q : Nat, s.heap.size ≤ q → A q := fun q h => by rw [← hAe]; exact Or.inr h
  have hS : va_S A s.heap s.heap [] := va_S.rf
  have hP : va_P (dC, dI) nCl (v0_k_X11_shape_0 cy a) s.heap := hP
  have hl := lv_entry ([.ref (a 0), .int 0]) (n := 4) (Nat.le_of_ble_eq_true rfl)
  rw [lg_entry_eq]
  generalize (lg_sl ([.ref (a 0), .int 0]) ++ List.replicate (4 - (lg_sl ([.ref (a 0), .int 0])).length) Slot.unset).toArray = ls at hl ⊢
  have hl : lv_has ls 4 [(0, .ref (a 0)), (1, .int 0)] := hl
  have hP : va_P (dC, dI) nCl [((a 0), .inr (10, [.ref (a 1), .ref (a 2), .ref (a 3), .ref (a 4), .ref (a 5), .ref (a 6), .ref (a 7), .ref (a 8), .ref (a 9), .ref (a 10), .int 0, .int 0, .int 0, .int 0, .ref (a 11), .ref (a 12), .ref (a 13), .int 0, .int 0, .int 0]))] s.heap := hP
  have hD : va_D A [((a 0), .inr (10, [.ref (a 1), .ref (a 2), .ref (a 3), .ref (a 4), .ref (a 5), .ref (a 6), .ref (a 7), .ref (a 8), .ref (a 9), .ref (a 10), .int 0, .int 0, .int 0, .int 0, .ref (a 11), .ref (a 12), .ref (a 13), .int 0, .int 0, .int 0]))] := hD
  refine lv_iload_n hx hb dX11_shape_0 rfl (lv_at hl 1 rfl) ?_
  refine lv_if_lt (tgt := 9) hx hb dX11_shape_1 (by decide) (fun c1 => False.elim (by revert c1; decide)) (fun _ => ?_)
  refine lv_iload_n hx hb dX11_shape_4 rfl (lv_at hl 1 rfl) ?_
  refine lv_iconst (v := 3) hx hb dX11_shape_5 (by decide) ?_
  refine lv_icmp_le (tgt := 17) hx hb dX11_shape_6 (by decide) (fun _ => ?_) (fun c1 => False.elim (by revert c1; decide))
  refine lv_iload_n hx hb dX11_shape_17 rfl (lv_at hl 1 rfl) ?_
  refine lv_iconst (v := 3) hx hb dX11_shape_18 (by decide) ?_
  refine lv_icmp_ne (tgt := 27) hx hb dX11_shape_19 (by decide) (fun _ => ?_) (fun c1 => False.elim (by revert c1; decide))
  refine lv_aload_n hx hb dX11_shape_27 rfl (lv_at hl 0 rfl) ?_
  refine va_get (D := (dC, dI)) (ci := 10) (v := .int 0) (C := RX11) (T := TX11) (N := 20) hx hb hts in_k_X11_shape_0_X11 hown hK hP 0 rfl rfl 18 (by decide) (hts _ (List.mem_cons_of_mem _ (List.mem_append_left _ (List.mem_append_left _ (List.mem_of_getElem? (i := 0) rfl))))) (fun _ h9 => h9) rfl dX11_shape_28 ?_
  refine lv_if_ne (tgt := 36) hx hb dX11_shape_31 (by decide) (fun c1 => False.elim (by revert c1; decide)) (fun _ => ?_)
  refine lv_iconst (v := 0) hx hb dX11_shape_34 (by decide) ?_
  have hP := hP.sub (ws' := []) [] rfl
  have hD := hD.sub (ws' := []) [] (by decide) rfl
  have hP : va_P (dC, dI) nCl (v1_k_X11_shape_0 cy a (fun _ => 0)) s.heap := hP
  have hD : va_D A (v1_k_X11_shape_0 cy a (fun _ => 0)) := hD
  exact W.iret (v := 0) hx hb hr (fun t ht hW => ⟨⟨0, (fun _ => 0), rfl, rfl, by rw [ht]; exact hP, va_K.moved hW.alike hK, hD⟩, hS.F ht⟩) hS.2.2 dX11_shape_35
def o_k_X11_shape_1 : List Cond := [.fieldLink RX11 228 "SetHouse" "shownValues" "I"]
theorem o_k_X11_shape_1_good : o_k_X11_shape_1.all goodWord = true := by decide +kernel
def p_k_X11_shape_1 : List Cond := o_k_X11_shape_1 ++ []
theorem p_k_X11_shape_1_good : p_k_X11_shape_1.all goodWord = true := nb_all2 o_k_X11_shape_1_good rfl
def w_k_X11_shape_1 : List Cond := .code yX11_shape cX11_shape 4 (some .int) :: (p_k_X11_shape_1 ++ fC)
theorem w_k_X11_shape_1_good : w_k_X11_shape_1.all goodWord = true := nb_allc (by decide +kernel) (nb_all2 p_k_X11_shape_1_good fC_good)
theorem in_k_X11_shape_1_X11 : ∀ w ∈ wsX110, w ∈ w_k_X11_shape_1 := fun _ h => List.mem_cons_of_mem _ (List.mem_append_right _ (List.mem_append_right _ (List.mem_append_right _ (List.mem_append_right _ (List.mem_append_right _ (List.mem_append_right _ (List.mem_append_right _ (List.mem_append_right _ (List.mem_append_right _ (List.mem_append_right _ (List.mem_append_right _ h)))))))))))
def v0_k_X11_shape_1 (cy : Nat → ClassId) (a : Nat → Nat) : va_W := [((a 0), .inr (10, [.ref (a 1), .ref (a 2), .ref (a 3), .ref (a 4), .ref (a 5), .ref (a 6), .ref (a 7), .ref (a 8), .ref (a 9), .ref (a 10), .int 0, .int 0, .int 0, .int 0, .ref (a 11), .ref (a 12), .ref (a 13), .int 0, .int 0, .int 0]))]
def v1_k_X11_shape_1 (cy : Nat → ClassId) (a : Nat → Nat) (r : Nat → Nat) : va_W := []
set_option maxHeartbeats 40000000 in
set_option maxRecDepth 100000 in
/-- shape of a new object -/
theorem k_X11_shape_1 (l : Launch) (dC : Nat → ClassId) (dI : Nat → Nat → Nat) (cy : Nat → ClassId) (k : Nat → Nat) (a : Nat → Nat) (sz : Nat) : Met l yX11_shape w_k_X11_shape_1 ({ frames := 0, cells := 0, slots := 0, locals := 0 }) (va_Pc [.ref (a 0), .int 1] (nInE (dC, dI) cy k sz (v0_k_X11_shape_1 cy a))) (va_Qi (fun (z : Int32) (_ : Nat → Nat) => z = 0) (fun r t => nOut (dC, dI) cy (va_A (v0_k_X11_shape_1 cy a) sz) (v1_k_X11_shape_1 cy a r) t) (va_A (v0_k_X11_shape_1 cy a) sz)) 0 0 (va_A (v0_k_X11_shape_1 cy a) sz) := by
  refine Met.ofW (cc := cX11_shape) (maxL := 4) (ret := (some .int)) (by decide) rfl ?_
  intro p e s m args below meth c s₁ B hml hv
  obtain ⟨rfl, ⟨hsz, hP, hK, hD0, hG⟩, hE⟩ := hv
  have hx := B.exec
  have hb := B.bytes
  have hr := B.returns
  have hts := atoms_spec (ws := w_k_X11_shape_1) B.pre
  have hown : s.vm.findClass RX11 = some m.cls := findClass_of_methodNamed B.named
  have hlocks := B.notSynchronized
  subst hsz
  have hD := hD0.self (sz := s.heap.size)
  generalize hAe : va_A (v0_k_X11_shape_1 cy a) s.heap.size = A at hD hE ⊢
  have hA : ∀ q : Nat, s.heap.size ≤ q → A q := fun q h => by rw [← hAe]; exact Or.inr h
  have hS : va_S A s.heap s.heap [] := va_S.rf
  have hP : va_P (dC, dI) nCl (v0_k_X11_shape_1 cy a) s.heap := hP
  have hl := lv_entry ([.ref (a 0), .int 1]) (n := 4) (Nat.le_of_ble_eq_true rfl)
  rw [lg_entry_eq]
  generalize (lg_sl ([.ref (a 0), .int 1]) ++ List.replicate (4 - (lg_sl ([.ref (a 0), .int 1])).length) Slot.unset).toArray = ls at hl ⊢
  have hl : lv_has ls 4 [(0, .ref (a 0)), (1, .int 1)] := hl
  have hP : va_P (dC, dI) nCl [((a 0), .inr (10, [.ref (a 1), .ref (a 2), .ref (a 3), .ref (a 4), .ref (a 5), .ref (a 6), .ref (a 7), .ref (a 8), .ref (a 9), .ref (a 10), .int 0, .int 0, .int 0, .int 0, .ref (a 11), .ref (a 12), .ref (a 13), .int 0, .int 0, .int 0]))] s.heap := hP
  have hD : va_D A [((a 0), .inr (10, [.ref (a 1), .ref (a 2), .ref (a 3), .ref (a 4), .ref (a 5), .ref (a 6), .ref (a 7), .ref (a 8), .ref (a 9), .ref (a 10), .int 0, .int 0, .int 0, .int 0, .ref (a 11), .ref (a 12), .ref (a 13), .int 0, .int 0, .int 0]))] := hD
  refine lv_iload_n hx hb dX11_shape_0 rfl (lv_at hl 1 rfl) ?_
  refine lv_if_lt (tgt := 9) hx hb dX11_shape_1 (by decide) (fun c1 => False.elim (by revert c1; decide)) (fun _ => ?_)
  refine lv_iload_n hx hb dX11_shape_4 rfl (lv_at hl 1 rfl) ?_
  refine lv_iconst (v := 3) hx hb dX11_shape_5 (by decide) ?_
  refine lv_icmp_le (tgt := 17) hx hb dX11_shape_6 (by decide) (fun _ => ?_) (fun c1 => False.elim (by revert c1; decide))
  refine lv_iload_n hx hb dX11_shape_17 rfl (lv_at hl 1 rfl) ?_
  refine lv_iconst (v := 3) hx hb dX11_shape_18 (by decide) ?_
  refine lv_icmp_ne (tgt := 27) hx hb dX11_shape_19 (by decide) (fun _ => ?_) (fun c1 => False.elim (by revert c1; decide))
  refine lv_aload_n hx hb dX11_shape_27 rfl (lv_at hl 0 rfl) ?_
  refine va_get (D := (dC, dI)) (ci := 10) (v := .int 0) (C := RX11) (T := TX11) (N := 20) hx hb hts in_k_X11_shape_1_X11 hown hK hP 0 rfl rfl 18 (by decide) (hts _ (List.mem_cons_of_mem _ (List.mem_append_left _ (List.mem_append_left _ (List.mem_of_getElem? (i := 0) rfl))))) (fun _ h9 => h9) rfl dX11_shape_28 ?_
  refine lv_if_ne (tgt := 36) hx hb dX11_shape_31 (by decide) (fun c1 => False.elim (by revert c1; decide)) (fun _ => ?_)
  refine lv_iconst (v := 0) hx hb dX11_shape_34 (by decide) ?_
  have hP := hP.sub (ws' := []) [] rfl
  have hD := hD.sub (ws' := []) [] (by decide) rfl
  have hP : va_P (dC, dI) nCl (v1_k_X11_shape_1 cy a (fun _ => 0)) s.heap := hP
  have hD : va_D A (v1_k_X11_shape_1 cy a (fun _ => 0)) := hD
  exact W.iret (v := 0) hx hb hr (fun t ht hW => ⟨⟨0, (fun _ => 0), rfl, rfl, by rw [ht]; exact hP, va_K.moved hW.alike hK, hD⟩, hS.F ht⟩) hS.2.2 dX11_shape_35
def o_k_X11_shape_2 : List Cond := [.fieldLink RX11 228 "SetHouse" "shownValues" "I"]
theorem o_k_X11_shape_2_good : o_k_X11_shape_2.all goodWord = true := by decide +kernel
def p_k_X11_shape_2 : List Cond := o_k_X11_shape_2 ++ []
theorem p_k_X11_shape_2_good : p_k_X11_shape_2.all goodWord = true := nb_all2 o_k_X11_shape_2_good rfl
def w_k_X11_shape_2 : List Cond := .code yX11_shape cX11_shape 4 (some .int) :: (p_k_X11_shape_2 ++ fC)
theorem w_k_X11_shape_2_good : w_k_X11_shape_2.all goodWord = true := nb_allc (by decide +kernel) (nb_all2 p_k_X11_shape_2_good fC_good)
theorem in_k_X11_shape_2_X11 : ∀ w ∈ wsX110, w ∈ w_k_X11_shape_2 := fun _ h => List.mem_cons_of_mem _ (List.mem_append_right _ (List.mem_append_right _ (List.mem_append_right _ (List.mem_append_right _ (List.mem_append_right _ (List.mem_append_right _ (List.mem_append_right _ (List.mem_append_right _ (List.mem_append_right _ (List.mem_append_right _ (List.mem_append_right _ h)))))))))))
def v0_k_X11_shape_2 (cy : Nat → ClassId) (a : Nat → Nat) : va_W := [((a 0), .inr (10, [.ref (a 1), .ref (a 2), .ref (a 3), .ref (a 4), .ref (a 5), .ref (a 6), .ref (a 7), .ref (a 8), .ref (a 9), .ref (a 10), .int 0, .int 0, .int 0, .int 0, .ref (a 11), .ref (a 12), .ref (a 13), .int 0, .int 0, .int 0]))]
def v1_k_X11_shape_2 (cy : Nat → ClassId) (a : Nat → Nat) (r : Nat → Nat) : va_W := []
set_option maxHeartbeats 40000000 in
set_option maxRecDepth 100000 in
/-- shape of a new object -/
theorem k_X11_shape_2 (l : Launch) (dC : Nat → ClassId) (dI : Nat → Nat → Nat) (cy : Nat → ClassId) (k : Nat → Nat) (a : Nat → Nat) (sz : Nat) : Met l yX11_shape w_k_X11_shape_2 ({ frames := 0, cells := 0, slots := 0, locals := 0 }) (va_Pc [.ref (a 0), .int 2] (nInE (dC, dI) cy k sz (v0_k_X11_shape_2 cy a))) (va_Qi (fun (z : Int32) (_ : Nat → Nat) => z = 0) (fun r t => nOut (dC, dI) cy (va_A (v0_k_X11_shape_2 cy a) sz) (v1_k_X11_shape_2 cy a r) t) (va_A (v0_k_X11_shape_2 cy a) sz)) 0 0 (va_A (v0_k_X11_shape_2 cy a) sz) := by
  refine Met.ofW (cc := cX11_shape) (maxL := 4) (ret := (some .int)) (by decide) rfl ?_
  intro p e s m args below meth c s₁ B hml hv
  obtain ⟨rfl, ⟨hsz, hP, hK, hD0, hG⟩, hE⟩ := hv
  have hx := B.exec
  have hb := B.bytes
  have hr := B.returns
  have hts := atoms_spec (ws := w_k_X11_shape_2) B.pre
  have hown : s.vm.findClass RX11 = some m.cls := findClass_of_methodNamed B.named
  have hlocks := B.notSynchronized
  subst hsz
  have hD := hD0.self (sz := s.heap.size)
  generalize hAe : va_A (v0_k_X11_shape_2 cy a) s.heap.size = A at hD hE ⊢
  have hA : ∀ q : Nat, s.heap.size ≤ q → A q := fun q h => by rw [← hAe]; exact Or.inr h
  have hS : va_S A s.heap s.heap [] := va_S.rf
  have hP : va_P (dC, dI) nCl (v0_k_X11_shape_2 cy a) s.heap := hP
  have hl := lv_entry ([.ref (a 0), .int 2]) (n := 4) (Nat.le_of_ble_eq_true rfl)
  rw [lg_entry_eq]
  generalize (lg_sl ([.ref (a 0), .int 2]) ++ List.replicate (4 - (lg_sl ([.ref (a 0), .int 2])).length) Slot.unset).toArray = ls at hl ⊢
  have hl : lv_has ls 4 [(0, .ref (a 0)), (1, .int 2)] := hl
  have hP : va_P (dC, dI) nCl [((a 0), .inr (10, [.ref (a 1), .ref (a 2), .ref (a 3), .ref (a 4), .ref (a 5), .ref (a 6), .ref (a 7), .ref (a 8), .ref (a 9), .ref (a 10), .int 0, .int 0, .int 0, .int 0, .ref (a 11), .ref (a 12), .ref (a 13), .int 0, .int 0, .int 0]))] s.heap := hP
  have hD : va_D A [((a 0), .inr (10, [.ref (a 1), .ref (a 2), .ref (a 3), .ref (a 4), .ref (a 5), .ref (a 6), .ref (a 7), .ref (a 8), .ref (a 9), .ref (a 10), .int 0, .int 0, .int 0, .int 0, .ref (a 11), .ref (a 12), .ref (a 13), .int 0, .int 0, .int 0]))] := hD
  refine lv_iload_n hx hb dX11_shape_0 rfl (lv_at hl 1 rfl) ?_
  refine lv_if_lt (tgt := 9) hx hb dX11_shape_1 (by decide) (fun c1 => False.elim (by revert c1; decide)) (fun _ => ?_)
  refine lv_iload_n hx hb dX11_shape_4 rfl (lv_at hl 1 rfl) ?_
  refine lv_iconst (v := 3) hx hb dX11_shape_5 (by decide) ?_
  refine lv_icmp_le (tgt := 17) hx hb dX11_shape_6 (by decide) (fun _ => ?_) (fun c1 => False.elim (by revert c1; decide))
  refine lv_iload_n hx hb dX11_shape_17 rfl (lv_at hl 1 rfl) ?_
  refine lv_iconst (v := 3) hx hb dX11_shape_18 (by decide) ?_
  refine lv_icmp_ne (tgt := 27) hx hb dX11_shape_19 (by decide) (fun _ => ?_) (fun c1 => False.elim (by revert c1; decide))
  refine lv_aload_n hx hb dX11_shape_27 rfl (lv_at hl 0 rfl) ?_
  refine va_get (D := (dC, dI)) (ci := 10) (v := .int 0) (C := RX11) (T := TX11) (N := 20) hx hb hts in_k_X11_shape_2_X11 hown hK hP 0 rfl rfl 18 (by decide) (hts _ (List.mem_cons_of_mem _ (List.mem_append_left _ (List.mem_append_left _ (List.mem_of_getElem? (i := 0) rfl))))) (fun _ h9 => h9) rfl dX11_shape_28 ?_
  refine lv_if_ne (tgt := 36) hx hb dX11_shape_31 (by decide) (fun c1 => False.elim (by revert c1; decide)) (fun _ => ?_)
  refine lv_iconst (v := 0) hx hb dX11_shape_34 (by decide) ?_
  have hP := hP.sub (ws' := []) [] rfl
  have hD := hD.sub (ws' := []) [] (by decide) rfl
  have hP : va_P (dC, dI) nCl (v1_k_X11_shape_2 cy a (fun _ => 0)) s.heap := hP
  have hD : va_D A (v1_k_X11_shape_2 cy a (fun _ => 0)) := hD
  exact W.iret (v := 0) hx hb hr (fun t ht hW => ⟨⟨0, (fun _ => 0), rfl, rfl, by rw [ht]; exact hP, va_K.moved hW.alike hK, hD⟩, hS.F ht⟩) hS.2.2 dX11_shape_35
def o_k_X11_shape_3 : List Cond := [.fieldLink RX11 298 "SetHouse" "latestWork" "I"]
theorem o_k_X11_shape_3_good : o_k_X11_shape_3.all goodWord = true := by decide +kernel
def p_k_X11_shape_3 : List Cond := o_k_X11_shape_3 ++ []
theorem p_k_X11_shape_3_good : p_k_X11_shape_3.all goodWord = true := nb_all2 o_k_X11_shape_3_good rfl
def w_k_X11_shape_3 : List Cond := .code yX11_shape cX11_shape 4 (some .int) :: (p_k_X11_shape_3 ++ fC)
theorem w_k_X11_shape_3_good : w_k_X11_shape_3.all goodWord = true := nb_allc (by decide +kernel) (nb_all2 p_k_X11_shape_3_good fC_good)
theorem in_k_X11_shape_3_X11 : ∀ w ∈ wsX110, w ∈ w_k_X11_shape_3 := fun _ h => List.mem_cons_of_mem _ (List.mem_append_right _ (List.mem_append_right _ (List.mem_append_right _ (List.mem_append_right _ (List.mem_append_right _ (List.mem_append_right _ (List.mem_append_right _ (List.mem_append_right _ (List.mem_append_right _ (List.mem_append_right _ (List.mem_append_right _ h)))))))))))
def v0_k_X11_shape_3 (cy : Nat → ClassId) (a : Nat → Nat) : va_W := [((a 0), .inr (10, [.ref (a 1), .ref (a 2), .ref (a 3), .ref (a 4), .ref (a 5), .ref (a 6), .ref (a 7), .ref (a 8), .ref (a 9), .ref (a 10), .int 0, .int 0, .int 0, .int 0, .ref (a 11), .ref (a 12), .ref (a 13), .int 0, .int 0, .int 0]))]
def v1_k_X11_shape_3 (cy : Nat → ClassId) (a : Nat → Nat) (r : Nat → Nat) : va_W := []
set_option maxHeartbeats 40000000 in
set_option maxRecDepth 100000 in
/-- shape of a new object -/
theorem k_X11_shape_3 (l : Launch) (dC : Nat → ClassId) (dI : Nat → Nat → Nat) (cy : Nat → ClassId) (k : Nat → Nat) (a : Nat → Nat) (sz : Nat) : Met l yX11_shape w_k_X11_shape_3 ({ frames := 0, cells := 0, slots := 0, locals := 0 }) (va_Pc [.ref (a 0), .int 3] (nInE (dC, dI) cy k sz (v0_k_X11_shape_3 cy a))) (va_Qi (fun (z : Int32) (_ : Nat → Nat) => z = 0) (fun r t => nOut (dC, dI) cy (va_A (v0_k_X11_shape_3 cy a) sz) (v1_k_X11_shape_3 cy a r) t) (va_A (v0_k_X11_shape_3 cy a) sz)) 0 0 (va_A (v0_k_X11_shape_3 cy a) sz) := by
  refine Met.ofW (cc := cX11_shape) (maxL := 4) (ret := (some .int)) (by decide) rfl ?_
  intro p e s m args below meth c s₁ B hml hv
  obtain ⟨rfl, ⟨hsz, hP, hK, hD0, hG⟩, hE⟩ := hv
  have hx := B.exec
  have hb := B.bytes
  have hr := B.returns
  have hts := atoms_spec (ws := w_k_X11_shape_3) B.pre
  have hown : s.vm.findClass RX11 = some m.cls := findClass_of_methodNamed B.named
  have hlocks := B.notSynchronized
  subst hsz
  have hD := hD0.self (sz := s.heap.size)
  generalize hAe : va_A (v0_k_X11_shape_3 cy a) s.heap.size = A at hD hE ⊢
  have hA : ∀ q : Nat, s.heap.size ≤ q → A q := fun q h => by rw [← hAe]; exact Or.inr h
  have hS : va_S A s.heap s.heap [] := va_S.rf
  have hP : va_P (dC, dI) nCl (v0_k_X11_shape_3 cy a) s.heap := hP
  have hl := lv_entry ([.ref (a 0), .int 3]) (n := 4) (Nat.le_of_ble_eq_true rfl)
  rw [lg_entry_eq]
  generalize (lg_sl ([.ref (a 0), .int 3]) ++ List.replicate (4 - (lg_sl ([.ref (a 0), .int 3])).length) Slot.unset).toArray = ls at hl ⊢
  have hl : lv_has ls 4 [(0, .ref (a 0)), (1, .int 3)] := hl
  have hP : va_P (dC, dI) nCl [((a 0), .inr (10, [.ref (a 1), .ref (a 2), .ref (a 3), .ref (a 4), .ref (a 5), .ref (a 6), .ref (a 7), .ref (a 8), .ref (a 9), .ref (a 10), .int 0, .int 0, .int 0, .int 0, .ref (a 11), .ref (a 12), .ref (a 13), .int 0, .int 0, .int 0]))] s.heap := hP
  have hD : va_D A [((a 0), .inr (10, [.ref (a 1), .ref (a 2), .ref (a 3), .ref (a 4), .ref (a 5), .ref (a 6), .ref (a 7), .ref (a 8), .ref (a 9), .ref (a 10), .int 0, .int 0, .int 0, .int 0, .ref (a 11), .ref (a 12), .ref (a 13), .int 0, .int 0, .int 0]))] := hD
  refine lv_iload_n hx hb dX11_shape_0 rfl (lv_at hl 1 rfl) ?_
  refine lv_if_lt (tgt := 9) hx hb dX11_shape_1 (by decide) (fun c1 => False.elim (by revert c1; decide)) (fun _ => ?_)
  refine lv_iload_n hx hb dX11_shape_4 rfl (lv_at hl 1 rfl) ?_
  refine lv_iconst (v := 3) hx hb dX11_shape_5 (by decide) ?_
  refine lv_icmp_le (tgt := 17) hx hb dX11_shape_6 (by decide) (fun _ => ?_) (fun c1 => False.elim (by revert c1; decide))
  refine lv_iload_n hx hb dX11_shape_17 rfl (lv_at hl 1 rfl) ?_
  refine lv_iconst (v := 3) hx hb dX11_shape_18 (by decide) ?_
  refine lv_icmp_ne (tgt := 27) hx hb dX11_shape_19 (by decide) (fun c1 => False.elim (by revert c1; decide)) (fun _ => ?_)
  refine lv_aload_n hx hb dX11_shape_22 rfl (lv_at hl 0 rfl) ?_
  refine va_get (D := (dC, dI)) (ci := 10) (v := .int 0) (C := RX11) (T := TX11) (N := 20) hx hb hts in_k_X11_shape_3_X11 hown hK hP 0 rfl rfl 19 (by decide) (hts _ (List.mem_cons_of_mem _ (List.mem_append_left _ (List.mem_append_left _ (List.mem_of_getElem? (i := 0) rfl))))) (fun _ h9 => h9) rfl dX11_shape_23 ?_
  have hP := hP.sub (ws' := []) [] rfl
  have hD := hD.sub (ws' := []) [] (by decide) rfl
  have hP : va_P (dC, dI) nCl (v1_k_X11_shape_3 cy a (fun _ => 0)) s.heap := hP
  have hD : va_D A (v1_k_X11_shape_3 cy a (fun _ => 0)) := hD
  exact W.iret (v := 0) hx hb hr (fun t ht hW => ⟨⟨0, (fun _ => 0), rfl, rfl, by rw [ht]; exact hP, va_K.moved hW.alike hK, hD⟩, hS.F ht⟩) hS.2.2 dX11_shape_26
def o_k_X11_count_0 : List Cond := [.fieldLink RX11 72 "SetHouse" "lex" "LSetHouse$Lexer;"]
theorem o_k_X11_count_0_good : o_k_X11_count_0.all goodWord = true := by decide +kernel
def p_k_X11_count_0 : List Cond := o_k_X11_count_0 ++ []
theorem p_k_X11_count_0_good : p_k_X11_count_0.all goodWord = true := nb_all2 o_k_X11_count_0_good rfl
def w_k_X11_count_0 : List Cond := .code yX11_count cX11_count 2 (some .int) :: (p_k_X11_count_0 ++ fC)
theorem w_k_X11_count_0_good : w_k_X11_count_0.all goodWord = true := nb_allc (by decide +kernel) (nb_all2 p_k_X11_count_0_good fC_good)
theorem in_k_X11_count_0_X2 : ∀ w ∈ wsX20, w ∈ w_k_X11_count_0 := fun _ h => List.mem_cons_of_mem _ (List.mem_append_right _ (List.mem_append_right _ (List.mem_append_right _ (List.mem_append_left _ h))))
theorem in_k_X11_count_0_X11 : ∀ w ∈ wsX110, w ∈ w_k_X11_count_0 := fun _ h => List.mem_cons_of_mem _ (List.mem_append_right _ (List.mem_append_right _ (List.mem_append_right _ (List.mem_append_right _ (List.mem_append_right _ (List.mem_append_right _ (List.mem_append_right _ (List.mem_append_right _ (List.mem_append_right _ (List.mem_append_right _ (List.mem_append_right _ h)))))))))))
def v0_k_X11_count_0 (cy : Nat → ClassId) (a : Nat → Nat) : va_W := [((a 0), .inr (10, [.ref (a 2), .ref (a 3), .ref (a 4), .ref (a 5), .ref (a 6), .ref (a 7), .ref (a 1), .ref (a 8), .ref (a 9), .ref (a 10), .int 0, .int 0, .int 0, .int 0, .ref (a 11), .ref (a 12), .ref (a 13), .int 0, .int 0, .int 0])), ((a 1), .inr (2, [.ref (a 14), .int 0, .int 0, .int 0, .int 0, .long 0, .long 0, .ref (a 15)]))]
def v1_k_X11_count_0 (cy : Nat → ClassId) (a : Nat → Nat) (r : Nat → Nat) : va_W := []
set_option maxHeartbeats 40000000 in
set_option maxRecDepth 100000 in
/-- count of a new object -/
theorem k_X11_count_0 (l : Launch) (dC : Nat → ClassId) (dI : Nat → Nat → Nat) (cy : Nat → ClassId) (k : Nat → Nat) (a : Nat → Nat) (sz : Nat) : Met l yX11_count w_k_X11_count_0 ({ frames := 0, cells := 0, slots := 0, locals := 0 }) (va_Pc [.ref (a 0), .int 0] (nInE (dC, dI) cy k sz (v0_k_X11_count_0 cy a))) (va_Qi (fun (z : Int32) (_ : Nat → Nat) => z = 0) (fun r t => nOut (dC, dI) cy (va_A (v0_k_X11_count_0 cy a) sz) (v1_k_X11_count_0 cy a r) t) (va_A (v0_k_X11_count_0 cy a) sz)) 0 0 (va_A (v0_k_X11_count_0 cy a) sz) := by
  refine Met.ofW (cc := cX11_count) (maxL := 2) (ret := (some .int)) (by decide) rfl ?_
  intro p e s m args below meth c s₁ B hml hv
  obtain ⟨rfl, ⟨hsz, hP, hK, hD0, hG⟩, hE⟩ := hv
  have hx := B.exec
  have hb := B.bytes
  have hr := B.returns
  have hts := atoms_spec (ws := w_k_X11_count_0) B.pre
  have hown : s.vm.findClass RX11 = some m.cls := findClass_of_methodNamed B.named
  have hlocks := B.notSynchronized
  subst hsz
  have hD := hD0.self (sz := s.heap.size)
  generalize hAe : va_A (v0_k_X11_count_0 cy a) s.heap.size = A at hD hE ⊢
  have hA : ∀ q : Nat, s.heap.size ≤ q → A q := fun q h => by rw [← hAe]; exact Or.inr h
  have hS : va_S A s.heap s.heap [] := va_S.rf
  have hP : va_P (dC, dI) nCl (v0_k_X11_count_0 cy a) s.heap := hP
  have hl := lv_entry ([.ref (a 0), .int 0]) (n := 2) (Nat.le_of_ble_eq_true rfl)
  rw [lg_entry_eq]
  generalize (lg_sl ([.ref (a 0), .int 0]) ++ List.replicate (2 - (lg_sl ([.ref (a 0), .int 0])).length) Slot.unset).toArray = ls at hl ⊢
  have hl : lv_has ls 2 [(0, .ref (a 0)), (1, .int 0)] := hl
  have hP : va_P (dC, dI) nCl [((a 0), .inr (10, [.ref (a 2), .ref (a 3), .ref (a 4), .ref (a 5), .ref (a 6), .ref (a 7), .ref (a 1), .ref (a 8), .ref (a 9), .ref (a 10), .int 0, .int 0, .int 0, .int 0, .ref (a 11), .ref (a 12), .ref (a 13), .int 0, .int 0, .int 0])), ((a 1), .inr (2, [.ref (a 14), .int 0, .int 0, .int 0, .int 0, .long 0, .long 0, .ref (a 15)]))] s.heap := hP
  have hD : va_D A [((a 0), .inr (10, [.ref (a 2), .ref (a 3), .ref (a 4), .ref (a 5), .ref (a 6), .ref (a 7), .ref (a 1), .ref (a 8), .ref (a 9), .ref (a 10), .int 0, .int 0, .int 0, .int 0, .ref (a 11), .ref (a 12), .ref (a 13), .int 0, .int 0, .int 0])), ((a 1), .inr (2, [.ref (a 14), .int 0, .int 0, .int 0, .int 0, .long 0, .long 0, .ref (a 15)]))] := hD
  refine lv_iload_n hx hb dX11_count_0 rfl (lv_at hl 1 rfl) ?_
  refine lv_tableIn (off := 35) (tgt := 36) hx hb dX11_count_1 (by decide) (by decide) rfl (by decide) ?_
  refine lv_aload_n hx hb dX11_count_36 rfl (lv_at hl 0 rfl) ?_
  refine va_get (D := (dC, dI)) (ci := 10) (v := .ref (a 1)) (C := RX11) (T := TX11) (N := 20) hx hb hts in_k_X11_count_0_X11 hown hK hP 0 rfl rfl 6 (by decide) (hts _ (List.mem_cons_of_mem _ (List.mem_append_left _ (List.mem_append_left _ (List.mem_of_getElem? (i := 0) rfl))))) (fun _ h9 => h9) rfl dX11_count_37 ?_
  refine va_getN (D := (dC, dI)) (ci := 2) (v := .int 0) (C := RX2) (T := TX2) (N := 8) hx hb hts in_k_X11_count_0_X2 hown hK hP 1 rfl rfl 1 (by decide) (va_Nw.use rfl (hG.1 _ (List.mem_of_getElem? (i := 51) rfl))) (fun _ h9 => h9) rfl dX11_count_40 ?_
  have hP := hP.sub (ws' := []) [] rfl
  have hD := hD.sub (ws' := []) [] (by decide) rfl
  have hP : va_P (dC, dI) nCl (v1_k_X11_count_0 cy a (fun _ => 0)) s.heap := hP
  have hD : va_D A (v1_k_X11_count_0 cy a (fun _ => 0)) := hD
  exact W.iret (v := 0) hx hb hr (fun t ht hW => ⟨⟨0, (fun _ => 0), rfl, rfl, by rw [ht]; exact hP, va_K.moved hW.alike hK, hD⟩, hS.F ht⟩) hS.2.2 dX11_count_43
def o_k_X11_count_1 : List Cond := [.fieldLink RX11 88 "SetHouse" "current" "LSetHouse$Program;"]
theorem o_k_X11_count_1_good : o_k_X11_count_1.all goodWord = true := by decide +kernel
def p_k_X11_count_1 : List Cond := o_k_X11_count_1 ++ []
theorem p_k_X11_count_1_good : p_k_X11_count_1.all goodWord = true := nb_all2 o_k_X11_count_1_good rfl
def w_k_X11_count_1 : List Cond := .code yX11_count cX11_count 2 (some .int) :: (p_k_X11_count_1 ++ fC)
theorem w_k_X11_count_1_good : w_k_X11_count_1.all goodWord = true := nb_allc (by decide +kernel) (nb_all2 p_k_X11_count_1_good fC_good)
theorem in_k_X11_count_1_X7 : ∀ w ∈ wsX70, w ∈ w_k_X11_count_1 := fun _ h => List.mem_cons_of_mem _ (List.mem_append_right _ (List.mem_append_right _ (List.mem_append_right _ (List.mem_append_right _ (List.mem_append_right _ (List.mem_append_right _ (List.mem_append_right _ (List.mem_append_left _ h))))))))
theorem in_k_X11_count_1_X11 : ∀ w ∈ wsX110, w ∈ w_k_X11_count_1 := fun _ h => List.mem_cons_of_mem _ (List.mem_append_right _ (List.mem_append_right _ (List.mem_append_right _ (List.mem_append_right _ (List.mem_append_right _ (List.mem_append_right _ (List.mem_append_right _ (List.mem_append_right _ (List.mem_append_right _ (List.mem_append_right _ (List.mem_append_right _ h)))))))))))
def v0_k_X11_count_1 (cy : Nat → ClassId) (a : Nat → Nat) : va_W := [((a 0), .inr (10, [.ref (a 2), .ref (a 3), .ref (a 4), .ref (a 5), .ref (a 6), .ref (a 7), .ref (a 8), .ref (a 9), .ref (a 1), .ref (a 10), .int 0, .int 0, .int 0, .int 0, .ref (a 11), .ref (a 12), .ref (a 13), .int 0, .int 0, .int 0])), ((a 1), .inr (6, [.ref (a 14), .int 0, .int 0, .int 0, .int 0, .ref (a 15), .ref (a 16), .ref (a 17), .ref (a 18), .ref (a 19), .ref (a 20), .int 0, .int 0, .ref (a 21), .ref (a 22), .ref (a 23), .ref (a 24), .ref (a 25), .ref (a 26), .int 0]))]
def v1_k_X11_count_1 (cy : Nat → ClassId) (a : Nat → Nat) (r : Nat → Nat) : va_W := []
set_option maxHeartbeats 40000000 in
set_option maxRecDepth 100000 in
/-- count of a new object -/
theorem k_X11_count_1 (l : Launch) (dC : Nat → ClassId) (dI : Nat → Nat → Nat) (cy : Nat → ClassId) (k : Nat → Nat) (a : Nat → Nat) (sz : Nat) : Met l yX11_count w_k_X11_count_1 ({ frames := 0, cells := 0, slots := 0, locals := 0 }) (va_Pc [.ref (a 0), .int 1] (nInE (dC, dI) cy k sz (v0_k_X11_count_1 cy a))) (va_Qi (fun (z : Int32) (_ : Nat → Nat) => z = 0) (fun r t => nOut (dC, dI) cy (va_A (v0_k_X11_count_1 cy a) sz) (v1_k_X11_count_1 cy a r) t) (va_A (v0_k_X11_count_1 cy a) sz)) 0 0 (va_A (v0_k_X11_count_1 cy a) sz) := by
  refine Met.ofW (cc := cX11_count) (maxL := 2) (ret := (some .int)) (by decide) rfl ?_
  intro p e s m args below meth c s₁ B hml hv
  obtain ⟨rfl, ⟨hsz, hP, hK, hD0, hG⟩, hE⟩ := hv
  have hx := B.exec
  have hb := B.bytes
  have hr := B.returns
  have hts := atoms_spec (ws := w_k_X11_count_1) B.pre
  have hown : s.vm.findClass RX11 = some m.cls := findClass_of_methodNamed B.named
  have hlocks := B.notSynchronized
  subst hsz
  have hD := hD0.self (sz := s.heap.size)
  generalize hAe : va_A (v0_k_X11_count_1 cy a) s.heap.size = A at hD hE ⊢
  have hA : ∀ q : Nat, s.heap.size ≤ q → A q := fun q h => by rw [← hAe]; exact Or.inr h
  have hS : va_S A s.heap s.heap [] := va_S.rf
  have hP : va_P (dC, dI) nCl (v0_k_X11_count_1 cy a) s.heap := hP
  have hl := lv_entry ([.ref (a 0), .int 1]) (n := 2) (Nat.le_of_ble_eq_true rfl)
  rw [lg_entry_eq]
  generalize (lg_sl ([.ref (a 0), .int 1]) ++ List.replicate (2 - (lg_sl ([.ref (a 0), .int 1])).length) Slot.unset).toArray = ls at hl ⊢
  have hl : lv_has ls 2 [(0, .ref (a 0)), (1, .int 1)] := hl
  have hP : va_P (dC, dI) nCl [((a 0), .inr (10, [.ref (a 2), .ref (a 3), .ref (a 4), .ref (a 5), .ref (a 6), .ref (a 7), .ref (a 8), .ref (a 9), .ref (a 1), .ref (a 10), .int 0, .int 0, .int 0, .int 0, .ref (a 11), .ref (a 12), .ref (a 13), .int 0, .int 0, .int 0])), ((a 1), .inr (6, [.ref (a 14), .int 0, .int 0, .int 0, .int 0, .ref (a 15), .ref (a 16), .ref (a 17), .ref (a 18), .ref (a 19), .ref (a 20), .int 0, .int 0, .ref (a 21), .ref (a 22), .ref (a 23), .ref (a 24), .ref (a 25), .ref (a 26), .int 0]))] s.heap := hP
  have hD : va_D A [((a 0), .inr (10, [.ref (a 2), .ref (a 3), .ref (a 4), .ref (a 5), .ref (a 6), .ref (a 7), .ref (a 8), .ref (a 9), .ref (a 1), .ref (a 10), .int 0, .int 0, .int 0, .int 0, .ref (a 11), .ref (a 12), .ref (a 13), .int 0, .int 0, .int 0])), ((a 1), .inr (6, [.ref (a 14), .int 0, .int 0, .int 0, .int 0, .ref (a 15), .ref (a 16), .ref (a 17), .ref (a 18), .ref (a 19), .ref (a 20), .int 0, .int 0, .ref (a 21), .ref (a 22), .ref (a 23), .ref (a 24), .ref (a 25), .ref (a 26), .int 0]))] := hD
  refine lv_iload_n hx hb dX11_count_0 rfl (lv_at hl 1 rfl) ?_
  refine lv_tableIn (off := 43) (tgt := 44) hx hb dX11_count_1 (by decide) (by decide) rfl (by decide) ?_
  refine lv_aload_n hx hb dX11_count_44 rfl (lv_at hl 0 rfl) ?_
  refine va_get (D := (dC, dI)) (ci := 10) (v := .ref (a 1)) (C := RX11) (T := TX11) (N := 20) hx hb hts in_k_X11_count_1_X11 hown hK hP 0 rfl rfl 8 (by decide) (hts _ (List.mem_cons_of_mem _ (List.mem_append_left _ (List.mem_append_left _ (List.mem_of_getElem? (i := 0) rfl))))) (fun _ h9 => h9) rfl dX11_count_45 ?_
  refine va_getN (D := (dC, dI)) (ci := 6) (v := .int 0) (C := RX7) (T := TX7) (N := 20) hx hb hts in_k_X11_count_1_X7 hown hK hP 1 rfl rfl 3 (by decide) (va_Nw.use rfl (hG.1 _ (List.mem_of_getElem? (i := 72) rfl))) (fun _ h9 => h9) rfl dX11_count_48 ?_
  have hP := hP.sub (ws' := []) [] rfl
  have hD := hD.sub (ws' := []) [] (by decide) rfl
  have hP : va_P (dC, dI) nCl (v1_k_X11_count_1 cy a (fun _ => 0)) s.heap := hP
  have hD : va_D A (v1_k_X11_count_1 cy a (fun _ => 0)) := hD
  exact W.iret (v := 0) hx hb hr (fun t ht hW => ⟨⟨0, (fun _ => 0), rfl, rfl, by rw [ht]; exact hP, va_K.moved hW.alike hK, hD⟩, hS.F ht⟩) hS.2.2 dX11_count_51
def o_k_X11_count_2 : List Cond := [.fieldLink RX11 88 "SetHouse" "current" "LSetHouse$Program;"]
theorem o_k_X11_count_2_good : o_k_X11_count_2.all goodWord = true := by decide +kernel
def p_k_X11_count_2 : List Cond := o_k_X11_count_2 ++ []
theorem p_k_X11_count_2_good : p_k_X11_count_2.all goodWord = true := nb_all2 o_k_X11_count_2_good rfl
def w_k_X11_count_2 : List Cond := .code yX11_count cX11_count 2 (some .int) :: (p_k_X11_count_2 ++ fC)
theorem w_k_X11_count_2_good : w_k_X11_count_2.all goodWord = true := nb_allc (by decide +kernel) (nb_all2 p_k_X11_count_2_good fC_good)
theorem in_k_X11_count_2_X7 : ∀ w ∈ wsX70, w ∈ w_k_X11_count_2 := fun _ h => List.mem_cons_of_mem _ (List.mem_append_right _ (List.mem_append_right _ (List.mem_append_right _ (List.mem_append_right _ (List.mem_append_right _ (List.mem_append_right _ (List.mem_append_right _ (List.mem_append_left _ h))))))))
theorem in_k_X11_count_2_X11 : ∀ w ∈ wsX110, w ∈ w_k_X11_count_2 := fun _ h => List.mem_cons_of_mem _ (List.mem_append_right _ (List.mem_append_right _ (List.mem_append_right _ (List.mem_append_right _ (List.mem_append_right _ (List.mem_append_right _ (List.mem_append_right _ (List.mem_append_right _ (List.mem_append_right _ (List.mem_append_right _ (List.mem_append_right _ h)))))))))))
def v0_k_X11_count_2 (cy : Nat → ClassId) (a : Nat → Nat) : va_W := [((a 0), .inr (10, [.ref (a 3), .ref (a 4), .ref (a 5), .ref (a 6), .ref (a 7), .ref (a 8), .ref (a 9), .ref (a 10), .ref (a 1), .ref (a 11), .int 0, .int 0, .int 0, .int 0, .ref (a 12), .ref (a 13), .ref (a 14), .int 0, .int 0, .int 0])), ((a 1), .inr (6, [.ref (a 15), .int 0, .int 0, .int 0, .int 0, .ref (a 16), .ref (a 17), .ref (a 18), .ref (a 19), .ref (a 20), .ref (a 21), .int 0, .int 0, .ref (a 22), .ref (a 23), .ref (a 24), .ref (a 2), .ref (a 25), .ref (a 26), .int 0])), ((a 2), .inl (cy 1, 42, .inl nZ))]
def v1_k_X11_count_2 (cy : Nat → ClassId) (a : Nat → Nat) (r : Nat → Nat) : va_W := []
set_option maxHeartbeats 40000000 in
set_option maxRecDepth 100000 in
/-- count of a new object -/
theorem k_X11_count_2 (l : Launch) (dC : Nat → ClassId) (dI : Nat → Nat → Nat) (cy : Nat → ClassId) (k : Nat → Nat) (a : Nat → Nat) (sz : Nat) : Met l yX11_count w_k_X11_count_2 ({ frames := 0, cells := 0, slots := 0, locals := 0 }) (va_Pc [.ref (a 0), .int 2] (nInE (dC, dI) cy k sz (v0_k_X11_count_2 cy a))) (va_Qi (fun (z : Int32) (_ : Nat → Nat) => z = 0) (fun r t => nOut (dC, dI) cy (va_A (v0_k_X11_count_2 cy a) sz) (v1_k_X11_count_2 cy a r) t) (va_A (v0_k_X11_count_2 cy a) sz)) 0 0 (va_A (v0_k_X11_count_2 cy a) sz) := by
  refine Met.ofW (cc := cX11_count) (maxL := 2) (ret := (some .int)) (by decide) rfl ?_
  intro p e s m args below meth c s₁ B hml hv
  obtain ⟨rfl, ⟨hsz, hP, hK, hD0, hG⟩, hE⟩ := hv
  have hx := B.exec
  have hb := B.bytes
  have hr := B.returns
  have hts := atoms_spec (ws := w_k_X11_count_2) B.pre
  have hown : s.vm.findClass RX11 = some m.cls := findClass_of_methodNamed B.named
  have hlocks := B.notSynchronized
  subst hsz
  have hD := hD0.self (sz := s.heap.size)
  generalize hAe : va_A (v0_k_X11_count_2 cy a) s.heap.size = A at hD hE ⊢
  have hA : ∀ q : Nat, s.heap.size ≤ q → A q := fun q h => by rw [← hAe]; exact Or.inr h
  have hS : va_S A s.heap s.heap [] := va_S.rf
  have hP : va_P (dC, dI) nCl (v0_k_X11_count_2 cy a) s.heap := hP
  have hl := lv_entry ([.ref (a 0), .int 2]) (n := 2) (Nat.le_of_ble_eq_true rfl)
  rw [lg_entry_eq]
  generalize (lg_sl ([.ref (a 0), .int 2]) ++ List.replicate (2 - (lg_sl ([.ref (a 0), .int 2])).length) Slot.unset).toArray = ls at hl ⊢
  have hl : lv_has ls 2 [(0, .ref (a 0)), (1, .int 2)] := hl
  have hP : va_P (dC, dI) nCl [((a 0), .inr (10, [.ref (a 3), .ref (a 4), .ref (a 5), .ref (a 6), .ref (a 7), .ref (a 8), .ref (a 9), .ref (a 10), .ref (a 1), .ref (a 11), .int 0, .int 0, .int 0, .int 0, .ref (a 12), .ref (a 13), .ref (a 14), .int 0, .int 0, .int 0])), ((a 1), .inr (6, [.ref (a 15), .int 0, .int 0, .int 0, .int 0, .ref (a 16), .ref (a 17), .ref (a 18), .ref (a 19), .ref (a 20), .ref (a 21), .int 0, .int 0, .ref (a 22), .ref (a 23), .ref (a 24), .ref (a 2), .ref (a 25), .ref (a 26), .int 0])), ((a 2), .inl (cy 1, 42, .inl nZ))] s.heap := hP
  have hD : va_D A [((a 0), .inr (10, [.ref (a 3), .ref (a 4), .ref (a 5), .ref (a 6), .ref (a 7), .ref (a 8), .ref (a 9), .ref (a 10), .ref (a 1), .ref (a 11), .int 0, .int 0, .int 0, .int 0, .ref (a 12), .ref (a 13), .ref (a 14), .int 0, .int 0, .int 0])), ((a 1), .inr (6, [.ref (a 15), .int 0, .int 0, .int 0, .int 0, .ref (a 16), .ref (a 17), .ref (a 18), .ref (a 19), .ref (a 20), .ref (a 21), .int 0, .int 0, .ref (a 22), .ref (a 23), .ref (a 24), .ref (a 2), .ref (a 25), .ref (a 26), .int 0])), ((a 2), .inl (cy 1, 42, .inl nZ))] := hD
  refine lv_iload_n hx hb dX11_count_0 rfl (lv_at hl 1 rfl) ?_
  refine lv_tableIn (off := 51) (tgt := 52) hx hb dX11_count_1 (by decide) (by decide) rfl (by decide) ?_
  refine lv_aload_n hx hb dX11_count_52 rfl (lv_at hl 0 rfl) ?_
  refine va_get (D := (dC, dI)) (ci := 10) (v := .ref (a 1)) (C := RX11) (T := TX11) (N := 20) hx hb hts in_k_X11_count_2_X11 hown hK hP 0 rfl rfl 8 (by decide) (hts _ (List.mem_cons_of_mem _ (List.mem_append_left _ (List.mem_append_left _ (List.mem_of_getElem? (i := 0) rfl))))) (fun _ h9 => h9) rfl dX11_count_53 ?_
  refine va_getN (D := (dC, dI)) (ci := 6) (v := .ref (a 2)) (C := RX7) (T := TX7) (N := 20) hx hb hts in_k_X11_count_2_X7 hown hK hP 1 rfl rfl 16 (by decide) (va_Nw.use rfl (hG.1 _ (List.mem_of_getElem? (i := 89) rfl))) (fun _ h9 => h9) rfl dX11_count_56 ?_
  refine lv_iconst (v := 0) hx hb dX11_count_59 (by decide) ?_
  refine va_iald hx hb hK hP 2 1 rfl rfl (nb_in (by decide)) dX11_count_60 ?_
  refine W.eq (g2 := F0 m 61 ls [.int 0]) rfl ?_
  have hP := hP.sub (ws' := []) [] rfl
  have hD := hD.sub (ws' := []) [] (by decide) rfl
  have hP : va_P (dC, dI) nCl (v1_k_X11_count_2 cy a (fun _ => 0)) s.heap := hP
  have hD : va_D A (v1_k_X11_count_2 cy a (fun _ => 0)) := hD
  exact W.iret (v := 0) hx hb hr (fun t ht hW => ⟨⟨0, (fun _ => 0), rfl, rfl, by rw [ht]; exact hP, va_K.moved hW.alike hK, hD⟩, hS.F ht⟩) hS.2.2 dX11_count_61
def o_k_X11_count_3 : List Cond := [.fieldLink RX11 88 "SetHouse" "current" "LSetHouse$Program;"]
theorem o_k_X11_count_3_good : o_k_X11_count_3.all goodWord = true := by decide +kernel
def p_k_X11_count_3 : List Cond := o_k_X11_count_3 ++ []
theorem p_k_X11_count_3_good : p_k_X11_count_3.all goodWord = true := nb_all2 o_k_X11_count_3_good rfl
def w_k_X11_count_3 : List Cond := .code yX11_count cX11_count 2 (some .int) :: (p_k_X11_count_3 ++ fC)
theorem w_k_X11_count_3_good : w_k_X11_count_3.all goodWord = true := nb_allc (by decide +kernel) (nb_all2 p_k_X11_count_3_good fC_good)
theorem in_k_X11_count_3_X7 : ∀ w ∈ wsX70, w ∈ w_k_X11_count_3 := fun _ h => List.mem_cons_of_mem _ (List.mem_append_right _ (List.mem_append_right _ (List.mem_append_right _ (List.mem_append_right _ (List.mem_append_right _ (List.mem_append_right _ (List.mem_append_right _ (List.mem_append_left _ h))))))))
theorem in_k_X11_count_3_X11 : ∀ w ∈ wsX110, w ∈ w_k_X11_count_3 := fun _ h => List.mem_cons_of_mem _ (List.mem_append_right _ (List.mem_append_right _ (List.mem_append_right _ (List.mem_append_right _ (List.mem_append_right _ (List.mem_append_right _ (List.mem_append_right _ (List.mem_append_right _ (List.mem_append_right _ (List.mem_append_right _ (List.mem_append_right _ h)))))))))))
def v0_k_X11_count_3 (cy : Nat → ClassId) (a : Nat → Nat) : va_W := [((a 0), .inr (10, [.ref (a 2), .ref (a 3), .ref (a 4), .ref (a 5), .ref (a 6), .ref (a 7), .ref (a 8), .ref (a 9), .ref (a 1), .ref (a 10), .int 0, .int 0, .int 0, .int 0, .ref (a 11), .ref (a 12), .ref (a 13), .int 0, .int 0, .int 0])), ((a 1), .inr (6, [.ref (a 14), .int 0, .int 0, .int 0, .int 0, .ref (a 15), .ref (a 16), .ref (a 17), .ref (a 18), .ref (a 19), .ref (a 20), .int 0, .int 0, .ref (a 21), .ref (a 22), .ref (a 23), .ref (a 24), .ref (a 25), .ref (a 26), .int 0]))]
def v1_k_X11_count_3 (cy : Nat → ClassId) (a : Nat → Nat) (r : Nat → Nat) : va_W := []
set_option maxHeartbeats 40000000 in
set_option maxRecDepth 100000 in
/-- count of a new object -/
theorem k_X11_count_3 (l : Launch) (dC : Nat → ClassId) (dI : Nat → Nat → Nat) (cy : Nat → ClassId) (k : Nat → Nat) (a : Nat → Nat) (sz : Nat) : Met l yX11_count w_k_X11_count_3 ({ frames := 0, cells := 0, slots := 0, locals := 0 }) (va_Pc [.ref (a 0), .int 3] (nInE (dC, dI) cy k sz (v0_k_X11_count_3 cy a))) (va_Qi (fun (z : Int32) (_ : Nat → Nat) => z = 0) (fun r t => nOut (dC, dI) cy (va_A (v0_k_X11_count_3 cy a) sz) (v1_k_X11_count_3 cy a r) t) (va_A (v0_k_X11_count_3 cy a) sz)) 0 0 (va_A (v0_k_X11_count_3 cy a) sz) := by
  refine Met.ofW (cc := cX11_count) (maxL := 2) (ret := (some .int)) (by decide) rfl ?_
  intro p e s m args below meth c s₁ B hml hv
  obtain ⟨rfl, ⟨hsz, hP, hK, hD0, hG⟩, hE⟩ := hv
  have hx := B.exec
  have hb := B.bytes
  have hr := B.returns
  have hts := atoms_spec (ws := w_k_X11_count_3) B.pre
  have hown : s.vm.findClass RX11 = some m.cls := findClass_of_methodNamed B.named
  have hlocks := B.notSynchronized
  subst hsz
  have hD := hD0.self (sz := s.heap.size)
  generalize hAe : va_A (v0_k_X11_count_3 cy a) s.heap.size = A at hD hE ⊢
  have hA : ∀ q : Nat, s.heap.size ≤ q → A q := fun q h => by rw [← hAe]; exact Or.inr h
  have hS : va_S A s.heap s.heap [] := va_S.rf
  have hP : va_P (dC, dI) nCl (v0_k_X11_count_3 cy a) s.heap := hP
  have hl := lv_entry ([.ref (a 0), .int 3]) (n := 2) (Nat.le_of_ble_eq_true rfl)
  rw [lg_entry_eq]
  generalize (lg_sl ([.ref (a 0), .int 3]) ++ List.replicate (2 - (lg_sl ([.ref (a 0), .int 3])).length) Slot.unset).toArray = ls at hl ⊢
  have hl : lv_has ls 2 [(0, .ref (a 0)), (1, .int 3)] := hl
  have hP : va_P (dC, dI) nCl [((a 0), .inr (10, [.ref (a 2), .ref (a 3), .ref (a 4), .ref (a 5), .ref (a 6), .ref (a 7), .ref (a 8), .ref (a 9), .ref (a 1), .ref (a 10), .int 0, .int 0, .int 0, .int 0, .ref (a 11), .ref (a 12), .ref (a 13), .int 0, .int 0, .int 0])), ((a 1), .inr (6, [.ref (a 14), .int 0, .int 0, .int 0, .int 0, .ref (a 15), .ref (a 16), .ref (a 17), .ref (a 18), .ref (a 19), .ref (a 20), .int 0, .int 0, .ref (a 21), .ref (a 22), .ref (a 23), .ref (a 24), .ref (a 25), .ref (a 26), .int 0]))] s.heap := hP
  have hD : va_D A [((a 0), .inr (10, [.ref (a 2), .ref (a 3), .ref (a 4), .ref (a 5), .ref (a 6), .ref (a 7), .ref (a 8), .ref (a 9), .ref (a 1), .ref (a 10), .int 0, .int 0, .int 0, .int 0, .ref (a 11), .ref (a 12), .ref (a 13), .int 0, .int 0, .int 0])), ((a 1), .inr (6, [.ref (a 14), .int 0, .int 0, .int 0, .int 0, .ref (a 15), .ref (a 16), .ref (a 17), .ref (a 18), .ref (a 19), .ref (a 20), .int 0, .int 0, .ref (a 21), .ref (a 22), .ref (a 23), .ref (a 24), .ref (a 25), .ref (a 26), .int 0]))] := hD
  refine lv_iload_n hx hb dX11_count_0 rfl (lv_at hl 1 rfl) ?_
  refine lv_tableIn (off := 61) (tgt := 62) hx hb dX11_count_1 (by decide) (by decide) rfl (by decide) ?_
  refine lv_aload_n hx hb dX11_count_62 rfl (lv_at hl 0 rfl) ?_
  refine va_get (D := (dC, dI)) (ci := 10) (v := .ref (a 1)) (C := RX11) (T := TX11) (N := 20) hx hb hts in_k_X11_count_3_X11 hown hK hP 0 rfl rfl 8 (by decide) (hts _ (List.mem_cons_of_mem _ (List.mem_append_left _ (List.mem_append_left _ (List.mem_of_getElem? (i := 0) rfl))))) (fun _ h9 => h9) rfl dX11_count_63 ?_
  refine va_getN (D := (dC, dI)) (ci := 6) (v := .int 0) (C := RX7) (T := TX7) (N := 20) hx hb hts in_k_X11_count_3_X7 hown hK hP 1 rfl rfl 4 (by decide) (va_Nw.use rfl (hG.1 _ (List.mem_of_getElem? (i := 75) rfl))) (fun _ h9 => h9) rfl dX11_count_66 ?_
  have hP := hP.sub (ws' := []) [] rfl
  have hD := hD.sub (ws' := []) [] (by decide) rfl
  have hP : va_P (dC, dI) nCl (v1_k_X11_count_3 cy a (fun _ => 0)) s.heap := hP
  have hD : va_D A (v1_k_X11_count_3 cy a (fun _ => 0)) := hD
  exact W.iret (v := 0) hx hb hr (fun t ht hW => ⟨⟨0, (fun _ => 0), rfl, rfl, by rw [ht]; exact hP, va_K.moved hW.alike hK, hD⟩, hS.F ht⟩) hS.2.2 dX11_count_69
def o_k_X11_count_4 : List Cond := [.fieldLink RX11 159 "SetHouse" "views" "I"]
theorem o_k_X11_count_4_good : o_k_X11_count_4.all goodWord = true := by decide +kernel
def p_k_X11_count_4 : List Cond := o_k_X11_count_4 ++ []
theorem p_k_X11_count_4_good : p_k_X11_count_4.all goodWord = true := nb_all2 o_k_X11_count_4_good rfl
def w_k_X11_count_4 : List Cond := .code yX11_count cX11_count 2 (some .int) :: (p_k_X11_count_4 ++ fC)
theorem w_k_X11_count_4_good : w_k_X11_count_4.all goodWord = true := nb_allc (by decide +kernel) (nb_all2 p_k_X11_count_4_good fC_good)
theorem in_k_X11_count_4_X11 : ∀ w ∈ wsX110, w ∈ w_k_X11_count_4 := fun _ h => List.mem_cons_of_mem _ (List.mem_append_right _ (List.mem_append_right _ (List.mem_append_right _ (List.mem_append_right _ (List.mem_append_right _ (List.mem_append_right _ (List.mem_append_right _ (List.mem_append_right _ (List.mem_append_right _ (List.mem_append_right _ (List.mem_append_right _ h)))))))))))
def v0_k_X11_count_4 (cy : Nat → ClassId) (a : Nat → Nat) : va_W := [((a 0), .inr (10, [.ref (a 1), .ref (a 2), .ref (a 3), .ref (a 4), .ref (a 5), .ref (a 6), .ref (a 7), .ref (a 8), .ref (a 9), .ref (a 10), .int 0, .int 0, .int 0, .int 0, .ref (a 11), .ref (a 12), .ref (a 13), .int 0, .int 0, .int 0]))]
def v1_k_X11_count_4 (cy : Nat → ClassId) (a : Nat → Nat) (r : Nat → Nat) : va_W := []
set_option maxHeartbeats 40000000 in
set_option maxRecDepth 100000 in
/-- count of a new object -/
theorem k_X11_count_4 (l : Launch) (dC : Nat → ClassId) (dI : Nat → Nat → Nat) (cy : Nat → ClassId) (k : Nat → Nat) (a : Nat → Nat) (sz : Nat) : Met l yX11_count w_k_X11_count_4 ({ frames := 0, cells := 0, slots := 0, locals := 0 }) (va_Pc [.ref (a 0), .int 4] (nInE (dC, dI) cy k sz (v0_k_X11_count_4 cy a))) (va_Qi (fun (z : Int32) (_ : Nat → Nat) => z = 0) (fun r t => nOut (dC, dI) cy (va_A (v0_k_X11_count_4 cy a) sz) (v1_k_X11_count_4 cy a r) t) (va_A (v0_k_X11_count_4 cy a) sz)) 0 0 (va_A (v0_k_X11_count_4 cy a) sz) := by
  refine Met.ofW (cc := cX11_count) (maxL := 2) (ret := (some .int)) (by decide) rfl ?_
  intro p e s m args below meth c s₁ B hml hv
  obtain ⟨rfl, ⟨hsz, hP, hK, hD0, hG⟩, hE⟩ := hv
  have hx := B.exec
  have hb := B.bytes
  have hr := B.returns
  have hts := atoms_spec (ws := w_k_X11_count_4) B.pre
  have hown : s.vm.findClass RX11 = some m.cls := findClass_of_methodNamed B.named
  have hlocks := B.notSynchronized
  subst hsz
  have hD := hD0.self (sz := s.heap.size)
  generalize hAe : va_A (v0_k_X11_count_4 cy a) s.heap.size = A at hD hE ⊢
  have hA : ∀ q : Nat, s.heap.size ≤ q → A q := fun q h => by rw [← hAe]; exact Or.inr h
  have hS : va_S A s.heap s.heap [] := va_S.rf
  have hP : va_P (dC, dI) nCl (v0_k_X11_count_4 cy a) s.heap := hP
  have hl := lv_entry ([.ref (a 0), .int 4]) (n := 2) (Nat.le_of_ble_eq_true rfl)
  rw [lg_entry_eq]
  generalize (lg_sl ([.ref (a 0), .int 4]) ++ List.replicate (2 - (lg_sl ([.ref (a 0), .int 4])).length) Slot.unset).toArray = ls at hl ⊢
  have hl : lv_has ls 2 [(0, .ref (a 0)), (1, .int 4)] := hl
  have hP : va_P (dC, dI) nCl [((a 0), .inr (10, [.ref (a 1), .ref (a 2), .ref (a 3), .ref (a 4), .ref (a 5), .ref (a 6), .ref (a 7), .ref (a 8), .ref (a 9), .ref (a 10), .int 0, .int 0, .int 0, .int 0, .ref (a 11), .ref (a 12), .ref (a 13), .int 0, .int 0, .int 0]))] s.heap := hP
  have hD : va_D A [((a 0), .inr (10, [.ref (a 1), .ref (a 2), .ref (a 3), .ref (a 4), .ref (a 5), .ref (a 6), .ref (a 7), .ref (a 8), .ref (a 9), .ref (a 10), .int 0, .int 0, .int 0, .int 0, .ref (a 11), .ref (a 12), .ref (a 13), .int 0, .int 0, .int 0]))] := hD
  refine lv_iload_n hx hb dX11_count_0 rfl (lv_at hl 1 rfl) ?_
  refine lv_tableIn (off := 69) (tgt := 70) hx hb dX11_count_1 (by decide) (by decide) rfl (by decide) ?_
  refine lv_aload_n hx hb dX11_count_70 rfl (lv_at hl 0 rfl) ?_
  refine va_get (D := (dC, dI)) (ci := 10) (v := .int 0) (C := RX11) (T := TX11) (N := 20) hx hb hts in_k_X11_count_4_X11 hown hK hP 0 rfl rfl 13 (by decide) (hts _ (List.mem_cons_of_mem _ (List.mem_append_left _ (List.mem_append_left _ (List.mem_of_getElem? (i := 0) rfl))))) (fun _ h9 => h9) rfl dX11_count_71 ?_
  have hP := hP.sub (ws' := []) [] rfl
  have hD := hD.sub (ws' := []) [] (by decide) rfl
  have hP : va_P (dC, dI) nCl (v1_k_X11_count_4 cy a (fun _ => 0)) s.heap := hP
  have hD : va_D A (v1_k_X11_count_4 cy a (fun _ => 0)) := hD
  exact W.iret (v := 0) hx hb hr (fun t ht hW => ⟨⟨0, (fun _ => 0), rfl, rfl, by rw [ht]; exact hP, va_K.moved hW.alike hK, hD⟩, hS.F ht⟩) hS.2.2 dX11_count_74
def o_k_X11_widenedBytes_2 : List Cond := []
theorem o_k_X11_widenedBytes_2_good : o_k_X11_widenedBytes_2.all goodWord = true := by decide +kernel
def p_k_X11_widenedBytes_2 : List Cond := o_k_X11_widenedBytes_2 ++ []
theorem p_k_X11_widenedBytes_2_good : p_k_X11_widenedBytes_2.all goodWord = true := nb_all2 o_k_X11_widenedBytes_2_good rfl
def w_k_X11_widenedBytes_2 : List Cond := .code yX11_widenedBytes cX11_widenedBytes 3 (some (.array .byte)) :: (p_k_X11_widenedBytes_2 ++ fC)
theorem w_k_X11_widenedBytes_2_good : w_k_X11_widenedBytes_2.all goodWord = true := nb_allc (by decide +kernel) (nb_all2 p_k_X11_widenedBytes_2_good fC_good)
def v0_k_X11_widenedBytes_2 (cy : Nat → ClassId) (a : Nat → Nat) (f9 : Nat → Int32) : va_W := [((a 0), .inl (cy 0, 1024, .inl f9))]
def v1_k_X11_widenedBytes_2 (cy : Nat → ClassId) (a : Nat → Nat) (f9 : Nat → Int32) (r : Nat → Nat) : va_W := [((a 0), .inl (cy 0, 1024, .inl f9))]
set_option maxHeartbeats 40000000 in
set_option maxRecDepth 100000 in
theorem k_X11_widenedBytes_2 (l : Launch) (dC : Nat → ClassId) (dI : Nat → Nat → Nat) (cy : Nat → ClassId) (k : Nat → Nat) (a : Nat → Nat) (f9 : Nat → Int32) (sz : Nat) : Met l yX11_widenedBytes w_k_X11_widenedBytes_2 ({ frames := 0, cells := 0, slots := 0, locals := 0 }) (va_Pc [.ref (a 0), .int 4, .int 10242] (nInE (dC, dI) cy k sz (v0_k_X11_widenedBytes_2 cy a f9))) (va_Qr (fun _ : Nat → Nat => True) (fun r q t => q = (a 0) ∧ nOut (dC, dI) cy (va_A (v0_k_X11_widenedBytes_2 cy a f9) sz) (v1_k_X11_widenedBytes_2 cy a f9 r) t) (va_A (v0_k_X11_widenedBytes_2 cy a f9) sz)) 0 0 (va_A (v0_k_X11_widenedBytes_2 cy a f9) sz) := by
  refine Met.ofW (cc := cX11_widenedBytes) (maxL := 3) (ret := (some (.array .byte))) (by decide) rfl ?_
  intro p e s m args below meth c s₁ B hml hv
  obtain ⟨rfl, ⟨hsz, hP, hK, hD0, hG⟩, hE⟩ := hv
  have hx := B.exec
  have hb := B.bytes
  have hr := B.returns
  have hts := atoms_spec (ws := w_k_X11_widenedBytes_2) B.pre
  have hown : s.vm.findClass RX11 = some m.cls := findClass_of_methodNamed B.named
  have hlocks := B.notSynchronized
  subst hsz
  have hD := hD0.self (sz := s.heap.size)
  generalize hAe : va_A (v0_k_X11_widenedBytes_2 cy a f9) s.heap.size = A at hD hE ⊢
  have hA : ∀ q : Nat, s.heap.size ≤ q → A q := fun q h => by rw [← hAe]; exact Or.inr h
  have hS : va_S A s.heap s.heap [] := va_S.rf
  have hP : va_P (dC, dI) nCl (v0_k_X11_widenedBytes_2 cy a f9) s.heap := hP
  have hl := lv_entry ([.ref (a 0), .int 4, .int 10242]) (n := 3) (Nat.le_of_ble_eq_true rfl)
  rw [lg_entry_eq]
  generalize (lg_sl ([.ref (a 0), .int 4, .int 10242]) ++ List.replicate (3 - (lg_sl ([.ref (a 0), .int 4, .int 10242])).length) Slot.unset).toArray = ls at hl ⊢
  have hl : lv_has ls 3 [(0, .ref (a 0)), (1, .int 4), (2, .int 10242)] := hl
  have hP : va_P (dC, dI) nCl [((a 0), .inl (cy 0, 1024, .inl f9))] s.heap := hP
  have hD : va_D A [((a 0), .inl (cy 0, 1024, .inl f9))] := hD
  refine lv_iload_n hx hb dX11_widenedBytes_0 rfl (lv_at hl 1 rfl) ?_
  refine lv_aload_n hx hb dX11_widenedBytes_1 rfl (lv_at hl 0 rfl) ?_
  refine va_alen hx hb hK hP 0 0 rfl rfl (v := 1024) rfl dX11_widenedBytes_2 ?_
  refine lv_icmp_le (tgt := 20) hx hb dX11_widenedBytes_3 (by decide) (fun _ => ?_) (fun c1 => False.elim (by revert c1; decide))
  refine lv_aload_n hx hb dX11_widenedBytes_20 rfl (lv_at hl 0 rfl) ?_
  have hP : va_P (dC, dI) nCl (v1_k_X11_widenedBytes_2 cy a f9 (fun _ => 0)) s.heap := hP
  have hD : va_D A (v1_k_X11_widenedBytes_2 cy a f9 (fun _ => 0)) := hD
  exact W.aret hx hb hr (Or.inr ⟨_, rfl⟩) (Or.inr ⟨_, rfl⟩) (fun t ht hW => ⟨⟨(fun _ => 0), (a 0), rfl, trivial, rfl, by rw [ht]; exact hP, va_K.moved hW.alike hK, hD⟩, hS.F ht⟩) hS.2.2 dX11_widenedBytes_21
def o_k_X2_widen_2 : List Cond := [.fieldLink RX2 11 "SetHouse$Lexer" "tape" "[B", .initialized RX11, .static yX11_widenedBytes]
theorem o_k_X2_widen_2_good : o_k_X2_widen_2.all goodWord = true := by decide +kernel
def p_k_X2_widen_2 : List Cond := o_k_X2_widen_2 ++ ((.code yX11_widenedBytes cX11_widenedBytes 3 (some (.array .byte)) :: p_k_X11_widenedBytes_2) ++ [])
theorem p_k_X2_widen_2_good : p_k_X2_widen_2.all goodWord = true := nb_all2 o_k_X2_widen_2_good (nb_all2 (nb_allc (by decide +kernel) p_k_X11_widenedBytes_2_good) rfl)
def w_k_X2_widen_2 : List Cond := .code yX2_widen cX2_widen 2 none :: (p_k_X2_widen_2 ++ fC)
theorem w_k_X2_widen_2_good : w_k_X2_widen_2.all goodWord = true := nb_allc (by decide +kernel) (nb_all2 p_k_X2_widen_2_good fC_good)
theorem in_k_X2_widen_2_X2 : ∀ w ∈ wsX20, w ∈ w_k_X2_widen_2 := fun _ h => List.mem_cons_of_mem _ (List.mem_append_right _ (List.mem_append_right _ (List.mem_append_right _ (List.mem_append_left _ h))))
theorem gg_k_X2_widen_2_k_X11_widenedBytes_2 : GoodIn w_k_X2_widen_2 w_k_X11_widenedBytes_2 := goodIn_sub (fun w h => (List.mem_cons.mp h).elim (fun e => (List.mem_cons_of_mem _ (List.mem_append_left _ (List.mem_append_right _ (List.mem_append_left _ (List.mem_cons.mpr (Or.inl e))))))) (fun h => (List.mem_append.mp h).elim (fun h => (List.mem_cons_of_mem _ (List.mem_append_left _ (List.mem_append_right _ (List.mem_append_left _ (List.mem_cons_of_mem _ h)))))) (fun h => List.mem_cons_of_mem _ (List.mem_append_right _ h)))) w_k_X11_widenedBytes_2_good
theorem g_k_X2_widen_2_39_k_X11_widenedBytes_2 : GoodIn w_k_X2_widen_2 w_k_X11_widenedBytes_2 := gg_k_X2_widen_2_k_X11_widenedBytes_2
def v0_k_X2_widen_2 (cy : Nat → ClassId) (a : Nat → Nat) (f9 : Nat → Int32) : va_W := [((a 0), .inr (2, [.ref (a 1), .int 0, .int 0, .int 0, .int 0, .long 0, .long 0, .ref (a 2)])), ((a 1), .inl (cy 0, 1024, .inl f9))]
def v1_k_X2_widen_2 (cy : Nat → ClassId) (a : Nat → Nat) (f9 : Nat → Int32) (r : Nat → Nat) : va_W := [((a 0), .inr (2, [.ref (a 1), .int 0, .int 0, .int 0, .int 0, .long 0, .long 0, .ref (a 2)])), ((a 1), .inl (cy 0, 1024, .inl f9))]
set_option maxHeartbeats 40000000 in
set_option maxRecDepth 100000 in
theorem k_X2_widen_2 (l : Launch) (dC : Nat → ClassId) (dI : Nat → Nat → Nat) (cy : Nat → ClassId) (k : Nat → Nat) (a : Nat → Nat) (f9 : Nat → Int32) (sz : Nat) : Met l yX2_widen w_k_X2_widen_2 ({ frames := 1, cells := 0, slots := 0, locals := 22 }) (va_Pc [.ref (a 0), .int 4] (nInE (dC, dI) cy k sz (v0_k_X2_widen_2 cy a f9))) (va_Qv (fun _ : Nat → Nat => True) (fun r t => nOut (dC, dI) cy (va_A (v0_k_X2_widen_2 cy a f9) sz) (v1_k_X2_widen_2 cy a f9 r) t) (va_A (v0_k_X2_widen_2 cy a f9) sz)) 0 0 (va_A (v0_k_X2_widen_2 cy a f9) sz) := by
  refine Met.ofW (cc := cX2_widen) (maxL := 2) (ret := none) (by decide) rfl ?_
  intro p e s m args below meth c s₁ B hml hv
  obtain ⟨rfl, ⟨hsz, hP, hK, hD0, hG⟩, hE⟩ := hv
  have hx := B.exec
  have hb := B.bytes
  have hr := B.returns
  have hts := atoms_spec (ws := w_k_X2_widen_2) B.pre
  have hown : s.vm.findClass RX2 = some m.cls := findClass_of_methodNamed B.named
  have hlocks := B.notSynchronized
  subst hsz
  have hD := hD0.self (sz := s.heap.size)
  generalize hAe : va_A (v0_k_X2_widen_2 cy a f9) s.heap.size = A at hD hE ⊢
  have hA : ∀ q : Nat, s.heap.size ≤ q → A q := fun q h => by rw [← hAe]; exact Or.inr h
  have hS : va_S A s.heap s.heap [] := va_S.rf
  have hP : va_P (dC, dI) nCl (v0_k_X2_widen_2 cy a f9) s.heap := hP
  have hl := lv_entry ([.ref (a 0), .int 4]) (n := 2) (Nat.le_of_ble_eq_true rfl)
  rw [lg_entry_eq]
  generalize (lg_sl ([.ref (a 0), .int 4]) ++ List.replicate (2 - (lg_sl ([.ref (a 0), .int 4])).length) Slot.unset).toArray = ls at hl ⊢
  have hl : lv_has ls 2 [(0, .ref (a 0)), (1, .int 4)] := hl
  have hP : va_P (dC, dI) nCl [((a 0), .inr (2, [.ref (a 1), .int 0, .int 0, .int 0, .int 0, .long 0, .long 0, .ref (a 2)])), ((a 1), .inl (cy 0, 1024, .inl f9))] s.heap := hP
  have hD : va_D A [((a 0), .inr (2, [.ref (a 1), .int 0, .int 0, .int 0, .int 0, .long 0, .long 0, .ref (a 2)])), ((a 1), .inl (cy 0, 1024, .inl f9))] := hD
  refine lv_aload_n hx hb dX2_widen_0 rfl (lv_at hl 0 rfl) ?_
  refine lv_aload_n hx hb dX2_widen_1 rfl (lv_at hl 0 rfl) ?_
  refine va_get (D := (dC, dI)) (ci := 2) (v := .ref (a 1)) (C := RX2) (T := TX2) (N := 8) hx hb hts in_k_X2_widen_2_X2 hown hK hP 0 rfl rfl 0 (by decide) (hts _ (List.mem_cons_of_mem _ (List.mem_append_left _ (List.mem_append_left _ (List.mem_of_getElem? (i := 0) rfl))))) (fun _ h9 => h9) rfl dX2_widen_2 ?_
  refine lv_iload_n hx hb dX2_widen_5 rfl (lv_at hl 1 rfl) ?_
  refine lv_iload_n hx hb dX2_widen_6 rfl (lv_at hl 1 rfl) ?_
  refine lv_sipush (v := 10242) hx hb dX2_widen_7 (by decide) ?_
  refine lv_icmp_gt (tgt := 19) hx hb dX2_widen_10 (by decide) (fun c1 => False.elim (by revert c1; decide)) (fun _ => ?_)
  refine lv_sipush (v := 10242) hx hb dX2_widen_13 (by decide) ?_
  refine lv_goto (tgt := 21) hx hb dX2_widen_16 (by decide) ?_
  have hPc := hP.sub (ws' := [((a 1), .inl (cy 0, 1024, .inl f9))]) [1] rfl
  have hPc : va_P (dC, dI) nCl (v0_k_X11_widenedBytes_2 cy (fun j9 => [(a 1)].getD j9 0) f9) s.heap := hPc
  have hDc := hD.sub (ws' := [((a 1), .inl (cy 0, 1024, .inl f9))]) [1] (by decide) rfl
  have hDc : va_D A (v0_k_X11_widenedBytes_2 cy (fun j9 => [(a 1)].getD j9 0) f9) := hDc
  have hFc := va_free (wc := (v0_k_X11_widenedBytes_2 cy (fun j9 => [(a 1)].getD j9 0) f9)) hD hS hA [1] rfl
  refine va_callr (va_runSN (As := [.ref (a 1), .int 4, .int 10242]) (rest := [.ref (a 0)]) ⟨hx, hb, hml, hown, hts⟩ (k_X11_widenedBytes_2 l dC dI cy k (fun j9 => [(a 1)].getD j9 0) f9 s.heap.size) ⟨va_cnB 3 hts g_k_X2_widen_2_39_k_X11_widenedBytes_2 rfl rfl rfl (hG.1 _ (List.mem_of_getElem? (i := 95) rfl)) (hts _ (List.mem_cons_of_mem _ (List.mem_append_left _ (List.mem_append_left _ (List.mem_of_getElem? (i := 1) rfl))))) (by decide +kernel) ⟨Nat.le_of_ble_eq_true rfl, Nat.le_of_ble_eq_true rfl⟩, (hts _ (List.mem_cons_of_mem _ (List.mem_append_left _ (List.mem_append_left _ (List.mem_of_getElem? (i := 2) rfl))))), trivial⟩ ⟨nb_blindE, fun U hU hW => ⟨rfl, ⟨by rw [hU], by rw [hU]; exact hPc, va_K.moved hW.alike hK, hDc.weaken (fun _ _ _ _ => trivial), hG.warm hW⟩, nE.to hE hS hW hU hFc⟩⟩ rfl rfl hl.1 rfl (lv_room (Nat.le_of_ble_eq_true rfl)) dX2_widen_21 ⟨Nat.le_of_ble_eq_true rfl, Nat.le_of_ble_eq_true rfl⟩) hS (fun q _ h => hFc q h) hFc (fun u1 r_1 t H1 locs ht hvm hw hB hz1 hk1 hS => ?_)
  obtain ⟨hra, hP1, hK1, hD1⟩ := hB
  subst hra
  rw [ht] at hP1
  obtain ⟨hP, hD⟩ := va_join (wr := [((a 0), .inr (2, [.ref (a 1), .int 0, .int 0, .int 0, .int 0, .long 0, .long 0, .ref (a 2)]))]) (w1 := v1_k_X11_widenedBytes_2 cy (fun j9 => [(a 1)].getD j9 0) f9 u1) hP hD [1] [0] rfl rfl (by decide) (by decide) hk1 hFc hP1 hD1
  generalize H1 = H at hP hS ⊢
  have hP : va_P (dC, dI) nCl [((a 0), .inr (2, [.ref (a 1), .int 0, .int 0, .int 0, .int 0, .long 0, .long 0, .ref (a 2)])), ((a 1), .inl (cy 0, 1024, .inl f9))] H := hP
  have hD : va_D A [((a 0), .inr (2, [.ref (a 1), .int 0, .int 0, .int 0, .int 0, .long 0, .long 0, .ref (a 2)])), ((a 1), .inl (cy 0, 1024, .inl f9))] := hD
  refine va_put (D := (dC, dI)) (ci := 2) (v := .ref (a 1)) (ty := .array .byte) (C := RX2) (T := TX2) (N := 8) hx hb hts in_k_X2_widen_2_X2 tyX2 tyX2_ok nmX2 hown hK hP hD hS 0 rfl rfl 0 (by decide) (hts _ (List.mem_cons_of_mem _ (List.mem_append_left _ (List.mem_append_left _ (List.mem_of_getElem? (i := 0) rfl))))) (fun _ h9 => h9) rfl (by decide +kernel) rfl rfl (Nat.le_of_ble_eq_true rfl) dX2_widen_24 (fun H locs hP hD hS => ?_)
  have hP : va_P (dC, dI) nCl [((a 0), .inr (2, [.ref (a 1), .int 0, .int 0, .int 0, .int 0, .long 0, .long 0, .ref (a 2)])), ((a 1), .inl (cy 0, 1024, .inl f9))] H := hP
  have hD : va_D A [((a 0), .inr (2, [.ref (a 1), .int 0, .int 0, .int 0, .int 0, .long 0, .long 0, .ref (a 2)])), ((a 1), .inl (cy 0, 1024, .inl f9))] := hD
  have hP : va_P (dC, dI) nCl (v1_k_X2_widen_2 cy a f9 (fun _ => 0)) H := hP
  have hD : va_D A (v1_k_X2_widen_2 cy a f9 (fun _ => 0)) := hD
  exact W.vret hx hb hr (fun t ht hW => ⟨⟨(fun _ => 0), rfl, trivial, by rw [ht]; exact hP, va_K.moved hW.alike hK, hD⟩, hS.F ht⟩) hS.2.2 dX2_widen_27
def o_k_X2_append : List Cond := [.fieldLink RX2 31 "SetHouse$Lexer" "length" "I", .methodLink RX2 34 yX2_widen, .instanceMethod yX2_widen, .selects RX2 yX2_widen yX2_widen, .initialized RX2, .fieldLink RX2 11 "SetHouse$Lexer" "tape" "[B"]
theorem o_k_X2_append_good : o_k_X2_append.all goodWord = true := by decide +kernel
def p_k_X2_append : List Cond := o_k_X2_append ++ ((.code yX2_widen cX2_widen 2 none :: p_k_X2_widen_2) ++ [])
theorem p_k_X2_append_good : p_k_X2_append.all goodWord = true := nb_all2 o_k_X2_append_good (nb_all2 (nb_allc (by decide +kernel) p_k_X2_widen_2_good) rfl)
def w_k_X2_append : List Cond := .code yX2_append cX2_append 3 none :: (p_k_X2_append ++ fC)
theorem w_k_X2_append_good : w_k_X2_append.all goodWord = true := nb_allc (by decide +kernel) (nb_all2 p_k_X2_append_good fC_good)
theorem in_k_X2_append_X2 : ∀ w ∈ wsX20, w ∈ w_k_X2_append := fun _ h => List.mem_cons_of_mem _ (List.mem_append_right _ (List.mem_append_right _ (List.mem_append_right _ (List.mem_append_left _ h))))
theorem gg_k_X2_append_k_X2_widen_2 : GoodIn w_k_X2_append w_k_X2_widen_2 := goodIn_sub (fun w h => (List.mem_cons.mp h).elim (fun e => (List.mem_cons_of_mem _ (List.mem_append_left _ (List.mem_append_right _ (List.mem_append_left _ (List.mem_cons.mpr (Or.inl e))))))) (fun h => (List.mem_append.mp h).elim (fun h => (List.mem_cons_of_mem _ (List.mem_append_left _ (List.mem_append_right _ (List.mem_append_left _ (List.mem_cons_of_mem _ h)))))) (fun h => List.mem_cons_of_mem _ (List.mem_append_right _ h)))) w_k_X2_widen_2_good
theorem g_k_X2_append_34_k_X2_widen_2 : GoodIn w_k_X2_append (wsV RX2 34 RX2 yX2_widen w_k_X2_widen_2) := goodIn_app (nb_g4 (List.mem_cons_of_mem _ (List.mem_append_left _ (List.mem_append_left _ (List.mem_of_getElem? (i := 1) rfl)))) (List.mem_cons_of_mem _ (List.mem_append_left _ (List.mem_append_left _ (List.mem_of_getElem? (i := 2) rfl)))) (List.mem_cons_of_mem _ (List.mem_append_left _ (List.mem_append_left _ (List.mem_of_getElem? (i := 3) rfl)))) (List.mem_cons_of_mem _ (List.mem_append_left _ (List.mem_append_left _ (List.mem_of_getElem? (i := 4) rfl)))) (by decide +kernel)) gg_k_X2_append_k_X2_widen_2
def v0_k_X2_append (cy : Nat → ClassId) (a : Nat → Nat) (a9 : Int32) (f9 : Nat → Int32) : va_W := [((a 0), .inr (2, [.ref (a 1), .int 0, .int 0, .int 0, .int 0, .long 0, .long 0, .ref (a 2)])), ((a 1), .inl (cy 0, 1024, .inl f9))]
def v1_k_X2_append (cy : Nat → ClassId) (a : Nat → Nat) (a9 : Int32) (f9 : Nat → Int32) (r : Nat → Nat) : va_W := [((a 0), .inr (2, [.ref (a 1), .int 4, .int 0, .int 0, .int 0, .long 0, .long 0, .ref (a 2)])), ((a 1), .inl (cy 0, 1024, .inl (upd (upd (upd (upd f9 0 (vp_nar .byte (((a9 >>> (24 &&& 31))).toInt8.toInt32))) 1 (vp_nar .byte (((a9 >>> (16 &&& 31))).toInt8.toInt32))) 2 (vp_nar .byte (((a9 >>> (8 &&& 31))).toInt8.toInt32))) 3 (vp_nar .byte (((a9 >>> (0 &&& 31))).toInt8.toInt32)))))]
set_option maxHeartbeats 40000000 in
set_option maxRecDepth 100000 in
theorem k_X2_append (l : Launch) (dC : Nat → ClassId) (dI : Nat → Nat → Nat) (cy : Nat → ClassId) (k : Nat → Nat) (a : Nat → Nat) (a9 : Int32) (f9 : Nat → Int32) (sz : Nat) : Met l yX2_append w_k_X2_append ({ frames := 2, cells := 0, slots := 0, locals := 43 }) (va_Pc [.ref (a 0), .int a9] (nInE (dC, dI) cy k sz (v0_k_X2_append cy a a9 f9))) (va_Qv (fun _ : Nat → Nat => True) (fun r t => nOut (dC, dI) cy (va_A (v0_k_X2_append cy a a9 f9) sz) (v1_k_X2_append cy a a9 f9 r) t) (va_A (v0_k_X2_append cy a a9 f9) sz)) 0 0 (va_A (v0_k_X2_append cy a a9 f9) sz) := by
  refine Met.ofW (cc := cX2_append) (maxL := 3) (ret := none) (by decide) rfl ?_
  intro p e s m args below meth c s₁ B hml hv
  obtain ⟨rfl, ⟨hsz, hP, hK, hD0, hG⟩, hE⟩ := hv
  have hx := B.exec
  have hb := B.bytes
  have hr := B.returns
  have hts := atoms_spec (ws := w_k_X2_append) B.pre
  have hown : s.vm.findClass RX2 = some m.cls := findClass_of_methodNamed B.named
  have hlocks := B.notSynchronized
  subst hsz
  have hD := hD0.self (sz := s.heap.size)
  generalize hAe : va_A (v0_k_X2_append cy a a9 f9) s.heap.size = A at hD hE ⊢
  have hA : ∀ q : Nat, s.heap.size ≤ q → A q := fun q h => by rw [← hAe]; exact Or.inr h
  have hS : va_S A s.heap s.heap [] := va_S.rf
  have hP : va_P (dC, dI) nCl (v0_k_X2_append cy a a9 f9) s.heap := hP
  have hl := lv_entry ([.ref (a 0), .int a9]) (n := 3) (Nat.le_of_ble_eq_true rfl)
  rw [lg_entry_eq]
  generalize (lg_sl ([.ref (a 0), .int a9]) ++ List.replicate (3 - (lg_sl ([.ref (a 0), .int a9])).length) Slot.unset).toArray = ls at hl ⊢
  have hl : lv_has ls 3 [(0, .ref (a 0)), (1, .int a9)] := hl
  have hP : va_P (dC, dI) nCl [((a 0), .inr (2, [.ref (a 1), .int 0, .int 0, .int 0, .int 0, .long 0, .long 0, .ref (a 2)])), ((a 1), .inl (cy 0, 1024, .inl f9))] s.heap := hP
  have hD : va_D A [((a 0), .inr (2, [.ref (a 1), .int 0, .int 0, .int 0, .int 0, .long 0, .long 0, .ref (a 2)])), ((a 1), .inl (cy 0, 1024, .inl f9))] := hD
  refine lv_aload_n hx hb dX2_append_0 rfl (lv_at hl 0 rfl) ?_
  refine lv_aload_n hx hb dX2_append_1 rfl (lv_at hl 0 rfl) ?_
  refine va_get (D := (dC, dI)) (ci := 2) (v := .int 0) (C := RX2) (T := TX2) (N := 8) hx hb hts in_k_X2_append_X2 hown hK hP 0 rfl rfl 1 (by decide) (hts _ (List.mem_cons_of_mem _ (List.mem_append_left _ (List.mem_append_left _ (List.mem_of_getElem? (i := 0) rfl))))) (fun _ h9 => h9) rfl dX2_append_2 ?_
  refine lv_iconst (v := 4) hx hb dX2_append_5 (by decide) ?_
  refine lv_iadd hx hb dX2_append_6 ?_
  refine W.eq (g2 := F0 m 7 ls [.int 4, .ref (a 0)]) rfl ?_
  have hPc := hP.sub (ws' := [((a 0), .inr (2, [.ref (a 1), .int 0, .int 0, .int 0, .int 0, .long 0, .long 0, .ref (a 2)])), ((a 1), .inl (cy 0, 1024, .inl f9))]) [0, 1] rfl
  have hPc : va_P (dC, dI) nCl (v0_k_X2_widen_2 cy (fun j9 => [(a 0), (a 1), (a 2)].getD j9 0) f9) s.heap := hPc
  have hDc := hD.sub (ws' := [((a 0), .inr (2, [.ref (a 1), .int 0, .int 0, .int 0, .int 0, .long 0, .long 0, .ref (a 2)])), ((a 1), .inl (cy 0, 1024, .inl f9))]) [0, 1] (by decide) rfl
  have hDc : va_D A (v0_k_X2_widen_2 cy (fun j9 => [(a 0), (a 1), (a 2)].getD j9 0) f9) := hDc
  have hFc := va_free (wc := (v0_k_X2_widen_2 cy (fun j9 => [(a 0), (a 1), (a 2)].getD j9 0) f9)) hD hS hA [0, 1] rfl
  refine va_callv (va_runV (As := [.int 4]) (rest := []) ⟨hx, hb, hml, hown, hts⟩ (k_X2_widen_2 l dC dI cy k (fun j9 => [(a 0), (a 1), (a 2)].getD j9 0) f9 s.heap.size) (cwV 1 hts g_k_X2_append_34_k_X2_widen_2 rfl rfl rfl (by decide +kernel) ⟨Nat.le_of_ble_eq_true rfl, Nat.le_of_ble_eq_true rfl⟩) ⟨nb_blindE, va_recv hK hPc (ci := 2) (q0 := 0) rfl rfl, fun U hU hW => ⟨rfl, ⟨by rw [hU], by rw [hU]; exact hPc, va_K.moved hW.alike hK, hDc.weaken (fun _ _ _ _ => trivial), hG.warm hW⟩, nE.to hE hS hW hU hFc⟩⟩ rfl rfl hl.1 rfl (lv_room (Nat.le_of_ble_eq_true rfl)) dX2_append_7 ⟨Nat.le_of_ble_eq_true rfl, Nat.le_of_ble_eq_true rfl⟩) hS (fun q _ h => hFc q h) hFc (fun u1 t H1 locs ht hvm hw hB hz1 hk1 hS => ?_)
  obtain ⟨hP1, hK1, hD1⟩ := hB
  rw [ht] at hP1
  obtain ⟨hP, hD⟩ := va_join (wr := []) (w1 := v1_k_X2_widen_2 cy (fun j9 => [(a 0), (a 1), (a 2)].getD j9 0) f9 u1) hP hD [0, 1] [] rfl rfl (by decide) (by decide) hk1 hFc hP1 hD1
  generalize H1 = H at hP hS ⊢
  have hP : va_P (dC, dI) nCl [((a 0), .inr (2, [.ref (a 1), .int 0, .int 0, .int 0, .int 0, .long 0, .long 0, .ref (a 2)])), ((a 1), .inl (cy 0, 1024, .inl f9))] H := hP
  have hD : va_D A [((a 0), .inr (2, [.ref (a 1), .int 0, .int 0, .int 0, .int 0, .long 0, .long 0, .ref (a 2)])), ((a 1), .inl (cy 0, 1024, .inl f9))] := hD
  refine lv_bipush (v := 24) hx hb dX2_append_10 (by decide) ?_
  refine lv_istore_n (lv' := [(2, .int 24), (0, .ref (a 0)), (1, .int a9)]) hx hb dX2_append_12 rfl hl (by decide) rfl (fun ls hl => ?_)
  refine lv_iload_n hx hb dX2_append_13 rfl (lv_at hl 0 rfl) ?_
  refine lv_if_lt (tgt := 48) hx hb dX2_append_14 (by decide) (fun c1 => False.elim (by revert c1; decide)) (fun _ => ?_)
  refine lv_aload_n hx hb dX2_append_17 rfl (lv_at hl 1 rfl) ?_
  refine va_get (D := (dC, dI)) (ci := 2) (v := .ref (a 1)) (C := RX2) (T := TX2) (N := 8) hx hb hts in_k_X2_append_X2 hown hK hP 0 rfl rfl 0 (by decide) (hts _ (List.mem_cons_of_mem _ (List.mem_append_left _ (List.mem_append_left _ (List.mem_of_getElem? (i := 5) rfl))))) (fun _ h9 => h9) rfl dX2_append_18 ?_
  refine lv_aload_n hx hb dX2_append_21 rfl (lv_at hl 1 rfl) ?_
  refine va_get (D := (dC, dI)) (ci := 2) (v := .int 0) (C := RX2) (T := TX2) (N := 8) hx hb hts in_k_X2_append_X2 hown hK hP 0 rfl rfl 1 (by decide) (hts _ (List.mem_cons_of_mem _ (List.mem_append_left _ (List.mem_append_left _ (List.mem_of_getElem? (i := 0) rfl))))) (fun _ h9 => h9) rfl dX2_append_22 ?_
  refine lv_iload_n hx hb dX2_append_25 rfl (lv_at hl 2 rfl) ?_
  refine lv_iload_n hx hb dX2_append_26 rfl (lv_at hl 0 rfl) ?_
  refine lv_ishr hx hb dX2_append_27 ?_
  refine lv_i2b hx hb dX2_append_28 rfl ?_
  refine va_bast hx hb hK hP hD hS 1 0 rfl rfl (nb_in (by decide)) dX2_append_29 (fun H locs hP hD hS => ?_)
  have hP : va_P (dC, dI) nCl [((a 0), .inr (2, [.ref (a 1), .int 0, .int 0, .int 0, .int 0, .long 0, .long 0, .ref (a 2)])), ((a 1), .inl (cy 0, 1024, .inl (upd f9 0 (vp_nar .byte (((a9 >>> (24 &&& 31))).toInt8.toInt32)))))] H := hP
  have hD : va_D A [((a 0), .inr (2, [.ref (a 1), .int 0, .int 0, .int 0, .int 0, .long 0, .long 0, .ref (a 2)])), ((a 1), .inl (cy 0, 1024, .inl (upd f9 0 (vp_nar .byte (((a9 >>> (24 &&& 31))).toInt8.toInt32)))))] := hD
  refine lv_aload_n hx hb dX2_append_30 rfl (lv_at hl 1 rfl) ?_
  refine lv_dup hx hb dX2_append_31 rfl ?_
  refine va_get (D := (dC, dI)) (ci := 2) (v := .int 0) (C := RX2) (T := TX2) (N := 8) hx hb hts in_k_X2_append_X2 hown hK hP 0 rfl rfl 1 (by decide) (hts _ (List.mem_cons_of_mem _ (List.mem_append_left _ (List.mem_append_left _ (List.mem_of_getElem? (i := 0) rfl))))) (fun _ h9 => h9) rfl dX2_append_32 ?_
  refine lv_iconst (v := 1) hx hb dX2_append_35 (by decide) ?_
  refine lv_iadd hx hb dX2_append_36 ?_
  refine W.eq (g2 := F0 m 37 ls [.int 1, .ref (a 0)]) rfl ?_
  refine va_put (D := (dC, dI)) (ci := 2) (v := .int 1) (ty := .int) (C := RX2) (T := TX2) (N := 8) hx hb hts in_k_X2_append_X2 tyX2 tyX2_ok nmX2 hown hK hP hD hS 0 rfl rfl 1 (by decide) (hts _ (List.mem_cons_of_mem _ (List.mem_append_left _ (List.mem_append_left _ (List.mem_of_getElem? (i := 0) rfl))))) (fun _ h9 => h9) rfl (by decide +kernel) rfl rfl (Nat.le_of_ble_eq_true rfl) dX2_append_37 (fun H locs hP hD hS => ?_)
  have hP : va_P (dC, dI) nCl [((a 0), .inr (2, [.ref (a 1), .int 1, .int 0, .int 0, .int 0, .long 0, .long 0, .ref (a 2)])), ((a 1), .inl (cy 0, 1024, .inl (upd f9 0 (vp_nar .byte (((a9 >>> (24 &&& 31))).toInt8.toInt32)))))] H := hP
  have hD : va_D A [((a 0), .inr (2, [.ref (a 1), .int 1, .int 0, .int 0, .int 0, .long 0, .long 0, .ref (a 2)])), ((a 1), .inl (cy 0, 1024, .inl (upd f9 0 (vp_nar .byte (((a9 >>> (24 &&& 31))).toInt8.toInt32)))))] := hD
  refine lv_iload_n hx hb dX2_append_40 rfl (lv_at hl 0 rfl) ?_
  refine lv_bipush (v := 8) hx hb dX2_append_41 (by decide) ?_
  refine lv_isub hx hb dX2_append_43 ?_
  refine W.eq (g2 := F0 m 44 ls [.int 16]) rfl ?_
  refine lv_istore_n (lv' := [(2, .int 16), (0, .ref (a 0)), (1, .int a9)]) hx hb dX2_append_44 rfl hl (by decide) rfl (fun ls hl => ?_)
  refine lv_goto (tgt := 13) hx hb dX2_append_45 (by decide) ?_
  refine lv_iload_n hx hb dX2_append_13 rfl (lv_at hl 0 rfl) ?_
  refine lv_if_lt (tgt := 48) hx hb dX2_append_14 (by decide) (fun c1 => False.elim (by revert c1; decide)) (fun _ => ?_)
  refine lv_aload_n hx hb dX2_append_17 rfl (lv_at hl 1 rfl) ?_
  refine va_get (D := (dC, dI)) (ci := 2) (v := .ref (a 1)) (C := RX2) (T := TX2) (N := 8) hx hb hts in_k_X2_append_X2 hown hK hP 0 rfl rfl 0 (by decide) (hts _ (List.mem_cons_of_mem _ (List.mem_append_left _ (List.mem_append_left _ (List.mem_of_getElem? (i := 5) rfl))))) (fun _ h9 => h9) rfl dX2_append_18 ?_
  refine lv_aload_n hx hb dX2_append_21 rfl (lv_at hl 1 rfl) ?_
  refine va_get (D := (dC, dI)) (ci := 2) (v := .int 1) (C := RX2) (T := TX2) (N := 8) hx hb hts in_k_X2_append_X2 hown hK hP 0 rfl rfl 1 (by decide) (hts _ (List.mem_cons_of_mem _ (List.mem_append_left _ (List.mem_append_left _ (List.mem_of_getElem? (i := 0) rfl))))) (fun _ h9 => h9) rfl dX2_append_22 ?_
  refine lv_iload_n hx hb dX2_append_25 rfl (lv_at hl 2 rfl) ?_
  refine lv_iload_n hx hb dX2_append_26 rfl (lv_at hl 0 rfl) ?_
  refine lv_ishr hx hb dX2_append_27 ?_
  refine lv_i2b hx hb dX2_append_28 rfl ?_
  refine va_bast hx hb hK hP hD hS 1 0 rfl rfl (nb_in (by decide)) dX2_append_29 (fun H locs hP hD hS => ?_)
  have hP : va_P (dC, dI) nCl [((a 0), .inr (2, [.ref (a 1), .int 1, .int 0, .int 0, .int 0, .long 0, .long 0, .ref (a 2)])), ((a 1), .inl (cy 0, 1024, .inl (upd (upd f9 0 (vp_nar .byte (((a9 >>> (24 &&& 31))).toInt8.toInt32))) 1 (vp_nar .byte (((a9 >>> (16 &&& 31))).toInt8.toInt32)))))] H := hP
  have hD : va_D A [((a 0), .inr (2, [.ref (a 1), .int 1, .int 0, .int 0, .int 0, .long 0, .long 0, .ref (a 2)])), ((a 1), .inl (cy 0, 1024, .inl (upd (upd f9 0 (vp_nar .byte (((a9 >>> (24 &&& 31))).toInt8.toInt32))) 1 (vp_nar .byte (((a9 >>> (16 &&& 31))).toInt8.toInt32)))))] := hD
  refine lv_aload_n hx hb dX2_append_30 rfl (lv_at hl 1 rfl) ?_
  refine lv_dup hx hb dX2_append_31 rfl ?_
  refine va_get (D := (dC, dI)) (ci := 2) (v := .int 1) (C := RX2) (T := TX2) (N := 8) hx hb hts in_k_X2_append_X2 hown hK hP 0 rfl rfl 1 (by decide) (hts _ (List.mem_cons_of_mem _ (List.mem_append_left _ (List.mem_append_left _ (List.mem_of_getElem? (i := 0) rfl))))) (fun _ h9 => h9) rfl dX2_append_32 ?_
  refine lv_iconst (v := 1) hx hb dX2_append_35 (by decide) ?_
  refine lv_iadd hx hb dX2_append_36 ?_
  refine W.eq (g2 := F0 m 37 ls [.int 2, .ref (a 0)]) rfl ?_
  refine va_put (D := (dC, dI)) (ci := 2) (v := .int 2) (ty := .int) (C := RX2) (T := TX2) (N := 8) hx hb hts in_k_X2_append_X2 tyX2 tyX2_ok nmX2 hown hK hP hD hS 0 rfl rfl 1 (by decide) (hts _ (List.mem_cons_of_mem _ (List.mem_append_left _ (List.mem_append_left _ (List.mem_of_getElem? (i := 0) rfl))))) (fun _ h9 => h9) rfl (by decide +kernel) rfl rfl (Nat.le_of_ble_eq_true rfl) dX2_append_37 (fun H locs hP hD hS => ?_)
  have hP : va_P (dC, dI) nCl [((a 0), .inr (2, [.ref (a 1), .int 2, .int 0, .int 0, .int 0, .long 0, .long 0, .ref (a 2)])), ((a 1), .inl (cy 0, 1024, .inl (upd (upd f9 0 (vp_nar .byte (((a9 >>> (24 &&& 31))).toInt8.toInt32))) 1 (vp_nar .byte (((a9 >>> (16 &&& 31))).toInt8.toInt32)))))] H := hP
  have hD : va_D A [((a 0), .inr (2, [.ref (a 1), .int 2, .int 0, .int 0, .int 0, .long 0, .long 0, .ref (a 2)])), ((a 1), .inl (cy 0, 1024, .inl (upd (upd f9 0 (vp_nar .byte (((a9 >>> (24 &&& 31))).toInt8.toInt32))) 1 (vp_nar .byte (((a9 >>> (16 &&& 31))).toInt8.toInt32)))))] := hD
  refine lv_iload_n hx hb dX2_append_40 rfl (lv_at hl 0 rfl) ?_
  refine lv_bipush (v := 8) hx hb dX2_append_41 (by decide) ?_
  refine lv_isub hx hb dX2_append_43 ?_
  refine W.eq (g2 := F0 m 44 ls [.int 8]) rfl ?_
  refine lv_istore_n (lv' := [(2, .int 8), (0, .ref (a 0)), (1, .int a9)]) hx hb dX2_append_44 rfl hl (by decide) rfl (fun ls hl => ?_)
  refine lv_goto (tgt := 13) hx hb dX2_append_45 (by decide) ?_
  refine lv_iload_n hx hb dX2_append_13 rfl (lv_at hl 0 rfl) ?_
  refine lv_if_lt (tgt := 48) hx hb dX2_append_14 (by decide) (fun c1 => False.elim (by revert c1; decide)) (fun _ => ?_)
  refine lv_aload_n hx hb dX2_append_17 rfl (lv_at hl 1 rfl) ?_
  refine va_get (D := (dC, dI)) (ci := 2) (v := .ref (a 1)) (C := RX2) (T := TX2) (N := 8) hx hb hts in_k_X2_append_X2 hown hK hP 0 rfl rfl 0 (by decide) (hts _ (List.mem_cons_of_mem _ (List.mem_append_left _ (List.mem_append_left _ (List.mem_of_getElem? (i := 5) rfl))))) (fun _ h9 => h9) rfl dX2_append_18 ?_
  refine lv_aload_n hx hb dX2_append_21 rfl (lv_at hl 1 rfl) ?_
  refine va_get (D := (dC, dI)) (ci := 2) (v := .int 2) (C := RX2) (T := TX2) (N := 8) hx hb hts in_k_X2_append_X2 hown hK hP 0 rfl rfl 1 (by decide) (hts _ (List.mem_cons_of_mem _ (List.mem_append_left _ (List.mem_append_left _ (List.mem_of_getElem? (i := 0) rfl))))) (fun _ h9 => h9) rfl dX2_append_22 ?_
  refine lv_iload_n hx hb dX2_append_25 rfl (lv_at hl 2 rfl) ?_
  refine lv_iload_n hx hb dX2_append_26 rfl (lv_at hl 0 rfl) ?_
  refine lv_ishr hx hb dX2_append_27 ?_
  refine lv_i2b hx hb dX2_append_28 rfl ?_
  refine va_bast hx hb hK hP hD hS 1 0 rfl rfl (nb_in (by decide)) dX2_append_29 (fun H locs hP hD hS => ?_)
  have hP : va_P (dC, dI) nCl [((a 0), .inr (2, [.ref (a 1), .int 2, .int 0, .int 0, .int 0, .long 0, .long 0, .ref (a 2)])), ((a 1), .inl (cy 0, 1024, .inl (upd (upd (upd f9 0 (vp_nar .byte (((a9 >>> (24 &&& 31))).toInt8.toInt32))) 1 (vp_nar .byte (((a9 >>> (16 &&& 31))).toInt8.toInt32))) 2 (vp_nar .byte (((a9 >>> (8 &&& 31))).toInt8.toInt32)))))] H := hP
  have hD : va_D A [((a 0), .inr (2, [.ref (a 1), .int 2, .int 0, .int 0, .int 0, .long 0, .long 0, .ref (a 2)])), ((a 1), .inl (cy 0, 1024, .inl (upd (upd (upd f9 0 (vp_nar .byte (((a9 >>> (24 &&& 31))).toInt8.toInt32))) 1 (vp_nar .byte (((a9 >>> (16 &&& 31))).toInt8.toInt32))) 2 (vp_nar .byte (((a9 >>> (8 &&& 31))).toInt8.toInt32)))))] := hD
  refine lv_aload_n hx hb dX2_append_30 rfl (lv_at hl 1 rfl) ?_
  refine lv_dup hx hb dX2_append_31 rfl ?_
  refine va_get (D := (dC, dI)) (ci := 2) (v := .int 2) (C := RX2) (T := TX2) (N := 8) hx hb hts in_k_X2_append_X2 hown hK hP 0 rfl rfl 1 (by decide) (hts _ (List.mem_cons_of_mem _ (List.mem_append_left _ (List.mem_append_left _ (List.mem_of_getElem? (i := 0) rfl))))) (fun _ h9 => h9) rfl dX2_append_32 ?_
  refine lv_iconst (v := 1) hx hb dX2_append_35 (by decide) ?_
  refine lv_iadd hx hb dX2_append_36 ?_
  refine W.eq (g2 := F0 m 37 ls [.int 3, .ref (a 0)]) rfl ?_
  refine va_put (D := (dC, dI)) (ci := 2) (v := .int 3) (ty := .int) (C := RX2) (T := TX2) (N := 8) hx hb hts in_k_X2_append_X2 tyX2 tyX2_ok nmX2 hown hK hP hD hS 0 rfl rfl 1 (by decide) (hts _ (List.mem_cons_of_mem _ (List.mem_append_left _ (List.mem_append_left _ (List.mem_of_getElem? (i := 0) rfl))))) (fun _ h9 => h9) rfl (by decide +kernel) rfl rfl (Nat.le_of_ble_eq_true rfl) dX2_append_37 (fun H locs hP hD hS => ?_)
  have hP : va_P (dC, dI) nCl [((a 0), .inr (2, [.ref (a 1), .int 3, .int 0, .int 0, .int 0, .long 0, .long 0, .ref (a 2)])), ((a 1), .inl (cy 0, 1024, .inl (upd (upd (upd f9 0 (vp_nar .byte (((a9 >>> (24 &&& 31))).toInt8.toInt32))) 1 (vp_nar .byte (((a9 >>> (16 &&& 31))).toInt8.toInt32))) 2 (vp_nar .byte (((a9 >>> (8 &&& 31))).toInt8.toInt32)))))] H := hP
  have hD : va_D A [((a 0), .inr (2, [.ref (a 1), .int 3, .int 0, .int 0, .int 0, .long 0, .long 0, .ref (a 2)])), ((a 1), .inl (cy 0, 1024, .inl (upd (upd (upd f9 0 (vp_nar .byte (((a9 >>> (24 &&& 31))).toInt8.toInt32))) 1 (vp_nar .byte (((a9 >>> (16 &&& 31))).toInt8.toInt32))) 2 (vp_nar .byte (((a9 >>> (8 &&& 31))).toInt8.toInt32)))))] := hD
  refine lv_iload_n hx hb dX2_append_40 rfl (lv_at hl 0 rfl) ?_
  refine lv_bipush (v := 8) hx hb dX2_append_41 (by decide) ?_
  refine lv_isub hx hb dX2_append_43 ?_
  refine W.eq (g2 := F0 m 44 ls [.int 0]) rfl ?_
  refine lv_istore_n (lv' := [(2, .int 0), (0, .ref (a 0)), (1, .int a9)]) hx hb dX2_append_44 rfl hl (by decide) rfl (fun ls hl => ?_)
  refine lv_goto (tgt := 13) hx hb dX2_append_45 (by decide) ?_
  refine lv_iload_n hx hb dX2_append_13 rfl (lv_at hl 0 rfl) ?_
  refine lv_if_lt (tgt := 48) hx hb dX2_append_14 (by decide) (fun c1 => False.elim (by revert c1; decide)) (fun _ => ?_)
  refine lv_aload_n hx hb dX2_append_17 rfl (lv_at hl 1 rfl) ?_
  refine va_get (D := (dC, dI)) (ci := 2) (v := .ref (a 1)) (C := RX2) (T := TX2) (N := 8) hx hb hts in_k_X2_append_X2 hown hK hP 0 rfl rfl 0 (by decide) (hts _ (List.mem_cons_of_mem _ (List.mem_append_left _ (List.mem_append_left _ (List.mem_of_getElem? (i := 5) rfl))))) (fun _ h9 => h9) rfl dX2_append_18 ?_
  refine lv_aload_n hx hb dX2_append_21 rfl (lv_at hl 1 rfl) ?_
  refine va_get (D := (dC, dI)) (ci := 2) (v := .int 3) (C := RX2) (T := TX2) (N := 8) hx hb hts in_k_X2_append_X2 hown hK hP 0 rfl rfl 1 (by decide) (hts _ (List.mem_cons_of_mem _ (List.mem_append_left _ (List.mem_append_left _ (List.mem_of_getElem? (i := 0) rfl))))) (fun _ h9 => h9) rfl dX2_append_22 ?_
  refine lv_iload_n hx hb dX2_append_25 rfl (lv_at hl 2 rfl) ?_
  refine lv_iload_n hx hb dX2_append_26 rfl (lv_at hl 0 rfl) ?_
  refine lv_ishr hx hb dX2_append_27 ?_
  refine lv_i2b hx hb dX2_append_28 rfl ?_
  refine va_bast hx hb hK hP hD hS 1 0 rfl rfl (nb_in (by decide)) dX2_append_29 (fun H locs hP hD hS => ?_)
  have hP : va_P (dC, dI) nCl [((a 0), .inr (2, [.ref (a 1), .int 3, .int 0, .int 0, .int 0, .long 0, .long 0, .ref (a 2)])), ((a 1), .inl (cy 0, 1024, .inl (upd (upd (upd (upd f9 0 (vp_nar .byte (((a9 >>> (24 &&& 31))).toInt8.toInt32))) 1 (vp_nar .byte (((a9 >>> (16 &&& 31))).toInt8.toInt32))) 2 (vp_nar .byte (((a9 >>> (8 &&& 31))).toInt8.toInt32))) 3 (vp_nar .byte (((a9 >>> (0 &&& 31))).toInt8.toInt32)))))] H := hP
  have hD : va_D A [((a 0), .inr (2, [.ref (a 1), .int 3, .int 0, .int 0, .int 0, .long 0, .long 0, .ref (a 2)])), ((a 1), .inl (cy 0, 1024, .inl (upd (upd (upd (upd f9 0 (vp_nar .byte (((a9 >>> (24 &&& 31))).toInt8.toInt32))) 1 (vp_nar .byte (((a9 >>> (16 &&& 31))).toInt8.toInt32))) 2 (vp_nar .byte (((a9 >>> (8 &&& 31))).toInt8.toInt32))) 3 (vp_nar .byte (((a9 >>> (0 &&& 31))).toInt8.toInt32)))))] := hD
  refine lv_aload_n hx hb dX2_append_30 rfl (lv_at hl 1 rfl) ?_
  refine lv_dup hx hb dX2_append_31 rfl ?_
  refine va_get (D := (dC, dI)) (ci := 2) (v := .int 3) (C := RX2) (T := TX2) (N := 8) hx hb hts in_k_X2_append_X2 hown hK hP 0 rfl rfl 1 (by decide) (hts _ (List.mem_cons_of_mem _ (List.mem_append_left _ (List.mem_append_left _ (List.mem_of_getElem? (i := 0) rfl))))) (fun _ h9 => h9) rfl dX2_append_32 ?_
  refine lv_iconst (v := 1) hx hb dX2_append_35 (by decide) ?_
  refine lv_iadd hx hb dX2_append_36 ?_
  refine W.eq (g2 := F0 m 37 ls [.int 4, .ref (a 0)]) rfl ?_
  refine va_put (D := (dC, dI)) (ci := 2) (v := .int 4) (ty := .int) (C := RX2) (T := TX2) (N := 8) hx hb hts in_k_X2_append_X2 tyX2 tyX2_ok nmX2 hown hK hP hD hS 0 rfl rfl 1 (by decide) (hts _ (List.mem_cons_of_mem _ (List.mem_append_left _ (List.mem_append_left _ (List.mem_of_getElem? (i := 0) rfl))))) (fun _ h9 => h9) rfl (by decide +kernel) rfl rfl (Nat.le_of_ble_eq_true rfl) dX2_append_37 (fun H locs hP hD hS => ?_)
  have hP : va_P (dC, dI) nCl [((a 0), .inr (2, [.ref (a 1), .int 4, .int 0, .int 0, .int 0, .long 0, .long 0, .ref (a 2)])), ((a 1), .inl (cy 0, 1024, .inl (upd (upd (upd (upd f9 0 (vp_nar .byte (((a9 >>> (24 &&& 31))).toInt8.toInt32))) 1 (vp_nar .byte (((a9 >>> (16 &&& 31))).toInt8.toInt32))) 2 (vp_nar .byte (((a9 >>> (8 &&& 31))).toInt8.toInt32))) 3 (vp_nar .byte (((a9 >>> (0 &&& 31))).toInt8.toInt32)))))] H := hP
  have hD : va_D A [((a 0), .inr (2, [.ref (a 1), .int 4, .int 0, .int 0, .int 0, .long 0, .long 0, .ref (a 2)])), ((a 1), .inl (cy 0, 1024, .inl (upd (upd (upd (upd f9 0 (vp_nar .byte (((a9 >>> (24 &&& 31))).toInt8.toInt32))) 1 (vp_nar .byte (((a9 >>> (16 &&& 31))).toInt8.toInt32))) 2 (vp_nar .byte (((a9 >>> (8 &&& 31))).toInt8.toInt32))) 3 (vp_nar .byte (((a9 >>> (0 &&& 31))).toInt8.toInt32)))))] := hD
  refine lv_iload_n hx hb dX2_append_40 rfl (lv_at hl 0 rfl) ?_
  refine lv_bipush (v := 8) hx hb dX2_append_41 (by decide) ?_
  refine lv_isub hx hb dX2_append_43 ?_
  refine W.eq (g2 := F0 m 44 ls [.int (-8)]) rfl ?_
  refine lv_istore_n (lv' := [(2, .int (-8)), (0, .ref (a 0)), (1, .int a9)]) hx hb dX2_append_44 rfl hl (by decide) rfl (fun ls hl => ?_)
  refine lv_goto (tgt := 13) hx hb dX2_append_45 (by decide) ?_
  refine lv_iload_n hx hb dX2_append_13 rfl (lv_at hl 0 rfl) ?_
  refine lv_if_lt (tgt := 48) hx hb dX2_append_14 (by decide) (fun _ => ?_) (fun c1 => False.elim (by revert c1; decide))
  have hP : va_P (dC, dI) nCl (v1_k_X2_append cy a a9 f9 (fun _ => 0)) H := hP
  have hD : va_D A (v1_k_X2_append cy a a9 f9 (fun _ => 0)) := hD
  exact W.vret hx hb hr (fun t ht hW => ⟨⟨(fun _ => 0), rfl, trivial, by rw [ht]; exact hP, va_K.moved hW.alike hK, hD⟩, hS.F ht⟩) hS.2.2 dX2_append_48
def o_k_X11_widenedBytes_3 : List Cond := []
theorem o_k_X11_widenedBytes_3_good : o_k_X11_widenedBytes_3.all goodWord = true := by decide +kernel
def p_k_X11_widenedBytes_3 : List Cond := o_k_X11_widenedBytes_3 ++ []
theorem p_k_X11_widenedBytes_3_good : p_k_X11_widenedBytes_3.all goodWord = true := nb_all2 o_k_X11_widenedBytes_3_good rfl
def w_k_X11_widenedBytes_3 : List Cond := .code yX11_widenedBytes cX11_widenedBytes 3 (some (.array .byte)) :: (p_k_X11_widenedBytes_3 ++ fC)
theorem w_k_X11_widenedBytes_3_good : w_k_X11_widenedBytes_3.all goodWord = true := nb_allc (by decide +kernel) (nb_all2 p_k_X11_widenedBytes_3_good fC_good)
def v0_k_X11_widenedBytes_3 (cy : Nat → ClassId) (a : Nat → Nat) (f9 : Nat → Int32) : va_W := [((a 0), .inl (cy 0, 1024, .inl f9))]
def v1_k_X11_widenedBytes_3 (cy : Nat → ClassId) (a : Nat → Nat) (f9 : Nat → Int32) (r : Nat → Nat) : va_W := [((a 0), .inl (cy 0, 1024, .inl f9))]
set_option maxHeartbeats 40000000 in
set_option maxRecDepth 100000 in
theorem k_X11_widenedBytes_3 (l : Launch) (dC : Nat → ClassId) (dI : Nat → Nat → Nat) (cy : Nat → ClassId) (k : Nat → Nat) (a : Nat → Nat) (f9 : Nat → Int32) (sz : Nat) : Met l yX11_widenedBytes w_k_X11_widenedBytes_3 ({ frames := 0, cells := 0, slots := 0, locals := 0 }) (va_Pc [.ref (a 0), .int 8, .int 10242] (nInE (dC, dI) cy k sz (v0_k_X11_widenedBytes_3 cy a f9))) (va_Qr (fun _ : Nat → Nat => True) (fun r q t => q = (a 0) ∧ nOut (dC, dI) cy (va_A (v0_k_X11_widenedBytes_3 cy a f9) sz) (v1_k_X11_widenedBytes_3 cy a f9 r) t) (va_A (v0_k_X11_widenedBytes_3 cy a f9) sz)) 0 0 (va_A (v0_k_X11_widenedBytes_3 cy a f9) sz) := by
  refine Met.ofW (cc := cX11_widenedBytes) (maxL := 3) (ret := (some (.array .byte))) (by decide) rfl ?_
  intro p e s m args below meth c s₁ B hml hv
  obtain ⟨rfl, ⟨hsz, hP, hK, hD0, hG⟩, hE⟩ := hv
  have hx := B.exec
  have hb := B.bytes
  have hr := B.returns
  have hts := atoms_spec (ws := w_k_X11_widenedBytes_3) B.pre
  have hown : s.vm.findClass RX11 = some m.cls := findClass_of_methodNamed B.named
  have hlocks := B.notSynchronized
  subst hsz
  have hD := hD0.self (sz := s.heap.size)
  generalize hAe : va_A (v0_k_X11_widenedBytes_3 cy a f9) s.heap.size = A at hD hE ⊢
  have hA : ∀ q : Nat, s.heap.size ≤ q → A q := fun q h => by rw [← hAe]; exact Or.inr h
  have hS : va_S A s.heap s.heap [] := va_S.rf
  have hP : va_P (dC, dI) nCl (v0_k_X11_widenedBytes_3 cy a f9) s.heap := hP
  have hl := lv_entry ([.ref (a 0), .int 8, .int 10242]) (n := 3) (Nat.le_of_ble_eq_true rfl)
  rw [lg_entry_eq]
  generalize (lg_sl ([.ref (a 0), .int 8, .int 10242]) ++ List.replicate (3 - (lg_sl ([.ref (a 0), .int 8, .int 10242])).length) Slot.unset).toArray = ls at hl ⊢
  have hl : lv_has ls 3 [(0, .ref (a 0)), (1, .int 8), (2, .int 10242)] := hl
  have hP : va_P (dC, dI) nCl [((a 0), .inl (cy 0, 1024, .inl f9))] s.heap := hP
  have hD : va_D A [((a 0), .inl (cy 0, 1024, .inl f9))] := hD
  refine lv_iload_n hx hb dX11_widenedBytes_0 rfl (lv_at hl 1 rfl) ?_
  refine lv_aload_n hx hb dX11_widenedBytes_1 rfl (lv_at hl 0 rfl) ?_
  refine va_alen hx hb hK hP 0 0 rfl rfl (v := 1024) rfl dX11_widenedBytes_2 ?_
  refine lv_icmp_le (tgt := 20) hx hb dX11_widenedBytes_3 (by decide) (fun _ => ?_) (fun c1 => False.elim (by revert c1; decide))
  refine lv_aload_n hx hb dX11_widenedBytes_20 rfl (lv_at hl 0 rfl) ?_
  have hP : va_P (dC, dI) nCl (v1_k_X11_widenedBytes_3 cy a f9 (fun _ => 0)) s.heap := hP
  have hD : va_D A (v1_k_X11_widenedBytes_3 cy a f9 (fun _ => 0)) := hD
  exact W.aret hx hb hr (Or.inr ⟨_, rfl⟩) (Or.inr ⟨_, rfl⟩) (fun t ht hW => ⟨⟨(fun _ => 0), (a 0), rfl, trivial, rfl, by rw [ht]; exact hP, va_K.moved hW.alike hK, hD⟩, hS.F ht⟩) hS.2.2 dX11_widenedBytes_21
def o_k_X2_widen_3 : List Cond := [.fieldLink RX2 11 "SetHouse$Lexer" "tape" "[B", .initialized RX11, .static yX11_widenedBytes]
theorem o_k_X2_widen_3_good : o_k_X2_widen_3.all goodWord = true := by decide +kernel
def p_k_X2_widen_3 : List Cond := o_k_X2_widen_3 ++ ((.code yX11_widenedBytes cX11_widenedBytes 3 (some (.array .byte)) :: p_k_X11_widenedBytes_3) ++ [])
theorem p_k_X2_widen_3_good : p_k_X2_widen_3.all goodWord = true := nb_all2 o_k_X2_widen_3_good (nb_all2 (nb_allc (by decide +kernel) p_k_X11_widenedBytes_3_good) rfl)
def w_k_X2_widen_3 : List Cond := .code yX2_widen cX2_widen 2 none :: (p_k_X2_widen_3 ++ fC)
theorem w_k_X2_widen_3_good : w_k_X2_widen_3.all goodWord = true := nb_allc (by decide +kernel) (nb_all2 p_k_X2_widen_3_good fC_good)
theorem in_k_X2_widen_3_X2 : ∀ w ∈ wsX20, w ∈ w_k_X2_widen_3 := fun _ h => List.mem_cons_of_mem _ (List.mem_append_right _ (List.mem_append_right _ (List.mem_append_right _ (List.mem_append_left _ h))))
theorem gg_k_X2_widen_3_k_X11_widenedBytes_3 : GoodIn w_k_X2_widen_3 w_k_X11_widenedBytes_3 := goodIn_sub (fun w h => (List.mem_cons.mp h).elim (fun e => (List.mem_cons_of_mem _ (List.mem_append_left _ (List.mem_append_right _ (List.mem_append_left _ (List.mem_cons.mpr (Or.inl e))))))) (fun h => (List.mem_append.mp h).elim (fun h => (List.mem_cons_of_mem _ (List.mem_append_left _ (List.mem_append_right _ (List.mem_append_left _ (List.mem_cons_of_mem _ h)))))) (fun h => List.mem_cons_of_mem _ (List.mem_append_right _ h)))) w_k_X11_widenedBytes_3_good
theorem g_k_X2_widen_3_39_k_X11_widenedBytes_3 : GoodIn w_k_X2_widen_3 w_k_X11_widenedBytes_3 := gg_k_X2_widen_3_k_X11_widenedBytes_3
def v0_k_X2_widen_3 (cy : Nat → ClassId) (a : Nat → Nat) (f9 : Nat → Int32) : va_W := [((a 0), .inr (2, [.ref (a 1), .int 4, .int 0, .int 0, .int 0, .long 0, .long 0, .ref (a 2)])), ((a 1), .inl (cy 0, 1024, .inl f9))]
def v1_k_X2_widen_3 (cy : Nat → ClassId) (a : Nat → Nat) (f9 : Nat → Int32) (r : Nat → Nat) : va_W := [((a 0), .inr (2, [.ref (a 1), .int 4, .int 0, .int 0, .int 0, .long 0, .long 0, .ref (a 2)])), ((a 1), .inl (cy 0, 1024, .inl f9))]
set_option maxHeartbeats 40000000 in
set_option maxRecDepth 100000 in
theorem k_X2_widen_3 (l : Launch) (dC : Nat → ClassId) (dI : Nat → Nat → Nat) (cy : Nat → ClassId) (k : Nat → Nat) (a : Nat → Nat) (f9 : Nat → Int32) (sz : Nat) : Met l yX2_widen w_k_X2_widen_3 ({ frames := 1, cells := 0, slots := 0, locals := 22 }) (va_Pc [.ref (a 0), .int 8] (nInE (dC, dI) cy k sz (v0_k_X2_widen_3 cy a f9))) (va_Qv (fun _ : Nat → Nat => True) (fun r t => nOut (dC, dI) cy (va_A (v0_k_X2_widen_3 cy a f9) sz) (v1_k_X2_widen_3 cy a f9 r) t) (va_A (v0_k_X2_widen_3 cy a f9) sz)) 0 0 (va_A (v0_k_X2_widen_3 cy a f9) sz) := by
  refine Met.ofW (cc := cX2_widen) (maxL := 2) (ret := none) (by decide) rfl ?_
  intro p e s m args below meth c s₁ B hml hv
  obtain ⟨rfl, ⟨hsz, hP, hK, hD0, hG⟩, hE⟩ := hv
  have hx := B.exec
  have hb := B.bytes
  have hr := B.returns
  have hts := atoms_spec (ws := w_k_X2_widen_3) B.pre
  have hown : s.vm.findClass RX2 = some m.cls := findClass_of_methodNamed B.named
  have hlocks := B.notSynchronized
  subst hsz
  have hD := hD0.self (sz := s.heap.size)
  generalize hAe : va_A (v0_k_X2_widen_3 cy a f9) s.heap.size = A at hD hE ⊢
  have hA : ∀ q : Nat, s.heap.size ≤ q → A q := fun q h => by rw [← hAe]; exact Or.inr h
  have hS : va_S A s.heap s.heap [] := va_S.rf
  have hP : va_P (dC, dI) nCl (v0_k_X2_widen_3 cy a f9) s.heap := hP
  have hl := lv_entry ([.ref (a 0), .int 8]) (n := 2) (Nat.le_of_ble_eq_true rfl)
  rw [lg_entry_eq]
  generalize (lg_sl ([.ref (a 0), .int 8]) ++ List.replicate (2 - (lg_sl ([.ref (a 0), .int 8])).length) Slot.unset).toArray = ls at hl ⊢
  have hl : lv_has ls 2 [(0, .ref (a 0)), (1, .int 8)] := hl
  have hP : va_P (dC, dI) nCl [((a 0), .inr (2, [.ref (a 1), .int 4, .int 0, .int 0, .int 0, .long 0, .long 0, .ref (a 2)])), ((a 1), .inl (cy 0, 1024, .inl f9))] s.heap := hP
  have hD : va_D A [((a 0), .inr (2, [.ref (a 1), .int 4, .int 0, .int 0, .int 0, .long 0, .long 0, .ref (a 2)])), ((a 1), .inl (cy 0, 1024, .inl f9))] := hD
  refine lv_aload_n hx hb dX2_widen_0 rfl (lv_at hl 0 rfl) ?_
  refine lv_aload_n hx hb dX2_widen_1 rfl (lv_at hl 0 rfl) ?_
  refine va_get (D := (dC, dI)) (ci := 2) (v := .ref (a 1)) (C := RX2) (T := TX2) (N := 8) hx hb hts in_k_X2_widen_3_X2 hown hK hP 0 rfl rfl 0 (by decide) (hts _ (List.mem_cons_of_mem _ (List.mem_append_left _ (List.mem_append_left _ (List.mem_of_getElem? (i := 0) rfl))))) (fun _ h9 => h9) rfl dX2_widen_2 ?_
  refine lv_iload_n hx hb dX2_widen_5 rfl (lv_at hl 1 rfl) ?_
  refine lv_iload_n hx hb dX2_widen_6 rfl (lv_at hl 1 rfl) ?_
  refine lv_sipush (v := 10242) hx hb dX2_widen_7 (by decide) ?_
  refine lv_icmp_gt (tgt := 19) hx hb dX2_widen_10 (by decide) (fun c1 => False.elim (by revert c1; decide)) (fun _ => ?_)
  refine lv_sipush (v := 10242) hx hb dX2_widen_13 (by decide) ?_
  refine lv_goto (tgt := 21) hx hb dX2_widen_16 (by decide) ?_
  have hPc := hP.sub (ws' := [((a 1), .inl (cy 0, 1024, .inl f9))]) [1] rfl
  have hPc : va_P (dC, dI) nCl (v0_k_X11_widenedBytes_3 cy (fun j9 => [(a 1)].getD j9 0) f9) s.heap := hPc
  have hDc := hD.sub (ws' := [((a 1), .inl (cy 0, 1024, .inl f9))]) [1] (by decide) rfl
  have hDc : va_D A (v0_k_X11_widenedBytes_3 cy (fun j9 => [(a 1)].getD j9 0) f9) := hDc
  have hFc := va_free (wc := (v0_k_X11_widenedBytes_3 cy (fun j9 => [(a 1)].getD j9 0) f9)) hD hS hA [1] rfl
  refine va_callr (va_runSN (As := [.ref (a 1), .int 8, .int 10242]) (rest := [.ref (a 0)]) ⟨hx, hb, hml, hown, hts⟩ (k_X11_widenedBytes_3 l dC dI cy k (fun j9 => [(a 1)].getD j9 0) f9 s.heap.size) ⟨va_cnB 3 hts g_k_X2_widen_3_39_k_X11_widenedBytes_3 rfl rfl rfl (hG.1 _ (List.mem_of_getElem? (i := 95) rfl)) (hts _ (List.mem_cons_of_mem _ (List.mem_append_left _ (List.mem_append_left _ (List.mem_of_getElem? (i := 1) rfl))))) (by decide +kernel) ⟨Nat.le_of_ble_eq_true rfl, Nat.le_of_ble_eq_true rfl⟩, (hts _ (List.mem_cons_of_mem _ (List.mem_append_left _ (List.mem_append_left _ (List.mem_of_getElem? (i := 2) rfl))))), trivial⟩ ⟨nb_blindE, fun U hU hW => ⟨rfl, ⟨by rw [hU], by rw [hU]; exact hPc, va_K.moved hW.alike hK, hDc.weaken (fun _ _ _ _ => trivial), hG.warm hW⟩, nE.to hE hS hW hU hFc⟩⟩ rfl rfl hl.1 rfl (lv_room (Nat.le_of_ble_eq_true rfl)) dX2_widen_21 ⟨Nat.le_of_ble_eq_true rfl, Nat.le_of_ble_eq_true rfl⟩) hS (fun q _ h => hFc q h) hFc (fun u1 r_1 t H1 locs ht hvm hw hB hz1 hk1 hS => ?_)
  obtain ⟨hra, hP1, hK1, hD1⟩ := hB
  subst hra
  rw [ht] at hP1
  obtain ⟨hP, hD⟩ := va_join (wr := [((a 0), .inr (2, [.ref (a 1), .int 4, .int 0, .int 0, .int 0, .long 0, .long 0, .ref (a 2)]))]) (w1 := v1_k_X11_widenedBytes_3 cy (fun j9 => [(a 1)].getD j9 0) f9 u1) hP hD [1] [0] rfl rfl (by decide) (by decide) hk1 hFc hP1 hD1
  generalize H1 = H at hP hS ⊢
  have hP : va_P (dC, dI) nCl [((a 0), .inr (2, [.ref (a 1), .int 4, .int 0, .int 0, .int 0, .long 0, .long 0, .ref (a 2)])), ((a 1), .inl (cy 0, 1024, .inl f9))] H := hP
  have hD : va_D A [((a 0), .inr (2, [.ref (a 1), .int 4, .int 0, .int 0, .int 0, .long 0, .long 0, .ref (a 2)])), ((a 1), .inl (cy 0, 1024, .inl f9))] := hD
  refine va_put (D := (dC, dI)) (ci := 2) (v := .ref (a 1)) (ty := .array .byte) (C := RX2) (T := TX2) (N := 8) hx hb hts in_k_X2_widen_3_X2 tyX2 tyX2_ok nmX2 hown hK hP hD hS 0 rfl rfl 0 (by decide) (hts _ (List.mem_cons_of_mem _ (List.mem_append_left _ (List.mem_append_left _ (List.mem_of_getElem? (i := 0) rfl))))) (fun _ h9 => h9) rfl (by decide +kernel) rfl rfl (Nat.le_of_ble_eq_true rfl) dX2_widen_24 (fun H locs hP hD hS => ?_)
  have hP : va_P (dC, dI) nCl [((a 0), .inr (2, [.ref (a 1), .int 4, .int 0, .int 0, .int 0, .long 0, .long 0, .ref (a 2)])), ((a 1), .inl (cy 0, 1024, .inl f9))] H := hP
  have hD : va_D A [((a 0), .inr (2, [.ref (a 1), .int 4, .int 0, .int 0, .int 0, .long 0, .long 0, .ref (a 2)])), ((a 1), .inl (cy 0, 1024, .inl f9))] := hD
  have hP : va_P (dC, dI) nCl (v1_k_X2_widen_3 cy a f9 (fun _ => 0)) H := hP
  have hD : va_D A (v1_k_X2_widen_3 cy a f9 (fun _ => 0)) := hD
  exact W.vret hx hb hr (fun t ht hW => ⟨⟨(fun _ => 0), rfl, trivial, by rw [ht]; exact hP, va_K.moved hW.alike hK, hD⟩, hS.F ht⟩) hS.2.2 dX2_widen_27
def o_k_X2_append_2 : List Cond := [.fieldLink RX2 31 "SetHouse$Lexer" "length" "I", .methodLink RX2 34 yX2_widen, .instanceMethod yX2_widen, .selects RX2 yX2_widen yX2_widen, .initialized RX2, .fieldLink RX2 11 "SetHouse$Lexer" "tape" "[B"]
theorem o_k_X2_append_2_good : o_k_X2_append_2.all goodWord = true := by decide +kernel
def p_k_X2_append_2 : List Cond := o_k_X2_append_2 ++ ((.code yX2_widen cX2_widen 2 none :: p_k_X2_widen_3) ++ [])
theorem p_k_X2_append_2_good : p_k_X2_append_2.all goodWord = true := nb_all2 o_k_X2_append_2_good (nb_all2 (nb_allc (by decide +kernel) p_k_X2_widen_3_good) rfl)
def w_k_X2_append_2 : List Cond := .code yX2_append cX2_append 3 none :: (p_k_X2_append_2 ++ fC)
theorem w_k_X2_append_2_good : w_k_X2_append_2.all goodWord = true := nb_allc (by decide +kernel) (nb_all2 p_k_X2_append_2_good fC_good)
theorem in_k_X2_append_2_X2 : ∀ w ∈ wsX20, w ∈ w_k_X2_append_2 := fun _ h => List.mem_cons_of_mem _ (List.mem_append_right _ (List.mem_append_right _ (List.mem_append_right _ (List.mem_append_left _ h))))
theorem gg_k_X2_append_2_k_X2_widen_3 : GoodIn w_k_X2_append_2 w_k_X2_widen_3 := goodIn_sub (fun w h => (List.mem_cons.mp h).elim (fun e => (List.mem_cons_of_mem _ (List.mem_append_left _ (List.mem_append_right _ (List.mem_append_left _ (List.mem_cons.mpr (Or.inl e))))))) (fun h => (List.mem_append.mp h).elim (fun h => (List.mem_cons_of_mem _ (List.mem_append_left _ (List.mem_append_right _ (List.mem_append_left _ (List.mem_cons_of_mem _ h)))))) (fun h => List.mem_cons_of_mem _ (List.mem_append_right _ h)))) w_k_X2_widen_3_good
theorem g_k_X2_append_2_34_k_X2_widen_3 : GoodIn w_k_X2_append_2 (wsV RX2 34 RX2 yX2_widen w_k_X2_widen_3) := goodIn_app (nb_g4 (List.mem_cons_of_mem _ (List.mem_append_left _ (List.mem_append_left _ (List.mem_of_getElem? (i := 1) rfl)))) (List.mem_cons_of_mem _ (List.mem_append_left _ (List.mem_append_left _ (List.mem_of_getElem? (i := 2) rfl)))) (List.mem_cons_of_mem _ (List.mem_append_left _ (List.mem_append_left _ (List.mem_of_getElem? (i := 3) rfl)))) (List.mem_cons_of_mem _ (List.mem_append_left _ (List.mem_append_left _ (List.mem_of_getElem? (i := 4) rfl)))) (by decide +kernel)) gg_k_X2_append_2_k_X2_widen_3
def v0_k_X2_append_2 (cy : Nat → ClassId) (a : Nat → Nat) (b9 : Int32) (f9 : Nat → Int32) : va_W := [((a 0), .inr (2, [.ref (a 1), .int 4, .int 0, .int 0, .int 0, .long 0, .long 0, .ref (a 2)])), ((a 1), .inl (cy 0, 1024, .inl f9))]
def v1_k_X2_append_2 (cy : Nat → ClassId) (a : Nat → Nat) (b9 : Int32) (f9 : Nat → Int32) (r : Nat → Nat) : va_W := [((a 0), .inr (2, [.ref (a 1), .int 8, .int 0, .int 0, .int 0, .long 0, .long 0, .ref (a 2)])), ((a 1), .inl (cy 0, 1024, .inl (upd (upd (upd (upd f9 4 (vp_nar .byte (((b9 >>> (24 &&& 31))).toInt8.toInt32))) 5 (vp_nar .byte (((b9 >>> (16 &&& 31))).toInt8.toInt32))) 6 (vp_nar .byte (((b9 >>> (8 &&& 31))).toInt8.toInt32))) 7 (vp_nar .byte (((b9 >>> (0 &&& 31))).toInt8.toInt32)))))]
set_option maxHeartbeats 40000000 in
set_option maxRecDepth 100000 in
theorem k_X2_append_2 (l : Launch) (dC : Nat → ClassId) (dI : Nat → Nat → Nat) (cy : Nat → ClassId) (k : Nat → Nat) (a : Nat → Nat) (b9 : Int32) (f9 : Nat → Int32) (sz : Nat) : Met l yX2_append w_k_X2_append_2 ({ frames := 2, cells := 0, slots := 0, locals := 43 }) (va_Pc [.ref (a 0), .int b9] (nInE (dC, dI) cy k sz (v0_k_X2_append_2 cy a b9 f9))) (va_Qv (fun _ : Nat → Nat => True) (fun r t => nOut (dC, dI) cy (va_A (v0_k_X2_append_2 cy a b9 f9) sz) (v1_k_X2_append_2 cy a b9 f9 r) t) (va_A (v0_k_X2_append_2 cy a b9 f9) sz)) 0 0 (va_A (v0_k_X2_append_2 cy a b9 f9) sz) := by
  refine Met.ofW (cc := cX2_append) (maxL := 3) (ret := none) (by decide) rfl ?_
  intro p e s m args below meth c s₁ B hml hv
  obtain ⟨rfl, ⟨hsz, hP, hK, hD0, hG⟩, hE⟩ := hv
  have hx := B.exec
  have hb := B.bytes
  have hr := B.returns
  have hts := atoms_spec (ws := w_k_X2_append_2) B.pre
  have hown : s.vm.findClass RX2 = some m.cls := findClass_of_methodNamed B.named
  have hlocks := B.notSynchronized
  subst hsz
  have hD := hD0.self (sz := s.heap.size)
  generalize hAe : va_A (v0_k_X2_append_2 cy a b9 f9) s.heap.size = A at hD hE ⊢
  have hA : ∀ q : Nat, s.heap.size ≤ q → A q := fun q h => by rw [← hAe]; exact Or.inr h
  have hS : va_S A s.heap s.heap [] := va_S.rf
  have hP : va_P (dC, dI) nCl (v0_k_X2_append_2 cy a b9 f9) s.heap := hP
  have hl := lv_entry ([.ref (a 0), .int b9]) (n := 3) (Nat.le_of_ble_eq_true rfl)
  rw [lg_entry_eq]
  generalize (lg_sl ([.ref (a 0), .int b9]) ++ List.replicate (3 - (lg_sl ([.ref (a 0), .int b9])).length) Slot.unset).toArray = ls at hl ⊢
  have hl : lv_has ls 3 [(0, .ref (a 0)), (1, .int b9)] := hl
  have hP : va_P (dC, dI) nCl [((a 0), .inr (2, [.ref (a 1), .int 4, .int 0, .int 0, .int 0, .long 0, .long 0, .ref (a 2)])), ((a 1), .inl (cy 0, 1024, .inl f9))] s.heap := hP
  have hD : va_D A [((a 0), .inr (2, [.ref (a 1), .int 4, .int 0, .int 0, .int 0, .long 0, .long 0, .ref (a 2)])), ((a 1), .inl (cy 0, 1024, .inl f9))] := hD
  refine lv_aload_n hx hb dX2_append_0 rfl (lv_at hl 0 rfl) ?_
  refine lv_aload_n hx hb dX2_append_1 rfl (lv_at hl 0 rfl) ?_
  refine va_get (D := (dC, dI)) (ci := 2) (v := .int 4) (C := RX2) (T := TX2) (N := 8) hx hb hts in_k_X2_append_2_X2 hown hK hP 0 rfl rfl 1 (by decide) (hts _ (List.mem_cons_of_mem _ (List.mem_append_left _ (List.mem_append_left _ (List.mem_of_getElem? (i := 0) rfl))))) (fun _ h9 => h9) rfl dX2_append_2 ?_
  refine lv_iconst (v := 4) hx hb dX2_append_5 (by decide) ?_
  refine lv_iadd hx hb dX2_append_6 ?_
  refine W.eq (g2 := F0 m 7 ls [.int 8, .ref (a 0)]) rfl ?_
  have hPc := hP.sub (ws' := [((a 0), .inr (2, [.ref (a 1), .int 4, .int 0, .int 0, .int 0, .long 0, .long 0, .ref (a 2)])), ((a 1), .inl (cy 0, 1024, .inl f9))]) [0, 1] rfl
  have hPc : va_P (dC, dI) nCl (v0_k_X2_widen_3 cy (fun j9 => [(a 0), (a 1), (a 2)].getD j9 0) f9) s.heap := hPc
  have hDc := hD.sub (ws' := [((a 0), .inr (2, [.ref (a 1), .int 4, .int 0, .int 0, .int 0, .long 0, .long 0, .ref (a 2)])), ((a 1), .inl (cy 0, 1024, .inl f9))]) [0, 1] (by decide) rfl
  have hDc : va_D A (v0_k_X2_widen_3 cy (fun j9 => [(a 0), (a 1), (a 2)].getD j9 0) f9) := hDc
  have hFc := va_free (wc := (v0_k_X2_widen_3 cy (fun j9 => [(a 0), (a 1), (a 2)].getD j9 0) f9)) hD hS hA [0, 1] rfl
  refine va_callv (va_runV (As := [.int 8]) (rest := []) ⟨hx, hb, hml, hown, hts⟩ (k_X2_widen_3 l dC dI cy k (fun j9 => [(a 0), (a 1), (a 2)].getD j9 0) f9 s.heap.size) (cwV 1 hts g_k_X2_append_2_34_k_X2_widen_3 rfl rfl rfl (by decide +kernel) ⟨Nat.le_of_ble_eq_true rfl, Nat.le_of_ble_eq_true rfl⟩) ⟨nb_blindE, va_recv hK hPc (ci := 2) (q0 := 0) rfl rfl, fun U hU hW => ⟨rfl, ⟨by rw [hU], by rw [hU]; exact hPc, va_K.moved hW.alike hK, hDc.weaken (fun _ _ _ _ => trivial), hG.warm hW⟩, nE.to hE hS hW hU hFc⟩⟩ rfl rfl hl.1 rfl (lv_room (Nat.le_of_ble_eq_true rfl)) dX2_append_7 ⟨Nat.le_of_ble_eq_true rfl, Nat.le_of_ble_eq_true rfl⟩) hS (fun q _ h => hFc q h) hFc (fun u1 t H1 locs ht hvm hw hB hz1 hk1 hS => ?_)
  obtain ⟨hP1, hK1, hD1⟩ := hB
  rw [ht] at hP1
  obtain ⟨hP, hD⟩ := va_join (wr := []) (w1 := v1_k_X2_widen_3 cy (fun j9 => [(a 0), (a 1), (a 2)].getD j9 0) f9 u1) hP hD [0, 1] [] rfl rfl (by decide) (by decide) hk1 hFc hP1 hD1
  generalize H1 = H at hP hS ⊢
  have hP : va_P (dC, dI) nCl [((a 0), .inr (2, [.ref (a 1), .int 4, .int 0, .int 0, .int 0, .long 0, .long 0, .ref (a 2)])), ((a 1), .inl (cy 0, 1024, .inl f9))] H := hP
  have hD : va_D A [((a 0), .inr (2, [.ref (a 1), .int 4, .int 0, .int 0, .int 0, .long 0, .long 0, .ref (a 2)])), ((a 1), .inl (cy 0, 1024, .inl f9))] := hD
  refine lv_bipush (v := 24) hx hb dX2_append_10 (by decide) ?_
  refine lv_istore_n (lv' := [(2, .int 24), (0, .ref (a 0)), (1, .int b9)]) hx hb dX2_append_12 rfl hl (by decide) rfl (fun ls hl => ?_)
  refine lv_iload_n hx hb dX2_append_13 rfl (lv_at hl 0 rfl) ?_
  refine lv_if_lt (tgt := 48) hx hb dX2_append_14 (by decide) (fun c1 => False.elim (by revert c1; decide)) (fun _ => ?_)
  refine lv_aload_n hx hb dX2_append_17 rfl (lv_at hl 1 rfl) ?_
  refine va_get (D := (dC, dI)) (ci := 2) (v := .ref (a 1)) (C := RX2) (T := TX2) (N := 8) hx hb hts in_k_X2_append_2_X2 hown hK hP 0 rfl rfl 0 (by decide) (hts _ (List.mem_cons_of_mem _ (List.mem_append_left _ (List.mem_append_left _ (List.mem_of_getElem? (i := 5) rfl))))) (fun _ h9 => h9) rfl dX2_append_18 ?_
  refine lv_aload_n hx hb dX2_append_21 rfl (lv_at hl 1 rfl) ?_
  refine va_get (D := (dC, dI)) (ci := 2) (v := .int 4) (C := RX2) (T := TX2) (N := 8) hx hb hts in_k_X2_append_2_X2 hown hK hP 0 rfl rfl 1 (by decide) (hts _ (List.mem_cons_of_mem _ (List.mem_append_left _ (List.mem_append_left _ (List.mem_of_getElem? (i := 0) rfl))))) (fun _ h9 => h9) rfl dX2_append_22 ?_
  refine lv_iload_n hx hb dX2_append_25 rfl (lv_at hl 2 rfl) ?_
  refine lv_iload_n hx hb dX2_append_26 rfl (lv_at hl 0 rfl) ?_
  refine lv_ishr hx hb dX2_append_27 ?_
  refine lv_i2b hx hb dX2_append_28 rfl ?_
  refine va_bast hx hb hK hP hD hS 1 0 rfl rfl (nb_in (by decide)) dX2_append_29 (fun H locs hP hD hS => ?_)
  have hP : va_P (dC, dI) nCl [((a 0), .inr (2, [.ref (a 1), .int 4, .int 0, .int 0, .int 0, .long 0, .long 0, .ref (a 2)])), ((a 1), .inl (cy 0, 1024, .inl (upd f9 4 (vp_nar .byte (((b9 >>> (24 &&& 31))).toInt8.toInt32)))))] H := hP
  have hD : va_D A [((a 0), .inr (2, [.ref (a 1), .int 4, .int 0, .int 0, .int 0, .long 0, .long 0, .ref (a 2)])), ((a 1), .inl (cy 0, 1024, .inl (upd f9 4 (vp_nar .byte (((b9 >>> (24 &&& 31))).toInt8.toInt32)))))] := hD
  refine lv_aload_n hx hb dX2_append_30 rfl (lv_at hl 1 rfl) ?_
  refine lv_dup hx hb dX2_append_31 rfl ?_
  refine va_get (D := (dC, dI)) (ci := 2) (v := .int 4) (C := RX2) (T := TX2) (N := 8) hx hb hts in_k_X2_append_2_X2 hown hK hP 0 rfl rfl 1 (by decide) (hts _ (List.mem_cons_of_mem _ (List.mem_append_left _ (List.mem_append_left _ (List.mem_of_getElem? (i := 0) rfl))))) (fun _ h9 => h9) rfl dX2_append_32 ?_
  refine lv_iconst (v := 1) hx hb dX2_append_35 (by decide) ?_
  refine lv_iadd hx hb dX2_append_36 ?_
  refine W.eq (g2 := F0 m 37 ls [.int 5, .ref (a 0)]) rfl ?_
  refine va_put (D := (dC, dI)) (ci := 2) (v := .int 5) (ty := .int) (C := RX2) (T := TX2) (N := 8) hx hb hts in_k_X2_append_2_X2 tyX2 tyX2_ok nmX2 hown hK hP hD hS 0 rfl rfl 1 (by decide) (hts _ (List.mem_cons_of_mem _ (List.mem_append_left _ (List.mem_append_left _ (List.mem_of_getElem? (i := 0) rfl))))) (fun _ h9 => h9) rfl (by decide +kernel) rfl rfl (Nat.le_of_ble_eq_true rfl) dX2_append_37 (fun H locs hP hD hS => ?_)
  have hP : va_P (dC, dI) nCl [((a 0), .inr (2, [.ref (a 1), .int 5, .int 0, .int 0, .int 0, .long 0, .long 0, .ref (a 2)])), ((a 1), .inl (cy 0, 1024, .inl (upd f9 4 (vp_nar .byte (((b9 >>> (24 &&& 31))).toInt8.toInt32)))))] H := hP
  have hD : va_D A [((a 0), .inr (2, [.ref (a 1), .int 5, .int 0, .int 0, .int 0, .long 0, .long 0, .ref (a 2)])), ((a 1), .inl (cy 0, 1024, .inl (upd f9 4 (vp_nar .byte (((b9 >>> (24 &&& 31))).toInt8.toInt32)))))] := hD
  refine lv_iload_n hx hb dX2_append_40 rfl (lv_at hl 0 rfl) ?_
  refine lv_bipush (v := 8) hx hb dX2_append_41 (by decide) ?_
  refine lv_isub hx hb dX2_append_43 ?_
  refine W.eq (g2 := F0 m 44 ls [.int 16]) rfl ?_
  refine lv_istore_n (lv' := [(2, .int 16), (0, .ref (a 0)), (1, .int b9)]) hx hb dX2_append_44 rfl hl (by decide) rfl (fun ls hl => ?_)
  refine lv_goto (tgt := 13) hx hb dX2_append_45 (by decide) ?_
  refine lv_iload_n hx hb dX2_append_13 rfl (lv_at hl 0 rfl) ?_
  refine lv_if_lt (tgt := 48) hx hb dX2_append_14 (by decide) (fun c1 => False.elim (by revert c1; decide)) (fun _ => ?_)
  refine lv_aload_n hx hb dX2_append_17 rfl (lv_at hl 1 rfl) ?_
  refine va_get (D := (dC, dI)) (ci := 2) (v := .ref (a 1)) (C := RX2) (T := TX2) (N := 8) hx hb hts in_k_X2_append_2_X2 hown hK hP 0 rfl rfl 0 (by decide) (hts _ (List.mem_cons_of_mem _ (List.mem_append_left _ (List.mem_append_left _ (List.mem_of_getElem? (i := 5) rfl))))) (fun _ h9 => h9) rfl dX2_append_18 ?_
  refine lv_aload_n hx hb dX2_append_21 rfl (lv_at hl 1 rfl) ?_
  refine va_get (D := (dC, dI)) (ci := 2) (v := .int 5) (C := RX2) (T := TX2) (N := 8) hx hb hts in_k_X2_append_2_X2 hown hK hP 0 rfl rfl 1 (by decide) (hts _ (List.mem_cons_of_mem _ (List.mem_append_left _ (List.mem_append_left _ (List.mem_of_getElem? (i := 0) rfl))))) (fun _ h9 => h9) rfl dX2_append_22 ?_
  refine lv_iload_n hx hb dX2_append_25 rfl (lv_at hl 2 rfl) ?_
  refine lv_iload_n hx hb dX2_append_26 rfl (lv_at hl 0 rfl) ?_
  refine lv_ishr hx hb dX2_append_27 ?_
  refine lv_i2b hx hb dX2_append_28 rfl ?_
  refine va_bast hx hb hK hP hD hS 1 0 rfl rfl (nb_in (by decide)) dX2_append_29 (fun H locs hP hD hS => ?_)
  have hP : va_P (dC, dI) nCl [((a 0), .inr (2, [.ref (a 1), .int 5, .int 0, .int 0, .int 0, .long 0, .long 0, .ref (a 2)])), ((a 1), .inl (cy 0, 1024, .inl (upd (upd f9 4 (vp_nar .byte (((b9 >>> (24 &&& 31))).toInt8.toInt32))) 5 (vp_nar .byte (((b9 >>> (16 &&& 31))).toInt8.toInt32)))))] H := hP
  have hD : va_D A [((a 0), .inr (2, [.ref (a 1), .int 5, .int 0, .int 0, .int 0, .long 0, .long 0, .ref (a 2)])), ((a 1), .inl (cy 0, 1024, .inl (upd (upd f9 4 (vp_nar .byte (((b9 >>> (24 &&& 31))).toInt8.toInt32))) 5 (vp_nar .byte (((b9 >>> (16 &&& 31))).toInt8.toInt32)))))] := hD
  refine lv_aload_n hx hb dX2_append_30 rfl (lv_at hl 1 rfl) ?_
  refine lv_dup hx hb dX2_append_31 rfl ?_
  refine va_get (D := (dC, dI)) (ci := 2) (v := .int 5) (C := RX2) (T := TX2) (N := 8) hx hb hts in_k_X2_append_2_X2 hown hK hP 0 rfl rfl 1 (by decide) (hts _ (List.mem_cons_of_mem _ (List.mem_append_left _ (List.mem_append_left _ (List.mem_of_getElem? (i := 0) rfl))))) (fun _ h9 => h9) rfl dX2_append_32 ?_
  refine lv_iconst (v := 1) hx hb dX2_append_35 (by decide) ?_
  refine lv_iadd hx hb dX2_append_36 ?_
  refine W.eq (g2 := F0 m 37 ls [.int 6, .ref (a 0)]) rfl ?_
  refine va_put (D := (dC, dI)) (ci := 2) (v := .int 6) (ty := .int) (C := RX2) (T := TX2) (N := 8) hx hb hts in_k_X2_append_2_X2 tyX2 tyX2_ok nmX2 hown hK hP hD hS 0 rfl rfl 1 (by decide) (hts _ (List.mem_cons_of_mem _ (List.mem_append_left _ (List.mem_append_left _ (List.mem_of_getElem? (i := 0) rfl))))) (fun _ h9 => h9) rfl (by decide +kernel) rfl rfl (Nat.le_of_ble_eq_true rfl) dX2_append_37 (fun H locs hP hD hS => ?_)
  have hP : va_P (dC, dI) nCl [((a 0), .inr (2, [.ref (a 1), .int 6, .int 0, .int 0, .int 0, .long 0, .long 0, .ref (a 2)])), ((a 1), .inl (cy 0, 1024, .inl (upd (upd f9 4 (vp_nar .byte (((b9 >>> (24 &&& 31))).toInt8.toInt32))) 5 (vp_nar .byte (((b9 >>> (16 &&& 31))).toInt8.toInt32)))))] H := hP
  have hD : va_D A [((a 0), .inr (2, [.ref (a 1), .int 6, .int 0, .int 0, .int 0, .long 0, .long 0, .ref (a 2)])), ((a 1), .inl (cy 0, 1024, .inl (upd (upd f9 4 (vp_nar .byte (((b9 >>> (24 &&& 31))).toInt8.toInt32))) 5 (vp_nar .byte (((b9 >>> (16 &&& 31))).toInt8.toInt32)))))] := hD
  refine lv_iload_n hx hb dX2_append_40 rfl (lv_at hl 0 rfl) ?_
  refine lv_bipush (v := 8) hx hb dX2_append_41 (by decide) ?_
  refine lv_isub hx hb dX2_append_43 ?_
  refine W.eq (g2 := F0 m 44 ls [.int 8]) rfl ?_
  refine lv_istore_n (lv' := [(2, .int 8), (0, .ref (a 0)), (1, .int b9)]) hx hb dX2_append_44 rfl hl (by decide) rfl (fun ls hl => ?_)
  refine lv_goto (tgt := 13) hx hb dX2_append_45 (by decide) ?_
  refine lv_iload_n hx hb dX2_append_13 rfl (lv_at hl 0 rfl) ?_
  refine lv_if_lt (tgt := 48) hx hb dX2_append_14 (by decide) (fun c1 => False.elim (by revert c1; decide)) (fun _ => ?_)
  refine lv_aload_n hx hb dX2_append_17 rfl (lv_at hl 1 rfl) ?_
  refine va_get (D := (dC, dI)) (ci := 2) (v := .ref (a 1)) (C := RX2) (T := TX2) (N := 8) hx hb hts in_k_X2_append_2_X2 hown hK hP 0 rfl rfl 0 (by decide) (hts _ (List.mem_cons_of_mem _ (List.mem_append_left _ (List.mem_append_left _ (List.mem_of_getElem? (i := 5) rfl))))) (fun _ h9 => h9) rfl dX2_append_18 ?_
  refine lv_aload_n hx hb dX2_append_21 rfl (lv_at hl 1 rfl) ?_
  refine va_get (D := (dC, dI)) (ci := 2) (v := .int 6) (C := RX2) (T := TX2) (N := 8) hx hb hts in_k_X2_append_2_X2 hown hK hP 0 rfl rfl 1 (by decide) (hts _ (List.mem_cons_of_mem _ (List.mem_append_left _ (List.mem_append_left _ (List.mem_of_getElem? (i := 0) rfl))))) (fun _ h9 => h9) rfl dX2_append_22 ?_
  refine lv_iload_n hx hb dX2_append_25 rfl (lv_at hl 2 rfl) ?_
  refine lv_iload_n hx hb dX2_append_26 rfl (lv_at hl 0 rfl) ?_
  refine lv_ishr hx hb dX2_append_27 ?_
  refine lv_i2b hx hb dX2_append_28 rfl ?_
  refine va_bast hx hb hK hP hD hS 1 0 rfl rfl (nb_in (by decide)) dX2_append_29 (fun H locs hP hD hS => ?_)
  have hP : va_P (dC, dI) nCl [((a 0), .inr (2, [.ref (a 1), .int 6, .int 0, .int 0, .int 0, .long 0, .long 0, .ref (a 2)])), ((a 1), .inl (cy 0, 1024, .inl (upd (upd (upd f9 4 (vp_nar .byte (((b9 >>> (24 &&& 31))).toInt8.toInt32))) 5 (vp_nar .byte (((b9 >>> (16 &&& 31))).toInt8.toInt32))) 6 (vp_nar .byte (((b9 >>> (8 &&& 31))).toInt8.toInt32)))))] H := hP
  have hD : va_D A [((a 0), .inr (2, [.ref (a 1), .int 6, .int 0, .int 0, .int 0, .long 0, .long 0, .ref (a 2)])), ((a 1), .inl (cy 0, 1024, .inl (upd (upd (upd f9 4 (vp_nar .byte (((b9 >>> (24 &&& 31))).toInt8.toInt32))) 5 (vp_nar .byte (((b9 >>> (16 &&& 31))).toInt8.toInt32))) 6 (vp_nar .byte (((b9 >>> (8 &&& 31))).toInt8.toInt32)))))] := hD
  refine lv_aload_n hx hb dX2_append_30 rfl (lv_at hl 1 rfl) ?_
  refine lv_dup hx hb dX2_append_31 rfl ?_
  refine va_get (D := (dC, dI)) (ci := 2) (v := .int 6) (C := RX2) (T := TX2) (N := 8) hx hb hts in_k_X2_append_2_X2 hown hK hP 0 rfl rfl 1 (by decide) (hts _ (List.mem_cons_of_mem _ (List.mem_append_left _ (List.mem_append_left _ (List.mem_of_getElem? (i := 0) rfl))))) (fun _ h9 => h9) rfl dX2_append_32 ?_
  refine lv_iconst (v := 1) hx hb dX2_append_35 (by decide) ?_
  refine lv_iadd hx hb dX2_append_36 ?_
  refine W.eq (g2 := F0 m 37 ls [.int 7, .ref (a 0)]) rfl ?_
  refine va_put (D := (dC, dI)) (ci := 2) (v := .int 7) (ty := .int) (C := RX2) (T := TX2) (N := 8) hx hb hts in_k_X2_append_2_X2 tyX2 tyX2_ok nmX2 hown hK hP hD hS 0 rfl rfl 1 (by decide) (hts _ (List.mem_cons_of_mem _ (List.mem_append_left _ (List.mem_append_left _ (List.mem_of_getElem? (i := 0) rfl))))) (fun _ h9 => h9) rfl (by decide +kernel) rfl rfl (Nat.le_of_ble_eq_true rfl) dX2_append_37 (fun H locs hP hD hS => ?_)
  have hP : va_P (dC, dI) nCl [((a 0), .inr (2, [.ref (a 1), .int 7, .int 0, .int 0, .int 0, .long 0, .long 0, .ref (a 2)])), ((a 1), .inl (cy 0, 1024, .inl (upd (upd (upd f9 4 (vp_nar .byte (((b9 >>> (24 &&& 31))).toInt8.toInt32))) 5 (vp_nar .byte (((b9 >>> (16 &&& 31))).toInt8.toInt32))) 6 (vp_nar .byte (((b9 >>> (8 &&& 31))).toInt8.toInt32)))))] H := hP
  have hD : va_D A [((a 0), .inr (2, [.ref (a 1), .int 7, .int 0, .int 0, .int 0, .long 0, .long 0, .ref (a 2)])), ((a 1), .inl (cy 0, 1024, .inl (upd (upd (upd f9 4 (vp_nar .byte (((b9 >>> (24 &&& 31))).toInt8.toInt32))) 5 (vp_nar .byte (((b9 >>> (16 &&& 31))).toInt8.toInt32))) 6 (vp_nar .byte (((b9 >>> (8 &&& 31))).toInt8.toInt32)))))] := hD
  refine lv_iload_n hx hb dX2_append_40 rfl (lv_at hl 0 rfl) ?_
  refine lv_bipush (v := 8) hx hb dX2_append_41 (by decide) ?_
  refine lv_isub hx hb dX2_append_43 ?_
  refine W.eq (g2 := F0 m 44 ls [.int 0]) rfl ?_
  refine lv_istore_n (lv' := [(2, .int 0), (0, .ref (a 0)), (1, .int b9)]) hx hb dX2_append_44 rfl hl (by decide) rfl (fun ls hl => ?_)
  refine lv_goto (tgt := 13) hx hb dX2_append_45 (by decide) ?_
  refine lv_iload_n hx hb dX2_append_13 rfl (lv_at hl 0 rfl) ?_
  refine lv_if_lt (tgt := 48) hx hb dX2_append_14 (by decide) (fun c1 => False.elim (by revert c1; decide)) (fun _ => ?_)
  refine lv_aload_n hx hb dX2_append_17 rfl (lv_at hl 1 rfl) ?_
  refine va_get (D := (dC, dI)) (ci := 2) (v := .ref (a 1)) (C := RX2) (T := TX2) (N := 8) hx hb hts in_k_X2_append_2_X2 hown hK hP 0 rfl rfl 0 (by decide) (hts _ (List.mem_cons_of_mem _ (List.mem_append_left _ (List.mem_append_left _ (List.mem_of_getElem? (i := 5) rfl))))) (fun _ h9 => h9) rfl dX2_append_18 ?_
  refine lv_aload_n hx hb dX2_append_21 rfl (lv_at hl 1 rfl) ?_
  refine va_get (D := (dC, dI)) (ci := 2) (v := .int 7) (C := RX2) (T := TX2) (N := 8) hx hb hts in_k_X2_append_2_X2 hown hK hP 0 rfl rfl 1 (by decide) (hts _ (List.mem_cons_of_mem _ (List.mem_append_left _ (List.mem_append_left _ (List.mem_of_getElem? (i := 0) rfl))))) (fun _ h9 => h9) rfl dX2_append_22 ?_
  refine lv_iload_n hx hb dX2_append_25 rfl (lv_at hl 2 rfl) ?_
  refine lv_iload_n hx hb dX2_append_26 rfl (lv_at hl 0 rfl) ?_
  refine lv_ishr hx hb dX2_append_27 ?_
  refine lv_i2b hx hb dX2_append_28 rfl ?_
  refine va_bast hx hb hK hP hD hS 1 0 rfl rfl (nb_in (by decide)) dX2_append_29 (fun H locs hP hD hS => ?_)
  have hP : va_P (dC, dI) nCl [((a 0), .inr (2, [.ref (a 1), .int 7, .int 0, .int 0, .int 0, .long 0, .long 0, .ref (a 2)])), ((a 1), .inl (cy 0, 1024, .inl (upd (upd (upd (upd f9 4 (vp_nar .byte (((b9 >>> (24 &&& 31))).toInt8.toInt32))) 5 (vp_nar .byte (((b9 >>> (16 &&& 31))).toInt8.toInt32))) 6 (vp_nar .byte (((b9 >>> (8 &&& 31))).toInt8.toInt32))) 7 (vp_nar .byte (((b9 >>> (0 &&& 31))).toInt8.toInt32)))))] H := hP
  have hD : va_D A [((a 0), .inr (2, [.ref (a 1), .int 7, .int 0, .int 0, .int 0, .long 0, .long 0, .ref (a 2)])), ((a 1), .inl (cy 0, 1024, .inl (upd (upd (upd (upd f9 4 (vp_nar .byte (((b9 >>> (24 &&& 31))).toInt8.toInt32))) 5 (vp_nar .byte (((b9 >>> (16 &&& 31))).toInt8.toInt32))) 6 (vp_nar .byte (((b9 >>> (8 &&& 31))).toInt8.toInt32))) 7 (vp_nar .byte (((b9 >>> (0 &&& 31))).toInt8.toInt32)))))] := hD
  refine lv_aload_n hx hb dX2_append_30 rfl (lv_at hl 1 rfl) ?_
  refine lv_dup hx hb dX2_append_31 rfl ?_
  refine va_get (D := (dC, dI)) (ci := 2) (v := .int 7) (C := RX2) (T := TX2) (N := 8) hx hb hts in_k_X2_append_2_X2 hown hK hP 0 rfl rfl 1 (by decide) (hts _ (List.mem_cons_of_mem _ (List.mem_append_left _ (List.mem_append_left _ (List.mem_of_getElem? (i := 0) rfl))))) (fun _ h9 => h9) rfl dX2_append_32 ?_
  refine lv_iconst (v := 1) hx hb dX2_append_35 (by decide) ?_
  refine lv_iadd hx hb dX2_append_36 ?_
  refine W.eq (g2 := F0 m 37 ls [.int 8, .ref (a 0)]) rfl ?_
  refine va_put (D := (dC, dI)) (ci := 2) (v := .int 8) (ty := .int) (C := RX2) (T := TX2) (N := 8) hx hb hts in_k_X2_append_2_X2 tyX2 tyX2_ok nmX2 hown hK hP hD hS 0 rfl rfl 1 (by decide) (hts _ (List.mem_cons_of_mem _ (List.mem_append_left _ (List.mem_append_left _ (List.mem_of_getElem? (i := 0) rfl))))) (fun _ h9 => h9) rfl (by decide +kernel) rfl rfl (Nat.le_of_ble_eq_true rfl) dX2_append_37 (fun H locs hP hD hS => ?_)
  have hP : va_P (dC, dI) nCl [((a 0), .inr (2, [.ref (a 1), .int 8, .int 0, .int 0, .int 0, .long 0, .long 0, .ref (a 2)])), ((a 1), .inl (cy 0, 1024, .inl (upd (upd (upd (upd f9 4 (vp_nar .byte (((b9 >>> (24 &&& 31))).toInt8.toInt32))) 5 (vp_nar .byte (((b9 >>> (16 &&& 31))).toInt8.toInt32))) 6 (vp_nar .byte (((b9 >>> (8 &&& 31))).toInt8.toInt32))) 7 (vp_nar .byte (((b9 >>> (0 &&& 31))).toInt8.toInt32)))))] H := hP
  have hD : va_D A [((a 0), .inr (2, [.ref (a 1), .int 8, .int 0, .int 0, .int 0, .long 0, .long 0, .ref (a 2)])), ((a 1), .inl (cy 0, 1024, .inl (upd (upd (upd (upd f9 4 (vp_nar .byte (((b9 >>> (24 &&& 31))).toInt8.toInt32))) 5 (vp_nar .byte (((b9 >>> (16 &&& 31))).toInt8.toInt32))) 6 (vp_nar .byte (((b9 >>> (8 &&& 31))).toInt8.toInt32))) 7 (vp_nar .byte (((b9 >>> (0 &&& 31))).toInt8.toInt32)))))] := hD
  refine lv_iload_n hx hb dX2_append_40 rfl (lv_at hl 0 rfl) ?_
  refine lv_bipush (v := 8) hx hb dX2_append_41 (by decide) ?_
  refine lv_isub hx hb dX2_append_43 ?_
  refine W.eq (g2 := F0 m 44 ls [.int (-8)]) rfl ?_
  refine lv_istore_n (lv' := [(2, .int (-8)), (0, .ref (a 0)), (1, .int b9)]) hx hb dX2_append_44 rfl hl (by decide) rfl (fun ls hl => ?_)
  refine lv_goto (tgt := 13) hx hb dX2_append_45 (by decide) ?_
  refine lv_iload_n hx hb dX2_append_13 rfl (lv_at hl 0 rfl) ?_
  refine lv_if_lt (tgt := 48) hx hb dX2_append_14 (by decide) (fun _ => ?_) (fun c1 => False.elim (by revert c1; decide))
  have hP : va_P (dC, dI) nCl (v1_k_X2_append_2 cy a b9 f9 (fun _ => 0)) H := hP
  have hD : va_D A (v1_k_X2_append_2 cy a b9 f9 (fun _ => 0)) := hD
  exact W.vret hx hb hr (fun t ht hW => ⟨⟨(fun _ => 0), rfl, trivial, by rw [ht]; exact hP, va_K.moved hW.alike hK, hD⟩, hS.F ht⟩) hS.2.2 dX2_append_48
def o_k_X11_widenedBytes_4 : List Cond := []
theorem o_k_X11_widenedBytes_4_good : o_k_X11_widenedBytes_4.all goodWord = true := by decide +kernel
def p_k_X11_widenedBytes_4 : List Cond := o_k_X11_widenedBytes_4 ++ []
theorem p_k_X11_widenedBytes_4_good : p_k_X11_widenedBytes_4.all goodWord = true := nb_all2 o_k_X11_widenedBytes_4_good rfl
def w_k_X11_widenedBytes_4 : List Cond := .code yX11_widenedBytes cX11_widenedBytes 3 (some (.array .byte)) :: (p_k_X11_widenedBytes_4 ++ fC)
theorem w_k_X11_widenedBytes_4_good : w_k_X11_widenedBytes_4.all goodWord = true := nb_allc (by decide +kernel) (nb_all2 p_k_X11_widenedBytes_4_good fC_good)
def v0_k_X11_widenedBytes_4 (cy : Nat → ClassId) (a : Nat → Nat) (f9 : Nat → Int32) : va_W := [((a 0), .inl (cy 0, 1024, .inl f9))]
def v1_k_X11_widenedBytes_4 (cy : Nat → ClassId) (a : Nat → Nat) (f9 : Nat → Int32) (r : Nat → Nat) : va_W := [((a 0), .inl (cy 0, 1024, .inl f9))]
set_option maxHeartbeats 40000000 in
set_option maxRecDepth 100000 in
theorem k_X11_widenedBytes_4 (l : Launch) (dC : Nat → ClassId) (dI : Nat → Nat → Nat) (cy : Nat → ClassId) (k : Nat → Nat) (a : Nat → Nat) (f9 : Nat → Int32) (sz : Nat) : Met l yX11_widenedBytes w_k_X11_widenedBytes_4 ({ frames := 0, cells := 0, slots := 0, locals := 0 }) (va_Pc [.ref (a 0), .int 12, .int 10242] (nInE (dC, dI) cy k sz (v0_k_X11_widenedBytes_4 cy a f9))) (va_Qr (fun _ : Nat → Nat => True) (fun r q t => q = (a 0) ∧ nOut (dC, dI) cy (va_A (v0_k_X11_widenedBytes_4 cy a f9) sz) (v1_k_X11_widenedBytes_4 cy a f9 r) t) (va_A (v0_k_X11_widenedBytes_4 cy a f9) sz)) 0 0 (va_A (v0_k_X11_widenedBytes_4 cy a f9) sz) := by
  refine Met.ofW (cc := cX11_widenedBytes) (maxL := 3) (ret := (some (.array .byte))) (by decide) rfl ?_
  intro p e s m args below meth c s₁ B hml hv
  obtain ⟨rfl, ⟨hsz, hP, hK, hD0, hG⟩, hE⟩ := hv
  have hx := B.exec
  have hb := B.bytes
  have hr := B.returns
  have hts := atoms_spec (ws := w_k_X11_widenedBytes_4) B.pre
  have hown : s.vm.findClass RX11 = some m.cls := findClass_of_methodNamed B.named
  have hlocks := B.notSynchronized
  subst hsz
  have hD := hD0.self (sz := s.heap.size)
  generalize hAe : va_A (v0_k_X11_widenedBytes_4 cy a f9) s.heap.size = A at hD hE ⊢
  have hA : ∀ q : Nat, s.heap.size ≤ q → A q := fun q h => by rw [← hAe]; exact Or.inr h
  have hS : va_S A s.heap s.heap [] := va_S.rf
  have hP : va_P (dC, dI) nCl (v0_k_X11_widenedBytes_4 cy a f9) s.heap := hP
  have hl := lv_entry ([.ref (a 0), .int 12, .int 10242]) (n := 3) (Nat.le_of_ble_eq_true rfl)
  rw [lg_entry_eq]
  generalize (lg_sl ([.ref (a 0), .int 12, .int 10242]) ++ List.replicate (3 - (lg_sl ([.ref (a 0), .int 12, .int 10242])).length) Slot.unset).toArray = ls at hl ⊢
  have hl : lv_has ls 3 [(0, .ref (a 0)), (1, .int 12), (2, .int 10242)] := hl
  have hP : va_P (dC, dI) nCl [((a 0), .inl (cy 0, 1024, .inl f9))] s.heap := hP
  have hD : va_D A [((a 0), .inl (cy 0, 1024, .inl f9))] := hD
  refine lv_iload_n hx hb dX11_widenedBytes_0 rfl (lv_at hl 1 rfl) ?_
  refine lv_aload_n hx hb dX11_widenedBytes_1 rfl (lv_at hl 0 rfl) ?_
  refine va_alen hx hb hK hP 0 0 rfl rfl (v := 1024) rfl dX11_widenedBytes_2 ?_
  refine lv_icmp_le (tgt := 20) hx hb dX11_widenedBytes_3 (by decide) (fun _ => ?_) (fun c1 => False.elim (by revert c1; decide))
  refine lv_aload_n hx hb dX11_widenedBytes_20 rfl (lv_at hl 0 rfl) ?_
  have hP : va_P (dC, dI) nCl (v1_k_X11_widenedBytes_4 cy a f9 (fun _ => 0)) s.heap := hP
  have hD : va_D A (v1_k_X11_widenedBytes_4 cy a f9 (fun _ => 0)) := hD
  exact W.aret hx hb hr (Or.inr ⟨_, rfl⟩) (Or.inr ⟨_, rfl⟩) (fun t ht hW => ⟨⟨(fun _ => 0), (a 0), rfl, trivial, rfl, by rw [ht]; exact hP, va_K.moved hW.alike hK, hD⟩, hS.F ht⟩) hS.2.2 dX11_widenedBytes_21
def o_k_X2_widen_4 : List Cond := [.fieldLink RX2 11 "SetHouse$Lexer" "tape" "[B", .initialized RX11, .static yX11_widenedBytes]
theorem o_k_X2_widen_4_good : o_k_X2_widen_4.all goodWord = true := by decide +kernel
def p_k_X2_widen_4 : List Cond := o_k_X2_widen_4 ++ ((.code yX11_widenedBytes cX11_widenedBytes 3 (some (.array .byte)) :: p_k_X11_widenedBytes_4) ++ [])
theorem p_k_X2_widen_4_good : p_k_X2_widen_4.all goodWord = true := nb_all2 o_k_X2_widen_4_good (nb_all2 (nb_allc (by decide +kernel) p_k_X11_widenedBytes_4_good) rfl)
def w_k_X2_widen_4 : List Cond := .code yX2_widen cX2_widen 2 none :: (p_k_X2_widen_4 ++ fC)
theorem w_k_X2_widen_4_good : w_k_X2_widen_4.all goodWord = true := nb_allc (by decide +kernel) (nb_all2 p_k_X2_widen_4_good fC_good)
theorem in_k_X2_widen_4_X2 : ∀ w ∈ wsX20, w ∈ w_k_X2_widen_4 := fun _ h => List.mem_cons_of_mem _ (List.mem_append_right _ (List.mem_append_right _ (List.mem_append_right _ (List.mem_append_left _ h))))
theorem gg_k_X2_widen_4_k_X11_widenedBytes_4 : GoodIn w_k_X2_widen_4 w_k_X11_widenedBytes_4 := goodIn_sub (fun w h => (List.mem_cons.mp h).elim (fun e => (List.mem_cons_of_mem _ (List.mem_append_left _ (List.mem_append_right _ (List.mem_append_left _ (List.mem_cons.mpr (Or.inl e))))))) (fun h => (List.mem_append.mp h).elim (fun h => (List.mem_cons_of_mem _ (List.mem_append_left _ (List.mem_append_right _ (List.mem_append_left _ (List.mem_cons_of_mem _ h)))))) (fun h => List.mem_cons_of_mem _ (List.mem_append_right _ h)))) w_k_X11_widenedBytes_4_good
theorem g_k_X2_widen_4_39_k_X11_widenedBytes_4 : GoodIn w_k_X2_widen_4 w_k_X11_widenedBytes_4 := gg_k_X2_widen_4_k_X11_widenedBytes_4
def v0_k_X2_widen_4 (cy : Nat → ClassId) (a : Nat → Nat) (f9 : Nat → Int32) : va_W := [((a 0), .inr (2, [.ref (a 1), .int 8, .int 0, .int 0, .int 0, .long 0, .long 0, .ref (a 2)])), ((a 1), .inl (cy 0, 1024, .inl f9))]
def v1_k_X2_widen_4 (cy : Nat → ClassId) (a : Nat → Nat) (f9 : Nat → Int32) (r : Nat → Nat) : va_W := [((a 0), .inr (2, [.ref (a 1), .int 8, .int 0, .int 0, .int 0, .long 0, .long 0, .ref (a 2)])), ((a 1), .inl (cy 0, 1024, .inl f9))]
set_option maxHeartbeats 40000000 in
set_option maxRecDepth 100000 in
theorem k_X2_widen_4 (l : Launch) (dC : Nat → ClassId) (dI : Nat → Nat → Nat) (cy : Nat → ClassId) (k : Nat → Nat) (a : Nat → Nat) (f9 : Nat → Int32) (sz : Nat) : Met l yX2_widen w_k_X2_widen_4 ({ frames := 1, cells := 0, slots := 0, locals := 22 }) (va_Pc [.ref (a 0), .int 12] (nInE (dC, dI) cy k sz (v0_k_X2_widen_4 cy a f9))) (va_Qv (fun _ : Nat → Nat => True) (fun r t => nOut (dC, dI) cy (va_A (v0_k_X2_widen_4 cy a f9) sz) (v1_k_X2_widen_4 cy a f9 r) t) (va_A (v0_k_X2_widen_4 cy a f9) sz)) 0 0 (va_A (v0_k_X2_widen_4 cy a f9) sz) := by
  refine Met.ofW (cc := cX2_widen) (maxL := 2) (ret := none) (by decide) rfl ?_
  intro p e s m args below meth c s₁ B hml hv
  obtain ⟨rfl, ⟨hsz, hP, hK, hD0, hG⟩, hE⟩ := hv
  have hx := B.exec
  have hb := B.bytes
  have hr := B.returns
  have hts := atoms_spec (ws := w_k_X2_widen_4) B.pre
  have hown : s.vm.findClass RX2 = some m.cls := findClass_of_methodNamed B.named
  have hlocks := B.notSynchronized
  subst hsz
  have hD := hD0.self (sz := s.heap.size)
  generalize hAe : va_A (v0_k_X2_widen_4 cy a f9) s.heap.size = A at hD hE ⊢
  have hA : ∀ q : Nat, s.heap.size ≤ q → A q := fun q h => by rw [← hAe]; exact Or.inr h
  have hS : va_S A s.heap s.heap [] := va_S.rf
  have hP : va_P (dC, dI) nCl (v0_k_X2_widen_4 cy a f9) s.heap := hP
  have hl := lv_entry ([.ref (a 0), .int 12]) (n := 2) (Nat.le_of_ble_eq_true rfl)
  rw [lg_entry_eq]
  generalize (lg_sl ([.ref (a 0), .int 12]) ++ List.replicate (2 - (lg_sl ([.ref (a 0), .int 12])).length) Slot.unset).toArray = ls at hl ⊢
  have hl : lv_has ls 2 [(0, .ref (a 0)), (1, .int 12)] := hl
  have hP : va_P (dC, dI) nCl [((a 0), .inr (2, [.ref (a 1), .int 8, .int 0, .int 0, .int 0, .long 0, .long 0, .ref (a 2)])), ((a 1), .inl (cy 0, 1024, .inl f9))] s.heap := hP
  have hD : va_D A [((a 0), .inr (2, [.ref (a 1), .int 8, .int 0, .int 0, .int 0, .long 0, .long 0, .ref (a 2)])), ((a 1), .inl (cy 0, 1024, .inl f9))] := hD
  refine lv_aload_n hx hb dX2_widen_0 rfl (lv_at hl 0 rfl) ?_
  refine lv_aload_n hx hb dX2_widen_1 rfl (lv_at hl 0 rfl) ?_
  refine va_get (D := (dC, dI)) (ci := 2) (v := .ref (a 1)) (C := RX2) (T := TX2) (N := 8) hx hb hts in_k_X2_widen_4_X2 hown hK hP 0 rfl rfl 0 (by decide) (hts _ (List.mem_cons_of_mem _ (List.mem_append_left _ (List.mem_append_left _ (List.mem_of_getElem? (i := 0) rfl))))) (fun _ h9 => h9) rfl dX2_widen_2 ?_
  refine lv_iload_n hx hb dX2_widen_5 rfl (lv_at hl 1 rfl) ?_
  refine lv_iload_n hx hb dX2_widen_6 rfl (lv_at hl 1 rfl) ?_
  refine lv_sipush (v := 10242) hx hb dX2_widen_7 (by decide) ?_
  refine lv_icmp_gt (tgt := 19) hx hb dX2_widen_10 (by decide) (fun c1 => False.elim (by revert c1; decide)) (fun _ => ?_)
  refine lv_sipush (v := 10242) hx hb dX2_widen_13 (by decide) ?_
  refine lv_goto (tgt := 21) hx hb dX2_widen_16 (by decide) ?_
  have hPc := hP.sub (ws' := [((a 1), .inl (cy 0, 1024, .inl f9))]) [1] rfl
  have hPc : va_P (dC, dI) nCl (v0_k_X11_widenedBytes_4 cy (fun j9 => [(a 1)].getD j9 0) f9) s.heap := hPc
  have hDc := hD.sub (ws' := [((a 1), .inl (cy 0, 1024, .inl f9))]) [1] (by decide) rfl
  have hDc : va_D A (v0_k_X11_widenedBytes_4 cy (fun j9 => [(a 1)].getD j9 0) f9) := hDc
  have hFc := va_free (wc := (v0_k_X11_widenedBytes_4 cy (fun j9 => [(a 1)].getD j9 0) f9)) hD hS hA [1] rfl
  refine va_callr (va_runSN (As := [.ref (a 1), .int 12, .int 10242]) (rest := [.ref (a 0)]) ⟨hx, hb, hml, hown, hts⟩ (k_X11_widenedBytes_4 l dC dI cy k (fun j9 => [(a 1)].getD j9 0) f9 s.heap.size) ⟨va_cnB 3 hts g_k_X2_widen_4_39_k_X11_widenedBytes_4 rfl rfl rfl (hG.1 _ (List.mem_of_getElem? (i := 95) rfl)) (hts _ (List.mem_cons_of_mem _ (List.mem_append_left _ (List.mem_append_left _ (List.mem_of_getElem? (i := 1) rfl))))) (by decide +kernel) ⟨Nat.le_of_ble_eq_true rfl, Nat.le_of_ble_eq_true rfl⟩, (hts _ (List.mem_cons_of_mem _ (List.mem_append_left _ (List.mem_append_left _ (List.mem_of_getElem? (i := 2) rfl))))), trivial⟩ ⟨nb_blindE, fun U hU hW => ⟨rfl, ⟨by rw [hU], by rw [hU]; exact hPc, va_K.moved hW.alike hK, hDc.weaken (fun _ _ _ _ => trivial), hG.warm hW⟩, nE.to hE hS hW hU hFc⟩⟩ rfl rfl hl.1 rfl (lv_room (Nat.le_of_ble_eq_true rfl)) dX2_widen_21 ⟨Nat.le_of_ble_eq_true rfl, Nat.le_of_ble_eq_true rfl⟩) hS (fun q _ h => hFc q h) hFc (fun u1 r_1 t H1 locs ht hvm hw hB hz1 hk1 hS => ?_)
  obtain ⟨hra, hP1, hK1, hD1⟩ := hB
  subst hra
  rw [ht] at hP1
  obtain ⟨hP, hD⟩ := va_join (wr := [((a 0), .inr (2, [.ref (a 1), .int 8, .int 0, .int 0, .int 0, .long 0, .long 0, .ref (a 2)]))]) (w1 := v1_k_X11_widenedBytes_4 cy (fun j9 => [(a 1)].getD j9 0) f9 u1) hP hD [1] [0] rfl rfl (by decide) (by decide) hk1 hFc hP1 hD1
  generalize H1 = H at hP hS ⊢
  have hP : va_P (dC, dI) nCl [((a 0), .inr (2, [.ref (a 1), .int 8, .int 0, .int 0, .int 0, .long 0, .long 0, .ref (a 2)])), ((a 1), .inl (cy 0, 1024, .inl f9))] H := hP
  have hD : va_D A [((a 0), .inr (2, [.ref (a 1), .int 8, .int 0, .int 0, .int 0, .long 0, .long 0, .ref (a 2)])), ((a 1), .inl (cy 0, 1024, .inl f9))] := hD
  refine va_put (D := (dC, dI)) (ci := 2) (v := .ref (a 1)) (ty := .array .byte) (C := RX2) (T := TX2) (N := 8) hx hb hts in_k_X2_widen_4_X2 tyX2 tyX2_ok nmX2 hown hK hP hD hS 0 rfl rfl 0 (by decide) (hts _ (List.mem_cons_of_mem _ (List.mem_append_left _ (List.mem_append_left _ (List.mem_of_getElem? (i := 0) rfl))))) (fun _ h9 => h9) rfl (by decide +kernel) rfl rfl (Nat.le_of_ble_eq_true rfl) dX2_widen_24 (fun H locs hP hD hS => ?_)
  have hP : va_P (dC, dI) nCl [((a 0), .inr (2, [.ref (a 1), .int 8, .int 0, .int 0, .int 0, .long 0, .long 0, .ref (a 2)])), ((a 1), .inl (cy 0, 1024, .inl f9))] H := hP
  have hD : va_D A [((a 0), .inr (2, [.ref (a 1), .int 8, .int 0, .int 0, .int 0, .long 0, .long 0, .ref (a 2)])), ((a 1), .inl (cy 0, 1024, .inl f9))] := hD
  have hP : va_P (dC, dI) nCl (v1_k_X2_widen_4 cy a f9 (fun _ => 0)) H := hP
  have hD : va_D A (v1_k_X2_widen_4 cy a f9 (fun _ => 0)) := hD
  exact W.vret hx hb hr (fun t ht hW => ⟨⟨(fun _ => 0), rfl, trivial, by rw [ht]; exact hP, va_K.moved hW.alike hK, hD⟩, hS.F ht⟩) hS.2.2 dX2_widen_27
def o_k_X2_append_3 : List Cond := [.fieldLink RX2 31 "SetHouse$Lexer" "length" "I", .methodLink RX2 34 yX2_widen, .instanceMethod yX2_widen, .selects RX2 yX2_widen yX2_widen, .initialized RX2, .fieldLink RX2 11 "SetHouse$Lexer" "tape" "[B"]
theorem o_k_X2_append_3_good : o_k_X2_append_3.all goodWord = true := by decide +kernel
def p_k_X2_append_3 : List Cond := o_k_X2_append_3 ++ ((.code yX2_widen cX2_widen 2 none :: p_k_X2_widen_4) ++ [])
theorem p_k_X2_append_3_good : p_k_X2_append_3.all goodWord = true := nb_all2 o_k_X2_append_3_good (nb_all2 (nb_allc (by decide +kernel) p_k_X2_widen_4_good) rfl)
def w_k_X2_append_3 : List Cond := .code yX2_append cX2_append 3 none :: (p_k_X2_append_3 ++ fC)
theorem w_k_X2_append_3_good : w_k_X2_append_3.all goodWord = true := nb_allc (by decide +kernel) (nb_all2 p_k_X2_append_3_good fC_good)
theorem in_k_X2_append_3_X2 : ∀ w ∈ wsX20, w ∈ w_k_X2_append_3 := fun _ h => List.mem_cons_of_mem _ (List.mem_append_right _ (List.mem_append_right _ (List.mem_append_right _ (List.mem_append_left _ h))))
theorem gg_k_X2_append_3_k_X2_widen_4 : GoodIn w_k_X2_append_3 w_k_X2_widen_4 := goodIn_sub (fun w h => (List.mem_cons.mp h).elim (fun e => (List.mem_cons_of_mem _ (List.mem_append_left _ (List.mem_append_right _ (List.mem_append_left _ (List.mem_cons.mpr (Or.inl e))))))) (fun h => (List.mem_append.mp h).elim (fun h => (List.mem_cons_of_mem _ (List.mem_append_left _ (List.mem_append_right _ (List.mem_append_left _ (List.mem_cons_of_mem _ h)))))) (fun h => List.mem_cons_of_mem _ (List.mem_append_right _ h)))) w_k_X2_widen_4_good
theorem g_k_X2_append_3_34_k_X2_widen_4 : GoodIn w_k_X2_append_3 (wsV RX2 34 RX2 yX2_widen w_k_X2_widen_4) := goodIn_app (nb_g4 (List.mem_cons_of_mem _ (List.mem_append_left _ (List.mem_append_left _ (List.mem_of_getElem? (i := 1) rfl)))) (List.mem_cons_of_mem _ (List.mem_append_left _ (List.mem_append_left _ (List.mem_of_getElem? (i := 2) rfl)))) (List.mem_cons_of_mem _ (List.mem_append_left _ (List.mem_append_left _ (List.mem_of_getElem? (i := 3) rfl)))) (List.mem_cons_of_mem _ (List.mem_append_left _ (List.mem_append_left _ (List.mem_of_getElem? (i := 4) rfl)))) (by decide +kernel)) gg_k_X2_append_3_k_X2_widen_4
def v0_k_X2_append_3 (cy : Nat → ClassId) (a : Nat → Nat) (c9 : Int32) (f9 : Nat → Int32) : va_W := [((a 0), .inr (2, [.ref (a 1), .int 8, .int 0, .int 0, .int 0, .long 0, .long 0, .ref (a 2)])), ((a 1), .inl (cy 0, 1024, .inl f9))]
def v1_k_X2_append_3 (cy : Nat → ClassId) (a : Nat → Nat) (c9 : Int32) (f9 : Nat → Int32) (r : Nat → Nat) : va_W := [((a 0), .inr (2, [.ref (a 1), .int 12, .int 0, .int 0, .int 0, .long 0, .long 0, .ref (a 2)])), ((a 1), .inl (cy 0, 1024, .inl (upd (upd (upd (upd f9 8 (vp_nar .byte (((c9 >>> (24 &&& 31))).toInt8.toInt32))) 9 (vp_nar .byte (((c9 >>> (16 &&& 31))).toInt8.toInt32))) 10 (vp_nar .byte (((c9 >>> (8 &&& 31))).toInt8.toInt32))) 11 (vp_nar .byte (((c9 >>> (0 &&& 31))).toInt8.toInt32)))))]
set_option maxHeartbeats 40000000 in
set_option maxRecDepth 100000 in
theorem k_X2_append_3 (l : Launch) (dC : Nat → ClassId) (dI : Nat → Nat → Nat) (cy : Nat → ClassId) (k : Nat → Nat) (a : Nat → Nat) (c9 : Int32) (f9 : Nat → Int32) (sz : Nat) : Met l yX2_append w_k_X2_append_3 ({ frames := 2, cells := 0, slots := 0, locals := 43 }) (va_Pc [.ref (a 0), .int c9] (nInE (dC, dI) cy k sz (v0_k_X2_append_3 cy a c9 f9))) (va_Qv (fun _ : Nat → Nat => True) (fun r t => nOut (dC, dI) cy (va_A (v0_k_X2_append_3 cy a c9 f9) sz) (v1_k_X2_append_3 cy a c9 f9 r) t) (va_A (v0_k_X2_append_3 cy a c9 f9) sz)) 0 0 (va_A (v0_k_X2_append_3 cy a c9 f9) sz) := by
  refine Met.ofW (cc := cX2_append) (maxL := 3) (ret := none) (by decide) rfl ?_
  intro p e s m args below meth c s₁ B hml hv
  obtain ⟨rfl, ⟨hsz, hP, hK, hD0, hG⟩, hE⟩ := hv
  have hx := B.exec
  have hb := B.bytes
  have hr := B.returns
  have hts := atoms_spec (ws := w_k_X2_append_3) B.pre
  have hown : s.vm.findClass RX2 = some m.cls := findClass_of_methodNamed B.named
  have hlocks := B.notSynchronized
  subst hsz
  have hD := hD0.self (sz := s.heap.size)
  generalize hAe : va_A (v0_k_X2_append_3 cy a c9 f9) s.heap.size = A at hD hE ⊢
  have hA : ∀ q : Nat, s.heap.size ≤ q → A q := fun q h => by rw [← hAe]; exact Or.inr h
  have hS : va_S A s.heap s.heap [] := va_S.rf
  have hP : va_P (dC, dI) nCl (v0_k_X2_append_3 cy a c9 f9) s.heap := hP
  have hl := lv_entry ([.ref (a 0), .int c9]) (n := 3) (Nat.le_of_ble_eq_true rfl)
  rw [lg_entry_eq]
  generalize (lg_sl ([.ref (a 0), .int c9]) ++ List.replicate (3 - (lg_sl ([.ref (a 0), .int c9])).length) Slot.unset).toArray = ls at hl ⊢
  have hl : lv_has ls 3 [(0, .ref (a 0)), (1, .int c9)] := hl
  have hP : va_P (dC, dI) nCl [((a 0), .inr (2, [.ref (a 1), .int 8, .int 0, .int 0, .int 0, .long 0, .long 0, .ref (a 2)])), ((a 1), .inl (cy 0, 1024, .inl f9))] s.heap := hP
  have hD : va_D A [((a 0), .inr (2, [.ref (a 1), .int 8, .int 0, .int 0, .int 0, .long 0, .long 0, .ref (a 2)])), ((a 1), .inl (cy 0, 1024, .inl f9))] := hD
  refine lv_aload_n hx hb dX2_append_0 rfl (lv_at hl 0 rfl) ?_
  refine lv_aload_n hx hb dX2_append_1 rfl (lv_at hl 0 rfl) ?_
  refine va_get (D := (dC, dI)) (ci := 2) (v := .int 8) (C := RX2) (T := TX2) (N := 8) hx hb hts in_k_X2_append_3_X2 hown hK hP 0 rfl rfl 1 (by decide) (hts _ (List.mem_cons_of_mem _ (List.mem_append_left _ (List.mem_append_left _ (List.mem_of_getElem? (i := 0) rfl))))) (fun _ h9 => h9) rfl dX2_append_2 ?_
  refine lv_iconst (v := 4) hx hb dX2_append_5 (by decide) ?_
  refine lv_iadd hx hb dX2_append_6 ?_
  refine W.eq (g2 := F0 m 7 ls [.int 12, .ref (a 0)]) rfl ?_
  have hPc := hP.sub (ws' := [((a 0), .inr (2, [.ref (a 1), .int 8, .int 0, .int 0, .int 0, .long 0, .long 0, .ref (a 2)])), ((a 1), .inl (cy 0, 1024, .inl f9))]) [0, 1] rfl
  have hPc : va_P (dC, dI) nCl (v0_k_X2_widen_4 cy (fun j9 => [(a 0), (a 1), (a 2)].getD j9 0) f9) s.heap := hPc
  have hDc := hD.sub (ws' := [((a 0), .inr (2, [.ref (a 1), .int 8, .int 0, .int 0, .int 0, .long 0, .long 0, .ref (a 2)])), ((a 1), .inl (cy 0, 1024, .inl f9))]) [0, 1] (by decide) rfl
  have hDc : va_D A (v0_k_X2_widen_4 cy (fun j9 => [(a 0), (a 1), (a 2)].getD j9 0) f9) := hDc
  have hFc := va_free (wc := (v0_k_X2_widen_4 cy (fun j9 => [(a 0), (a 1), (a 2)].getD j9 0) f9)) hD hS hA [0, 1] rfl
  refine va_callv (va_runV (As := [.int 12]) (rest := []) ⟨hx, hb, hml, hown, hts⟩ (k_X2_widen_4 l dC dI cy k (fun j9 => [(a 0), (a 1), (a 2)].getD j9 0) f9 s.heap.size) (cwV 1 hts g_k_X2_append_3_34_k_X2_widen_4 rfl rfl rfl (by decide +kernel) ⟨Nat.le_of_ble_eq_true rfl, Nat.le_of_ble_eq_true rfl⟩) ⟨nb_blindE, va_recv hK hPc (ci := 2) (q0 := 0) rfl rfl, fun U hU hW => ⟨rfl, ⟨by rw [hU], by rw [hU]; exact hPc, va_K.moved hW.alike hK, hDc.weaken (fun _ _ _ _ => trivial), hG.warm hW⟩, nE.to hE hS hW hU hFc⟩⟩ rfl rfl hl.1 rfl (lv_room (Nat.le_of_ble_eq_true rfl)) dX2_append_7 ⟨Nat.le_of_ble_eq_true rfl, Nat.le_of_ble_eq_true rfl⟩) hS (fun q _ h => hFc q h) hFc (fun u1 t H1 locs ht hvm hw hB hz1 hk1 hS => ?_)
  obtain ⟨hP1, hK1, hD1⟩ := hB
  rw [ht] at hP1
  obtain ⟨hP, hD⟩ := va_join (wr := []) (w1 := v1_k_X2_widen_4 cy (fun j9 => [(a 0), (a 1), (a 2)].getD j9 0) f9 u1) hP hD [0, 1] [] rfl rfl (by decide) (by decide) hk1 hFc hP1 hD1
  generalize H1 = H at hP hS ⊢
  have hP : va_P (dC, dI) nCl [((a 0), .inr (2, [.ref (a 1), .int 8, .int 0, .int 0, .int 0, .long 0, .long 0, .ref (a 2)])), ((a 1), .inl (cy 0, 1024, .inl f9))] H := hP
  have hD : va_D A [((a 0), .inr (2, [.ref (a 1), .int 8, .int 0, .int 0, .int 0, .long 0, .long 0, .ref (a 2)])), ((a 1), .inl (cy 0, 1024, .inl f9))] := hD
  refine lv_bipush (v := 24) hx hb dX2_append_10 (by decide) ?_
  refine lv_istore_n (lv' := [(2, .int 24), (0, .ref (a 0)), (1, .int c9)]) hx hb dX2_append_12 rfl hl (by decide) rfl (fun ls hl => ?_)
  refine lv_iload_n hx hb dX2_append_13 rfl (lv_at hl 0 rfl) ?_
  refine lv_if_lt (tgt := 48) hx hb dX2_append_14 (by decide) (fun c1 => False.elim (by revert c1; decide)) (fun _ => ?_)
  refine lv_aload_n hx hb dX2_append_17 rfl (lv_at hl 1 rfl) ?_
  refine va_get (D := (dC, dI)) (ci := 2) (v := .ref (a 1)) (C := RX2) (T := TX2) (N := 8) hx hb hts in_k_X2_append_3_X2 hown hK hP 0 rfl rfl 0 (by decide) (hts _ (List.mem_cons_of_mem _ (List.mem_append_left _ (List.mem_append_left _ (List.mem_of_getElem? (i := 5) rfl))))) (fun _ h9 => h9) rfl dX2_append_18 ?_
  refine lv_aload_n hx hb dX2_append_21 rfl (lv_at hl 1 rfl) ?_
  refine va_get (D := (dC, dI)) (ci := 2) (v := .int 8) (C := RX2) (T := TX2) (N := 8) hx hb hts in_k_X2_append_3_X2 hown hK hP 0 rfl rfl 1 (by decide) (hts _ (List.mem_cons_of_mem _ (List.mem_append_left _ (List.mem_append_left _ (List.mem_of_getElem? (i := 0) rfl))))) (fun _ h9 => h9) rfl dX2_append_22 ?_
  refine lv_iload_n hx hb dX2_append_25 rfl (lv_at hl 2 rfl) ?_
  refine lv_iload_n hx hb dX2_append_26 rfl (lv_at hl 0 rfl) ?_
  refine lv_ishr hx hb dX2_append_27 ?_
  refine lv_i2b hx hb dX2_append_28 rfl ?_
  refine va_bast hx hb hK hP hD hS 1 0 rfl rfl (nb_in (by decide)) dX2_append_29 (fun H locs hP hD hS => ?_)
  have hP : va_P (dC, dI) nCl [((a 0), .inr (2, [.ref (a 1), .int 8, .int 0, .int 0, .int 0, .long 0, .long 0, .ref (a 2)])), ((a 1), .inl (cy 0, 1024, .inl (upd f9 8 (vp_nar .byte (((c9 >>> (24 &&& 31))).toInt8.toInt32)))))] H := hP
  have hD : va_D A [((a 0), .inr (2, [.ref (a 1), .int 8, .int 0, .int 0, .int 0, .long 0, .long 0, .ref (a 2)])), ((a 1), .inl (cy 0, 1024, .inl (upd f9 8 (vp_nar .byte (((c9 >>> (24 &&& 31))).toInt8.toInt32)))))] := hD
  refine lv_aload_n hx hb dX2_append_30 rfl (lv_at hl 1 rfl) ?_
  refine lv_dup hx hb dX2_append_31 rfl ?_
  refine va_get (D := (dC, dI)) (ci := 2) (v := .int 8) (C := RX2) (T := TX2) (N := 8) hx hb hts in_k_X2_append_3_X2 hown hK hP 0 rfl rfl 1 (by decide) (hts _ (List.mem_cons_of_mem _ (List.mem_append_left _ (List.mem_append_left _ (List.mem_of_getElem? (i := 0) rfl))))) (fun _ h9 => h9) rfl dX2_append_32 ?_
  refine lv_iconst (v := 1) hx hb dX2_append_35 (by decide) ?_
  refine lv_iadd hx hb dX2_append_36 ?_
  refine W.eq (g2 := F0 m 37 ls [.int 9, .ref (a 0)]) rfl ?_
  refine va_put (D := (dC, dI)) (ci := 2) (v := .int 9) (ty := .int) (C := RX2) (T := TX2) (N := 8) hx hb hts in_k_X2_append_3_X2 tyX2 tyX2_ok nmX2 hown hK hP hD hS 0 rfl rfl 1 (by decide) (hts _ (List.mem_cons_of_mem _ (List.mem_append_left _ (List.mem_append_left _ (List.mem_of_getElem? (i := 0) rfl))))) (fun _ h9 => h9) rfl (by decide +kernel) rfl rfl (Nat.le_of_ble_eq_true rfl) dX2_append_37 (fun H locs hP hD hS => ?_)
  have hP : va_P (dC, dI) nCl [((a 0), .inr (2, [.ref (a 1), .int 9, .int 0, .int 0, .int 0, .long 0, .long 0, .ref (a 2)])), ((a 1), .inl (cy 0, 1024, .inl (upd f9 8 (vp_nar .byte (((c9 >>> (24 &&& 31))).toInt8.toInt32)))))] H := hP
  have hD : va_D A [((a 0), .inr (2, [.ref (a 1), .int 9, .int 0, .int 0, .int 0, .long 0, .long 0, .ref (a 2)])), ((a 1), .inl (cy 0, 1024, .inl (upd f9 8 (vp_nar .byte (((c9 >>> (24 &&& 31))).toInt8.toInt32)))))] := hD
  refine lv_iload_n hx hb dX2_append_40 rfl (lv_at hl 0 rfl) ?_
  refine lv_bipush (v := 8) hx hb dX2_append_41 (by decide) ?_
  refine lv_isub hx hb dX2_append_43 ?_
  refine W.eq (g2 := F0 m 44 ls [.int 16]) rfl ?_
  refine lv_istore_n (lv' := [(2, .int 16), (0, .ref (a 0)), (1, .int c9)]) hx hb dX2_append_44 rfl hl (by decide) rfl (fun ls hl => ?_)
  refine lv_goto (tgt := 13) hx hb dX2_append_45 (by decide) ?_
  refine lv_iload_n hx hb dX2_append_13 rfl (lv_at hl 0 rfl) ?_
  refine lv_if_lt (tgt := 48) hx hb dX2_append_14 (by decide) (fun c1 => False.elim (by revert c1; decide)) (fun _ => ?_)
  refine lv_aload_n hx hb dX2_append_17 rfl (lv_at hl 1 rfl) ?_
  refine va_get (D := (dC, dI)) (ci := 2) (v := .ref (a 1)) (C := RX2) (T := TX2) (N := 8) hx hb hts in_k_X2_append_3_X2 hown hK hP 0 rfl rfl 0 (by decide) (hts _ (List.mem_cons_of_mem _ (List.mem_append_left _ (List.mem_append_left _ (List.mem_of_getElem? (i := 5) rfl))))) (fun _ h9 => h9) rfl dX2_append_18 ?_
  refine lv_aload_n hx hb dX2_append_21 rfl (lv_at hl 1 rfl) ?_
  refine va_get (D := (dC, dI)) (ci := 2) (v := .int 9) (C := RX2) (T := TX2) (N := 8) hx hb hts in_k_X2_append_3_X2 hown hK hP 0 rfl rfl 1 (by decide) (hts _ (List.mem_cons_of_mem _ (List.mem_append_left _ (List.mem_append_left _ (List.mem_of_getElem? (i := 0) rfl))))) (fun _ h9 => h9) rfl dX2_append_22 ?_
  refine lv_iload_n hx hb dX2_append_25 rfl (lv_at hl 2 rfl) ?_
  refine lv_iload_n hx hb dX2_append_26 rfl (lv_at hl 0 rfl) ?_
  refine lv_ishr hx hb dX2_append_27 ?_
  refine lv_i2b hx hb dX2_append_28 rfl ?_
  refine va_bast hx hb hK hP hD hS 1 0 rfl rfl (nb_in (by decide)) dX2_append_29 (fun H locs hP hD hS => ?_)
  have hP : va_P (dC, dI) nCl [((a 0), .inr (2, [.ref (a 1), .int 9, .int 0, .int 0, .int 0, .long 0, .long 0, .ref (a 2)])), ((a 1), .inl (cy 0, 1024, .inl (upd (upd f9 8 (vp_nar .byte (((c9 >>> (24 &&& 31))).toInt8.toInt32))) 9 (vp_nar .byte (((c9 >>> (16 &&& 31))).toInt8.toInt32)))))] H := hP
  have hD : va_D A [((a 0), .inr (2, [.ref (a 1), .int 9, .int 0, .int 0, .int 0, .long 0, .long 0, .ref (a 2)])), ((a 1), .inl (cy 0, 1024, .inl (upd (upd f9 8 (vp_nar .byte (((c9 >>> (24 &&& 31))).toInt8.toInt32))) 9 (vp_nar .byte (((c9 >>> (16 &&& 31))).toInt8.toInt32)))))] := hD
  refine lv_aload_n hx hb dX2_append_30 rfl (lv_at hl 1 rfl) ?_
  refine lv_dup hx hb dX2_append_31 rfl ?_
  refine va_get (D := (dC, dI)) (ci := 2) (v := .int 9) (C := RX2) (T := TX2) (N := 8) hx hb hts in_k_X2_append_3_X2 hown hK hP 0 rfl rfl 1 (by decide) (hts _ (List.mem_cons_of_mem _ (List.mem_append_left _ (List.mem_append_left _ (List.mem_of_getElem? (i := 0) rfl))))) (fun _ h9 => h9) rfl dX2_append_32 ?_
  refine lv_iconst (v := 1) hx hb dX2_append_35 (by decide) ?_
  refine lv_iadd hx hb dX2_append_36 ?_
  refine W.eq (g2 := F0 m 37 ls [.int 10, .ref (a 0)]) rfl ?_
  refine va_put (D := (dC, dI)) (ci := 2) (v := .int 10) (ty := .int) (C := RX2) (T := TX2) (N := 8) hx hb hts in_k_X2_append_3_X2 tyX2 tyX2_ok nmX2 hown hK hP hD hS 0 rfl rfl 1 (by decide) (hts _ (List.mem_cons_of_mem _ (List.mem_append_left _ (List.mem_append_left _ (List.mem_of_getElem? (i := 0) rfl))))) (fun _ h9 => h9) rfl (by decide +kernel) rfl rfl (Nat.le_of_ble_eq_true rfl) dX2_append_37 (fun H locs hP hD hS => ?_)
  have hP : va_P (dC, dI) nCl [((a 0), .inr (2, [.ref (a 1), .int 10, .int 0, .int 0, .int 0, .long 0, .long 0, .ref (a 2)])), ((a 1), .inl (cy 0, 1024, .inl (upd (upd f9 8 (vp_nar .byte (((c9 >>> (24 &&& 31))).toInt8.toInt32))) 9 (vp_nar .byte (((c9 >>> (16 &&& 31))).toInt8.toInt32)))))] H := hP
  have hD : va_D A [((a 0), .inr (2, [.ref (a 1), .int 10, .int 0, .int 0, .int 0, .long 0, .long 0, .ref (a 2)])), ((a 1), .inl (cy 0, 1024, .inl (upd (upd f9 8 (vp_nar .byte (((c9 >>> (24 &&& 31))).toInt8.toInt32))) 9 (vp_nar .byte (((c9 >>> (16 &&& 31))).toInt8.toInt32)))))] := hD
  refine lv_iload_n hx hb dX2_append_40 rfl (lv_at hl 0 rfl) ?_
  refine lv_bipush (v := 8) hx hb dX2_append_41 (by decide) ?_
  refine lv_isub hx hb dX2_append_43 ?_
  refine W.eq (g2 := F0 m 44 ls [.int 8]) rfl ?_
  refine lv_istore_n (lv' := [(2, .int 8), (0, .ref (a 0)), (1, .int c9)]) hx hb dX2_append_44 rfl hl (by decide) rfl (fun ls hl => ?_)
  refine lv_goto (tgt := 13) hx hb dX2_append_45 (by decide) ?_
  refine lv_iload_n hx hb dX2_append_13 rfl (lv_at hl 0 rfl) ?_
  refine lv_if_lt (tgt := 48) hx hb dX2_append_14 (by decide) (fun c1 => False.elim (by revert c1; decide)) (fun _ => ?_)
  refine lv_aload_n hx hb dX2_append_17 rfl (lv_at hl 1 rfl) ?_
  refine va_get (D := (dC, dI)) (ci := 2) (v := .ref (a 1)) (C := RX2) (T := TX2) (N := 8) hx hb hts in_k_X2_append_3_X2 hown hK hP 0 rfl rfl 0 (by decide) (hts _ (List.mem_cons_of_mem _ (List.mem_append_left _ (List.mem_append_left _ (List.mem_of_getElem? (i := 5) rfl))))) (fun _ h9 => h9) rfl dX2_append_18 ?_
  refine lv_aload_n hx hb dX2_append_21 rfl (lv_at hl 1 rfl) ?_
  refine va_get (D := (dC, dI)) (ci := 2) (v := .int 10) (C := RX2) (T := TX2) (N := 8) hx hb hts in_k_X2_append_3_X2 hown hK hP 0 rfl rfl 1 (by decide) (hts _ (List.mem_cons_of_mem _ (List.mem_append_left _ (List.mem_append_left _ (List.mem_of_getElem? (i := 0) rfl))))) (fun _ h9 => h9) rfl dX2_append_22 ?_
  refine lv_iload_n hx hb dX2_append_25 rfl (lv_at hl 2 rfl) ?_
  refine lv_iload_n hx hb dX2_append_26 rfl (lv_at hl 0 rfl) ?_
  refine lv_ishr hx hb dX2_append_27 ?_
  refine lv_i2b hx hb dX2_append_28 rfl ?_
  refine va_bast hx hb hK hP hD hS 1 0 rfl rfl (nb_in (by decide)) dX2_append_29 (fun H locs hP hD hS => ?_)
  have hP : va_P (dC, dI) nCl [((a 0), .inr (2, [.ref (a 1), .int 10, .int 0, .int 0, .int 0, .long 0, .long 0, .ref (a 2)])), ((a 1), .inl (cy 0, 1024, .inl (upd (upd (upd f9 8 (vp_nar .byte (((c9 >>> (24 &&& 31))).toInt8.toInt32))) 9 (vp_nar .byte (((c9 >>> (16 &&& 31))).toInt8.toInt32))) 10 (vp_nar .byte (((c9 >>> (8 &&& 31))).toInt8.toInt32)))))] H := hP
  have hD : va_D A [((a 0), .inr (2, [.ref (a 1), .int 10, .int 0, .int 0, .int 0, .long 0, .long 0, .ref (a 2)])), ((a 1), .inl (cy 0, 1024, .inl (upd (upd (upd f9 8 (vp_nar .byte (((c9 >>> (24 &&& 31))).toInt8.toInt32))) 9 (vp_nar .byte (((c9 >>> (16 &&& 31))).toInt8.toInt32))) 10 (vp_nar .byte (((c9 >>> (8 &&& 31))).toInt8.toInt32)))))] := hD
  refine lv_aload_n hx hb dX2_append_30 rfl (lv_at hl 1 rfl) ?_
  refine lv_dup hx hb dX2_append_31 rfl ?_
  refine va_get (D := (dC, dI)) (ci := 2) (v := .int 10) (C := RX2) (T := TX2) (N := 8) hx hb hts in_k_X2_append_3_X2 hown hK hP 0 rfl rfl 1 (by decide) (hts _ (List.mem_cons_of_mem _ (List.mem_append_left _ (List.mem_append_left _ (List.mem_of_getElem? (i := 0) rfl))))) (fun _ h9 => h9) rfl dX2_append_32 ?_
  refine lv_iconst (v := 1) hx hb dX2_append_35 (by decide) ?_
  refine lv_iadd hx hb dX2_append_36 ?_
  refine W.eq (g2 := F0 m 37 ls [.int 11, .ref (a 0)]) rfl ?_
  refine va_put (D := (dC, dI)) (ci := 2) (v := .int 11) (ty := .int) (C := RX2) (T := TX2) (N := 8) hx hb hts in_k_X2_append_3_X2 tyX2 tyX2_ok nmX2 hown hK hP hD hS 0 rfl rfl 1 (by decide) (hts _ (List.mem_cons_of_mem _ (List.mem_append_left _ (List.mem_append_left _ (List.mem_of_getElem? (i := 0) rfl))))) (fun _ h9 => h9) rfl (by decide +kernel) rfl rfl (Nat.le_of_ble_eq_true rfl) dX2_append_37 (fun H locs hP hD hS => ?_)
  have hP : va_P (dC, dI) nCl [((a 0), .inr (2, [.ref (a 1), .int 11, .int 0, .int 0, .int 0, .long 0, .long 0, .ref (a 2)])), ((a 1), .inl (cy 0, 1024, .inl (upd (upd (upd f9 8 (vp_nar .byte (((c9 >>> (24 &&& 31))).toInt8.toInt32))) 9 (vp_nar .byte (((c9 >>> (16 &&& 31))).toInt8.toInt32))) 10 (vp_nar .byte (((c9 >>> (8 &&& 31))).toInt8.toInt32)))))] H := hP
  have hD : va_D A [((a 0), .inr (2, [.ref (a 1), .int 11, .int 0, .int 0, .int 0, .long 0, .long 0, .ref (a 2)])), ((a 1), .inl (cy 0, 1024, .inl (upd (upd (upd f9 8 (vp_nar .byte (((c9 >>> (24 &&& 31))).toInt8.toInt32))) 9 (vp_nar .byte (((c9 >>> (16 &&& 31))).toInt8.toInt32))) 10 (vp_nar .byte (((c9 >>> (8 &&& 31))).toInt8.toInt32)))))] := hD
  refine lv_iload_n hx hb dX2_append_40 rfl (lv_at hl 0 rfl) ?_
  refine lv_bipush (v := 8) hx hb dX2_append_41 (by decide) ?_
  refine lv_isub hx hb dX2_append_43 ?_
  refine W.eq (g2 := F0 m 44 ls [.int 0]) rfl ?_
  refine lv_istore_n (lv' := [(2, .int 0), (0, .ref (a 0)), (1, .int c9)]) hx hb dX2_append_44 rfl hl (by decide) rfl (fun ls hl => ?_)
  refine lv_goto (tgt := 13) hx hb dX2_append_45 (by decide) ?_
  refine lv_iload_n hx hb dX2_append_13 rfl (lv_at hl 0 rfl) ?_
  refine lv_if_lt (tgt := 48) hx hb dX2_append_14 (by decide) (fun c1 => False.elim (by revert c1; decide)) (fun _ => ?_)
  refine lv_aload_n hx hb dX2_append_17 rfl (lv_at hl 1 rfl) ?_
  refine va_get (D := (dC, dI)) (ci := 2) (v := .ref (a 1)) (C := RX2) (T := TX2) (N := 8) hx hb hts in_k_X2_append_3_X2 hown hK hP 0 rfl rfl 0 (by decide) (hts _ (List.mem_cons_of_mem _ (List.mem_append_left _ (List.mem_append_left _ (List.mem_of_getElem? (i := 5) rfl))))) (fun _ h9 => h9) rfl dX2_append_18 ?_
  refine lv_aload_n hx hb dX2_append_21 rfl (lv_at hl 1 rfl) ?_
  refine va_get (D := (dC, dI)) (ci := 2) (v := .int 11) (C := RX2) (T := TX2) (N := 8) hx hb hts in_k_X2_append_3_X2 hown hK hP 0 rfl rfl 1 (by decide) (hts _ (List.mem_cons_of_mem _ (List.mem_append_left _ (List.mem_append_left _ (List.mem_of_getElem? (i := 0) rfl))))) (fun _ h9 => h9) rfl dX2_append_22 ?_
  refine lv_iload_n hx hb dX2_append_25 rfl (lv_at hl 2 rfl) ?_
  refine lv_iload_n hx hb dX2_append_26 rfl (lv_at hl 0 rfl) ?_
  refine lv_ishr hx hb dX2_append_27 ?_
  refine lv_i2b hx hb dX2_append_28 rfl ?_
  refine va_bast hx hb hK hP hD hS 1 0 rfl rfl (nb_in (by decide)) dX2_append_29 (fun H locs hP hD hS => ?_)
  have hP : va_P (dC, dI) nCl [((a 0), .inr (2, [.ref (a 1), .int 11, .int 0, .int 0, .int 0, .long 0, .long 0, .ref (a 2)])), ((a 1), .inl (cy 0, 1024, .inl (upd (upd (upd (upd f9 8 (vp_nar .byte (((c9 >>> (24 &&& 31))).toInt8.toInt32))) 9 (vp_nar .byte (((c9 >>> (16 &&& 31))).toInt8.toInt32))) 10 (vp_nar .byte (((c9 >>> (8 &&& 31))).toInt8.toInt32))) 11 (vp_nar .byte (((c9 >>> (0 &&& 31))).toInt8.toInt32)))))] H := hP
  have hD : va_D A [((a 0), .inr (2, [.ref (a 1), .int 11, .int 0, .int 0, .int 0, .long 0, .long 0, .ref (a 2)])), ((a 1), .inl (cy 0, 1024, .inl (upd (upd (upd (upd f9 8 (vp_nar .byte (((c9 >>> (24 &&& 31))).toInt8.toInt32))) 9 (vp_nar .byte (((c9 >>> (16 &&& 31))).toInt8.toInt32))) 10 (vp_nar .byte (((c9 >>> (8 &&& 31))).toInt8.toInt32))) 11 (vp_nar .byte (((c9 >>> (0 &&& 31))).toInt8.toInt32)))))] := hD
  refine lv_aload_n hx hb dX2_append_30 rfl (lv_at hl 1 rfl) ?_
  refine lv_dup hx hb dX2_append_31 rfl ?_
  refine va_get (D := (dC, dI)) (ci := 2) (v := .int 11) (C := RX2) (T := TX2) (N := 8) hx hb hts in_k_X2_append_3_X2 hown hK hP 0 rfl rfl 1 (by decide) (hts _ (List.mem_cons_of_mem _ (List.mem_append_left _ (List.mem_append_left _ (List.mem_of_getElem? (i := 0) rfl))))) (fun _ h9 => h9) rfl dX2_append_32 ?_
  refine lv_iconst (v := 1) hx hb dX2_append_35 (by decide) ?_
  refine lv_iadd hx hb dX2_append_36 ?_
  refine W.eq (g2 := F0 m 37 ls [.int 12, .ref (a 0)]) rfl ?_
  refine va_put (D := (dC, dI)) (ci := 2) (v := .int 12) (ty := .int) (C := RX2) (T := TX2) (N := 8) hx hb hts in_k_X2_append_3_X2 tyX2 tyX2_ok nmX2 hown hK hP hD hS 0 rfl rfl 1 (by decide) (hts _ (List.mem_cons_of_mem _ (List.mem_append_left _ (List.mem_append_left _ (List.mem_of_getElem? (i := 0) rfl))))) (fun _ h9 => h9) rfl (by decide +kernel) rfl rfl (Nat.le_of_ble_eq_true rfl) dX2_append_37 (fun H locs hP hD hS => ?_)
  have hP : va_P (dC, dI) nCl [((a 0), .inr (2, [.ref (a 1), .int 12, .int 0, .int 0, .int 0, .long 0, .long 0, .ref (a 2)])), ((a 1), .inl (cy 0, 1024, .inl (upd (upd (upd (upd f9 8 (vp_nar .byte (((c9 >>> (24 &&& 31))).toInt8.toInt32))) 9 (vp_nar .byte (((c9 >>> (16 &&& 31))).toInt8.toInt32))) 10 (vp_nar .byte (((c9 >>> (8 &&& 31))).toInt8.toInt32))) 11 (vp_nar .byte (((c9 >>> (0 &&& 31))).toInt8.toInt32)))))] H := hP
  have hD : va_D A [((a 0), .inr (2, [.ref (a 1), .int 12, .int 0, .int 0, .int 0, .long 0, .long 0, .ref (a 2)])), ((a 1), .inl (cy 0, 1024, .inl (upd (upd (upd (upd f9 8 (vp_nar .byte (((c9 >>> (24 &&& 31))).toInt8.toInt32))) 9 (vp_nar .byte (((c9 >>> (16 &&& 31))).toInt8.toInt32))) 10 (vp_nar .byte (((c9 >>> (8 &&& 31))).toInt8.toInt32))) 11 (vp_nar .byte (((c9 >>> (0 &&& 31))).toInt8.toInt32)))))] := hD
  refine lv_iload_n hx hb dX2_append_40 rfl (lv_at hl 0 rfl) ?_
  refine lv_bipush (v := 8) hx hb dX2_append_41 (by decide) ?_
  refine lv_isub hx hb dX2_append_43 ?_
  refine W.eq (g2 := F0 m 44 ls [.int (-8)]) rfl ?_
  refine lv_istore_n (lv' := [(2, .int (-8)), (0, .ref (a 0)), (1, .int c9)]) hx hb dX2_append_44 rfl hl (by decide) rfl (fun ls hl => ?_)
  refine lv_goto (tgt := 13) hx hb dX2_append_45 (by decide) ?_
  refine lv_iload_n hx hb dX2_append_13 rfl (lv_at hl 0 rfl) ?_
  refine lv_if_lt (tgt := 48) hx hb dX2_append_14 (by decide) (fun _ => ?_) (fun c1 => False.elim (by revert c1; decide))
  have hP : va_P (dC, dI) nCl (v1_k_X2_append_3 cy a c9 f9 (fun _ => 0)) H := hP
  have hD : va_D A (v1_k_X2_append_3 cy a c9 f9 (fun _ => 0)) := hD
  exact W.vret hx hb hr (fun t ht hW => ⟨⟨(fun _ => 0), rfl, trivial, by rw [ht]; exact hP, va_K.moved hW.alike hK, hD⟩, hS.F ht⟩) hS.2.2 dX2_append_48
def o_k_X11_widenedBytes_5 : List Cond := []
theorem o_k_X11_widenedBytes_5_good : o_k_X11_widenedBytes_5.all goodWord = true := by decide +kernel
def p_k_X11_widenedBytes_5 : List Cond := o_k_X11_widenedBytes_5 ++ []
theorem p_k_X11_widenedBytes_5_good : p_k_X11_widenedBytes_5.all goodWord = true := nb_all2 o_k_X11_widenedBytes_5_good rfl
def w_k_X11_widenedBytes_5 : List Cond := .code yX11_widenedBytes cX11_widenedBytes 3 (some (.array .byte)) :: (p_k_X11_widenedBytes_5 ++ fC)
theorem w_k_X11_widenedBytes_5_good : w_k_X11_widenedBytes_5.all goodWord = true := nb_allc (by decide +kernel) (nb_all2 p_k_X11_widenedBytes_5_good fC_good)
def v0_k_X11_widenedBytes_5 (cy : Nat → ClassId) (a : Nat → Nat) (f9 : Nat → Int32) : va_W := [((a 0), .inl (cy 0, 1024, .inl f9))]
def v1_k_X11_widenedBytes_5 (cy : Nat → ClassId) (a : Nat → Nat) (f9 : Nat → Int32) (r : Nat → Nat) : va_W := [((a 0), .inl (cy 0, 1024, .inl f9))]
set_option maxHeartbeats 40000000 in
set_option maxRecDepth 100000 in
theorem k_X11_widenedBytes_5 (l : Launch) (dC : Nat → ClassId) (dI : Nat → Nat → Nat) (cy : Nat → ClassId) (k : Nat → Nat) (a : Nat → Nat) (f9 : Nat → Int32) (sz : Nat) : Met l yX11_widenedBytes w_k_X11_widenedBytes_5 ({ frames := 0, cells := 0, slots := 0, locals := 0 }) (va_Pc [.ref (a 0), .int 16, .int 10242] (nInE (dC, dI) cy k sz (v0_k_X11_widenedBytes_5 cy a f9))) (va_Qr (fun _ : Nat → Nat => True) (fun r q t => q = (a 0) ∧ nOut (dC, dI) cy (va_A (v0_k_X11_widenedBytes_5 cy a f9) sz) (v1_k_X11_widenedBytes_5 cy a f9 r) t) (va_A (v0_k_X11_widenedBytes_5 cy a f9) sz)) 0 0 (va_A (v0_k_X11_widenedBytes_5 cy a f9) sz) := by
  refine Met.ofW (cc := cX11_widenedBytes) (maxL := 3) (ret := (some (.array .byte))) (by decide) rfl ?_
  intro p e s m args below meth c s₁ B hml hv
  obtain ⟨rfl, ⟨hsz, hP, hK, hD0, hG⟩, hE⟩ := hv
  have hx := B.exec
  have hb := B.bytes
  have hr := B.returns
  have hts := atoms_spec (ws := w_k_X11_widenedBytes_5) B.pre
  have hown : s.vm.findClass RX11 = some m.cls := findClass_of_methodNamed B.named
  have hlocks := B.notSynchronized
  subst hsz
  have hD := hD0.self (sz := s.heap.size)
  generalize hAe : va_A (v0_k_X11_widenedBytes_5 cy a f9) s.heap.size = A at hD hE ⊢
  have hA : ∀ q : Nat, s.heap.size ≤ q → A q := fun q h => by rw [← hAe]; exact Or.inr h
  have hS : va_S A s.heap s.heap [] := va_S.rf
  have hP : va_P (dC, dI) nCl (v0_k_X11_widenedBytes_5 cy a f9) s.heap := hP
  have hl := lv_entry ([.ref (a 0), .int 16, .int 10242]) (n := 3) (Nat.le_of_ble_eq_true rfl)
  rw [lg_entry_eq]
  generalize (lg_sl ([.ref (a 0), .int 16, .int 10242]) ++ List.replicate (3 - (lg_sl ([.ref (a 0), .int 16, .int 10242])).length) Slot.unset).toArray = ls at hl ⊢
  have hl : lv_has ls 3 [(0, .ref (a 0)), (1, .int 16), (2, .int 10242)] := hl
  have hP : va_P (dC, dI) nCl [((a 0), .inl (cy 0, 1024, .inl f9))] s.heap := hP
  have hD : va_D A [((a 0), .inl (cy 0, 1024, .inl f9))] := hD
  refine lv_iload_n hx hb dX11_widenedBytes_0 rfl (lv_at hl 1 rfl) ?_
  refine lv_aload_n hx hb dX11_widenedBytes_1 rfl (lv_at hl 0 rfl) ?_
  refine va_alen hx hb hK hP 0 0 rfl rfl (v := 1024) rfl dX11_widenedBytes_2 ?_
  refine lv_icmp_le (tgt := 20) hx hb dX11_widenedBytes_3 (by decide) (fun _ => ?_) (fun c1 => False.elim (by revert c1; decide))
  refine lv_aload_n hx hb dX11_widenedBytes_20 rfl (lv_at hl 0 rfl) ?_
  have hP : va_P (dC, dI) nCl (v1_k_X11_widenedBytes_5 cy a f9 (fun _ => 0)) s.heap := hP
  have hD : va_D A (v1_k_X11_widenedBytes_5 cy a f9 (fun _ => 0)) := hD
  exact W.aret hx hb hr (Or.inr ⟨_, rfl⟩) (Or.inr ⟨_, rfl⟩) (fun t ht hW => ⟨⟨(fun _ => 0), (a 0), rfl, trivial, rfl, by rw [ht]; exact hP, va_K.moved hW.alike hK, hD⟩, hS.F ht⟩) hS.2.2 dX11_widenedBytes_21
def o_k_X2_widen_5 : List Cond := [.fieldLink RX2 11 "SetHouse$Lexer" "tape" "[B", .initialized RX11, .static yX11_widenedBytes]
theorem o_k_X2_widen_5_good : o_k_X2_widen_5.all goodWord = true := by decide +kernel
def p_k_X2_widen_5 : List Cond := o_k_X2_widen_5 ++ ((.code yX11_widenedBytes cX11_widenedBytes 3 (some (.array .byte)) :: p_k_X11_widenedBytes_5) ++ [])
theorem p_k_X2_widen_5_good : p_k_X2_widen_5.all goodWord = true := nb_all2 o_k_X2_widen_5_good (nb_all2 (nb_allc (by decide +kernel) p_k_X11_widenedBytes_5_good) rfl)
def w_k_X2_widen_5 : List Cond := .code yX2_widen cX2_widen 2 none :: (p_k_X2_widen_5 ++ fC)
theorem w_k_X2_widen_5_good : w_k_X2_widen_5.all goodWord = true := nb_allc (by decide +kernel) (nb_all2 p_k_X2_widen_5_good fC_good)
theorem in_k_X2_widen_5_X2 : ∀ w ∈ wsX20, w ∈ w_k_X2_widen_5 := fun _ h => List.mem_cons_of_mem _ (List.mem_append_right _ (List.mem_append_right _ (List.mem_append_right _ (List.mem_append_left _ h))))
theorem gg_k_X2_widen_5_k_X11_widenedBytes_5 : GoodIn w_k_X2_widen_5 w_k_X11_widenedBytes_5 := goodIn_sub (fun w h => (List.mem_cons.mp h).elim (fun e => (List.mem_cons_of_mem _ (List.mem_append_left _ (List.mem_append_right _ (List.mem_append_left _ (List.mem_cons.mpr (Or.inl e))))))) (fun h => (List.mem_append.mp h).elim (fun h => (List.mem_cons_of_mem _ (List.mem_append_left _ (List.mem_append_right _ (List.mem_append_left _ (List.mem_cons_of_mem _ h)))))) (fun h => List.mem_cons_of_mem _ (List.mem_append_right _ h)))) w_k_X11_widenedBytes_5_good
theorem g_k_X2_widen_5_39_k_X11_widenedBytes_5 : GoodIn w_k_X2_widen_5 w_k_X11_widenedBytes_5 := gg_k_X2_widen_5_k_X11_widenedBytes_5
def v0_k_X2_widen_5 (cy : Nat → ClassId) (a : Nat → Nat) (f9 : Nat → Int32) : va_W := [((a 0), .inr (2, [.ref (a 1), .int 12, .int 0, .int 0, .int 0, .long 0, .long 0, .ref (a 2)])), ((a 1), .inl (cy 0, 1024, .inl f9))]
def v1_k_X2_widen_5 (cy : Nat → ClassId) (a : Nat → Nat) (f9 : Nat → Int32) (r : Nat → Nat) : va_W := [((a 0), .inr (2, [.ref (a 1), .int 12, .int 0, .int 0, .int 0, .long 0, .long 0, .ref (a 2)])), ((a 1), .inl (cy 0, 1024, .inl f9))]
set_option maxHeartbeats 40000000 in
set_option maxRecDepth 100000 in
theorem k_X2_widen_5 (l : Launch) (dC : Nat → ClassId) (dI : Nat → Nat → Nat) (cy : Nat → ClassId) (k : Nat → Nat) (a : Nat → Nat) (f9 : Nat → Int32) (sz : Nat) : Met l yX2_widen w_k_X2_widen_5 ({ frames := 1, cells := 0, slots := 0, locals := 22 }) (va_Pc [.ref (a 0), .int 16] (nInE (dC, dI) cy k sz (v0_k_X2_widen_5 cy a f9))) (va_Qv (fun _ : Nat → Nat => True) (fun r t => nOut (dC, dI) cy (va_A (v0_k_X2_widen_5 cy a f9) sz) (v1_k_X2_widen_5 cy a f9 r) t) (va_A (v0_k_X2_widen_5 cy a f9) sz)) 0 0 (va_A (v0_k_X2_widen_5 cy a f9) sz) := by
  refine Met.ofW (cc := cX2_widen) (maxL := 2) (ret := none) (by decide) rfl ?_
  intro p e s m args below meth c s₁ B hml hv
  obtain ⟨rfl, ⟨hsz, hP, hK, hD0, hG⟩, hE⟩ := hv
  have hx := B.exec
  have hb := B.bytes
  have hr := B.returns
  have hts := atoms_spec (ws := w_k_X2_widen_5) B.pre
  have hown : s.vm.findClass RX2 = some m.cls := findClass_of_methodNamed B.named
  have hlocks := B.notSynchronized
  subst hsz
  have hD := hD0.self (sz := s.heap.size)
  generalize hAe : va_A (v0_k_X2_widen_5 cy a f9) s.heap.size = A at hD hE ⊢
  have hA : ∀ q : Nat, s.heap.size ≤ q → A q := fun q h => by rw [← hAe]; exact Or.inr h
  have hS : va_S A s.heap s.heap [] := va_S.rf
  have hP : va_P (dC, dI) nCl (v0_k_X2_widen_5 cy a f9) s.heap := hP
  have hl := lv_entry ([.ref (a 0), .int 16]) (n := 2) (Nat.le_of_ble_eq_true rfl)
  rw [lg_entry_eq]
  generalize (lg_sl ([.ref (a 0), .int 16]) ++ List.replicate (2 - (lg_sl ([.ref (a 0), .int 16])).length) Slot.unset).toArray = ls at hl ⊢
  have hl : lv_has ls 2 [(0, .ref (a 0)), (1, .int 16)] := hl
  have hP : va_P (dC, dI) nCl [((a 0), .inr (2, [.ref (a 1), .int 12, .int 0, .int 0, .int 0, .long 0, .long 0, .ref (a 2)])), ((a 1), .inl (cy 0, 1024, .inl f9))] s.heap := hP
  have hD : va_D A [((a 0), .inr (2, [.ref (a 1), .int 12, .int 0, .int 0, .int 0, .long 0, .long 0, .ref (a 2)])), ((a 1), .inl (cy 0, 1024, .inl f9))] := hD
  refine lv_aload_n hx hb dX2_widen_0 rfl (lv_at hl 0 rfl) ?_
  refine lv_aload_n hx hb dX2_widen_1 rfl (lv_at hl 0 rfl) ?_
  refine va_get (D := (dC, dI)) (ci := 2) (v := .ref (a 1)) (C := RX2) (T := TX2) (N := 8) hx hb hts in_k_X2_widen_5_X2 hown hK hP 0 rfl rfl 0 (by decide) (hts _ (List.mem_cons_of_mem _ (List.mem_append_left _ (List.mem_append_left _ (List.mem_of_getElem? (i := 0) rfl))))) (fun _ h9 => h9) rfl dX2_widen_2 ?_
  refine lv_iload_n hx hb dX2_widen_5 rfl (lv_at hl 1 rfl) ?_
  refine lv_iload_n hx hb dX2_widen_6 rfl (lv_at hl 1 rfl) ?_
  refine lv_sipush (v := 10242) hx hb dX2_widen_7 (by decide) ?_
  refine lv_icmp_gt (tgt := 19) hx hb dX2_widen_10 (by decide) (fun c1 => False.elim (by revert c1; decide)) (fun _ => ?_)
  refine lv_sipush (v := 10242) hx hb dX2_widen_13 (by decide) ?_
  refine lv_goto (tgt := 21) hx hb dX2_widen_16 (by decide) ?_
  have hPc := hP.sub (ws' := [((a 1), .inl (cy 0, 1024, .inl f9))]) [1] rfl
  have hPc : va_P (dC, dI) nCl (v0_k_X11_widenedBytes_5 cy (fun j9 => [(a 1)].getD j9 0) f9) s.heap := hPc
  have hDc := hD.sub (ws' := [((a 1), .inl (cy 0, 1024, .inl f9))]) [1] (by decide) rfl
  have hDc : va_D A (v0_k_X11_widenedBytes_5 cy (fun j9 => [(a 1)].getD j9 0) f9) := hDc
  have hFc := va_free (wc := (v0_k_X11_widenedBytes_5 cy (fun j9 => [(a 1)].getD j9 0) f9)) hD hS hA [1] rfl
  refine va_callr (va_runSN (As := [.ref (a 1), .int 16, .int 10242]) (rest := [.ref (a 0)]) ⟨hx, hb, hml, hown, hts⟩ (k_X11_widenedBytes_5 l dC dI cy k (fun j9 => [(a 1)].getD j9 0) f9 s.heap.size) ⟨va_cnB 3 hts g_k_X2_widen_5_39_k_X11_widenedBytes_5 rfl rfl rfl (hG.1 _ (List.mem_of_getElem? (i := 95) rfl)) (hts _ (List.mem_cons_of_mem _ (List.mem_append_left _ (List.mem_append_left _ (List.mem_of_getElem? (i := 1) rfl))))) (by decide +kernel) ⟨Nat.le_of_ble_eq_true rfl, Nat.le_of_ble_eq_true rfl⟩, (hts _ (List.mem_cons_of_mem _ (List.mem_append_left _ (List.mem_append_left _ (List.mem_of_getElem? (i := 2) rfl))))), trivial⟩ ⟨nb_blindE, fun U hU hW => ⟨rfl, ⟨by rw [hU], by rw [hU]; exact hPc, va_K.moved hW.alike hK, hDc.weaken (fun _ _ _ _ => trivial), hG.warm hW⟩, nE.to hE hS hW hU hFc⟩⟩ rfl rfl hl.1 rfl (lv_room (Nat.le_of_ble_eq_true rfl)) dX2_widen_21 ⟨Nat.le_of_ble_eq_true rfl, Nat.le_of_ble_eq_true rfl⟩) hS (fun q _ h => hFc q h) hFc (fun u1 r_1 t H1 locs ht hvm hw hB hz1 hk1 hS => ?_)
  obtain ⟨hra, hP1, hK1, hD1⟩ := hB
  subst hra
  rw [ht] at hP1
  obtain ⟨hP, hD⟩ := va_join (wr := [((a 0), .inr (2, [.ref (a 1), .int 12, .int 0, .int 0, .int 0, .long 0, .long 0, .ref (a 2)]))]) (w1 := v1_k_X11_widenedBytes_5 cy (fun j9 => [(a 1)].getD j9 0) f9 u1) hP hD [1] [0] rfl rfl (by decide) (by decide) hk1 hFc hP1 hD1
  generalize H1 = H at hP hS ⊢
  have hP : va_P (dC, dI) nCl [((a 0), .inr (2, [.ref (a 1), .int 12, .int 0, .int 0, .int 0, .long 0, .long 0, .ref (a 2)])), ((a 1), .inl (cy 0, 1024, .inl f9))] H := hP
  have hD : va_D A [((a 0), .inr (2, [.ref (a 1), .int 12, .int 0, .int 0, .int 0, .long 0, .long 0, .ref (a 2)])), ((a 1), .inl (cy 0, 1024, .inl f9))] := hD
  refine va_put (D := (dC, dI)) (ci := 2) (v := .ref (a 1)) (ty := .array .byte) (C := RX2) (T := TX2) (N := 8) hx hb hts in_k_X2_widen_5_X2 tyX2 tyX2_ok nmX2 hown hK hP hD hS 0 rfl rfl 0 (by decide) (hts _ (List.mem_cons_of_mem _ (List.mem_append_left _ (List.mem_append_left _ (List.mem_of_getElem? (i := 0) rfl))))) (fun _ h9 => h9) rfl (by decide +kernel) rfl rfl (Nat.le_of_ble_eq_true rfl) dX2_widen_24 (fun H locs hP hD hS => ?_)
  have hP : va_P (dC, dI) nCl [((a 0), .inr (2, [.ref (a 1), .int 12, .int 0, .int 0, .int 0, .long 0, .long 0, .ref (a 2)])), ((a 1), .inl (cy 0, 1024, .inl f9))] H := hP
  have hD : va_D A [((a 0), .inr (2, [.ref (a 1), .int 12, .int 0, .int 0, .int 0, .long 0, .long 0, .ref (a 2)])), ((a 1), .inl (cy 0, 1024, .inl f9))] := hD
  have hP : va_P (dC, dI) nCl (v1_k_X2_widen_5 cy a f9 (fun _ => 0)) H := hP
  have hD : va_D A (v1_k_X2_widen_5 cy a f9 (fun _ => 0)) := hD
  exact W.vret hx hb hr (fun t ht hW => ⟨⟨(fun _ => 0), rfl, trivial, by rw [ht]; exact hP, va_K.moved hW.alike hK, hD⟩, hS.F ht⟩) hS.2.2 dX2_widen_27
def o_k_X2_append_4 : List Cond := [.fieldLink RX2 31 "SetHouse$Lexer" "length" "I", .methodLink RX2 34 yX2_widen, .instanceMethod yX2_widen, .selects RX2 yX2_widen yX2_widen, .initialized RX2, .fieldLink RX2 11 "SetHouse$Lexer" "tape" "[B"]
theorem o_k_X2_append_4_good : o_k_X2_append_4.all goodWord = true := by decide +kernel
def p_k_X2_append_4 : List Cond := o_k_X2_append_4 ++ ((.code yX2_widen cX2_widen 2 none :: p_k_X2_widen_5) ++ [])
theorem p_k_X2_append_4_good : p_k_X2_append_4.all goodWord = true := nb_all2 o_k_X2_append_4_good (nb_all2 (nb_allc (by decide +kernel) p_k_X2_widen_5_good) rfl)
def w_k_X2_append_4 : List Cond := .code yX2_append cX2_append 3 none :: (p_k_X2_append_4 ++ fC)
theorem w_k_X2_append_4_good : w_k_X2_append_4.all goodWord = true := nb_allc (by decide +kernel) (nb_all2 p_k_X2_append_4_good fC_good)
theorem in_k_X2_append_4_X2 : ∀ w ∈ wsX20, w ∈ w_k_X2_append_4 := fun _ h => List.mem_cons_of_mem _ (List.mem_append_right _ (List.mem_append_right _ (List.mem_append_right _ (List.mem_append_left _ h))))
theorem gg_k_X2_append_4_k_X2_widen_5 : GoodIn w_k_X2_append_4 w_k_X2_widen_5 := goodIn_sub (fun w h => (List.mem_cons.mp h).elim (fun e => (List.mem_cons_of_mem _ (List.mem_append_left _ (List.mem_append_right _ (List.mem_append_left _ (List.mem_cons.mpr (Or.inl e))))))) (fun h => (List.mem_append.mp h).elim (fun h => (List.mem_cons_of_mem _ (List.mem_append_left _ (List.mem_append_right _ (List.mem_append_left _ (List.mem_cons_of_mem _ h)))))) (fun h => List.mem_cons_of_mem _ (List.mem_append_right _ h)))) w_k_X2_widen_5_good
theorem g_k_X2_append_4_34_k_X2_widen_5 : GoodIn w_k_X2_append_4 (wsV RX2 34 RX2 yX2_widen w_k_X2_widen_5) := goodIn_app (nb_g4 (List.mem_cons_of_mem _ (List.mem_append_left _ (List.mem_append_left _ (List.mem_of_getElem? (i := 1) rfl)))) (List.mem_cons_of_mem _ (List.mem_append_left _ (List.mem_append_left _ (List.mem_of_getElem? (i := 2) rfl)))) (List.mem_cons_of_mem _ (List.mem_append_left _ (List.mem_append_left _ (List.mem_of_getElem? (i := 3) rfl)))) (List.mem_cons_of_mem _ (List.mem_append_left _ (List.mem_append_left _ (List.mem_of_getElem? (i := 4) rfl)))) (by decide +kernel)) gg_k_X2_append_4_k_X2_widen_5
def v0_k_X2_append_4 (cy : Nat → ClassId) (a : Nat → Nat) (d9 : Int32) (f9 : Nat → Int32) : va_W := [((a 0), .inr (2, [.ref (a 1), .int 12, .int 0, .int 0, .int 0, .long 0, .long 0, .ref (a 2)])), ((a 1), .inl (cy 0, 1024, .inl f9))]
def v1_k_X2_append_4 (cy : Nat → ClassId) (a : Nat → Nat) (d9 : Int32) (f9 : Nat → Int32) (r : Nat → Nat) : va_W := [((a 0), .inr (2, [.ref (a 1), .int 16, .int 0, .int 0, .int 0, .long 0, .long 0, .ref (a 2)])), ((a 1), .inl (cy 0, 1024, .inl (upd (upd (upd (upd f9 12 (vp_nar .byte (((d9 >>> (24 &&& 31))).toInt8.toInt32))) 13 (vp_nar .byte (((d9 >>> (16 &&& 31))).toInt8.toInt32))) 14 (vp_nar .byte (((d9 >>> (8 &&& 31))).toInt8.toInt32))) 15 (vp_nar .byte (((d9 >>> (0 &&& 31))).toInt8.toInt32)))))]
set_option maxHeartbeats 40000000 in
set_option maxRecDepth 100000 in
theorem k_X2_append_4 (l : Launch) (dC : Nat → ClassId) (dI : Nat → Nat → Nat) (cy : Nat → ClassId) (k : Nat → Nat) (a : Nat → Nat) (d9 : Int32) (f9 : Nat → Int32) (sz : Nat) : Met l yX2_append w_k_X2_append_4 ({ frames := 2, cells := 0, slots := 0, locals := 43 }) (va_Pc [.ref (a 0), .int d9] (nInE (dC, dI) cy k sz (v0_k_X2_append_4 cy a d9 f9))) (va_Qv (fun _ : Nat → Nat => True) (fun r t => nOut (dC, dI) cy (va_A (v0_k_X2_append_4 cy a d9 f9) sz) (v1_k_X2_append_4 cy a d9 f9 r) t) (va_A (v0_k_X2_append_4 cy a d9 f9) sz)) 0 0 (va_A (v0_k_X2_append_4 cy a d9 f9) sz) := by
  refine Met.ofW (cc := cX2_append) (maxL := 3) (ret := none) (by decide) rfl ?_
  intro p e s m args below meth c s₁ B hml hv
  obtain ⟨rfl, ⟨hsz, hP, hK, hD0, hG⟩, hE⟩ := hv
  have hx := B.exec
  have hb := B.bytes
  have hr := B.returns
  have hts := atoms_spec (ws := w_k_X2_append_4) B.pre
  have hown : s.vm.findClass RX2 = some m.cls := findClass_of_methodNamed B.named
  have hlocks := B.notSynchronized
  subst hsz
  have hD := hD0.self (sz := s.heap.size)
  generalize hAe : va_A (v0_k_X2_append_4 cy a d9 f9) s.heap.size = A at hD hE ⊢
  have hA : ∀ q : Nat, s.heap.size ≤ q → A q := fun q h => by rw [← hAe]; exact Or.inr h
  have hS : va_S A s.heap s.heap [] := va_S.rf
  have hP : va_P (dC, dI) nCl (v0_k_X2_append_4 cy a d9 f9) s.heap := hP
  have hl := lv_entry ([.ref (a 0), .int d9]) (n := 3) (Nat.le_of_ble_eq_true rfl)
  rw [lg_entry_eq]
  generalize (lg_sl ([.ref (a 0), .int d9]) ++ List.replicate (3 - (lg_sl ([.ref (a 0), .int d9])).length) Slot.unset).toArray = ls at hl ⊢
  have hl : lv_has ls 3 [(0, .ref (a 0)), (1, .int d9)] := hl
  have hP : va_P (dC, dI) nCl [((a 0), .inr (2, [.ref (a 1), .int 12, .int 0, .int 0, .int 0, .long 0, .long 0, .ref (a 2)])), ((a 1), .inl (cy 0, 1024, .inl f9))] s.heap := hP
  have hD : va_D A [((a 0), .inr (2, [.ref (a 1), .int 12, .int 0, .int 0, .int 0, .long 0, .long 0, .ref (a 2)])), ((a 1), .inl (cy 0, 1024, .inl f9))] := hD
  refine lv_aload_n hx hb dX2_append_0 rfl (lv_at hl 0 rfl) ?_
  refine lv_aload_n hx hb dX2_append_1 rfl (lv_at hl 0 rfl) ?_
  refine va_get (D := (dC, dI)) (ci := 2) (v := .int 12) (C := RX2) (T := TX2) (N := 8) hx hb hts in_k_X2_append_4_X2 hown hK hP 0 rfl rfl 1 (by decide) (hts _ (List.mem_cons_of_mem _ (List.mem_append_left _ (List.mem_append_left _ (List.mem_of_getElem? (i := 0) rfl))))) (fun _ h9 => h9) rfl dX2_append_2 ?_
  refine lv_iconst (v := 4) hx hb dX2_append_5 (by decide) ?_
  refine lv_iadd hx hb dX2_append_6 ?_
  refine W.eq (g2 := F0 m 7 ls [.int 16, .ref (a 0)]) rfl ?_
  have hPc := hP.sub (ws' := [((a 0), .inr (2, [.ref (a 1), .int 12, .int 0, .int 0, .int 0, .long 0, .long 0, .ref (a 2)])), ((a 1), .inl (cy 0, 1024, .inl f9))]) [0, 1] rfl
  have hPc : va_P (dC, dI) nCl (v0_k_X2_widen_5 cy (fun j9 => [(a 0), (a 1), (a 2)].getD j9 0) f9) s.heap := hPc
  have hDc := hD.sub (ws' := [((a 0), .inr (2, [.ref (a 1), .int 12, .int 0, .int 0, .int 0, .long 0, .long 0, .ref (a 2)])), ((a 1), .inl (cy 0, 1024, .inl f9))]) [0, 1] (by decide) rfl
  have hDc : va_D A (v0_k_X2_widen_5 cy (fun j9 => [(a 0), (a 1), (a 2)].getD j9 0) f9) := hDc
  have hFc := va_free (wc := (v0_k_X2_widen_5 cy (fun j9 => [(a 0), (a 1), (a 2)].getD j9 0) f9)) hD hS hA [0, 1] rfl
  refine va_callv (va_runV (As := [.int 16]) (rest := []) ⟨hx, hb, hml, hown, hts⟩ (k_X2_widen_5 l dC dI cy k (fun j9 => [(a 0), (a 1), (a 2)].getD j9 0) f9 s.heap.size) (cwV 1 hts g_k_X2_append_4_34_k_X2_widen_5 rfl rfl rfl (by decide +kernel) ⟨Nat.le_of_ble_eq_true rfl, Nat.le_of_ble_eq_true rfl⟩) ⟨nb_blindE, va_recv hK hPc (ci := 2) (q0 := 0) rfl rfl, fun U hU hW => ⟨rfl, ⟨by rw [hU], by rw [hU]; exact hPc, va_K.moved hW.alike hK, hDc.weaken (fun _ _ _ _ => trivial), hG.warm hW⟩, nE.to hE hS hW hU hFc⟩⟩ rfl rfl hl.1 rfl (lv_room (Nat.le_of_ble_eq_true rfl)) dX2_append_7 ⟨Nat.le_of_ble_eq_true rfl, Nat.le_of_ble_eq_true rfl⟩) hS (fun q _ h => hFc q h) hFc (fun u1 t H1 locs ht hvm hw hB hz1 hk1 hS => ?_)
  obtain ⟨hP1, hK1, hD1⟩ := hB
  rw [ht] at hP1
  obtain ⟨hP, hD⟩ := va_join (wr := []) (w1 := v1_k_X2_widen_5 cy (fun j9 => [(a 0), (a 1), (a 2)].getD j9 0) f9 u1) hP hD [0, 1] [] rfl rfl (by decide) (by decide) hk1 hFc hP1 hD1
  generalize H1 = H at hP hS ⊢
  have hP : va_P (dC, dI) nCl [((a 0), .inr (2, [.ref (a 1), .int 12, .int 0, .int 0, .int 0, .long 0, .long 0, .ref (a 2)])), ((a 1), .inl (cy 0, 1024, .inl f9))] H := hP
  have hD : va_D A [((a 0), .inr (2, [.ref (a 1), .int 12, .int 0, .int 0, .int 0, .long 0, .long 0, .ref (a 2)])), ((a 1), .inl (cy 0, 1024, .inl f9))] := hD
  refine lv_bipush (v := 24) hx hb dX2_append_10 (by decide) ?_
  refine lv_istore_n (lv' := [(2, .int 24), (0, .ref (a 0)), (1, .int d9)]) hx hb dX2_append_12 rfl hl (by decide) rfl (fun ls hl => ?_)
  refine lv_iload_n hx hb dX2_append_13 rfl (lv_at hl 0 rfl) ?_
  refine lv_if_lt (tgt := 48) hx hb dX2_append_14 (by decide) (fun c1 => False.elim (by revert c1; decide)) (fun _ => ?_)
  refine lv_aload_n hx hb dX2_append_17 rfl (lv_at hl 1 rfl) ?_
  refine va_get (D := (dC, dI)) (ci := 2) (v := .ref (a 1)) (C := RX2) (T := TX2) (N := 8) hx hb hts in_k_X2_append_4_X2 hown hK hP 0 rfl rfl 0 (by decide) (hts _ (List.mem_cons_of_mem _ (List.mem_append_left _ (List.mem_append_left _ (List.mem_of_getElem? (i := 5) rfl))))) (fun _ h9 => h9) rfl dX2_append_18 ?_
  refine lv_aload_n hx hb dX2_append_21 rfl (lv_at hl 1 rfl) ?_
  refine va_get (D := (dC, dI)) (ci := 2) (v := .int 12) (C := RX2) (T := TX2) (N := 8) hx hb hts in_k_X2_append_4_X2 hown hK hP 0 rfl rfl 1 (by decide) (hts _ (List.mem_cons_of_mem _ (List.mem_append_left _ (List.mem_append_left _ (List.mem_of_getElem? (i := 0) rfl))))) (fun _ h9 => h9) rfl dX2_append_22 ?_
  refine lv_iload_n hx hb dX2_append_25 rfl (lv_at hl 2 rfl) ?_
  refine lv_iload_n hx hb dX2_append_26 rfl (lv_at hl 0 rfl) ?_
  refine lv_ishr hx hb dX2_append_27 ?_
  refine lv_i2b hx hb dX2_append_28 rfl ?_
  refine va_bast hx hb hK hP hD hS 1 0 rfl rfl (nb_in (by decide)) dX2_append_29 (fun H locs hP hD hS => ?_)
  have hP : va_P (dC, dI) nCl [((a 0), .inr (2, [.ref (a 1), .int 12, .int 0, .int 0, .int 0, .long 0, .long 0, .ref (a 2)])), ((a 1), .inl (cy 0, 1024, .inl (upd f9 12 (vp_nar .byte (((d9 >>> (24 &&& 31))).toInt8.toInt32)))))] H := hP
  have hD : va_D A [((a 0), .inr (2, [.ref (a 1), .int 12, .int 0, .int 0, .int 0, .long 0, .long 0, .ref (a 2)])), ((a 1), .inl (cy 0, 1024, .inl (upd f9 12 (vp_nar .byte (((d9 >>> (24 &&& 31))).toInt8.toInt32)))))] := hD
  refine lv_aload_n hx hb dX2_append_30 rfl (lv_at hl 1 rfl) ?_
  refine lv_dup hx hb dX2_append_31 rfl ?_
  refine va_get (D := (dC, dI)) (ci := 2) (v := .int 12) (C := RX2) (T := TX2) (N := 8) hx hb hts in_k_X2_append_4_X2 hown hK hP 0 rfl rfl 1 (by decide) (hts _ (List.mem_cons_of_mem _ (List.mem_append_left _ (List.mem_append_left _ (List.mem_of_getElem? (i := 0) rfl))))) (fun _ h9 => h9) rfl dX2_append_32 ?_
  refine lv_iconst (v := 1) hx hb dX2_append_35 (by decide) ?_
  refine lv_iadd hx hb dX2_append_36 ?_
  refine W.eq (g2 := F0 m 37 ls [.int 13, .ref (a 0)]) rfl ?_
  refine va_put (D := (dC, dI)) (ci := 2) (v := .int 13) (ty := .int) (C := RX2) (T := TX2) (N := 8) hx hb hts in_k_X2_append_4_X2 tyX2 tyX2_ok nmX2 hown hK hP hD hS 0 rfl rfl 1 (by decide) (hts _ (List.mem_cons_of_mem _ (List.mem_append_left _ (List.mem_append_left _ (List.mem_of_getElem? (i := 0) rfl))))) (fun _ h9 => h9) rfl (by decide +kernel) rfl rfl (Nat.le_of_ble_eq_true rfl) dX2_append_37 (fun H locs hP hD hS => ?_)
  have hP : va_P (dC, dI) nCl [((a 0), .inr (2, [.ref (a 1), .int 13, .int 0, .int 0, .int 0, .long 0, .long 0, .ref (a 2)])), ((a 1), .inl (cy 0, 1024, .inl (upd f9 12 (vp_nar .byte (((d9 >>> (24 &&& 31))).toInt8.toInt32)))))] H := hP
  have hD : va_D A [((a 0), .inr (2, [.ref (a 1), .int 13, .int 0, .int 0, .int 0, .long 0, .long 0, .ref (a 2)])), ((a 1), .inl (cy 0, 1024, .inl (upd f9 12 (vp_nar .byte (((d9 >>> (24 &&& 31))).toInt8.toInt32)))))] := hD
  refine lv_iload_n hx hb dX2_append_40 rfl (lv_at hl 0 rfl) ?_
  refine lv_bipush (v := 8) hx hb dX2_append_41 (by decide) ?_
  refine lv_isub hx hb dX2_append_43 ?_
  refine W.eq (g2 := F0 m 44 ls [.int 16]) rfl ?_
  refine lv_istore_n (lv' := [(2, .int 16), (0, .ref (a 0)), (1, .int d9)]) hx hb dX2_append_44 rfl hl (by decide) rfl (fun ls hl => ?_)
  refine lv_goto (tgt := 13) hx hb dX2_append_45 (by decide) ?_
  refine lv_iload_n hx hb dX2_append_13 rfl (lv_at hl 0 rfl) ?_
  refine lv_if_lt (tgt := 48) hx hb dX2_append_14 (by decide) (fun c1 => False.elim (by revert c1; decide)) (fun _ => ?_)
  refine lv_aload_n hx hb dX2_append_17 rfl (lv_at hl 1 rfl) ?_
  refine va_get (D := (dC, dI)) (ci := 2) (v := .ref (a 1)) (C := RX2) (T := TX2) (N := 8) hx hb hts in_k_X2_append_4_X2 hown hK hP 0 rfl rfl 0 (by decide) (hts _ (List.mem_cons_of_mem _ (List.mem_append_left _ (List.mem_append_left _ (List.mem_of_getElem? (i := 5) rfl))))) (fun _ h9 => h9) rfl dX2_append_18 ?_
  refine lv_aload_n hx hb dX2_append_21 rfl (lv_at hl 1 rfl) ?_
  refine va_get (D := (dC, dI)) (ci := 2) (v := .int 13) (C := RX2) (T := TX2) (N := 8) hx hb hts in_k_X2_append_4_X2 hown hK hP 0 rfl rfl 1 (by decide) (hts _ (List.mem_cons_of_mem _ (List.mem_append_left _ (List.mem_append_left _ (List.mem_of_getElem? (i := 0) rfl))))) (fun _ h9 => h9) rfl dX2_append_22 ?_
  refine lv_iload_n hx hb dX2_append_25 rfl (lv_at hl 2 rfl) ?_
  refine lv_iload_n hx hb dX2_append_26 rfl (lv_at hl 0 rfl) ?_
  refine lv_ishr hx hb dX2_append_27 ?_
  refine lv_i2b hx hb dX2_append_28 rfl ?_
  refine va_bast hx hb hK hP hD hS 1 0 rfl rfl (nb_in (by decide)) dX2_append_29 (fun H locs hP hD hS => ?_)
  have hP : va_P (dC, dI) nCl [((a 0), .inr (2, [.ref (a 1), .int 13, .int 0, .int 0, .int 0, .long 0, .long 0, .ref (a 2)])), ((a 1), .inl (cy 0, 1024, .inl (upd (upd f9 12 (vp_nar .byte (((d9 >>> (24 &&& 31))).toInt8.toInt32))) 13 (vp_nar .byte (((d9 >>> (16 &&& 31))).toInt8.toInt32)))))] H := hP
  have hD : va_D A [((a 0), .inr (2, [.ref (a 1), .int 13, .int 0, .int 0, .int 0, .long 0, .long 0, .ref (a 2)])), ((a 1), .inl (cy 0, 1024, .inl (upd (upd f9 12 (vp_nar .byte (((d9 >>> (24 &&& 31))).toInt8.toInt32))) 13 (vp_nar .byte (((d9 >>> (16 &&& 31))).toInt8.toInt32)))))] := hD
  refine lv_aload_n hx hb dX2_append_30 rfl (lv_at hl 1 rfl) ?_
  refine lv_dup hx hb dX2_append_31 rfl ?_
  refine va_get (D := (dC, dI)) (ci := 2) (v := .int 13) (C := RX2) (T := TX2) (N := 8) hx hb hts in_k_X2_append_4_X2 hown hK hP 0 rfl rfl 1 (by decide) (hts _ (List.mem_cons_of_mem _ (List.mem_append_left _ (List.mem_append_left _ (List.mem_of_getElem? (i := 0) rfl))))) (fun _ h9 => h9) rfl dX2_append_32 ?_
  refine lv_iconst (v := 1) hx hb dX2_append_35 (by decide) ?_
  refine lv_iadd hx hb dX2_append_36 ?_
  refine W.eq (g2 := F0 m 37 ls [.int 14, .ref (a 0)]) rfl ?_
  refine va_put (D := (dC, dI)) (ci := 2) (v := .int 14) (ty := .int) (C := RX2) (T := TX2) (N := 8) hx hb hts in_k_X2_append_4_X2 tyX2 tyX2_ok nmX2 hown hK hP hD hS 0 rfl rfl 1 (by decide) (hts _ (List.mem_cons_of_mem _ (List.mem_append_left _ (List.mem_append_left _ (List.mem_of_getElem? (i := 0) rfl))))) (fun _ h9 => h9) rfl (by decide +kernel) rfl rfl (Nat.le_of_ble_eq_true rfl) dX2_append_37 (fun H locs hP hD hS => ?_)
  have hP : va_P (dC, dI) nCl [((a 0), .inr (2, [.ref (a 1), .int 14, .int 0, .int 0, .int 0, .long 0, .long 0, .ref (a 2)])), ((a 1), .inl (cy 0, 1024, .inl (upd (upd f9 12 (vp_nar .byte (((d9 >>> (24 &&& 31))).toInt8.toInt32))) 13 (vp_nar .byte (((d9 >>> (16 &&& 31))).toInt8.toInt32)))))] H := hP
  have hD : va_D A [((a 0), .inr (2, [.ref (a 1), .int 14, .int 0, .int 0, .int 0, .long 0, .long 0, .ref (a 2)])), ((a 1), .inl (cy 0, 1024, .inl (upd (upd f9 12 (vp_nar .byte (((d9 >>> (24 &&& 31))).toInt8.toInt32))) 13 (vp_nar .byte (((d9 >>> (16 &&& 31))).toInt8.toInt32)))))] := hD
  refine lv_iload_n hx hb dX2_append_40 rfl (lv_at hl 0 rfl) ?_
  refine lv_bipush (v := 8) hx hb dX2_append_41 (by decide) ?_
  refine lv_isub hx hb dX2_append_43 ?_
  refine W.eq (g2 := F0 m 44 ls [.int 8]) rfl ?_
  refine lv_istore_n (lv' := [(2, .int 8), (0, .ref (a 0)), (1, .int d9)]) hx hb dX2_append_44 rfl hl (by decide) rfl (fun ls hl => ?_)
  refine lv_goto (tgt := 13) hx hb dX2_append_45 (by decide) ?_
  refine lv_iload_n hx hb dX2_append_13 rfl (lv_at hl 0 rfl) ?_
  refine lv_if_lt (tgt := 48) hx hb dX2_append_14 (by decide) (fun c1 => False.elim (by revert c1; decide)) (fun _ => ?_)
  refine lv_aload_n hx hb dX2_append_17 rfl (lv_at hl 1 rfl) ?_
  refine va_get (D := (dC, dI)) (ci := 2) (v := .ref (a 1)) (C := RX2) (T := TX2) (N := 8) hx hb hts in_k_X2_append_4_X2 hown hK hP 0 rfl rfl 0 (by decide) (hts _ (List.mem_cons_of_mem _ (List.mem_append_left _ (List.mem_append_left _ (List.mem_of_getElem? (i := 5) rfl))))) (fun _ h9 => h9) rfl dX2_append_18 ?_
  refine lv_aload_n hx hb dX2_append_21 rfl (lv_at hl 1 rfl) ?_
  refine va_get (D := (dC, dI)) (ci := 2) (v := .int 14) (C := RX2) (T := TX2) (N := 8) hx hb hts in_k_X2_append_4_X2 hown hK hP 0 rfl rfl 1 (by decide) (hts _ (List.mem_cons_of_mem _ (List.mem_append_left _ (List.mem_append_left _ (List.mem_of_getElem? (i := 0) rfl))))) (fun _ h9 => h9) rfl dX2_append_22 ?_
  refine lv_iload_n hx hb dX2_append_25 rfl (lv_at hl 2 rfl) ?_
  refine lv_iload_n hx hb dX2_append_26 rfl (lv_at hl 0 rfl) ?_
  refine lv_ishr hx hb dX2_append_27 ?_
  refine lv_i2b hx hb dX2_append_28 rfl ?_
  refine va_bast hx hb hK hP hD hS 1 0 rfl rfl (nb_in (by decide)) dX2_append_29 (fun H locs hP hD hS => ?_)
  have hP : va_P (dC, dI) nCl [((a 0), .inr (2, [.ref (a 1), .int 14, .int 0, .int 0, .int 0, .long 0, .long 0, .ref (a 2)])), ((a 1), .inl (cy 0, 1024, .inl (upd (upd (upd f9 12 (vp_nar .byte (((d9 >>> (24 &&& 31))).toInt8.toInt32))) 13 (vp_nar .byte (((d9 >>> (16 &&& 31))).toInt8.toInt32))) 14 (vp_nar .byte (((d9 >>> (8 &&& 31))).toInt8.toInt32)))))] H := hP
  have hD : va_D A [((a 0), .inr (2, [.ref (a 1), .int 14, .int 0, .int 0, .int 0, .long 0, .long 0, .ref (a 2)])), ((a 1), .inl (cy 0, 1024, .inl (upd (upd (upd f9 12 (vp_nar .byte (((d9 >>> (24 &&& 31))).toInt8.toInt32))) 13 (vp_nar .byte (((d9 >>> (16 &&& 31))).toInt8.toInt32))) 14 (vp_nar .byte (((d9 >>> (8 &&& 31))).toInt8.toInt32)))))] := hD
  refine lv_aload_n hx hb dX2_append_30 rfl (lv_at hl 1 rfl) ?_
  refine lv_dup hx hb dX2_append_31 rfl ?_
  refine va_get (D := (dC, dI)) (ci := 2) (v := .int 14) (C := RX2) (T := TX2) (N := 8) hx hb hts in_k_X2_append_4_X2 hown hK hP 0 rfl rfl 1 (by decide) (hts _ (List.mem_cons_of_mem _ (List.mem_append_left _ (List.mem_append_left _ (List.mem_of_getElem? (i := 0) rfl))))) (fun _ h9 => h9) rfl dX2_append_32 ?_
  refine lv_iconst (v := 1) hx hb dX2_append_35 (by decide) ?_
  refine lv_iadd hx hb dX2_append_36 ?_
  refine W.eq (g2 := F0 m 37 ls [.int 15, .ref (a 0)]) rfl ?_
  refine va_put (D := (dC, dI)) (ci := 2) (v := .int 15) (ty := .int) (C := RX2) (T := TX2) (N := 8) hx hb hts in_k_X2_append_4_X2 tyX2 tyX2_ok nmX2 hown hK hP hD hS 0 rfl rfl 1 (by decide) (hts _ (List.mem_cons_of_mem _ (List.mem_append_left _ (List.mem_append_left _ (List.mem_of_getElem? (i := 0) rfl))))) (fun _ h9 => h9) rfl (by decide +kernel) rfl rfl (Nat.le_of_ble_eq_true rfl) dX2_append_37 (fun H locs hP hD hS => ?_)
  have hP : va_P (dC, dI) nCl [((a 0), .inr (2, [.ref (a 1), .int 15, .int 0, .int 0, .int 0, .long 0, .long 0, .ref (a 2)])), ((a 1), .inl (cy 0, 1024, .inl (upd (upd (upd f9 12 (vp_nar .byte (((d9 >>> (24 &&& 31))).toInt8.toInt32))) 13 (vp_nar .byte (((d9 >>> (16 &&& 31))).toInt8.toInt32))) 14 (vp_nar .byte (((d9 >>> (8 &&& 31))).toInt8.toInt32)))))] H := hP
  have hD : va_D A [((a 0), .inr (2, [.ref (a 1), .int 15, .int 0, .int 0, .int 0, .long 0, .long 0, .ref (a 2)])), ((a 1), .inl (cy 0, 1024, .inl (upd (upd (upd f9 12 (vp_nar .byte (((d9 >>> (24 &&& 31))).toInt8.toInt32))) 13 (vp_nar .byte (((d9 >>> (16 &&& 31))).toInt8.toInt32))) 14 (vp_nar .byte (((d9 >>> (8 &&& 31))).toInt8.toInt32)))))] := hD
  refine lv_iload_n hx hb dX2_append_40 rfl (lv_at hl 0 rfl) ?_
  refine lv_bipush (v := 8) hx hb dX2_append_41 (by decide) ?_
  refine lv_isub hx hb dX2_append_43 ?_
  refine W.eq (g2 := F0 m 44 ls [.int 0]) rfl ?_
  refine lv_istore_n (lv' := [(2, .int 0), (0, .ref (a 0)), (1, .int d9)]) hx hb dX2_append_44 rfl hl (by decide) rfl (fun ls hl => ?_)
  refine lv_goto (tgt := 13) hx hb dX2_append_45 (by decide) ?_
  refine lv_iload_n hx hb dX2_append_13 rfl (lv_at hl 0 rfl) ?_
  refine lv_if_lt (tgt := 48) hx hb dX2_append_14 (by decide) (fun c1 => False.elim (by revert c1; decide)) (fun _ => ?_)
  refine lv_aload_n hx hb dX2_append_17 rfl (lv_at hl 1 rfl) ?_
  refine va_get (D := (dC, dI)) (ci := 2) (v := .ref (a 1)) (C := RX2) (T := TX2) (N := 8) hx hb hts in_k_X2_append_4_X2 hown hK hP 0 rfl rfl 0 (by decide) (hts _ (List.mem_cons_of_mem _ (List.mem_append_left _ (List.mem_append_left _ (List.mem_of_getElem? (i := 5) rfl))))) (fun _ h9 => h9) rfl dX2_append_18 ?_
  refine lv_aload_n hx hb dX2_append_21 rfl (lv_at hl 1 rfl) ?_
  refine va_get (D := (dC, dI)) (ci := 2) (v := .int 15) (C := RX2) (T := TX2) (N := 8) hx hb hts in_k_X2_append_4_X2 hown hK hP 0 rfl rfl 1 (by decide) (hts _ (List.mem_cons_of_mem _ (List.mem_append_left _ (List.mem_append_left _ (List.mem_of_getElem? (i := 0) rfl))))) (fun _ h9 => h9) rfl dX2_append_22 ?_
  refine lv_iload_n hx hb dX2_append_25 rfl (lv_at hl 2 rfl) ?_
  refine lv_iload_n hx hb dX2_append_26 rfl (lv_at hl 0 rfl) ?_
  refine lv_ishr hx hb dX2_append_27 ?_
  refine lv_i2b hx hb dX2_append_28 rfl ?_
  refine va_bast hx hb hK hP hD hS 1 0 rfl rfl (nb_in (by decide)) dX2_append_29 (fun H locs hP hD hS => ?_)
  have hP : va_P (dC, dI) nCl [((a 0), .inr (2, [.ref (a 1), .int 15, .int 0, .int 0, .int 0, .long 0, .long 0, .ref (a 2)])), ((a 1), .inl (cy 0, 1024, .inl (upd (upd (upd (upd f9 12 (vp_nar .byte (((d9 >>> (24 &&& 31))).toInt8.toInt32))) 13 (vp_nar .byte (((d9 >>> (16 &&& 31))).toInt8.toInt32))) 14 (vp_nar .byte (((d9 >>> (8 &&& 31))).toInt8.toInt32))) 15 (vp_nar .byte (((d9 >>> (0 &&& 31))).toInt8.toInt32)))))] H := hP
  have hD : va_D A [((a 0), .inr (2, [.ref (a 1), .int 15, .int 0, .int 0, .int 0, .long 0, .long 0, .ref (a 2)])), ((a 1), .inl (cy 0, 1024, .inl (upd (upd (upd (upd f9 12 (vp_nar .byte (((d9 >>> (24 &&& 31))).toInt8.toInt32))) 13 (vp_nar .byte (((d9 >>> (16 &&& 31))).toInt8.toInt32))) 14 (vp_nar .byte (((d9 >>> (8 &&& 31))).toInt8.toInt32))) 15 (vp_nar .byte (((d9 >>> (0 &&& 31))).toInt8.toInt32)))))] := hD
  refine lv_aload_n hx hb dX2_append_30 rfl (lv_at hl 1 rfl) ?_
  refine lv_dup hx hb dX2_append_31 rfl ?_
  refine va_get (D := (dC, dI)) (ci := 2) (v := .int 15) (C := RX2) (T := TX2) (N := 8) hx hb hts in_k_X2_append_4_X2 hown hK hP 0 rfl rfl 1 (by decide) (hts _ (List.mem_cons_of_mem _ (List.mem_append_left _ (List.mem_append_left _ (List.mem_of_getElem? (i := 0) rfl))))) (fun _ h9 => h9) rfl dX2_append_32 ?_
  refine lv_iconst (v := 1) hx hb dX2_append_35 (by decide) ?_
  refine lv_iadd hx hb dX2_append_36 ?_
  refine W.eq (g2 := F0 m 37 ls [.int 16, .ref (a 0)]) rfl ?_
  refine va_put (D := (dC, dI)) (ci := 2) (v := .int 16) (ty := .int) (C := RX2) (T := TX2) (N := 8) hx hb hts in_k_X2_append_4_X2 tyX2 tyX2_ok nmX2 hown hK hP hD hS 0 rfl rfl 1 (by decide) (hts _ (List.mem_cons_of_mem _ (List.mem_append_left _ (List.mem_append_left _ (List.mem_of_getElem? (i := 0) rfl))))) (fun _ h9 => h9) rfl (by decide +kernel) rfl rfl (Nat.le_of_ble_eq_true rfl) dX2_append_37 (fun H locs hP hD hS => ?_)
  have hP : va_P (dC, dI) nCl [((a 0), .inr (2, [.ref (a 1), .int 16, .int 0, .int 0, .int 0, .long 0, .long 0, .ref (a 2)])), ((a 1), .inl (cy 0, 1024, .inl (upd (upd (upd (upd f9 12 (vp_nar .byte (((d9 >>> (24 &&& 31))).toInt8.toInt32))) 13 (vp_nar .byte (((d9 >>> (16 &&& 31))).toInt8.toInt32))) 14 (vp_nar .byte (((d9 >>> (8 &&& 31))).toInt8.toInt32))) 15 (vp_nar .byte (((d9 >>> (0 &&& 31))).toInt8.toInt32)))))] H := hP
  have hD : va_D A [((a 0), .inr (2, [.ref (a 1), .int 16, .int 0, .int 0, .int 0, .long 0, .long 0, .ref (a 2)])), ((a 1), .inl (cy 0, 1024, .inl (upd (upd (upd (upd f9 12 (vp_nar .byte (((d9 >>> (24 &&& 31))).toInt8.toInt32))) 13 (vp_nar .byte (((d9 >>> (16 &&& 31))).toInt8.toInt32))) 14 (vp_nar .byte (((d9 >>> (8 &&& 31))).toInt8.toInt32))) 15 (vp_nar .byte (((d9 >>> (0 &&& 31))).toInt8.toInt32)))))] := hD
  refine lv_iload_n hx hb dX2_append_40 rfl (lv_at hl 0 rfl) ?_
  refine lv_bipush (v := 8) hx hb dX2_append_41 (by decide) ?_
  refine lv_isub hx hb dX2_append_43 ?_
  refine W.eq (g2 := F0 m 44 ls [.int (-8)]) rfl ?_
  refine lv_istore_n (lv' := [(2, .int (-8)), (0, .ref (a 0)), (1, .int d9)]) hx hb dX2_append_44 rfl hl (by decide) rfl (fun ls hl => ?_)
  refine lv_goto (tgt := 13) hx hb dX2_append_45 (by decide) ?_
  refine lv_iload_n hx hb dX2_append_13 rfl (lv_at hl 0 rfl) ?_
  refine lv_if_lt (tgt := 48) hx hb dX2_append_14 (by decide) (fun _ => ?_) (fun c1 => False.elim (by revert c1; decide))
  have hP : va_P (dC, dI) nCl (v1_k_X2_append_4 cy a d9 f9 (fun _ => 0)) H := hP
  have hD : va_D A (v1_k_X2_append_4 cy a d9 f9 (fun _ => 0)) := hD
  exact W.vret hx hb hr (fun t ht hW => ⟨⟨(fun _ => 0), rfl, trivial, by rw [ht]; exact hP, va_K.moved hW.alike hK, hD⟩, hS.F ht⟩) hS.2.2 dX2_append_48
def o_k_X11_widenedBytes_6 : List Cond := []
theorem o_k_X11_widenedBytes_6_good : o_k_X11_widenedBytes_6.all goodWord = true := by decide +kernel
def p_k_X11_widenedBytes_6 : List Cond := o_k_X11_widenedBytes_6 ++ []
theorem p_k_X11_widenedBytes_6_good : p_k_X11_widenedBytes_6.all goodWord = true := nb_all2 o_k_X11_widenedBytes_6_good rfl
def w_k_X11_widenedBytes_6 : List Cond := .code yX11_widenedBytes cX11_widenedBytes 3 (some (.array .byte)) :: (p_k_X11_widenedBytes_6 ++ fC)
theorem w_k_X11_widenedBytes_6_good : w_k_X11_widenedBytes_6.all goodWord = true := nb_allc (by decide +kernel) (nb_all2 p_k_X11_widenedBytes_6_good fC_good)
def v0_k_X11_widenedBytes_6 (cy : Nat → ClassId) (a : Nat → Nat) (f9 : Nat → Int32) : va_W := [((a 0), .inl (cy 0, 1024, .inl f9))]
def v1_k_X11_widenedBytes_6 (cy : Nat → ClassId) (a : Nat → Nat) (f9 : Nat → Int32) (r : Nat → Nat) : va_W := [((a 0), .inl (cy 0, 1024, .inl f9))]
set_option maxHeartbeats 40000000 in
set_option maxRecDepth 100000 in
theorem k_X11_widenedBytes_6 (l : Launch) (dC : Nat → ClassId) (dI : Nat → Nat → Nat) (cy : Nat → ClassId) (k : Nat → Nat) (a : Nat → Nat) (f9 : Nat → Int32) (sz : Nat) : Met l yX11_widenedBytes w_k_X11_widenedBytes_6 ({ frames := 0, cells := 0, slots := 0, locals := 0 }) (va_Pc [.ref (a 0), .int 20, .int 10242] (nInE (dC, dI) cy k sz (v0_k_X11_widenedBytes_6 cy a f9))) (va_Qr (fun _ : Nat → Nat => True) (fun r q t => q = (a 0) ∧ nOut (dC, dI) cy (va_A (v0_k_X11_widenedBytes_6 cy a f9) sz) (v1_k_X11_widenedBytes_6 cy a f9 r) t) (va_A (v0_k_X11_widenedBytes_6 cy a f9) sz)) 0 0 (va_A (v0_k_X11_widenedBytes_6 cy a f9) sz) := by
  refine Met.ofW (cc := cX11_widenedBytes) (maxL := 3) (ret := (some (.array .byte))) (by decide) rfl ?_
  intro p e s m args below meth c s₁ B hml hv
  obtain ⟨rfl, ⟨hsz, hP, hK, hD0, hG⟩, hE⟩ := hv
  have hx := B.exec
  have hb := B.bytes
  have hr := B.returns
  have hts := atoms_spec (ws := w_k_X11_widenedBytes_6) B.pre
  have hown : s.vm.findClass RX11 = some m.cls := findClass_of_methodNamed B.named
  have hlocks := B.notSynchronized
  subst hsz
  have hD := hD0.self (sz := s.heap.size)
  generalize hAe : va_A (v0_k_X11_widenedBytes_6 cy a f9) s.heap.size = A at hD hE ⊢
  have hA : ∀ q : Nat, s.heap.size ≤ q → A q := fun q h => by rw [← hAe]; exact Or.inr h
  have hS : va_S A s.heap s.heap [] := va_S.rf
  have hP : va_P (dC, dI) nCl (v0_k_X11_widenedBytes_6 cy a f9) s.heap := hP
  have hl := lv_entry ([.ref (a 0), .int 20, .int 10242]) (n := 3) (Nat.le_of_ble_eq_true rfl)
  rw [lg_entry_eq]
  generalize (lg_sl ([.ref (a 0), .int 20, .int 10242]) ++ List.replicate (3 - (lg_sl ([.ref (a 0), .int 20, .int 10242])).length) Slot.unset).toArray = ls at hl ⊢
  have hl : lv_has ls 3 [(0, .ref (a 0)), (1, .int 20), (2, .int 10242)] := hl
  have hP : va_P (dC, dI) nCl [((a 0), .inl (cy 0, 1024, .inl f9))] s.heap := hP
  have hD : va_D A [((a 0), .inl (cy 0, 1024, .inl f9))] := hD
  refine lv_iload_n hx hb dX11_widenedBytes_0 rfl (lv_at hl 1 rfl) ?_
  refine lv_aload_n hx hb dX11_widenedBytes_1 rfl (lv_at hl 0 rfl) ?_
  refine va_alen hx hb hK hP 0 0 rfl rfl (v := 1024) rfl dX11_widenedBytes_2 ?_
  refine lv_icmp_le (tgt := 20) hx hb dX11_widenedBytes_3 (by decide) (fun _ => ?_) (fun c1 => False.elim (by revert c1; decide))
  refine lv_aload_n hx hb dX11_widenedBytes_20 rfl (lv_at hl 0 rfl) ?_
  have hP : va_P (dC, dI) nCl (v1_k_X11_widenedBytes_6 cy a f9 (fun _ => 0)) s.heap := hP
  have hD : va_D A (v1_k_X11_widenedBytes_6 cy a f9 (fun _ => 0)) := hD
  exact W.aret hx hb hr (Or.inr ⟨_, rfl⟩) (Or.inr ⟨_, rfl⟩) (fun t ht hW => ⟨⟨(fun _ => 0), (a 0), rfl, trivial, rfl, by rw [ht]; exact hP, va_K.moved hW.alike hK, hD⟩, hS.F ht⟩) hS.2.2 dX11_widenedBytes_21
def o_k_X2_widen_6 : List Cond := [.fieldLink RX2 11 "SetHouse$Lexer" "tape" "[B", .initialized RX11, .static yX11_widenedBytes]
theorem o_k_X2_widen_6_good : o_k_X2_widen_6.all goodWord = true := by decide +kernel
def p_k_X2_widen_6 : List Cond := o_k_X2_widen_6 ++ ((.code yX11_widenedBytes cX11_widenedBytes 3 (some (.array .byte)) :: p_k_X11_widenedBytes_6) ++ [])
theorem p_k_X2_widen_6_good : p_k_X2_widen_6.all goodWord = true := nb_all2 o_k_X2_widen_6_good (nb_all2 (nb_allc (by decide +kernel) p_k_X11_widenedBytes_6_good) rfl)
def w_k_X2_widen_6 : List Cond := .code yX2_widen cX2_widen 2 none :: (p_k_X2_widen_6 ++ fC)
theorem w_k_X2_widen_6_good : w_k_X2_widen_6.all goodWord = true := nb_allc (by decide +kernel) (nb_all2 p_k_X2_widen_6_good fC_good)
theorem in_k_X2_widen_6_X2 : ∀ w ∈ wsX20, w ∈ w_k_X2_widen_6 := fun _ h => List.mem_cons_of_mem _ (List.mem_append_right _ (List.mem_append_right _ (List.mem_append_right _ (List.mem_append_left _ h))))
theorem gg_k_X2_widen_6_k_X11_widenedBytes_6 : GoodIn w_k_X2_widen_6 w_k_X11_widenedBytes_6 := goodIn_sub (fun w h => (List.mem_cons.mp h).elim (fun e => (List.mem_cons_of_mem _ (List.mem_append_left _ (List.mem_append_right _ (List.mem_append_left _ (List.mem_cons.mpr (Or.inl e))))))) (fun h => (List.mem_append.mp h).elim (fun h => (List.mem_cons_of_mem _ (List.mem_append_left _ (List.mem_append_right _ (List.mem_append_left _ (List.mem_cons_of_mem _ h)))))) (fun h => List.mem_cons_of_mem _ (List.mem_append_right _ h)))) w_k_X11_widenedBytes_6_good
theorem g_k_X2_widen_6_39_k_X11_widenedBytes_6 : GoodIn w_k_X2_widen_6 w_k_X11_widenedBytes_6 := gg_k_X2_widen_6_k_X11_widenedBytes_6
def v0_k_X2_widen_6 (cy : Nat → ClassId) (a : Nat → Nat) (f9 : Nat → Int32) : va_W := [((a 0), .inr (2, [.ref (a 1), .int 16, .int 0, .int 0, .int 0, .long 0, .long 0, .ref (a 2)])), ((a 1), .inl (cy 0, 1024, .inl f9))]
def v1_k_X2_widen_6 (cy : Nat → ClassId) (a : Nat → Nat) (f9 : Nat → Int32) (r : Nat → Nat) : va_W := [((a 0), .inr (2, [.ref (a 1), .int 16, .int 0, .int 0, .int 0, .long 0, .long 0, .ref (a 2)])), ((a 1), .inl (cy 0, 1024, .inl f9))]
set_option maxHeartbeats 40000000 in
set_option maxRecDepth 100000 in
theorem k_X2_widen_6 (l : Launch) (dC : Nat → ClassId) (dI : Nat → Nat → Nat) (cy : Nat → ClassId) (k : Nat → Nat) (a : Nat → Nat) (f9 : Nat → Int32) (sz : Nat) : Met l yX2_widen w_k_X2_widen_6 ({ frames := 1, cells := 0, slots := 0, locals := 22 }) (va_Pc [.ref (a 0), .int 20] (nInE (dC, dI) cy k sz (v0_k_X2_widen_6 cy a f9))) (va_Qv (fun _ : Nat → Nat => True) (fun r t => nOut (dC, dI) cy (va_A (v0_k_X2_widen_6 cy a f9) sz) (v1_k_X2_widen_6 cy a f9 r) t) (va_A (v0_k_X2_widen_6 cy a f9) sz)) 0 0 (va_A (v0_k_X2_widen_6 cy a f9) sz) := by
  refine Met.ofW (cc := cX2_widen) (maxL := 2) (ret := none) (by decide) rfl ?_
  intro p e s m args below meth c s₁ B hml hv
  obtain ⟨rfl, ⟨hsz, hP, hK, hD0, hG⟩, hE⟩ := hv
  have hx := B.exec
  have hb := B.bytes
  have hr := B.returns
  have hts := atoms_spec (ws := w_k_X2_widen_6) B.pre
  have hown : s.vm.findClass RX2 = some m.cls := findClass_of_methodNamed B.named
  have hlocks := B.notSynchronized
  subst hsz
  have hD := hD0.self (sz := s.heap.size)
  generalize hAe : va_A (v0_k_X2_widen_6 cy a f9) s.heap.size = A at hD hE ⊢
  have hA : ∀ q : Nat, s.heap.size ≤ q → A q := fun q h => by rw [← hAe]; exact Or.inr h
  have hS : va_S A s.heap s.heap [] := va_S.rf
  have hP : va_P (dC, dI) nCl (v0_k_X2_widen_6 cy a f9) s.heap := hP
  have hl := lv_entry ([.ref (a 0), .int 20]) (n := 2) (Nat.le_of_ble_eq_true rfl)
  rw [lg_entry_eq]
  generalize (lg_sl ([.ref (a 0), .int 20]) ++ List.replicate (2 - (lg_sl ([.ref (a 0), .int 20])).length) Slot.unset).toArray = ls at hl ⊢
  have hl : lv_has ls 2 [(0, .ref (a 0)), (1, .int 20)] := hl
  have hP : va_P (dC, dI) nCl [((a 0), .inr (2, [.ref (a 1), .int 16, .int 0, .int 0, .int 0, .long 0, .long 0, .ref (a 2)])), ((a 1), .inl (cy 0, 1024, .inl f9))] s.heap := hP
  have hD : va_D A [((a 0), .inr (2, [.ref (a 1), .int 16, .int 0, .int 0, .int 0, .long 0, .long 0, .ref (a 2)])), ((a 1), .inl (cy 0, 1024, .inl f9))] := hD
  refine lv_aload_n hx hb dX2_widen_0 rfl (lv_at hl 0 rfl) ?_
  refine lv_aload_n hx hb dX2_widen_1 rfl (lv_at hl 0 rfl) ?_
  refine va_get (D := (dC, dI)) (ci := 2) (v := .ref (a 1)) (C := RX2) (T := TX2) (N := 8) hx hb hts in_k_X2_widen_6_X2 hown hK hP 0 rfl rfl 0 (by decide) (hts _ (List.mem_cons_of_mem _ (List.mem_append_left _ (List.mem_append_left _ (List.mem_of_getElem? (i := 0) rfl))))) (fun _ h9 => h9) rfl dX2_widen_2 ?_
  refine lv_iload_n hx hb dX2_widen_5 rfl (lv_at hl 1 rfl) ?_
  refine lv_iload_n hx hb dX2_widen_6 rfl (lv_at hl 1 rfl) ?_
  refine lv_sipush (v := 10242) hx hb dX2_widen_7 (by decide) ?_
  refine lv_icmp_gt (tgt := 19) hx hb dX2_widen_10 (by decide) (fun c1 => False.elim (by revert c1; decide)) (fun _ => ?_)
  refine lv_sipush (v := 10242) hx hb dX2_widen_13 (by decide) ?_
  refine lv_goto (tgt := 21) hx hb dX2_widen_16 (by decide) ?_
  have hPc := hP.sub (ws' := [((a 1), .inl (cy 0, 1024, .inl f9))]) [1] rfl
  have hPc : va_P (dC, dI) nCl (v0_k_X11_widenedBytes_6 cy (fun j9 => [(a 1)].getD j9 0) f9) s.heap := hPc
  have hDc := hD.sub (ws' := [((a 1), .inl (cy 0, 1024, .inl f9))]) [1] (by decide) rfl
  have hDc : va_D A (v0_k_X11_widenedBytes_6 cy (fun j9 => [(a 1)].getD j9 0) f9) := hDc
  have hFc := va_free (wc := (v0_k_X11_widenedBytes_6 cy (fun j9 => [(a 1)].getD j9 0) f9)) hD hS hA [1] rfl
  refine va_callr (va_runSN (As := [.ref (a 1), .int 20, .int 10242]) (rest := [.ref (a 0)]) ⟨hx, hb, hml, hown, hts⟩ (k_X11_widenedBytes_6 l dC dI cy k (fun j9 => [(a 1)].getD j9 0) f9 s.heap.size) ⟨va_cnB 3 hts g_k_X2_widen_6_39_k_X11_widenedBytes_6 rfl rfl rfl (hG.1 _ (List.mem_of_getElem? (i := 95) rfl)) (hts _ (List.mem_cons_of_mem _ (List.mem_append_left _ (List.mem_append_left _ (List.mem_of_getElem? (i := 1) rfl))))) (by decide +kernel) ⟨Nat.le_of_ble_eq_true rfl, Nat.le_of_ble_eq_true rfl⟩, (hts _ (List.mem_cons_of_mem _ (List.mem_append_left _ (List.mem_append_left _ (List.mem_of_getElem? (i := 2) rfl))))), trivial⟩ ⟨nb_blindE, fun U hU hW => ⟨rfl, ⟨by rw [hU], by rw [hU]; exact hPc, va_K.moved hW.alike hK, hDc.weaken (fun _ _ _ _ => trivial), hG.warm hW⟩, nE.to hE hS hW hU hFc⟩⟩ rfl rfl hl.1 rfl (lv_room (Nat.le_of_ble_eq_true rfl)) dX2_widen_21 ⟨Nat.le_of_ble_eq_true rfl, Nat.le_of_ble_eq_true rfl⟩) hS (fun q _ h => hFc q h) hFc (fun u1 r_1 t H1 locs ht hvm hw hB hz1 hk1 hS => ?_)
  obtain ⟨hra, hP1, hK1, hD1⟩ := hB
  subst hra
  rw [ht] at hP1
  obtain ⟨hP, hD⟩ := va_join (wr := [((a 0), .inr (2, [.ref (a 1), .int 16, .int 0, .int 0, .int 0, .long 0, .long 0, .ref (a 2)]))]) (w1 := v1_k_X11_widenedBytes_6 cy (fun j9 => [(a 1)].getD j9 0) f9 u1) hP hD [1] [0] rfl rfl (by decide) (by decide) hk1 hFc hP1 hD1
  generalize H1 = H at hP hS ⊢
  have hP : va_P (dC, dI) nCl [((a 0), .inr (2, [.ref (a 1), .int 16, .int 0, .int 0, .int 0, .long 0, .long 0, .ref (a 2)])), ((a 1), .inl (cy 0, 1024, .inl f9))] H := hP
  have hD : va_D A [((a 0), .inr (2, [.ref (a 1), .int 16, .int 0, .int 0, .int 0, .long 0, .long 0, .ref (a 2)])), ((a 1), .inl (cy 0, 1024, .inl f9))] := hD
  refine va_put (D := (dC, dI)) (ci := 2) (v := .ref (a 1)) (ty := .array .byte) (C := RX2) (T := TX2) (N := 8) hx hb hts in_k_X2_widen_6_X2 tyX2 tyX2_ok nmX2 hown hK hP hD hS 0 rfl rfl 0 (by decide) (hts _ (List.mem_cons_of_mem _ (List.mem_append_left _ (List.mem_append_left _ (List.mem_of_getElem? (i := 0) rfl))))) (fun _ h9 => h9) rfl (by decide +kernel) rfl rfl (Nat.le_of_ble_eq_true rfl) dX2_widen_24 (fun H locs hP hD hS => ?_)
  have hP : va_P (dC, dI) nCl [((a 0), .inr (2, [.ref (a 1), .int 16, .int 0, .int 0, .int 0, .long 0, .long 0, .ref (a 2)])), ((a 1), .inl (cy 0, 1024, .inl f9))] H := hP
  have hD : va_D A [((a 0), .inr (2, [.ref (a 1), .int 16, .int 0, .int 0, .int 0, .long 0, .long 0, .ref (a 2)])), ((a 1), .inl (cy 0, 1024, .inl f9))] := hD
  have hP : va_P (dC, dI) nCl (v1_k_X2_widen_6 cy a f9 (fun _ => 0)) H := hP
  have hD : va_D A (v1_k_X2_widen_6 cy a f9 (fun _ => 0)) := hD
  exact W.vret hx hb hr (fun t ht hW => ⟨⟨(fun _ => 0), rfl, trivial, by rw [ht]; exact hP, va_K.moved hW.alike hK, hD⟩, hS.F ht⟩) hS.2.2 dX2_widen_27
def o_k_X2_append_5 : List Cond := [.fieldLink RX2 31 "SetHouse$Lexer" "length" "I", .methodLink RX2 34 yX2_widen, .instanceMethod yX2_widen, .selects RX2 yX2_widen yX2_widen, .initialized RX2, .fieldLink RX2 11 "SetHouse$Lexer" "tape" "[B"]
theorem o_k_X2_append_5_good : o_k_X2_append_5.all goodWord = true := by decide +kernel
def p_k_X2_append_5 : List Cond := o_k_X2_append_5 ++ ((.code yX2_widen cX2_widen 2 none :: p_k_X2_widen_6) ++ [])
theorem p_k_X2_append_5_good : p_k_X2_append_5.all goodWord = true := nb_all2 o_k_X2_append_5_good (nb_all2 (nb_allc (by decide +kernel) p_k_X2_widen_6_good) rfl)
def w_k_X2_append_5 : List Cond := .code yX2_append cX2_append 3 none :: (p_k_X2_append_5 ++ fC)
theorem w_k_X2_append_5_good : w_k_X2_append_5.all goodWord = true := nb_allc (by decide +kernel) (nb_all2 p_k_X2_append_5_good fC_good)
theorem in_k_X2_append_5_X2 : ∀ w ∈ wsX20, w ∈ w_k_X2_append_5 := fun _ h => List.mem_cons_of_mem _ (List.mem_append_right _ (List.mem_append_right _ (List.mem_append_right _ (List.mem_append_left _ h))))
theorem gg_k_X2_append_5_k_X2_widen_6 : GoodIn w_k_X2_append_5 w_k_X2_widen_6 := goodIn_sub (fun w h => (List.mem_cons.mp h).elim (fun e => (List.mem_cons_of_mem _ (List.mem_append_left _ (List.mem_append_right _ (List.mem_append_left _ (List.mem_cons.mpr (Or.inl e))))))) (fun h => (List.mem_append.mp h).elim (fun h => (List.mem_cons_of_mem _ (List.mem_append_left _ (List.mem_append_right _ (List.mem_append_left _ (List.mem_cons_of_mem _ h)))))) (fun h => List.mem_cons_of_mem _ (List.mem_append_right _ h)))) w_k_X2_widen_6_good
theorem g_k_X2_append_5_34_k_X2_widen_6 : GoodIn w_k_X2_append_5 (wsV RX2 34 RX2 yX2_widen w_k_X2_widen_6) := goodIn_app (nb_g4 (List.mem_cons_of_mem _ (List.mem_append_left _ (List.mem_append_left _ (List.mem_of_getElem? (i := 1) rfl)))) (List.mem_cons_of_mem _ (List.mem_append_left _ (List.mem_append_left _ (List.mem_of_getElem? (i := 2) rfl)))) (List.mem_cons_of_mem _ (List.mem_append_left _ (List.mem_append_left _ (List.mem_of_getElem? (i := 3) rfl)))) (List.mem_cons_of_mem _ (List.mem_append_left _ (List.mem_append_left _ (List.mem_of_getElem? (i := 4) rfl)))) (by decide +kernel)) gg_k_X2_append_5_k_X2_widen_6
def v0_k_X2_append_5 (cy : Nat → ClassId) (a : Nat → Nat) (e9 : Int32) (f9 : Nat → Int32) : va_W := [((a 0), .inr (2, [.ref (a 1), .int 16, .int 0, .int 0, .int 0, .long 0, .long 0, .ref (a 2)])), ((a 1), .inl (cy 0, 1024, .inl f9))]
def v1_k_X2_append_5 (cy : Nat → ClassId) (a : Nat → Nat) (e9 : Int32) (f9 : Nat → Int32) (r : Nat → Nat) : va_W := [((a 0), .inr (2, [.ref (a 1), .int 20, .int 0, .int 0, .int 0, .long 0, .long 0, .ref (a 2)])), ((a 1), .inl (cy 0, 1024, .inl (upd (upd (upd (upd f9 16 (vp_nar .byte (((e9 >>> (24 &&& 31))).toInt8.toInt32))) 17 (vp_nar .byte (((e9 >>> (16 &&& 31))).toInt8.toInt32))) 18 (vp_nar .byte (((e9 >>> (8 &&& 31))).toInt8.toInt32))) 19 (vp_nar .byte (((e9 >>> (0 &&& 31))).toInt8.toInt32)))))]
set_option maxHeartbeats 40000000 in
set_option maxRecDepth 100000 in
theorem k_X2_append_5 (l : Launch) (dC : Nat → ClassId) (dI : Nat → Nat → Nat) (cy : Nat → ClassId) (k : Nat → Nat) (a : Nat → Nat) (e9 : Int32) (f9 : Nat → Int32) (sz : Nat) : Met l yX2_append w_k_X2_append_5 ({ frames := 2, cells := 0, slots := 0, locals := 43 }) (va_Pc [.ref (a 0), .int e9] (nInE (dC, dI) cy k sz (v0_k_X2_append_5 cy a e9 f9))) (va_Qv (fun _ : Nat → Nat => True) (fun r t => nOut (dC, dI) cy (va_A (v0_k_X2_append_5 cy a e9 f9) sz) (v1_k_X2_append_5 cy a e9 f9 r) t) (va_A (v0_k_X2_append_5 cy a e9 f9) sz)) 0 0 (va_A (v0_k_X2_append_5 cy a e9 f9) sz) := by
  refine Met.ofW (cc := cX2_append) (maxL := 3) (ret := none) (by decide) rfl ?_
  intro p e s m args below meth c s₁ B hml hv
  obtain ⟨rfl, ⟨hsz, hP, hK, hD0, hG⟩, hE⟩ := hv
  have hx := B.exec
  have hb := B.bytes
  have hr := B.returns
  have hts := atoms_spec (ws := w_k_X2_append_5) B.pre
  have hown : s.vm.findClass RX2 = some m.cls := findClass_of_methodNamed B.named
  have hlocks := B.notSynchronized
  subst hsz
  have hD := hD0.self (sz := s.heap.size)
  generalize hAe : va_A (v0_k_X2_append_5 cy a e9 f9) s.heap.size = A at hD hE ⊢
  have hA : ∀ q : Nat, s.heap.size ≤ q → A q := fun q h => by rw [← hAe]; exact Or.inr h
  have hS : va_S A s.heap s.heap [] := va_S.rf
  have hP : va_P (dC, dI) nCl (v0_k_X2_append_5 cy a e9 f9) s.heap := hP
  have hl := lv_entry ([.ref (a 0), .int e9]) (n := 3) (Nat.le_of_ble_eq_true rfl)
  rw [lg_entry_eq]
  generalize (lg_sl ([.ref (a 0), .int e9]) ++ List.replicate (3 - (lg_sl ([.ref (a 0), .int e9])).length) Slot.unset).toArray = ls at hl ⊢
  have hl : lv_has ls 3 [(0, .ref (a 0)), (1, .int e9)] := hl
  have hP : va_P (dC, dI) nCl [((a 0), .inr (2, [.ref (a 1), .int 16, .int 0, .int 0, .int 0, .long 0, .long 0, .ref (a 2)])), ((a 1), .inl (cy 0, 1024, .inl f9))] s.heap := hP
  have hD : va_D A [((a 0), .inr (2, [.ref (a 1), .int 16, .int 0, .int 0, .int 0, .long 0, .long 0, .ref (a 2)])), ((a 1), .inl (cy 0, 1024, .inl f9))] := hD
  refine lv_aload_n hx hb dX2_append_0 rfl (lv_at hl 0 rfl) ?_
  refine lv_aload_n hx hb dX2_append_1 rfl (lv_at hl 0 rfl) ?_
  refine va_get (D := (dC, dI)) (ci := 2) (v := .int 16) (C := RX2) (T := TX2) (N := 8) hx hb hts in_k_X2_append_5_X2 hown hK hP 0 rfl rfl 1 (by decide) (hts _ (List.mem_cons_of_mem _ (List.mem_append_left _ (List.mem_append_left _ (List.mem_of_getElem? (i := 0) rfl))))) (fun _ h9 => h9) rfl dX2_append_2 ?_
  refine lv_iconst (v := 4) hx hb dX2_append_5 (by decide) ?_
  refine lv_iadd hx hb dX2_append_6 ?_
  refine W.eq (g2 := F0 m 7 ls [.int 20, .ref (a 0)]) rfl ?_
  have hPc := hP.sub (ws' := [((a 0), .inr (2, [.ref (a 1), .int 16, .int 0, .int 0, .int 0, .long 0, .long 0, .ref (a 2)])), ((a 1), .inl (cy 0, 1024, .inl f9))]) [0, 1] rfl
  have hPc : va_P (dC, dI) nCl (v0_k_X2_widen_6 cy (fun j9 => [(a 0), (a 1), (a 2)].getD j9 0) f9) s.heap := hPc
  have hDc := hD.sub (ws' := [((a 0), .inr (2, [.ref (a 1), .int 16, .int 0, .int 0, .int 0, .long 0, .long 0, .ref (a 2)])), ((a 1), .inl (cy 0, 1024, .inl f9))]) [0, 1] (by decide) rfl
  have hDc : va_D A (v0_k_X2_widen_6 cy (fun j9 => [(a 0), (a 1), (a 2)].getD j9 0) f9) := hDc
  have hFc := va_free (wc := (v0_k_X2_widen_6 cy (fun j9 => [(a 0), (a 1), (a 2)].getD j9 0) f9)) hD hS hA [0, 1] rfl
  refine va_callv (va_runV (As := [.int 20]) (rest := []) ⟨hx, hb, hml, hown, hts⟩ (k_X2_widen_6 l dC dI cy k (fun j9 => [(a 0), (a 1), (a 2)].getD j9 0) f9 s.heap.size) (cwV 1 hts g_k_X2_append_5_34_k_X2_widen_6 rfl rfl rfl (by decide +kernel) ⟨Nat.le_of_ble_eq_true rfl, Nat.le_of_ble_eq_true rfl⟩) ⟨nb_blindE, va_recv hK hPc (ci := 2) (q0 := 0) rfl rfl, fun U hU hW => ⟨rfl, ⟨by rw [hU], by rw [hU]; exact hPc, va_K.moved hW.alike hK, hDc.weaken (fun _ _ _ _ => trivial), hG.warm hW⟩, nE.to hE hS hW hU hFc⟩⟩ rfl rfl hl.1 rfl (lv_room (Nat.le_of_ble_eq_true rfl)) dX2_append_7 ⟨Nat.le_of_ble_eq_true rfl, Nat.le_of_ble_eq_true rfl⟩) hS (fun q _ h => hFc q h) hFc (fun u1 t H1 locs ht hvm hw hB hz1 hk1 hS => ?_)
  obtain ⟨hP1, hK1, hD1⟩ := hB
  rw [ht] at hP1
  obtain ⟨hP, hD⟩ := va_join (wr := []) (w1 := v1_k_X2_widen_6 cy (fun j9 => [(a 0), (a 1), (a 2)].getD j9 0) f9 u1) hP hD [0, 1] [] rfl rfl (by decide) (by decide) hk1 hFc hP1 hD1
  generalize H1 = H at hP hS ⊢
  have hP : va_P (dC, dI) nCl [((a 0), .inr (2, [.ref (a 1), .int 16, .int 0, .int 0, .int 0, .long 0, .long 0, .ref (a 2)])), ((a 1), .inl (cy 0, 1024, .inl f9))] H := hP
  have hD : va_D A [((a 0), .inr (2, [.ref (a 1), .int 16, .int 0, .int 0, .int 0, .long 0, .long 0, .ref (a 2)])), ((a 1), .inl (cy 0, 1024, .inl f9))] := hD
  refine lv_bipush (v := 24) hx hb dX2_append_10 (by decide) ?_
  refine lv_istore_n (lv' := [(2, .int 24), (0, .ref (a 0)), (1, .int e9)]) hx hb dX2_append_12 rfl hl (by decide) rfl (fun ls hl => ?_)
  refine lv_iload_n hx hb dX2_append_13 rfl (lv_at hl 0 rfl) ?_
  refine lv_if_lt (tgt := 48) hx hb dX2_append_14 (by decide) (fun c1 => False.elim (by revert c1; decide)) (fun _ => ?_)
  refine lv_aload_n hx hb dX2_append_17 rfl (lv_at hl 1 rfl) ?_
  refine va_get (D := (dC, dI)) (ci := 2) (v := .ref (a 1)) (C := RX2) (T := TX2) (N := 8) hx hb hts in_k_X2_append_5_X2 hown hK hP 0 rfl rfl 0 (by decide) (hts _ (List.mem_cons_of_mem _ (List.mem_append_left _ (List.mem_append_left _ (List.mem_of_getElem? (i := 5) rfl))))) (fun _ h9 => h9) rfl dX2_append_18 ?_
  refine lv_aload_n hx hb dX2_append_21 rfl (lv_at hl 1 rfl) ?_
  refine va_get (D := (dC, dI)) (ci := 2) (v := .int 16) (C := RX2) (T := TX2) (N := 8) hx hb hts in_k_X2_append_5_X2 hown hK hP 0 rfl rfl 1 (by decide) (hts _ (List.mem_cons_of_mem _ (List.mem_append_left _ (List.mem_append_left _ (List.mem_of_getElem? (i := 0) rfl))))) (fun _ h9 => h9) rfl dX2_append_22 ?_
  refine lv_iload_n hx hb dX2_append_25 rfl (lv_at hl 2 rfl) ?_
  refine lv_iload_n hx hb dX2_append_26 rfl (lv_at hl 0 rfl) ?_
  refine lv_ishr hx hb dX2_append_27 ?_
  refine lv_i2b hx hb dX2_append_28 rfl ?_
  refine va_bast hx hb hK hP hD hS 1 0 rfl rfl (nb_in (by decide)) dX2_append_29 (fun H locs hP hD hS => ?_)
  have hP : va_P (dC, dI) nCl [((a 0), .inr (2, [.ref (a 1), .int 16, .int 0, .int 0, .int 0, .long 0, .long 0, .ref (a 2)])), ((a 1), .inl (cy 0, 1024, .inl (upd f9 16 (vp_nar .byte (((e9 >>> (24 &&& 31))).toInt8.toInt32)))))] H := hP
  have hD : va_D A [((a 0), .inr (2, [.ref (a 1), .int 16, .int 0, .int 0, .int 0, .long 0, .long 0, .ref (a 2)])), ((a 1), .inl (cy 0, 1024, .inl (upd f9 16 (vp_nar .byte (((e9 >>> (24 &&& 31))).toInt8.toInt32)))))] := hD
  refine lv_aload_n hx hb dX2_append_30 rfl (lv_at hl 1 rfl) ?_
  refine lv_dup hx hb dX2_append_31 rfl ?_
  refine va_get (D := (dC, dI)) (ci := 2) (v := .int 16) (C := RX2) (T := TX2) (N := 8) hx hb hts in_k_X2_append_5_X2 hown hK hP 0 rfl rfl 1 (by decide) (hts _ (List.mem_cons_of_mem _ (List.mem_append_left _ (List.mem_append_left _ (List.mem_of_getElem? (i := 0) rfl))))) (fun _ h9 => h9) rfl dX2_append_32 ?_
  refine lv_iconst (v := 1) hx hb dX2_append_35 (by decide) ?_
  refine lv_iadd hx hb dX2_append_36 ?_
  refine W.eq (g2 := F0 m 37 ls [.int 17, .ref (a 0)]) rfl ?_
  refine va_put (D := (dC, dI)) (ci := 2) (v := .int 17) (ty := .int) (C := RX2) (T := TX2) (N := 8) hx hb hts in_k_X2_append_5_X2 tyX2 tyX2_ok nmX2 hown hK hP hD hS 0 rfl rfl 1 (by decide) (hts _ (List.mem_cons_of_mem _ (List.mem_append_left _ (List.mem_append_left _ (List.mem_of_getElem? (i := 0) rfl))))) (fun _ h9 => h9) rfl (by decide +kernel) rfl rfl (Nat.le_of_ble_eq_true rfl) dX2_append_37 (fun H locs hP hD hS => ?_)
  have hP : va_P (dC, dI) nCl [((a 0), .inr (2, [.ref (a 1), .int 17, .int 0, .int 0, .int 0, .long 0, .long 0, .ref (a 2)])), ((a 1), .inl (cy 0, 1024, .inl (upd f9 16 (vp_nar .byte (((e9 >>> (24 &&& 31))).toInt8.toInt32)))))] H := hP
  have hD : va_D A [((a 0), .inr (2, [.ref (a 1), .int 17, .int 0, .int 0, .int 0, .long 0, .long 0, .ref (a 2)])), ((a 1), .inl (cy 0, 1024, .inl (upd f9 16 (vp_nar .byte (((e9 >>> (24 &&& 31))).toInt8.toInt32)))))] := hD
  refine lv_iload_n hx hb dX2_append_40 rfl (lv_at hl 0 rfl) ?_
  refine lv_bipush (v := 8) hx hb dX2_append_41 (by decide) ?_
  refine lv_isub hx hb dX2_append_43 ?_
  refine W.eq (g2 := F0 m 44 ls [.int 16]) rfl ?_
  refine lv_istore_n (lv' := [(2, .int 16), (0, .ref (a 0)), (1, .int e9)]) hx hb dX2_append_44 rfl hl (by decide) rfl (fun ls hl => ?_)
  refine lv_goto (tgt := 13) hx hb dX2_append_45 (by decide) ?_
  refine lv_iload_n hx hb dX2_append_13 rfl (lv_at hl 0 rfl) ?_
  refine lv_if_lt (tgt := 48) hx hb dX2_append_14 (by decide) (fun c1 => False.elim (by revert c1; decide)) (fun _ => ?_)
  refine lv_aload_n hx hb dX2_append_17 rfl (lv_at hl 1 rfl) ?_
  refine va_get (D := (dC, dI)) (ci := 2) (v := .ref (a 1)) (C := RX2) (T := TX2) (N := 8) hx hb hts in_k_X2_append_5_X2 hown hK hP 0 rfl rfl 0 (by decide) (hts _ (List.mem_cons_of_mem _ (List.mem_append_left _ (List.mem_append_left _ (List.mem_of_getElem? (i := 5) rfl))))) (fun _ h9 => h9) rfl dX2_append_18 ?_
  refine lv_aload_n hx hb dX2_append_21 rfl (lv_at hl 1 rfl) ?_
  refine va_get (D := (dC, dI)) (ci := 2) (v := .int 17) (C := RX2) (T := TX2) (N := 8) hx hb hts in_k_X2_append_5_X2 hown hK hP 0 rfl rfl 1 (by decide) (hts _ (List.mem_cons_of_mem _ (List.mem_append_left _ (List.mem_append_left _ (List.mem_of_getElem? (i := 0) rfl))))) (fun _ h9 => h9) rfl dX2_append_22 ?_
  refine lv_iload_n hx hb dX2_append_25 rfl (lv_at hl 2 rfl) ?_
  refine lv_iload_n hx hb dX2_append_26 rfl (lv_at hl 0 rfl) ?_
  refine lv_ishr hx hb dX2_append_27 ?_
  refine lv_i2b hx hb dX2_append_28 rfl ?_
  refine va_bast hx hb hK hP hD hS 1 0 rfl rfl (nb_in (by decide)) dX2_append_29 (fun H locs hP hD hS => ?_)
  have hP : va_P (dC, dI) nCl [((a 0), .inr (2, [.ref (a 1), .int 17, .int 0, .int 0, .int 0, .long 0, .long 0, .ref (a 2)])), ((a 1), .inl (cy 0, 1024, .inl (upd (upd f9 16 (vp_nar .byte (((e9 >>> (24 &&& 31))).toInt8.toInt32))) 17 (vp_nar .byte (((e9 >>> (16 &&& 31))).toInt8.toInt32)))))] H := hP
  have hD : va_D A [((a 0), .inr (2, [.ref (a 1), .int 17, .int 0, .int 0, .int 0, .long 0, .long 0, .ref (a 2)])), ((a 1), .inl (cy 0, 1024, .inl (upd (upd f9 16 (vp_nar .byte (((e9 >>> (24 &&& 31))).toInt8.toInt32))) 17 (vp_nar .byte (((e9 >>> (16 &&& 31))).toInt8.toInt32)))))] := hD
  refine lv_aload_n hx hb dX2_append_30 rfl (lv_at hl 1 rfl) ?_
  refine lv_dup hx hb dX2_append_31 rfl ?_
  refine va_get (D := (dC, dI)) (ci := 2) (v := .int 17) (C := RX2) (T := TX2) (N := 8) hx hb hts in_k_X2_append_5_X2 hown hK hP 0 rfl rfl 1 (by decide) (hts _ (List.mem_cons_of_mem _ (List.mem_append_left _ (List.mem_append_left _ (List.mem_of_getElem? (i := 0) rfl))))) (fun _ h9 => h9) rfl dX2_append_32 ?_
  refine lv_iconst (v := 1) hx hb dX2_append_35 (by decide) ?_
  refine lv_iadd hx hb dX2_append_36 ?_
  refine W.eq (g2 := F0 m 37 ls [.int 18, .ref (a 0)]) rfl ?_
  refine va_put (D := (dC, dI)) (ci := 2) (v := .int 18) (ty := .int) (C := RX2) (T := TX2) (N := 8) hx hb hts in_k_X2_append_5_X2 tyX2 tyX2_ok nmX2 hown hK hP hD hS 0 rfl rfl 1 (by decide) (hts _ (List.mem_cons_of_mem _ (List.mem_append_left _ (List.mem_append_left _ (List.mem_of_getElem? (i := 0) rfl))))) (fun _ h9 => h9) rfl (by decide +kernel) rfl rfl (Nat.le_of_ble_eq_true rfl) dX2_append_37 (fun H locs hP hD hS => ?_)
  have hP : va_P (dC, dI) nCl [((a 0), .inr (2, [.ref (a 1), .int 18, .int 0, .int 0, .int 0, .long 0, .long 0, .ref (a 2)])), ((a 1), .inl (cy 0, 1024, .inl (upd (upd f9 16 (vp_nar .byte (((e9 >>> (24 &&& 31))).toInt8.toInt32))) 17 (vp_nar .byte (((e9 >>> (16 &&& 31))).toInt8.toInt32)))))] H := hP
  have hD : va_D A [((a 0), .inr (2, [.ref (a 1), .int 18, .int 0, .int 0, .int 0, .long 0, .long 0, .ref (a 2)])), ((a 1), .inl (cy 0, 1024, .inl (upd (upd f9 16 (vp_nar .byte (((e9 >>> (24 &&& 31))).toInt8.toInt32))) 17 (vp_nar .byte (((e9 >>> (16 &&& 31))).toInt8.toInt32)))))] := hD
  refine lv_iload_n hx hb dX2_append_40 rfl (lv_at hl 0 rfl) ?_
  refine lv_bipush (v := 8) hx hb dX2_append_41 (by decide) ?_
  refine lv_isub hx hb dX2_append_43 ?_
  refine W.eq (g2 := F0 m 44 ls [.int 8]) rfl ?_
  refine lv_istore_n (lv' := [(2, .int 8), (0, .ref (a 0)), (1, .int e9)]) hx hb dX2_append_44 rfl hl (by decide) rfl (fun ls hl => ?_)
  refine lv_goto (tgt := 13) hx hb dX2_append_45 (by decide) ?_
  refine lv_iload_n hx hb dX2_append_13 rfl (lv_at hl 0 rfl) ?_
  refine lv_if_lt (tgt := 48) hx hb dX2_append_14 (by decide) (fun c1 => False.elim (by revert c1; decide)) (fun _ => ?_)
  refine lv_aload_n hx hb dX2_append_17 rfl (lv_at hl 1 rfl) ?_
  refine va_get (D := (dC, dI)) (ci := 2) (v := .ref (a 1)) (C := RX2) (T := TX2) (N := 8) hx hb hts in_k_X2_append_5_X2 hown hK hP 0 rfl rfl 0 (by decide) (hts _ (List.mem_cons_of_mem _ (List.mem_append_left _ (List.mem_append_left _ (List.mem_of_getElem? (i := 5) rfl))))) (fun _ h9 => h9) rfl dX2_append_18 ?_
  refine lv_aload_n hx hb dX2_append_21 rfl (lv_at hl 1 rfl) ?_
  refine va_get (D := (dC, dI)) (ci := 2) (v := .int 18) (C := RX2) (T := TX2) (N := 8) hx hb hts in_k_X2_append_5_X2 hown hK hP 0 rfl rfl 1 (by decide) (hts _ (List.mem_cons_of_mem _ (List.mem_append_left _ (List.mem_append_left _ (List.mem_of_getElem? (i := 0) rfl))))) (fun _ h9 => h9) rfl dX2_append_22 ?_
  refine lv_iload_n hx hb dX2_append_25 rfl (lv_at hl 2 rfl) ?_
  refine lv_iload_n hx hb dX2_append_26 rfl (lv_at hl 0 rfl) ?_
  refine lv_ishr hx hb dX2_append_27 ?_
  refine lv_i2b hx hb dX2_append_28 rfl ?_
  refine va_bast hx hb hK hP hD hS 1 0 rfl rfl (nb_in (by decide)) dX2_append_29 (fun H locs hP hD hS => ?_)
  have hP : va_P (dC, dI) nCl [((a 0), .inr (2, [.ref (a 1), .int 18, .int 0, .int 0, .int 0, .long 0, .long 0, .ref (a 2)])), ((a 1), .inl (cy 0, 1024, .inl (upd (upd (upd f9 16 (vp_nar .byte (((e9 >>> (24 &&& 31))).toInt8.toInt32))) 17 (vp_nar .byte (((e9 >>> (16 &&& 31))).toInt8.toInt32))) 18 (vp_nar .byte (((e9 >>> (8 &&& 31))).toInt8.toInt32)))))] H := hP
  have hD : va_D A [((a 0), .inr (2, [.ref (a 1), .int 18, .int 0, .int 0, .int 0, .long 0, .long 0, .ref (a 2)])), ((a 1), .inl (cy 0, 1024, .inl (upd (upd (upd f9 16 (vp_nar .byte (((e9 >>> (24 &&& 31))).toInt8.toInt32))) 17 (vp_nar .byte (((e9 >>> (16 &&& 31))).toInt8.toInt32))) 18 (vp_nar .byte (((e9 >>> (8 &&& 31))).toInt8.toInt32)))))] := hD
  refine lv_aload_n hx hb dX2_append_30 rfl (lv_at hl 1 rfl) ?_
  refine lv_dup hx hb dX2_append_31 rfl ?_
  refine va_get (D := (dC, dI)) (ci := 2) (v := .int 18) (C := RX2) (T := TX2) (N := 8) hx hb hts in_k_X2_append_5_X2 hown hK hP 0 rfl rfl 1 (by decide) (hts _ (List.mem_cons_of_mem _ (List.mem_append_left _ (List.mem_append_left _ (List.mem_of_getElem? (i := 0) rfl))))) (fun _ h9 => h9) rfl dX2_append_32 ?_
  refine lv_iconst (v := 1) hx hb dX2_append_35 (by decide) ?_
  refine lv_iadd hx hb dX2_append_36 ?_
  refine W.eq (g2 := F0 m 37 ls [.int 19, .ref (a 0)]) rfl ?_
  refine va_put (D := (dC, dI)) (ci := 2) (v := .int 19) (ty := .int) (C := RX2) (T := TX2) (N := 8) hx hb hts in_k_X2_append_5_X2 tyX2 tyX2_ok nmX2 hown hK hP hD hS 0 rfl rfl 1 (by decide) (hts _ (List.mem_cons_of_mem _ (List.mem_append_left _ (List.mem_append_left _ (List.mem_of_getElem? (i := 0) rfl))))) (fun _ h9 => h9) rfl (by decide +kernel) rfl rfl (Nat.le_of_ble_eq_true rfl) dX2_append_37 (fun H locs hP hD hS => ?_)
  have hP : va_P (dC, dI) nCl [((a 0), .inr (2, [.ref (a 1), .int 19, .int 0, .int 0, .int 0, .long 0, .long 0, .ref (a 2)])), ((a 1), .inl (cy 0, 1024, .inl (upd (upd (upd f9 16 (vp_nar .byte (((e9 >>> (24 &&& 31))).toInt8.toInt32))) 17 (vp_nar .byte (((e9 >>> (16 &&& 31))).toInt8.toInt32))) 18 (vp_nar .byte (((e9 >>> (8 &&& 31))).toInt8.toInt32)))))] H := hP
  have hD : va_D A [((a 0), .inr (2, [.ref (a 1), .int 19, .int 0, .int 0, .int 0, .long 0, .long 0, .ref (a 2)])), ((a 1), .inl (cy 0, 1024, .inl (upd (upd (upd f9 16 (vp_nar .byte (((e9 >>> (24 &&& 31))).toInt8.toInt32))) 17 (vp_nar .byte (((e9 >>> (16 &&& 31))).toInt8.toInt32))) 18 (vp_nar .byte (((e9 >>> (8 &&& 31))).toInt8.toInt32)))))] := hD
  refine lv_iload_n hx hb dX2_append_40 rfl (lv_at hl 0 rfl) ?_
  refine lv_bipush (v := 8) hx hb dX2_append_41 (by decide) ?_
  refine lv_isub hx hb dX2_append_43 ?_
  refine W.eq (g2 := F0 m 44 ls [.int 0]) rfl ?_
  refine lv_istore_n (lv' := [(2, .int 0), (0, .ref (a 0)), (1, .int e9)]) hx hb dX2_append_44 rfl hl (by decide) rfl (fun ls hl => ?_)
  refine lv_goto (tgt := 13) hx hb dX2_append_45 (by decide) ?_
  refine lv_iload_n hx hb dX2_append_13 rfl (lv_at hl 0 rfl) ?_
  refine lv_if_lt (tgt := 48) hx hb dX2_append_14 (by decide) (fun c1 => False.elim (by revert c1; decide)) (fun _ => ?_)
  refine lv_aload_n hx hb dX2_append_17 rfl (lv_at hl 1 rfl) ?_
  refine va_get (D := (dC, dI)) (ci := 2) (v := .ref (a 1)) (C := RX2) (T := TX2) (N := 8) hx hb hts in_k_X2_append_5_X2 hown hK hP 0 rfl rfl 0 (by decide) (hts _ (List.mem_cons_of_mem _ (List.mem_append_left _ (List.mem_append_left _ (List.mem_of_getElem? (i := 5) rfl))))) (fun _ h9 => h9) rfl dX2_append_18 ?_
  refine lv_aload_n hx hb dX2_append_21 rfl (lv_at hl 1 rfl) ?_
  refine va_get (D := (dC, dI)) (ci := 2) (v := .int 19) (C := RX2) (T := TX2) (N := 8) hx hb hts in_k_X2_append_5_X2 hown hK hP 0 rfl rfl 1 (by decide) (hts _ (List.mem_cons_of_mem _ (List.mem_append_left _ (List.mem_append_left _ (List.mem_of_getElem? (i := 0) rfl))))) (fun _ h9 => h9) rfl dX2_append_22 ?_
  refine lv_iload_n hx hb dX2_append_25 rfl (lv_at hl 2 rfl) ?_
  refine lv_iload_n hx hb dX2_append_26 rfl (lv_at hl 0 rfl) ?_
  refine lv_ishr hx hb dX2_append_27 ?_
  refine lv_i2b hx hb dX2_append_28 rfl ?_
  refine va_bast hx hb hK hP hD hS 1 0 rfl rfl (nb_in (by decide)) dX2_append_29 (fun H locs hP hD hS => ?_)
  have hP : va_P (dC, dI) nCl [((a 0), .inr (2, [.ref (a 1), .int 19, .int 0, .int 0, .int 0, .long 0, .long 0, .ref (a 2)])), ((a 1), .inl (cy 0, 1024, .inl (upd (upd (upd (upd f9 16 (vp_nar .byte (((e9 >>> (24 &&& 31))).toInt8.toInt32))) 17 (vp_nar .byte (((e9 >>> (16 &&& 31))).toInt8.toInt32))) 18 (vp_nar .byte (((e9 >>> (8 &&& 31))).toInt8.toInt32))) 19 (vp_nar .byte (((e9 >>> (0 &&& 31))).toInt8.toInt32)))))] H := hP
  have hD : va_D A [((a 0), .inr (2, [.ref (a 1), .int 19, .int 0, .int 0, .int 0, .long 0, .long 0, .ref (a 2)])), ((a 1), .inl (cy 0, 1024, .inl (upd (upd (upd (upd f9 16 (vp_nar .byte (((e9 >>> (24 &&& 31))).toInt8.toInt32))) 17 (vp_nar .byte (((e9 >>> (16 &&& 31))).toInt8.toInt32))) 18 (vp_nar .byte (((e9 >>> (8 &&& 31))).toInt8.toInt32))) 19 (vp_nar .byte (((e9 >>> (0 &&& 31))).toInt8.toInt32)))))] := hD
  refine lv_aload_n hx hb dX2_append_30 rfl (lv_at hl 1 rfl) ?_
  refine lv_dup hx hb dX2_append_31 rfl ?_
  refine va_get (D := (dC, dI)) (ci := 2) (v := .int 19) (C := RX2) (T := TX2) (N := 8) hx hb hts in_k_X2_append_5_X2 hown hK hP 0 rfl rfl 1 (by decide) (hts _ (List.mem_cons_of_mem _ (List.mem_append_left _ (List.mem_append_left _ (List.mem_of_getElem? (i := 0) rfl))))) (fun _ h9 => h9) rfl dX2_append_32 ?_
  refine lv_iconst (v := 1) hx hb dX2_append_35 (by decide) ?_
  refine lv_iadd hx hb dX2_append_36 ?_
  refine W.eq (g2 := F0 m 37 ls [.int 20, .ref (a 0)]) rfl ?_
  refine va_put (D := (dC, dI)) (ci := 2) (v := .int 20) (ty := .int) (C := RX2) (T := TX2) (N := 8) hx hb hts in_k_X2_append_5_X2 tyX2 tyX2_ok nmX2 hown hK hP hD hS 0 rfl rfl 1 (by decide) (hts _ (List.mem_cons_of_mem _ (List.mem_append_left _ (List.mem_append_left _ (List.mem_of_getElem? (i := 0) rfl))))) (fun _ h9 => h9) rfl (by decide +kernel) rfl rfl (Nat.le_of_ble_eq_true rfl) dX2_append_37 (fun H locs hP hD hS => ?_)
  have hP : va_P (dC, dI) nCl [((a 0), .inr (2, [.ref (a 1), .int 20, .int 0, .int 0, .int 0, .long 0, .long 0, .ref (a 2)])), ((a 1), .inl (cy 0, 1024, .inl (upd (upd (upd (upd f9 16 (vp_nar .byte (((e9 >>> (24 &&& 31))).toInt8.toInt32))) 17 (vp_nar .byte (((e9 >>> (16 &&& 31))).toInt8.toInt32))) 18 (vp_nar .byte (((e9 >>> (8 &&& 31))).toInt8.toInt32))) 19 (vp_nar .byte (((e9 >>> (0 &&& 31))).toInt8.toInt32)))))] H := hP
  have hD : va_D A [((a 0), .inr (2, [.ref (a 1), .int 20, .int 0, .int 0, .int 0, .long 0, .long 0, .ref (a 2)])), ((a 1), .inl (cy 0, 1024, .inl (upd (upd (upd (upd f9 16 (vp_nar .byte (((e9 >>> (24 &&& 31))).toInt8.toInt32))) 17 (vp_nar .byte (((e9 >>> (16 &&& 31))).toInt8.toInt32))) 18 (vp_nar .byte (((e9 >>> (8 &&& 31))).toInt8.toInt32))) 19 (vp_nar .byte (((e9 >>> (0 &&& 31))).toInt8.toInt32)))))] := hD
  refine lv_iload_n hx hb dX2_append_40 rfl (lv_at hl 0 rfl) ?_
  refine lv_bipush (v := 8) hx hb dX2_append_41 (by decide) ?_
  refine lv_isub hx hb dX2_append_43 ?_
  refine W.eq (g2 := F0 m 44 ls [.int (-8)]) rfl ?_
  refine lv_istore_n (lv' := [(2, .int (-8)), (0, .ref (a 0)), (1, .int e9)]) hx hb dX2_append_44 rfl hl (by decide) rfl (fun ls hl => ?_)
  refine lv_goto (tgt := 13) hx hb dX2_append_45 (by decide) ?_
  refine lv_iload_n hx hb dX2_append_13 rfl (lv_at hl 0 rfl) ?_
  refine lv_if_lt (tgt := 48) hx hb dX2_append_14 (by decide) (fun _ => ?_) (fun c1 => False.elim (by revert c1; decide))
  have hP : va_P (dC, dI) nCl (v1_k_X2_append_5 cy a e9 f9 (fun _ => 0)) H := hP
  have hD : va_D A (v1_k_X2_append_5 cy a e9 f9 (fun _ => 0)) := hD
  exact W.vret hx hb hr (fun t ht hW => ⟨⟨(fun _ => 0), rfl, trivial, by rw [ht]; exact hP, va_K.moved hW.alike hK, hD⟩, hS.F ht⟩) hS.2.2 dX2_append_48
def o_k_X11_feed : List Cond := [.fieldLink RX11 72 "SetHouse" "lex" "LSetHouse$Lexer;", .constant RX11 119 (32768), .methodLink RX11 123 yX2_append, .instanceMethod yX2_append, .selects RX2 yX2_append yX2_append, .initialized RX2]
theorem o_k_X11_feed_good : o_k_X11_feed.all goodWord = true := by decide +kernel
def p_k_X11_feed : List Cond := o_k_X11_feed ++ ((.code yX2_append cX2_append 3 none :: p_k_X2_append) ++ ((.code yX2_append cX2_append 3 none :: p_k_X2_append_2) ++ ((.code yX2_append cX2_append 3 none :: p_k_X2_append_3) ++ ((.code yX2_append cX2_append 3 none :: p_k_X2_append_4) ++ ((.code yX2_append cX2_append 3 none :: p_k_X2_append_5) ++ [])))))
theorem p_k_X11_feed_good : p_k_X11_feed.all goodWord = true := nb_all2 o_k_X11_feed_good (nb_all2 (nb_allc (by decide +kernel) p_k_X2_append_good) (nb_all2 (nb_allc (by decide +kernel) p_k_X2_append_2_good) (nb_all2 (nb_allc (by decide +kernel) p_k_X2_append_3_good) (nb_all2 (nb_allc (by decide +kernel) p_k_X2_append_4_good) (nb_all2 (nb_allc (by decide +kernel) p_k_X2_append_5_good) rfl)))))
def w_k_X11_feed : List Cond := .code yX11_feed cX11_feed 6 (some .int) :: (p_k_X11_feed ++ fC)
theorem w_k_X11_feed_good : w_k_X11_feed.all goodWord = true := nb_allc (by decide +kernel) (nb_all2 p_k_X11_feed_good fC_good)
theorem in_k_X11_feed_X2 : ∀ w ∈ wsX20, w ∈ w_k_X11_feed := fun _ h => List.mem_cons_of_mem _ (List.mem_append_right _ (List.mem_append_right _ (List.mem_append_right _ (List.mem_append_left _ h))))
theorem in_k_X11_feed_X11 : ∀ w ∈ wsX110, w ∈ w_k_X11_feed := fun _ h => List.mem_cons_of_mem _ (List.mem_append_right _ (List.mem_append_right _ (List.mem_append_right _ (List.mem_append_right _ (List.mem_append_right _ (List.mem_append_right _ (List.mem_append_right _ (List.mem_append_right _ (List.mem_append_right _ (List.mem_append_right _ (List.mem_append_right _ h)))))))))))
theorem gg_k_X11_feed_k_X2_append : GoodIn w_k_X11_feed w_k_X2_append := goodIn_sub (fun w h => (List.mem_cons.mp h).elim (fun e => (List.mem_cons_of_mem _ (List.mem_append_left _ (List.mem_append_right _ (List.mem_append_left _ (List.mem_cons.mpr (Or.inl e))))))) (fun h => (List.mem_append.mp h).elim (fun h => (List.mem_cons_of_mem _ (List.mem_append_left _ (List.mem_append_right _ (List.mem_append_left _ (List.mem_cons_of_mem _ h)))))) (fun h => List.mem_cons_of_mem _ (List.mem_append_right _ h)))) w_k_X2_append_good
theorem g_k_X11_feed_123_k_X2_append : GoodIn w_k_X11_feed (wsV RX11 123 RX2 yX2_append w_k_X2_append) := goodIn_app (nb_g4 (List.mem_cons_of_mem _ (List.mem_append_left _ (List.mem_append_left _ (List.mem_of_getElem? (i := 2) rfl)))) (List.mem_cons_of_mem _ (List.mem_append_left _ (List.mem_append_left _ (List.mem_of_getElem? (i := 3) rfl)))) (List.mem_cons_of_mem _ (List.mem_append_left _ (List.mem_append_left _ (List.mem_of_getElem? (i := 4) rfl)))) (List.mem_cons_of_mem _ (List.mem_append_left _ (List.mem_append_left _ (List.mem_of_getElem? (i := 5) rfl)))) (by decide +kernel)) gg_k_X11_feed_k_X2_append
theorem gg_k_X11_feed_k_X2_append_2 : GoodIn w_k_X11_feed w_k_X2_append_2 := goodIn_sub (fun w h => (List.mem_cons.mp h).elim (fun e => (List.mem_cons_of_mem _ (List.mem_append_left _ (List.mem_append_right _ (List.mem_append_right _ (List.mem_append_left _ (List.mem_cons.mpr (Or.inl e)))))))) (fun h => (List.mem_append.mp h).elim (fun h => (List.mem_cons_of_mem _ (List.mem_append_left _ (List.mem_append_right _ (List.mem_append_right _ (List.mem_append_left _ (List.mem_cons_of_mem _ h))))))) (fun h => List.mem_cons_of_mem _ (List.mem_append_right _ h)))) w_k_X2_append_2_good
theorem g_k_X11_feed_123_k_X2_append_2 : GoodIn w_k_X11_feed (wsV RX11 123 RX2 yX2_append w_k_X2_append_2) := goodIn_app (nb_g4 (List.mem_cons_of_mem _ (List.mem_append_left _ (List.mem_append_left _ (List.mem_of_getElem? (i := 2) rfl)))) (List.mem_cons_of_mem _ (List.mem_append_left _ (List.mem_append_left _ (List.mem_of_getElem? (i := 3) rfl)))) (List.mem_cons_of_mem _ (List.mem_append_left _ (List.mem_append_left _ (List.mem_of_getElem? (i := 4) rfl)))) (List.mem_cons_of_mem _ (List.mem_append_left _ (List.mem_append_left _ (List.mem_of_getElem? (i := 5) rfl)))) (by decide +kernel)) gg_k_X11_feed_k_X2_append_2
theorem gg_k_X11_feed_k_X2_append_3 : GoodIn w_k_X11_feed w_k_X2_append_3 := goodIn_sub (fun w h => (List.mem_cons.mp h).elim (fun e => (List.mem_cons_of_mem _ (List.mem_append_left _ (List.mem_append_right _ (List.mem_append_right _ (List.mem_append_right _ (List.mem_append_left _ (List.mem_cons.mpr (Or.inl e))))))))) (fun h => (List.mem_append.mp h).elim (fun h => (List.mem_cons_of_mem _ (List.mem_append_left _ (List.mem_append_right _ (List.mem_append_right _ (List.mem_append_right _ (List.mem_append_left _ (List.mem_cons_of_mem _ h)))))))) (fun h => List.mem_cons_of_mem _ (List.mem_append_right _ h)))) w_k_X2_append_3_good
theorem g_k_X11_feed_123_k_X2_append_3 : GoodIn w_k_X11_feed (wsV RX11 123 RX2 yX2_append w_k_X2_append_3) := goodIn_app (nb_g4 (List.mem_cons_of_mem _ (List.mem_append_left _ (List.mem_append_left _ (List.mem_of_getElem? (i := 2) rfl)))) (List.mem_cons_of_mem _ (List.mem_append_left _ (List.mem_append_left _ (List.mem_of_getElem? (i := 3) rfl)))) (List.mem_cons_of_mem _ (List.mem_append_left _ (List.mem_append_left _ (List.mem_of_getElem? (i := 4) rfl)))) (List.mem_cons_of_mem _ (List.mem_append_left _ (List.mem_append_left _ (List.mem_of_getElem? (i := 5) rfl)))) (by decide +kernel)) gg_k_X11_feed_k_X2_append_3
theorem gg_k_X11_feed_k_X2_append_4 : GoodIn w_k_X11_feed w_k_X2_append_4 := goodIn_sub (fun w h => (List.mem_cons.mp h).elim (fun e => (List.mem_cons_of_mem _ (List.mem_append_left _ (List.mem_append_right _ (List.mem_append_right _ (List.mem_append_right _ (List.mem_append_right _ (List.mem_append_left _ (List.mem_cons.mpr (Or.inl e)))))))))) (fun h => (List.mem_append.mp h).elim (fun h => (List.mem_cons_of_mem _ (List.mem_append_left _ (List.mem_append_right _ (List.mem_append_right _ (List.mem_append_right _ (List.mem_append_right _ (List.mem_append_left _ (List.mem_cons_of_mem _ h))))))))) (fun h => List.mem_cons_of_mem _ (List.mem_append_right _ h)))) w_k_X2_append_4_good
theorem g_k_X11_feed_123_k_X2_append_4 : GoodIn w_k_X11_feed (wsV RX11 123 RX2 yX2_append w_k_X2_append_4) := goodIn_app (nb_g4 (List.mem_cons_of_mem _ (List.mem_append_left _ (List.mem_append_left _ (List.mem_of_getElem? (i := 2) rfl)))) (List.mem_cons_of_mem _ (List.mem_append_left _ (List.mem_append_left _ (List.mem_of_getElem? (i := 3) rfl)))) (List.mem_cons_of_mem _ (List.mem_append_left _ (List.mem_append_left _ (List.mem_of_getElem? (i := 4) rfl)))) (List.mem_cons_of_mem _ (List.mem_append_left _ (List.mem_append_left _ (List.mem_of_getElem? (i := 5) rfl)))) (by decide +kernel)) gg_k_X11_feed_k_X2_append_4
theorem gg_k_X11_feed_k_X2_append_5 : GoodIn w_k_X11_feed w_k_X2_append_5 := goodIn_sub (fun w h => (List.mem_cons.mp h).elim (fun e => (List.mem_cons_of_mem _ (List.mem_append_left _ (List.mem_append_right _ (List.mem_append_right _ (List.mem_append_right _ (List.mem_append_right _ (List.mem_append_right _ (List.mem_append_left _ (List.mem_cons.mpr (Or.inl e))))))))))) (fun h => (List.mem_append.mp h).elim (fun h => (List.mem_cons_of_mem _ (List.mem_append_left _ (List.mem_append_right _ (List.mem_append_right _ (List.mem_append_right _ (List.mem_append_right _ (List.mem_append_right _ (List.mem_append_left _ (List.mem_cons_of_mem _ h)))))))))) (fun h => List.mem_cons_of_mem _ (List.mem_append_right _ h)))) w_k_X2_append_5_good
theorem g_k_X11_feed_123_k_X2_append_5 : GoodIn w_k_X11_feed (wsV RX11 123 RX2 yX2_append w_k_X2_append_5) := goodIn_app (nb_g4 (List.mem_cons_of_mem _ (List.mem_append_left _ (List.mem_append_left _ (List.mem_of_getElem? (i := 2) rfl)))) (List.mem_cons_of_mem _ (List.mem_append_left _ (List.mem_append_left _ (List.mem_of_getElem? (i := 3) rfl)))) (List.mem_cons_of_mem _ (List.mem_append_left _ (List.mem_append_left _ (List.mem_of_getElem? (i := 4) rfl)))) (List.mem_cons_of_mem _ (List.mem_append_left _ (List.mem_append_left _ (List.mem_of_getElem? (i := 5) rfl)))) (by decide +kernel)) gg_k_X11_feed_k_X2_append_5
def v0_k_X11_feed (cy : Nat → ClassId) (a : Nat → Nat) (a9 : Int32) (b9 : Int32) (c9 : Int32) (d9 : Int32) (e9 : Int32) : va_W := [((a 0), .inr (10, [.ref (a 3), .ref (a 4), .ref (a 5), .ref (a 6), .ref (a 7), .ref (a 8), .ref (a 1), .ref (a 9), .ref (a 10), .ref (a 11), .int 0, .int 0, .int 0, .int 0, .ref (a 12), .ref (a 13), .ref (a 14), .int 0, .int 0, .int 0])), ((a 1), .inr (2, [.ref (a 2), .int 0, .int 0, .int 0, .int 0, .long 0, .long 0, .ref (a 15)])), ((a 2), .inl (cy 0, 1024, .inl nZ))]
def v1_k_X11_feed (cy : Nat → ClassId) (a : Nat → Nat) (a9 : Int32) (b9 : Int32) (c9 : Int32) (d9 : Int32) (e9 : Int32) (r : Nat → Nat) : va_W := []
set_option maxHeartbeats 40000000 in
set_option maxRecDepth 100000 in
/-- feed of a new object -/
theorem k_X11_feed (l : Launch) (dC : Nat → ClassId) (dI : Nat → Nat → Nat) (cy : Nat → ClassId) (k : Nat → Nat) (a : Nat → Nat) (a9 : Int32) (b9 : Int32) (c9 : Int32) (d9 : Int32) (e9 : Int32) (sz : Nat) : Met l yX11_feed w_k_X11_feed ({ frames := 3, cells := 0, slots := 0, locals := 65 }) (va_Pc [.ref (a 0), .int a9, .int b9, .int c9, .int d9, .int e9] (nInE (dC, dI) cy k sz (v0_k_X11_feed cy a a9 b9 c9 d9 e9))) (va_Qi (fun (z : Int32) (_ : Nat → Nat) => z = 20) (fun r t => nOut (dC, dI) cy (va_A (v0_k_X11_feed cy a a9 b9 c9 d9 e9) sz) (v1_k_X11_feed cy a a9 b9 c9 d9 e9 r) t) (va_A (v0_k_X11_feed cy a a9 b9 c9 d9 e9) sz)) 0 0 (va_A (v0_k_X11_feed cy a a9 b9 c9 d9 e9) sz) := by
  refine Met.ofW (cc := cX11_feed) (maxL := 6) (ret := (some .int)) (by decide) rfl ?_
  intro p e s m args below meth c s₁ B hml hv
  obtain ⟨rfl, ⟨hsz, hP, hK, hD0, hG⟩, hE⟩ := hv
  have hx := B.exec
  have hb := B.bytes
  have hr := B.returns
  have hts := atoms_spec (ws := w_k_X11_feed) B.pre
  have hown : s.vm.findClass RX11 = some m.cls := findClass_of_methodNamed B.named
  have hlocks := B.notSynchronized
  subst hsz
  have hD := hD0.self (sz := s.heap.size)
  generalize hAe : va_A (v0_k_X11_feed cy a a9 b9 c9 d9 e9) s.heap.size = A at hD hE ⊢
  have hA : ∀ q : Nat, s.heap.size ≤ q → A q := fun q h => by rw [← hAe]; exact Or.inr h
  have hS : va_S A s.heap s.heap [] := va_S.rf
  have hP : va_P (dC, dI) nCl (v0_k_X11_feed cy a a9 b9 c9 d9 e9) s.heap := hP
  have hl := lv_entry ([.ref (a 0), .int a9, .int b9, .int c9, .int d9, .int e9]) (n := 6) (Nat.le_of_ble_eq_true rfl)
  rw [lg_entry_eq]
  generalize (lg_sl ([.ref (a 0), .int a9, .int b9, .int c9, .int d9, .int e9]) ++ List.replicate (6 - (lg_sl ([.ref (a 0), .int a9, .int b9, .int c9, .int d9, .int e9])).length) Slot.unset).toArray = ls at hl ⊢
  have hl : lv_has ls 6 [(0, .ref (a 0)), (1, .int a9), (2, .int b9), (3, .int c9), (4, .int d9), (5, .int e9)] := hl
  have hP : va_P (dC, dI) nCl [((a 0), .inr (10, [.ref (a 3), .ref (a 4), .ref (a 5), .ref (a 6), .ref (a 7), .ref (a 8), .ref (a 1), .ref (a 9), .ref (a 10), .ref (a 11), .int 0, .int 0, .int 0, .int 0, .ref (a 12), .ref (a 13), .ref (a 14), .int 0, .int 0, .int 0])), ((a 1), .inr (2, [.ref (a 2), .int 0, .int 0, .int 0, .int 0, .long 0, .long 0, .ref (a 15)])), ((a 2), .inl (cy 0, 1024, .inl nZ))] s.heap := hP
  have hD : va_D A [((a 0), .inr (10, [.ref (a 3), .ref (a 4), .ref (a 5), .ref (a 6), .ref (a 7), .ref (a 8), .ref (a 1), .ref (a 9), .ref (a 10), .ref (a 11), .int 0, .int 0, .int 0, .int 0, .ref (a 12), .ref (a 13), .ref (a 14), .int 0, .int 0, .int 0])), ((a 1), .inr (2, [.ref (a 2), .int 0, .int 0, .int 0, .int 0, .long 0, .long 0, .ref (a 15)])), ((a 2), .inl (cy 0, 1024, .inl nZ))] := hD
  refine lv_aload_n hx hb dX11_feed_0 rfl (lv_at hl 0 rfl) ?_
  refine va_get (D := (dC, dI)) (ci := 10) (v := .ref (a 1)) (C := RX11) (T := TX11) (N := 20) hx hb hts in_k_X11_feed_X11 hown hK hP 0 rfl rfl 6 (by decide) (hts _ (List.mem_cons_of_mem _ (List.mem_append_left _ (List.mem_append_left _ (List.mem_of_getElem? (i := 0) rfl))))) (fun _ h9 => h9) rfl dX11_feed_1 ?_
  refine va_getN (D := (dC, dI)) (ci := 2) (v := .int 0) (C := RX2) (T := TX2) (N := 8) hx hb hts in_k_X11_feed_X2 hown hK hP 1 rfl rfl 1 (by decide) (va_Nw.use rfl (hG.1 _ (List.mem_of_getElem? (i := 51) rfl))) (fun _ h9 => h9) rfl dX11_feed_4 ?_
  refine lv_bipush (v := 20) hx hb dX11_feed_7 (by decide) ?_
  refine lv_iadd hx hb dX11_feed_9 ?_
  refine W.eq (g2 := F0 m 10 ls [.int 20]) rfl ?_
  refine lv_ldc (v := 32768) hx hb hown (hts _ (List.mem_cons_of_mem _ (List.mem_append_left _ (List.mem_append_left _ (List.mem_of_getElem? (i := 1) rfl))))) dX11_feed_10 ?_
  refine lv_icmp_le (tgt := 23) hx hb dX11_feed_12 (by decide) (fun _ => ?_) (fun c1 => False.elim (by revert c1; decide))
  refine lv_aload_n hx hb dX11_feed_23 rfl (lv_at hl 0 rfl) ?_
  refine va_get (D := (dC, dI)) (ci := 10) (v := .ref (a 1)) (C := RX11) (T := TX11) (N := 20) hx hb hts in_k_X11_feed_X11 hown hK hP 0 rfl rfl 6 (by decide) (hts _ (List.mem_cons_of_mem _ (List.mem_append_left _ (List.mem_append_left _ (List.mem_of_getElem? (i := 0) rfl))))) (fun _ h9 => h9) rfl dX11_feed_24 ?_
  refine lv_iload_n hx hb dX11_feed_27 rfl (lv_at hl 1 rfl) ?_
  obtain ⟨f9, hf9⟩ : ∃ z : Nat → Int32, z = nZ := ⟨_, rfl⟩
  rw [← hf9] at hP hD
  have hP : va_P (dC, dI) nCl [((a 0), .inr (10, [.ref (a 3), .ref (a 4), .ref (a 5), .ref (a 6), .ref (a 7), .ref (a 8), .ref (a 1), .ref (a 9), .ref (a 10), .ref (a 11), .int 0, .int 0, .int 0, .int 0, .ref (a 12), .ref (a 13), .ref (a 14), .int 0, .int 0, .int 0])), ((a 1), .inr (2, [.ref (a 2), .int 0, .int 0, .int 0, .int 0, .long 0, .long 0, .ref (a 15)])), ((a 2), .inl (cy 0, 1024, .inl f9))] s.heap := hP
  have hD : va_D A [((a 0), .inr (10, [.ref (a 3), .ref (a 4), .ref (a 5), .ref (a 6), .ref (a 7), .ref (a 8), .ref (a 1), .ref (a 9), .ref (a 10), .ref (a 11), .int 0, .int 0, .int 0, .int 0, .ref (a 12), .ref (a 13), .ref (a 14), .int 0, .int 0, .int 0])), ((a 1), .inr (2, [.ref (a 2), .int 0, .int 0, .int 0, .int 0, .long 0, .long 0, .ref (a 15)])), ((a 2), .inl (cy 0, 1024, .inl f9))] := hD
  have hPc := hP.sub (ws' := [((a 1), .inr (2, [.ref (a 2), .int 0, .int 0, .int 0, .int 0, .long 0, .long 0, .ref (a 15)])), ((a 2), .inl (cy 0, 1024, .inl f9))]) [1, 2] rfl
  have hPc : va_P (dC, dI) nCl (v0_k_X2_append cy (fun j9 => [(a 1), (a 2), (a 15)].getD j9 0) a9 f9) s.heap := hPc
  have hDc := hD.sub (ws' := [((a 1), .inr (2, [.ref (a 2), .int 0, .int 0, .int 0, .int 0, .long 0, .long 0, .ref (a 15)])), ((a 2), .inl (cy 0, 1024, .inl f9))]) [1, 2] (by decide) rfl
  have hDc : va_D A (v0_k_X2_append cy (fun j9 => [(a 1), (a 2), (a 15)].getD j9 0) a9 f9) := hDc
  have hFc := va_free (wc := (v0_k_X2_append cy (fun j9 => [(a 1), (a 2), (a 15)].getD j9 0) a9 f9)) hD hS hA [1, 2] rfl
  refine va_callv (va_runV (As := [.int a9]) (rest := []) ⟨hx, hb, hml, hown, hts⟩ (k_X2_append l dC dI cy k (fun j9 => [(a 1), (a 2), (a 15)].getD j9 0) a9 f9 s.heap.size) (cwV 1 hts g_k_X11_feed_123_k_X2_append rfl rfl rfl (by decide +kernel) ⟨Nat.le_of_ble_eq_true rfl, Nat.le_of_ble_eq_true rfl⟩) ⟨nb_blindE, va_recv hK hPc (ci := 2) (q0 := 0) rfl rfl, fun U hU hW => ⟨rfl, ⟨by rw [hU], by rw [hU]; exact hPc, va_K.moved hW.alike hK, hDc.weaken (fun _ _ _ _ => trivial), hG.warm hW⟩, nE.to hE hS hW hU hFc⟩⟩ rfl rfl hl.1 rfl (lv_room (Nat.le_of_ble_eq_true rfl)) dX11_feed_28 ⟨Nat.le_of_ble_eq_true rfl, Nat.le_of_ble_eq_true rfl⟩) hS (fun q _ h => hFc q h) hFc (fun u1 t H1 locs ht hvm hw hB hz1 hk1 hS => ?_)
  obtain ⟨hP1, hK1, hD1⟩ := hB
  rw [ht] at hP1
  obtain ⟨hP, hD⟩ := va_join (wr := [((a 0), .inr (10, [.ref (a 3), .ref (a 4), .ref (a 5), .ref (a 6), .ref (a 7), .ref (a 8), .ref (a 1), .ref (a 9), .ref (a 10), .ref (a 11), .int 0, .int 0, .int 0, .int 0, .ref (a 12), .ref (a 13), .ref (a 14), .int 0, .int 0, .int 0]))]) (w1 := v1_k_X2_append cy (fun j9 => [(a 1), (a 2), (a 15)].getD j9 0) a9 f9 u1) hP hD [1, 2] [0] rfl rfl (by decide) (by decide) hk1 hFc hP1 hD1
  generalize H1 = H at hP hS ⊢
  have hP : va_P (dC, dI) nCl [((a 0), .inr (10, [.ref (a 3), .ref (a 4), .ref (a 5), .ref (a 6), .ref (a 7), .ref (a 8), .ref (a 1), .ref (a 9), .ref (a 10), .ref (a 11), .int 0, .int 0, .int 0, .int 0, .ref (a 12), .ref (a 13), .ref (a 14), .int 0, .int 0, .int 0])), ((a 1), .inr (2, [.ref (a 2), .int 4, .int 0, .int 0, .int 0, .long 0, .long 0, .ref (a 15)])), ((a 2), .inl (cy 0, 1024, .inl (upd (upd (upd (upd f9 0 (vp_nar .byte (((a9 >>> (24 &&& 31))).toInt8.toInt32))) 1 (vp_nar .byte (((a9 >>> (16 &&& 31))).toInt8.toInt32))) 2 (vp_nar .byte (((a9 >>> (8 &&& 31))).toInt8.toInt32))) 3 (vp_nar .byte (((a9 >>> (0 &&& 31))).toInt8.toInt32)))))] H := hP
  have hD : va_D A [((a 0), .inr (10, [.ref (a 3), .ref (a 4), .ref (a 5), .ref (a 6), .ref (a 7), .ref (a 8), .ref (a 1), .ref (a 9), .ref (a 10), .ref (a 11), .int 0, .int 0, .int 0, .int 0, .ref (a 12), .ref (a 13), .ref (a 14), .int 0, .int 0, .int 0])), ((a 1), .inr (2, [.ref (a 2), .int 4, .int 0, .int 0, .int 0, .long 0, .long 0, .ref (a 15)])), ((a 2), .inl (cy 0, 1024, .inl (upd (upd (upd (upd f9 0 (vp_nar .byte (((a9 >>> (24 &&& 31))).toInt8.toInt32))) 1 (vp_nar .byte (((a9 >>> (16 &&& 31))).toInt8.toInt32))) 2 (vp_nar .byte (((a9 >>> (8 &&& 31))).toInt8.toInt32))) 3 (vp_nar .byte (((a9 >>> (0 &&& 31))).toInt8.toInt32)))))] := hD
  refine lv_aload_n hx hb dX11_feed_31 rfl (lv_at hl 0 rfl) ?_
  refine va_get (D := (dC, dI)) (ci := 10) (v := .ref (a 1)) (C := RX11) (T := TX11) (N := 20) hx hb hts in_k_X11_feed_X11 hown hK hP 0 rfl rfl 6 (by decide) (hts _ (List.mem_cons_of_mem _ (List.mem_append_left _ (List.mem_append_left _ (List.mem_of_getElem? (i := 0) rfl))))) (fun _ h9 => h9) rfl dX11_feed_32 ?_
  refine lv_iload_n hx hb dX11_feed_35 rfl (lv_at hl 2 rfl) ?_
  obtain ⟨f9, hf9⟩ : ∃ z : Nat → Int32, z = (upd (upd (upd (upd f9 0 (vp_nar .byte (((a9 >>> (24 &&& 31))).toInt8.toInt32))) 1 (vp_nar .byte (((a9 >>> (16 &&& 31))).toInt8.toInt32))) 2 (vp_nar .byte (((a9 >>> (8 &&& 31))).toInt8.toInt32))) 3 (vp_nar .byte (((a9 >>> (0 &&& 31))).toInt8.toInt32))) := ⟨_, rfl⟩
  rw [← hf9] at hP hD
  have hP : va_P (dC, dI) nCl [((a 0), .inr (10, [.ref (a 3), .ref (a 4), .ref (a 5), .ref (a 6), .ref (a 7), .ref (a 8), .ref (a 1), .ref (a 9), .ref (a 10), .ref (a 11), .int 0, .int 0, .int 0, .int 0, .ref (a 12), .ref (a 13), .ref (a 14), .int 0, .int 0, .int 0])), ((a 1), .inr (2, [.ref (a 2), .int 4, .int 0, .int 0, .int 0, .long 0, .long 0, .ref (a 15)])), ((a 2), .inl (cy 0, 1024, .inl f9))] H := hP
  have hD : va_D A [((a 0), .inr (10, [.ref (a 3), .ref (a 4), .ref (a 5), .ref (a 6), .ref (a 7), .ref (a 8), .ref (a 1), .ref (a 9), .ref (a 10), .ref (a 11), .int 0, .int 0, .int 0, .int 0, .ref (a 12), .ref (a 13), .ref (a 14), .int 0, .int 0, .int 0])), ((a 1), .inr (2, [.ref (a 2), .int 4, .int 0, .int 0, .int 0, .long 0, .long 0, .ref (a 15)])), ((a 2), .inl (cy 0, 1024, .inl f9))] := hD
  have hPc := hP.sub (ws' := [((a 1), .inr (2, [.ref (a 2), .int 4, .int 0, .int 0, .int 0, .long 0, .long 0, .ref (a 15)])), ((a 2), .inl (cy 0, 1024, .inl f9))]) [1, 2] rfl
  have hPc : va_P (dC, dI) nCl (v0_k_X2_append_2 cy (fun j9 => [(a 1), (a 2), (a 15)].getD j9 0) b9 f9) H := hPc
  have hDc := hD.sub (ws' := [((a 1), .inr (2, [.ref (a 2), .int 4, .int 0, .int 0, .int 0, .long 0, .long 0, .ref (a 15)])), ((a 2), .inl (cy 0, 1024, .inl f9))]) [1, 2] (by decide) rfl
  have hDc : va_D A (v0_k_X2_append_2 cy (fun j9 => [(a 1), (a 2), (a 15)].getD j9 0) b9 f9) := hDc
  have hFc := va_free (wc := (v0_k_X2_append_2 cy (fun j9 => [(a 1), (a 2), (a 15)].getD j9 0) b9 f9)) hD hS hA [1, 2] rfl
  refine va_callv (va_runV (As := [.int b9]) (rest := []) ⟨hx, hb, hml, hown, hts⟩ (k_X2_append_2 l dC dI cy k (fun j9 => [(a 1), (a 2), (a 15)].getD j9 0) b9 f9 H.size) (cwV 1 hts g_k_X11_feed_123_k_X2_append_2 rfl rfl rfl (by decide +kernel) ⟨Nat.le_of_ble_eq_true rfl, Nat.le_of_ble_eq_true rfl⟩) ⟨nb_blindE, va_recv hK hPc (ci := 2) (q0 := 0) rfl rfl, fun U hU hW => ⟨rfl, ⟨by rw [hU], by rw [hU]; exact hPc, va_K.moved hW.alike hK, hDc.weaken (fun _ _ _ _ => trivial), hG.warm hW⟩, nE.to hE hS hW hU hFc⟩⟩ rfl rfl hl.1 rfl (lv_room (Nat.le_of_ble_eq_true rfl)) dX11_feed_36 ⟨Nat.le_of_ble_eq_true rfl, Nat.le_of_ble_eq_true rfl⟩) hS (fun q _ h => hFc q h) hFc (fun u2 t H1 locs ht hvm hw hB hz1 hk1 hS => ?_)
  obtain ⟨hP1, hK1, hD1⟩ := hB
  rw [ht] at hP1
  obtain ⟨hP, hD⟩ := va_join (wr := [((a 0), .inr (10, [.ref (a 3), .ref (a 4), .ref (a 5), .ref (a 6), .ref (a 7), .ref (a 8), .ref (a 1), .ref (a 9), .ref (a 10), .ref (a 11), .int 0, .int 0, .int 0, .int 0, .ref (a 12), .ref (a 13), .ref (a 14), .int 0, .int 0, .int 0]))]) (w1 := v1_k_X2_append_2 cy (fun j9 => [(a 1), (a 2), (a 15)].getD j9 0) b9 f9 u2) hP hD [1, 2] [0] rfl rfl (by decide) (by decide) hk1 hFc hP1 hD1
  generalize H1 = H at hP hS ⊢
  have hP : va_P (dC, dI) nCl [((a 0), .inr (10, [.ref (a 3), .ref (a 4), .ref (a 5), .ref (a 6), .ref (a 7), .ref (a 8), .ref (a 1), .ref (a 9), .ref (a 10), .ref (a 11), .int 0, .int 0, .int 0, .int 0, .ref (a 12), .ref (a 13), .ref (a 14), .int 0, .int 0, .int 0])), ((a 1), .inr (2, [.ref (a 2), .int 8, .int 0, .int 0, .int 0, .long 0, .long 0, .ref (a 15)])), ((a 2), .inl (cy 0, 1024, .inl (upd (upd (upd (upd f9 4 (vp_nar .byte (((b9 >>> (24 &&& 31))).toInt8.toInt32))) 5 (vp_nar .byte (((b9 >>> (16 &&& 31))).toInt8.toInt32))) 6 (vp_nar .byte (((b9 >>> (8 &&& 31))).toInt8.toInt32))) 7 (vp_nar .byte (((b9 >>> (0 &&& 31))).toInt8.toInt32)))))] H := hP
  have hD : va_D A [((a 0), .inr (10, [.ref (a 3), .ref (a 4), .ref (a 5), .ref (a 6), .ref (a 7), .ref (a 8), .ref (a 1), .ref (a 9), .ref (a 10), .ref (a 11), .int 0, .int 0, .int 0, .int 0, .ref (a 12), .ref (a 13), .ref (a 14), .int 0, .int 0, .int 0])), ((a 1), .inr (2, [.ref (a 2), .int 8, .int 0, .int 0, .int 0, .long 0, .long 0, .ref (a 15)])), ((a 2), .inl (cy 0, 1024, .inl (upd (upd (upd (upd f9 4 (vp_nar .byte (((b9 >>> (24 &&& 31))).toInt8.toInt32))) 5 (vp_nar .byte (((b9 >>> (16 &&& 31))).toInt8.toInt32))) 6 (vp_nar .byte (((b9 >>> (8 &&& 31))).toInt8.toInt32))) 7 (vp_nar .byte (((b9 >>> (0 &&& 31))).toInt8.toInt32)))))] := hD
  refine lv_aload_n hx hb dX11_feed_39 rfl (lv_at hl 0 rfl) ?_
  refine va_get (D := (dC, dI)) (ci := 10) (v := .ref (a 1)) (C := RX11) (T := TX11) (N := 20) hx hb hts in_k_X11_feed_X11 hown hK hP 0 rfl rfl 6 (by decide) (hts _ (List.mem_cons_of_mem _ (List.mem_append_left _ (List.mem_append_left _ (List.mem_of_getElem? (i := 0) rfl))))) (fun _ h9 => h9) rfl dX11_feed_40 ?_
  refine lv_iload_n hx hb dX11_feed_43 rfl (lv_at hl 3 rfl) ?_
  obtain ⟨f9, hf9⟩ : ∃ z : Nat → Int32, z = (upd (upd (upd (upd f9 4 (vp_nar .byte (((b9 >>> (24 &&& 31))).toInt8.toInt32))) 5 (vp_nar .byte (((b9 >>> (16 &&& 31))).toInt8.toInt32))) 6 (vp_nar .byte (((b9 >>> (8 &&& 31))).toInt8.toInt32))) 7 (vp_nar .byte (((b9 >>> (0 &&& 31))).toInt8.toInt32))) := ⟨_, rfl⟩
  rw [← hf9] at hP hD
  have hP : va_P (dC, dI) nCl [((a 0), .inr (10, [.ref (a 3), .ref (a 4), .ref (a 5), .ref (a 6), .ref (a 7), .ref (a 8), .ref (a 1), .ref (a 9), .ref (a 10), .ref (a 11), .int 0, .int 0, .int 0, .int 0, .ref (a 12), .ref (a 13), .ref (a 14), .int 0, .int 0, .int 0])), ((a 1), .inr (2, [.ref (a 2), .int 8, .int 0, .int 0, .int 0, .long 0, .long 0, .ref (a 15)])), ((a 2), .inl (cy 0, 1024, .inl f9))] H := hP
  have hD : va_D A [((a 0), .inr (10, [.ref (a 3), .ref (a 4), .ref (a 5), .ref (a 6), .ref (a 7), .ref (a 8), .ref (a 1), .ref (a 9), .ref (a 10), .ref (a 11), .int 0, .int 0, .int 0, .int 0, .ref (a 12), .ref (a 13), .ref (a 14), .int 0, .int 0, .int 0])), ((a 1), .inr (2, [.ref (a 2), .int 8, .int 0, .int 0, .int 0, .long 0, .long 0, .ref (a 15)])), ((a 2), .inl (cy 0, 1024, .inl f9))] := hD
  have hPc := hP.sub (ws' := [((a 1), .inr (2, [.ref (a 2), .int 8, .int 0, .int 0, .int 0, .long 0, .long 0, .ref (a 15)])), ((a 2), .inl (cy 0, 1024, .inl f9))]) [1, 2] rfl
  have hPc : va_P (dC, dI) nCl (v0_k_X2_append_3 cy (fun j9 => [(a 1), (a 2), (a 15)].getD j9 0) c9 f9) H := hPc
  have hDc := hD.sub (ws' := [((a 1), .inr (2, [.ref (a 2), .int 8, .int 0, .int 0, .int 0, .long 0, .long 0, .ref (a 15)])), ((a 2), .inl (cy 0, 1024, .inl f9))]) [1, 2] (by decide) rfl
  have hDc : va_D A (v0_k_X2_append_3 cy (fun j9 => [(a 1), (a 2), (a 15)].getD j9 0) c9 f9) := hDc
  have hFc := va_free (wc := (v0_k_X2_append_3 cy (fun j9 => [(a 1), (a 2), (a 15)].getD j9 0) c9 f9)) hD hS hA [1, 2] rfl
  refine va_callv (va_runV (As := [.int c9]) (rest := []) ⟨hx, hb, hml, hown, hts⟩ (k_X2_append_3 l dC dI cy k (fun j9 => [(a 1), (a 2), (a 15)].getD j9 0) c9 f9 H.size) (cwV 1 hts g_k_X11_feed_123_k_X2_append_3 rfl rfl rfl (by decide +kernel) ⟨Nat.le_of_ble_eq_true rfl, Nat.le_of_ble_eq_true rfl⟩) ⟨nb_blindE, va_recv hK hPc (ci := 2) (q0 := 0) rfl rfl, fun U hU hW => ⟨rfl, ⟨by rw [hU], by rw [hU]; exact hPc, va_K.moved hW.alike hK, hDc.weaken (fun _ _ _ _ => trivial), hG.warm hW⟩, nE.to hE hS hW hU hFc⟩⟩ rfl rfl hl.1 rfl (lv_room (Nat.le_of_ble_eq_true rfl)) dX11_feed_44 ⟨Nat.le_of_ble_eq_true rfl, Nat.le_of_ble_eq_true rfl⟩) hS (fun q _ h => hFc q h) hFc (fun u3 t H1 locs ht hvm hw hB hz1 hk1 hS => ?_)
  obtain ⟨hP1, hK1, hD1⟩ := hB
  rw [ht] at hP1
  obtain ⟨hP, hD⟩ := va_join (wr := [((a 0), .inr (10, [.ref (a 3), .ref (a 4), .ref (a 5), .ref (a 6), .ref (a 7), .ref (a 8), .ref (a 1), .ref (a 9), .ref (a 10), .ref (a 11), .int 0, .int 0, .int 0, .int 0, .ref (a 12), .ref (a 13), .ref (a 14), .int 0, .int 0, .int 0]))]) (w1 := v1_k_X2_append_3 cy (fun j9 => [(a 1), (a 2), (a 15)].getD j9 0) c9 f9 u3) hP hD [1, 2] [0] rfl rfl (by decide) (by decide) hk1 hFc hP1 hD1
  generalize H1 = H at hP hS ⊢
  have hP : va_P (dC, dI) nCl [((a 0), .inr (10, [.ref (a 3), .ref (a 4), .ref (a 5), .ref (a 6), .ref (a 7), .ref (a 8), .ref (a 1), .ref (a 9), .ref (a 10), .ref (a 11), .int 0, .int 0, .int 0, .int 0, .ref (a 12), .ref (a 13), .ref (a 14), .int 0, .int 0, .int 0])), ((a 1), .inr (2, [.ref (a 2), .int 12, .int 0, .int 0, .int 0, .long 0, .long 0, .ref (a 15)])), ((a 2), .inl (cy 0, 1024, .inl (upd (upd (upd (upd f9 8 (vp_nar .byte (((c9 >>> (24 &&& 31))).toInt8.toInt32))) 9 (vp_nar .byte (((c9 >>> (16 &&& 31))).toInt8.toInt32))) 10 (vp_nar .byte (((c9 >>> (8 &&& 31))).toInt8.toInt32))) 11 (vp_nar .byte (((c9 >>> (0 &&& 31))).toInt8.toInt32)))))] H := hP
  have hD : va_D A [((a 0), .inr (10, [.ref (a 3), .ref (a 4), .ref (a 5), .ref (a 6), .ref (a 7), .ref (a 8), .ref (a 1), .ref (a 9), .ref (a 10), .ref (a 11), .int 0, .int 0, .int 0, .int 0, .ref (a 12), .ref (a 13), .ref (a 14), .int 0, .int 0, .int 0])), ((a 1), .inr (2, [.ref (a 2), .int 12, .int 0, .int 0, .int 0, .long 0, .long 0, .ref (a 15)])), ((a 2), .inl (cy 0, 1024, .inl (upd (upd (upd (upd f9 8 (vp_nar .byte (((c9 >>> (24 &&& 31))).toInt8.toInt32))) 9 (vp_nar .byte (((c9 >>> (16 &&& 31))).toInt8.toInt32))) 10 (vp_nar .byte (((c9 >>> (8 &&& 31))).toInt8.toInt32))) 11 (vp_nar .byte (((c9 >>> (0 &&& 31))).toInt8.toInt32)))))] := hD
  refine lv_aload_n hx hb dX11_feed_47 rfl (lv_at hl 0 rfl) ?_
  refine va_get (D := (dC, dI)) (ci := 10) (v := .ref (a 1)) (C := RX11) (T := TX11) (N := 20) hx hb hts in_k_X11_feed_X11 hown hK hP 0 rfl rfl 6 (by decide) (hts _ (List.mem_cons_of_mem _ (List.mem_append_left _ (List.mem_append_left _ (List.mem_of_getElem? (i := 0) rfl))))) (fun _ h9 => h9) rfl dX11_feed_48 ?_
  refine lv_iload hx hb dX11_feed_51 (lv_at hl 4 rfl) ?_
  obtain ⟨f9, hf9⟩ : ∃ z : Nat → Int32, z = (upd (upd (upd (upd f9 8 (vp_nar .byte (((c9 >>> (24 &&& 31))).toInt8.toInt32))) 9 (vp_nar .byte (((c9 >>> (16 &&& 31))).toInt8.toInt32))) 10 (vp_nar .byte (((c9 >>> (8 &&& 31))).toInt8.toInt32))) 11 (vp_nar .byte (((c9 >>> (0 &&& 31))).toInt8.toInt32))) := ⟨_, rfl⟩
  rw [← hf9] at hP hD
  have hP : va_P (dC, dI) nCl [((a 0), .inr (10, [.ref (a 3), .ref (a 4), .ref (a 5), .ref (a 6), .ref (a 7), .ref (a 8), .ref (a 1), .ref (a 9), .ref (a 10), .ref (a 11), .int 0, .int 0, .int 0, .int 0, .ref (a 12), .ref (a 13), .ref (a 14), .int 0, .int 0, .int 0])), ((a 1), .inr (2, [.ref (a 2), .int 12, .int 0, .int 0, .int 0, .long 0, .long 0, .ref (a 15)])), ((a 2), .inl (cy 0, 1024, .inl f9))] H := hP
  have hD : va_D A [((a 0), .inr (10, [.ref (a 3), .ref (a 4), .ref (a 5), .ref (a 6), .ref (a 7), .ref (a 8), .ref (a 1), .ref (a 9), .ref (a 10), .ref (a 11), .int 0, .int 0, .int 0, .int 0, .ref (a 12), .ref (a 13), .ref (a 14), .int 0, .int 0, .int 0])), ((a 1), .inr (2, [.ref (a 2), .int 12, .int 0, .int 0, .int 0, .long 0, .long 0, .ref (a 15)])), ((a 2), .inl (cy 0, 1024, .inl f9))] := hD
  have hPc := hP.sub (ws' := [((a 1), .inr (2, [.ref (a 2), .int 12, .int 0, .int 0, .int 0, .long 0, .long 0, .ref (a 15)])), ((a 2), .inl (cy 0, 1024, .inl f9))]) [1, 2] rfl
  have hPc : va_P (dC, dI) nCl (v0_k_X2_append_4 cy (fun j9 => [(a 1), (a 2), (a 15)].getD j9 0) d9 f9) H := hPc
  have hDc := hD.sub (ws' := [((a 1), .inr (2, [.ref (a 2), .int 12, .int 0, .int 0, .int 0, .long 0, .long 0, .ref (a 15)])), ((a 2), .inl (cy 0, 1024, .inl f9))]) [1, 2] (by decide) rfl
  have hDc : va_D A (v0_k_X2_append_4 cy (fun j9 => [(a 1), (a 2), (a 15)].getD j9 0) d9 f9) := hDc
  have hFc := va_free (wc := (v0_k_X2_append_4 cy (fun j9 => [(a 1), (a 2), (a 15)].getD j9 0) d9 f9)) hD hS hA [1, 2] rfl
  refine va_callv (va_runV (As := [.int d9]) (rest := []) ⟨hx, hb, hml, hown, hts⟩ (k_X2_append_4 l dC dI cy k (fun j9 => [(a 1), (a 2), (a 15)].getD j9 0) d9 f9 H.size) (cwV 1 hts g_k_X11_feed_123_k_X2_append_4 rfl rfl rfl (by decide +kernel) ⟨Nat.le_of_ble_eq_true rfl, Nat.le_of_ble_eq_true rfl⟩) ⟨nb_blindE, va_recv hK hPc (ci := 2) (q0 := 0) rfl rfl, fun U hU hW => ⟨rfl, ⟨by rw [hU], by rw [hU]; exact hPc, va_K.moved hW.alike hK, hDc.weaken (fun _ _ _ _ => trivial), hG.warm hW⟩, nE.to hE hS hW hU hFc⟩⟩ rfl rfl hl.1 rfl (lv_room (Nat.le_of_ble_eq_true rfl)) dX11_feed_53 ⟨Nat.le_of_ble_eq_true rfl, Nat.le_of_ble_eq_true rfl⟩) hS (fun q _ h => hFc q h) hFc (fun u4 t H1 locs ht hvm hw hB hz1 hk1 hS => ?_)
  obtain ⟨hP1, hK1, hD1⟩ := hB
  rw [ht] at hP1
  obtain ⟨hP, hD⟩ := va_join (wr := [((a 0), .inr (10, [.ref (a 3), .ref (a 4), .ref (a 5), .ref (a 6), .ref (a 7), .ref (a 8), .ref (a 1), .ref (a 9), .ref (a 10), .ref (a 11), .int 0, .int 0, .int 0, .int 0, .ref (a 12), .ref (a 13), .ref (a 14), .int 0, .int 0, .int 0]))]) (w1 := v1_k_X2_append_4 cy (fun j9 => [(a 1), (a 2), (a 15)].getD j9 0) d9 f9 u4) hP hD [1, 2] [0] rfl rfl (by decide) (by decide) hk1 hFc hP1 hD1
  generalize H1 = H at hP hS ⊢
  have hP : va_P (dC, dI) nCl [((a 0), .inr (10, [.ref (a 3), .ref (a 4), .ref (a 5), .ref (a 6), .ref (a 7), .ref (a 8), .ref (a 1), .ref (a 9), .ref (a 10), .ref (a 11), .int 0, .int 0, .int 0, .int 0, .ref (a 12), .ref (a 13), .ref (a 14), .int 0, .int 0, .int 0])), ((a 1), .inr (2, [.ref (a 2), .int 16, .int 0, .int 0, .int 0, .long 0, .long 0, .ref (a 15)])), ((a 2), .inl (cy 0, 1024, .inl (upd (upd (upd (upd f9 12 (vp_nar .byte (((d9 >>> (24 &&& 31))).toInt8.toInt32))) 13 (vp_nar .byte (((d9 >>> (16 &&& 31))).toInt8.toInt32))) 14 (vp_nar .byte (((d9 >>> (8 &&& 31))).toInt8.toInt32))) 15 (vp_nar .byte (((d9 >>> (0 &&& 31))).toInt8.toInt32)))))] H := hP
  have hD : va_D A [((a 0), .inr (10, [.ref (a 3), .ref (a 4), .ref (a 5), .ref (a 6), .ref (a 7), .ref (a 8), .ref (a 1), .ref (a 9), .ref (a 10), .ref (a 11), .int 0, .int 0, .int 0, .int 0, .ref (a 12), .ref (a 13), .ref (a 14), .int 0, .int 0, .int 0])), ((a 1), .inr (2, [.ref (a 2), .int 16, .int 0, .int 0, .int 0, .long 0, .long 0, .ref (a 15)])), ((a 2), .inl (cy 0, 1024, .inl (upd (upd (upd (upd f9 12 (vp_nar .byte (((d9 >>> (24 &&& 31))).toInt8.toInt32))) 13 (vp_nar .byte (((d9 >>> (16 &&& 31))).toInt8.toInt32))) 14 (vp_nar .byte (((d9 >>> (8 &&& 31))).toInt8.toInt32))) 15 (vp_nar .byte (((d9 >>> (0 &&& 31))).toInt8.toInt32)))))] := hD
  refine lv_aload_n hx hb dX11_feed_56 rfl (lv_at hl 0 rfl) ?_
  refine va_get (D := (dC, dI)) (ci := 10) (v := .ref (a 1)) (C := RX11) (T := TX11) (N := 20) hx hb hts in_k_X11_feed_X11 hown hK hP 0 rfl rfl 6 (by decide) (hts _ (List.mem_cons_of_mem _ (List.mem_append_left _ (List.mem_append_left _ (List.mem_of_getElem? (i := 0) rfl))))) (fun _ h9 => h9) rfl dX11_feed_57 ?_
  refine lv_iload hx hb dX11_feed_60 (lv_at hl 5 rfl) ?_
  obtain ⟨f9, hf9⟩ : ∃ z : Nat → Int32, z = (upd (upd (upd (upd f9 12 (vp_nar .byte (((d9 >>> (24 &&& 31))).toInt8.toInt32))) 13 (vp_nar .byte (((d9 >>> (16 &&& 31))).toInt8.toInt32))) 14 (vp_nar .byte (((d9 >>> (8 &&& 31))).toInt8.toInt32))) 15 (vp_nar .byte (((d9 >>> (0 &&& 31))).toInt8.toInt32))) := ⟨_, rfl⟩
  rw [← hf9] at hP hD
  have hP : va_P (dC, dI) nCl [((a 0), .inr (10, [.ref (a 3), .ref (a 4), .ref (a 5), .ref (a 6), .ref (a 7), .ref (a 8), .ref (a 1), .ref (a 9), .ref (a 10), .ref (a 11), .int 0, .int 0, .int 0, .int 0, .ref (a 12), .ref (a 13), .ref (a 14), .int 0, .int 0, .int 0])), ((a 1), .inr (2, [.ref (a 2), .int 16, .int 0, .int 0, .int 0, .long 0, .long 0, .ref (a 15)])), ((a 2), .inl (cy 0, 1024, .inl f9))] H := hP
  have hD : va_D A [((a 0), .inr (10, [.ref (a 3), .ref (a 4), .ref (a 5), .ref (a 6), .ref (a 7), .ref (a 8), .ref (a 1), .ref (a 9), .ref (a 10), .ref (a 11), .int 0, .int 0, .int 0, .int 0, .ref (a 12), .ref (a 13), .ref (a 14), .int 0, .int 0, .int 0])), ((a 1), .inr (2, [.ref (a 2), .int 16, .int 0, .int 0, .int 0, .long 0, .long 0, .ref (a 15)])), ((a 2), .inl (cy 0, 1024, .inl f9))] := hD
  have hPc := hP.sub (ws' := [((a 1), .inr (2, [.ref (a 2), .int 16, .int 0, .int 0, .int 0, .long 0, .long 0, .ref (a 15)])), ((a 2), .inl (cy 0, 1024, .inl f9))]) [1, 2] rfl
  have hPc : va_P (dC, dI) nCl (v0_k_X2_append_5 cy (fun j9 => [(a 1), (a 2), (a 15)].getD j9 0) e9 f9) H := hPc
  have hDc := hD.sub (ws' := [((a 1), .inr (2, [.ref (a 2), .int 16, .int 0, .int 0, .int 0, .long 0, .long 0, .ref (a 15)])), ((a 2), .inl (cy 0, 1024, .inl f9))]) [1, 2] (by decide) rfl
  have hDc : va_D A (v0_k_X2_append_5 cy (fun j9 => [(a 1), (a 2), (a 15)].getD j9 0) e9 f9) := hDc
  have hFc := va_free (wc := (v0_k_X2_append_5 cy (fun j9 => [(a 1), (a 2), (a 15)].getD j9 0) e9 f9)) hD hS hA [1, 2] rfl
  refine va_callv (va_runV (As := [.int e9]) (rest := []) ⟨hx, hb, hml, hown, hts⟩ (k_X2_append_5 l dC dI cy k (fun j9 => [(a 1), (a 2), (a 15)].getD j9 0) e9 f9 H.size) (cwV 1 hts g_k_X11_feed_123_k_X2_append_5 rfl rfl rfl (by decide +kernel) ⟨Nat.le_of_ble_eq_true rfl, Nat.le_of_ble_eq_true rfl⟩) ⟨nb_blindE, va_recv hK hPc (ci := 2) (q0 := 0) rfl rfl, fun U hU hW => ⟨rfl, ⟨by rw [hU], by rw [hU]; exact hPc, va_K.moved hW.alike hK, hDc.weaken (fun _ _ _ _ => trivial), hG.warm hW⟩, nE.to hE hS hW hU hFc⟩⟩ rfl rfl hl.1 rfl (lv_room (Nat.le_of_ble_eq_true rfl)) dX11_feed_62 ⟨Nat.le_of_ble_eq_true rfl, Nat.le_of_ble_eq_true rfl⟩) hS (fun q _ h => hFc q h) hFc (fun u5 t H1 locs ht hvm hw hB hz1 hk1 hS => ?_)
  obtain ⟨hP1, hK1, hD1⟩ := hB
  rw [ht] at hP1
  obtain ⟨hP, hD⟩ := va_join (wr := [((a 0), .inr (10, [.ref (a 3), .ref (a 4), .ref (a 5), .ref (a 6), .ref (a 7), .ref (a 8), .ref (a 1), .ref (a 9), .ref (a 10), .ref (a 11), .int 0, .int 0, .int 0, .int 0, .ref (a 12), .ref (a 13), .ref (a 14), .int 0, .int 0, .int 0]))]) (w1 := v1_k_X2_append_5 cy (fun j9 => [(a 1), (a 2), (a 15)].getD j9 0) e9 f9 u5) hP hD [1, 2] [0] rfl rfl (by decide) (by decide) hk1 hFc hP1 hD1
  generalize H1 = H at hP hS ⊢
  have hP : va_P (dC, dI) nCl [((a 0), .inr (10, [.ref (a 3), .ref (a 4), .ref (a 5), .ref (a 6), .ref (a 7), .ref (a 8), .ref (a 1), .ref (a 9), .ref (a 10), .ref (a 11), .int 0, .int 0, .int 0, .int 0, .ref (a 12), .ref (a 13), .ref (a 14), .int 0, .int 0, .int 0])), ((a 1), .inr (2, [.ref (a 2), .int 20, .int 0, .int 0, .int 0, .long 0, .long 0, .ref (a 15)])), ((a 2), .inl (cy 0, 1024, .inl (upd (upd (upd (upd f9 16 (vp_nar .byte (((e9 >>> (24 &&& 31))).toInt8.toInt32))) 17 (vp_nar .byte (((e9 >>> (16 &&& 31))).toInt8.toInt32))) 18 (vp_nar .byte (((e9 >>> (8 &&& 31))).toInt8.toInt32))) 19 (vp_nar .byte (((e9 >>> (0 &&& 31))).toInt8.toInt32)))))] H := hP
  have hD : va_D A [((a 0), .inr (10, [.ref (a 3), .ref (a 4), .ref (a 5), .ref (a 6), .ref (a 7), .ref (a 8), .ref (a 1), .ref (a 9), .ref (a 10), .ref (a 11), .int 0, .int 0, .int 0, .int 0, .ref (a 12), .ref (a 13), .ref (a 14), .int 0, .int 0, .int 0])), ((a 1), .inr (2, [.ref (a 2), .int 20, .int 0, .int 0, .int 0, .long 0, .long 0, .ref (a 15)])), ((a 2), .inl (cy 0, 1024, .inl (upd (upd (upd (upd f9 16 (vp_nar .byte (((e9 >>> (24 &&& 31))).toInt8.toInt32))) 17 (vp_nar .byte (((e9 >>> (16 &&& 31))).toInt8.toInt32))) 18 (vp_nar .byte (((e9 >>> (8 &&& 31))).toInt8.toInt32))) 19 (vp_nar .byte (((e9 >>> (0 &&& 31))).toInt8.toInt32)))))] := hD
  refine lv_aload_n hx hb dX11_feed_65 rfl (lv_at hl 0 rfl) ?_
  refine va_get (D := (dC, dI)) (ci := 10) (v := .ref (a 1)) (C := RX11) (T := TX11) (N := 20) hx hb hts in_k_X11_feed_X11 hown hK hP 0 rfl rfl 6 (by decide) (hts _ (List.mem_cons_of_mem _ (List.mem_append_left _ (List.mem_append_left _ (List.mem_of_getElem? (i := 0) rfl))))) (fun _ h9 => h9) rfl dX11_feed_66 ?_
  refine va_getN (D := (dC, dI)) (ci := 2) (v := .int 20) (C := RX2) (T := TX2) (N := 8) hx hb hts in_k_X11_feed_X2 hown hK hP 1 rfl rfl 1 (by decide) (va_Nw.use rfl (hG.1 _ (List.mem_of_getElem? (i := 51) rfl))) (fun _ h9 => h9) rfl dX11_feed_69 ?_
  have hP := hP.sub (ws' := []) [] rfl
  have hD := hD.sub (ws' := []) [] (by decide) rfl
  have hP : va_P (dC, dI) nCl (v1_k_X11_feed cy a a9 b9 c9 d9 e9 (fun _ => 0)) H := hP
  have hD : va_D A (v1_k_X11_feed cy a a9 b9 c9 d9 e9 (fun _ => 0)) := hD
  exact W.iret (v := 20) hx hb hr (fun t ht hW => ⟨⟨20, (fun _ => 0), rfl, rfl, by rw [ht]; exact hP, va_K.moved hW.alike hK, hD⟩, hS.F ht⟩) hS.2.2 dX11_feed_72
