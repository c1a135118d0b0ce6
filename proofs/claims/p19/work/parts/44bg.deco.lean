/-! beginText -/
def x_beginText : Nat → Nat → (Nat → Int32) → MS → Option (Int32 × MS)
  | 0, _, _, _ => none
  | k + 1, 0, L, σ => x_beginText k 1 L (upd σ.1 5 0, σ.2.1, σ.2.2)
  | k + 1, 1, L, σ => x_beginText k 2 L (upd σ.1 10 0, σ.2.1, σ.2.2)
  | k + 1, 2, L, σ => x_beginText k 3 L (upd σ.1 13 0, σ.2.1, σ.2.2)
  | k + 1, 3, L, σ => x_beginText k 4 L (upd σ.1 38 0, σ.2.1, σ.2.2)
  | k + 1, 4, L, σ => x_beginText k 5 L (upd σ.1 52 0, σ.2.1, σ.2.2)
  | k + 1, 5, L, σ => some (0, (upd σ.1 45 0, σ.2.1, σ.2.2))
  | _ + 1, _ + 6, _, _ => none
def o_x_beginText : List Cond := [.fieldLink RX12 21 "SetHouseModel" "at" "I", .fieldLink RX12 11 "SetHouseModel" "bad" "Z", .fieldLink RX12 77 "SetHouseModel" "opened" "I", .fieldLink RX12 114 "SetHouseModel" "seenNames" "I", .fieldLink RX12 256 "SetHouseModel" "rowNames" "I", .fieldLink RX12 321 "SetHouseModel" "loops" "I"]
theorem o_x_beginText_good : o_x_beginText.all goodWord = true := by decide +kernel
def p_x_beginText : List Cond := o_x_beginText ++ []
theorem p_x_beginText_good : p_x_beginText.all goodWord = true := nb_all2 o_x_beginText_good rfl
def w_x_beginText : List Cond := .code yX12_beginText cX12_beginText 1 none :: (p_x_beginText ++ fM)
theorem w_x_beginText_good : w_x_beginText.all goodWord = true := nb_allc (by decide +kernel) (nb_all2 p_x_beginText_good fM_good)
theorem in_x_beginText : ∀ w ∈ wsX120, w ∈ w_x_beginText := fun _ h => List.mem_cons_of_mem _ (List.mem_append_right _ h)
theorem hd_x_beginText : yX12_beginText.cls = RX12 ∧ yX12_beginText.cls ≠ "java/lang/invoke/MethodHandle" ∧ yX12_beginText.cls ≠ "java/lang/invoke/VarHandle" ∧ (parseMethodDescriptor yX12_beginText.desc).map (fun d => d.parameters.length) = some 0 := by decide +kernel
set_option maxHeartbeats 40000000 in
set_option maxRecDepth 100000 in
theorem c_x_beginText (l : Launch) (dC : Nat → ClassId) (dI : Nat → Nat → Nat) (cy : Nat → ClassId) (a : Nat → Nat) (k0 : Nat) (L0 : Nat → Int32) (σ0 : MS) (r0 : Int32 × MS) (h0 : x_beginText k0 0 L0 σ0 = some r0) (sz : Nat) : Met l yX12_beginText w_x_beginText ({ frames := 0, cells := 0, slots := 0, locals := 0 }) (va_Pc [.ref (a 0)] (nIn (dC, dI) cy sz (vM cy a σ0))) (va_Qv (fun _ : Unit => True) (fun _ t => nOut (dC, dI) cy (va_A (vM cy a σ0) sz) (vM cy a r0.2) t) (va_A (vM cy a σ0) sz)) 0 0 (va_A (vM cy a σ0) sz) := by
  refine Met.ofW (cc := cX12_beginText) (maxL := 1) (ret := none) (by decide) rfl ?_
  intro p e s m args below meth c s₁ B hml hv
  obtain ⟨rfl, hsz, hP, hK, hD0, hG⟩ := hv
  have hx := B.exec
  have hb := B.bytes
  have hr := B.returns
  have hts := atoms_spec (ws := w_x_beginText) B.pre
  have hown : s.vm.findClass RX12 = some m.cls := findClass_of_methodNamed B.named
  have hlocks := B.notSynchronized
  subst hsz
  have hD := hD0.self (sz := s.heap.size)
  generalize hAe : va_A (vM cy a σ0) s.heap.size = A at hD ⊢
  have hA : ∀ q : Nat, s.heap.size ≤ q → A q := fun q h => by rw [← hAe]; exact Or.inr h
  have hS : va_S A s.heap s.heap [] := va_S.rf
  have hl := lv_entry ([.ref (a 0)]) (n := 1) (Nat.le_of_ble_eq_true rfl)
  rw [lg_entry_eq]
  generalize (lg_sl ([.ref (a 0)]) ++ List.replicate (1 - (lg_sl ([.ref (a 0)])).length) Slot.unset).toArray = ls at hl ⊢
  have hl : lv_has ls 1 [(0, .ref (a 0))] := hl
  have blk : ∀ k : Nat, (bT p l e (headSpec w_x_beginText ({ frames := 0, cells := 0, slots := 0, locals := 0 })).room s m #[.ref (a 0)] below meth c dC dI cy a A (qV dC dI cy a A below #[.ref (a 0)] s) 1 (x_beginText k 0) (fun L => [(0, .ref (a 0))]) 0 (fun L => [])) ∧ (bT p l e (headSpec w_x_beginText ({ frames := 0, cells := 0, slots := 0, locals := 0 })).room s m #[.ref (a 0)] below meth c dC dI cy a A (qV dC dI cy a A below #[.ref (a 0)] s) 1 (x_beginText k 1) (fun L => [(0, .ref (a 0))]) 5 (fun L => [])) ∧ (bT p l e (headSpec w_x_beginText ({ frames := 0, cells := 0, slots := 0, locals := 0 })).room s m #[.ref (a 0)] below meth c dC dI cy a A (qV dC dI cy a A below #[.ref (a 0)] s) 1 (x_beginText k 2) (fun L => [(0, .ref (a 0))]) 10 (fun L => [])) ∧ (bT p l e (headSpec w_x_beginText ({ frames := 0, cells := 0, slots := 0, locals := 0 })).room s m #[.ref (a 0)] below meth c dC dI cy a A (qV dC dI cy a A below #[.ref (a 0)] s) 1 (x_beginText k 3) (fun L => [(0, .ref (a 0))]) 15 (fun L => [])) ∧ (bT p l e (headSpec w_x_beginText ({ frames := 0, cells := 0, slots := 0, locals := 0 })).room s m #[.ref (a 0)] below meth c dC dI cy a A (qV dC dI cy a A below #[.ref (a 0)] s) 1 (x_beginText k 4) (fun L => [(0, .ref (a 0))]) 20 (fun L => [])) ∧ (bT p l e (headSpec w_x_beginText ({ frames := 0, cells := 0, slots := 0, locals := 0 })).room s m #[.ref (a 0)] below meth c dC dI cy a A (qV dC dI cy a A below #[.ref (a 0)] s) 1 (x_beginText k 5) (fun L => [(0, .ref (a 0))]) 25 (fun L => [])) := by
    intro k
    induction k with
    | zero => exact ⟨fun L σ r h => (by cases h), fun L σ r h => (by cases h), fun L σ r h => (by cases h), fun L σ r h => (by cases h), fun L σ r h => (by cases h), fun L σ r h => (by cases h)⟩
    | succ k ih =>
      refine ⟨?_, ?_, ?_, ?_, ?_, ?_⟩
      · intro L σ r h H locs ls hP hD hS hl
        rw [x_beginText] at h
        refine lv_aload_n hx hb dX12_beginText_0 rfl (lv_at hl 0 rfl) ?_
        refine lv_iconst (v := 0) hx hb dX12_beginText_1 (by decide) ?_
        refine np_5 hx hb hts in_x_beginText hown hK hP hD hS (hts _ (List.mem_cons_of_mem _ (List.mem_append_left _ (List.mem_append_left _ (List.mem_of_getElem? (i := 0) rfl))))) dX12_beginText_2 (fun H locs hP hD hS => ?_)
        exact ih.2.1 L (upd σ.1 5 0, σ.2.1, σ.2.2) r h H locs ls hP hD hS (lv_sub hl [0] rfl)
      · intro L σ r h H locs ls hP hD hS hl
        rw [x_beginText] at h
        refine lv_aload_n hx hb dX12_beginText_5 rfl (lv_at hl 0 rfl) ?_
        refine lv_iconst (v := 0) hx hb dX12_beginText_6 (by decide) ?_
        refine np_10 hx hb hts in_x_beginText hown hK hP hD hS (hts _ (List.mem_cons_of_mem _ (List.mem_append_left _ (List.mem_append_left _ (List.mem_of_getElem? (i := 1) rfl))))) (Or.inl rfl) dX12_beginText_7 (fun H locs hP hD hS => ?_)
        exact ih.2.2.1 L (upd σ.1 10 0, σ.2.1, σ.2.2) r h H locs ls hP hD hS (lv_sub hl [0] rfl)
      · intro L σ r h H locs ls hP hD hS hl
        rw [x_beginText] at h
        refine lv_aload_n hx hb dX12_beginText_10 rfl (lv_at hl 0 rfl) ?_
        refine lv_iconst (v := 0) hx hb dX12_beginText_11 (by decide) ?_
        refine np_13 hx hb hts in_x_beginText hown hK hP hD hS (hts _ (List.mem_cons_of_mem _ (List.mem_append_left _ (List.mem_append_left _ (List.mem_of_getElem? (i := 2) rfl))))) dX12_beginText_12 (fun H locs hP hD hS => ?_)
        exact ih.2.2.2.1 L (upd σ.1 13 0, σ.2.1, σ.2.2) r h H locs ls hP hD hS (lv_sub hl [0] rfl)
      · intro L σ r h H locs ls hP hD hS hl
        rw [x_beginText] at h
        refine lv_aload_n hx hb dX12_beginText_15 rfl (lv_at hl 0 rfl) ?_
        refine lv_iconst (v := 0) hx hb dX12_beginText_16 (by decide) ?_
        refine np_38 hx hb hts in_x_beginText hown hK hP hD hS (hts _ (List.mem_cons_of_mem _ (List.mem_append_left _ (List.mem_append_left _ (List.mem_of_getElem? (i := 3) rfl))))) dX12_beginText_17 (fun H locs hP hD hS => ?_)
        exact ih.2.2.2.2.1 L (upd σ.1 38 0, σ.2.1, σ.2.2) r h H locs ls hP hD hS (lv_sub hl [0] rfl)
      · intro L σ r h H locs ls hP hD hS hl
        rw [x_beginText] at h
        refine lv_aload_n hx hb dX12_beginText_20 rfl (lv_at hl 0 rfl) ?_
        refine lv_iconst (v := 0) hx hb dX12_beginText_21 (by decide) ?_
        refine np_52 hx hb hts in_x_beginText hown hK hP hD hS (hts _ (List.mem_cons_of_mem _ (List.mem_append_left _ (List.mem_append_left _ (List.mem_of_getElem? (i := 4) rfl))))) dX12_beginText_22 (fun H locs hP hD hS => ?_)
        exact ih.2.2.2.2.2 L (upd σ.1 52 0, σ.2.1, σ.2.2) r h H locs ls hP hD hS (lv_sub hl [0] rfl)
      · intro L σ r h H locs ls hP hD hS hl
        rw [x_beginText] at h
        refine lv_aload_n hx hb dX12_beginText_25 rfl (lv_at hl 0 rfl) ?_
        refine lv_iconst (v := 0) hx hb dX12_beginText_26 (by decide) ?_
        refine np_45 hx hb hts in_x_beginText hown hK hP hD hS (hts _ (List.mem_cons_of_mem _ (List.mem_append_left _ (List.mem_append_left _ (List.mem_of_getElem? (i := 5) rfl))))) dX12_beginText_27 (fun H locs hP hD hS => ?_)
        cases h
        exact W.vret hx hb hr (fun t ht hW => ⟨⟨(), rfl, trivial, by rw [ht]; exact hP, va_K.moved hW.alike hK, hD⟩, hS.F ht⟩) hS.2.2 dX12_beginText_30
  exact (blk k0).1 L0 σ0 r0 h0 s.heap [] ls hP hD hS hl
/-! readProgram -/
def x_readProgram : Nat → Nat → (Nat → Int32) → MS → Option (Int32 × MS)
  | 0, _, _, _ => none
  | k + 1, 0, L, σ => ob (x_beginText k 0 (fun _ => 0) σ) (fun r1 => x_readProgram k 1 L (upd r1.2.1 22 1, r1.2.2.1, r1.2.2.2))
  | k + 1, 1, L, σ => x_readProgram k 2 L (upd σ.1 24 0, σ.2.1, σ.2.2)
  | k + 1, 2, L, σ => x_readProgram k 3 L (upd σ.1 25 0, σ.2.1, σ.2.2)
  | k + 1, 3, L, σ => x_readProgram k 4 L (upd σ.1 30 0, σ.2.1, σ.2.2)
  | k + 1, 4, L, σ => x_readProgram k 5 L (upd σ.1 31 0, σ.2.1, σ.2.2)
  | k + 1, 5, L, σ => x_readProgram k 6 L (upd σ.1 44 0, σ.2.1, σ.2.2)
  | k + 1, 6, L, σ => x_readProgram k 7 L (upd σ.1 37 0, σ.2.1, σ.2.2)
  | k + 1, 7, L, σ => if ¬ ((0 : Int32) < 0 ∨ 43 ≤ (0 : Int32).toNatClampNeg) then (x_readProgram k 8 L (σ.1, σ.2.1, updG σ.2.2 21 (upd (σ.2.2 21) (0 : Int32).toNatClampNeg 0))) else none
  | k + 1, 8, L, σ => x_readProgram k 9 L (upd σ.1 42 1, σ.2.1, σ.2.2)
  | k + 1, 9, L, σ => x_readProgram k 10 L (upd σ.1 43 1, σ.2.1, σ.2.2)
  | k + 1, 10, L, σ => ob (x_take k 0 (fun _ => 0) σ) (fun r1 => x_readProgram k 11 L r1.2)
  | k + 1, 11, L, σ => if ((σ.1 10)) = 0 then (ob (x_isWord k 0 (upd (fun _ => 0) 1 0) σ) (fun r2 => if r2.1 = 0 then (ob (x_isWord k 0 (upd (fun _ => 0) 1 2) r2.2) (fun r4 => if r4.1 = 0 then (ob (x_isWord k 0 (upd (fun _ => 0) 1 1) r4.2) (fun r6 => if r6.1 = 0 then (x_readProgram k 14 L r6.2) else (x_readProgram k 12 L r6.2))) else (x_readProgram k 12 L r4.2))) else (x_readProgram k 12 L r2.2))) else (x_readProgram k 14 L σ)
  | k + 1, 12, L, σ => ob (x_isWord k 0 (upd (fun _ => 0) 1 0) σ) (fun r1 => if r1.1 = 0 then (x_readProgram k 13 L r1.2) else (ob (x_declareVar k 0 (fun _ => 0) r1.2) (fun r3 => x_readProgram k 11 L r3.2)))
  | k + 1, 13, L, σ => ob (x_isWord k 0 (upd (fun _ => 0) 1 1) σ) (fun r1 => ob (x_declareCallable k 0 (upd (fun _ => 0) 1 r1.1) r1.2) (fun r2 => x_readProgram k 11 L r2.2))
  | k + 1, 14, L, σ => ob (x_block k 0 (upd (fun _ => 0) 1 ((-1))) σ) (fun r1 => x_readProgram k 15 L (upd r1.2.1 110 r1.1, r1.2.2.1, r1.2.2.2))
  | k + 1, 15, L, σ => if ((σ.1 10)) = 0 then (if ((σ.1 6)) = 0 then (x_readProgram k 16 L σ) else (ob (x_cannot k 0 (fun _ => 0) σ) (fun r3 => x_readProgram k 16 L r3.2))) else (x_readProgram k 16 L σ)
  | k + 1, 16, L, σ => some (0, σ)
  | _ + 1, _ + 17, _, _ => none
def o_x_readProgram : List Cond := [.methodLink RX12 984 yX12_beginText, .instanceMethod yX12_beginText, .selects RX12 yX12_beginText yX12_beginText, .initialized RX12, .fieldLink RX12 80 "SetHouseModel" "nodes" "I", .fieldLink RX12 105 "SetHouseModel" "pooled" "I", .fieldLink RX12 139 "SetHouseModel" "entities" "I", .fieldLink RX12 346 "SetHouseModel" "callables" "I", .fieldLink RX12 349 "SetHouseModel" "procs" "I", .fieldLink RX12 297 "SetHouseModel" "statements" "I", .fieldLink RX12 133 "SetHouseModel" "owner" "I", .fieldLink RX12 157 "SetHouseModel" "held" "[I", .fieldLink RX12 233 "SetHouseModel" "mayDraw" "Z", .fieldLink RX12 230 "SetHouseModel" "mayMake" "Z", .methodLink RX12 71 yX12_take, .instanceMethod yX12_take, .selects RX12 yX12_take yX12_take, .fieldLink RX12 11 "SetHouseModel" "bad" "Z", .methodLink RX12 74 yX12_isWord, .instanceMethod yX12_isWord, .selects RX12 yX12_isWord yX12_isWord, .methodLink RX12 356 yX12_declareVar, .instanceMethod yX12_declareVar, .selects RX12 yX12_declareVar yX12_declareVar, .methodLink RX12 987 yX12_declareCallable, .instanceMethod yX12_declareCallable, .selects RX12 yX12_declareCallable yX12_declareCallable, .methodLink RX12 336 yX12_block, .instanceMethod yX12_block, .selects RX12 yX12_block yX12_block, .fieldLink RX12 990 "SetHouseModel" "main" "I", .fieldLink RX12 35 "SetHouseModel" "tKind" "I", .methodLink RX12 68 yX12_cannot, .instanceMethod yX12_cannot, .selects RX12 yX12_cannot yX12_cannot]
theorem o_x_readProgram_good : o_x_readProgram.all goodWord = true := by decide +kernel
def p_x_readProgram : List Cond := o_x_readProgram ++ ((.code yX12_beginText cX12_beginText 1 none :: p_x_beginText) ++ ((.code yX12_take cX12_take 2 none :: p_x_take) ++ ((.code yX12_isWord cX12_isWord 2 (some .boolean) :: p_x_isWord) ++ ((.code yX12_declareVar cX12_declareVar 3 none :: p_x_declareVar) ++ ((.code yX12_declareCallable cX12_declareCallable 4 none :: p_x_declareCallable) ++ ((.code yX12_block cX12_block 5 (some .int) :: p_x_GS) ++ ((.code yX12_cannot cX12_cannot 1 none :: p_x_cannot) ++ [])))))))
theorem p_x_readProgram_good : p_x_readProgram.all goodWord = true := nb_all2 o_x_readProgram_good (nb_all2 (nb_allc (by decide +kernel) p_x_beginText_good) (nb_all2 (nb_allc (by decide +kernel) p_x_take_good) (nb_all2 (nb_allc (by decide +kernel) p_x_isWord_good) (nb_all2 (nb_allc (by decide +kernel) p_x_declareVar_good) (nb_all2 (nb_allc (by decide +kernel) p_x_declareCallable_good) (nb_all2 (nb_allc (by decide +kernel) p_x_GS_good) (nb_all2 (nb_allc (by decide +kernel) p_x_cannot_good) rfl)))))))
def w_x_readProgram : List Cond := .code yX12_readProgram cX12_readProgram 1 none :: (p_x_readProgram ++ fM)
theorem w_x_readProgram_good : w_x_readProgram.all goodWord = true := nb_allc (by decide +kernel) (nb_all2 p_x_readProgram_good fM_good)
theorem in_x_readProgram : ∀ w ∈ wsX120, w ∈ w_x_readProgram := fun _ h => List.mem_cons_of_mem _ (List.mem_append_right _ h)
theorem hd_x_readProgram : yX12_readProgram.cls = RX12 ∧ yX12_readProgram.cls ≠ "java/lang/invoke/MethodHandle" ∧ yX12_readProgram.cls ≠ "java/lang/invoke/VarHandle" ∧ (parseMethodDescriptor yX12_readProgram.desc).map (fun d => d.parameters.length) = some 0 := by decide +kernel
theorem gg_x_readProgram_beginText : GoodIn w_x_readProgram w_x_beginText := goodIn_sub (fun w h => (List.mem_cons.mp h).elim (fun e => (List.mem_cons_of_mem _ (List.mem_append_left _ (List.mem_append_right _ (List.mem_append_left _ (List.mem_cons.mpr (Or.inl e))))))) (fun h => (List.mem_append.mp h).elim (fun h => (List.mem_cons_of_mem _ (List.mem_append_left _ (List.mem_append_right _ (List.mem_append_left _ (List.mem_cons_of_mem _ h)))))) (fun h => List.mem_cons_of_mem _ (List.mem_append_right _ h)))) w_x_beginText_good
theorem g_x_readProgram_beginText_984 : GoodIn w_x_readProgram (wsV RX12 984 RX12 yX12_beginText w_x_beginText) := goodIn_app (nb_g4 (List.mem_cons_of_mem _ (List.mem_append_left _ (List.mem_append_left _ (List.mem_of_getElem? (i := 0) rfl)))) (List.mem_cons_of_mem _ (List.mem_append_left _ (List.mem_append_left _ (List.mem_of_getElem? (i := 1) rfl)))) (List.mem_cons_of_mem _ (List.mem_append_left _ (List.mem_append_left _ (List.mem_of_getElem? (i := 2) rfl)))) (List.mem_cons_of_mem _ (List.mem_append_left _ (List.mem_append_left _ (List.mem_of_getElem? (i := 3) rfl)))) (by decide +kernel)) gg_x_readProgram_beginText
theorem gg_x_readProgram_block : GoodIn w_x_readProgram w_x_block := goodIn_sub (fun w h => (List.mem_cons.mp h).elim (fun e => (List.mem_cons_of_mem _ (List.mem_append_left _ (List.mem_append_right _ (List.mem_append_right _ (List.mem_append_right _ (List.mem_append_right _ (List.mem_append_right _ (List.mem_append_right _ (List.mem_append_left _ (List.mem_cons.mpr (Or.inl e)))))))))))) (fun h => (List.mem_append.mp h).elim (fun h => (List.mem_cons_of_mem _ (List.mem_append_left _ (List.mem_append_right _ (List.mem_append_right _ (List.mem_append_right _ (List.mem_append_right _ (List.mem_append_right _ (List.mem_append_right _ (List.mem_append_left _ (List.mem_cons_of_mem _ h))))))))))) (fun h => List.mem_cons_of_mem _ (List.mem_append_right _ h)))) w_x_block_good
theorem g_x_readProgram_block_336 : GoodIn w_x_readProgram (wsV RX12 336 RX12 yX12_block w_x_block) := goodIn_app (nb_g4 (List.mem_cons_of_mem _ (List.mem_append_left _ (List.mem_append_left _ (List.mem_of_getElem? (i := 27) rfl)))) (List.mem_cons_of_mem _ (List.mem_append_left _ (List.mem_append_left _ (List.mem_of_getElem? (i := 28) rfl)))) (List.mem_cons_of_mem _ (List.mem_append_left _ (List.mem_append_left _ (List.mem_of_getElem? (i := 29) rfl)))) (List.mem_cons_of_mem _ (List.mem_append_left _ (List.mem_append_left _ (List.mem_of_getElem? (i := 3) rfl)))) (by decide +kernel)) gg_x_readProgram_block
theorem gg_x_readProgram_cannot : GoodIn w_x_readProgram w_x_cannot := goodIn_sub (fun w h => (List.mem_cons.mp h).elim (fun e => (List.mem_cons_of_mem _ (List.mem_append_left _ (List.mem_append_right _ (List.mem_append_right _ (List.mem_append_right _ (List.mem_append_right _ (List.mem_append_right _ (List.mem_append_right _ (List.mem_append_right _ (List.mem_append_left _ (List.mem_cons.mpr (Or.inl e))))))))))))) (fun h => (List.mem_append.mp h).elim (fun h => (List.mem_cons_of_mem _ (List.mem_append_left _ (List.mem_append_right _ (List.mem_append_right _ (List.mem_append_right _ (List.mem_append_right _ (List.mem_append_right _ (List.mem_append_right _ (List.mem_append_right _ (List.mem_append_left _ (List.mem_cons_of_mem _ h)))))))))))) (fun h => List.mem_cons_of_mem _ (List.mem_append_right _ h)))) w_x_cannot_good
theorem g_x_readProgram_cannot_68 : GoodIn w_x_readProgram (wsV RX12 68 RX12 yX12_cannot w_x_cannot) := goodIn_app (nb_g4 (List.mem_cons_of_mem _ (List.mem_append_left _ (List.mem_append_left _ (List.mem_of_getElem? (i := 32) rfl)))) (List.mem_cons_of_mem _ (List.mem_append_left _ (List.mem_append_left _ (List.mem_of_getElem? (i := 33) rfl)))) (List.mem_cons_of_mem _ (List.mem_append_left _ (List.mem_append_left _ (List.mem_of_getElem? (i := 34) rfl)))) (List.mem_cons_of_mem _ (List.mem_append_left _ (List.mem_append_left _ (List.mem_of_getElem? (i := 3) rfl)))) (by decide +kernel)) gg_x_readProgram_cannot
theorem gg_x_readProgram_declareCallable : GoodIn w_x_readProgram w_x_declareCallable := goodIn_sub (fun w h => (List.mem_cons.mp h).elim (fun e => (List.mem_cons_of_mem _ (List.mem_append_left _ (List.mem_append_right _ (List.mem_append_right _ (List.mem_append_right _ (List.mem_append_right _ (List.mem_append_right _ (List.mem_append_left _ (List.mem_cons.mpr (Or.inl e))))))))))) (fun h => (List.mem_append.mp h).elim (fun h => (List.mem_cons_of_mem _ (List.mem_append_left _ (List.mem_append_right _ (List.mem_append_right _ (List.mem_append_right _ (List.mem_append_right _ (List.mem_append_right _ (List.mem_append_left _ (List.mem_cons_of_mem _ h)))))))))) (fun h => List.mem_cons_of_mem _ (List.mem_append_right _ h)))) w_x_declareCallable_good
theorem g_x_readProgram_declareCallable_987 : GoodIn w_x_readProgram (wsV RX12 987 RX12 yX12_declareCallable w_x_declareCallable) := goodIn_app (nb_g4 (List.mem_cons_of_mem _ (List.mem_append_left _ (List.mem_append_left _ (List.mem_of_getElem? (i := 24) rfl)))) (List.mem_cons_of_mem _ (List.mem_append_left _ (List.mem_append_left _ (List.mem_of_getElem? (i := 25) rfl)))) (List.mem_cons_of_mem _ (List.mem_append_left _ (List.mem_append_left _ (List.mem_of_getElem? (i := 26) rfl)))) (List.mem_cons_of_mem _ (List.mem_append_left _ (List.mem_append_left _ (List.mem_of_getElem? (i := 3) rfl)))) (by decide +kernel)) gg_x_readProgram_declareCallable
theorem gg_x_readProgram_declareVar : GoodIn w_x_readProgram w_x_declareVar := goodIn_sub (fun w h => (List.mem_cons.mp h).elim (fun e => (List.mem_cons_of_mem _ (List.mem_append_left _ (List.mem_append_right _ (List.mem_append_right _ (List.mem_append_right _ (List.mem_append_right _ (List.mem_append_left _ (List.mem_cons.mpr (Or.inl e)))))))))) (fun h => (List.mem_append.mp h).elim (fun h => (List.mem_cons_of_mem _ (List.mem_append_left _ (List.mem_append_right _ (List.mem_append_right _ (List.mem_append_right _ (List.mem_append_right _ (List.mem_append_left _ (List.mem_cons_of_mem _ h))))))))) (fun h => List.mem_cons_of_mem _ (List.mem_append_right _ h)))) w_x_declareVar_good
theorem g_x_readProgram_declareVar_356 : GoodIn w_x_readProgram (wsV RX12 356 RX12 yX12_declareVar w_x_declareVar) := goodIn_app (nb_g4 (List.mem_cons_of_mem _ (List.mem_append_left _ (List.mem_append_left _ (List.mem_of_getElem? (i := 21) rfl)))) (List.mem_cons_of_mem _ (List.mem_append_left _ (List.mem_append_left _ (List.mem_of_getElem? (i := 22) rfl)))) (List.mem_cons_of_mem _ (List.mem_append_left _ (List.mem_append_left _ (List.mem_of_getElem? (i := 23) rfl)))) (List.mem_cons_of_mem _ (List.mem_append_left _ (List.mem_append_left _ (List.mem_of_getElem? (i := 3) rfl)))) (by decide +kernel)) gg_x_readProgram_declareVar
theorem gg_x_readProgram_isWord : GoodIn w_x_readProgram w_x_isWord := goodIn_sub (fun w h => (List.mem_cons.mp h).elim (fun e => (List.mem_cons_of_mem _ (List.mem_append_left _ (List.mem_append_right _ (List.mem_append_right _ (List.mem_append_right _ (List.mem_append_left _ (List.mem_cons.mpr (Or.inl e))))))))) (fun h => (List.mem_append.mp h).elim (fun h => (List.mem_cons_of_mem _ (List.mem_append_left _ (List.mem_append_right _ (List.mem_append_right _ (List.mem_append_right _ (List.mem_append_left _ (List.mem_cons_of_mem _ h)))))))) (fun h => List.mem_cons_of_mem _ (List.mem_append_right _ h)))) w_x_isWord_good
theorem g_x_readProgram_isWord_74 : GoodIn w_x_readProgram (wsV RX12 74 RX12 yX12_isWord w_x_isWord) := goodIn_app (nb_g4 (List.mem_cons_of_mem _ (List.mem_append_left _ (List.mem_append_left _ (List.mem_of_getElem? (i := 18) rfl)))) (List.mem_cons_of_mem _ (List.mem_append_left _ (List.mem_append_left _ (List.mem_of_getElem? (i := 19) rfl)))) (List.mem_cons_of_mem _ (List.mem_append_left _ (List.mem_append_left _ (List.mem_of_getElem? (i := 20) rfl)))) (List.mem_cons_of_mem _ (List.mem_append_left _ (List.mem_append_left _ (List.mem_of_getElem? (i := 3) rfl)))) (by decide +kernel)) gg_x_readProgram_isWord
theorem gg_x_readProgram_take : GoodIn w_x_readProgram w_x_take := goodIn_sub (fun w h => (List.mem_cons.mp h).elim (fun e => (List.mem_cons_of_mem _ (List.mem_append_left _ (List.mem_append_right _ (List.mem_append_right _ (List.mem_append_left _ (List.mem_cons.mpr (Or.inl e)))))))) (fun h => (List.mem_append.mp h).elim (fun h => (List.mem_cons_of_mem _ (List.mem_append_left _ (List.mem_append_right _ (List.mem_append_right _ (List.mem_append_left _ (List.mem_cons_of_mem _ h))))))) (fun h => List.mem_cons_of_mem _ (List.mem_append_right _ h)))) w_x_take_good
theorem g_x_readProgram_take_71 : GoodIn w_x_readProgram (wsV RX12 71 RX12 yX12_take w_x_take) := goodIn_app (nb_g4 (List.mem_cons_of_mem _ (List.mem_append_left _ (List.mem_append_left _ (List.mem_of_getElem? (i := 14) rfl)))) (List.mem_cons_of_mem _ (List.mem_append_left _ (List.mem_append_left _ (List.mem_of_getElem? (i := 15) rfl)))) (List.mem_cons_of_mem _ (List.mem_append_left _ (List.mem_append_left _ (List.mem_of_getElem? (i := 16) rfl)))) (List.mem_cons_of_mem _ (List.mem_append_left _ (List.mem_append_left _ (List.mem_of_getElem? (i := 3) rfl)))) (by decide +kernel)) gg_x_readProgram_take
set_option maxHeartbeats 40000000 in
set_option maxRecDepth 100000 in
theorem c_x_readProgram (l : Launch) (dC : Nat → ClassId) (dI : Nat → Nat → Nat) (cy : Nat → ClassId) (a : Nat → Nat) (k0 : Nat) (L0 : Nat → Int32) (σ0 : MS) (r0 : Int32 × MS) (h0 : x_readProgram k0 0 L0 σ0 = some r0) (sz : Nat) : Met l yX12_readProgram w_x_readProgram ({ frames := 430, cells := 0, slots := 0, locals := 12753 }) (va_Pc [.ref (a 0)] (nIn (dC, dI) cy sz (vM cy a σ0))) (va_Qv (fun _ : Unit => True) (fun _ t => nOut (dC, dI) cy (va_A (vM cy a σ0) sz) (vM cy a r0.2) t) (va_A (vM cy a σ0) sz)) 0 0 (va_A (vM cy a σ0) sz) := by
  refine Met.ofW (cc := cX12_readProgram) (maxL := 1) (ret := none) (by decide) rfl ?_
  intro p e s m args below meth c s₁ B hml hv
  obtain ⟨rfl, hsz, hP, hK, hD0, hG⟩ := hv
  have hx := B.exec
  have hb := B.bytes
  have hr := B.returns
  have hts := atoms_spec (ws := w_x_readProgram) B.pre
  have hown : s.vm.findClass RX12 = some m.cls := findClass_of_methodNamed B.named
  have hlocks := B.notSynchronized
  subst hsz
  have hD := hD0.self (sz := s.heap.size)
  generalize hAe : va_A (vM cy a σ0) s.heap.size = A at hD ⊢
  have hA : ∀ q : Nat, s.heap.size ≤ q → A q := fun q h => by rw [← hAe]; exact Or.inr h
  have hS : va_S A s.heap s.heap [] := va_S.rf
  have hl := lv_entry ([.ref (a 0)]) (n := 1) (Nat.le_of_ble_eq_true rfl)
  rw [lg_entry_eq]
  generalize (lg_sl ([.ref (a 0)]) ++ List.replicate (1 - (lg_sl ([.ref (a 0)])).length) Slot.unset).toArray = ls at hl ⊢
  have hl : lv_has ls 1 [(0, .ref (a 0))] := hl
  have blk : ∀ k : Nat, (bT p l e (headSpec w_x_readProgram ({ frames := 430, cells := 0, slots := 0, locals := 12753 })).room s m #[.ref (a 0)] below meth c dC dI cy a A (qV dC dI cy a A below #[.ref (a 0)] s) 1 (x_readProgram k 0) (fun L => [(0, .ref (a 0))]) 0 (fun L => [])) ∧ (bT p l e (headSpec w_x_readProgram ({ frames := 430, cells := 0, slots := 0, locals := 12753 })).room s m #[.ref (a 0)] below meth c dC dI cy a A (qV dC dI cy a A below #[.ref (a 0)] s) 1 (x_readProgram k 1) (fun L => [(0, .ref (a 0))]) 9 (fun L => [])) ∧ (bT p l e (headSpec w_x_readProgram ({ frames := 430, cells := 0, slots := 0, locals := 12753 })).room s m #[.ref (a 0)] below meth c dC dI cy a A (qV dC dI cy a A below #[.ref (a 0)] s) 1 (x_readProgram k 2) (fun L => [(0, .ref (a 0))]) 14 (fun L => [])) ∧ (bT p l e (headSpec w_x_readProgram ({ frames := 430, cells := 0, slots := 0, locals := 12753 })).room s m #[.ref (a 0)] below meth c dC dI cy a A (qV dC dI cy a A below #[.ref (a 0)] s) 1 (x_readProgram k 3) (fun L => [(0, .ref (a 0))]) 19 (fun L => [])) ∧ (bT p l e (headSpec w_x_readProgram ({ frames := 430, cells := 0, slots := 0, locals := 12753 })).room s m #[.ref (a 0)] below meth c dC dI cy a A (qV dC dI cy a A below #[.ref (a 0)] s) 1 (x_readProgram k 4) (fun L => [(0, .ref (a 0))]) 24 (fun L => [])) ∧ (bT p l e (headSpec w_x_readProgram ({ frames := 430, cells := 0, slots := 0, locals := 12753 })).room s m #[.ref (a 0)] below meth c dC dI cy a A (qV dC dI cy a A below #[.ref (a 0)] s) 1 (x_readProgram k 5) (fun L => [(0, .ref (a 0))]) 29 (fun L => [])) ∧ (bT p l e (headSpec w_x_readProgram ({ frames := 430, cells := 0, slots := 0, locals := 12753 })).room s m #[.ref (a 0)] below meth c dC dI cy a A (qV dC dI cy a A below #[.ref (a 0)] s) 1 (x_readProgram k 6) (fun L => [(0, .ref (a 0))]) 34 (fun L => [])) ∧ (bT p l e (headSpec w_x_readProgram ({ frames := 430, cells := 0, slots := 0, locals := 12753 })).room s m #[.ref (a 0)] below meth c dC dI cy a A (qV dC dI cy a A below #[.ref (a 0)] s) 1 (x_readProgram k 7) (fun L => [(0, .ref (a 0))]) 39 (fun L => [])) ∧ (bT p l e (headSpec w_x_readProgram ({ frames := 430, cells := 0, slots := 0, locals := 12753 })).room s m #[.ref (a 0)] below meth c dC dI cy a A (qV dC dI cy a A below #[.ref (a 0)] s) 1 (x_readProgram k 8) (fun L => [(0, .ref (a 0))]) 46 (fun L => [])) ∧ (bT p l e (headSpec w_x_readProgram ({ frames := 430, cells := 0, slots := 0, locals := 12753 })).room s m #[.ref (a 0)] below meth c dC dI cy a A (qV dC dI cy a A below #[.ref (a 0)] s) 1 (x_readProgram k 9) (fun L => [(0, .ref (a 0))]) 51 (fun L => [])) ∧ (bT p l e (headSpec w_x_readProgram ({ frames := 430, cells := 0, slots := 0, locals := 12753 })).room s m #[.ref (a 0)] below meth c dC dI cy a A (qV dC dI cy a A below #[.ref (a 0)] s) 1 (x_readProgram k 10) (fun L => [(0, .ref (a 0))]) 56 (fun L => [])) ∧ (bT p l e (headSpec w_x_readProgram ({ frames := 430, cells := 0, slots := 0, locals := 12753 })).room s m #[.ref (a 0)] below meth c dC dI cy a A (qV dC dI cy a A below #[.ref (a 0)] s) 1 (x_readProgram k 11) (fun L => [(0, .ref (a 0))]) 60 (fun L => [])) ∧ (bT p l e (headSpec w_x_readProgram ({ frames := 430, cells := 0, slots := 0, locals := 12753 })).room s m #[.ref (a 0)] below meth c dC dI cy a A (qV dC dI cy a A below #[.ref (a 0)] s) 1 (x_readProgram k 12) (fun L => [(0, .ref (a 0))]) 91 (fun L => [])) ∧ (bT p l e (headSpec w_x_readProgram ({ frames := 430, cells := 0, slots := 0, locals := 12753 })).room s m #[.ref (a 0)] below meth c dC dI cy a A (qV dC dI cy a A below #[.ref (a 0)] s) 1 (x_readProgram k 13) (fun L => [(0, .ref (a 0))]) 106 (fun L => [])) ∧ (bT p l e (headSpec w_x_readProgram ({ frames := 430, cells := 0, slots := 0, locals := 12753 })).room s m #[.ref (a 0)] below meth c dC dI cy a A (qV dC dI cy a A below #[.ref (a 0)] s) 1 (x_readProgram k 14) (fun L => [(0, .ref (a 0))]) 118 (fun L => [])) ∧ (bT p l e (headSpec w_x_readProgram ({ frames := 430, cells := 0, slots := 0, locals := 12753 })).room s m #[.ref (a 0)] below meth c dC dI cy a A (qV dC dI cy a A below #[.ref (a 0)] s) 1 (x_readProgram k 15) (fun L => [(0, .ref (a 0))]) 127 (fun L => [])) ∧ (bT p l e (headSpec w_x_readProgram ({ frames := 430, cells := 0, slots := 0, locals := 12753 })).room s m #[.ref (a 0)] below meth c dC dI cy a A (qV dC dI cy a A below #[.ref (a 0)] s) 1 (x_readProgram k 16) (fun L => [(0, .ref (a 0))]) 145 (fun L => [])) := by
    intro k
    induction k with
    | zero => exact ⟨fun L σ r h => (by cases h), fun L σ r h => (by cases h), fun L σ r h => (by cases h), fun L σ r h => (by cases h), fun L σ r h => (by cases h), fun L σ r h => (by cases h), fun L σ r h => (by cases h), fun L σ r h => (by cases h), fun L σ r h => (by cases h), fun L σ r h => (by cases h), fun L σ r h => (by cases h), fun L σ r h => (by cases h), fun L σ r h => (by cases h), fun L σ r h => (by cases h), fun L σ r h => (by cases h), fun L σ r h => (by cases h), fun L σ r h => (by cases h)⟩
    | succ k ih =>
      refine ⟨?_, ?_, ?_, ?_, ?_, ?_, ?_, ?_, ?_, ?_, ?_, ?_, ?_, ?_, ?_, ?_, ?_⟩
      · intro L σ r h H locs ls hP hD hS hl
        rw [x_readProgram] at h
        refine lv_aload_n hx hb dX12_readProgram_0 rfl (lv_at hl 0 rfl) ?_
        obtain ⟨r1, hc1, h⟩ := ob_ex h
        refine nc_Vv (As := []) (rest := []) ⟨hx, hb, hml, hown, hts⟩ (c_x_beginText l dC dI cy a k (fun _ => 0) σ r1 hc1 H.size) (cwV 0 hts g_x_readProgram_beginText_984 rfl rfl rfl hd_x_beginText ⟨Nat.le_of_ble_eq_true rfl, Nat.le_of_ble_eq_true rfl⟩) hK hG hA hP hD hS rfl hl.1 rfl (Nat.le_of_ble_eq_true rfl) dX12_readProgram_1 ⟨Nat.le_refl _, Nat.le_refl _⟩ (fun H locs hP hD hS => ?_)
        refine lv_aload_n hx hb dX12_readProgram_4 rfl (lv_at hl 0 rfl) ?_
        refine lv_iconst (v := 1) hx hb dX12_readProgram_5 (by decide) ?_
        refine np_22 hx hb hts in_x_readProgram hown hK hP hD hS (hts _ (List.mem_cons_of_mem _ (List.mem_append_left _ (List.mem_append_left _ (List.mem_of_getElem? (i := 4) rfl))))) dX12_readProgram_6 (fun H locs hP hD hS => ?_)
        exact ih.2.1 L (upd r1.2.1 22 1, r1.2.2.1, r1.2.2.2) r h H locs ls hP hD hS (lv_sub hl [0] rfl)
      · intro L σ r h H locs ls hP hD hS hl
        rw [x_readProgram] at h
        refine lv_aload_n hx hb dX12_readProgram_9 rfl (lv_at hl 0 rfl) ?_
        refine lv_iconst (v := 0) hx hb dX12_readProgram_10 (by decide) ?_
        refine np_24 hx hb hts in_x_readProgram hown hK hP hD hS (hts _ (List.mem_cons_of_mem _ (List.mem_append_left _ (List.mem_append_left _ (List.mem_of_getElem? (i := 5) rfl))))) dX12_readProgram_11 (fun H locs hP hD hS => ?_)
        exact ih.2.2.1 L (upd σ.1 24 0, σ.2.1, σ.2.2) r h H locs ls hP hD hS (lv_sub hl [0] rfl)
      · intro L σ r h H locs ls hP hD hS hl
        rw [x_readProgram] at h
        refine lv_aload_n hx hb dX12_readProgram_14 rfl (lv_at hl 0 rfl) ?_
        refine lv_iconst (v := 0) hx hb dX12_readProgram_15 (by decide) ?_
        refine np_25 hx hb hts in_x_readProgram hown hK hP hD hS (hts _ (List.mem_cons_of_mem _ (List.mem_append_left _ (List.mem_append_left _ (List.mem_of_getElem? (i := 6) rfl))))) dX12_readProgram_16 (fun H locs hP hD hS => ?_)
        exact ih.2.2.2.1 L (upd σ.1 25 0, σ.2.1, σ.2.2) r h H locs ls hP hD hS (lv_sub hl [0] rfl)
      · intro L σ r h H locs ls hP hD hS hl
        rw [x_readProgram] at h
        refine lv_aload_n hx hb dX12_readProgram_19 rfl (lv_at hl 0 rfl) ?_
        refine lv_iconst (v := 0) hx hb dX12_readProgram_20 (by decide) ?_
        refine np_30 hx hb hts in_x_readProgram hown hK hP hD hS (hts _ (List.mem_cons_of_mem _ (List.mem_append_left _ (List.mem_append_left _ (List.mem_of_getElem? (i := 7) rfl))))) dX12_readProgram_21 (fun H locs hP hD hS => ?_)
        exact ih.2.2.2.2.1 L (upd σ.1 30 0, σ.2.1, σ.2.2) r h H locs ls hP hD hS (lv_sub hl [0] rfl)
      · intro L σ r h H locs ls hP hD hS hl
        rw [x_readProgram] at h
        refine lv_aload_n hx hb dX12_readProgram_24 rfl (lv_at hl 0 rfl) ?_
        refine lv_iconst (v := 0) hx hb dX12_readProgram_25 (by decide) ?_
        refine np_31 hx hb hts in_x_readProgram hown hK hP hD hS (hts _ (List.mem_cons_of_mem _ (List.mem_append_left _ (List.mem_append_left _ (List.mem_of_getElem? (i := 8) rfl))))) dX12_readProgram_26 (fun H locs hP hD hS => ?_)
        exact ih.2.2.2.2.2.1 L (upd σ.1 31 0, σ.2.1, σ.2.2) r h H locs ls hP hD hS (lv_sub hl [0] rfl)
      · intro L σ r h H locs ls hP hD hS hl
        rw [x_readProgram] at h
        refine lv_aload_n hx hb dX12_readProgram_29 rfl (lv_at hl 0 rfl) ?_
        refine lv_iconst (v := 0) hx hb dX12_readProgram_30 (by decide) ?_
        refine np_44 hx hb hts in_x_readProgram hown hK hP hD hS (hts _ (List.mem_cons_of_mem _ (List.mem_append_left _ (List.mem_append_left _ (List.mem_of_getElem? (i := 9) rfl))))) dX12_readProgram_31 (fun H locs hP hD hS => ?_)
        exact ih.2.2.2.2.2.2.1 L (upd σ.1 44 0, σ.2.1, σ.2.2) r h H locs ls hP hD hS (lv_sub hl [0] rfl)
      · intro L σ r h H locs ls hP hD hS hl
        rw [x_readProgram] at h
        refine lv_aload_n hx hb dX12_readProgram_34 rfl (lv_at hl 0 rfl) ?_
        refine lv_iconst (v := 0) hx hb dX12_readProgram_35 (by decide) ?_
        refine np_37 hx hb hts in_x_readProgram hown hK hP hD hS (hts _ (List.mem_cons_of_mem _ (List.mem_append_left _ (List.mem_append_left _ (List.mem_of_getElem? (i := 10) rfl))))) dX12_readProgram_36 (fun H locs hP hD hS => ?_)
        exact ih.2.2.2.2.2.2.2.1 L (upd σ.1 37 0, σ.2.1, σ.2.2) r h H locs ls hP hD hS (lv_sub hl [0] rfl)
      · intro L σ r h H locs ls hP hD hS hl
        rw [x_readProgram] at h
        refine lv_aload_n hx hb dX12_readProgram_39 rfl (lv_at hl 0 rfl) ?_
        refine ng_36 hx hb hts in_x_readProgram hown hK hP (hts _ (List.mem_cons_of_mem _ (List.mem_append_left _ (List.mem_append_left _ (List.mem_of_getElem? (i := 11) rfl))))) dX12_readProgram_40 ?_
        refine lv_iconst (v := 0) hx hb dX12_readProgram_43 (by decide) ?_
        refine lv_iconst (v := 0) hx hb dX12_readProgram_44 (by decide) ?_
        obtain ⟨q1, h⟩ := nb_ite1 h
        refine ns_21 hx hb hK hP hD hS q1 dX12_readProgram_45 (fun H locs hP hD hS => ?_)
        exact ih.2.2.2.2.2.2.2.2.1 L (σ.1, σ.2.1, updG σ.2.2 21 (upd (σ.2.2 21) (0 : Int32).toNatClampNeg 0)) r h H locs ls hP hD hS (lv_sub hl [0] rfl)
      · intro L σ r h H locs ls hP hD hS hl
        rw [x_readProgram] at h
        refine lv_aload_n hx hb dX12_readProgram_46 rfl (lv_at hl 0 rfl) ?_
        refine lv_iconst (v := 1) hx hb dX12_readProgram_47 (by decide) ?_
        refine np_42 hx hb hts in_x_readProgram hown hK hP hD hS (hts _ (List.mem_cons_of_mem _ (List.mem_append_left _ (List.mem_append_left _ (List.mem_of_getElem? (i := 12) rfl))))) (Or.inr rfl) dX12_readProgram_48 (fun H locs hP hD hS => ?_)
        exact ih.2.2.2.2.2.2.2.2.2.1 L (upd σ.1 42 1, σ.2.1, σ.2.2) r h H locs ls hP hD hS (lv_sub hl [0] rfl)
      · intro L σ r h H locs ls hP hD hS hl
        rw [x_readProgram] at h
        refine lv_aload_n hx hb dX12_readProgram_51 rfl (lv_at hl 0 rfl) ?_
        refine lv_iconst (v := 1) hx hb dX12_readProgram_52 (by decide) ?_
        refine np_43 hx hb hts in_x_readProgram hown hK hP hD hS (hts _ (List.mem_cons_of_mem _ (List.mem_append_left _ (List.mem_append_left _ (List.mem_of_getElem? (i := 13) rfl))))) (Or.inr rfl) dX12_readProgram_53 (fun H locs hP hD hS => ?_)
        exact ih.2.2.2.2.2.2.2.2.2.2.1 L (upd σ.1 43 1, σ.2.1, σ.2.2) r h H locs ls hP hD hS (lv_sub hl [0] rfl)
      · intro L σ r h H locs ls hP hD hS hl
        rw [x_readProgram] at h
        refine lv_aload_n hx hb dX12_readProgram_56 rfl (lv_at hl 0 rfl) ?_
        obtain ⟨r1, hc1, h⟩ := ob_ex h
        refine nc_Vv (As := []) (rest := []) ⟨hx, hb, hml, hown, hts⟩ (c_x_take l dC dI cy a k (fun _ => 0) σ r1 hc1 H.size) (cwV 0 hts g_x_readProgram_take_71 rfl rfl rfl hd_x_take ⟨Nat.le_of_ble_eq_true rfl, Nat.le_of_ble_eq_true rfl⟩) hK hG hA hP hD hS rfl hl.1 rfl (Nat.le_of_ble_eq_true rfl) dX12_readProgram_57 ⟨Nat.le_refl _, Nat.le_refl _⟩ (fun H locs hP hD hS => ?_)
        exact ih.2.2.2.2.2.2.2.2.2.2.2.1 L r1.2 r h H locs ls hP hD hS (lv_sub hl [0] rfl)
      · intro L σ r h H locs ls hP hD hS hl
        rw [x_readProgram] at h
        refine lv_aload_n hx hb dX12_readProgram_60 rfl (lv_at hl 0 rfl) ?_
        refine ng_10 hx hb hts in_x_readProgram hown hK hP (hts _ (List.mem_cons_of_mem _ (List.mem_append_left _ (List.mem_append_left _ (List.mem_of_getElem? (i := 17) rfl))))) dX12_readProgram_61 ?_
        refine lv_if_ne (tgt := 118) hx hb dX12_readProgram_64 (by decide) (fun c1 => ?_) (fun c1 => ?_)
        · rw [if_neg c1] at h
          exact ih.2.2.2.2.2.2.2.2.2.2.2.2.2.2.1 L σ r h H locs ls hP hD hS (lv_sub hl [0] rfl)
        · rw [if_pos c1] at h
          refine lv_aload_n hx hb dX12_readProgram_67 rfl (lv_at hl 0 rfl) ?_
          refine lv_iconst (v := 0) hx hb dX12_readProgram_68 (by decide) ?_
          obtain ⟨r2, hc2, h⟩ := ob_ex h
          refine nc_Vi (As := [.int 0]) (rest := []) ⟨hx, hb, hml, hown, hts⟩ (c_x_isWord l dC dI cy a k (upd (fun _ => 0) 1 0) σ r2 hc2 H.size) (cwV 1 hts g_x_readProgram_isWord_74 rfl rfl rfl hd_x_isWord ⟨Nat.le_of_ble_eq_true rfl, Nat.le_of_ble_eq_true rfl⟩) hK hG hA hP hD hS rfl hl.1 rfl (Nat.le_of_ble_eq_true rfl) dX12_readProgram_69 ⟨Nat.le_refl _, Nat.le_refl _⟩ (fun H locs hP hD hS => ?_)
          refine lv_if_ne (tgt := 91) hx hb dX12_readProgram_72 (by decide) (fun c3 => ?_) (fun c3 => ?_)
          · rw [if_neg c3] at h
            exact ih.2.2.2.2.2.2.2.2.2.2.2.2.1 L r2.2 r h H locs ls hP hD hS (lv_sub hl [0] rfl)
          · rw [if_pos c3] at h
            refine lv_aload_n hx hb dX12_readProgram_75 rfl (lv_at hl 0 rfl) ?_
            refine lv_iconst (v := 2) hx hb dX12_readProgram_76 (by decide) ?_
            obtain ⟨r4, hc4, h⟩ := ob_ex h
            refine nc_Vi (As := [.int 2]) (rest := []) ⟨hx, hb, hml, hown, hts⟩ (c_x_isWord l dC dI cy a k (upd (fun _ => 0) 1 2) r2.2 r4 hc4 H.size) (cwV 1 hts g_x_readProgram_isWord_74 rfl rfl rfl hd_x_isWord ⟨Nat.le_of_ble_eq_true rfl, Nat.le_of_ble_eq_true rfl⟩) hK hG hA hP hD hS rfl hl.1 rfl (Nat.le_of_ble_eq_true rfl) dX12_readProgram_77 ⟨Nat.le_refl _, Nat.le_refl _⟩ (fun H locs hP hD hS => ?_)
            refine lv_if_ne (tgt := 91) hx hb dX12_readProgram_80 (by decide) (fun c5 => ?_) (fun c5 => ?_)
            · rw [if_neg c5] at h
              exact ih.2.2.2.2.2.2.2.2.2.2.2.2.1 L r4.2 r h H locs ls hP hD hS (lv_sub hl [0] rfl)
            · rw [if_pos c5] at h
              refine lv_aload_n hx hb dX12_readProgram_83 rfl (lv_at hl 0 rfl) ?_
              refine lv_iconst (v := 1) hx hb dX12_readProgram_84 (by decide) ?_
              obtain ⟨r6, hc6, h⟩ := ob_ex h
              refine nc_Vi (As := [.int 1]) (rest := []) ⟨hx, hb, hml, hown, hts⟩ (c_x_isWord l dC dI cy a k (upd (fun _ => 0) 1 1) r4.2 r6 hc6 H.size) (cwV 1 hts g_x_readProgram_isWord_74 rfl rfl rfl hd_x_isWord ⟨Nat.le_of_ble_eq_true rfl, Nat.le_of_ble_eq_true rfl⟩) hK hG hA hP hD hS rfl hl.1 rfl (Nat.le_of_ble_eq_true rfl) dX12_readProgram_85 ⟨Nat.le_refl _, Nat.le_refl _⟩ (fun H locs hP hD hS => ?_)
              refine lv_if_eq (tgt := 118) hx hb dX12_readProgram_88 (by decide) (fun c7 => ?_) (fun c7 => ?_)
              · rw [if_pos c7] at h
                exact ih.2.2.2.2.2.2.2.2.2.2.2.2.2.2.1 L r6.2 r h H locs ls hP hD hS (lv_sub hl [0] rfl)
              · rw [if_neg c7] at h
                exact ih.2.2.2.2.2.2.2.2.2.2.2.2.1 L r6.2 r h H locs ls hP hD hS (lv_sub hl [0] rfl)
      · intro L σ r h H locs ls hP hD hS hl
        rw [x_readProgram] at h
        refine lv_aload_n hx hb dX12_readProgram_91 rfl (lv_at hl 0 rfl) ?_
        refine lv_iconst (v := 0) hx hb dX12_readProgram_92 (by decide) ?_
        obtain ⟨r1, hc1, h⟩ := ob_ex h
        refine nc_Vi (As := [.int 0]) (rest := []) ⟨hx, hb, hml, hown, hts⟩ (c_x_isWord l dC dI cy a k (upd (fun _ => 0) 1 0) σ r1 hc1 H.size) (cwV 1 hts g_x_readProgram_isWord_74 rfl rfl rfl hd_x_isWord ⟨Nat.le_of_ble_eq_true rfl, Nat.le_of_ble_eq_true rfl⟩) hK hG hA hP hD hS rfl hl.1 rfl (Nat.le_of_ble_eq_true rfl) dX12_readProgram_93 ⟨Nat.le_refl _, Nat.le_refl _⟩ (fun H locs hP hD hS => ?_)
        refine lv_if_eq (tgt := 106) hx hb dX12_readProgram_96 (by decide) (fun c2 => ?_) (fun c2 => ?_)
        · rw [if_pos c2] at h
          exact ih.2.2.2.2.2.2.2.2.2.2.2.2.2.1 L r1.2 r h H locs ls hP hD hS (lv_sub hl [0] rfl)
        · rw [if_neg c2] at h
          refine lv_aload_n hx hb dX12_readProgram_99 rfl (lv_at hl 0 rfl) ?_
          obtain ⟨r3, hc3, h⟩ := ob_ex h
          refine nc_Vv (As := []) (rest := []) ⟨hx, hb, hml, hown, hts⟩ (c_x_declareVar l dC dI cy a k (fun _ => 0) r1.2 r3 hc3 H.size) (cwV 0 hts g_x_readProgram_declareVar_356 rfl rfl rfl hd_x_declareVar ⟨Nat.le_of_ble_eq_true rfl, Nat.le_of_ble_eq_true rfl⟩) hK hG hA hP hD hS rfl hl.1 rfl (Nat.le_of_ble_eq_true rfl) dX12_readProgram_100 ⟨Nat.le_refl _, Nat.le_refl _⟩ (fun H locs hP hD hS => ?_)
          refine lv_goto (tgt := 60) hx hb dX12_readProgram_103 (by decide) ?_
          exact ih.2.2.2.2.2.2.2.2.2.2.2.1 L r3.2 r h H locs ls hP hD hS (lv_sub hl [0] rfl)
      · intro L σ r h H locs ls hP hD hS hl
        rw [x_readProgram] at h
        refine lv_aload_n hx hb dX12_readProgram_106 rfl (lv_at hl 0 rfl) ?_
        refine lv_aload_n hx hb dX12_readProgram_107 rfl (lv_at hl 0 rfl) ?_
        refine lv_iconst (v := 1) hx hb dX12_readProgram_108 (by decide) ?_
        obtain ⟨r1, hc1, h⟩ := ob_ex h
        refine nc_Vi (As := [.int 1]) (rest := [.ref (a 0)]) ⟨hx, hb, hml, hown, hts⟩ (c_x_isWord l dC dI cy a k (upd (fun _ => 0) 1 1) σ r1 hc1 H.size) (cwV 1 hts g_x_readProgram_isWord_74 rfl rfl rfl hd_x_isWord ⟨Nat.le_of_ble_eq_true rfl, Nat.le_of_ble_eq_true rfl⟩) hK hG hA hP hD hS rfl hl.1 rfl (Nat.le_of_ble_eq_true rfl) dX12_readProgram_109 ⟨Nat.le_refl _, Nat.le_refl _⟩ (fun H locs hP hD hS => ?_)
        obtain ⟨r2, hc2, h⟩ := ob_ex h
        refine nc_Vv (As := [.int r1.1]) (rest := []) ⟨hx, hb, hml, hown, hts⟩ (c_x_declareCallable l dC dI cy a k (upd (fun _ => 0) 1 r1.1) r1.2 r2 hc2 H.size) (cwV 1 hts g_x_readProgram_declareCallable_987 rfl rfl rfl hd_x_declareCallable ⟨Nat.le_of_ble_eq_true rfl, Nat.le_of_ble_eq_true rfl⟩) hK hG hA hP hD hS rfl hl.1 rfl (Nat.le_of_ble_eq_true rfl) dX12_readProgram_112 ⟨Nat.le_refl _, Nat.le_refl _⟩ (fun H locs hP hD hS => ?_)
        refine lv_goto (tgt := 60) hx hb dX12_readProgram_115 (by decide) ?_
        exact ih.2.2.2.2.2.2.2.2.2.2.2.1 L r2.2 r h H locs ls hP hD hS (lv_sub hl [0] rfl)
      · intro L σ r h H locs ls hP hD hS hl
        rw [x_readProgram] at h
        refine lv_aload_n hx hb dX12_readProgram_118 rfl (lv_at hl 0 rfl) ?_
        refine lv_aload_n hx hb dX12_readProgram_119 rfl (lv_at hl 0 rfl) ?_
        refine lv_iconst (v := (-1)) hx hb dX12_readProgram_120 (by decide) ?_
        obtain ⟨r1, hc1, h⟩ := ob_ex h
        refine nc_Vi (As := [.int (-1)]) (rest := [.ref (a 0)]) ⟨hx, hb, hml, hown, hts⟩ (c_x_block l dC dI cy a k (upd (fun _ => 0) 1 ((-1))) σ r1 hc1 H.size) (cwV 1 hts g_x_readProgram_block_336 rfl rfl rfl hd_x_block ⟨Nat.le_of_ble_eq_true rfl, Nat.le_of_ble_eq_true rfl⟩) hK hG hA hP hD hS rfl hl.1 rfl (Nat.le_of_ble_eq_true rfl) dX12_readProgram_121 ⟨Nat.le_refl _, Nat.le_refl _⟩ (fun H locs hP hD hS => ?_)
        refine np_110 hx hb hts in_x_readProgram hown hK hP hD hS (hts _ (List.mem_cons_of_mem _ (List.mem_append_left _ (List.mem_append_left _ (List.mem_of_getElem? (i := 30) rfl))))) dX12_readProgram_124 (fun H locs hP hD hS => ?_)
        exact ih.2.2.2.2.2.2.2.2.2.2.2.2.2.2.2.1 L (upd r1.2.1 110 r1.1, r1.2.2.1, r1.2.2.2) r h H locs ls hP hD hS (lv_sub hl [0] rfl)
      · intro L σ r h H locs ls hP hD hS hl
        rw [x_readProgram] at h
        refine lv_aload_n hx hb dX12_readProgram_127 rfl (lv_at hl 0 rfl) ?_
        refine ng_10 hx hb hts in_x_readProgram hown hK hP (hts _ (List.mem_cons_of_mem _ (List.mem_append_left _ (List.mem_append_left _ (List.mem_of_getElem? (i := 17) rfl))))) dX12_readProgram_128 ?_
        refine lv_if_ne (tgt := 145) hx hb dX12_readProgram_131 (by decide) (fun c1 => ?_) (fun c1 => ?_)
        · rw [if_neg c1] at h
          exact ih.2.2.2.2.2.2.2.2.2.2.2.2.2.2.2.2 L σ r h H locs ls hP hD hS (lv_sub hl [0] rfl)
        · rw [if_pos c1] at h
          refine lv_aload_n hx hb dX12_readProgram_134 rfl (lv_at hl 0 rfl) ?_
          refine ng_6 hx hb hts in_x_readProgram hown hK hP (hts _ (List.mem_cons_of_mem _ (List.mem_append_left _ (List.mem_append_left _ (List.mem_of_getElem? (i := 31) rfl))))) dX12_readProgram_135 ?_
          refine lv_if_eq (tgt := 145) hx hb dX12_readProgram_138 (by decide) (fun c2 => ?_) (fun c2 => ?_)
          · rw [if_pos c2] at h
            exact ih.2.2.2.2.2.2.2.2.2.2.2.2.2.2.2.2 L σ r h H locs ls hP hD hS (lv_sub hl [0] rfl)
          · rw [if_neg c2] at h
            refine lv_aload_n hx hb dX12_readProgram_141 rfl (lv_at hl 0 rfl) ?_
            obtain ⟨r3, hc3, h⟩ := ob_ex h
            refine nc_Vv (As := []) (rest := []) ⟨hx, hb, hml, hown, hts⟩ (c_x_cannot l dC dI cy a k (fun _ => 0) σ r3 hc3 H.size) (cwV 0 hts g_x_readProgram_cannot_68 rfl rfl rfl hd_x_cannot ⟨Nat.le_of_ble_eq_true rfl, Nat.le_of_ble_eq_true rfl⟩) hK hG hA hP hD hS rfl hl.1 rfl (Nat.le_of_ble_eq_true rfl) dX12_readProgram_142 ⟨Nat.le_refl _, Nat.le_refl _⟩ (fun H locs hP hD hS => ?_)
            exact ih.2.2.2.2.2.2.2.2.2.2.2.2.2.2.2.2 L r3.2 r h H locs ls hP hD hS (lv_sub hl [0] rfl)
      · intro L σ r h H locs ls hP hD hS hl
        rw [x_readProgram] at h
        cases h
        exact W.vret hx hb hr (fun t ht hW => ⟨⟨(), rfl, trivial, by rw [ht]; exact hP, va_K.moved hW.alike hK, hD⟩, hS.F ht⟩) hS.2.2 dX12_readProgram_145
  exact (blk k0).1 L0 σ0 r0 h0 s.heap [] ls hP hD hS hl
/-! readExp -/
def x_readExp : Nat → Nat → (Nat → Int32) → MS → Option (Int32 × MS)
  | 0, _, _, _ => none
  | k + 1, 0, L, σ => ob (x_beginText k 0 (fun _ => 0) σ) (fun r1 => x_readExp k 1 L (upd r1.2.1 37 42, r1.2.2.1, r1.2.2.2))
  | k + 1, 1, L, σ => if ¬ ((42 : Int32) < 0 ∨ 43 ≤ (42 : Int32).toNatClampNeg) then (x_readExp k 2 L (σ.1, σ.2.1, updG σ.2.2 21 (upd (σ.2.2 21) (42 : Int32).toNatClampNeg 0))) else none
  | k + 1, 2, L, σ => if ((L 1)) = 0 ∨ ((L 1)) = 1 then (x_readExp k 3 L (upd σ.1 42 ((L 1)), σ.2.1, σ.2.2)) else none
  | k + 1, 3, L, σ => x_readExp k 4 L (upd σ.1 43 0, σ.2.1, σ.2.2)
  | k + 1, 4, L, σ => ob (x_take k 0 (fun _ => 0) σ) (fun r1 => ob (x_exp k 0 (fun _ => 0) r1.2) (fun r2 => if ((r2.2.1 10)) = 0 then (if ((r2.2.1 6)) = 0 then (x_readExp k 5 (upd L 2 r2.1) r2.2) else (ob (x_cannot k 0 (fun _ => 0) r2.2) (fun r5 => x_readExp k 5 (upd L 2 r2.1) r5.2))) else (x_readExp k 5 (upd L 2 r2.1) r2.2)))
  | k + 1, 5, L, σ => x_readExp k 6 L (upd σ.1 37 0, σ.2.1, σ.2.2)
  | k + 1, 6, L, σ => some ((L 2), σ)
  | _ + 1, _ + 7, _, _ => none
def o_x_readExp : List Cond := [.methodLink RX12 984 yX12_beginText, .instanceMethod yX12_beginText, .selects RX12 yX12_beginText yX12_beginText, .initialized RX12, .fieldLink RX12 133 "SetHouseModel" "owner" "I", .fieldLink RX12 157 "SetHouseModel" "held" "[I", .fieldLink RX12 233 "SetHouseModel" "mayDraw" "Z", .fieldLink RX12 230 "SetHouseModel" "mayMake" "Z", .methodLink RX12 71 yX12_take, .instanceMethod yX12_take, .selects RX12 yX12_take yX12_take, .methodLink RX12 209 yX12_exp, .instanceMethod yX12_exp, .selects RX12 yX12_exp yX12_exp, .fieldLink RX12 11 "SetHouseModel" "bad" "Z", .fieldLink RX12 35 "SetHouseModel" "tKind" "I", .methodLink RX12 68 yX12_cannot, .instanceMethod yX12_cannot, .selects RX12 yX12_cannot yX12_cannot]
theorem o_x_readExp_good : o_x_readExp.all goodWord = true := by decide +kernel
def p_x_readExp : List Cond := o_x_readExp ++ ((.code yX12_beginText cX12_beginText 1 none :: p_x_beginText) ++ ((.code yX12_take cX12_take 2 none :: p_x_take) ++ ((.code yX12_exp cX12_exp 2 (some .int) :: p_x_GE) ++ ((.code yX12_cannot cX12_cannot 1 none :: p_x_cannot) ++ []))))
theorem p_x_readExp_good : p_x_readExp.all goodWord = true := nb_all2 o_x_readExp_good (nb_all2 (nb_allc (by decide +kernel) p_x_beginText_good) (nb_all2 (nb_allc (by decide +kernel) p_x_take_good) (nb_all2 (nb_allc (by decide +kernel) p_x_GE_good) (nb_all2 (nb_allc (by decide +kernel) p_x_cannot_good) rfl))))
def w_x_readExp : List Cond := .code yX12_readExp cX12_readExp 3 (some .int) :: (p_x_readExp ++ fM)
theorem w_x_readExp_good : w_x_readExp.all goodWord = true := nb_allc (by decide +kernel) (nb_all2 p_x_readExp_good fM_good)
theorem in_x_readExp : ∀ w ∈ wsX120, w ∈ w_x_readExp := fun _ h => List.mem_cons_of_mem _ (List.mem_append_right _ h)
theorem hd_x_readExp : yX12_readExp.cls = RX12 ∧ yX12_readExp.cls ≠ "java/lang/invoke/MethodHandle" ∧ yX12_readExp.cls ≠ "java/lang/invoke/VarHandle" ∧ (parseMethodDescriptor yX12_readExp.desc).map (fun d => d.parameters.length) = some 1 := by decide +kernel
theorem gg_x_readExp_beginText : GoodIn w_x_readExp w_x_beginText := goodIn_sub (fun w h => (List.mem_cons.mp h).elim (fun e => (List.mem_cons_of_mem _ (List.mem_append_left _ (List.mem_append_right _ (List.mem_append_left _ (List.mem_cons.mpr (Or.inl e))))))) (fun h => (List.mem_append.mp h).elim (fun h => (List.mem_cons_of_mem _ (List.mem_append_left _ (List.mem_append_right _ (List.mem_append_left _ (List.mem_cons_of_mem _ h)))))) (fun h => List.mem_cons_of_mem _ (List.mem_append_right _ h)))) w_x_beginText_good
theorem g_x_readExp_beginText_984 : GoodIn w_x_readExp (wsV RX12 984 RX12 yX12_beginText w_x_beginText) := goodIn_app (nb_g4 (List.mem_cons_of_mem _ (List.mem_append_left _ (List.mem_append_left _ (List.mem_of_getElem? (i := 0) rfl)))) (List.mem_cons_of_mem _ (List.mem_append_left _ (List.mem_append_left _ (List.mem_of_getElem? (i := 1) rfl)))) (List.mem_cons_of_mem _ (List.mem_append_left _ (List.mem_append_left _ (List.mem_of_getElem? (i := 2) rfl)))) (List.mem_cons_of_mem _ (List.mem_append_left _ (List.mem_append_left _ (List.mem_of_getElem? (i := 3) rfl)))) (by decide +kernel)) gg_x_readExp_beginText
theorem gg_x_readExp_cannot : GoodIn w_x_readExp w_x_cannot := goodIn_sub (fun w h => (List.mem_cons.mp h).elim (fun e => (List.mem_cons_of_mem _ (List.mem_append_left _ (List.mem_append_right _ (List.mem_append_right _ (List.mem_append_right _ (List.mem_append_right _ (List.mem_append_left _ (List.mem_cons.mpr (Or.inl e)))))))))) (fun h => (List.mem_append.mp h).elim (fun h => (List.mem_cons_of_mem _ (List.mem_append_left _ (List.mem_append_right _ (List.mem_append_right _ (List.mem_append_right _ (List.mem_append_right _ (List.mem_append_left _ (List.mem_cons_of_mem _ h))))))))) (fun h => List.mem_cons_of_mem _ (List.mem_append_right _ h)))) w_x_cannot_good
theorem g_x_readExp_cannot_68 : GoodIn w_x_readExp (wsV RX12 68 RX12 yX12_cannot w_x_cannot) := goodIn_app (nb_g4 (List.mem_cons_of_mem _ (List.mem_append_left _ (List.mem_append_left _ (List.mem_of_getElem? (i := 16) rfl)))) (List.mem_cons_of_mem _ (List.mem_append_left _ (List.mem_append_left _ (List.mem_of_getElem? (i := 17) rfl)))) (List.mem_cons_of_mem _ (List.mem_append_left _ (List.mem_append_left _ (List.mem_of_getElem? (i := 18) rfl)))) (List.mem_cons_of_mem _ (List.mem_append_left _ (List.mem_append_left _ (List.mem_of_getElem? (i := 3) rfl)))) (by decide +kernel)) gg_x_readExp_cannot
theorem gg_x_readExp_exp : GoodIn w_x_readExp w_x_exp := goodIn_sub (fun w h => (List.mem_cons.mp h).elim (fun e => (List.mem_cons_of_mem _ (List.mem_append_left _ (List.mem_append_right _ (List.mem_append_right _ (List.mem_append_right _ (List.mem_append_left _ (List.mem_cons.mpr (Or.inl e))))))))) (fun h => (List.mem_append.mp h).elim (fun h => (List.mem_cons_of_mem _ (List.mem_append_left _ (List.mem_append_right _ (List.mem_append_right _ (List.mem_append_right _ (List.mem_append_left _ (List.mem_cons_of_mem _ h)))))))) (fun h => List.mem_cons_of_mem _ (List.mem_append_right _ h)))) w_x_exp_good
theorem g_x_readExp_exp_209 : GoodIn w_x_readExp (wsV RX12 209 RX12 yX12_exp w_x_exp) := goodIn_app (nb_g4 (List.mem_cons_of_mem _ (List.mem_append_left _ (List.mem_append_left _ (List.mem_of_getElem? (i := 11) rfl)))) (List.mem_cons_of_mem _ (List.mem_append_left _ (List.mem_append_left _ (List.mem_of_getElem? (i := 12) rfl)))) (List.mem_cons_of_mem _ (List.mem_append_left _ (List.mem_append_left _ (List.mem_of_getElem? (i := 13) rfl)))) (List.mem_cons_of_mem _ (List.mem_append_left _ (List.mem_append_left _ (List.mem_of_getElem? (i := 3) rfl)))) (by decide +kernel)) gg_x_readExp_exp
theorem gg_x_readExp_take : GoodIn w_x_readExp w_x_take := goodIn_sub (fun w h => (List.mem_cons.mp h).elim (fun e => (List.mem_cons_of_mem _ (List.mem_append_left _ (List.mem_append_right _ (List.mem_append_right _ (List.mem_append_left _ (List.mem_cons.mpr (Or.inl e)))))))) (fun h => (List.mem_append.mp h).elim (fun h => (List.mem_cons_of_mem _ (List.mem_append_left _ (List.mem_append_right _ (List.mem_append_right _ (List.mem_append_left _ (List.mem_cons_of_mem _ h))))))) (fun h => List.mem_cons_of_mem _ (List.mem_append_right _ h)))) w_x_take_good
theorem g_x_readExp_take_71 : GoodIn w_x_readExp (wsV RX12 71 RX12 yX12_take w_x_take) := goodIn_app (nb_g4 (List.mem_cons_of_mem _ (List.mem_append_left _ (List.mem_append_left _ (List.mem_of_getElem? (i := 8) rfl)))) (List.mem_cons_of_mem _ (List.mem_append_left _ (List.mem_append_left _ (List.mem_of_getElem? (i := 9) rfl)))) (List.mem_cons_of_mem _ (List.mem_append_left _ (List.mem_append_left _ (List.mem_of_getElem? (i := 10) rfl)))) (List.mem_cons_of_mem _ (List.mem_append_left _ (List.mem_append_left _ (List.mem_of_getElem? (i := 3) rfl)))) (by decide +kernel)) gg_x_readExp_take
set_option maxHeartbeats 40000000 in
set_option maxRecDepth 100000 in
theorem c_x_readExp (l : Launch) (dC : Nat → ClassId) (dI : Nat → Nat → Nat) (cy : Nat → ClassId) (a : Nat → Nat) (k0 : Nat) (L0 : Nat → Int32) (σ0 : MS) (r0 : Int32 × MS) (h0 : x_readExp k0 0 L0 σ0 = some r0) (sz : Nat) : Met l yX12_readExp w_x_readExp ({ frames := 326, cells := 0, slots := 0, locals := 10054 }) (va_Pc [.ref (a 0), .int (L0 1)] (nIn (dC, dI) cy sz (vM cy a σ0))) (va_Qi (fun (z : Int32) (_ : Unit) => z = r0.1) (fun _ t => nOut (dC, dI) cy (va_A (vM cy a σ0) sz) (vM cy a r0.2) t) (va_A (vM cy a σ0) sz)) 0 0 (va_A (vM cy a σ0) sz) := by
  refine Met.ofW (cc := cX12_readExp) (maxL := 3) (ret := (some .int)) (by decide) rfl ?_
  intro p e s m args below meth c s₁ B hml hv
  obtain ⟨rfl, hsz, hP, hK, hD0, hG⟩ := hv
  have hx := B.exec
  have hb := B.bytes
  have hr := B.returns
  have hts := atoms_spec (ws := w_x_readExp) B.pre
  have hown : s.vm.findClass RX12 = some m.cls := findClass_of_methodNamed B.named
  have hlocks := B.notSynchronized
  subst hsz
  have hD := hD0.self (sz := s.heap.size)
  generalize hAe : va_A (vM cy a σ0) s.heap.size = A at hD ⊢
  have hA : ∀ q : Nat, s.heap.size ≤ q → A q := fun q h => by rw [← hAe]; exact Or.inr h
  have hS : va_S A s.heap s.heap [] := va_S.rf
  have hl := lv_entry ([.ref (a 0), .int (L0 1)]) (n := 3) (Nat.le_of_ble_eq_true rfl)
  rw [lg_entry_eq]
  generalize (lg_sl ([.ref (a 0), .int (L0 1)]) ++ List.replicate (3 - (lg_sl ([.ref (a 0), .int (L0 1)])).length) Slot.unset).toArray = ls at hl ⊢
  have hl : lv_has ls 3 [(0, .ref (a 0)), (1, .int (L0 1))] := hl
  have blk : ∀ k : Nat, (bT p l e (headSpec w_x_readExp ({ frames := 326, cells := 0, slots := 0, locals := 10054 })).room s m #[.ref (a 0), .int (L0 1)] below meth c dC dI cy a A (qI dC dI cy a A below #[.ref (a 0), .int (L0 1)] s) 3 (x_readExp k 0) (fun L => [(0, .ref (a 0)), (1, .int (L 1))]) 0 (fun L => [])) ∧ (bT p l e (headSpec w_x_readExp ({ frames := 326, cells := 0, slots := 0, locals := 10054 })).room s m #[.ref (a 0), .int (L0 1)] below meth c dC dI cy a A (qI dC dI cy a A below #[.ref (a 0), .int (L0 1)] s) 3 (x_readExp k 1) (fun L => [(0, .ref (a 0)), (1, .int (L 1))]) 10 (fun L => [])) ∧ (bT p l e (headSpec w_x_readExp ({ frames := 326, cells := 0, slots := 0, locals := 10054 })).room s m #[.ref (a 0), .int (L0 1)] below meth c dC dI cy a A (qI dC dI cy a A below #[.ref (a 0), .int (L0 1)] s) 3 (x_readExp k 2) (fun L => [(0, .ref (a 0)), (1, .int (L 1))]) 18 (fun L => [])) ∧ (bT p l e (headSpec w_x_readExp ({ frames := 326, cells := 0, slots := 0, locals := 10054 })).room s m #[.ref (a 0), .int (L0 1)] below meth c dC dI cy a A (qI dC dI cy a A below #[.ref (a 0), .int (L0 1)] s) 3 (x_readExp k 3) (fun L => [(0, .ref (a 0)), (1, .int (L 1))]) 23 (fun L => [])) ∧ (bT p l e (headSpec w_x_readExp ({ frames := 326, cells := 0, slots := 0, locals := 10054 })).room s m #[.ref (a 0), .int (L0 1)] below meth c dC dI cy a A (qI dC dI cy a A below #[.ref (a 0), .int (L0 1)] s) 3 (x_readExp k 4) (fun L => [(0, .ref (a 0)), (1, .int (L 1))]) 28 (fun L => [])) ∧ (bT p l e (headSpec w_x_readExp ({ frames := 326, cells := 0, slots := 0, locals := 10054 })).room s m #[.ref (a 0), .int (L0 1)] below meth c dC dI cy a A (qI dC dI cy a A below #[.ref (a 0), .int (L0 1)] s) 3 (x_readExp k 5) (fun L => [(0, .ref (a 0)), (1, .int (L 1)), (2, .int (L 2))]) 55 (fun L => [])) ∧ (bT p l e (headSpec w_x_readExp ({ frames := 326, cells := 0, slots := 0, locals := 10054 })).room s m #[.ref (a 0), .int (L0 1)] below meth c dC dI cy a A (qI dC dI cy a A below #[.ref (a 0), .int (L0 1)] s) 3 (x_readExp k 6) (fun L => [(0, .ref (a 0)), (1, .int (L 1)), (2, .int (L 2))]) 60 (fun L => [])) := by
    intro k
    induction k with
    | zero => exact ⟨fun L σ r h => (by cases h), fun L σ r h => (by cases h), fun L σ r h => (by cases h), fun L σ r h => (by cases h), fun L σ r h => (by cases h), fun L σ r h => (by cases h), fun L σ r h => (by cases h)⟩
    | succ k ih =>
      refine ⟨?_, ?_, ?_, ?_, ?_, ?_, ?_⟩
      · intro L σ r h H locs ls hP hD hS hl
        rw [x_readExp] at h
        refine lv_aload_n hx hb dX12_readExp_0 rfl (lv_at hl 0 rfl) ?_
        obtain ⟨r1, hc1, h⟩ := ob_ex h
        refine nc_Vv (As := []) (rest := []) ⟨hx, hb, hml, hown, hts⟩ (c_x_beginText l dC dI cy a k (fun _ => 0) σ r1 hc1 H.size) (cwV 0 hts g_x_readExp_beginText_984 rfl rfl rfl hd_x_beginText ⟨Nat.le_of_ble_eq_true rfl, Nat.le_of_ble_eq_true rfl⟩) hK hG hA hP hD hS rfl hl.1 rfl (Nat.le_of_ble_eq_true rfl) dX12_readExp_1 ⟨Nat.le_refl _, Nat.le_refl _⟩ (fun H locs hP hD hS => ?_)
        refine lv_aload_n hx hb dX12_readExp_4 rfl (lv_at hl 0 rfl) ?_
        refine lv_bipush (v := 42) hx hb dX12_readExp_5 (by decide) ?_
        refine np_37 hx hb hts in_x_readExp hown hK hP hD hS (hts _ (List.mem_cons_of_mem _ (List.mem_append_left _ (List.mem_append_left _ (List.mem_of_getElem? (i := 4) rfl))))) dX12_readExp_7 (fun H locs hP hD hS => ?_)
        exact ih.2.1 L (upd r1.2.1 37 42, r1.2.2.1, r1.2.2.2) r h H locs ls hP hD hS (lv_sub hl [0, 1] rfl)
      · intro L σ r h H locs ls hP hD hS hl
        rw [x_readExp] at h
        refine lv_aload_n hx hb dX12_readExp_10 rfl (lv_at hl 0 rfl) ?_
        refine ng_36 hx hb hts in_x_readExp hown hK hP (hts _ (List.mem_cons_of_mem _ (List.mem_append_left _ (List.mem_append_left _ (List.mem_of_getElem? (i := 5) rfl))))) dX12_readExp_11 ?_
        refine lv_bipush (v := 42) hx hb dX12_readExp_14 (by decide) ?_
        refine lv_iconst (v := 0) hx hb dX12_readExp_16 (by decide) ?_
        obtain ⟨q1, h⟩ := nb_ite1 h
        refine ns_21 hx hb hK hP hD hS q1 dX12_readExp_17 (fun H locs hP hD hS => ?_)
        exact ih.2.2.1 L (σ.1, σ.2.1, updG σ.2.2 21 (upd (σ.2.2 21) (42 : Int32).toNatClampNeg 0)) r h H locs ls hP hD hS (lv_sub hl [0, 1] rfl)
      · intro L σ r h H locs ls hP hD hS hl
        rw [x_readExp] at h
        refine lv_aload_n hx hb dX12_readExp_18 rfl (lv_at hl 0 rfl) ?_
        refine lv_iload_n hx hb dX12_readExp_19 rfl (lv_at hl 1 rfl) ?_
        obtain ⟨q1, h⟩ := nb_ite1 h
        refine np_42 hx hb hts in_x_readExp hown hK hP hD hS (hts _ (List.mem_cons_of_mem _ (List.mem_append_left _ (List.mem_append_left _ (List.mem_of_getElem? (i := 6) rfl))))) q1 dX12_readExp_20 (fun H locs hP hD hS => ?_)
        exact ih.2.2.2.1 L (upd σ.1 42 ((L 1)), σ.2.1, σ.2.2) r h H locs ls hP hD hS (lv_sub hl [0, 1] rfl)
      · intro L σ r h H locs ls hP hD hS hl
        rw [x_readExp] at h
        refine lv_aload_n hx hb dX12_readExp_23 rfl (lv_at hl 0 rfl) ?_
        refine lv_iconst (v := 0) hx hb dX12_readExp_24 (by decide) ?_
        refine np_43 hx hb hts in_x_readExp hown hK hP hD hS (hts _ (List.mem_cons_of_mem _ (List.mem_append_left _ (List.mem_append_left _ (List.mem_of_getElem? (i := 7) rfl))))) (Or.inl rfl) dX12_readExp_25 (fun H locs hP hD hS => ?_)
        exact ih.2.2.2.2.1 L (upd σ.1 43 0, σ.2.1, σ.2.2) r h H locs ls hP hD hS (lv_sub hl [0, 1] rfl)
      · intro L σ r h H locs ls hP hD hS hl
        rw [x_readExp] at h
        refine lv_aload_n hx hb dX12_readExp_28 rfl (lv_at hl 0 rfl) ?_
        obtain ⟨r1, hc1, h⟩ := ob_ex h
        refine nc_Vv (As := []) (rest := []) ⟨hx, hb, hml, hown, hts⟩ (c_x_take l dC dI cy a k (fun _ => 0) σ r1 hc1 H.size) (cwV 0 hts g_x_readExp_take_71 rfl rfl rfl hd_x_take ⟨Nat.le_of_ble_eq_true rfl, Nat.le_of_ble_eq_true rfl⟩) hK hG hA hP hD hS rfl hl.1 rfl (Nat.le_of_ble_eq_true rfl) dX12_readExp_29 ⟨Nat.le_refl _, Nat.le_refl _⟩ (fun H locs hP hD hS => ?_)
        refine lv_aload_n hx hb dX12_readExp_32 rfl (lv_at hl 0 rfl) ?_
        obtain ⟨r2, hc2, h⟩ := ob_ex h
        refine nc_Vi (As := []) (rest := []) ⟨hx, hb, hml, hown, hts⟩ (c_x_exp l dC dI cy a k (fun _ => 0) r1.2 r2 hc2 H.size) (cwV 0 hts g_x_readExp_exp_209 rfl rfl rfl hd_x_exp ⟨Nat.le_of_ble_eq_true rfl, Nat.le_of_ble_eq_true rfl⟩) hK hG hA hP hD hS rfl hl.1 rfl (Nat.le_of_ble_eq_true rfl) dX12_readExp_33 ⟨Nat.le_refl _, Nat.le_refl _⟩ (fun H locs hP hD hS => ?_)
        refine lv_istore_n (lv' := [(2, .int r2.1), (0, .ref (a 0)), (1, .int (L 1))]) hx hb dX12_readExp_36 rfl hl (by decide) rfl (fun ls hl => ?_)
        refine lv_aload_n hx hb dX12_readExp_37 rfl (lv_at hl 1 rfl) ?_
        refine ng_10 hx hb hts in_x_readExp hown hK hP (hts _ (List.mem_cons_of_mem _ (List.mem_append_left _ (List.mem_append_left _ (List.mem_of_getElem? (i := 14) rfl))))) dX12_readExp_38 ?_
        refine lv_if_ne (tgt := 55) hx hb dX12_readExp_41 (by decide) (fun c3 => ?_) (fun c3 => ?_)
        · rw [if_neg c3] at h
          exact ih.2.2.2.2.2.1 (upd L 2 r2.1) r2.2 r h H locs ls hP hD hS (lv_sub hl [1, 2, 0] rfl)
        · rw [if_pos c3] at h
          refine lv_aload_n hx hb dX12_readExp_44 rfl (lv_at hl 1 rfl) ?_
          refine ng_6 hx hb hts in_x_readExp hown hK hP (hts _ (List.mem_cons_of_mem _ (List.mem_append_left _ (List.mem_append_left _ (List.mem_of_getElem? (i := 15) rfl))))) dX12_readExp_45 ?_
          refine lv_if_eq (tgt := 55) hx hb dX12_readExp_48 (by decide) (fun c4 => ?_) (fun c4 => ?_)
          · rw [if_pos c4] at h
            exact ih.2.2.2.2.2.1 (upd L 2 r2.1) r2.2 r h H locs ls hP hD hS (lv_sub hl [1, 2, 0] rfl)
          · rw [if_neg c4] at h
            refine lv_aload_n hx hb dX12_readExp_51 rfl (lv_at hl 1 rfl) ?_
            obtain ⟨r5, hc5, h⟩ := ob_ex h
            refine nc_Vv (As := []) (rest := []) ⟨hx, hb, hml, hown, hts⟩ (c_x_cannot l dC dI cy a k (fun _ => 0) r2.2 r5 hc5 H.size) (cwV 0 hts g_x_readExp_cannot_68 rfl rfl rfl hd_x_cannot ⟨Nat.le_of_ble_eq_true rfl, Nat.le_of_ble_eq_true rfl⟩) hK hG hA hP hD hS rfl hl.1 rfl (Nat.le_of_ble_eq_true rfl) dX12_readExp_52 ⟨Nat.le_refl _, Nat.le_refl _⟩ (fun H locs hP hD hS => ?_)
            exact ih.2.2.2.2.2.1 (upd L 2 r2.1) r5.2 r h H locs ls hP hD hS (lv_sub hl [1, 2, 0] rfl)
      · intro L σ r h H locs ls hP hD hS hl
        rw [x_readExp] at h
        refine lv_aload_n hx hb dX12_readExp_55 rfl (lv_at hl 0 rfl) ?_
        refine lv_iconst (v := 0) hx hb dX12_readExp_56 (by decide) ?_
        refine np_37 hx hb hts in_x_readExp hown hK hP hD hS (hts _ (List.mem_cons_of_mem _ (List.mem_append_left _ (List.mem_append_left _ (List.mem_of_getElem? (i := 4) rfl))))) dX12_readExp_57 (fun H locs hP hD hS => ?_)
        exact ih.2.2.2.2.2.2 L (upd σ.1 37 0, σ.2.1, σ.2.2) r h H locs ls hP hD hS (lv_sub hl [0, 1, 2] rfl)
      · intro L σ r h H locs ls hP hD hS hl
        rw [x_readExp] at h
        refine lv_iload_n hx hb dX12_readExp_60 rfl (lv_at hl 2 rfl) ?_
        cases h
        exact W.iret (v := (L 2)) hx hb hr (fun t ht hW => ⟨⟨(L 2), (), rfl, rfl, by rw [ht]; exact hP, va_K.moved hW.alike hK, hD⟩, hS.F ht⟩) hS.2.2 dX12_readExp_61
  exact (blk k0).1 L0 σ0 r0 h0 s.heap [] ls hP hD hS hl
/-! good -/
def x_good : Nat → Nat → (Nat → Int32) → MS → Option (Int32 × MS)
  | 0, _, _, _ => none
  | k + 1, 0, L, σ => x_good k 1 L (upd σ.1 2 ((L 1)), σ.2.1, σ.2.2)
  | k + 1, 1, L, σ => if ((L 1)) = 0 then (x_good k 3 (upd L 100 1) σ) else (x_good k 2 L σ)
  | k + 1, 2, L, σ => x_good k 3 (upd L 100 0) σ
  | k + 1, 3, L, σ => if ((L 100)) = 0 ∨ ((L 100)) = 1 then some ((L 100), σ) else none
  | _ + 1, _ + 4, _, _ => none
def o_x_good : List Cond := [.fieldLink RX12 993 "SetHouseModel" "code" "I"]
theorem o_x_good_good : o_x_good.all goodWord = true := by decide +kernel
def p_x_good : List Cond := o_x_good ++ []
theorem p_x_good_good : p_x_good.all goodWord = true := nb_all2 o_x_good_good rfl
def w_x_good : List Cond := .code yX12_good cX12_good 2 (some .boolean) :: (p_x_good ++ fM)
theorem w_x_good_good : w_x_good.all goodWord = true := nb_allc (by decide +kernel) (nb_all2 p_x_good_good fM_good)
theorem in_x_good : ∀ w ∈ wsX120, w ∈ w_x_good := fun _ h => List.mem_cons_of_mem _ (List.mem_append_right _ h)
theorem hd_x_good : yX12_good.cls = RX12 ∧ yX12_good.cls ≠ "java/lang/invoke/MethodHandle" ∧ yX12_good.cls ≠ "java/lang/invoke/VarHandle" ∧ (parseMethodDescriptor yX12_good.desc).map (fun d => d.parameters.length) = some 1 := by decide +kernel
set_option maxHeartbeats 40000000 in
set_option maxRecDepth 100000 in
theorem c_x_good (l : Launch) (dC : Nat → ClassId) (dI : Nat → Nat → Nat) (cy : Nat → ClassId) (a : Nat → Nat) (k0 : Nat) (L0 : Nat → Int32) (σ0 : MS) (r0 : Int32 × MS) (h0 : x_good k0 0 L0 σ0 = some r0) (sz : Nat) : Met l yX12_good w_x_good ({ frames := 0, cells := 0, slots := 0, locals := 0 }) (va_Pc [.ref (a 0), .int (L0 1)] (nIn (dC, dI) cy sz (vM cy a σ0))) (va_Qi (fun (z : Int32) (_ : Unit) => z = r0.1) (fun _ t => nOut (dC, dI) cy (va_A (vM cy a σ0) sz) (vM cy a r0.2) t) (va_A (vM cy a σ0) sz)) 0 0 (va_A (vM cy a σ0) sz) := by
  refine Met.ofW (cc := cX12_good) (maxL := 2) (ret := (some .boolean)) (by decide) rfl ?_
  intro p e s m args below meth c s₁ B hml hv
  obtain ⟨rfl, hsz, hP, hK, hD0, hG⟩ := hv
  have hx := B.exec
  have hb := B.bytes
  have hr := B.returns
  have hts := atoms_spec (ws := w_x_good) B.pre
  have hown : s.vm.findClass RX12 = some m.cls := findClass_of_methodNamed B.named
  have hlocks := B.notSynchronized
  subst hsz
  have hD := hD0.self (sz := s.heap.size)
  generalize hAe : va_A (vM cy a σ0) s.heap.size = A at hD ⊢
  have hA : ∀ q : Nat, s.heap.size ≤ q → A q := fun q h => by rw [← hAe]; exact Or.inr h
  have hS : va_S A s.heap s.heap [] := va_S.rf
  have hl := lv_entry ([.ref (a 0), .int (L0 1)]) (n := 2) (Nat.le_of_ble_eq_true rfl)
  rw [lg_entry_eq]
  generalize (lg_sl ([.ref (a 0), .int (L0 1)]) ++ List.replicate (2 - (lg_sl ([.ref (a 0), .int (L0 1)])).length) Slot.unset).toArray = ls at hl ⊢
  have hl : lv_has ls 2 [(0, .ref (a 0)), (1, .int (L0 1))] := hl
  have blk : ∀ k : Nat, (bT p l e (headSpec w_x_good ({ frames := 0, cells := 0, slots := 0, locals := 0 })).room s m #[.ref (a 0), .int (L0 1)] below meth c dC dI cy a A (qI dC dI cy a A below #[.ref (a 0), .int (L0 1)] s) 2 (x_good k 0) (fun L => [(0, .ref (a 0)), (1, .int (L 1))]) 0 (fun L => [])) ∧ (bT p l e (headSpec w_x_good ({ frames := 0, cells := 0, slots := 0, locals := 0 })).room s m #[.ref (a 0), .int (L0 1)] below meth c dC dI cy a A (qI dC dI cy a A below #[.ref (a 0), .int (L0 1)] s) 2 (x_good k 1) (fun L => [(0, .ref (a 0)), (1, .int (L 1))]) 5 (fun L => [])) ∧ (bT p l e (headSpec w_x_good ({ frames := 0, cells := 0, slots := 0, locals := 0 })).room s m #[.ref (a 0), .int (L0 1)] below meth c dC dI cy a A (qI dC dI cy a A below #[.ref (a 0), .int (L0 1)] s) 2 (x_good k 2) (fun L => [(0, .ref (a 0)), (1, .int (L 1))]) 13 (fun L => [])) ∧ (bT p l e (headSpec w_x_good ({ frames := 0, cells := 0, slots := 0, locals := 0 })).room s m #[.ref (a 0), .int (L0 1)] below meth c dC dI cy a A (qI dC dI cy a A below #[.ref (a 0), .int (L0 1)] s) 2 (x_good k 3) (fun L => [(0, .ref (a 0)), (1, .int (L 1))]) 14 (fun L => [.int (L 100)])) := by
    intro k
    induction k with
    | zero => exact ⟨fun L σ r h => (by cases h), fun L σ r h => (by cases h), fun L σ r h => (by cases h), fun L σ r h => (by cases h)⟩
    | succ k ih =>
      refine ⟨?_, ?_, ?_, ?_⟩
      · intro L σ r h H locs ls hP hD hS hl
        rw [x_good] at h
        refine lv_aload_n hx hb dX12_good_0 rfl (lv_at hl 0 rfl) ?_
        refine lv_iload_n hx hb dX12_good_1 rfl (lv_at hl 1 rfl) ?_
        refine np_2 hx hb hts in_x_good hown hK hP hD hS (hts _ (List.mem_cons_of_mem _ (List.mem_append_left _ (List.mem_append_left _ (List.mem_of_getElem? (i := 0) rfl))))) dX12_good_2 (fun H locs hP hD hS => ?_)
        exact ih.2.1 L (upd σ.1 2 ((L 1)), σ.2.1, σ.2.2) r h H locs ls hP hD hS (lv_sub hl [0, 1] rfl)
      · intro L σ r h H locs ls hP hD hS hl
        rw [x_good] at h
        refine lv_iload_n hx hb dX12_good_5 rfl (lv_at hl 1 rfl) ?_
        refine lv_if_ne (tgt := 13) hx hb dX12_good_6 (by decide) (fun c1 => ?_) (fun c1 => ?_)
        · rw [if_neg c1] at h
          exact ih.2.2.1 L σ r h H locs ls hP hD hS (lv_sub hl [0, 1] rfl)
        · rw [if_pos c1] at h
          refine lv_iconst (v := 1) hx hb dX12_good_9 (by decide) ?_
          refine lv_goto (tgt := 14) hx hb dX12_good_10 (by decide) ?_
          exact ih.2.2.2 (upd L 100 1) σ r h H locs ls hP hD hS (lv_sub hl [0, 1] rfl)
      · intro L σ r h H locs ls hP hD hS hl
        rw [x_good] at h
        refine lv_iconst (v := 0) hx hb dX12_good_13 (by decide) ?_
        exact ih.2.2.2 (upd L 100 0) σ r h H locs ls hP hD hS (lv_sub hl [0, 1] rfl)
      · intro L σ r h H locs ls hP hD hS hl
        rw [x_good] at h
        obtain ⟨q1, h⟩ := nb_ite1 h
        cases h
        exact W.zret (v := (L 100)) hx hb hr (nb_bz q1) (fun t ht hW => ⟨⟨(L 100), (), rfl, rfl, by rw [ht]; exact hP, va_K.moved hW.alike hK, hD⟩, hS.F ht⟩) hS.2.2 dX12_good_14
  exact (blk k0).1 L0 σ0 r0 h0 s.heap [] ls hP hD hS hl
/-! init_ -/
def x_init_ : Nat → Nat → (Nat → Int32) → MS → Option (Int32 × MS)
  | 0, _, _, _ => none
  | k + 1, 0, L, σ => x_init_ k 1 L (upd σ.1 2 0, σ.2.1, σ.2.2)
  | k + 1, 1, L, σ => x_init_ k 2 L (upd σ.1 4 0, σ.2.1, σ.2.2)
  | k + 1, 2, L, σ => x_init_ k 3 L (upd σ.1 11 0, σ.2.1, σ.2.2)
  | k + 1, 3, L, σ => x_init_ k 4 L (upd σ.1 54 0, σ.2.1, σ.2.2)
  | k + 1, 4, L, σ => x_init_ k 5 L (upd σ.1 55 4, σ.2.1, σ.2.2)
  | k + 1, 5, L, σ => x_init_ k 6 L (upd σ.1 59 0, σ.2.1, σ.2.2)
  | k + 1, 6, L, σ => x_init_ k 7 L (upd σ.1 72 0, σ.2.1, σ.2.2)
  | k + 1, 7, L, σ => x_init_ k 8 L (upd σ.1 63 0, σ.2.1, σ.2.2)
  | k + 1, 8, L, σ => x_init_ k 9 L (upd σ.1 65 0, σ.2.1, σ.2.2)
  | k + 1, 9, L, σ => x_init_ k 10 L (upd σ.1 73 0, σ.2.1, σ.2.2)
  | k + 1, 10, L, σ => x_init_ k 11 L (upd σ.1 79 0, σ.2.1, σ.2.2)
  | k + 1, 11, L, σ => x_init_ k 12 L (upd σ.1 109 0, σ.2.1, σ.2.2)
  | k + 1, 12, L, σ => x_init_ k 13 L (upd σ.1 120 0, σ.2.1, σ.2.2)
  | k + 1, 13, L, σ => if ¬ ((0 : Int32) < 0 ∨ 2 ≤ (0 : Int32).toNatClampNeg) then (x_init_ k 14 L (σ.1, σ.2.1, updG σ.2.2 40 (upd (σ.2.2 40) (0 : Int32).toNatClampNeg 0))) else none
  | k + 1, 14, L, σ => if ¬ ((1 : Int32) < 0 ∨ 2 ≤ (1 : Int32).toNatClampNeg) then (x_init_ k 15 L (σ.1, σ.2.1, updG σ.2.2 40 (upd (σ.2.2 40) (1 : Int32).toNatClampNeg 0))) else none
  | k + 1, 15, L, σ => x_init_ k 16 L (upd σ.1 111 0, σ.2.1, σ.2.2)
  | k + 1, 16, L, σ => x_init_ k 17 L (upd σ.1 112 0, σ.2.1, σ.2.2)
  | k + 1, 17, L, σ => x_init_ k 18 L (upd σ.1 115 0, σ.2.1, σ.2.2)
  | k + 1, 18, L, σ => x_init_ k 19 L (upd σ.1 22 1, σ.2.1, σ.2.2)
  | k + 1, 19, L, σ => x_init_ k 20 L (upd σ.1 24 0, σ.2.1, σ.2.2)
  | k + 1, 20, L, σ => x_init_ k 21 L (upd σ.1 25 0, σ.2.1, σ.2.2)
  | k + 1, 21, L, σ => if ¬ ((0 : Int32) < 0 ∨ 43 ≤ (0 : Int32).toNatClampNeg) then (x_init_ k 22 L (σ.1, σ.2.1, updG σ.2.2 21 (upd (σ.2.2 21) (0 : Int32).toNatClampNeg 0))) else none
  | k + 1, 22, L, σ => x_init_ k 23 L (upd σ.1 44 0, σ.2.1, σ.2.2)
  | k + 1, 23, L, σ => x_init_ k 24 L (upd σ.1 31 0, σ.2.1, σ.2.2)
  | k + 1, 24, L, σ => if ¬ ((1 : Int32) < 0 ∨ 11514 ≤ (1 : Int32).toNatClampNeg) then (x_init_ k 25 L (σ.1, σ.2.1, updG σ.2.2 30 (upd (σ.2.2 30) (1 : Int32).toNatClampNeg 0))) else none
  | k + 1, 25, L, σ => if ¬ ((3 : Int32) < 0 ∨ 11514 ≤ (3 : Int32).toNatClampNeg) then (x_init_ k 26 L (σ.1, σ.2.1, updG σ.2.2 30 (upd (σ.2.2 30) (3 : Int32).toNatClampNeg 0))) else none
  | k + 1, 26, L, σ => if ¬ ((2 : Int32) < 0 ∨ 11514 ≤ (2 : Int32).toNatClampNeg) then (x_init_ k 27 L (σ.1, σ.2.1, updG σ.2.2 30 (upd (σ.2.2 30) (2 : Int32).toNatClampNeg 0))) else none
  | k + 1, 27, L, σ => x_init_ k 28 (upd L 1 0) σ
  | k + 1, 28, L, σ => if 60 ≤ ((L 1)) then (x_init_ k 30 L σ) else (if ¬ (((4 + ((L 1)))) < 0 ∨ 11514 ≤ ((4 + ((L 1)))).toNatClampNeg) then (x_init_ k 29 L (σ.1, σ.2.1, updG σ.2.2 30 (upd (σ.2.2 30) ((4 + ((L 1)))).toNatClampNeg 0))) else none)
  | k + 1, 29, L, σ => x_init_ k 28 (upd L 1 (((L 1)) + 1)) σ
  | k + 1, 30, L, σ => x_init_ k 31 (upd L 1 0) σ
  | k + 1, 31, L, σ => if 1380 ≤ ((L 1)) then (x_init_ k 33 L σ) else (if ¬ (((L 1)) < 0 ∨ 1380 ≤ ((L 1)).toNatClampNeg) then (x_init_ k 32 L (σ.1, σ.2.1, updG σ.2.2 33 (upd (σ.2.2 33) ((L 1)).toNatClampNeg 0))) else none)
  | k + 1, 32, L, σ => x_init_ k 31 (upd L 1 (((L 1)) + 1)) σ
  | k + 1, 33, L, σ => x_init_ k 34 (upd L 1 0) σ
  | k + 1, 34, L, σ => if 8 ≤ ((L 1)) then (x_init_ k 38 L σ) else (if ¬ (((L 1)) < 0 ∨ 8 ≤ ((L 1)).toNatClampNeg) then (x_init_ k 35 L (σ.1, σ.2.1, updG σ.2.2 36 (upd (σ.2.2 36) ((L 1)).toNatClampNeg 0))) else none)
  | k + 1, 35, L, σ => if ¬ (((L 1)) < 0 ∨ 8 ≤ ((L 1)).toNatClampNeg) then (x_init_ k 36 L (σ.1, σ.2.1, updG σ.2.2 37 (upd (σ.2.2 37) ((L 1)).toNatClampNeg 0))) else none
  | k + 1, 36, L, σ => if ¬ (((L 1)) < 0 ∨ 8 ≤ ((L 1)).toNatClampNeg) then (x_init_ k 37 L (σ.1, σ.2.1, updG σ.2.2 38 (upd (σ.2.2 38) ((L 1)).toNatClampNeg 0))) else none
  | k + 1, 37, L, σ => x_init_ k 34 (upd L 1 (((L 1)) + 1)) σ
  | k + 1, 38, L, σ => some (0, σ)
  | _ + 1, _ + 39, _, _ => none
def o_x_init_ : List Cond := [.fieldLink RX12 993 "SetHouseModel" "code" "I", .fieldLink RX12 1 "SetHouseModel" "taped" "I", .fieldLink RX12 15 "SetHouseModel" "faultCode" "I", .fieldLink RX12 378 "SetHouseModel" "base" "I", .fieldLink RX12 375 "SetHouseModel" "high" "I", .fieldLink RX12 385 "SetHouseModel" "top" "I", .fieldLink RX12 414 "SetHouseModel" "evTop" "I", .fieldLink RX12 402 "SetHouseModel" "points" "I", .fieldLink RX12 855 "SetHouseModel" "pointsTotal" "I", .fieldLink RX12 1029 "SetHouseModel" "views" "I", .fieldLink RX12 1032 "SetHouseModel" "shownCount" "I", .fieldLink RX12 1035 "SetHouseModel" "workOfExp" "I", .fieldLink RX12 1038 "SetHouseModel" "shownSize" "I", .fieldLink RX12 426 "SetHouseModel" "showns" "[I", .fieldLink RX12 1041 "SetHouseModel" "isProgram" "Z", .fieldLink RX12 1044 "SetHouseModel" "isRun" "Z", .fieldLink RX12 1047 "SetHouseModel" "programSize" "I", .fieldLink RX12 80 "SetHouseModel" "nodes" "I", .fieldLink RX12 105 "SetHouseModel" "pooled" "I", .fieldLink RX12 139 "SetHouseModel" "entities" "I", .fieldLink RX12 157 "SetHouseModel" "held" "[I", .fieldLink RX12 297 "SetHouseModel" "statements" "I", .fieldLink RX12 349 "SetHouseModel" "procs" "I", .fieldLink RX12 395 "SetHouseModel" "st" "[I", .fieldLink RX12 408 "SetHouseModel" "frames" "[I", .fieldLink RX12 417 "SetHouseModel" "viewValue" "[I", .fieldLink RX12 420 "SetHouseModel" "viewCame" "[I", .fieldLink RX12 423 "SetHouseModel" "viewWent" "[I"]
theorem o_x_init__good : o_x_init_.all goodWord = true := by decide +kernel
def p_x_init_ : List Cond := o_x_init_ ++ []
theorem p_x_init__good : p_x_init_.all goodWord = true := nb_all2 o_x_init__good rfl
def w_x_init_ : List Cond := .code yX12_init_ cX12_init_ 2 none :: (p_x_init_ ++ fM)
theorem w_x_init__good : w_x_init_.all goodWord = true := nb_allc (by decide +kernel) (nb_all2 p_x_init__good fM_good)
theorem in_x_init_ : ∀ w ∈ wsX120, w ∈ w_x_init_ := fun _ h => List.mem_cons_of_mem _ (List.mem_append_right _ h)
theorem hd_x_init_ : yX12_init_.cls = RX12 ∧ yX12_init_.cls ≠ "java/lang/invoke/MethodHandle" ∧ yX12_init_.cls ≠ "java/lang/invoke/VarHandle" ∧ (parseMethodDescriptor yX12_init_.desc).map (fun d => d.parameters.length) = some 0 := by decide +kernel
set_option maxHeartbeats 40000000 in
set_option maxRecDepth 100000 in
theorem c_x_init_ (l : Launch) (dC : Nat → ClassId) (dI : Nat → Nat → Nat) (cy : Nat → ClassId) (a : Nat → Nat) (k0 : Nat) (L0 : Nat → Int32) (σ0 : MS) (r0 : Int32 × MS) (h0 : x_init_ k0 0 L0 σ0 = some r0) (sz : Nat) : Met l yX12_init_ w_x_init_ ({ frames := 0, cells := 0, slots := 0, locals := 0 }) (va_Pc [.ref (a 0)] (nIn (dC, dI) cy sz (vM cy a σ0))) (va_Qv (fun _ : Unit => True) (fun _ t => nOut (dC, dI) cy (va_A (vM cy a σ0) sz) (vM cy a r0.2) t) (va_A (vM cy a σ0) sz)) 0 0 (va_A (vM cy a σ0) sz) := by
  refine Met.ofW (cc := cX12_init_) (maxL := 2) (ret := none) (by decide) rfl ?_
  intro p e s m args below meth c s₁ B hml hv
  obtain ⟨rfl, hsz, hP, hK, hD0, hG⟩ := hv
  have hx := B.exec
  have hb := B.bytes
  have hr := B.returns
  have hts := atoms_spec (ws := w_x_init_) B.pre
  have hown : s.vm.findClass RX12 = some m.cls := findClass_of_methodNamed B.named
  have hlocks := B.notSynchronized
  subst hsz
  have hD := hD0.self (sz := s.heap.size)
  generalize hAe : va_A (vM cy a σ0) s.heap.size = A at hD ⊢
  have hA : ∀ q : Nat, s.heap.size ≤ q → A q := fun q h => by rw [← hAe]; exact Or.inr h
  have hS : va_S A s.heap s.heap [] := va_S.rf
  have hl := lv_entry ([.ref (a 0)]) (n := 2) (Nat.le_of_ble_eq_true rfl)
  rw [lg_entry_eq]
  generalize (lg_sl ([.ref (a 0)]) ++ List.replicate (2 - (lg_sl ([.ref (a 0)])).length) Slot.unset).toArray = ls at hl ⊢
  have hl : lv_has ls 2 [(0, .ref (a 0))] := hl
  have blk : ∀ k : Nat, (bT p l e (headSpec w_x_init_ ({ frames := 0, cells := 0, slots := 0, locals := 0 })).room s m #[.ref (a 0)] below meth c dC dI cy a A (qV dC dI cy a A below #[.ref (a 0)] s) 2 (x_init_ k 0) (fun L => [(0, .ref (a 0))]) 0 (fun L => [])) ∧ (bT p l e (headSpec w_x_init_ ({ frames := 0, cells := 0, slots := 0, locals := 0 })).room s m #[.ref (a 0)] below meth c dC dI cy a A (qV dC dI cy a A below #[.ref (a 0)] s) 2 (x_init_ k 1) (fun L => [(0, .ref (a 0))]) 5 (fun L => [])) ∧ (bT p l e (headSpec w_x_init_ ({ frames := 0, cells := 0, slots := 0, locals := 0 })).room s m #[.ref (a 0)] below meth c dC dI cy a A (qV dC dI cy a A below #[.ref (a 0)] s) 2 (x_init_ k 2) (fun L => [(0, .ref (a 0))]) 10 (fun L => [])) ∧ (bT p l e (headSpec w_x_init_ ({ frames := 0, cells := 0, slots := 0, locals := 0 })).room s m #[.ref (a 0)] below meth c dC dI cy a A (qV dC dI cy a A below #[.ref (a 0)] s) 2 (x_init_ k 3) (fun L => [(0, .ref (a 0))]) 15 (fun L => [])) ∧ (bT p l e (headSpec w_x_init_ ({ frames := 0, cells := 0, slots := 0, locals := 0 })).room s m #[.ref (a 0)] below meth c dC dI cy a A (qV dC dI cy a A below #[.ref (a 0)] s) 2 (x_init_ k 4) (fun L => [(0, .ref (a 0))]) 20 (fun L => [])) ∧ (bT p l e (headSpec w_x_init_ ({ frames := 0, cells := 0, slots := 0, locals := 0 })).room s m #[.ref (a 0)] below meth c dC dI cy a A (qV dC dI cy a A below #[.ref (a 0)] s) 2 (x_init_ k 5) (fun L => [(0, .ref (a 0))]) 25 (fun L => [])) ∧ (bT p l e (headSpec w_x_init_ ({ frames := 0, cells := 0, slots := 0, locals := 0 })).room s m #[.ref (a 0)] below meth c dC dI cy a A (qV dC dI cy a A below #[.ref (a 0)] s) 2 (x_init_ k 6) (fun L => [(0, .ref (a 0))]) 30 (fun L => [])) ∧ (bT p l e (headSpec w_x_init_ ({ frames := 0, cells := 0, slots := 0, locals := 0 })).room s m #[.ref (a 0)] below meth c dC dI cy a A (qV dC dI cy a A below #[.ref (a 0)] s) 2 (x_init_ k 7) (fun L => [(0, .ref (a 0))]) 35 (fun L => [])) ∧ (bT p l e (headSpec w_x_init_ ({ frames := 0, cells := 0, slots := 0, locals := 0 })).room s m #[.ref (a 0)] below meth c dC dI cy a A (qV dC dI cy a A below #[.ref (a 0)] s) 2 (x_init_ k 8) (fun L => [(0, .ref (a 0))]) 40 (fun L => [])) ∧ (bT p l e (headSpec w_x_init_ ({ frames := 0, cells := 0, slots := 0, locals := 0 })).room s m #[.ref (a 0)] below meth c dC dI cy a A (qV dC dI cy a A below #[.ref (a 0)] s) 2 (x_init_ k 9) (fun L => [(0, .ref (a 0))]) 45 (fun L => [])) ∧ (bT p l e (headSpec w_x_init_ ({ frames := 0, cells := 0, slots := 0, locals := 0 })).room s m #[.ref (a 0)] below meth c dC dI cy a A (qV dC dI cy a A below #[.ref (a 0)] s) 2 (x_init_ k 10) (fun L => [(0, .ref (a 0))]) 50 (fun L => [])) ∧ (bT p l e (headSpec w_x_init_ ({ frames := 0, cells := 0, slots := 0, locals := 0 })).room s m #[.ref (a 0)] below meth c dC dI cy a A (qV dC dI cy a A below #[.ref (a 0)] s) 2 (x_init_ k 11) (fun L => [(0, .ref (a 0))]) 55 (fun L => [])) ∧ (bT p l e (headSpec w_x_init_ ({ frames := 0, cells := 0, slots := 0, locals := 0 })).room s m #[.ref (a 0)] below meth c dC dI cy a A (qV dC dI cy a A below #[.ref (a 0)] s) 2 (x_init_ k 12) (fun L => [(0, .ref (a 0))]) 60 (fun L => [])) ∧ (bT p l e (headSpec w_x_init_ ({ frames := 0, cells := 0, slots := 0, locals := 0 })).room s m #[.ref (a 0)] below meth c dC dI cy a A (qV dC dI cy a A below #[.ref (a 0)] s) 2 (x_init_ k 13) (fun L => [(0, .ref (a 0))]) 65 (fun L => [])) ∧ (bT p l e (headSpec w_x_init_ ({ frames := 0, cells := 0, slots := 0, locals := 0 })).room s m #[.ref (a 0)] below meth c dC dI cy a A (qV dC dI cy a A below #[.ref (a 0)] s) 2 (x_init_ k 14) (fun L => [(0, .ref (a 0))]) 72 (fun L => [])) ∧ (bT p l e (headSpec w_x_init_ ({ frames := 0, cells := 0, slots := 0, locals := 0 })).room s m #[.ref (a 0)] below meth c dC dI cy a A (qV dC dI cy a A below #[.ref (a 0)] s) 2 (x_init_ k 15) (fun L => [(0, .ref (a 0))]) 79 (fun L => [])) ∧ (bT p l e (headSpec w_x_init_ ({ frames := 0, cells := 0, slots := 0, locals := 0 })).room s m #[.ref (a 0)] below meth c dC dI cy a A (qV dC dI cy a A below #[.ref (a 0)] s) 2 (x_init_ k 16) (fun L => [(0, .ref (a 0))]) 84 (fun L => [])) ∧ (bT p l e (headSpec w_x_init_ ({ frames := 0, cells := 0, slots := 0, locals := 0 })).room s m #[.ref (a 0)] below meth c dC dI cy a A (qV dC dI cy a A below #[.ref (a 0)] s) 2 (x_init_ k 17) (fun L => [(0, .ref (a 0))]) 89 (fun L => [])) ∧ (bT p l e (headSpec w_x_init_ ({ frames := 0, cells := 0, slots := 0, locals := 0 })).room s m #[.ref (a 0)] below meth c dC dI cy a A (qV dC dI cy a A below #[.ref (a 0)] s) 2 (x_init_ k 18) (fun L => [(0, .ref (a 0))]) 94 (fun L => [])) ∧ (bT p l e (headSpec w_x_init_ ({ frames := 0, cells := 0, slots := 0, locals := 0 })).room s m #[.ref (a 0)] below meth c dC dI cy a A (qV dC dI cy a A below #[.ref (a 0)] s) 2 (x_init_ k 19) (fun L => [(0, .ref (a 0))]) 99 (fun L => [])) ∧ (bT p l e (headSpec w_x_init_ ({ frames := 0, cells := 0, slots := 0, locals := 0 })).room s m #[.ref (a 0)] below meth c dC dI cy a A (qV dC dI cy a A below #[.ref (a 0)] s) 2 (x_init_ k 20) (fun L => [(0, .ref (a 0))]) 104 (fun L => [])) ∧ (bT p l e (headSpec w_x_init_ ({ frames := 0, cells := 0, slots := 0, locals := 0 })).room s m #[.ref (a 0)] below meth c dC dI cy a A (qV dC dI cy a A below #[.ref (a 0)] s) 2 (x_init_ k 21) (fun L => [(0, .ref (a 0))]) 109 (fun L => [])) ∧ (bT p l e (headSpec w_x_init_ ({ frames := 0, cells := 0, slots := 0, locals := 0 })).room s m #[.ref (a 0)] below meth c dC dI cy a A (qV dC dI cy a A below #[.ref (a 0)] s) 2 (x_init_ k 22) (fun L => [(0, .ref (a 0))]) 116 (fun L => [])) ∧ (bT p l e (headSpec w_x_init_ ({ frames := 0, cells := 0, slots := 0, locals := 0 })).room s m #[.ref (a 0)] below meth c dC dI cy a A (qV dC dI cy a A below #[.ref (a 0)] s) 2 (x_init_ k 23) (fun L => [(0, .ref (a 0))]) 121 (fun L => [])) ∧ (bT p l e (headSpec w_x_init_ ({ frames := 0, cells := 0, slots := 0, locals := 0 })).room s m #[.ref (a 0)] below meth c dC dI cy a A (qV dC dI cy a A below #[.ref (a 0)] s) 2 (x_init_ k 24) (fun L => [(0, .ref (a 0))]) 126 (fun L => [])) ∧ (bT p l e (headSpec w_x_init_ ({ frames := 0, cells := 0, slots := 0, locals := 0 })).room s m #[.ref (a 0)] below meth c dC dI cy a A (qV dC dI cy a A below #[.ref (a 0)] s) 2 (x_init_ k 25) (fun L => [(0, .ref (a 0))]) 133 (fun L => [])) ∧ (bT p l e (headSpec w_x_init_ ({ frames := 0, cells := 0, slots := 0, locals := 0 })).room s m #[.ref (a 0)] below meth c dC dI cy a A (qV dC dI cy a A below #[.ref (a 0)] s) 2 (x_init_ k 26) (fun L => [(0, .ref (a 0))]) 140 (fun L => [])) ∧ (bT p l e (headSpec w_x_init_ ({ frames := 0, cells := 0, slots := 0, locals := 0 })).room s m #[.ref (a 0)] below meth c dC dI cy a A (qV dC dI cy a A below #[.ref (a 0)] s) 2 (x_init_ k 27) (fun L => [(0, .ref (a 0))]) 147 (fun L => [])) ∧ (bT p l e (headSpec w_x_init_ ({ frames := 0, cells := 0, slots := 0, locals := 0 })).room s m #[.ref (a 0)] below meth c dC dI cy a A (qV dC dI cy a A below #[.ref (a 0)] s) 2 (x_init_ k 28) (fun L => [(0, .ref (a 0)), (1, .int (L 1))]) 149 (fun L => [])) ∧ (bT p l e (headSpec w_x_init_ ({ frames := 0, cells := 0, slots := 0, locals := 0 })).room s m #[.ref (a 0)] below meth c dC dI cy a A (qV dC dI cy a A below #[.ref (a 0)] s) 2 (x_init_ k 29) (fun L => [(0, .ref (a 0)), (1, .int (L 1))]) 164 (fun L => [])) ∧ (bT p l e (headSpec w_x_init_ ({ frames := 0, cells := 0, slots := 0, locals := 0 })).room s m #[.ref (a 0)] below meth c dC dI cy a A (qV dC dI cy a A below #[.ref (a 0)] s) 2 (x_init_ k 30) (fun L => [(0, .ref (a 0)), (1, .int (L 1))]) 170 (fun L => [])) ∧ (bT p l e (headSpec w_x_init_ ({ frames := 0, cells := 0, slots := 0, locals := 0 })).room s m #[.ref (a 0)] below meth c dC dI cy a A (qV dC dI cy a A below #[.ref (a 0)] s) 2 (x_init_ k 31) (fun L => [(0, .ref (a 0)), (1, .int (L 1))]) 172 (fun L => [])) ∧ (bT p l e (headSpec w_x_init_ ({ frames := 0, cells := 0, slots := 0, locals := 0 })).room s m #[.ref (a 0)] below meth c dC dI cy a A (qV dC dI cy a A below #[.ref (a 0)] s) 2 (x_init_ k 32) (fun L => [(0, .ref (a 0)), (1, .int (L 1))]) 186 (fun L => [])) ∧ (bT p l e (headSpec w_x_init_ ({ frames := 0, cells := 0, slots := 0, locals := 0 })).room s m #[.ref (a 0)] below meth c dC dI cy a A (qV dC dI cy a A below #[.ref (a 0)] s) 2 (x_init_ k 33) (fun L => [(0, .ref (a 0)), (1, .int (L 1))]) 192 (fun L => [])) ∧ (bT p l e (headSpec w_x_init_ ({ frames := 0, cells := 0, slots := 0, locals := 0 })).room s m #[.ref (a 0)] below meth c dC dI cy a A (qV dC dI cy a A below #[.ref (a 0)] s) 2 (x_init_ k 34) (fun L => [(0, .ref (a 0)), (1, .int (L 1))]) 194 (fun L => [])) ∧ (bT p l e (headSpec w_x_init_ ({ frames := 0, cells := 0, slots := 0, locals := 0 })).room s m #[.ref (a 0)] below meth c dC dI cy a A (qV dC dI cy a A below #[.ref (a 0)] s) 2 (x_init_ k 35) (fun L => [(0, .ref (a 0)), (1, .int (L 1))]) 207 (fun L => [])) ∧ (bT p l e (headSpec w_x_init_ ({ frames := 0, cells := 0, slots := 0, locals := 0 })).room s m #[.ref (a 0)] below meth c dC dI cy a A (qV dC dI cy a A below #[.ref (a 0)] s) 2 (x_init_ k 36) (fun L => [(0, .ref (a 0)), (1, .int (L 1))]) 214 (fun L => [])) ∧ (bT p l e (headSpec w_x_init_ ({ frames := 0, cells := 0, slots := 0, locals := 0 })).room s m #[.ref (a 0)] below meth c dC dI cy a A (qV dC dI cy a A below #[.ref (a 0)] s) 2 (x_init_ k 37) (fun L => [(0, .ref (a 0)), (1, .int (L 1))]) 221 (fun L => [])) ∧ (bT p l e (headSpec w_x_init_ ({ frames := 0, cells := 0, slots := 0, locals := 0 })).room s m #[.ref (a 0)] below meth c dC dI cy a A (qV dC dI cy a A below #[.ref (a 0)] s) 2 (x_init_ k 38) (fun L => [(0, .ref (a 0)), (1, .int (L 1))]) 227 (fun L => [])) := by
    intro k
    induction k with
    | zero => exact ⟨fun L σ r h => (by cases h), fun L σ r h => (by cases h), fun L σ r h => (by cases h), fun L σ r h => (by cases h), fun L σ r h => (by cases h), fun L σ r h => (by cases h), fun L σ r h => (by cases h), fun L σ r h => (by cases h), fun L σ r h => (by cases h), fun L σ r h => (by cases h), fun L σ r h => (by cases h), fun L σ r h => (by cases h), fun L σ r h => (by cases h), fun L σ r h => (by cases h), fun L σ r h => (by cases h), fun L σ r h => (by cases h), fun L σ r h => (by cases h), fun L σ r h => (by cases h), fun L σ r h => (by cases h), fun L σ r h => (by cases h), fun L σ r h => (by cases h), fun L σ r h => (by cases h), fun L σ r h => (by cases h), fun L σ r h => (by cases h), fun L σ r h => (by cases h), fun L σ r h => (by cases h), fun L σ r h => (by cases h), fun L σ r h => (by cases h), fun L σ r h => (by cases h), fun L σ r h => (by cases h), fun L σ r h => (by cases h), fun L σ r h => (by cases h), fun L σ r h => (by cases h), fun L σ r h => (by cases h), fun L σ r h => (by cases h), fun L σ r h => (by cases h), fun L σ r h => (by cases h), fun L σ r h => (by cases h), fun L σ r h => (by cases h)⟩
    | succ k ih =>
      refine ⟨?_, ?_, ?_, ?_, ?_, ?_, ?_, ?_, ?_, ?_, ?_, ?_, ?_, ?_, ?_, ?_, ?_, ?_, ?_, ?_, ?_, ?_, ?_, ?_, ?_, ?_, ?_, ?_, ?_, ?_, ?_, ?_, ?_, ?_, ?_, ?_, ?_, ?_, ?_⟩
      · intro L σ r h H locs ls hP hD hS hl
        rw [x_init_] at h
        refine lv_aload_n hx hb dX12_init__0 rfl (lv_at hl 0 rfl) ?_
        refine lv_iconst (v := 0) hx hb dX12_init__1 (by decide) ?_
        refine np_2 hx hb hts in_x_init_ hown hK hP hD hS (hts _ (List.mem_cons_of_mem _ (List.mem_append_left _ (List.mem_append_left _ (List.mem_of_getElem? (i := 0) rfl))))) dX12_init__2 (fun H locs hP hD hS => ?_)
        exact ih.2.1 L (upd σ.1 2 0, σ.2.1, σ.2.2) r h H locs ls hP hD hS (lv_sub hl [0] rfl)
      · intro L σ r h H locs ls hP hD hS hl
        rw [x_init_] at h
        refine lv_aload_n hx hb dX12_init__5 rfl (lv_at hl 0 rfl) ?_
        refine lv_iconst (v := 0) hx hb dX12_init__6 (by decide) ?_
        refine np_4 hx hb hts in_x_init_ hown hK hP hD hS (hts _ (List.mem_cons_of_mem _ (List.mem_append_left _ (List.mem_append_left _ (List.mem_of_getElem? (i := 1) rfl))))) dX12_init__7 (fun H locs hP hD hS => ?_)
        exact ih.2.2.1 L (upd σ.1 4 0, σ.2.1, σ.2.2) r h H locs ls hP hD hS (lv_sub hl [0] rfl)
      · intro L σ r h H locs ls hP hD hS hl
        rw [x_init_] at h
        refine lv_aload_n hx hb dX12_init__10 rfl (lv_at hl 0 rfl) ?_
        refine lv_iconst (v := 0) hx hb dX12_init__11 (by decide) ?_
        refine np_11 hx hb hts in_x_init_ hown hK hP hD hS (hts _ (List.mem_cons_of_mem _ (List.mem_append_left _ (List.mem_append_left _ (List.mem_of_getElem? (i := 2) rfl))))) dX12_init__12 (fun H locs hP hD hS => ?_)
        exact ih.2.2.2.1 L (upd σ.1 11 0, σ.2.1, σ.2.2) r h H locs ls hP hD hS (lv_sub hl [0] rfl)
      · intro L σ r h H locs ls hP hD hS hl
        rw [x_init_] at h
        refine lv_aload_n hx hb dX12_init__15 rfl (lv_at hl 0 rfl) ?_
        refine lv_iconst (v := 0) hx hb dX12_init__16 (by decide) ?_
        refine np_54 hx hb hts in_x_init_ hown hK hP hD hS (hts _ (List.mem_cons_of_mem _ (List.mem_append_left _ (List.mem_append_left _ (List.mem_of_getElem? (i := 3) rfl))))) dX12_init__17 (fun H locs hP hD hS => ?_)
        exact ih.2.2.2.2.1 L (upd σ.1 54 0, σ.2.1, σ.2.2) r h H locs ls hP hD hS (lv_sub hl [0] rfl)
      · intro L σ r h H locs ls hP hD hS hl
        rw [x_init_] at h
        refine lv_aload_n hx hb dX12_init__20 rfl (lv_at hl 0 rfl) ?_
        refine lv_iconst (v := 4) hx hb dX12_init__21 (by decide) ?_
        refine np_55 hx hb hts in_x_init_ hown hK hP hD hS (hts _ (List.mem_cons_of_mem _ (List.mem_append_left _ (List.mem_append_left _ (List.mem_of_getElem? (i := 4) rfl))))) dX12_init__22 (fun H locs hP hD hS => ?_)
        exact ih.2.2.2.2.2.1 L (upd σ.1 55 4, σ.2.1, σ.2.2) r h H locs ls hP hD hS (lv_sub hl [0] rfl)
      · intro L σ r h H locs ls hP hD hS hl
        rw [x_init_] at h
        refine lv_aload_n hx hb dX12_init__25 rfl (lv_at hl 0 rfl) ?_
        refine lv_iconst (v := 0) hx hb dX12_init__26 (by decide) ?_
        refine np_59 hx hb hts in_x_init_ hown hK hP hD hS (hts _ (List.mem_cons_of_mem _ (List.mem_append_left _ (List.mem_append_left _ (List.mem_of_getElem? (i := 5) rfl))))) dX12_init__27 (fun H locs hP hD hS => ?_)
        exact ih.2.2.2.2.2.2.1 L (upd σ.1 59 0, σ.2.1, σ.2.2) r h H locs ls hP hD hS (lv_sub hl [0] rfl)
      · intro L σ r h H locs ls hP hD hS hl
        rw [x_init_] at h
        refine lv_aload_n hx hb dX12_init__30 rfl (lv_at hl 0 rfl) ?_
        refine lv_iconst (v := 0) hx hb dX12_init__31 (by decide) ?_
        refine np_72 hx hb hts in_x_init_ hown hK hP hD hS (hts _ (List.mem_cons_of_mem _ (List.mem_append_left _ (List.mem_append_left _ (List.mem_of_getElem? (i := 6) rfl))))) dX12_init__32 (fun H locs hP hD hS => ?_)
        exact ih.2.2.2.2.2.2.2.1 L (upd σ.1 72 0, σ.2.1, σ.2.2) r h H locs ls hP hD hS (lv_sub hl [0] rfl)
      · intro L σ r h H locs ls hP hD hS hl
        rw [x_init_] at h
        refine lv_aload_n hx hb dX12_init__35 rfl (lv_at hl 0 rfl) ?_
        refine lv_iconst (v := 0) hx hb dX12_init__36 (by decide) ?_
        refine np_63 hx hb hts in_x_init_ hown hK hP hD hS (hts _ (List.mem_cons_of_mem _ (List.mem_append_left _ (List.mem_append_left _ (List.mem_of_getElem? (i := 7) rfl))))) dX12_init__37 (fun H locs hP hD hS => ?_)
        exact ih.2.2.2.2.2.2.2.2.1 L (upd σ.1 63 0, σ.2.1, σ.2.2) r h H locs ls hP hD hS (lv_sub hl [0] rfl)
      · intro L σ r h H locs ls hP hD hS hl
        rw [x_init_] at h
        refine lv_aload_n hx hb dX12_init__40 rfl (lv_at hl 0 rfl) ?_
        refine lv_iconst (v := 0) hx hb dX12_init__41 (by decide) ?_
        refine np_65 hx hb hts in_x_init_ hown hK hP hD hS (hts _ (List.mem_cons_of_mem _ (List.mem_append_left _ (List.mem_append_left _ (List.mem_of_getElem? (i := 8) rfl))))) dX12_init__42 (fun H locs hP hD hS => ?_)
        exact ih.2.2.2.2.2.2.2.2.2.1 L (upd σ.1 65 0, σ.2.1, σ.2.2) r h H locs ls hP hD hS (lv_sub hl [0] rfl)
      · intro L σ r h H locs ls hP hD hS hl
        rw [x_init_] at h
        refine lv_aload_n hx hb dX12_init__45 rfl (lv_at hl 0 rfl) ?_
        refine lv_iconst (v := 0) hx hb dX12_init__46 (by decide) ?_
        refine np_73 hx hb hts in_x_init_ hown hK hP hD hS (hts _ (List.mem_cons_of_mem _ (List.mem_append_left _ (List.mem_append_left _ (List.mem_of_getElem? (i := 9) rfl))))) dX12_init__47 (fun H locs hP hD hS => ?_)
        exact ih.2.2.2.2.2.2.2.2.2.2.1 L (upd σ.1 73 0, σ.2.1, σ.2.2) r h H locs ls hP hD hS (lv_sub hl [0] rfl)
      · intro L σ r h H locs ls hP hD hS hl
        rw [x_init_] at h
        refine lv_aload_n hx hb dX12_init__50 rfl (lv_at hl 0 rfl) ?_
        refine lv_iconst (v := 0) hx hb dX12_init__51 (by decide) ?_
        refine np_79 hx hb hts in_x_init_ hown hK hP hD hS (hts _ (List.mem_cons_of_mem _ (List.mem_append_left _ (List.mem_append_left _ (List.mem_of_getElem? (i := 10) rfl))))) dX12_init__52 (fun H locs hP hD hS => ?_)
        exact ih.2.2.2.2.2.2.2.2.2.2.2.1 L (upd σ.1 79 0, σ.2.1, σ.2.2) r h H locs ls hP hD hS (lv_sub hl [0] rfl)
      · intro L σ r h H locs ls hP hD hS hl
        rw [x_init_] at h
        refine lv_aload_n hx hb dX12_init__55 rfl (lv_at hl 0 rfl) ?_
        refine lv_iconst (v := 0) hx hb dX12_init__56 (by decide) ?_
        refine np_109 hx hb hts in_x_init_ hown hK hP hD hS (hts _ (List.mem_cons_of_mem _ (List.mem_append_left _ (List.mem_append_left _ (List.mem_of_getElem? (i := 11) rfl))))) dX12_init__57 (fun H locs hP hD hS => ?_)
        exact ih.2.2.2.2.2.2.2.2.2.2.2.2.1 L (upd σ.1 109 0, σ.2.1, σ.2.2) r h H locs ls hP hD hS (lv_sub hl [0] rfl)
      · intro L σ r h H locs ls hP hD hS hl
        rw [x_init_] at h
        refine lv_aload_n hx hb dX12_init__60 rfl (lv_at hl 0 rfl) ?_
        refine lv_iconst (v := 0) hx hb dX12_init__61 (by decide) ?_
        refine np_120 hx hb hts in_x_init_ hown hK hP hD hS (hts _ (List.mem_cons_of_mem _ (List.mem_append_left _ (List.mem_append_left _ (List.mem_of_getElem? (i := 12) rfl))))) dX12_init__62 (fun H locs hP hD hS => ?_)
        exact ih.2.2.2.2.2.2.2.2.2.2.2.2.2.1 L (upd σ.1 120 0, σ.2.1, σ.2.2) r h H locs ls hP hD hS (lv_sub hl [0] rfl)
      · intro L σ r h H locs ls hP hD hS hl
        rw [x_init_] at h
        refine lv_aload_n hx hb dX12_init__65 rfl (lv_at hl 0 rfl) ?_
        refine ng_78 hx hb hts in_x_init_ hown hK hP (hts _ (List.mem_cons_of_mem _ (List.mem_append_left _ (List.mem_append_left _ (List.mem_of_getElem? (i := 13) rfl))))) dX12_init__66 ?_
        refine lv_iconst (v := 0) hx hb dX12_init__69 (by decide) ?_
        refine lv_iconst (v := 0) hx hb dX12_init__70 (by decide) ?_
        obtain ⟨q1, h⟩ := nb_ite1 h
        refine ns_40 hx hb hK hP hD hS q1 dX12_init__71 (fun H locs hP hD hS => ?_)
        exact ih.2.2.2.2.2.2.2.2.2.2.2.2.2.2.1 L (σ.1, σ.2.1, updG σ.2.2 40 (upd (σ.2.2 40) (0 : Int32).toNatClampNeg 0)) r h H locs ls hP hD hS (lv_sub hl [0] rfl)
      · intro L σ r h H locs ls hP hD hS hl
        rw [x_init_] at h
        refine lv_aload_n hx hb dX12_init__72 rfl (lv_at hl 0 rfl) ?_
        refine ng_78 hx hb hts in_x_init_ hown hK hP (hts _ (List.mem_cons_of_mem _ (List.mem_append_left _ (List.mem_append_left _ (List.mem_of_getElem? (i := 13) rfl))))) dX12_init__73 ?_
        refine lv_iconst (v := 1) hx hb dX12_init__76 (by decide) ?_
        refine lv_iconst (v := 0) hx hb dX12_init__77 (by decide) ?_
        obtain ⟨q1, h⟩ := nb_ite1 h
        refine ns_40 hx hb hK hP hD hS q1 dX12_init__78 (fun H locs hP hD hS => ?_)
        exact ih.2.2.2.2.2.2.2.2.2.2.2.2.2.2.2.1 L (σ.1, σ.2.1, updG σ.2.2 40 (upd (σ.2.2 40) (1 : Int32).toNatClampNeg 0)) r h H locs ls hP hD hS (lv_sub hl [0] rfl)
      · intro L σ r h H locs ls hP hD hS hl
        rw [x_init_] at h
        refine lv_aload_n hx hb dX12_init__79 rfl (lv_at hl 0 rfl) ?_
        refine lv_iconst (v := 0) hx hb dX12_init__80 (by decide) ?_
        refine np_111 hx hb hts in_x_init_ hown hK hP hD hS (hts _ (List.mem_cons_of_mem _ (List.mem_append_left _ (List.mem_append_left _ (List.mem_of_getElem? (i := 14) rfl))))) (Or.inl rfl) dX12_init__81 (fun H locs hP hD hS => ?_)
        exact ih.2.2.2.2.2.2.2.2.2.2.2.2.2.2.2.2.1 L (upd σ.1 111 0, σ.2.1, σ.2.2) r h H locs ls hP hD hS (lv_sub hl [0] rfl)
      · intro L σ r h H locs ls hP hD hS hl
        rw [x_init_] at h
        refine lv_aload_n hx hb dX12_init__84 rfl (lv_at hl 0 rfl) ?_
        refine lv_iconst (v := 0) hx hb dX12_init__85 (by decide) ?_
        refine np_112 hx hb hts in_x_init_ hown hK hP hD hS (hts _ (List.mem_cons_of_mem _ (List.mem_append_left _ (List.mem_append_left _ (List.mem_of_getElem? (i := 15) rfl))))) (Or.inl rfl) dX12_init__86 (fun H locs hP hD hS => ?_)
        exact ih.2.2.2.2.2.2.2.2.2.2.2.2.2.2.2.2.2.1 L (upd σ.1 112 0, σ.2.1, σ.2.2) r h H locs ls hP hD hS (lv_sub hl [0] rfl)
      · intro L σ r h H locs ls hP hD hS hl
        rw [x_init_] at h
        refine lv_aload_n hx hb dX12_init__89 rfl (lv_at hl 0 rfl) ?_
        refine lv_iconst (v := 0) hx hb dX12_init__90 (by decide) ?_
        refine np_115 hx hb hts in_x_init_ hown hK hP hD hS (hts _ (List.mem_cons_of_mem _ (List.mem_append_left _ (List.mem_append_left _ (List.mem_of_getElem? (i := 16) rfl))))) dX12_init__91 (fun H locs hP hD hS => ?_)
        exact ih.2.2.2.2.2.2.2.2.2.2.2.2.2.2.2.2.2.2.1 L (upd σ.1 115 0, σ.2.1, σ.2.2) r h H locs ls hP hD hS (lv_sub hl [0] rfl)
      · intro L σ r h H locs ls hP hD hS hl
        rw [x_init_] at h
        refine lv_aload_n hx hb dX12_init__94 rfl (lv_at hl 0 rfl) ?_
        refine lv_iconst (v := 1) hx hb dX12_init__95 (by decide) ?_
        refine np_22 hx hb hts in_x_init_ hown hK hP hD hS (hts _ (List.mem_cons_of_mem _ (List.mem_append_left _ (List.mem_append_left _ (List.mem_of_getElem? (i := 17) rfl))))) dX12_init__96 (fun H locs hP hD hS => ?_)
        exact ih.2.2.2.2.2.2.2.2.2.2.2.2.2.2.2.2.2.2.2.1 L (upd σ.1 22 1, σ.2.1, σ.2.2) r h H locs ls hP hD hS (lv_sub hl [0] rfl)
      · intro L σ r h H locs ls hP hD hS hl
        rw [x_init_] at h
        refine lv_aload_n hx hb dX12_init__99 rfl (lv_at hl 0 rfl) ?_
        refine lv_iconst (v := 0) hx hb dX12_init__100 (by decide) ?_
        refine np_24 hx hb hts in_x_init_ hown hK hP hD hS (hts _ (List.mem_cons_of_mem _ (List.mem_append_left _ (List.mem_append_left _ (List.mem_of_getElem? (i := 18) rfl))))) dX12_init__101 (fun H locs hP hD hS => ?_)
        exact ih.2.2.2.2.2.2.2.2.2.2.2.2.2.2.2.2.2.2.2.2.1 L (upd σ.1 24 0, σ.2.1, σ.2.2) r h H locs ls hP hD hS (lv_sub hl [0] rfl)
      · intro L σ r h H locs ls hP hD hS hl
        rw [x_init_] at h
        refine lv_aload_n hx hb dX12_init__104 rfl (lv_at hl 0 rfl) ?_
        refine lv_iconst (v := 0) hx hb dX12_init__105 (by decide) ?_
        refine np_25 hx hb hts in_x_init_ hown hK hP hD hS (hts _ (List.mem_cons_of_mem _ (List.mem_append_left _ (List.mem_append_left _ (List.mem_of_getElem? (i := 19) rfl))))) dX12_init__106 (fun H locs hP hD hS => ?_)
        exact ih.2.2.2.2.2.2.2.2.2.2.2.2.2.2.2.2.2.2.2.2.2.1 L (upd σ.1 25 0, σ.2.1, σ.2.2) r h H locs ls hP hD hS (lv_sub hl [0] rfl)
      · intro L σ r h H locs ls hP hD hS hl
        rw [x_init_] at h
        refine lv_aload_n hx hb dX12_init__109 rfl (lv_at hl 0 rfl) ?_
        refine ng_36 hx hb hts in_x_init_ hown hK hP (hts _ (List.mem_cons_of_mem _ (List.mem_append_left _ (List.mem_append_left _ (List.mem_of_getElem? (i := 20) rfl))))) dX12_init__110 ?_
        refine lv_iconst (v := 0) hx hb dX12_init__113 (by decide) ?_
        refine lv_iconst (v := 0) hx hb dX12_init__114 (by decide) ?_
        obtain ⟨q1, h⟩ := nb_ite1 h
        refine ns_21 hx hb hK hP hD hS q1 dX12_init__115 (fun H locs hP hD hS => ?_)
        exact ih.2.2.2.2.2.2.2.2.2.2.2.2.2.2.2.2.2.2.2.2.2.2.1 L (σ.1, σ.2.1, updG σ.2.2 21 (upd (σ.2.2 21) (0 : Int32).toNatClampNeg 0)) r h H locs ls hP hD hS (lv_sub hl [0] rfl)
      · intro L σ r h H locs ls hP hD hS hl
        rw [x_init_] at h
        refine lv_aload_n hx hb dX12_init__116 rfl (lv_at hl 0 rfl) ?_
        refine lv_iconst (v := 0) hx hb dX12_init__117 (by decide) ?_
        refine np_44 hx hb hts in_x_init_ hown hK hP hD hS (hts _ (List.mem_cons_of_mem _ (List.mem_append_left _ (List.mem_append_left _ (List.mem_of_getElem? (i := 21) rfl))))) dX12_init__118 (fun H locs hP hD hS => ?_)
        exact ih.2.2.2.2.2.2.2.2.2.2.2.2.2.2.2.2.2.2.2.2.2.2.2.1 L (upd σ.1 44 0, σ.2.1, σ.2.2) r h H locs ls hP hD hS (lv_sub hl [0] rfl)
      · intro L σ r h H locs ls hP hD hS hl
        rw [x_init_] at h
        refine lv_aload_n hx hb dX12_init__121 rfl (lv_at hl 0 rfl) ?_
        refine lv_iconst (v := 0) hx hb dX12_init__122 (by decide) ?_
        refine np_31 hx hb hts in_x_init_ hown hK hP hD hS (hts _ (List.mem_cons_of_mem _ (List.mem_append_left _ (List.mem_append_left _ (List.mem_of_getElem? (i := 22) rfl))))) dX12_init__123 (fun H locs hP hD hS => ?_)
        exact ih.2.2.2.2.2.2.2.2.2.2.2.2.2.2.2.2.2.2.2.2.2.2.2.2.1 L (upd σ.1 31 0, σ.2.1, σ.2.2) r h H locs ls hP hD hS (lv_sub hl [0] rfl)
      · intro L σ r h H locs ls hP hD hS hl
        rw [x_init_] at h
        refine lv_aload_n hx hb dX12_init__126 rfl (lv_at hl 0 rfl) ?_
        refine ng_60 hx hb hts in_x_init_ hown hK hP (hts _ (List.mem_cons_of_mem _ (List.mem_append_left _ (List.mem_append_left _ (List.mem_of_getElem? (i := 23) rfl))))) dX12_init__127 ?_
        refine lv_iconst (v := 1) hx hb dX12_init__130 (by decide) ?_
        refine lv_iconst (v := 0) hx hb dX12_init__131 (by decide) ?_
        obtain ⟨q1, h⟩ := nb_ite1 h
        refine ns_30 hx hb hK hP hD hS q1 dX12_init__132 (fun H locs hP hD hS => ?_)
        exact ih.2.2.2.2.2.2.2.2.2.2.2.2.2.2.2.2.2.2.2.2.2.2.2.2.2.1 L (σ.1, σ.2.1, updG σ.2.2 30 (upd (σ.2.2 30) (1 : Int32).toNatClampNeg 0)) r h H locs ls hP hD hS (lv_sub hl [0] rfl)
      · intro L σ r h H locs ls hP hD hS hl
        rw [x_init_] at h
        refine lv_aload_n hx hb dX12_init__133 rfl (lv_at hl 0 rfl) ?_
        refine ng_60 hx hb hts in_x_init_ hown hK hP (hts _ (List.mem_cons_of_mem _ (List.mem_append_left _ (List.mem_append_left _ (List.mem_of_getElem? (i := 23) rfl))))) dX12_init__134 ?_
        refine lv_iconst (v := 3) hx hb dX12_init__137 (by decide) ?_
        refine lv_iconst (v := 0) hx hb dX12_init__138 (by decide) ?_
        obtain ⟨q1, h⟩ := nb_ite1 h
        refine ns_30 hx hb hK hP hD hS q1 dX12_init__139 (fun H locs hP hD hS => ?_)
        exact ih.2.2.2.2.2.2.2.2.2.2.2.2.2.2.2.2.2.2.2.2.2.2.2.2.2.2.1 L (σ.1, σ.2.1, updG σ.2.2 30 (upd (σ.2.2 30) (3 : Int32).toNatClampNeg 0)) r h H locs ls hP hD hS (lv_sub hl [0] rfl)
      · intro L σ r h H locs ls hP hD hS hl
        rw [x_init_] at h
        refine lv_aload_n hx hb dX12_init__140 rfl (lv_at hl 0 rfl) ?_
        refine ng_60 hx hb hts in_x_init_ hown hK hP (hts _ (List.mem_cons_of_mem _ (List.mem_append_left _ (List.mem_append_left _ (List.mem_of_getElem? (i := 23) rfl))))) dX12_init__141 ?_
        refine lv_iconst (v := 2) hx hb dX12_init__144 (by decide) ?_
        refine lv_iconst (v := 0) hx hb dX12_init__145 (by decide) ?_
        obtain ⟨q1, h⟩ := nb_ite1 h
        refine ns_30 hx hb hK hP hD hS q1 dX12_init__146 (fun H locs hP hD hS => ?_)
        exact ih.2.2.2.2.2.2.2.2.2.2.2.2.2.2.2.2.2.2.2.2.2.2.2.2.2.2.2.1 L (σ.1, σ.2.1, updG σ.2.2 30 (upd (σ.2.2 30) (2 : Int32).toNatClampNeg 0)) r h H locs ls hP hD hS (lv_sub hl [0] rfl)
      · intro L σ r h H locs ls hP hD hS hl
        rw [x_init_] at h
        refine lv_iconst (v := 0) hx hb dX12_init__147 (by decide) ?_
        refine lv_istore_n (lv' := [(1, .int 0), (0, .ref (a 0))]) hx hb dX12_init__148 rfl hl (by decide) rfl (fun ls hl => ?_)
        exact ih.2.2.2.2.2.2.2.2.2.2.2.2.2.2.2.2.2.2.2.2.2.2.2.2.2.2.2.2.1 (upd L 1 0) σ r h H locs ls hP hD hS (lv_sub hl [1, 0] rfl)
      · intro L σ r h H locs ls hP hD hS hl
        rw [x_init_] at h
        refine lv_iload_n hx hb dX12_init__149 rfl (lv_at hl 1 rfl) ?_
        refine lv_bipush (v := 60) hx hb dX12_init__150 (by decide) ?_
        refine lv_icmp_ge (tgt := 170) hx hb dX12_init__152 (by decide) (fun c1 => ?_) (fun c1 => ?_)
        · rw [if_pos c1] at h
          exact ih.2.2.2.2.2.2.2.2.2.2.2.2.2.2.2.2.2.2.2.2.2.2.2.2.2.2.2.2.2.2.1 L σ r h H locs ls hP hD hS (lv_sub hl [0, 1] rfl)
        · rw [if_neg c1] at h
          refine lv_aload_n hx hb dX12_init__155 rfl (lv_at hl 0 rfl) ?_
          refine ng_60 hx hb hts in_x_init_ hown hK hP (hts _ (List.mem_cons_of_mem _ (List.mem_append_left _ (List.mem_append_left _ (List.mem_of_getElem? (i := 23) rfl))))) dX12_init__156 ?_
          refine lv_iconst (v := 4) hx hb dX12_init__159 (by decide) ?_
          refine lv_iload_n hx hb dX12_init__160 rfl (lv_at hl 1 rfl) ?_
          refine lv_iadd hx hb dX12_init__161 ?_
          refine lv_iconst (v := 0) hx hb dX12_init__162 (by decide) ?_
          obtain ⟨q2, h⟩ := nb_ite1 h
          refine ns_30 hx hb hK hP hD hS q2 dX12_init__163 (fun H locs hP hD hS => ?_)
          exact ih.2.2.2.2.2.2.2.2.2.2.2.2.2.2.2.2.2.2.2.2.2.2.2.2.2.2.2.2.2.1 L (σ.1, σ.2.1, updG σ.2.2 30 (upd (σ.2.2 30) ((4 + ((L 1)))).toNatClampNeg 0)) r h H locs ls hP hD hS (lv_sub hl [0, 1] rfl)
      · intro L σ r h H locs ls hP hD hS hl
        rw [x_init_] at h
        refine lv_iinc (v := ((L 1)) + 1) (lv' := [(1, .int (((L 1)) + 1)), (0, .ref (a 0))]) hx hb dX12_init__164 hl (k := 1) rfl rfl (by decide) rfl (fun ls hl => ?_)
        refine lv_goto (tgt := 149) hx hb dX12_init__167 (by decide) ?_
        exact ih.2.2.2.2.2.2.2.2.2.2.2.2.2.2.2.2.2.2.2.2.2.2.2.2.2.2.2.2.1 (upd L 1 (((L 1)) + 1)) σ r h H locs ls hP hD hS (lv_sub hl [1, 0] rfl)
      · intro L σ r h H locs ls hP hD hS hl
        rw [x_init_] at h
        refine lv_iconst (v := 0) hx hb dX12_init__170 (by decide) ?_
        refine lv_istore_n (lv' := [(1, .int 0), (0, .ref (a 0))]) hx hb dX12_init__171 rfl hl (by decide) rfl (fun ls hl => ?_)
        exact ih.2.2.2.2.2.2.2.2.2.2.2.2.2.2.2.2.2.2.2.2.2.2.2.2.2.2.2.2.2.2.2.1 (upd L 1 0) σ r h H locs ls hP hD hS (lv_sub hl [1, 0] rfl)
      · intro L σ r h H locs ls hP hD hS hl
        rw [x_init_] at h
        refine lv_iload_n hx hb dX12_init__172 rfl (lv_at hl 1 rfl) ?_
        refine lv_sipush (v := 1380) hx hb dX12_init__173 (by decide) ?_
        refine lv_icmp_ge (tgt := 192) hx hb dX12_init__176 (by decide) (fun c1 => ?_) (fun c1 => ?_)
        · rw [if_pos c1] at h
          exact ih.2.2.2.2.2.2.2.2.2.2.2.2.2.2.2.2.2.2.2.2.2.2.2.2.2.2.2.2.2.2.2.2.2.1 L σ r h H locs ls hP hD hS (lv_sub hl [0, 1] rfl)
        · rw [if_neg c1] at h
          refine lv_aload_n hx hb dX12_init__179 rfl (lv_at hl 0 rfl) ?_
          refine ng_66 hx hb hts in_x_init_ hown hK hP (hts _ (List.mem_cons_of_mem _ (List.mem_append_left _ (List.mem_append_left _ (List.mem_of_getElem? (i := 24) rfl))))) dX12_init__180 ?_
          refine lv_iload_n hx hb dX12_init__183 rfl (lv_at hl 1 rfl) ?_
          refine lv_iconst (v := 0) hx hb dX12_init__184 (by decide) ?_
          obtain ⟨q2, h⟩ := nb_ite1 h
          refine ns_33 hx hb hK hP hD hS q2 dX12_init__185 (fun H locs hP hD hS => ?_)
          exact ih.2.2.2.2.2.2.2.2.2.2.2.2.2.2.2.2.2.2.2.2.2.2.2.2.2.2.2.2.2.2.2.2.1 L (σ.1, σ.2.1, updG σ.2.2 33 (upd (σ.2.2 33) ((L 1)).toNatClampNeg 0)) r h H locs ls hP hD hS (lv_sub hl [0, 1] rfl)
      · intro L σ r h H locs ls hP hD hS hl
        rw [x_init_] at h
        refine lv_iinc (v := ((L 1)) + 1) (lv' := [(1, .int (((L 1)) + 1)), (0, .ref (a 0))]) hx hb dX12_init__186 hl (k := 1) rfl rfl (by decide) rfl (fun ls hl => ?_)
        refine lv_goto (tgt := 172) hx hb dX12_init__189 (by decide) ?_
        exact ih.2.2.2.2.2.2.2.2.2.2.2.2.2.2.2.2.2.2.2.2.2.2.2.2.2.2.2.2.2.2.2.1 (upd L 1 (((L 1)) + 1)) σ r h H locs ls hP hD hS (lv_sub hl [1, 0] rfl)
      · intro L σ r h H locs ls hP hD hS hl
        rw [x_init_] at h
        refine lv_iconst (v := 0) hx hb dX12_init__192 (by decide) ?_
        refine lv_istore_n (lv' := [(1, .int 0), (0, .ref (a 0))]) hx hb dX12_init__193 rfl hl (by decide) rfl (fun ls hl => ?_)
        exact ih.2.2.2.2.2.2.2.2.2.2.2.2.2.2.2.2.2.2.2.2.2.2.2.2.2.2.2.2.2.2.2.2.2.2.1 (upd L 1 0) σ r h H locs ls hP hD hS (lv_sub hl [1, 0] rfl)
      · intro L σ r h H locs ls hP hD hS hl
        rw [x_init_] at h
        refine lv_iload_n hx hb dX12_init__194 rfl (lv_at hl 1 rfl) ?_
        refine lv_bipush (v := 8) hx hb dX12_init__195 (by decide) ?_
        refine lv_icmp_ge (tgt := 227) hx hb dX12_init__197 (by decide) (fun c1 => ?_) (fun c1 => ?_)
        · rw [if_pos c1] at h
          exact ih.2.2.2.2.2.2.2.2.2.2.2.2.2.2.2.2.2.2.2.2.2.2.2.2.2.2.2.2.2.2.2.2.2.2.2.2.2.2 L σ r h H locs ls hP hD hS (lv_sub hl [0, 1] rfl)
        · rw [if_neg c1] at h
          refine lv_aload_n hx hb dX12_init__200 rfl (lv_at hl 0 rfl) ?_
          refine ng_74 hx hb hts in_x_init_ hown hK hP (hts _ (List.mem_cons_of_mem _ (List.mem_append_left _ (List.mem_append_left _ (List.mem_of_getElem? (i := 25) rfl))))) dX12_init__201 ?_
          refine lv_iload_n hx hb dX12_init__204 rfl (lv_at hl 1 rfl) ?_
          refine lv_iconst (v := 0) hx hb dX12_init__205 (by decide) ?_
          obtain ⟨q2, h⟩ := nb_ite1 h
          refine ns_36 hx hb hK hP hD hS q2 dX12_init__206 (fun H locs hP hD hS => ?_)
          exact ih.2.2.2.2.2.2.2.2.2.2.2.2.2.2.2.2.2.2.2.2.2.2.2.2.2.2.2.2.2.2.2.2.2.2.2.1 L (σ.1, σ.2.1, updG σ.2.2 36 (upd (σ.2.2 36) ((L 1)).toNatClampNeg 0)) r h H locs ls hP hD hS (lv_sub hl [0, 1] rfl)
      · intro L σ r h H locs ls hP hD hS hl
        rw [x_init_] at h
        refine lv_aload_n hx hb dX12_init__207 rfl (lv_at hl 0 rfl) ?_
        refine ng_75 hx hb hts in_x_init_ hown hK hP (hts _ (List.mem_cons_of_mem _ (List.mem_append_left _ (List.mem_append_left _ (List.mem_of_getElem? (i := 26) rfl))))) dX12_init__208 ?_
        refine lv_iload_n hx hb dX12_init__211 rfl (lv_at hl 1 rfl) ?_
        refine lv_iconst (v := 0) hx hb dX12_init__212 (by decide) ?_
        obtain ⟨q1, h⟩ := nb_ite1 h
        refine ns_37 hx hb hK hP hD hS q1 dX12_init__213 (fun H locs hP hD hS => ?_)
        exact ih.2.2.2.2.2.2.2.2.2.2.2.2.2.2.2.2.2.2.2.2.2.2.2.2.2.2.2.2.2.2.2.2.2.2.2.2.1 L (σ.1, σ.2.1, updG σ.2.2 37 (upd (σ.2.2 37) ((L 1)).toNatClampNeg 0)) r h H locs ls hP hD hS (lv_sub hl [0, 1] rfl)
      · intro L σ r h H locs ls hP hD hS hl
        rw [x_init_] at h
        refine lv_aload_n hx hb dX12_init__214 rfl (lv_at hl 0 rfl) ?_
        refine ng_76 hx hb hts in_x_init_ hown hK hP (hts _ (List.mem_cons_of_mem _ (List.mem_append_left _ (List.mem_append_left _ (List.mem_of_getElem? (i := 27) rfl))))) dX12_init__215 ?_
        refine lv_iload_n hx hb dX12_init__218 rfl (lv_at hl 1 rfl) ?_
        refine lv_iconst (v := 0) hx hb dX12_init__219 (by decide) ?_
        obtain ⟨q1, h⟩ := nb_ite1 h
        refine ns_38 hx hb hK hP hD hS q1 dX12_init__220 (fun H locs hP hD hS => ?_)
        exact ih.2.2.2.2.2.2.2.2.2.2.2.2.2.2.2.2.2.2.2.2.2.2.2.2.2.2.2.2.2.2.2.2.2.2.2.2.2.1 L (σ.1, σ.2.1, updG σ.2.2 38 (upd (σ.2.2 38) ((L 1)).toNatClampNeg 0)) r h H locs ls hP hD hS (lv_sub hl [0, 1] rfl)
      · intro L σ r h H locs ls hP hD hS hl
        rw [x_init_] at h
        refine lv_iinc (v := ((L 1)) + 1) (lv' := [(1, .int (((L 1)) + 1)), (0, .ref (a 0))]) hx hb dX12_init__221 hl (k := 1) rfl rfl (by decide) rfl (fun ls hl => ?_)
        refine lv_goto (tgt := 194) hx hb dX12_init__224 (by decide) ?_
        exact ih.2.2.2.2.2.2.2.2.2.2.2.2.2.2.2.2.2.2.2.2.2.2.2.2.2.2.2.2.2.2.2.2.2.2.1 (upd L 1 (((L 1)) + 1)) σ r h H locs ls hP hD hS (lv_sub hl [1, 0] rfl)
      · intro L σ r h H locs ls hP hD hS hl
        rw [x_init_] at h
        cases h
        exact W.vret hx hb hr (fun t ht hW => ⟨⟨(), rfl, trivial, by rw [ht]; exact hP, va_K.moved hW.alike hK, hD⟩, hS.F ht⟩) hS.2.2 dX12_init__227
  exact (blk k0).1 L0 σ0 r0 h0 s.heap [] ls hP hD hS hl
/-! thrown -/
def x_thrown : Nat → Nat → (Nat → Int32) → MS → Option (Int32 × MS)
  | 0, _, _, _ => none
  | k + 1, 0, L, σ => some ((σ.1 2), σ)
  | _ + 1, _ + 1, _, _ => none
def o_x_thrown : List Cond := [.fieldLink RX12 993 "SetHouseModel" "code" "I"]
theorem o_x_thrown_good : o_x_thrown.all goodWord = true := by decide +kernel
def p_x_thrown : List Cond := o_x_thrown ++ []
theorem p_x_thrown_good : p_x_thrown.all goodWord = true := nb_all2 o_x_thrown_good rfl
def w_x_thrown : List Cond := .code yX12_thrown cX12_thrown 1 (some .int) :: (p_x_thrown ++ fM)
theorem w_x_thrown_good : w_x_thrown.all goodWord = true := nb_allc (by decide +kernel) (nb_all2 p_x_thrown_good fM_good)
theorem in_x_thrown : ∀ w ∈ wsX120, w ∈ w_x_thrown := fun _ h => List.mem_cons_of_mem _ (List.mem_append_right _ h)
theorem hd_x_thrown : yX12_thrown.cls = RX12 ∧ yX12_thrown.cls ≠ "java/lang/invoke/MethodHandle" ∧ yX12_thrown.cls ≠ "java/lang/invoke/VarHandle" ∧ (parseMethodDescriptor yX12_thrown.desc).map (fun d => d.parameters.length) = some 0 := by decide +kernel
set_option maxHeartbeats 40000000 in
set_option maxRecDepth 100000 in
theorem c_x_thrown (l : Launch) (dC : Nat → ClassId) (dI : Nat → Nat → Nat) (cy : Nat → ClassId) (a : Nat → Nat) (k0 : Nat) (L0 : Nat → Int32) (σ0 : MS) (r0 : Int32 × MS) (h0 : x_thrown k0 0 L0 σ0 = some r0) (sz : Nat) : Met l yX12_thrown w_x_thrown ({ frames := 0, cells := 0, slots := 0, locals := 0 }) (va_Pc [.ref (a 0)] (nIn (dC, dI) cy sz (vM cy a σ0))) (va_Qi (fun (z : Int32) (_ : Unit) => z = r0.1) (fun _ t => nOut (dC, dI) cy (va_A (vM cy a σ0) sz) (vM cy a r0.2) t) (va_A (vM cy a σ0) sz)) 0 0 (va_A (vM cy a σ0) sz) := by
  refine Met.ofW (cc := cX12_thrown) (maxL := 1) (ret := (some .int)) (by decide) rfl ?_
  intro p e s m args below meth c s₁ B hml hv
  obtain ⟨rfl, hsz, hP, hK, hD0, hG⟩ := hv
  have hx := B.exec
  have hb := B.bytes
  have hr := B.returns
  have hts := atoms_spec (ws := w_x_thrown) B.pre
  have hown : s.vm.findClass RX12 = some m.cls := findClass_of_methodNamed B.named
  have hlocks := B.notSynchronized
  subst hsz
  have hD := hD0.self (sz := s.heap.size)
  generalize hAe : va_A (vM cy a σ0) s.heap.size = A at hD ⊢
  have hA : ∀ q : Nat, s.heap.size ≤ q → A q := fun q h => by rw [← hAe]; exact Or.inr h
  have hS : va_S A s.heap s.heap [] := va_S.rf
  have hl := lv_entry ([.ref (a 0)]) (n := 1) (Nat.le_of_ble_eq_true rfl)
  rw [lg_entry_eq]
  generalize (lg_sl ([.ref (a 0)]) ++ List.replicate (1 - (lg_sl ([.ref (a 0)])).length) Slot.unset).toArray = ls at hl ⊢
  have hl : lv_has ls 1 [(0, .ref (a 0))] := hl
  have blk : ∀ k : Nat, (bT p l e (headSpec w_x_thrown ({ frames := 0, cells := 0, slots := 0, locals := 0 })).room s m #[.ref (a 0)] below meth c dC dI cy a A (qI dC dI cy a A below #[.ref (a 0)] s) 1 (x_thrown k 0) (fun L => [(0, .ref (a 0))]) 0 (fun L => [])) := by
    intro k
    induction k with
    | zero => exact fun L σ r h => (by cases h)
    | succ k ih =>
      skip
      · intro L σ r h H locs ls hP hD hS hl
        rw [x_thrown] at h
        refine lv_aload_n hx hb dX12_thrown_0 rfl (lv_at hl 0 rfl) ?_
        refine ng_2 hx hb hts in_x_thrown hown hK hP (hts _ (List.mem_cons_of_mem _ (List.mem_append_left _ (List.mem_append_left _ (List.mem_of_getElem? (i := 0) rfl))))) dX12_thrown_1 ?_
        cases h
        exact W.iret (v := (σ.1 2)) hx hb hr (fun t ht hW => ⟨⟨(σ.1 2), (), rfl, rfl, by rw [ht]; exact hP, va_K.moved hW.alike hK, hD⟩, hS.F ht⟩) hS.2.2 dX12_thrown_4
  exact (blk k0) L0 σ0 r0 h0 s.heap [] ls hP hD hS hl
/-! feed -/
def x_feed : Nat → Nat → (Nat → Int32) → MS → Option (Int32 × MS)
  | 0, _, _, _ => none
  | k + 1, 0, L, σ => if ((((σ.1 4)) + 20)) ≤ 32768 then (x_feed k 1 L σ) else (x_feed k 2 (upd L 100 1) σ)
  | k + 1, 1, L, σ => x_feed k 2 (upd L 100 0) σ
  | k + 1, 2, L, σ => ob (x_good k 0 (upd (fun _ => 0) 1 ((L 100))) σ) (fun r1 => if r1.1 = 0 then (some (0, r1.2)) else (x_feed k 3 L r1.2))
  | k + 1, 3, L, σ => x_feed k 4 (upd L 6 0) σ
  | k + 1, 4, L, σ => if 20 ≤ ((L 6)) then (x_feed k 12 L σ) else (if 4 ≤ ((L 6)) then (x_feed k 5 L σ) else (x_feed k 9 (upd L 100 ((L 1))) σ))
  | k + 1, 5, L, σ => if 8 ≤ ((L 6)) then (x_feed k 6 L σ) else (x_feed k 9 (upd L 100 ((L 2))) σ)
  | k + 1, 6, L, σ => if 12 ≤ ((L 6)) then (x_feed k 7 L σ) else (x_feed k 9 (upd L 100 ((L 3))) σ)
  | k + 1, 7, L, σ => if 16 ≤ ((L 6)) then (x_feed k 8 L σ) else (x_feed k 9 (upd L 100 ((L 4))) σ)
  | k + 1, 8, L, σ => x_feed k 9 (upd L 100 ((L 5))) σ
  | k + 1, 9, L, σ => if (4 : Int32) = 0 then none else (if ¬ (((σ.1 4)) < 0 ∨ 32768 ≤ ((σ.1 4)).toNatClampNeg) then (x_feed k 10 (upd L 7 ((L 100))) (σ.1, σ.2.1, updG σ.2.2 3 (upd (σ.2.2 3) ((σ.1 4)).toNatClampNeg (((((((L 100)).toUInt32 >>> (((24 - ((((((L 6)) - ((L 6)) / 4 * 4)) * 8)))).toUInt32 &&& Int32.toUInt32 31)).toInt32)) &&& 255))))) else none)
  | k + 1, 10, L, σ => x_feed k 11 L (upd σ.1 4 ((((σ.1 4)) + 1)), σ.2.1, σ.2.2)
  | k + 1, 11, L, σ => x_feed k 4 (upd L 6 (((L 6)) + 1)) σ
  | k + 1, 12, L, σ => some ((σ.1 4), σ)
  | _ + 1, _ + 13, _, _ => none
def o_x_feed : List Cond := [.fieldLink RX12 1 "SetHouseModel" "taped" "I", .constant RX12 1001 (32768), .methodLink RX12 1050 yX12_good, .instanceMethod yX12_good, .selects RX12 yX12_good yX12_good, .initialized RX12, .fieldLink RX12 7 "SetHouseModel" "tape" "[I"]
theorem o_x_feed_good : o_x_feed.all goodWord = true := by decide +kernel
def p_x_feed : List Cond := o_x_feed ++ ((.code yX12_good cX12_good 2 (some .boolean) :: p_x_good) ++ [])
theorem p_x_feed_good : p_x_feed.all goodWord = true := nb_all2 o_x_feed_good (nb_all2 (nb_allc (by decide +kernel) p_x_good_good) rfl)
def w_x_feed : List Cond := .code yX12_feed cX12_feed 8 (some .int) :: (p_x_feed ++ fM)
theorem w_x_feed_good : w_x_feed.all goodWord = true := nb_allc (by decide +kernel) (nb_all2 p_x_feed_good fM_good)
theorem in_x_feed : ∀ w ∈ wsX120, w ∈ w_x_feed := fun _ h => List.mem_cons_of_mem _ (List.mem_append_right _ h)
theorem hd_x_feed : yX12_feed.cls = RX12 ∧ yX12_feed.cls ≠ "java/lang/invoke/MethodHandle" ∧ yX12_feed.cls ≠ "java/lang/invoke/VarHandle" ∧ (parseMethodDescriptor yX12_feed.desc).map (fun d => d.parameters.length) = some 5 := by decide +kernel
theorem gg_x_feed_good : GoodIn w_x_feed w_x_good := goodIn_sub (fun w h => (List.mem_cons.mp h).elim (fun e => (List.mem_cons_of_mem _ (List.mem_append_left _ (List.mem_append_right _ (List.mem_append_left _ (List.mem_cons.mpr (Or.inl e))))))) (fun h => (List.mem_append.mp h).elim (fun h => (List.mem_cons_of_mem _ (List.mem_append_left _ (List.mem_append_right _ (List.mem_append_left _ (List.mem_cons_of_mem _ h)))))) (fun h => List.mem_cons_of_mem _ (List.mem_append_right _ h)))) w_x_good_good
theorem g_x_feed_good_1050 : GoodIn w_x_feed (wsV RX12 1050 RX12 yX12_good w_x_good) := goodIn_app (nb_g4 (List.mem_cons_of_mem _ (List.mem_append_left _ (List.mem_append_left _ (List.mem_of_getElem? (i := 2) rfl)))) (List.mem_cons_of_mem _ (List.mem_append_left _ (List.mem_append_left _ (List.mem_of_getElem? (i := 3) rfl)))) (List.mem_cons_of_mem _ (List.mem_append_left _ (List.mem_append_left _ (List.mem_of_getElem? (i := 4) rfl)))) (List.mem_cons_of_mem _ (List.mem_append_left _ (List.mem_append_left _ (List.mem_of_getElem? (i := 5) rfl)))) (by decide +kernel)) gg_x_feed_good
set_option maxHeartbeats 40000000 in
set_option maxRecDepth 100000 in
theorem c_x_feed (l : Launch) (dC : Nat → ClassId) (dI : Nat → Nat → Nat) (cy : Nat → ClassId) (a : Nat → Nat) (k0 : Nat) (L0 : Nat → Int32) (σ0 : MS) (r0 : Int32 × MS) (h0 : x_feed k0 0 L0 σ0 = some r0) (sz : Nat) : Met l yX12_feed w_x_feed ({ frames := 1, cells := 0, slots := 0, locals := 21 }) (va_Pc [.ref (a 0), .int (L0 1), .int (L0 2), .int (L0 3), .int (L0 4), .int (L0 5)] (nIn (dC, dI) cy sz (vM cy a σ0))) (va_Qi (fun (z : Int32) (_ : Unit) => z = r0.1) (fun _ t => nOut (dC, dI) cy (va_A (vM cy a σ0) sz) (vM cy a r0.2) t) (va_A (vM cy a σ0) sz)) 0 0 (va_A (vM cy a σ0) sz) := by
  refine Met.ofW (cc := cX12_feed) (maxL := 8) (ret := (some .int)) (by decide) rfl ?_
  intro p e s m args below meth c s₁ B hml hv
  obtain ⟨rfl, hsz, hP, hK, hD0, hG⟩ := hv
  have hx := B.exec
  have hb := B.bytes
  have hr := B.returns
  have hts := atoms_spec (ws := w_x_feed) B.pre
  have hown : s.vm.findClass RX12 = some m.cls := findClass_of_methodNamed B.named
  have hlocks := B.notSynchronized
  subst hsz
  have hD := hD0.self (sz := s.heap.size)
  generalize hAe : va_A (vM cy a σ0) s.heap.size = A at hD ⊢
  have hA : ∀ q : Nat, s.heap.size ≤ q → A q := fun q h => by rw [← hAe]; exact Or.inr h
  have hS : va_S A s.heap s.heap [] := va_S.rf
  have hl := lv_entry ([.ref (a 0), .int (L0 1), .int (L0 2), .int (L0 3), .int (L0 4), .int (L0 5)]) (n := 8) (Nat.le_of_ble_eq_true rfl)
  rw [lg_entry_eq]
  generalize (lg_sl ([.ref (a 0), .int (L0 1), .int (L0 2), .int (L0 3), .int (L0 4), .int (L0 5)]) ++ List.replicate (8 - (lg_sl ([.ref (a 0), .int (L0 1), .int (L0 2), .int (L0 3), .int (L0 4), .int (L0 5)])).length) Slot.unset).toArray = ls at hl ⊢
  have hl : lv_has ls 8 [(0, .ref (a 0)), (1, .int (L0 1)), (2, .int (L0 2)), (3, .int (L0 3)), (4, .int (L0 4)), (5, .int (L0 5))] := hl
  have blk : ∀ k : Nat, (bT p l e (headSpec w_x_feed ({ frames := 1, cells := 0, slots := 0, locals := 21 })).room s m #[.ref (a 0), .int (L0 1), .int (L0 2), .int (L0 3), .int (L0 4), .int (L0 5)] below meth c dC dI cy a A (qI dC dI cy a A below #[.ref (a 0), .int (L0 1), .int (L0 2), .int (L0 3), .int (L0 4), .int (L0 5)] s) 8 (x_feed k 0) (fun L => [(0, .ref (a 0)), (1, .int (L 1)), (2, .int (L 2)), (3, .int (L 3)), (4, .int (L 4)), (5, .int (L 5))]) 0 (fun L => [])) ∧ (bT p l e (headSpec w_x_feed ({ frames := 1, cells := 0, slots := 0, locals := 21 })).room s m #[.ref (a 0), .int (L0 1), .int (L0 2), .int (L0 3), .int (L0 4), .int (L0 5)] below meth c dC dI cy a A (qI dC dI cy a A below #[.ref (a 0), .int (L0 1), .int (L0 2), .int (L0 3), .int (L0 4), .int (L0 5)] s) 8 (x_feed k 1) (fun L => [(0, .ref (a 0)), (1, .int (L 1)), (2, .int (L 2)), (3, .int (L 3)), (4, .int (L 4)), (5, .int (L 5))]) 18 (fun L => [.ref (a 0)])) ∧ (bT p l e (headSpec w_x_feed ({ frames := 1, cells := 0, slots := 0, locals := 21 })).room s m #[.ref (a 0), .int (L0 1), .int (L0 2), .int (L0 3), .int (L0 4), .int (L0 5)] below meth c dC dI cy a A (qI dC dI cy a A below #[.ref (a 0), .int (L0 1), .int (L0 2), .int (L0 3), .int (L0 4), .int (L0 5)] s) 8 (x_feed k 2) (fun L => [(0, .ref (a 0)), (1, .int (L 1)), (2, .int (L 2)), (3, .int (L 3)), (4, .int (L 4)), (5, .int (L 5))]) 19 (fun L => [.int (L 100), .ref (a 0)])) ∧ (bT p l e (headSpec w_x_feed ({ frames := 1, cells := 0, slots := 0, locals := 21 })).room s m #[.ref (a 0), .int (L0 1), .int (L0 2), .int (L0 3), .int (L0 4), .int (L0 5)] below meth c dC dI cy a A (qI dC dI cy a A below #[.ref (a 0), .int (L0 1), .int (L0 2), .int (L0 3), .int (L0 4), .int (L0 5)] s) 8 (x_feed k 3) (fun L => [(0, .ref (a 0)), (1, .int (L 1)), (2, .int (L 2)), (3, .int (L 3)), (4, .int (L 4)), (5, .int (L 5))]) 27 (fun L => [])) ∧ (bT p l e (headSpec w_x_feed ({ frames := 1, cells := 0, slots := 0, locals := 21 })).room s m #[.ref (a 0), .int (L0 1), .int (L0 2), .int (L0 3), .int (L0 4), .int (L0 5)] below meth c dC dI cy a A (qI dC dI cy a A below #[.ref (a 0), .int (L0 1), .int (L0 2), .int (L0 3), .int (L0 4), .int (L0 5)] s) 8 (x_feed k 4) (fun L => [(0, .ref (a 0)), (1, .int (L 1)), (2, .int (L 2)), (3, .int (L 3)), (4, .int (L 4)), (5, .int (L 5)), (6, .int (L 6))]) 30 (fun L => [])) ∧ (bT p l e (headSpec w_x_feed ({ frames := 1, cells := 0, slots := 0, locals := 21 })).room s m #[.ref (a 0), .int (L0 1), .int (L0 2), .int (L0 3), .int (L0 4), .int (L0 5)] below meth c dC dI cy a A (qI dC dI cy a A below #[.ref (a 0), .int (L0 1), .int (L0 2), .int (L0 3), .int (L0 4), .int (L0 5)] s) 8 (x_feed k 5) (fun L => [(0, .ref (a 0)), (1, .int (L 1)), (2, .int (L 2)), (3, .int (L 3)), (4, .int (L 4)), (5, .int (L 5)), (6, .int (L 6))]) 47 (fun L => [])) ∧ (bT p l e (headSpec w_x_feed ({ frames := 1, cells := 0, slots := 0, locals := 21 })).room s m #[.ref (a 0), .int (L0 1), .int (L0 2), .int (L0 3), .int (L0 4), .int (L0 5)] below meth c dC dI cy a A (qI dC dI cy a A below #[.ref (a 0), .int (L0 1), .int (L0 2), .int (L0 3), .int (L0 4), .int (L0 5)] s) 8 (x_feed k 6) (fun L => [(0, .ref (a 0)), (1, .int (L 1)), (2, .int (L 2)), (3, .int (L 3)), (4, .int (L 4)), (5, .int (L 5)), (6, .int (L 6))]) 58 (fun L => [])) ∧ (bT p l e (headSpec w_x_feed ({ frames := 1, cells := 0, slots := 0, locals := 21 })).room s m #[.ref (a 0), .int (L0 1), .int (L0 2), .int (L0 3), .int (L0 4), .int (L0 5)] below meth c dC dI cy a A (qI dC dI cy a A below #[.ref (a 0), .int (L0 1), .int (L0 2), .int (L0 3), .int (L0 4), .int (L0 5)] s) 8 (x_feed k 7) (fun L => [(0, .ref (a 0)), (1, .int (L 1)), (2, .int (L 2)), (3, .int (L 3)), (4, .int (L 4)), (5, .int (L 5)), (6, .int (L 6))]) 69 (fun L => [])) ∧ (bT p l e (headSpec w_x_feed ({ frames := 1, cells := 0, slots := 0, locals := 21 })).room s m #[.ref (a 0), .int (L0 1), .int (L0 2), .int (L0 3), .int (L0 4), .int (L0 5)] below meth c dC dI cy a A (qI dC dI cy a A below #[.ref (a 0), .int (L0 1), .int (L0 2), .int (L0 3), .int (L0 4), .int (L0 5)] s) 8 (x_feed k 8) (fun L => [(0, .ref (a 0)), (1, .int (L 1)), (2, .int (L 2)), (3, .int (L 3)), (4, .int (L 4)), (5, .int (L 5)), (6, .int (L 6))]) 81 (fun L => [])) ∧ (bT p l e (headSpec w_x_feed ({ frames := 1, cells := 0, slots := 0, locals := 21 })).room s m #[.ref (a 0), .int (L0 1), .int (L0 2), .int (L0 3), .int (L0 4), .int (L0 5)] below meth c dC dI cy a A (qI dC dI cy a A below #[.ref (a 0), .int (L0 1), .int (L0 2), .int (L0 3), .int (L0 4), .int (L0 5)] s) 8 (x_feed k 9) (fun L => [(0, .ref (a 0)), (1, .int (L 1)), (2, .int (L 2)), (3, .int (L 3)), (4, .int (L 4)), (5, .int (L 5)), (6, .int (L 6))]) 83 (fun L => [.int (L 100)])) ∧ (bT p l e (headSpec w_x_feed ({ frames := 1, cells := 0, slots := 0, locals := 21 })).room s m #[.ref (a 0), .int (L0 1), .int (L0 2), .int (L0 3), .int (L0 4), .int (L0 5)] below meth c dC dI cy a A (qI dC dI cy a A below #[.ref (a 0), .int (L0 1), .int (L0 2), .int (L0 3), .int (L0 4), .int (L0 5)] s) 8 (x_feed k 10) (fun L => [(0, .ref (a 0)), (1, .int (L 1)), (2, .int (L 2)), (3, .int (L 3)), (4, .int (L 4)), (5, .int (L 5)), (6, .int (L 6)), (7, .int (L 7))]) 111 (fun L => [])) ∧ (bT p l e (headSpec w_x_feed ({ frames := 1, cells := 0, slots := 0, locals := 21 })).room s m #[.ref (a 0), .int (L0 1), .int (L0 2), .int (L0 3), .int (L0 4), .int (L0 5)] below meth c dC dI cy a A (qI dC dI cy a A below #[.ref (a 0), .int (L0 1), .int (L0 2), .int (L0 3), .int (L0 4), .int (L0 5)] s) 8 (x_feed k 11) (fun L => [(0, .ref (a 0)), (1, .int (L 1)), (2, .int (L 2)), (3, .int (L 3)), (4, .int (L 4)), (5, .int (L 5)), (6, .int (L 6)), (7, .int (L 7))]) 121 (fun L => [])) ∧ (bT p l e (headSpec w_x_feed ({ frames := 1, cells := 0, slots := 0, locals := 21 })).room s m #[.ref (a 0), .int (L0 1), .int (L0 2), .int (L0 3), .int (L0 4), .int (L0 5)] below meth c dC dI cy a A (qI dC dI cy a A below #[.ref (a 0), .int (L0 1), .int (L0 2), .int (L0 3), .int (L0 4), .int (L0 5)] s) 8 (x_feed k 12) (fun L => [(0, .ref (a 0)), (1, .int (L 1)), (2, .int (L 2)), (3, .int (L 3)), (4, .int (L 4)), (5, .int (L 5)), (6, .int (L 6))]) 127 (fun L => [])) := by
    intro k
    induction k with
    | zero => exact ⟨fun L σ r h => (by cases h), fun L σ r h => (by cases h), fun L σ r h => (by cases h), fun L σ r h => (by cases h), fun L σ r h => (by cases h), fun L σ r h => (by cases h), fun L σ r h => (by cases h), fun L σ r h => (by cases h), fun L σ r h => (by cases h), fun L σ r h => (by cases h), fun L σ r h => (by cases h), fun L σ r h => (by cases h), fun L σ r h => (by cases h)⟩
    | succ k ih =>
      refine ⟨?_, ?_, ?_, ?_, ?_, ?_, ?_, ?_, ?_, ?_, ?_, ?_, ?_⟩
      · intro L σ r h H locs ls hP hD hS hl
        rw [x_feed] at h
        refine lv_aload_n hx hb dX12_feed_0 rfl (lv_at hl 0 rfl) ?_
        refine lv_aload_n hx hb dX12_feed_1 rfl (lv_at hl 0 rfl) ?_
        refine ng_4 hx hb hts in_x_feed hown hK hP (hts _ (List.mem_cons_of_mem _ (List.mem_append_left _ (List.mem_append_left _ (List.mem_of_getElem? (i := 0) rfl))))) dX12_feed_2 ?_
        refine lv_bipush (v := 20) hx hb dX12_feed_5 (by decide) ?_
        refine lv_iadd hx hb dX12_feed_7 ?_
        refine lv_ldcw (v := 32768) hx hb hown (hts _ (List.mem_cons_of_mem _ (List.mem_append_left _ (List.mem_append_left _ (List.mem_of_getElem? (i := 1) rfl))))) dX12_feed_8 ?_
        refine lv_icmp_le (tgt := 18) hx hb dX12_feed_11 (by decide) (fun c1 => ?_) (fun c1 => ?_)
        · rw [if_pos c1] at h
          exact ih.2.1 L σ r h H locs ls hP hD hS (lv_sub hl [0, 1, 2, 3, 4, 5] rfl)
        · rw [if_neg c1] at h
          refine lv_iconst (v := 1) hx hb dX12_feed_14 (by decide) ?_
          refine lv_goto (tgt := 19) hx hb dX12_feed_15 (by decide) ?_
          exact ih.2.2.1 (upd L 100 1) σ r h H locs ls hP hD hS (lv_sub hl [0, 1, 2, 3, 4, 5] rfl)
      · intro L σ r h H locs ls hP hD hS hl
        rw [x_feed] at h
        refine lv_iconst (v := 0) hx hb dX12_feed_18 (by decide) ?_
        exact ih.2.2.1 (upd L 100 0) σ r h H locs ls hP hD hS (lv_sub hl [0, 1, 2, 3, 4, 5] rfl)
      · intro L σ r h H locs ls hP hD hS hl
        rw [x_feed] at h
        obtain ⟨r1, hc1, h⟩ := ob_ex h
        refine nc_Vi (As := [.int (L 100)]) (rest := []) ⟨hx, hb, hml, hown, hts⟩ (c_x_good l dC dI cy a k (upd (fun _ => 0) 1 ((L 100))) σ r1 hc1 H.size) (cwV 1 hts g_x_feed_good_1050 rfl rfl rfl hd_x_good ⟨Nat.le_of_ble_eq_true rfl, Nat.le_of_ble_eq_true rfl⟩) hK hG hA hP hD hS rfl hl.1 rfl (Nat.le_of_ble_eq_true rfl) dX12_feed_19 ⟨Nat.le_refl _, Nat.le_refl _⟩ (fun H locs hP hD hS => ?_)
        refine lv_if_ne (tgt := 27) hx hb dX12_feed_22 (by decide) (fun c2 => ?_) (fun c2 => ?_)
        · rw [if_neg c2] at h
          exact ih.2.2.2.1 L r1.2 r h H locs ls hP hD hS (lv_sub hl [0, 1, 2, 3, 4, 5] rfl)
        · rw [if_pos c2] at h
          refine lv_iconst (v := 0) hx hb dX12_feed_25 (by decide) ?_
          cases h
          exact W.iret (v := 0) hx hb hr (fun t ht hW => ⟨⟨0, (), rfl, rfl, by rw [ht]; exact hP, va_K.moved hW.alike hK, hD⟩, hS.F ht⟩) hS.2.2 dX12_feed_26
      · intro L σ r h H locs ls hP hD hS hl
        rw [x_feed] at h
        refine lv_iconst (v := 0) hx hb dX12_feed_27 (by decide) ?_
        refine lv_istore (lv' := [(6, .int 0), (0, .ref (a 0)), (1, .int (L 1)), (2, .int (L 2)), (3, .int (L 3)), (4, .int (L 4)), (5, .int (L 5))]) hx hb dX12_feed_28 hl (by decide) rfl (fun ls hl => ?_)
        exact ih.2.2.2.2.1 (upd L 6 0) σ r h H locs ls hP hD hS (lv_sub hl [1, 2, 3, 4, 5, 6, 0] rfl)
      · intro L σ r h H locs ls hP hD hS hl
        rw [x_feed] at h
        refine lv_iload hx hb dX12_feed_30 (lv_at hl 6 rfl) ?_
        refine lv_bipush (v := 20) hx hb dX12_feed_32 (by decide) ?_
        refine lv_icmp_ge (tgt := 127) hx hb dX12_feed_34 (by decide) (fun c1 => ?_) (fun c1 => ?_)
        · rw [if_pos c1] at h
          exact ih.2.2.2.2.2.2.2.2.2.2.2.2 L σ r h H locs ls hP hD hS (lv_sub hl [0, 1, 2, 3, 4, 5, 6] rfl)
        · rw [if_neg c1] at h
          refine lv_iload hx hb dX12_feed_37 (lv_at hl 6 rfl) ?_
          refine lv_iconst (v := 4) hx hb dX12_feed_39 (by decide) ?_
          refine lv_icmp_ge (tgt := 47) hx hb dX12_feed_40 (by decide) (fun c2 => ?_) (fun c2 => ?_)
          · rw [if_pos c2] at h
            exact ih.2.2.2.2.2.1 L σ r h H locs ls hP hD hS (lv_sub hl [0, 1, 2, 3, 4, 5, 6] rfl)
          · rw [if_neg c2] at h
            refine lv_iload_n hx hb dX12_feed_43 rfl (lv_at hl 1 rfl) ?_
            refine lv_goto (tgt := 83) hx hb dX12_feed_44 (by decide) ?_
            exact ih.2.2.2.2.2.2.2.2.2.1 (upd L 100 ((L 1))) σ r h H locs ls hP hD hS (lv_sub hl [0, 1, 2, 3, 4, 5, 6] rfl)
      · intro L σ r h H locs ls hP hD hS hl
        rw [x_feed] at h
        refine lv_iload hx hb dX12_feed_47 (lv_at hl 6 rfl) ?_
        refine lv_bipush (v := 8) hx hb dX12_feed_49 (by decide) ?_
        refine lv_icmp_ge (tgt := 58) hx hb dX12_feed_51 (by decide) (fun c1 => ?_) (fun c1 => ?_)
        · rw [if_pos c1] at h
          exact ih.2.2.2.2.2.2.1 L σ r h H locs ls hP hD hS (lv_sub hl [0, 1, 2, 3, 4, 5, 6] rfl)
        · rw [if_neg c1] at h
          refine lv_iload_n hx hb dX12_feed_54 rfl (lv_at hl 2 rfl) ?_
          refine lv_goto (tgt := 83) hx hb dX12_feed_55 (by decide) ?_
          exact ih.2.2.2.2.2.2.2.2.2.1 (upd L 100 ((L 2))) σ r h H locs ls hP hD hS (lv_sub hl [0, 1, 2, 3, 4, 5, 6] rfl)
      · intro L σ r h H locs ls hP hD hS hl
        rw [x_feed] at h
        refine lv_iload hx hb dX12_feed_58 (lv_at hl 6 rfl) ?_
        refine lv_bipush (v := 12) hx hb dX12_feed_60 (by decide) ?_
        refine lv_icmp_ge (tgt := 69) hx hb dX12_feed_62 (by decide) (fun c1 => ?_) (fun c1 => ?_)
        · rw [if_pos c1] at h
          exact ih.2.2.2.2.2.2.2.1 L σ r h H locs ls hP hD hS (lv_sub hl [0, 1, 2, 3, 4, 5, 6] rfl)
        · rw [if_neg c1] at h
          refine lv_iload_n hx hb dX12_feed_65 rfl (lv_at hl 3 rfl) ?_
          refine lv_goto (tgt := 83) hx hb dX12_feed_66 (by decide) ?_
          exact ih.2.2.2.2.2.2.2.2.2.1 (upd L 100 ((L 3))) σ r h H locs ls hP hD hS (lv_sub hl [0, 1, 2, 3, 4, 5, 6] rfl)
      · intro L σ r h H locs ls hP hD hS hl
        rw [x_feed] at h
        refine lv_iload hx hb dX12_feed_69 (lv_at hl 6 rfl) ?_
        refine lv_bipush (v := 16) hx hb dX12_feed_71 (by decide) ?_
        refine lv_icmp_ge (tgt := 81) hx hb dX12_feed_73 (by decide) (fun c1 => ?_) (fun c1 => ?_)
        · rw [if_pos c1] at h
          exact ih.2.2.2.2.2.2.2.2.1 L σ r h H locs ls hP hD hS (lv_sub hl [0, 1, 2, 3, 4, 5, 6] rfl)
        · rw [if_neg c1] at h
          refine lv_iload hx hb dX12_feed_76 (lv_at hl 4 rfl) ?_
          refine lv_goto (tgt := 83) hx hb dX12_feed_78 (by decide) ?_
          exact ih.2.2.2.2.2.2.2.2.2.1 (upd L 100 ((L 4))) σ r h H locs ls hP hD hS (lv_sub hl [0, 1, 2, 3, 4, 5, 6] rfl)
      · intro L σ r h H locs ls hP hD hS hl
        rw [x_feed] at h
        refine lv_iload hx hb dX12_feed_81 (lv_at hl 5 rfl) ?_
        exact ih.2.2.2.2.2.2.2.2.2.1 (upd L 100 ((L 5))) σ r h H locs ls hP hD hS (lv_sub hl [0, 1, 2, 3, 4, 5, 6] rfl)
      · intro L σ r h H locs ls hP hD hS hl
        rw [x_feed] at h
        refine lv_istore (lv' := [(7, .int (L 100)), (0, .ref (a 0)), (1, .int (L 1)), (2, .int (L 2)), (3, .int (L 3)), (4, .int (L 4)), (5, .int (L 5)), (6, .int (L 6))]) hx hb dX12_feed_83 hl (by decide) rfl (fun ls hl => ?_)
        refine lv_aload_n hx hb dX12_feed_85 rfl (lv_at hl 1 rfl) ?_
        refine ng_3 hx hb hts in_x_feed hown hK hP (hts _ (List.mem_cons_of_mem _ (List.mem_append_left _ (List.mem_append_left _ (List.mem_of_getElem? (i := 6) rfl))))) dX12_feed_86 ?_
        refine lv_aload_n hx hb dX12_feed_89 rfl (lv_at hl 1 rfl) ?_
        refine ng_4 hx hb hts in_x_feed hown hK hP (hts _ (List.mem_cons_of_mem _ (List.mem_append_left _ (List.mem_append_left _ (List.mem_of_getElem? (i := 0) rfl))))) dX12_feed_90 ?_
        refine lv_iload hx hb dX12_feed_93 (lv_at hl 0 rfl) ?_
        refine lv_bipush (v := 24) hx hb dX12_feed_95 (by decide) ?_
        refine lv_iload hx hb dX12_feed_97 (lv_at hl 7 rfl) ?_
        refine lv_iconst (v := 4) hx hb dX12_feed_99 (by decide) ?_
        obtain ⟨q1, h⟩ := nb_ite0 h
        refine lv_irem hx hb dX12_feed_100 q1 ?_
        refine lv_bipush (v := 8) hx hb dX12_feed_101 (by decide) ?_
        refine lv_imul hx hb dX12_feed_103 ?_
        refine lv_isub hx hb dX12_feed_104 ?_
        refine lv_iushr (v := (((L 100)).toUInt32 >>> (((24 - ((((((L 6)) - ((L 6)) / 4 * 4)) * 8)))).toUInt32 &&& Int32.toUInt32 31)).toInt32) hx hb dX12_feed_105 rfl ?_
        refine lv_sipush (v := 255) hx hb dX12_feed_106 (by decide) ?_
        refine lv_iand hx hb dX12_feed_109 ?_
        obtain ⟨q2, h⟩ := nb_ite1 h
        refine ns_3 hx hb hK hP hD hS q2 dX12_feed_110 (fun H locs hP hD hS => ?_)
        exact ih.2.2.2.2.2.2.2.2.2.2.1 (upd L 7 ((L 100))) (σ.1, σ.2.1, updG σ.2.2 3 (upd (σ.2.2 3) ((σ.1 4)).toNatClampNeg (((((((L 100)).toUInt32 >>> (((24 - ((((((L 6)) - ((L 6)) / 4 * 4)) * 8)))).toUInt32 &&& Int32.toUInt32 31)).toInt32)) &&& 255)))) r h H locs ls hP hD hS (lv_sub hl [1, 2, 3, 4, 5, 6, 7, 0] rfl)
      · intro L σ r h H locs ls hP hD hS hl
        rw [x_feed] at h
        refine lv_aload_n hx hb dX12_feed_111 rfl (lv_at hl 0 rfl) ?_
        refine lv_dup hx hb dX12_feed_112 rfl ?_
        refine ng_4 hx hb hts in_x_feed hown hK hP (hts _ (List.mem_cons_of_mem _ (List.mem_append_left _ (List.mem_append_left _ (List.mem_of_getElem? (i := 0) rfl))))) dX12_feed_113 ?_
        refine lv_iconst (v := 1) hx hb dX12_feed_116 (by decide) ?_
        refine lv_iadd hx hb dX12_feed_117 ?_
        refine np_4 hx hb hts in_x_feed hown hK hP hD hS (hts _ (List.mem_cons_of_mem _ (List.mem_append_left _ (List.mem_append_left _ (List.mem_of_getElem? (i := 0) rfl))))) dX12_feed_118 (fun H locs hP hD hS => ?_)
        exact ih.2.2.2.2.2.2.2.2.2.2.2.1 L (upd σ.1 4 ((((σ.1 4)) + 1)), σ.2.1, σ.2.2) r h H locs ls hP hD hS (lv_sub hl [0, 1, 2, 3, 4, 5, 6, 7] rfl)
      · intro L σ r h H locs ls hP hD hS hl
        rw [x_feed] at h
        refine lv_iinc (v := ((L 6)) + 1) (lv' := [(6, .int (((L 6)) + 1)), (0, .ref (a 0)), (1, .int (L 1)), (2, .int (L 2)), (3, .int (L 3)), (4, .int (L 4)), (5, .int (L 5)), (7, .int (L 7))]) hx hb dX12_feed_121 hl (k := 6) rfl rfl (by decide) rfl (fun ls hl => ?_)
        refine lv_goto (tgt := 30) hx hb dX12_feed_124 (by decide) ?_
        exact ih.2.2.2.2.1 (upd L 6 (((L 6)) + 1)) σ r h H locs ls hP hD hS (lv_sub hl [1, 2, 3, 4, 5, 6, 0] rfl)
      · intro L σ r h H locs ls hP hD hS hl
        rw [x_feed] at h
        refine lv_aload_n hx hb dX12_feed_127 rfl (lv_at hl 0 rfl) ?_
        refine ng_4 hx hb hts in_x_feed hown hK hP (hts _ (List.mem_cons_of_mem _ (List.mem_append_left _ (List.mem_append_left _ (List.mem_of_getElem? (i := 0) rfl))))) dX12_feed_128 ?_
        cases h
        exact W.iret (v := (σ.1 4)) hx hb hr (fun t ht hW => ⟨⟨(σ.1 4), (), rfl, rfl, by rw [ht]; exact hP, va_K.moved hW.alike hK, hD⟩, hS.F ht⟩) hS.2.2 dX12_feed_131
  exact (blk k0).1 L0 σ0 r0 h0 s.heap [] ls hP hD hS hl
/-! end -/
def x_end : Nat → Nat → (Nat → Int32) → MS → Option (Int32 × MS)
  | 0, _, _, _ => none
  | k + 1, 0, L, σ => if ((L 1)) < 0 then (x_end k 1 L σ) else (if ((L 1)) ≤ ((σ.1 4)) then (x_end k 2 L σ) else (x_end k 1 L σ))
  | k + 1, 1, L, σ => x_end k 3 (upd L 100 1) σ
  | k + 1, 2, L, σ => x_end k 3 (upd L 100 0) σ
  | k + 1, 3, L, σ => ob (x_good k 0 (upd (fun _ => 0) 1 ((L 100))) σ) (fun r1 => if r1.1 = 0 then (x_end k 4 L r1.2) else (x_end k 4 L (upd r1.2.1 4 ((L 1)), r1.2.2.1, r1.2.2.2)))
  | k + 1, 4, L, σ => some (0, σ)
  | _ + 1, _ + 5, _, _ => none
def o_x_end : List Cond := [.fieldLink RX12 1 "SetHouseModel" "taped" "I", .methodLink RX12 1050 yX12_good, .instanceMethod yX12_good, .selects RX12 yX12_good yX12_good, .initialized RX12]
theorem o_x_end_good : o_x_end.all goodWord = true := by decide +kernel
def p_x_end : List Cond := o_x_end ++ ((.code yX12_good cX12_good 2 (some .boolean) :: p_x_good) ++ [])
theorem p_x_end_good : p_x_end.all goodWord = true := nb_all2 o_x_end_good (nb_all2 (nb_allc (by decide +kernel) p_x_good_good) rfl)
def w_x_end : List Cond := .code yX12_end cX12_end 2 none :: (p_x_end ++ fM)
theorem w_x_end_good : w_x_end.all goodWord = true := nb_allc (by decide +kernel) (nb_all2 p_x_end_good fM_good)
theorem in_x_end : ∀ w ∈ wsX120, w ∈ w_x_end := fun _ h => List.mem_cons_of_mem _ (List.mem_append_right _ h)
theorem hd_x_end : yX12_end.cls = RX12 ∧ yX12_end.cls ≠ "java/lang/invoke/MethodHandle" ∧ yX12_end.cls ≠ "java/lang/invoke/VarHandle" ∧ (parseMethodDescriptor yX12_end.desc).map (fun d => d.parameters.length) = some 1 := by decide +kernel
theorem gg_x_end_good : GoodIn w_x_end w_x_good := goodIn_sub (fun w h => (List.mem_cons.mp h).elim (fun e => (List.mem_cons_of_mem _ (List.mem_append_left _ (List.mem_append_right _ (List.mem_append_left _ (List.mem_cons.mpr (Or.inl e))))))) (fun h => (List.mem_append.mp h).elim (fun h => (List.mem_cons_of_mem _ (List.mem_append_left _ (List.mem_append_right _ (List.mem_append_left _ (List.mem_cons_of_mem _ h)))))) (fun h => List.mem_cons_of_mem _ (List.mem_append_right _ h)))) w_x_good_good
theorem g_x_end_good_1050 : GoodIn w_x_end (wsV RX12 1050 RX12 yX12_good w_x_good) := goodIn_app (nb_g4 (List.mem_cons_of_mem _ (List.mem_append_left _ (List.mem_append_left _ (List.mem_of_getElem? (i := 1) rfl)))) (List.mem_cons_of_mem _ (List.mem_append_left _ (List.mem_append_left _ (List.mem_of_getElem? (i := 2) rfl)))) (List.mem_cons_of_mem _ (List.mem_append_left _ (List.mem_append_left _ (List.mem_of_getElem? (i := 3) rfl)))) (List.mem_cons_of_mem _ (List.mem_append_left _ (List.mem_append_left _ (List.mem_of_getElem? (i := 4) rfl)))) (by decide +kernel)) gg_x_end_good
set_option maxHeartbeats 40000000 in
set_option maxRecDepth 100000 in
theorem c_x_end (l : Launch) (dC : Nat → ClassId) (dI : Nat → Nat → Nat) (cy : Nat → ClassId) (a : Nat → Nat) (k0 : Nat) (L0 : Nat → Int32) (σ0 : MS) (r0 : Int32 × MS) (h0 : x_end k0 0 L0 σ0 = some r0) (sz : Nat) : Met l yX12_end w_x_end ({ frames := 1, cells := 0, slots := 0, locals := 21 }) (va_Pc [.ref (a 0), .int (L0 1)] (nIn (dC, dI) cy sz (vM cy a σ0))) (va_Qv (fun _ : Unit => True) (fun _ t => nOut (dC, dI) cy (va_A (vM cy a σ0) sz) (vM cy a r0.2) t) (va_A (vM cy a σ0) sz)) 0 0 (va_A (vM cy a σ0) sz) := by
  refine Met.ofW (cc := cX12_end) (maxL := 2) (ret := none) (by decide) rfl ?_
  intro p e s m args below meth c s₁ B hml hv
  obtain ⟨rfl, hsz, hP, hK, hD0, hG⟩ := hv
  have hx := B.exec
  have hb := B.bytes
  have hr := B.returns
  have hts := atoms_spec (ws := w_x_end) B.pre
  have hown : s.vm.findClass RX12 = some m.cls := findClass_of_methodNamed B.named
  have hlocks := B.notSynchronized
  subst hsz
  have hD := hD0.self (sz := s.heap.size)
  generalize hAe : va_A (vM cy a σ0) s.heap.size = A at hD ⊢
  have hA : ∀ q : Nat, s.heap.size ≤ q → A q := fun q h => by rw [← hAe]; exact Or.inr h
  have hS : va_S A s.heap s.heap [] := va_S.rf
  have hl := lv_entry ([.ref (a 0), .int (L0 1)]) (n := 2) (Nat.le_of_ble_eq_true rfl)
  rw [lg_entry_eq]
  generalize (lg_sl ([.ref (a 0), .int (L0 1)]) ++ List.replicate (2 - (lg_sl ([.ref (a 0), .int (L0 1)])).length) Slot.unset).toArray = ls at hl ⊢
  have hl : lv_has ls 2 [(0, .ref (a 0)), (1, .int (L0 1))] := hl
  have blk : ∀ k : Nat, (bT p l e (headSpec w_x_end ({ frames := 1, cells := 0, slots := 0, locals := 21 })).room s m #[.ref (a 0), .int (L0 1)] below meth c dC dI cy a A (qV dC dI cy a A below #[.ref (a 0), .int (L0 1)] s) 2 (x_end k 0) (fun L => [(0, .ref (a 0)), (1, .int (L 1))]) 0 (fun L => [])) ∧ (bT p l e (headSpec w_x_end ({ frames := 1, cells := 0, slots := 0, locals := 21 })).room s m #[.ref (a 0), .int (L0 1)] below meth c dC dI cy a A (qV dC dI cy a A below #[.ref (a 0), .int (L0 1)] s) 2 (x_end k 1) (fun L => [(0, .ref (a 0)), (1, .int (L 1))]) 13 (fun L => [.ref (a 0)])) ∧ (bT p l e (headSpec w_x_end ({ frames := 1, cells := 0, slots := 0, locals := 21 })).room s m #[.ref (a 0), .int (L0 1)] below meth c dC dI cy a A (qV dC dI cy a A below #[.ref (a 0), .int (L0 1)] s) 2 (x_end k 2) (fun L => [(0, .ref (a 0)), (1, .int (L 1))]) 17 (fun L => [.ref (a 0)])) ∧ (bT p l e (headSpec w_x_end ({ frames := 1, cells := 0, slots := 0, locals := 21 })).room s m #[.ref (a 0), .int (L0 1)] below meth c dC dI cy a A (qV dC dI cy a A below #[.ref (a 0), .int (L0 1)] s) 2 (x_end k 3) (fun L => [(0, .ref (a 0)), (1, .int (L 1))]) 18 (fun L => [.int (L 100), .ref (a 0)])) ∧ (bT p l e (headSpec w_x_end ({ frames := 1, cells := 0, slots := 0, locals := 21 })).room s m #[.ref (a 0), .int (L0 1)] below meth c dC dI cy a A (qV dC dI cy a A below #[.ref (a 0), .int (L0 1)] s) 2 (x_end k 4) (fun L => [(0, .ref (a 0)), (1, .int (L 1))]) 29 (fun L => [])) := by
    intro k
    induction k with
    | zero => exact ⟨fun L σ r h => (by cases h), fun L σ r h => (by cases h), fun L σ r h => (by cases h), fun L σ r h => (by cases h), fun L σ r h => (by cases h)⟩
    | succ k ih =>
      refine ⟨?_, ?_, ?_, ?_, ?_⟩
      · intro L σ r h H locs ls hP hD hS hl
        rw [x_end] at h
        refine lv_aload_n hx hb dX12_end_0 rfl (lv_at hl 0 rfl) ?_
        refine lv_iload_n hx hb dX12_end_1 rfl (lv_at hl 1 rfl) ?_
        refine lv_if_lt (tgt := 13) hx hb dX12_end_2 (by decide) (fun c1 => ?_) (fun c1 => ?_)
        · rw [if_pos c1] at h
          exact ih.2.1 L σ r h H locs ls hP hD hS (lv_sub hl [0, 1] rfl)
        · rw [if_neg c1] at h
          refine lv_iload_n hx hb dX12_end_5 rfl (lv_at hl 1 rfl) ?_
          refine lv_aload_n hx hb dX12_end_6 rfl (lv_at hl 0 rfl) ?_
          refine ng_4 hx hb hts in_x_end hown hK hP (hts _ (List.mem_cons_of_mem _ (List.mem_append_left _ (List.mem_append_left _ (List.mem_of_getElem? (i := 0) rfl))))) dX12_end_7 ?_
          refine lv_icmp_le (tgt := 17) hx hb dX12_end_10 (by decide) (fun c2 => ?_) (fun c2 => ?_)
          · rw [if_pos c2] at h
            exact ih.2.2.1 L σ r h H locs ls hP hD hS (lv_sub hl [0, 1] rfl)
          · rw [if_neg c2] at h
            exact ih.2.1 L σ r h H locs ls hP hD hS (lv_sub hl [0, 1] rfl)
      · intro L σ r h H locs ls hP hD hS hl
        rw [x_end] at h
        refine lv_iconst (v := 1) hx hb dX12_end_13 (by decide) ?_
        refine lv_goto (tgt := 18) hx hb dX12_end_14 (by decide) ?_
        exact ih.2.2.2.1 (upd L 100 1) σ r h H locs ls hP hD hS (lv_sub hl [0, 1] rfl)
      · intro L σ r h H locs ls hP hD hS hl
        rw [x_end] at h
        refine lv_iconst (v := 0) hx hb dX12_end_17 (by decide) ?_
        exact ih.2.2.2.1 (upd L 100 0) σ r h H locs ls hP hD hS (lv_sub hl [0, 1] rfl)
      · intro L σ r h H locs ls hP hD hS hl
        rw [x_end] at h
        obtain ⟨r1, hc1, h⟩ := ob_ex h
        refine nc_Vi (As := [.int (L 100)]) (rest := []) ⟨hx, hb, hml, hown, hts⟩ (c_x_good l dC dI cy a k (upd (fun _ => 0) 1 ((L 100))) σ r1 hc1 H.size) (cwV 1 hts g_x_end_good_1050 rfl rfl rfl hd_x_good ⟨Nat.le_of_ble_eq_true rfl, Nat.le_of_ble_eq_true rfl⟩) hK hG hA hP hD hS rfl hl.1 rfl (Nat.le_of_ble_eq_true rfl) dX12_end_18 ⟨Nat.le_refl _, Nat.le_refl _⟩ (fun H locs hP hD hS => ?_)
        refine lv_if_eq (tgt := 29) hx hb dX12_end_21 (by decide) (fun c2 => ?_) (fun c2 => ?_)
        · rw [if_pos c2] at h
          exact ih.2.2.2.2 L r1.2 r h H locs ls hP hD hS (lv_sub hl [0, 1] rfl)
        · rw [if_neg c2] at h
          refine lv_aload_n hx hb dX12_end_24 rfl (lv_at hl 0 rfl) ?_
          refine lv_iload_n hx hb dX12_end_25 rfl (lv_at hl 1 rfl) ?_
          refine np_4 hx hb hts in_x_end hown hK hP hD hS (hts _ (List.mem_cons_of_mem _ (List.mem_append_left _ (List.mem_append_left _ (List.mem_of_getElem? (i := 0) rfl))))) dX12_end_26 (fun H locs hP hD hS => ?_)
          exact ih.2.2.2.2 L (upd r1.2.1 4 ((L 1)), r1.2.2.1, r1.2.2.2) r h H locs ls hP hD hS (lv_sub hl [0, 1] rfl)
      · intro L σ r h H locs ls hP hD hS hl
        rw [x_end] at h
        cases h
        exact W.vret hx hb hr (fun t ht hW => ⟨⟨(), rfl, trivial, by rw [ht]; exact hP, va_K.moved hW.alike hK, hD⟩, hS.F ht⟩) hS.2.2 dX12_end_29
  exact (blk k0).1 L0 σ0 r0 h0 s.heap [] ls hP hD hS hl
/-! load__53 -/
def x_load__53 : Nat → Nat → (Nat → Int32) → MS → Option (Int32 × MS)
  | 0, _, _, _ => none
  | k + 1, 0, L, σ => x_load__53 k 1 (upd L 4 0) σ
  | k + 1, 1, L, σ => if ((L 3)) ≤ ((L 4)) then (x_load__53 k 3 L σ) else (if ¬ (((((L 2)) + ((L 4)))) < 0 ∨ 32768 ≤ ((((L 2)) + ((L 4)))).toNatClampNeg) then (if ¬ (((L 4)) < 0 ∨ 32768 ≤ ((L 4)).toNatClampNeg) then (x_load__53 k 2 L (σ.1, σ.2.1, updG σ.2.2 3 (upd (σ.2.2 3) ((L 4)).toNatClampNeg ((σ.2.2 53 ((((L 2)) + ((L 4)))).toNatClampNeg))))) else none) else none)
  | k + 1, 2, L, σ => x_load__53 k 1 (upd L 4 (((L 4)) + 1)) σ
  | k + 1, 3, L, σ => some (0, (upd σ.1 4 ((L 3)), σ.2.1, σ.2.2))
  | _ + 1, _ + 4, _, _ => none
def o_x_load__53 : List Cond := [.fieldLink RX12 7 "SetHouseModel" "tape" "[I", .fieldLink RX12 1 "SetHouseModel" "taped" "I"]
theorem o_x_load__53_good : o_x_load__53.all goodWord = true := by decide +kernel
def p_x_load__53 : List Cond := o_x_load__53 ++ []
theorem p_x_load__53_good : p_x_load__53.all goodWord = true := nb_all2 o_x_load__53_good rfl
def w_x_load__53 : List Cond := .code yX12_load cX12_load 5 none :: (p_x_load__53 ++ fM)
theorem w_x_load__53_good : w_x_load__53.all goodWord = true := nb_allc (by decide +kernel) (nb_all2 p_x_load__53_good fM_good)
theorem in_x_load__53 : ∀ w ∈ wsX120, w ∈ w_x_load__53 := fun _ h => List.mem_cons_of_mem _ (List.mem_append_right _ h)
theorem hd_x_load__53 : yX12_load.cls = RX12 ∧ yX12_load.cls ≠ "java/lang/invoke/MethodHandle" ∧ yX12_load.cls ≠ "java/lang/invoke/VarHandle" ∧ (parseMethodDescriptor yX12_load.desc).map (fun d => d.parameters.length) = some 3 := by decide +kernel
set_option maxHeartbeats 40000000 in
set_option maxRecDepth 100000 in
theorem c_x_load__53 (l : Launch) (dC : Nat → ClassId) (dI : Nat → Nat → Nat) (cy : Nat → ClassId) (a : Nat → Nat) (k0 : Nat) (L0 : Nat → Int32) (σ0 : MS) (r0 : Int32 × MS) (h0 : x_load__53 k0 0 L0 σ0 = some r0) (sz : Nat) : Met l yX12_load w_x_load__53 ({ frames := 0, cells := 0, slots := 0, locals := 0 }) (va_Pc [.ref (a 0), .ref (a 53), .int (L0 2), .int (L0 3)] (nIn (dC, dI) cy sz (vM cy a σ0))) (va_Qv (fun _ : Unit => True) (fun _ t => nOut (dC, dI) cy (va_A (vM cy a σ0) sz) (vM cy a r0.2) t) (va_A (vM cy a σ0) sz)) 0 0 (va_A (vM cy a σ0) sz) := by
  refine Met.ofW (cc := cX12_load) (maxL := 5) (ret := none) (by decide) rfl ?_
  intro p e s m args below meth c s₁ B hml hv
  obtain ⟨rfl, hsz, hP, hK, hD0, hG⟩ := hv
  have hx := B.exec
  have hb := B.bytes
  have hr := B.returns
  have hts := atoms_spec (ws := w_x_load__53) B.pre
  have hown : s.vm.findClass RX12 = some m.cls := findClass_of_methodNamed B.named
  have hlocks := B.notSynchronized
  subst hsz
  have hD := hD0.self (sz := s.heap.size)
  generalize hAe : va_A (vM cy a σ0) s.heap.size = A at hD ⊢
  have hA : ∀ q : Nat, s.heap.size ≤ q → A q := fun q h => by rw [← hAe]; exact Or.inr h
  have hS : va_S A s.heap s.heap [] := va_S.rf
  have hl := lv_entry ([.ref (a 0), .ref (a 53), .int (L0 2), .int (L0 3)]) (n := 5) (Nat.le_of_ble_eq_true rfl)
  rw [lg_entry_eq]
  generalize (lg_sl ([.ref (a 0), .ref (a 53), .int (L0 2), .int (L0 3)]) ++ List.replicate (5 - (lg_sl ([.ref (a 0), .ref (a 53), .int (L0 2), .int (L0 3)])).length) Slot.unset).toArray = ls at hl ⊢
  have hl : lv_has ls 5 [(0, .ref (a 0)), (1, .ref (a 53)), (2, .int (L0 2)), (3, .int (L0 3))] := hl
  have blk : ∀ k : Nat, (bT p l e (headSpec w_x_load__53 ({ frames := 0, cells := 0, slots := 0, locals := 0 })).room s m #[.ref (a 0), .ref (a 53), .int (L0 2), .int (L0 3)] below meth c dC dI cy a A (qV dC dI cy a A below #[.ref (a 0), .ref (a 53), .int (L0 2), .int (L0 3)] s) 5 (x_load__53 k 0) (fun L => [(0, .ref (a 0)), (1, .ref (a 53)), (2, .int (L 2)), (3, .int (L 3))]) 0 (fun L => [])) ∧ (bT p l e (headSpec w_x_load__53 ({ frames := 0, cells := 0, slots := 0, locals := 0 })).room s m #[.ref (a 0), .ref (a 53), .int (L0 2), .int (L0 3)] below meth c dC dI cy a A (qV dC dI cy a A below #[.ref (a 0), .ref (a 53), .int (L0 2), .int (L0 3)] s) 5 (x_load__53 k 1) (fun L => [(0, .ref (a 0)), (1, .ref (a 53)), (2, .int (L 2)), (3, .int (L 3)), (4, .int (L 4))]) 3 (fun L => [])) ∧ (bT p l e (headSpec w_x_load__53 ({ frames := 0, cells := 0, slots := 0, locals := 0 })).room s m #[.ref (a 0), .ref (a 53), .int (L0 2), .int (L0 3)] below meth c dC dI cy a A (qV dC dI cy a A below #[.ref (a 0), .ref (a 53), .int (L0 2), .int (L0 3)] s) 5 (x_load__53 k 2) (fun L => [(0, .ref (a 0)), (1, .ref (a 53)), (2, .int (L 2)), (3, .int (L 3)), (4, .int (L 4))]) 22 (fun L => [])) ∧ (bT p l e (headSpec w_x_load__53 ({ frames := 0, cells := 0, slots := 0, locals := 0 })).room s m #[.ref (a 0), .ref (a 53), .int (L0 2), .int (L0 3)] below meth c dC dI cy a A (qV dC dI cy a A below #[.ref (a 0), .ref (a 53), .int (L0 2), .int (L0 3)] s) 5 (x_load__53 k 3) (fun L => [(0, .ref (a 0)), (1, .ref (a 53)), (2, .int (L 2)), (3, .int (L 3)), (4, .int (L 4))]) 28 (fun L => [])) := by
    intro k
    induction k with
    | zero => exact ⟨fun L σ r h => (by cases h), fun L σ r h => (by cases h), fun L σ r h => (by cases h), fun L σ r h => (by cases h)⟩
    | succ k ih =>
      refine ⟨?_, ?_, ?_, ?_⟩
      · intro L σ r h H locs ls hP hD hS hl
        rw [x_load__53] at h
        refine lv_iconst (v := 0) hx hb dX12_load_0 (by decide) ?_
        refine lv_istore (lv' := [(4, .int 0), (0, .ref (a 0)), (1, .ref (a 53)), (2, .int (L 2)), (3, .int (L 3))]) hx hb dX12_load_1 hl (by decide) rfl (fun ls hl => ?_)
        exact ih.2.1 (upd L 4 0) σ r h H locs ls hP hD hS (lv_sub hl [1, 2, 3, 4, 0] rfl)
      · intro L σ r h H locs ls hP hD hS hl
        rw [x_load__53] at h
        refine lv_iload hx hb dX12_load_3 (lv_at hl 4 rfl) ?_
        refine lv_iload_n hx hb dX12_load_5 rfl (lv_at hl 3 rfl) ?_
        refine lv_icmp_ge (tgt := 28) hx hb dX12_load_6 (by decide) (fun c1 => ?_) (fun c1 => ?_)
        · rw [if_pos c1] at h
          exact ih.2.2.2 L σ r h H locs ls hP hD hS (lv_sub hl [0, 1, 2, 3, 4] rfl)
        · rw [if_neg c1] at h
          refine lv_aload_n hx hb dX12_load_9 rfl (lv_at hl 0 rfl) ?_
          refine ng_3 hx hb hts in_x_load__53 hown hK hP (hts _ (List.mem_cons_of_mem _ (List.mem_append_left _ (List.mem_append_left _ (List.mem_of_getElem? (i := 0) rfl))))) dX12_load_10 ?_
          refine lv_iload hx hb dX12_load_13 (lv_at hl 4 rfl) ?_
          refine lv_aload_n hx hb dX12_load_15 rfl (lv_at hl 1 rfl) ?_
          refine lv_iload_n hx hb dX12_load_16 rfl (lv_at hl 2 rfl) ?_
          refine lv_iload hx hb dX12_load_17 (lv_at hl 4 rfl) ?_
          refine lv_iadd hx hb dX12_load_19 ?_
          obtain ⟨q2, h⟩ := nb_ite1 h
          refine nl_53 hx hb hK hP q2 dX12_load_20 ?_
          obtain ⟨q3, h⟩ := nb_ite1 h
          refine ns_3 hx hb hK hP hD hS q3 dX12_load_21 (fun H locs hP hD hS => ?_)
          exact ih.2.2.1 L (σ.1, σ.2.1, updG σ.2.2 3 (upd (σ.2.2 3) ((L 4)).toNatClampNeg ((σ.2.2 53 ((((L 2)) + ((L 4)))).toNatClampNeg)))) r h H locs ls hP hD hS (lv_sub hl [0, 1, 2, 3, 4] rfl)
      · intro L σ r h H locs ls hP hD hS hl
        rw [x_load__53] at h
        refine lv_iinc (v := ((L 4)) + 1) (lv' := [(4, .int (((L 4)) + 1)), (0, .ref (a 0)), (1, .ref (a 53)), (2, .int (L 2)), (3, .int (L 3))]) hx hb dX12_load_22 hl (k := 4) rfl rfl (by decide) rfl (fun ls hl => ?_)
        refine lv_goto (tgt := 3) hx hb dX12_load_25 (by decide) ?_
        exact ih.2.1 (upd L 4 (((L 4)) + 1)) σ r h H locs ls hP hD hS (lv_sub hl [1, 2, 3, 4, 0] rfl)
      · intro L σ r h H locs ls hP hD hS hl
        rw [x_load__53] at h
        refine lv_aload_n hx hb dX12_load_28 rfl (lv_at hl 0 rfl) ?_
        refine lv_iload_n hx hb dX12_load_29 rfl (lv_at hl 3 rfl) ?_
        refine np_4 hx hb hts in_x_load__53 hown hK hP hD hS (hts _ (List.mem_cons_of_mem _ (List.mem_append_left _ (List.mem_append_left _ (List.mem_of_getElem? (i := 1) rfl))))) dX12_load_30 (fun H locs hP hD hS => ?_)
        cases h
        exact W.vret hx hb hr (fun t ht hW => ⟨⟨(), rfl, trivial, by rw [ht]; exact hP, va_K.moved hW.alike hK, hD⟩, hS.F ht⟩) hS.2.2 dX12_load_33
  exact (blk k0).1 L0 σ0 r0 h0 s.heap [] ls hP hD hS hl
