/-! declareVar -/
def x_declareVar : Nat → Nat → (Nat → Int32) → MS → Option (Int32 × MS)
  | 0, _, _, _ => none
  | k + 1, 0, L, σ => ob (x_take k 0 (fun _ => 0) σ) (fun r1 => x_declareVar k 1 (upd L 1 1) r1.2)
  | k + 1, 1, L, σ => if ((L 1)) = 0 then (x_declareVar k 11 L σ) else (if ((σ.1 10)) = 0 then (ob (x_wantName k 0 (fun _ => 0) σ) (fun r3 => if ((r3.2.1 10)) = 0 then (x_declareVar k 2 L r3.2) else (some (0, r3.2)))) else (x_declareVar k 11 L σ))
  | k + 1, 2, L, σ => if ((σ.1 37)) = 0 then (ob (x_find k 0 (fun _ => 0) σ) (fun r2 => if ((r2.2.1 46)) ≤ 0 then (x_declareVar k 3 L r2.2) else (ob (x_fault k 0 (upd (upd (fun _ => 0) 1 4) 2 ((r2.2.1 8))) r2.2) (fun r4 => x_declareVar k 3 L r4.2)))) else (x_declareVar k 7 L σ)
  | k + 1, 3, L, σ => if ((σ.1 10)) = 0 then (x_declareVar k 4 L σ) else (x_declareVar k 5 (upd L 100 0) σ)
  | k + 1, 4, L, σ => ob (x_newSlot k 0 (upd (fun _ => 0) 1 1) σ) (fun r1 => x_declareVar k 5 (upd L 100 r1.1) r1.2)
  | k + 1, 5, L, σ => if ((σ.1 10)) = 0 then (ob (x_tellEntity k 0 (upd (upd (fun _ => 0) 1 1) 2 ((L 100))) σ) (fun r2 => ob (x_take k 0 (fun _ => 0) r2.2) (fun r3 => x_declareVar k 6 (upd L 2 ((L 100))) r3.2))) else (x_declareVar k 6 (upd L 2 ((L 100))) σ)
  | k + 1, 6, L, σ => x_declareVar k 8 L σ
  | k + 1, 7, L, σ => ob (x_tellLocal k 0 (upd (fun _ => 0) 1 1) σ) (fun r1 => x_declareVar k 8 L r1.2)
  | k + 1, 8, L, σ => if ((σ.1 10)) = 0 then (ob (x_isSign k 0 (upd (fun _ => 0) 1 12) σ) (fun r2 => if r2.1 = 0 then (x_declareVar k 9 L r2.2) else (x_declareVar k 10 (upd L 100 1) r2.2))) else (x_declareVar k 9 L σ)
  | k + 1, 9, L, σ => x_declareVar k 10 (upd L 100 0) σ
  | k + 1, 10, L, σ => if ((L 100)) = 0 then (x_declareVar k 1 (upd L 1 ((L 100))) σ) else (ob (x_take k 0 (fun _ => 0) σ) (fun r2 => x_declareVar k 1 (upd L 1 ((L 100))) r2.2))
  | k + 1, 11, L, σ => ob (x_want k 0 (upd (fun _ => 0) 1 13) σ) (fun r1 => some (0, r1.2))
  | _ + 1, _ + 12, _, _ => none
def o_x_declareVar : List Cond := [.methodLink RX12 71 yX12_take, .instanceMethod yX12_take, .selects RX12 yX12_take yX12_take, .initialized RX12, .fieldLink RX12 11 "SetHouseModel" "bad" "Z", .methodLink RX12 279 yX12_wantName, .instanceMethod yX12_wantName, .selects RX12 yX12_wantName yX12_wantName, .fieldLink RX12 133 "SetHouseModel" "owner" "I", .methodLink RX12 236 yX12_find, .instanceMethod yX12_find, .selects RX12 yX12_find yX12_find, .fieldLink RX12 111 "SetHouseModel" "foundKind" "I", .fieldLink RX12 32 "SetHouseModel" "tFrom" "I", .methodLink RX12 58 yX12_fault, .instanceMethod yX12_fault, .selects RX12 yX12_fault yX12_fault, .methodLink RX12 282 yX12_newSlot, .instanceMethod yX12_newSlot, .selects RX12 yX12_newSlot yX12_newSlot, .methodLink RX12 339 yX12_tellEntity, .instanceMethod yX12_tellEntity, .selects RX12 yX12_tellEntity yX12_tellEntity, .methodLink RX12 342 yX12_tellLocal, .instanceMethod yX12_tellLocal, .selects RX12 yX12_tellLocal yX12_tellLocal, .methodLink RX12 65 yX12_isSign, .instanceMethod yX12_isSign, .selects RX12 yX12_isSign yX12_isSign, .methodLink RX12 199 yX12_want, .instanceMethod yX12_want, .selects RX12 yX12_want yX12_want]
theorem o_x_declareVar_good : o_x_declareVar.all goodWord = true := by decide +kernel
def p_x_declareVar : List Cond := o_x_declareVar ++ ((.code yX12_take cX12_take 2 none :: p_x_take) ++ ((.code yX12_wantName cX12_wantName 1 none :: p_x_wantName) ++ ((.code yX12_find cX12_find 2 none :: p_x_find) ++ ((.code yX12_fault cX12_fault 3 none :: p_x_fault) ++ ((.code yX12_newSlot cX12_newSlot 2 (some .int) :: p_x_newSlot) ++ ((.code yX12_tellEntity cX12_tellEntity 3 none :: p_x_tellEntity) ++ ((.code yX12_tellLocal cX12_tellLocal 3 none :: p_x_tellLocal) ++ ((.code yX12_isSign cX12_isSign 2 (some .boolean) :: p_x_isSign) ++ ((.code yX12_want cX12_want 2 none :: p_x_want) ++ [])))))))))
theorem p_x_declareVar_good : p_x_declareVar.all goodWord = true := nb_all2 o_x_declareVar_good (nb_all2 (nb_allc (by decide +kernel) p_x_take_good) (nb_all2 (nb_allc (by decide +kernel) p_x_wantName_good) (nb_all2 (nb_allc (by decide +kernel) p_x_find_good) (nb_all2 (nb_allc (by decide +kernel) p_x_fault_good) (nb_all2 (nb_allc (by decide +kernel) p_x_newSlot_good) (nb_all2 (nb_allc (by decide +kernel) p_x_tellEntity_good) (nb_all2 (nb_allc (by decide +kernel) p_x_tellLocal_good) (nb_all2 (nb_allc (by decide +kernel) p_x_isSign_good) (nb_all2 (nb_allc (by decide +kernel) p_x_want_good) rfl)))))))))
def w_x_declareVar : List Cond := .code yX12_declareVar cX12_declareVar 3 none :: (p_x_declareVar ++ fM)
theorem w_x_declareVar_good : w_x_declareVar.all goodWord = true := nb_allc (by decide +kernel) (nb_all2 p_x_declareVar_good fM_good)
theorem in_x_declareVar : ∀ w ∈ wsX120, w ∈ w_x_declareVar := fun _ h => List.mem_cons_of_mem _ (List.mem_append_right _ h)
theorem hd_x_declareVar : yX12_declareVar.cls = RX12 ∧ yX12_declareVar.cls ≠ "java/lang/invoke/MethodHandle" ∧ yX12_declareVar.cls ≠ "java/lang/invoke/VarHandle" ∧ (parseMethodDescriptor yX12_declareVar.desc).map (fun d => d.parameters.length) = some 0 := by decide +kernel
theorem gg_x_declareVar_fault : GoodIn w_x_declareVar w_x_fault := goodIn_sub (fun w h => (List.mem_cons.mp h).elim (fun e => (List.mem_cons_of_mem _ (List.mem_append_left _ (List.mem_append_right _ (List.mem_append_right _ (List.mem_append_right _ (List.mem_append_right _ (List.mem_append_left _ (List.mem_cons.mpr (Or.inl e)))))))))) (fun h => (List.mem_append.mp h).elim (fun h => (List.mem_cons_of_mem _ (List.mem_append_left _ (List.mem_append_right _ (List.mem_append_right _ (List.mem_append_right _ (List.mem_append_right _ (List.mem_append_left _ (List.mem_cons_of_mem _ h))))))))) (fun h => List.mem_cons_of_mem _ (List.mem_append_right _ h)))) w_x_fault_good
theorem g_x_declareVar_fault_58 : GoodIn w_x_declareVar (wsV RX12 58 RX12 yX12_fault w_x_fault) := goodIn_app (nb_g4 (List.mem_cons_of_mem _ (List.mem_append_left _ (List.mem_append_left _ (List.mem_of_getElem? (i := 14) rfl)))) (List.mem_cons_of_mem _ (List.mem_append_left _ (List.mem_append_left _ (List.mem_of_getElem? (i := 15) rfl)))) (List.mem_cons_of_mem _ (List.mem_append_left _ (List.mem_append_left _ (List.mem_of_getElem? (i := 16) rfl)))) (List.mem_cons_of_mem _ (List.mem_append_left _ (List.mem_append_left _ (List.mem_of_getElem? (i := 3) rfl)))) (by decide +kernel)) gg_x_declareVar_fault
theorem gg_x_declareVar_find : GoodIn w_x_declareVar w_x_find := goodIn_sub (fun w h => (List.mem_cons.mp h).elim (fun e => (List.mem_cons_of_mem _ (List.mem_append_left _ (List.mem_append_right _ (List.mem_append_right _ (List.mem_append_right _ (List.mem_append_left _ (List.mem_cons.mpr (Or.inl e))))))))) (fun h => (List.mem_append.mp h).elim (fun h => (List.mem_cons_of_mem _ (List.mem_append_left _ (List.mem_append_right _ (List.mem_append_right _ (List.mem_append_right _ (List.mem_append_left _ (List.mem_cons_of_mem _ h)))))))) (fun h => List.mem_cons_of_mem _ (List.mem_append_right _ h)))) w_x_find_good
theorem g_x_declareVar_find_236 : GoodIn w_x_declareVar (wsV RX12 236 RX12 yX12_find w_x_find) := goodIn_app (nb_g4 (List.mem_cons_of_mem _ (List.mem_append_left _ (List.mem_append_left _ (List.mem_of_getElem? (i := 9) rfl)))) (List.mem_cons_of_mem _ (List.mem_append_left _ (List.mem_append_left _ (List.mem_of_getElem? (i := 10) rfl)))) (List.mem_cons_of_mem _ (List.mem_append_left _ (List.mem_append_left _ (List.mem_of_getElem? (i := 11) rfl)))) (List.mem_cons_of_mem _ (List.mem_append_left _ (List.mem_append_left _ (List.mem_of_getElem? (i := 3) rfl)))) (by decide +kernel)) gg_x_declareVar_find
theorem gg_x_declareVar_isSign : GoodIn w_x_declareVar w_x_isSign := goodIn_sub (fun w h => (List.mem_cons.mp h).elim (fun e => (List.mem_cons_of_mem _ (List.mem_append_left _ (List.mem_append_right _ (List.mem_append_right _ (List.mem_append_right _ (List.mem_append_right _ (List.mem_append_right _ (List.mem_append_right _ (List.mem_append_right _ (List.mem_append_right _ (List.mem_append_left _ (List.mem_cons.mpr (Or.inl e)))))))))))))) (fun h => (List.mem_append.mp h).elim (fun h => (List.mem_cons_of_mem _ (List.mem_append_left _ (List.mem_append_right _ (List.mem_append_right _ (List.mem_append_right _ (List.mem_append_right _ (List.mem_append_right _ (List.mem_append_right _ (List.mem_append_right _ (List.mem_append_right _ (List.mem_append_left _ (List.mem_cons_of_mem _ h))))))))))))) (fun h => List.mem_cons_of_mem _ (List.mem_append_right _ h)))) w_x_isSign_good
theorem g_x_declareVar_isSign_65 : GoodIn w_x_declareVar (wsV RX12 65 RX12 yX12_isSign w_x_isSign) := goodIn_app (nb_g4 (List.mem_cons_of_mem _ (List.mem_append_left _ (List.mem_append_left _ (List.mem_of_getElem? (i := 26) rfl)))) (List.mem_cons_of_mem _ (List.mem_append_left _ (List.mem_append_left _ (List.mem_of_getElem? (i := 27) rfl)))) (List.mem_cons_of_mem _ (List.mem_append_left _ (List.mem_append_left _ (List.mem_of_getElem? (i := 28) rfl)))) (List.mem_cons_of_mem _ (List.mem_append_left _ (List.mem_append_left _ (List.mem_of_getElem? (i := 3) rfl)))) (by decide +kernel)) gg_x_declareVar_isSign
theorem gg_x_declareVar_newSlot : GoodIn w_x_declareVar w_x_newSlot := goodIn_sub (fun w h => (List.mem_cons.mp h).elim (fun e => (List.mem_cons_of_mem _ (List.mem_append_left _ (List.mem_append_right _ (List.mem_append_right _ (List.mem_append_right _ (List.mem_append_right _ (List.mem_append_right _ (List.mem_append_left _ (List.mem_cons.mpr (Or.inl e))))))))))) (fun h => (List.mem_append.mp h).elim (fun h => (List.mem_cons_of_mem _ (List.mem_append_left _ (List.mem_append_right _ (List.mem_append_right _ (List.mem_append_right _ (List.mem_append_right _ (List.mem_append_right _ (List.mem_append_left _ (List.mem_cons_of_mem _ h)))))))))) (fun h => List.mem_cons_of_mem _ (List.mem_append_right _ h)))) w_x_newSlot_good
theorem g_x_declareVar_newSlot_282 : GoodIn w_x_declareVar (wsV RX12 282 RX12 yX12_newSlot w_x_newSlot) := goodIn_app (nb_g4 (List.mem_cons_of_mem _ (List.mem_append_left _ (List.mem_append_left _ (List.mem_of_getElem? (i := 17) rfl)))) (List.mem_cons_of_mem _ (List.mem_append_left _ (List.mem_append_left _ (List.mem_of_getElem? (i := 18) rfl)))) (List.mem_cons_of_mem _ (List.mem_append_left _ (List.mem_append_left _ (List.mem_of_getElem? (i := 19) rfl)))) (List.mem_cons_of_mem _ (List.mem_append_left _ (List.mem_append_left _ (List.mem_of_getElem? (i := 3) rfl)))) (by decide +kernel)) gg_x_declareVar_newSlot
theorem gg_x_declareVar_take : GoodIn w_x_declareVar w_x_take := goodIn_sub (fun w h => (List.mem_cons.mp h).elim (fun e => (List.mem_cons_of_mem _ (List.mem_append_left _ (List.mem_append_right _ (List.mem_append_left _ (List.mem_cons.mpr (Or.inl e))))))) (fun h => (List.mem_append.mp h).elim (fun h => (List.mem_cons_of_mem _ (List.mem_append_left _ (List.mem_append_right _ (List.mem_append_left _ (List.mem_cons_of_mem _ h)))))) (fun h => List.mem_cons_of_mem _ (List.mem_append_right _ h)))) w_x_take_good
theorem g_x_declareVar_take_71 : GoodIn w_x_declareVar (wsV RX12 71 RX12 yX12_take w_x_take) := goodIn_app (nb_g4 (List.mem_cons_of_mem _ (List.mem_append_left _ (List.mem_append_left _ (List.mem_of_getElem? (i := 0) rfl)))) (List.mem_cons_of_mem _ (List.mem_append_left _ (List.mem_append_left _ (List.mem_of_getElem? (i := 1) rfl)))) (List.mem_cons_of_mem _ (List.mem_append_left _ (List.mem_append_left _ (List.mem_of_getElem? (i := 2) rfl)))) (List.mem_cons_of_mem _ (List.mem_append_left _ (List.mem_append_left _ (List.mem_of_getElem? (i := 3) rfl)))) (by decide +kernel)) gg_x_declareVar_take
theorem gg_x_declareVar_tellEntity : GoodIn w_x_declareVar w_x_tellEntity := goodIn_sub (fun w h => (List.mem_cons.mp h).elim (fun e => (List.mem_cons_of_mem _ (List.mem_append_left _ (List.mem_append_right _ (List.mem_append_right _ (List.mem_append_right _ (List.mem_append_right _ (List.mem_append_right _ (List.mem_append_right _ (List.mem_append_left _ (List.mem_cons.mpr (Or.inl e)))))))))))) (fun h => (List.mem_append.mp h).elim (fun h => (List.mem_cons_of_mem _ (List.mem_append_left _ (List.mem_append_right _ (List.mem_append_right _ (List.mem_append_right _ (List.mem_append_right _ (List.mem_append_right _ (List.mem_append_right _ (List.mem_append_left _ (List.mem_cons_of_mem _ h))))))))))) (fun h => List.mem_cons_of_mem _ (List.mem_append_right _ h)))) w_x_tellEntity_good
theorem g_x_declareVar_tellEntity_339 : GoodIn w_x_declareVar (wsV RX12 339 RX12 yX12_tellEntity w_x_tellEntity) := goodIn_app (nb_g4 (List.mem_cons_of_mem _ (List.mem_append_left _ (List.mem_append_left _ (List.mem_of_getElem? (i := 20) rfl)))) (List.mem_cons_of_mem _ (List.mem_append_left _ (List.mem_append_left _ (List.mem_of_getElem? (i := 21) rfl)))) (List.mem_cons_of_mem _ (List.mem_append_left _ (List.mem_append_left _ (List.mem_of_getElem? (i := 22) rfl)))) (List.mem_cons_of_mem _ (List.mem_append_left _ (List.mem_append_left _ (List.mem_of_getElem? (i := 3) rfl)))) (by decide +kernel)) gg_x_declareVar_tellEntity
theorem gg_x_declareVar_tellLocal : GoodIn w_x_declareVar w_x_tellLocal := goodIn_sub (fun w h => (List.mem_cons.mp h).elim (fun e => (List.mem_cons_of_mem _ (List.mem_append_left _ (List.mem_append_right _ (List.mem_append_right _ (List.mem_append_right _ (List.mem_append_right _ (List.mem_append_right _ (List.mem_append_right _ (List.mem_append_right _ (List.mem_append_left _ (List.mem_cons.mpr (Or.inl e))))))))))))) (fun h => (List.mem_append.mp h).elim (fun h => (List.mem_cons_of_mem _ (List.mem_append_left _ (List.mem_append_right _ (List.mem_append_right _ (List.mem_append_right _ (List.mem_append_right _ (List.mem_append_right _ (List.mem_append_right _ (List.mem_append_right _ (List.mem_append_left _ (List.mem_cons_of_mem _ h)))))))))))) (fun h => List.mem_cons_of_mem _ (List.mem_append_right _ h)))) w_x_tellLocal_good
theorem g_x_declareVar_tellLocal_342 : GoodIn w_x_declareVar (wsV RX12 342 RX12 yX12_tellLocal w_x_tellLocal) := goodIn_app (nb_g4 (List.mem_cons_of_mem _ (List.mem_append_left _ (List.mem_append_left _ (List.mem_of_getElem? (i := 23) rfl)))) (List.mem_cons_of_mem _ (List.mem_append_left _ (List.mem_append_left _ (List.mem_of_getElem? (i := 24) rfl)))) (List.mem_cons_of_mem _ (List.mem_append_left _ (List.mem_append_left _ (List.mem_of_getElem? (i := 25) rfl)))) (List.mem_cons_of_mem _ (List.mem_append_left _ (List.mem_append_left _ (List.mem_of_getElem? (i := 3) rfl)))) (by decide +kernel)) gg_x_declareVar_tellLocal
theorem gg_x_declareVar_wantName : GoodIn w_x_declareVar w_x_wantName := goodIn_sub (fun w h => (List.mem_cons.mp h).elim (fun e => (List.mem_cons_of_mem _ (List.mem_append_left _ (List.mem_append_right _ (List.mem_append_right _ (List.mem_append_left _ (List.mem_cons.mpr (Or.inl e)))))))) (fun h => (List.mem_append.mp h).elim (fun h => (List.mem_cons_of_mem _ (List.mem_append_left _ (List.mem_append_right _ (List.mem_append_right _ (List.mem_append_left _ (List.mem_cons_of_mem _ h))))))) (fun h => List.mem_cons_of_mem _ (List.mem_append_right _ h)))) w_x_wantName_good
theorem g_x_declareVar_wantName_279 : GoodIn w_x_declareVar (wsV RX12 279 RX12 yX12_wantName w_x_wantName) := goodIn_app (nb_g4 (List.mem_cons_of_mem _ (List.mem_append_left _ (List.mem_append_left _ (List.mem_of_getElem? (i := 5) rfl)))) (List.mem_cons_of_mem _ (List.mem_append_left _ (List.mem_append_left _ (List.mem_of_getElem? (i := 6) rfl)))) (List.mem_cons_of_mem _ (List.mem_append_left _ (List.mem_append_left _ (List.mem_of_getElem? (i := 7) rfl)))) (List.mem_cons_of_mem _ (List.mem_append_left _ (List.mem_append_left _ (List.mem_of_getElem? (i := 3) rfl)))) (by decide +kernel)) gg_x_declareVar_wantName
theorem gg_x_declareVar_want : GoodIn w_x_declareVar w_x_want := goodIn_sub (fun w h => (List.mem_cons.mp h).elim (fun e => (List.mem_cons_of_mem _ (List.mem_append_left _ (List.mem_append_right _ (List.mem_append_right _ (List.mem_append_right _ (List.mem_append_right _ (List.mem_append_right _ (List.mem_append_right _ (List.mem_append_right _ (List.mem_append_right _ (List.mem_append_right _ (List.mem_append_left _ (List.mem_cons.mpr (Or.inl e))))))))))))))) (fun h => (List.mem_append.mp h).elim (fun h => (List.mem_cons_of_mem _ (List.mem_append_left _ (List.mem_append_right _ (List.mem_append_right _ (List.mem_append_right _ (List.mem_append_right _ (List.mem_append_right _ (List.mem_append_right _ (List.mem_append_right _ (List.mem_append_right _ (List.mem_append_right _ (List.mem_append_left _ (List.mem_cons_of_mem _ h)))))))))))))) (fun h => List.mem_cons_of_mem _ (List.mem_append_right _ h)))) w_x_want_good
theorem g_x_declareVar_want_199 : GoodIn w_x_declareVar (wsV RX12 199 RX12 yX12_want w_x_want) := goodIn_app (nb_g4 (List.mem_cons_of_mem _ (List.mem_append_left _ (List.mem_append_left _ (List.mem_of_getElem? (i := 29) rfl)))) (List.mem_cons_of_mem _ (List.mem_append_left _ (List.mem_append_left _ (List.mem_of_getElem? (i := 30) rfl)))) (List.mem_cons_of_mem _ (List.mem_append_left _ (List.mem_append_left _ (List.mem_of_getElem? (i := 31) rfl)))) (List.mem_cons_of_mem _ (List.mem_append_left _ (List.mem_append_left _ (List.mem_of_getElem? (i := 3) rfl)))) (by decide +kernel)) gg_x_declareVar_want
set_option maxHeartbeats 40000000 in
set_option maxRecDepth 100000 in
theorem c_x_declareVar (l : Launch) (dC : Nat → ClassId) (dI : Nat → Nat → Nat) (cy : Nat → ClassId) (a : Nat → Nat) (k0 : Nat) (L0 : Nat → Int32) (σ0 : MS) (r0 : Int32 × MS) (h0 : x_declareVar k0 0 L0 σ0 = some r0) (sz : Nat) : Met l yX12_declareVar w_x_declareVar ({ frames := 4, cells := 0, slots := 0, locals := 86 }) (va_Pc [.ref (a 0)] (nIn (dC, dI) cy sz (vM cy a σ0))) (va_Qv (fun _ : Unit => True) (fun _ t => nOut (dC, dI) cy (va_A (vM cy a σ0) sz) (vM cy a r0.2) t) (va_A (vM cy a σ0) sz)) 0 0 (va_A (vM cy a σ0) sz) := by
  refine Met.ofW (cc := cX12_declareVar) (maxL := 3) (ret := none) (by decide) rfl ?_
  intro p e s m args below meth c s₁ B hml hv
  obtain ⟨rfl, hsz, hP, hK, hD0, hG⟩ := hv
  have hx := B.exec
  have hb := B.bytes
  have hr := B.returns
  have hts := atoms_spec (ws := w_x_declareVar) B.pre
  have hown : s.vm.findClass RX12 = some m.cls := findClass_of_methodNamed B.named
  have hlocks := B.notSynchronized
  subst hsz
  have hD := hD0.self (sz := s.heap.size)
  generalize hAe : va_A (vM cy a σ0) s.heap.size = A at hD ⊢
  have hA : ∀ q : Nat, s.heap.size ≤ q → A q := fun q h => by rw [← hAe]; exact Or.inr h
  have hS : va_S A s.heap s.heap [] := va_S.rf
  have hl := lv_entry ([.ref (a 0)]) (n := 3) (Nat.le_of_ble_eq_true rfl)
  rw [lg_entry_eq]
  generalize (lg_sl ([.ref (a 0)]) ++ List.replicate (3 - (lg_sl ([.ref (a 0)])).length) Slot.unset).toArray = ls at hl ⊢
  have hl : lv_has ls 3 [(0, .ref (a 0))] := hl
  have blk : ∀ k : Nat, (bT p l e (headSpec w_x_declareVar ({ frames := 4, cells := 0, slots := 0, locals := 86 })).room s m #[.ref (a 0)] below meth c dC dI cy a A (qV dC dI cy a A below #[.ref (a 0)] s) 3 (x_declareVar k 0) (fun L => [(0, .ref (a 0))]) 0 (fun L => [])) ∧ (bT p l e (headSpec w_x_declareVar ({ frames := 4, cells := 0, slots := 0, locals := 86 })).room s m #[.ref (a 0)] below meth c dC dI cy a A (qV dC dI cy a A below #[.ref (a 0)] s) 3 (x_declareVar k 1) (fun L => [(0, .ref (a 0)), (1, .int (L 1))]) 6 (fun L => [])) ∧ (bT p l e (headSpec w_x_declareVar ({ frames := 4, cells := 0, slots := 0, locals := 86 })).room s m #[.ref (a 0)] below meth c dC dI cy a A (qV dC dI cy a A below #[.ref (a 0)] s) 3 (x_declareVar k 2) (fun L => [(0, .ref (a 0)), (1, .int (L 1))]) 29 (fun L => [])) ∧ (bT p l e (headSpec w_x_declareVar ({ frames := 4, cells := 0, slots := 0, locals := 86 })).room s m #[.ref (a 0)] below meth c dC dI cy a A (qV dC dI cy a A below #[.ref (a 0)] s) 3 (x_declareVar k 3) (fun L => [(0, .ref (a 0)), (1, .int (L 1))]) 56 (fun L => [])) ∧ (bT p l e (headSpec w_x_declareVar ({ frames := 4, cells := 0, slots := 0, locals := 86 })).room s m #[.ref (a 0)] below meth c dC dI cy a A (qV dC dI cy a A below #[.ref (a 0)] s) 3 (x_declareVar k 4) (fun L => [(0, .ref (a 0)), (1, .int (L 1))]) 67 (fun L => [])) ∧ (bT p l e (headSpec w_x_declareVar ({ frames := 4, cells := 0, slots := 0, locals := 86 })).room s m #[.ref (a 0)] below meth c dC dI cy a A (qV dC dI cy a A below #[.ref (a 0)] s) 3 (x_declareVar k 5) (fun L => [(0, .ref (a 0)), (1, .int (L 1))]) 72 (fun L => [.int (L 100)])) ∧ (bT p l e (headSpec w_x_declareVar ({ frames := 4, cells := 0, slots := 0, locals := 86 })).room s m #[.ref (a 0)] below meth c dC dI cy a A (qV dC dI cy a A below #[.ref (a 0)] s) 3 (x_declareVar k 6) (fun L => [(0, .ref (a 0)), (1, .int (L 1)), (2, .int (L 2))]) 90 (fun L => [])) ∧ (bT p l e (headSpec w_x_declareVar ({ frames := 4, cells := 0, slots := 0, locals := 86 })).room s m #[.ref (a 0)] below meth c dC dI cy a A (qV dC dI cy a A below #[.ref (a 0)] s) 3 (x_declareVar k 7) (fun L => [(0, .ref (a 0)), (1, .int (L 1))]) 93 (fun L => [])) ∧ (bT p l e (headSpec w_x_declareVar ({ frames := 4, cells := 0, slots := 0, locals := 86 })).room s m #[.ref (a 0)] below meth c dC dI cy a A (qV dC dI cy a A below #[.ref (a 0)] s) 3 (x_declareVar k 8) (fun L => [(0, .ref (a 0)), (1, .int (L 1))]) 98 (fun L => [])) ∧ (bT p l e (headSpec w_x_declareVar ({ frames := 4, cells := 0, slots := 0, locals := 86 })).room s m #[.ref (a 0)] below meth c dC dI cy a A (qV dC dI cy a A below #[.ref (a 0)] s) 3 (x_declareVar k 9) (fun L => [(0, .ref (a 0)), (1, .int (L 1))]) 118 (fun L => [])) ∧ (bT p l e (headSpec w_x_declareVar ({ frames := 4, cells := 0, slots := 0, locals := 86 })).room s m #[.ref (a 0)] below meth c dC dI cy a A (qV dC dI cy a A below #[.ref (a 0)] s) 3 (x_declareVar k 10) (fun L => [(0, .ref (a 0)), (1, .int (L 1))]) 119 (fun L => [.int (L 100)])) ∧ (bT p l e (headSpec w_x_declareVar ({ frames := 4, cells := 0, slots := 0, locals := 86 })).room s m #[.ref (a 0)] below meth c dC dI cy a A (qV dC dI cy a A below #[.ref (a 0)] s) 3 (x_declareVar k 11) (fun L => [(0, .ref (a 0)), (1, .int (L 1))]) 131 (fun L => [])) := by
    intro k
    induction k with
    | zero => exact ⟨fun L σ r h => (by cases h), fun L σ r h => (by cases h), fun L σ r h => (by cases h), fun L σ r h => (by cases h), fun L σ r h => (by cases h), fun L σ r h => (by cases h), fun L σ r h => (by cases h), fun L σ r h => (by cases h), fun L σ r h => (by cases h), fun L σ r h => (by cases h), fun L σ r h => (by cases h), fun L σ r h => (by cases h)⟩
    | succ k ih =>
      refine ⟨?_, ?_, ?_, ?_, ?_, ?_, ?_, ?_, ?_, ?_, ?_, ?_⟩
      · intro L σ r h H locs ls hP hD hS hl
        rw [x_declareVar] at h
        refine lv_aload_n hx hb dX12_declareVar_0 rfl (lv_at hl 0 rfl) ?_
        obtain ⟨r1, hc1, h⟩ := ob_ex h
        refine nc_Vv (As := []) (rest := []) ⟨hx, hb, hml, hown, hts⟩ (c_x_take l dC dI cy a k (fun _ => 0) σ r1 hc1 H.size) (cwV 0 hts g_x_declareVar_take_71 rfl rfl rfl hd_x_take ⟨Nat.le_of_ble_eq_true rfl, Nat.le_of_ble_eq_true rfl⟩) hK hG hA hP hD hS rfl hl.1 rfl (Nat.le_of_ble_eq_true rfl) dX12_declareVar_1 ⟨Nat.le_refl _, Nat.le_refl _⟩ (fun H locs hP hD hS => ?_)
        refine lv_iconst (v := 1) hx hb dX12_declareVar_4 (by decide) ?_
        refine lv_istore_n (lv' := [(1, .int 1), (0, .ref (a 0))]) hx hb dX12_declareVar_5 rfl hl (by decide) rfl (fun ls hl => ?_)
        exact ih.2.1 (upd L 1 1) r1.2 r h H locs ls hP hD hS (lv_sub hl [1, 0] rfl)
      · intro L σ r h H locs ls hP hD hS hl
        rw [x_declareVar] at h
        refine lv_iload_n hx hb dX12_declareVar_6 rfl (lv_at hl 1 rfl) ?_
        refine lv_if_eq (tgt := 131) hx hb dX12_declareVar_7 (by decide) (fun c1 => ?_) (fun c1 => ?_)
        · rw [if_pos c1] at h
          exact ih.2.2.2.2.2.2.2.2.2.2.2 L σ r h H locs ls hP hD hS (lv_sub hl [0, 1] rfl)
        · rw [if_neg c1] at h
          refine lv_aload_n hx hb dX12_declareVar_10 rfl (lv_at hl 0 rfl) ?_
          refine ng_10 hx hb hts in_x_declareVar hown hK hP (hts _ (List.mem_cons_of_mem _ (List.mem_append_left _ (List.mem_append_left _ (List.mem_of_getElem? (i := 4) rfl))))) dX12_declareVar_11 ?_
          refine lv_if_ne (tgt := 131) hx hb dX12_declareVar_14 (by decide) (fun c2 => ?_) (fun c2 => ?_)
          · rw [if_neg c2] at h
            exact ih.2.2.2.2.2.2.2.2.2.2.2 L σ r h H locs ls hP hD hS (lv_sub hl [0, 1] rfl)
          · rw [if_pos c2] at h
            refine lv_aload_n hx hb dX12_declareVar_17 rfl (lv_at hl 0 rfl) ?_
            obtain ⟨r3, hc3, h⟩ := ob_ex h
            refine nc_Vv (As := []) (rest := []) ⟨hx, hb, hml, hown, hts⟩ (c_x_wantName l dC dI cy a k (fun _ => 0) σ r3 hc3 H.size) (cwV 0 hts g_x_declareVar_wantName_279 rfl rfl rfl hd_x_wantName ⟨Nat.le_of_ble_eq_true rfl, Nat.le_of_ble_eq_true rfl⟩) hK hG hA hP hD hS rfl hl.1 rfl (Nat.le_of_ble_eq_true rfl) dX12_declareVar_18 ⟨Nat.le_refl _, Nat.le_refl _⟩ (fun H locs hP hD hS => ?_)
            refine lv_aload_n hx hb dX12_declareVar_21 rfl (lv_at hl 0 rfl) ?_
            refine ng_10 hx hb hts in_x_declareVar hown hK hP (hts _ (List.mem_cons_of_mem _ (List.mem_append_left _ (List.mem_append_left _ (List.mem_of_getElem? (i := 4) rfl))))) dX12_declareVar_22 ?_
            refine lv_if_eq (tgt := 29) hx hb dX12_declareVar_25 (by decide) (fun c4 => ?_) (fun c4 => ?_)
            · rw [if_pos c4] at h
              exact ih.2.2.1 L r3.2 r h H locs ls hP hD hS (lv_sub hl [0, 1] rfl)
            · rw [if_neg c4] at h
              cases h
              exact W.vret hx hb hr (fun t ht hW => ⟨⟨(), rfl, trivial, by rw [ht]; exact hP, va_K.moved hW.alike hK, hD⟩, hS.F ht⟩) hS.2.2 dX12_declareVar_28
      · intro L σ r h H locs ls hP hD hS hl
        rw [x_declareVar] at h
        refine lv_aload_n hx hb dX12_declareVar_29 rfl (lv_at hl 0 rfl) ?_
        refine ng_37 hx hb hts in_x_declareVar hown hK hP (hts _ (List.mem_cons_of_mem _ (List.mem_append_left _ (List.mem_append_left _ (List.mem_of_getElem? (i := 8) rfl))))) dX12_declareVar_30 ?_
        refine lv_if_ne (tgt := 93) hx hb dX12_declareVar_33 (by decide) (fun c1 => ?_) (fun c1 => ?_)
        · rw [if_neg c1] at h
          exact ih.2.2.2.2.2.2.2.1 L σ r h H locs ls hP hD hS (lv_sub hl [0, 1] rfl)
        · rw [if_pos c1] at h
          refine lv_aload_n hx hb dX12_declareVar_36 rfl (lv_at hl 0 rfl) ?_
          obtain ⟨r2, hc2, h⟩ := ob_ex h
          refine nc_Vv (As := []) (rest := []) ⟨hx, hb, hml, hown, hts⟩ (c_x_find l dC dI cy a k (fun _ => 0) σ r2 hc2 H.size) (cwV 0 hts g_x_declareVar_find_236 rfl rfl rfl hd_x_find ⟨Nat.le_of_ble_eq_true rfl, Nat.le_of_ble_eq_true rfl⟩) hK hG hA hP hD hS rfl hl.1 rfl (Nat.le_of_ble_eq_true rfl) dX12_declareVar_37 ⟨Nat.le_refl _, Nat.le_refl _⟩ (fun H locs hP hD hS => ?_)
          refine lv_aload_n hx hb dX12_declareVar_40 rfl (lv_at hl 0 rfl) ?_
          refine ng_46 hx hb hts in_x_declareVar hown hK hP (hts _ (List.mem_cons_of_mem _ (List.mem_append_left _ (List.mem_append_left _ (List.mem_of_getElem? (i := 12) rfl))))) dX12_declareVar_41 ?_
          refine lv_if_le (tgt := 56) hx hb dX12_declareVar_44 (by decide) (fun c3 => ?_) (fun c3 => ?_)
          · rw [if_pos c3] at h
            exact ih.2.2.2.1 L r2.2 r h H locs ls hP hD hS (lv_sub hl [0, 1] rfl)
          · rw [if_neg c3] at h
            refine lv_aload_n hx hb dX12_declareVar_47 rfl (lv_at hl 0 rfl) ?_
            refine lv_iconst (v := 4) hx hb dX12_declareVar_48 (by decide) ?_
            refine lv_aload_n hx hb dX12_declareVar_49 rfl (lv_at hl 0 rfl) ?_
            refine ng_8 hx hb hts in_x_declareVar hown hK hP (hts _ (List.mem_cons_of_mem _ (List.mem_append_left _ (List.mem_append_left _ (List.mem_of_getElem? (i := 13) rfl))))) dX12_declareVar_50 ?_
            obtain ⟨r4, hc4, h⟩ := ob_ex h
            refine nc_Vv (As := [.int 4, .int (r2.2.1 8)]) (rest := []) ⟨hx, hb, hml, hown, hts⟩ (c_x_fault l dC dI cy a k (upd (upd (fun _ => 0) 1 4) 2 ((r2.2.1 8))) r2.2 r4 hc4 H.size) (cwV 2 hts g_x_declareVar_fault_58 rfl rfl rfl hd_x_fault ⟨Nat.le_of_ble_eq_true rfl, Nat.le_of_ble_eq_true rfl⟩) hK hG hA hP hD hS rfl hl.1 rfl (Nat.le_of_ble_eq_true rfl) dX12_declareVar_53 ⟨Nat.le_refl _, Nat.le_refl _⟩ (fun H locs hP hD hS => ?_)
            exact ih.2.2.2.1 L r4.2 r h H locs ls hP hD hS (lv_sub hl [0, 1] rfl)
      · intro L σ r h H locs ls hP hD hS hl
        rw [x_declareVar] at h
        refine lv_aload_n hx hb dX12_declareVar_56 rfl (lv_at hl 0 rfl) ?_
        refine ng_10 hx hb hts in_x_declareVar hown hK hP (hts _ (List.mem_cons_of_mem _ (List.mem_append_left _ (List.mem_append_left _ (List.mem_of_getElem? (i := 4) rfl))))) dX12_declareVar_57 ?_
        refine lv_if_eq (tgt := 67) hx hb dX12_declareVar_60 (by decide) (fun c1 => ?_) (fun c1 => ?_)
        · rw [if_pos c1] at h
          exact ih.2.2.2.2.1 L σ r h H locs ls hP hD hS (lv_sub hl [0, 1] rfl)
        · rw [if_neg c1] at h
          refine lv_iconst (v := 0) hx hb dX12_declareVar_63 (by decide) ?_
          refine lv_goto (tgt := 72) hx hb dX12_declareVar_64 (by decide) ?_
          exact ih.2.2.2.2.2.1 (upd L 100 0) σ r h H locs ls hP hD hS (lv_sub hl [0, 1] rfl)
      · intro L σ r h H locs ls hP hD hS hl
        rw [x_declareVar] at h
        refine lv_aload_n hx hb dX12_declareVar_67 rfl (lv_at hl 0 rfl) ?_
        refine lv_iconst (v := 1) hx hb dX12_declareVar_68 (by decide) ?_
        obtain ⟨r1, hc1, h⟩ := ob_ex h
        refine nc_Vi (As := [.int 1]) (rest := []) ⟨hx, hb, hml, hown, hts⟩ (c_x_newSlot l dC dI cy a k (upd (fun _ => 0) 1 1) σ r1 hc1 H.size) (cwV 1 hts g_x_declareVar_newSlot_282 rfl rfl rfl hd_x_newSlot ⟨Nat.le_of_ble_eq_true rfl, Nat.le_of_ble_eq_true rfl⟩) hK hG hA hP hD hS rfl hl.1 rfl (Nat.le_of_ble_eq_true rfl) dX12_declareVar_69 ⟨Nat.le_refl _, Nat.le_refl _⟩ (fun H locs hP hD hS => ?_)
        exact ih.2.2.2.2.2.1 (upd L 100 r1.1) r1.2 r h H locs ls hP hD hS (lv_sub hl [0, 1] rfl)
      · intro L σ r h H locs ls hP hD hS hl
        rw [x_declareVar] at h
        refine lv_istore_n (lv' := [(2, .int (L 100)), (0, .ref (a 0)), (1, .int (L 1))]) hx hb dX12_declareVar_72 rfl hl (by decide) rfl (fun ls hl => ?_)
        refine lv_aload_n hx hb dX12_declareVar_73 rfl (lv_at hl 1 rfl) ?_
        refine ng_10 hx hb hts in_x_declareVar hown hK hP (hts _ (List.mem_cons_of_mem _ (List.mem_append_left _ (List.mem_append_left _ (List.mem_of_getElem? (i := 4) rfl))))) dX12_declareVar_74 ?_
        refine lv_if_ne (tgt := 90) hx hb dX12_declareVar_77 (by decide) (fun c1 => ?_) (fun c1 => ?_)
        · rw [if_neg c1] at h
          exact ih.2.2.2.2.2.2.1 (upd L 2 ((L 100))) σ r h H locs ls hP hD hS (lv_sub hl [1, 2, 0] rfl)
        · rw [if_pos c1] at h
          refine lv_aload_n hx hb dX12_declareVar_80 rfl (lv_at hl 1 rfl) ?_
          refine lv_iconst (v := 1) hx hb dX12_declareVar_81 (by decide) ?_
          refine lv_iload_n hx hb dX12_declareVar_82 rfl (lv_at hl 0 rfl) ?_
          obtain ⟨r2, hc2, h⟩ := ob_ex h
          refine nc_Vv (As := [.int 1, .int (L 100)]) (rest := []) ⟨hx, hb, hml, hown, hts⟩ (c_x_tellEntity l dC dI cy a k (upd (upd (fun _ => 0) 1 1) 2 ((L 100))) σ r2 hc2 H.size) (cwV 2 hts g_x_declareVar_tellEntity_339 rfl rfl rfl hd_x_tellEntity ⟨Nat.le_of_ble_eq_true rfl, Nat.le_of_ble_eq_true rfl⟩) hK hG hA hP hD hS rfl hl.1 rfl (Nat.le_of_ble_eq_true rfl) dX12_declareVar_83 ⟨Nat.le_refl _, Nat.le_refl _⟩ (fun H locs hP hD hS => ?_)
          refine lv_aload_n hx hb dX12_declareVar_86 rfl (lv_at hl 1 rfl) ?_
          obtain ⟨r3, hc3, h⟩ := ob_ex h
          refine nc_Vv (As := []) (rest := []) ⟨hx, hb, hml, hown, hts⟩ (c_x_take l dC dI cy a k (fun _ => 0) r2.2 r3 hc3 H.size) (cwV 0 hts g_x_declareVar_take_71 rfl rfl rfl hd_x_take ⟨Nat.le_of_ble_eq_true rfl, Nat.le_of_ble_eq_true rfl⟩) hK hG hA hP hD hS rfl hl.1 rfl (Nat.le_of_ble_eq_true rfl) dX12_declareVar_87 ⟨Nat.le_refl _, Nat.le_refl _⟩ (fun H locs hP hD hS => ?_)
          exact ih.2.2.2.2.2.2.1 (upd L 2 ((L 100))) r3.2 r h H locs ls hP hD hS (lv_sub hl [1, 2, 0] rfl)
      · intro L σ r h H locs ls hP hD hS hl
        rw [x_declareVar] at h
        refine lv_goto (tgt := 98) hx hb dX12_declareVar_90 (by decide) ?_
        exact ih.2.2.2.2.2.2.2.2.1 L σ r h H locs ls hP hD hS (lv_sub hl [0, 1] rfl)
      · intro L σ r h H locs ls hP hD hS hl
        rw [x_declareVar] at h
        refine lv_aload_n hx hb dX12_declareVar_93 rfl (lv_at hl 0 rfl) ?_
        refine lv_iconst (v := 1) hx hb dX12_declareVar_94 (by decide) ?_
        obtain ⟨r1, hc1, h⟩ := ob_ex h
        refine nc_Vv (As := [.int 1]) (rest := []) ⟨hx, hb, hml, hown, hts⟩ (c_x_tellLocal l dC dI cy a k (upd (fun _ => 0) 1 1) σ r1 hc1 H.size) (cwV 1 hts g_x_declareVar_tellLocal_342 rfl rfl rfl hd_x_tellLocal ⟨Nat.le_of_ble_eq_true rfl, Nat.le_of_ble_eq_true rfl⟩) hK hG hA hP hD hS rfl hl.1 rfl (Nat.le_of_ble_eq_true rfl) dX12_declareVar_95 ⟨Nat.le_refl _, Nat.le_refl _⟩ (fun H locs hP hD hS => ?_)
        exact ih.2.2.2.2.2.2.2.2.1 L r1.2 r h H locs ls hP hD hS (lv_sub hl [0, 1] rfl)
      · intro L σ r h H locs ls hP hD hS hl
        rw [x_declareVar] at h
        refine lv_aload_n hx hb dX12_declareVar_98 rfl (lv_at hl 0 rfl) ?_
        refine ng_10 hx hb hts in_x_declareVar hown hK hP (hts _ (List.mem_cons_of_mem _ (List.mem_append_left _ (List.mem_append_left _ (List.mem_of_getElem? (i := 4) rfl))))) dX12_declareVar_99 ?_
        refine lv_if_ne (tgt := 118) hx hb dX12_declareVar_102 (by decide) (fun c1 => ?_) (fun c1 => ?_)
        · rw [if_neg c1] at h
          exact ih.2.2.2.2.2.2.2.2.2.1 L σ r h H locs ls hP hD hS (lv_sub hl [0, 1] rfl)
        · rw [if_pos c1] at h
          refine lv_aload_n hx hb dX12_declareVar_105 rfl (lv_at hl 0 rfl) ?_
          refine lv_bipush (v := 12) hx hb dX12_declareVar_106 (by decide) ?_
          obtain ⟨r2, hc2, h⟩ := ob_ex h
          refine nc_Vi (As := [.int 12]) (rest := []) ⟨hx, hb, hml, hown, hts⟩ (c_x_isSign l dC dI cy a k (upd (fun _ => 0) 1 12) σ r2 hc2 H.size) (cwV 1 hts g_x_declareVar_isSign_65 rfl rfl rfl hd_x_isSign ⟨Nat.le_of_ble_eq_true rfl, Nat.le_of_ble_eq_true rfl⟩) hK hG hA hP hD hS rfl hl.1 rfl (Nat.le_of_ble_eq_true rfl) dX12_declareVar_108 ⟨Nat.le_refl _, Nat.le_refl _⟩ (fun H locs hP hD hS => ?_)
          refine lv_if_eq (tgt := 118) hx hb dX12_declareVar_111 (by decide) (fun c3 => ?_) (fun c3 => ?_)
          · rw [if_pos c3] at h
            exact ih.2.2.2.2.2.2.2.2.2.1 L r2.2 r h H locs ls hP hD hS (lv_sub hl [0, 1] rfl)
          · rw [if_neg c3] at h
            refine lv_iconst (v := 1) hx hb dX12_declareVar_114 (by decide) ?_
            refine lv_goto (tgt := 119) hx hb dX12_declareVar_115 (by decide) ?_
            exact ih.2.2.2.2.2.2.2.2.2.2.1 (upd L 100 1) r2.2 r h H locs ls hP hD hS (lv_sub hl [0, 1] rfl)
      · intro L σ r h H locs ls hP hD hS hl
        rw [x_declareVar] at h
        refine lv_iconst (v := 0) hx hb dX12_declareVar_118 (by decide) ?_
        exact ih.2.2.2.2.2.2.2.2.2.2.1 (upd L 100 0) σ r h H locs ls hP hD hS (lv_sub hl [0, 1] rfl)
      · intro L σ r h H locs ls hP hD hS hl
        rw [x_declareVar] at h
        refine lv_istore_n (lv' := [(1, .int (L 100)), (0, .ref (a 0))]) hx hb dX12_declareVar_119 rfl hl (by decide) rfl (fun ls hl => ?_)
        refine lv_iload_n hx hb dX12_declareVar_120 rfl (lv_at hl 0 rfl) ?_
        refine lv_if_eq (tgt := 6) hx hb dX12_declareVar_121 (by decide) (fun c1 => ?_) (fun c1 => ?_)
        · rw [if_pos c1] at h
          exact ih.2.1 (upd L 1 ((L 100))) σ r h H locs ls hP hD hS (lv_sub hl [1, 0] rfl)
        · rw [if_neg c1] at h
          refine lv_aload_n hx hb dX12_declareVar_124 rfl (lv_at hl 1 rfl) ?_
          obtain ⟨r2, hc2, h⟩ := ob_ex h
          refine nc_Vv (As := []) (rest := []) ⟨hx, hb, hml, hown, hts⟩ (c_x_take l dC dI cy a k (fun _ => 0) σ r2 hc2 H.size) (cwV 0 hts g_x_declareVar_take_71 rfl rfl rfl hd_x_take ⟨Nat.le_of_ble_eq_true rfl, Nat.le_of_ble_eq_true rfl⟩) hK hG hA hP hD hS rfl hl.1 rfl (Nat.le_of_ble_eq_true rfl) dX12_declareVar_125 ⟨Nat.le_refl _, Nat.le_refl _⟩ (fun H locs hP hD hS => ?_)
          refine lv_goto (tgt := 6) hx hb dX12_declareVar_128 (by decide) ?_
          exact ih.2.1 (upd L 1 ((L 100))) r2.2 r h H locs ls hP hD hS (lv_sub hl [1, 0] rfl)
      · intro L σ r h H locs ls hP hD hS hl
        rw [x_declareVar] at h
        refine lv_aload_n hx hb dX12_declareVar_131 rfl (lv_at hl 0 rfl) ?_
        refine lv_bipush (v := 13) hx hb dX12_declareVar_132 (by decide) ?_
        obtain ⟨r1, hc1, h⟩ := ob_ex h
        refine nc_Vv (As := [.int 13]) (rest := []) ⟨hx, hb, hml, hown, hts⟩ (c_x_want l dC dI cy a k (upd (fun _ => 0) 1 13) σ r1 hc1 H.size) (cwV 1 hts g_x_declareVar_want_199 rfl rfl rfl hd_x_want ⟨Nat.le_of_ble_eq_true rfl, Nat.le_of_ble_eq_true rfl⟩) hK hG hA hP hD hS rfl hl.1 rfl (Nat.le_of_ble_eq_true rfl) dX12_declareVar_134 ⟨Nat.le_refl _, Nat.le_refl _⟩ (fun H locs hP hD hS => ?_)
        cases h
        exact W.vret hx hb hr (fun t ht hW => ⟨⟨(), rfl, trivial, by rw [ht]; exact hP, va_K.moved hW.alike hK, hD⟩, hS.F ht⟩) hS.2.2 dX12_declareVar_137
  exact (blk k0).1 L0 σ0 r0 h0 s.heap [] ls hP hD hS hl
/-! paramsOf -/
def x_paramsOf : Nat → Nat → (Nat → Int32) → MS → Option (Int32 × MS)
  | 0, _, _, _ => none
  | k + 1, 0, L, σ => x_paramsOf k 1 (upd L 3 0) σ
  | k + 1, 1, L, σ => if ((σ.1 10)) = 0 then (if 0 < ((L 3)) then (x_paramsOf k 2 L σ) else (ob (x_isSign k 0 (upd (fun _ => 0) 1 7) σ) (fun r3 => if r3.1 = 0 then (x_paramsOf k 2 L r3.2) else (x_paramsOf k 17 L r3.2)))) else (x_paramsOf k 17 L σ)
  | k + 1, 2, L, σ => if ((L 3)) = 0 then (x_paramsOf k 3 L σ) else (ob (x_isSign k 0 (upd (fun _ => 0) 1 12) σ) (fun r2 => if r2.1 = 0 then (x_paramsOf k 17 L r2.2) else (x_paramsOf k 3 L r2.2)))
  | k + 1, 3, L, σ => if ((L 3)) ≤ 0 then (x_paramsOf k 4 L σ) else (ob (x_take k 0 (fun _ => 0) σ) (fun r2 => x_paramsOf k 4 L r2.2))
  | k + 1, 4, L, σ => if ((σ.1 10)) = 0 then (if ((L 2)) = 0 then (x_paramsOf k 9 (upd L 4 0) σ) else (ob (x_isWord k 0 (upd (fun _ => 0) 1 3) σ) (fun r3 => if r3.1 = 0 then (ob (x_isWord k 0 (upd (fun _ => 0) 1 4) r3.2) (fun r5 => if r5.1 = 0 then (ob (x_isWord k 0 (upd (fun _ => 0) 1 5) r5.2) (fun r7 => if r7.1 = 0 then (x_paramsOf k 9 (upd L 4 0) r7.2) else (x_paramsOf k 5 (upd L 4 0) r7.2))) else (x_paramsOf k 5 (upd L 4 0) r5.2))) else (x_paramsOf k 5 (upd L 4 0) r3.2)))) else (x_paramsOf k 9 (upd L 4 0) σ)
  | k + 1, 5, L, σ => if ((σ.1 7)) = 4 then (x_paramsOf k 8 (upd L 100 1) σ) else (x_paramsOf k 6 L σ)
  | k + 1, 6, L, σ => if ((σ.1 7)) = 5 then (x_paramsOf k 8 (upd L 100 2) σ) else (x_paramsOf k 7 L σ)
  | k + 1, 7, L, σ => x_paramsOf k 8 (upd L 100 0) σ
  | k + 1, 8, L, σ => ob (x_take k 0 (fun _ => 0) σ) (fun r1 => x_paramsOf k 9 (upd L 4 ((L 100))) r1.2)
  | k + 1, 9, L, σ => ob (x_wantName k 0 (fun _ => 0) σ) (fun r1 => if ((r1.2.1 10)) = 0 then (if ((L 3)) = 8 then (x_paramsOf k 10 (upd L 5 0) r1.2) else (x_paramsOf k 13 L r1.2)) else (x_paramsOf k 13 L r1.2))
  | k + 1, 10, L, σ => if ((σ.1 38)) ≤ ((L 5)) then (x_paramsOf k 12 L σ) else (if ¬ (((L 5)) < 0 ∨ 400 ≤ ((L 5)).toNatClampNeg) then (if ¬ (((L 5)) < 0 ∨ 400 ≤ ((L 5)).toNatClampNeg) then (ob (x_isNamed k 0 (upd (upd (fun _ => 0) 1 ((σ.2.2 22 ((L 5)).toNatClampNeg))) 2 ((σ.2.2 23 ((L 5)).toNatClampNeg))) σ) (fun r4 => if r4.1 = 0 then (x_paramsOf k 11 L r4.2) else (ob (x_fault k 0 (upd (upd (fun _ => 0) 1 4) 2 ((r4.2.1 8))) r4.2) (fun r6 => x_paramsOf k 11 L r6.2)))) else none) else none)
  | k + 1, 11, L, σ => x_paramsOf k 10 (upd L 5 (((L 5)) + 1)) σ
  | k + 1, 12, L, σ => ob (x_fault k 0 (upd (upd (fun _ => 0) 1 8) 2 ((σ.1 8))) σ) (fun r1 => x_paramsOf k 13 L r1.2)
  | k + 1, 13, L, σ => if ((σ.1 10)) = 0 then (ob (x_tellLocal k 0 (upd (fun _ => 0) 1 1) σ) (fun r2 => x_paramsOf k 14 L r2.2)) else (x_paramsOf k 14 L σ)
  | k + 1, 14, L, σ => if ((σ.1 10)) = 0 then (if ¬ (((((8 * ((L 1)))) + ((L 3)))) < 0 ∨ 328 ≤ ((((8 * ((L 1)))) + ((L 3)))).toNatClampNeg) then (x_paramsOf k 15 L (σ.1, σ.2.1, updG σ.2.2 19 (upd (σ.2.2 19) ((((8 * ((L 1)))) + ((L 3)))).toNatClampNeg ((L 4))))) else none) else (x_paramsOf k 16 L σ)
  | k + 1, 15, L, σ => if ¬ (((L 1)) < 0 ∨ 41 ≤ ((L 1)).toNatClampNeg) then (x_paramsOf k 16 (upd L 3 (((L 3)) + 1)) (σ.1, σ.2.1, updG σ.2.2 18 (upd (σ.2.2 18) ((L 1)).toNatClampNeg ((((L 3)) + 1))))) else none
  | k + 1, 16, L, σ => x_paramsOf k 1 L σ
  | k + 1, 17, L, σ => if ((σ.1 10)) = 0 then (ob (x_isSign k 0 (upd (fun _ => 0) 1 7) σ) (fun r2 => if r2.1 = 0 then (ob (x_cannot k 0 (fun _ => 0) r2.2) (fun r4 => x_paramsOf k 18 L r4.2)) else (x_paramsOf k 18 L r2.2))) else (x_paramsOf k 18 L σ)
  | k + 1, 18, L, σ => some (0, σ)
  | _ + 1, _ + 19, _, _ => none
def o_x_paramsOf : List Cond := [.fieldLink RX12 11 "SetHouseModel" "bad" "Z", .methodLink RX12 65 yX12_isSign, .instanceMethod yX12_isSign, .selects RX12 yX12_isSign yX12_isSign, .initialized RX12, .methodLink RX12 71 yX12_take, .instanceMethod yX12_take, .selects RX12 yX12_take yX12_take, .methodLink RX12 74 yX12_isWord, .instanceMethod yX12_isWord, .selects RX12 yX12_isWord yX12_isWord, .fieldLink RX12 49 "SetHouseModel" "tWhat" "I", .methodLink RX12 279 yX12_wantName, .instanceMethod yX12_wantName, .selects RX12 yX12_wantName yX12_wantName, .fieldLink RX12 114 "SetHouseModel" "seenNames" "I", .fieldLink RX12 117 "SetHouseModel" "nFrom" "[I", .fieldLink RX12 120 "SetHouseModel" "nSize" "[I", .methodLink RX12 123 yX12_isNamed, .instanceMethod yX12_isNamed, .selects RX12 yX12_isNamed yX12_isNamed, .fieldLink RX12 32 "SetHouseModel" "tFrom" "I", .methodLink RX12 58 yX12_fault, .instanceMethod yX12_fault, .selects RX12 yX12_fault yX12_fault, .methodLink RX12 342 yX12_tellLocal, .instanceMethod yX12_tellLocal, .selects RX12 yX12_tellLocal yX12_tellLocal, .fieldLink RX12 330 "SetHouseModel" "modes" "[I", .fieldLink RX12 239 "SetHouseModel" "params" "[I", .methodLink RX12 68 yX12_cannot, .instanceMethod yX12_cannot, .selects RX12 yX12_cannot yX12_cannot]
theorem o_x_paramsOf_good : o_x_paramsOf.all goodWord = true := by decide +kernel
def p_x_paramsOf : List Cond := o_x_paramsOf ++ ((.code yX12_isSign cX12_isSign 2 (some .boolean) :: p_x_isSign) ++ ((.code yX12_take cX12_take 2 none :: p_x_take) ++ ((.code yX12_isWord cX12_isWord 2 (some .boolean) :: p_x_isWord) ++ ((.code yX12_wantName cX12_wantName 1 none :: p_x_wantName) ++ ((.code yX12_isNamed cX12_isNamed 4 (some .boolean) :: p_x_isNamed) ++ ((.code yX12_fault cX12_fault 3 none :: p_x_fault) ++ ((.code yX12_tellLocal cX12_tellLocal 3 none :: p_x_tellLocal) ++ ((.code yX12_cannot cX12_cannot 1 none :: p_x_cannot) ++ []))))))))
theorem p_x_paramsOf_good : p_x_paramsOf.all goodWord = true := nb_all2 o_x_paramsOf_good (nb_all2 (nb_allc (by decide +kernel) p_x_isSign_good) (nb_all2 (nb_allc (by decide +kernel) p_x_take_good) (nb_all2 (nb_allc (by decide +kernel) p_x_isWord_good) (nb_all2 (nb_allc (by decide +kernel) p_x_wantName_good) (nb_all2 (nb_allc (by decide +kernel) p_x_isNamed_good) (nb_all2 (nb_allc (by decide +kernel) p_x_fault_good) (nb_all2 (nb_allc (by decide +kernel) p_x_tellLocal_good) (nb_all2 (nb_allc (by decide +kernel) p_x_cannot_good) rfl))))))))
def w_x_paramsOf : List Cond := .code yX12_paramsOf cX12_paramsOf 6 none :: (p_x_paramsOf ++ fM)
theorem w_x_paramsOf_good : w_x_paramsOf.all goodWord = true := nb_allc (by decide +kernel) (nb_all2 p_x_paramsOf_good fM_good)
theorem in_x_paramsOf : ∀ w ∈ wsX120, w ∈ w_x_paramsOf := fun _ h => List.mem_cons_of_mem _ (List.mem_append_right _ h)
theorem hd_x_paramsOf : yX12_paramsOf.cls = RX12 ∧ yX12_paramsOf.cls ≠ "java/lang/invoke/MethodHandle" ∧ yX12_paramsOf.cls ≠ "java/lang/invoke/VarHandle" ∧ (parseMethodDescriptor yX12_paramsOf.desc).map (fun d => d.parameters.length) = some 2 := by decide +kernel
theorem gg_x_paramsOf_cannot : GoodIn w_x_paramsOf w_x_cannot := goodIn_sub (fun w h => (List.mem_cons.mp h).elim (fun e => (List.mem_cons_of_mem _ (List.mem_append_left _ (List.mem_append_right _ (List.mem_append_right _ (List.mem_append_right _ (List.mem_append_right _ (List.mem_append_right _ (List.mem_append_right _ (List.mem_append_right _ (List.mem_append_right _ (List.mem_append_left _ (List.mem_cons.mpr (Or.inl e)))))))))))))) (fun h => (List.mem_append.mp h).elim (fun h => (List.mem_cons_of_mem _ (List.mem_append_left _ (List.mem_append_right _ (List.mem_append_right _ (List.mem_append_right _ (List.mem_append_right _ (List.mem_append_right _ (List.mem_append_right _ (List.mem_append_right _ (List.mem_append_right _ (List.mem_append_left _ (List.mem_cons_of_mem _ h))))))))))))) (fun h => List.mem_cons_of_mem _ (List.mem_append_right _ h)))) w_x_cannot_good
theorem g_x_paramsOf_cannot_68 : GoodIn w_x_paramsOf (wsV RX12 68 RX12 yX12_cannot w_x_cannot) := goodIn_app (nb_g4 (List.mem_cons_of_mem _ (List.mem_append_left _ (List.mem_append_left _ (List.mem_of_getElem? (i := 30) rfl)))) (List.mem_cons_of_mem _ (List.mem_append_left _ (List.mem_append_left _ (List.mem_of_getElem? (i := 31) rfl)))) (List.mem_cons_of_mem _ (List.mem_append_left _ (List.mem_append_left _ (List.mem_of_getElem? (i := 32) rfl)))) (List.mem_cons_of_mem _ (List.mem_append_left _ (List.mem_append_left _ (List.mem_of_getElem? (i := 4) rfl)))) (by decide +kernel)) gg_x_paramsOf_cannot
theorem gg_x_paramsOf_fault : GoodIn w_x_paramsOf w_x_fault := goodIn_sub (fun w h => (List.mem_cons.mp h).elim (fun e => (List.mem_cons_of_mem _ (List.mem_append_left _ (List.mem_append_right _ (List.mem_append_right _ (List.mem_append_right _ (List.mem_append_right _ (List.mem_append_right _ (List.mem_append_right _ (List.mem_append_left _ (List.mem_cons.mpr (Or.inl e)))))))))))) (fun h => (List.mem_append.mp h).elim (fun h => (List.mem_cons_of_mem _ (List.mem_append_left _ (List.mem_append_right _ (List.mem_append_right _ (List.mem_append_right _ (List.mem_append_right _ (List.mem_append_right _ (List.mem_append_right _ (List.mem_append_left _ (List.mem_cons_of_mem _ h))))))))))) (fun h => List.mem_cons_of_mem _ (List.mem_append_right _ h)))) w_x_fault_good
theorem g_x_paramsOf_fault_58 : GoodIn w_x_paramsOf (wsV RX12 58 RX12 yX12_fault w_x_fault) := goodIn_app (nb_g4 (List.mem_cons_of_mem _ (List.mem_append_left _ (List.mem_append_left _ (List.mem_of_getElem? (i := 22) rfl)))) (List.mem_cons_of_mem _ (List.mem_append_left _ (List.mem_append_left _ (List.mem_of_getElem? (i := 23) rfl)))) (List.mem_cons_of_mem _ (List.mem_append_left _ (List.mem_append_left _ (List.mem_of_getElem? (i := 24) rfl)))) (List.mem_cons_of_mem _ (List.mem_append_left _ (List.mem_append_left _ (List.mem_of_getElem? (i := 4) rfl)))) (by decide +kernel)) gg_x_paramsOf_fault
theorem gg_x_paramsOf_isNamed : GoodIn w_x_paramsOf w_x_isNamed := goodIn_sub (fun w h => (List.mem_cons.mp h).elim (fun e => (List.mem_cons_of_mem _ (List.mem_append_left _ (List.mem_append_right _ (List.mem_append_right _ (List.mem_append_right _ (List.mem_append_right _ (List.mem_append_right _ (List.mem_append_left _ (List.mem_cons.mpr (Or.inl e))))))))))) (fun h => (List.mem_append.mp h).elim (fun h => (List.mem_cons_of_mem _ (List.mem_append_left _ (List.mem_append_right _ (List.mem_append_right _ (List.mem_append_right _ (List.mem_append_right _ (List.mem_append_right _ (List.mem_append_left _ (List.mem_cons_of_mem _ h)))))))))) (fun h => List.mem_cons_of_mem _ (List.mem_append_right _ h)))) w_x_isNamed_good
theorem g_x_paramsOf_isNamed_123 : GoodIn w_x_paramsOf (wsV RX12 123 RX12 yX12_isNamed w_x_isNamed) := goodIn_app (nb_g4 (List.mem_cons_of_mem _ (List.mem_append_left _ (List.mem_append_left _ (List.mem_of_getElem? (i := 18) rfl)))) (List.mem_cons_of_mem _ (List.mem_append_left _ (List.mem_append_left _ (List.mem_of_getElem? (i := 19) rfl)))) (List.mem_cons_of_mem _ (List.mem_append_left _ (List.mem_append_left _ (List.mem_of_getElem? (i := 20) rfl)))) (List.mem_cons_of_mem _ (List.mem_append_left _ (List.mem_append_left _ (List.mem_of_getElem? (i := 4) rfl)))) (by decide +kernel)) gg_x_paramsOf_isNamed
theorem gg_x_paramsOf_isSign : GoodIn w_x_paramsOf w_x_isSign := goodIn_sub (fun w h => (List.mem_cons.mp h).elim (fun e => (List.mem_cons_of_mem _ (List.mem_append_left _ (List.mem_append_right _ (List.mem_append_left _ (List.mem_cons.mpr (Or.inl e))))))) (fun h => (List.mem_append.mp h).elim (fun h => (List.mem_cons_of_mem _ (List.mem_append_left _ (List.mem_append_right _ (List.mem_append_left _ (List.mem_cons_of_mem _ h)))))) (fun h => List.mem_cons_of_mem _ (List.mem_append_right _ h)))) w_x_isSign_good
theorem g_x_paramsOf_isSign_65 : GoodIn w_x_paramsOf (wsV RX12 65 RX12 yX12_isSign w_x_isSign) := goodIn_app (nb_g4 (List.mem_cons_of_mem _ (List.mem_append_left _ (List.mem_append_left _ (List.mem_of_getElem? (i := 1) rfl)))) (List.mem_cons_of_mem _ (List.mem_append_left _ (List.mem_append_left _ (List.mem_of_getElem? (i := 2) rfl)))) (List.mem_cons_of_mem _ (List.mem_append_left _ (List.mem_append_left _ (List.mem_of_getElem? (i := 3) rfl)))) (List.mem_cons_of_mem _ (List.mem_append_left _ (List.mem_append_left _ (List.mem_of_getElem? (i := 4) rfl)))) (by decide +kernel)) gg_x_paramsOf_isSign
theorem gg_x_paramsOf_isWord : GoodIn w_x_paramsOf w_x_isWord := goodIn_sub (fun w h => (List.mem_cons.mp h).elim (fun e => (List.mem_cons_of_mem _ (List.mem_append_left _ (List.mem_append_right _ (List.mem_append_right _ (List.mem_append_right _ (List.mem_append_left _ (List.mem_cons.mpr (Or.inl e))))))))) (fun h => (List.mem_append.mp h).elim (fun h => (List.mem_cons_of_mem _ (List.mem_append_left _ (List.mem_append_right _ (List.mem_append_right _ (List.mem_append_right _ (List.mem_append_left _ (List.mem_cons_of_mem _ h)))))))) (fun h => List.mem_cons_of_mem _ (List.mem_append_right _ h)))) w_x_isWord_good
theorem g_x_paramsOf_isWord_74 : GoodIn w_x_paramsOf (wsV RX12 74 RX12 yX12_isWord w_x_isWord) := goodIn_app (nb_g4 (List.mem_cons_of_mem _ (List.mem_append_left _ (List.mem_append_left _ (List.mem_of_getElem? (i := 8) rfl)))) (List.mem_cons_of_mem _ (List.mem_append_left _ (List.mem_append_left _ (List.mem_of_getElem? (i := 9) rfl)))) (List.mem_cons_of_mem _ (List.mem_append_left _ (List.mem_append_left _ (List.mem_of_getElem? (i := 10) rfl)))) (List.mem_cons_of_mem _ (List.mem_append_left _ (List.mem_append_left _ (List.mem_of_getElem? (i := 4) rfl)))) (by decide +kernel)) gg_x_paramsOf_isWord
theorem gg_x_paramsOf_take : GoodIn w_x_paramsOf w_x_take := goodIn_sub (fun w h => (List.mem_cons.mp h).elim (fun e => (List.mem_cons_of_mem _ (List.mem_append_left _ (List.mem_append_right _ (List.mem_append_right _ (List.mem_append_left _ (List.mem_cons.mpr (Or.inl e)))))))) (fun h => (List.mem_append.mp h).elim (fun h => (List.mem_cons_of_mem _ (List.mem_append_left _ (List.mem_append_right _ (List.mem_append_right _ (List.mem_append_left _ (List.mem_cons_of_mem _ h))))))) (fun h => List.mem_cons_of_mem _ (List.mem_append_right _ h)))) w_x_take_good
theorem g_x_paramsOf_take_71 : GoodIn w_x_paramsOf (wsV RX12 71 RX12 yX12_take w_x_take) := goodIn_app (nb_g4 (List.mem_cons_of_mem _ (List.mem_append_left _ (List.mem_append_left _ (List.mem_of_getElem? (i := 5) rfl)))) (List.mem_cons_of_mem _ (List.mem_append_left _ (List.mem_append_left _ (List.mem_of_getElem? (i := 6) rfl)))) (List.mem_cons_of_mem _ (List.mem_append_left _ (List.mem_append_left _ (List.mem_of_getElem? (i := 7) rfl)))) (List.mem_cons_of_mem _ (List.mem_append_left _ (List.mem_append_left _ (List.mem_of_getElem? (i := 4) rfl)))) (by decide +kernel)) gg_x_paramsOf_take
theorem gg_x_paramsOf_tellLocal : GoodIn w_x_paramsOf w_x_tellLocal := goodIn_sub (fun w h => (List.mem_cons.mp h).elim (fun e => (List.mem_cons_of_mem _ (List.mem_append_left _ (List.mem_append_right _ (List.mem_append_right _ (List.mem_append_right _ (List.mem_append_right _ (List.mem_append_right _ (List.mem_append_right _ (List.mem_append_right _ (List.mem_append_left _ (List.mem_cons.mpr (Or.inl e))))))))))))) (fun h => (List.mem_append.mp h).elim (fun h => (List.mem_cons_of_mem _ (List.mem_append_left _ (List.mem_append_right _ (List.mem_append_right _ (List.mem_append_right _ (List.mem_append_right _ (List.mem_append_right _ (List.mem_append_right _ (List.mem_append_right _ (List.mem_append_left _ (List.mem_cons_of_mem _ h)))))))))))) (fun h => List.mem_cons_of_mem _ (List.mem_append_right _ h)))) w_x_tellLocal_good
theorem g_x_paramsOf_tellLocal_342 : GoodIn w_x_paramsOf (wsV RX12 342 RX12 yX12_tellLocal w_x_tellLocal) := goodIn_app (nb_g4 (List.mem_cons_of_mem _ (List.mem_append_left _ (List.mem_append_left _ (List.mem_of_getElem? (i := 25) rfl)))) (List.mem_cons_of_mem _ (List.mem_append_left _ (List.mem_append_left _ (List.mem_of_getElem? (i := 26) rfl)))) (List.mem_cons_of_mem _ (List.mem_append_left _ (List.mem_append_left _ (List.mem_of_getElem? (i := 27) rfl)))) (List.mem_cons_of_mem _ (List.mem_append_left _ (List.mem_append_left _ (List.mem_of_getElem? (i := 4) rfl)))) (by decide +kernel)) gg_x_paramsOf_tellLocal
theorem gg_x_paramsOf_wantName : GoodIn w_x_paramsOf w_x_wantName := goodIn_sub (fun w h => (List.mem_cons.mp h).elim (fun e => (List.mem_cons_of_mem _ (List.mem_append_left _ (List.mem_append_right _ (List.mem_append_right _ (List.mem_append_right _ (List.mem_append_right _ (List.mem_append_left _ (List.mem_cons.mpr (Or.inl e)))))))))) (fun h => (List.mem_append.mp h).elim (fun h => (List.mem_cons_of_mem _ (List.mem_append_left _ (List.mem_append_right _ (List.mem_append_right _ (List.mem_append_right _ (List.mem_append_right _ (List.mem_append_left _ (List.mem_cons_of_mem _ h))))))))) (fun h => List.mem_cons_of_mem _ (List.mem_append_right _ h)))) w_x_wantName_good
theorem g_x_paramsOf_wantName_279 : GoodIn w_x_paramsOf (wsV RX12 279 RX12 yX12_wantName w_x_wantName) := goodIn_app (nb_g4 (List.mem_cons_of_mem _ (List.mem_append_left _ (List.mem_append_left _ (List.mem_of_getElem? (i := 12) rfl)))) (List.mem_cons_of_mem _ (List.mem_append_left _ (List.mem_append_left _ (List.mem_of_getElem? (i := 13) rfl)))) (List.mem_cons_of_mem _ (List.mem_append_left _ (List.mem_append_left _ (List.mem_of_getElem? (i := 14) rfl)))) (List.mem_cons_of_mem _ (List.mem_append_left _ (List.mem_append_left _ (List.mem_of_getElem? (i := 4) rfl)))) (by decide +kernel)) gg_x_paramsOf_wantName
set_option maxHeartbeats 40000000 in
set_option maxRecDepth 100000 in
theorem c_x_paramsOf (l : Launch) (dC : Nat → ClassId) (dI : Nat → Nat → Nat) (cy : Nat → ClassId) (a : Nat → Nat) (k0 : Nat) (L0 : Nat → Int32) (σ0 : MS) (r0 : Int32 × MS) (h0 : x_paramsOf k0 0 L0 σ0 = some r0) (sz : Nat) : Met l yX12_paramsOf w_x_paramsOf ({ frames := 4, cells := 0, slots := 0, locals := 86 }) (va_Pc [.ref (a 0), .int (L0 1), .int (L0 2)] (nIn (dC, dI) cy sz (vM cy a σ0))) (va_Qv (fun _ : Unit => True) (fun _ t => nOut (dC, dI) cy (va_A (vM cy a σ0) sz) (vM cy a r0.2) t) (va_A (vM cy a σ0) sz)) 0 0 (va_A (vM cy a σ0) sz) := by
  refine Met.ofW (cc := cX12_paramsOf) (maxL := 6) (ret := none) (by decide) rfl ?_
  intro p e s m args below meth c s₁ B hml hv
  obtain ⟨rfl, hsz, hP, hK, hD0, hG⟩ := hv
  have hx := B.exec
  have hb := B.bytes
  have hr := B.returns
  have hts := atoms_spec (ws := w_x_paramsOf) B.pre
  have hown : s.vm.findClass RX12 = some m.cls := findClass_of_methodNamed B.named
  have hlocks := B.notSynchronized
  subst hsz
  have hD := hD0.self (sz := s.heap.size)
  generalize hAe : va_A (vM cy a σ0) s.heap.size = A at hD ⊢
  have hA : ∀ q : Nat, s.heap.size ≤ q → A q := fun q h => by rw [← hAe]; exact Or.inr h
  have hS : va_S A s.heap s.heap [] := va_S.rf
  have hl := lv_entry ([.ref (a 0), .int (L0 1), .int (L0 2)]) (n := 6) (Nat.le_of_ble_eq_true rfl)
  rw [lg_entry_eq]
  generalize (lg_sl ([.ref (a 0), .int (L0 1), .int (L0 2)]) ++ List.replicate (6 - (lg_sl ([.ref (a 0), .int (L0 1), .int (L0 2)])).length) Slot.unset).toArray = ls at hl ⊢
  have hl : lv_has ls 6 [(0, .ref (a 0)), (1, .int (L0 1)), (2, .int (L0 2))] := hl
  have blk : ∀ k : Nat, (bT p l e (headSpec w_x_paramsOf ({ frames := 4, cells := 0, slots := 0, locals := 86 })).room s m #[.ref (a 0), .int (L0 1), .int (L0 2)] below meth c dC dI cy a A (qV dC dI cy a A below #[.ref (a 0), .int (L0 1), .int (L0 2)] s) 6 (x_paramsOf k 0) (fun L => [(0, .ref (a 0)), (1, .int (L 1)), (2, .int (L 2))]) 0 (fun L => [])) ∧ (bT p l e (headSpec w_x_paramsOf ({ frames := 4, cells := 0, slots := 0, locals := 86 })).room s m #[.ref (a 0), .int (L0 1), .int (L0 2)] below meth c dC dI cy a A (qV dC dI cy a A below #[.ref (a 0), .int (L0 1), .int (L0 2)] s) 6 (x_paramsOf k 1) (fun L => [(0, .ref (a 0)), (1, .int (L 1)), (2, .int (L 2)), (3, .int (L 3))]) 2 (fun L => [])) ∧ (bT p l e (headSpec w_x_paramsOf ({ frames := 4, cells := 0, slots := 0, locals := 86 })).room s m #[.ref (a 0), .int (L0 1), .int (L0 2)] below meth c dC dI cy a A (qV dC dI cy a A below #[.ref (a 0), .int (L0 1), .int (L0 2)] s) 6 (x_paramsOf k 2) (fun L => [(0, .ref (a 0)), (1, .int (L 1)), (2, .int (L 2)), (3, .int (L 3))]) 22 (fun L => [])) ∧ (bT p l e (headSpec w_x_paramsOf ({ frames := 4, cells := 0, slots := 0, locals := 86 })).room s m #[.ref (a 0), .int (L0 1), .int (L0 2)] below meth c dC dI cy a A (qV dC dI cy a A below #[.ref (a 0), .int (L0 1), .int (L0 2)] s) 6 (x_paramsOf k 3) (fun L => [(0, .ref (a 0)), (1, .int (L 1)), (2, .int (L 2)), (3, .int (L 3))]) 35 (fun L => [])) ∧ (bT p l e (headSpec w_x_paramsOf ({ frames := 4, cells := 0, slots := 0, locals := 86 })).room s m #[.ref (a 0), .int (L0 1), .int (L0 2)] below meth c dC dI cy a A (qV dC dI cy a A below #[.ref (a 0), .int (L0 1), .int (L0 2)] s) 6 (x_paramsOf k 4) (fun L => [(0, .ref (a 0)), (1, .int (L 1)), (2, .int (L 2)), (3, .int (L 3))]) 43 (fun L => [])) ∧ (bT p l e (headSpec w_x_paramsOf ({ frames := 4, cells := 0, slots := 0, locals := 86 })).room s m #[.ref (a 0), .int (L0 1), .int (L0 2)] below meth c dC dI cy a A (qV dC dI cy a A below #[.ref (a 0), .int (L0 1), .int (L0 2)] s) 6 (x_paramsOf k 5) (fun L => [(0, .ref (a 0)), (1, .int (L 1)), (2, .int (L 2)), (3, .int (L 3)), (4, .int (L 4))]) 81 (fun L => [])) ∧ (bT p l e (headSpec w_x_paramsOf ({ frames := 4, cells := 0, slots := 0, locals := 86 })).room s m #[.ref (a 0), .int (L0 1), .int (L0 2)] below meth c dC dI cy a A (qV dC dI cy a A below #[.ref (a 0), .int (L0 1), .int (L0 2)] s) 6 (x_paramsOf k 6) (fun L => [(0, .ref (a 0)), (1, .int (L 1)), (2, .int (L 2)), (3, .int (L 3)), (4, .int (L 4))]) 93 (fun L => [])) ∧ (bT p l e (headSpec w_x_paramsOf ({ frames := 4, cells := 0, slots := 0, locals := 86 })).room s m #[.ref (a 0), .int (L0 1), .int (L0 2)] below meth c dC dI cy a A (qV dC dI cy a A below #[.ref (a 0), .int (L0 1), .int (L0 2)] s) 6 (x_paramsOf k 7) (fun L => [(0, .ref (a 0)), (1, .int (L 1)), (2, .int (L 2)), (3, .int (L 3)), (4, .int (L 4))]) 105 (fun L => [])) ∧ (bT p l e (headSpec w_x_paramsOf ({ frames := 4, cells := 0, slots := 0, locals := 86 })).room s m #[.ref (a 0), .int (L0 1), .int (L0 2)] below meth c dC dI cy a A (qV dC dI cy a A below #[.ref (a 0), .int (L0 1), .int (L0 2)] s) 6 (x_paramsOf k 8) (fun L => [(0, .ref (a 0)), (1, .int (L 1)), (2, .int (L 2)), (3, .int (L 3)), (4, .int (L 4))]) 106 (fun L => [.int (L 100)])) ∧ (bT p l e (headSpec w_x_paramsOf ({ frames := 4, cells := 0, slots := 0, locals := 86 })).room s m #[.ref (a 0), .int (L0 1), .int (L0 2)] below meth c dC dI cy a A (qV dC dI cy a A below #[.ref (a 0), .int (L0 1), .int (L0 2)] s) 6 (x_paramsOf k 9) (fun L => [(0, .ref (a 0)), (1, .int (L 1)), (2, .int (L 2)), (3, .int (L 3)), (4, .int (L 4))]) 112 (fun L => [])) ∧ (bT p l e (headSpec w_x_paramsOf ({ frames := 4, cells := 0, slots := 0, locals := 86 })).room s m #[.ref (a 0), .int (L0 1), .int (L0 2)] below meth c dC dI cy a A (qV dC dI cy a A below #[.ref (a 0), .int (L0 1), .int (L0 2)] s) 6 (x_paramsOf k 10) (fun L => [(0, .ref (a 0)), (1, .int (L 1)), (2, .int (L 2)), (3, .int (L 3)), (4, .int (L 4)), (5, .int (L 5))]) 132 (fun L => [])) ∧ (bT p l e (headSpec w_x_paramsOf ({ frames := 4, cells := 0, slots := 0, locals := 86 })).room s m #[.ref (a 0), .int (L0 1), .int (L0 2)] below meth c dC dI cy a A (qV dC dI cy a A below #[.ref (a 0), .int (L0 1), .int (L0 2)] s) 6 (x_paramsOf k 11) (fun L => [(0, .ref (a 0)), (1, .int (L 1)), (2, .int (L 2)), (3, .int (L 3)), (4, .int (L 4)), (5, .int (L 5))]) 171 (fun L => [])) ∧ (bT p l e (headSpec w_x_paramsOf ({ frames := 4, cells := 0, slots := 0, locals := 86 })).room s m #[.ref (a 0), .int (L0 1), .int (L0 2)] below meth c dC dI cy a A (qV dC dI cy a A below #[.ref (a 0), .int (L0 1), .int (L0 2)] s) 6 (x_paramsOf k 12) (fun L => [(0, .ref (a 0)), (1, .int (L 1)), (2, .int (L 2)), (3, .int (L 3)), (4, .int (L 4)), (5, .int (L 5))]) 177 (fun L => [])) ∧ (bT p l e (headSpec w_x_paramsOf ({ frames := 4, cells := 0, slots := 0, locals := 86 })).room s m #[.ref (a 0), .int (L0 1), .int (L0 2)] below meth c dC dI cy a A (qV dC dI cy a A below #[.ref (a 0), .int (L0 1), .int (L0 2)] s) 6 (x_paramsOf k 13) (fun L => [(0, .ref (a 0)), (1, .int (L 1)), (2, .int (L 2)), (3, .int (L 3)), (4, .int (L 4))]) 187 (fun L => [])) ∧ (bT p l e (headSpec w_x_paramsOf ({ frames := 4, cells := 0, slots := 0, locals := 86 })).room s m #[.ref (a 0), .int (L0 1), .int (L0 2)] below meth c dC dI cy a A (qV dC dI cy a A below #[.ref (a 0), .int (L0 1), .int (L0 2)] s) 6 (x_paramsOf k 14) (fun L => [(0, .ref (a 0)), (1, .int (L 1)), (2, .int (L 2)), (3, .int (L 3)), (4, .int (L 4))]) 199 (fun L => [])) ∧ (bT p l e (headSpec w_x_paramsOf ({ frames := 4, cells := 0, slots := 0, locals := 86 })).room s m #[.ref (a 0), .int (L0 1), .int (L0 2)] below meth c dC dI cy a A (qV dC dI cy a A below #[.ref (a 0), .int (L0 1), .int (L0 2)] s) 6 (x_paramsOf k 15) (fun L => [(0, .ref (a 0)), (1, .int (L 1)), (2, .int (L 2)), (3, .int (L 3)), (4, .int (L 4))]) 219 (fun L => [])) ∧ (bT p l e (headSpec w_x_paramsOf ({ frames := 4, cells := 0, slots := 0, locals := 86 })).room s m #[.ref (a 0), .int (L0 1), .int (L0 2)] below meth c dC dI cy a A (qV dC dI cy a A below #[.ref (a 0), .int (L0 1), .int (L0 2)] s) 6 (x_paramsOf k 16) (fun L => [(0, .ref (a 0)), (1, .int (L 1)), (2, .int (L 2)), (3, .int (L 3)), (4, .int (L 4))]) 229 (fun L => [])) ∧ (bT p l e (headSpec w_x_paramsOf ({ frames := 4, cells := 0, slots := 0, locals := 86 })).room s m #[.ref (a 0), .int (L0 1), .int (L0 2)] below meth c dC dI cy a A (qV dC dI cy a A below #[.ref (a 0), .int (L0 1), .int (L0 2)] s) 6 (x_paramsOf k 17) (fun L => [(0, .ref (a 0)), (1, .int (L 1)), (2, .int (L 2)), (3, .int (L 3))]) 232 (fun L => [])) ∧ (bT p l e (headSpec w_x_paramsOf ({ frames := 4, cells := 0, slots := 0, locals := 86 })).room s m #[.ref (a 0), .int (L0 1), .int (L0 2)] below meth c dC dI cy a A (qV dC dI cy a A below #[.ref (a 0), .int (L0 1), .int (L0 2)] s) 6 (x_paramsOf k 18) (fun L => [(0, .ref (a 0)), (1, .int (L 1)), (2, .int (L 2)), (3, .int (L 3))]) 252 (fun L => [])) := by
    intro k
    induction k with
    | zero => exact ⟨fun L σ r h => (by cases h), fun L σ r h => (by cases h), fun L σ r h => (by cases h), fun L σ r h => (by cases h), fun L σ r h => (by cases h), fun L σ r h => (by cases h), fun L σ r h => (by cases h), fun L σ r h => (by cases h), fun L σ r h => (by cases h), fun L σ r h => (by cases h), fun L σ r h => (by cases h), fun L σ r h => (by cases h), fun L σ r h => (by cases h), fun L σ r h => (by cases h), fun L σ r h => (by cases h), fun L σ r h => (by cases h), fun L σ r h => (by cases h), fun L σ r h => (by cases h), fun L σ r h => (by cases h)⟩
    | succ k ih =>
      refine ⟨?_, ?_, ?_, ?_, ?_, ?_, ?_, ?_, ?_, ?_, ?_, ?_, ?_, ?_, ?_, ?_, ?_, ?_, ?_⟩
      · intro L σ r h H locs ls hP hD hS hl
        rw [x_paramsOf] at h
        refine lv_iconst (v := 0) hx hb dX12_paramsOf_0 (by decide) ?_
        refine lv_istore_n (lv' := [(3, .int 0), (0, .ref (a 0)), (1, .int (L 1)), (2, .int (L 2))]) hx hb dX12_paramsOf_1 rfl hl (by decide) rfl (fun ls hl => ?_)
        exact ih.2.1 (upd L 3 0) σ r h H locs ls hP hD hS (lv_sub hl [1, 2, 3, 0] rfl)
      · intro L σ r h H locs ls hP hD hS hl
        rw [x_paramsOf] at h
        refine lv_aload_n hx hb dX12_paramsOf_2 rfl (lv_at hl 0 rfl) ?_
        refine ng_10 hx hb hts in_x_paramsOf hown hK hP (hts _ (List.mem_cons_of_mem _ (List.mem_append_left _ (List.mem_append_left _ (List.mem_of_getElem? (i := 0) rfl))))) dX12_paramsOf_3 ?_
        refine lv_if_ne (tgt := 232) hx hb dX12_paramsOf_6 (by decide) (fun c1 => ?_) (fun c1 => ?_)
        · rw [if_neg c1] at h
          exact ih.2.2.2.2.2.2.2.2.2.2.2.2.2.2.2.2.2.1 L σ r h H locs ls hP hD hS (lv_sub hl [0, 1, 2, 3] rfl)
        · rw [if_pos c1] at h
          refine lv_iload_n hx hb dX12_paramsOf_9 rfl (lv_at hl 3 rfl) ?_
          refine lv_if_gt (tgt := 22) hx hb dX12_paramsOf_10 (by decide) (fun c2 => ?_) (fun c2 => ?_)
          · rw [if_pos c2] at h
            exact ih.2.2.1 L σ r h H locs ls hP hD hS (lv_sub hl [0, 1, 2, 3] rfl)
          · rw [if_neg c2] at h
            refine lv_aload_n hx hb dX12_paramsOf_13 rfl (lv_at hl 0 rfl) ?_
            refine lv_bipush (v := 7) hx hb dX12_paramsOf_14 (by decide) ?_
            obtain ⟨r3, hc3, h⟩ := ob_ex h
            refine nc_Vi (As := [.int 7]) (rest := []) ⟨hx, hb, hml, hown, hts⟩ (c_x_isSign l dC dI cy a k (upd (fun _ => 0) 1 7) σ r3 hc3 H.size) (cwV 1 hts g_x_paramsOf_isSign_65 rfl rfl rfl hd_x_isSign ⟨Nat.le_of_ble_eq_true rfl, Nat.le_of_ble_eq_true rfl⟩) hK hG hA hP hD hS rfl hl.1 rfl (Nat.le_of_ble_eq_true rfl) dX12_paramsOf_16 ⟨Nat.le_refl _, Nat.le_refl _⟩ (fun H locs hP hD hS => ?_)
            refine lv_if_ne (tgt := 232) hx hb dX12_paramsOf_19 (by decide) (fun c4 => ?_) (fun c4 => ?_)
            · rw [if_neg c4] at h
              exact ih.2.2.2.2.2.2.2.2.2.2.2.2.2.2.2.2.2.1 L r3.2 r h H locs ls hP hD hS (lv_sub hl [0, 1, 2, 3] rfl)
            · rw [if_pos c4] at h
              exact ih.2.2.1 L r3.2 r h H locs ls hP hD hS (lv_sub hl [0, 1, 2, 3] rfl)
      · intro L σ r h H locs ls hP hD hS hl
        rw [x_paramsOf] at h
        refine lv_iload_n hx hb dX12_paramsOf_22 rfl (lv_at hl 3 rfl) ?_
        refine lv_if_eq (tgt := 35) hx hb dX12_paramsOf_23 (by decide) (fun c1 => ?_) (fun c1 => ?_)
        · rw [if_pos c1] at h
          exact ih.2.2.2.1 L σ r h H locs ls hP hD hS (lv_sub hl [0, 1, 2, 3] rfl)
        · rw [if_neg c1] at h
          refine lv_aload_n hx hb dX12_paramsOf_26 rfl (lv_at hl 0 rfl) ?_
          refine lv_bipush (v := 12) hx hb dX12_paramsOf_27 (by decide) ?_
          obtain ⟨r2, hc2, h⟩ := ob_ex h
          refine nc_Vi (As := [.int 12]) (rest := []) ⟨hx, hb, hml, hown, hts⟩ (c_x_isSign l dC dI cy a k (upd (fun _ => 0) 1 12) σ r2 hc2 H.size) (cwV 1 hts g_x_paramsOf_isSign_65 rfl rfl rfl hd_x_isSign ⟨Nat.le_of_ble_eq_true rfl, Nat.le_of_ble_eq_true rfl⟩) hK hG hA hP hD hS rfl hl.1 rfl (Nat.le_of_ble_eq_true rfl) dX12_paramsOf_29 ⟨Nat.le_refl _, Nat.le_refl _⟩ (fun H locs hP hD hS => ?_)
          refine lv_if_eq (tgt := 232) hx hb dX12_paramsOf_32 (by decide) (fun c3 => ?_) (fun c3 => ?_)
          · rw [if_pos c3] at h
            exact ih.2.2.2.2.2.2.2.2.2.2.2.2.2.2.2.2.2.1 L r2.2 r h H locs ls hP hD hS (lv_sub hl [0, 1, 2, 3] rfl)
          · rw [if_neg c3] at h
            exact ih.2.2.2.1 L r2.2 r h H locs ls hP hD hS (lv_sub hl [0, 1, 2, 3] rfl)
      · intro L σ r h H locs ls hP hD hS hl
        rw [x_paramsOf] at h
        refine lv_iload_n hx hb dX12_paramsOf_35 rfl (lv_at hl 3 rfl) ?_
        refine lv_if_le (tgt := 43) hx hb dX12_paramsOf_36 (by decide) (fun c1 => ?_) (fun c1 => ?_)
        · rw [if_pos c1] at h
          exact ih.2.2.2.2.1 L σ r h H locs ls hP hD hS (lv_sub hl [0, 1, 2, 3] rfl)
        · rw [if_neg c1] at h
          refine lv_aload_n hx hb dX12_paramsOf_39 rfl (lv_at hl 0 rfl) ?_
          obtain ⟨r2, hc2, h⟩ := ob_ex h
          refine nc_Vv (As := []) (rest := []) ⟨hx, hb, hml, hown, hts⟩ (c_x_take l dC dI cy a k (fun _ => 0) σ r2 hc2 H.size) (cwV 0 hts g_x_paramsOf_take_71 rfl rfl rfl hd_x_take ⟨Nat.le_of_ble_eq_true rfl, Nat.le_of_ble_eq_true rfl⟩) hK hG hA hP hD hS rfl hl.1 rfl (Nat.le_of_ble_eq_true rfl) dX12_paramsOf_40 ⟨Nat.le_refl _, Nat.le_refl _⟩ (fun H locs hP hD hS => ?_)
          exact ih.2.2.2.2.1 L r2.2 r h H locs ls hP hD hS (lv_sub hl [0, 1, 2, 3] rfl)
      · intro L σ r h H locs ls hP hD hS hl
        rw [x_paramsOf] at h
        refine lv_iconst (v := 0) hx hb dX12_paramsOf_43 (by decide) ?_
        refine lv_istore (lv' := [(4, .int 0), (0, .ref (a 0)), (1, .int (L 1)), (2, .int (L 2)), (3, .int (L 3))]) hx hb dX12_paramsOf_44 hl (by decide) rfl (fun ls hl => ?_)
        refine lv_aload_n hx hb dX12_paramsOf_46 rfl (lv_at hl 1 rfl) ?_
        refine ng_10 hx hb hts in_x_paramsOf hown hK hP (hts _ (List.mem_cons_of_mem _ (List.mem_append_left _ (List.mem_append_left _ (List.mem_of_getElem? (i := 0) rfl))))) dX12_paramsOf_47 ?_
        refine lv_if_ne (tgt := 112) hx hb dX12_paramsOf_50 (by decide) (fun c1 => ?_) (fun c1 => ?_)
        · rw [if_neg c1] at h
          exact ih.2.2.2.2.2.2.2.2.2.1 (upd L 4 0) σ r h H locs ls hP hD hS (lv_sub hl [1, 2, 3, 4, 0] rfl)
        · rw [if_pos c1] at h
          refine lv_iload_n hx hb dX12_paramsOf_53 rfl (lv_at hl 3 rfl) ?_
          refine lv_if_eq (tgt := 112) hx hb dX12_paramsOf_54 (by decide) (fun c2 => ?_) (fun c2 => ?_)
          · rw [if_pos c2] at h
            exact ih.2.2.2.2.2.2.2.2.2.1 (upd L 4 0) σ r h H locs ls hP hD hS (lv_sub hl [1, 2, 3, 4, 0] rfl)
          · rw [if_neg c2] at h
            refine lv_aload_n hx hb dX12_paramsOf_57 rfl (lv_at hl 1 rfl) ?_
            refine lv_iconst (v := 3) hx hb dX12_paramsOf_58 (by decide) ?_
            obtain ⟨r3, hc3, h⟩ := ob_ex h
            refine nc_Vi (As := [.int 3]) (rest := []) ⟨hx, hb, hml, hown, hts⟩ (c_x_isWord l dC dI cy a k (upd (fun _ => 0) 1 3) σ r3 hc3 H.size) (cwV 1 hts g_x_paramsOf_isWord_74 rfl rfl rfl hd_x_isWord ⟨Nat.le_of_ble_eq_true rfl, Nat.le_of_ble_eq_true rfl⟩) hK hG hA hP hD hS rfl hl.1 rfl (Nat.le_of_ble_eq_true rfl) dX12_paramsOf_59 ⟨Nat.le_refl _, Nat.le_refl _⟩ (fun H locs hP hD hS => ?_)
            refine lv_if_ne (tgt := 81) hx hb dX12_paramsOf_62 (by decide) (fun c4 => ?_) (fun c4 => ?_)
            · rw [if_neg c4] at h
              exact ih.2.2.2.2.2.1 (upd L 4 0) r3.2 r h H locs ls hP hD hS (lv_sub hl [1, 2, 3, 4, 0] rfl)
            · rw [if_pos c4] at h
              refine lv_aload_n hx hb dX12_paramsOf_65 rfl (lv_at hl 1 rfl) ?_
              refine lv_iconst (v := 4) hx hb dX12_paramsOf_66 (by decide) ?_
              obtain ⟨r5, hc5, h⟩ := ob_ex h
              refine nc_Vi (As := [.int 4]) (rest := []) ⟨hx, hb, hml, hown, hts⟩ (c_x_isWord l dC dI cy a k (upd (fun _ => 0) 1 4) r3.2 r5 hc5 H.size) (cwV 1 hts g_x_paramsOf_isWord_74 rfl rfl rfl hd_x_isWord ⟨Nat.le_of_ble_eq_true rfl, Nat.le_of_ble_eq_true rfl⟩) hK hG hA hP hD hS rfl hl.1 rfl (Nat.le_of_ble_eq_true rfl) dX12_paramsOf_67 ⟨Nat.le_refl _, Nat.le_refl _⟩ (fun H locs hP hD hS => ?_)
              refine lv_if_ne (tgt := 81) hx hb dX12_paramsOf_70 (by decide) (fun c6 => ?_) (fun c6 => ?_)
              · rw [if_neg c6] at h
                exact ih.2.2.2.2.2.1 (upd L 4 0) r5.2 r h H locs ls hP hD hS (lv_sub hl [1, 2, 3, 4, 0] rfl)
              · rw [if_pos c6] at h
                refine lv_aload_n hx hb dX12_paramsOf_73 rfl (lv_at hl 1 rfl) ?_
                refine lv_iconst (v := 5) hx hb dX12_paramsOf_74 (by decide) ?_
                obtain ⟨r7, hc7, h⟩ := ob_ex h
                refine nc_Vi (As := [.int 5]) (rest := []) ⟨hx, hb, hml, hown, hts⟩ (c_x_isWord l dC dI cy a k (upd (fun _ => 0) 1 5) r5.2 r7 hc7 H.size) (cwV 1 hts g_x_paramsOf_isWord_74 rfl rfl rfl hd_x_isWord ⟨Nat.le_of_ble_eq_true rfl, Nat.le_of_ble_eq_true rfl⟩) hK hG hA hP hD hS rfl hl.1 rfl (Nat.le_of_ble_eq_true rfl) dX12_paramsOf_75 ⟨Nat.le_refl _, Nat.le_refl _⟩ (fun H locs hP hD hS => ?_)
                refine lv_if_eq (tgt := 112) hx hb dX12_paramsOf_78 (by decide) (fun c8 => ?_) (fun c8 => ?_)
                · rw [if_pos c8] at h
                  exact ih.2.2.2.2.2.2.2.2.2.1 (upd L 4 0) r7.2 r h H locs ls hP hD hS (lv_sub hl [1, 2, 3, 4, 0] rfl)
                · rw [if_neg c8] at h
                  exact ih.2.2.2.2.2.1 (upd L 4 0) r7.2 r h H locs ls hP hD hS (lv_sub hl [1, 2, 3, 4, 0] rfl)
      · intro L σ r h H locs ls hP hD hS hl
        rw [x_paramsOf] at h
        refine lv_aload_n hx hb dX12_paramsOf_81 rfl (lv_at hl 0 rfl) ?_
        refine ng_7 hx hb hts in_x_paramsOf hown hK hP (hts _ (List.mem_cons_of_mem _ (List.mem_append_left _ (List.mem_append_left _ (List.mem_of_getElem? (i := 11) rfl))))) dX12_paramsOf_82 ?_
        refine lv_iconst (v := 4) hx hb dX12_paramsOf_85 (by decide) ?_
        refine lv_icmp_ne (tgt := 93) hx hb dX12_paramsOf_86 (by decide) (fun c1 => ?_) (fun c1 => ?_)
        · rw [if_neg c1] at h
          exact ih.2.2.2.2.2.2.1 L σ r h H locs ls hP hD hS (lv_sub hl [0, 1, 2, 3, 4] rfl)
        · rw [if_pos c1] at h
          refine lv_iconst (v := 1) hx hb dX12_paramsOf_89 (by decide) ?_
          refine lv_goto (tgt := 106) hx hb dX12_paramsOf_90 (by decide) ?_
          exact ih.2.2.2.2.2.2.2.2.1 (upd L 100 1) σ r h H locs ls hP hD hS (lv_sub hl [0, 1, 2, 3, 4] rfl)
      · intro L σ r h H locs ls hP hD hS hl
        rw [x_paramsOf] at h
        refine lv_aload_n hx hb dX12_paramsOf_93 rfl (lv_at hl 0 rfl) ?_
        refine ng_7 hx hb hts in_x_paramsOf hown hK hP (hts _ (List.mem_cons_of_mem _ (List.mem_append_left _ (List.mem_append_left _ (List.mem_of_getElem? (i := 11) rfl))))) dX12_paramsOf_94 ?_
        refine lv_iconst (v := 5) hx hb dX12_paramsOf_97 (by decide) ?_
        refine lv_icmp_ne (tgt := 105) hx hb dX12_paramsOf_98 (by decide) (fun c1 => ?_) (fun c1 => ?_)
        · rw [if_neg c1] at h
          exact ih.2.2.2.2.2.2.2.1 L σ r h H locs ls hP hD hS (lv_sub hl [0, 1, 2, 3, 4] rfl)
        · rw [if_pos c1] at h
          refine lv_iconst (v := 2) hx hb dX12_paramsOf_101 (by decide) ?_
          refine lv_goto (tgt := 106) hx hb dX12_paramsOf_102 (by decide) ?_
          exact ih.2.2.2.2.2.2.2.2.1 (upd L 100 2) σ r h H locs ls hP hD hS (lv_sub hl [0, 1, 2, 3, 4] rfl)
      · intro L σ r h H locs ls hP hD hS hl
        rw [x_paramsOf] at h
        refine lv_iconst (v := 0) hx hb dX12_paramsOf_105 (by decide) ?_
        exact ih.2.2.2.2.2.2.2.2.1 (upd L 100 0) σ r h H locs ls hP hD hS (lv_sub hl [0, 1, 2, 3, 4] rfl)
      · intro L σ r h H locs ls hP hD hS hl
        rw [x_paramsOf] at h
        refine lv_istore (lv' := [(4, .int (L 100)), (0, .ref (a 0)), (1, .int (L 1)), (2, .int (L 2)), (3, .int (L 3))]) hx hb dX12_paramsOf_106 hl (by decide) rfl (fun ls hl => ?_)
        refine lv_aload_n hx hb dX12_paramsOf_108 rfl (lv_at hl 1 rfl) ?_
        obtain ⟨r1, hc1, h⟩ := ob_ex h
        refine nc_Vv (As := []) (rest := []) ⟨hx, hb, hml, hown, hts⟩ (c_x_take l dC dI cy a k (fun _ => 0) σ r1 hc1 H.size) (cwV 0 hts g_x_paramsOf_take_71 rfl rfl rfl hd_x_take ⟨Nat.le_of_ble_eq_true rfl, Nat.le_of_ble_eq_true rfl⟩) hK hG hA hP hD hS rfl hl.1 rfl (Nat.le_of_ble_eq_true rfl) dX12_paramsOf_109 ⟨Nat.le_refl _, Nat.le_refl _⟩ (fun H locs hP hD hS => ?_)
        exact ih.2.2.2.2.2.2.2.2.2.1 (upd L 4 ((L 100))) r1.2 r h H locs ls hP hD hS (lv_sub hl [1, 2, 3, 4, 0] rfl)
      · intro L σ r h H locs ls hP hD hS hl
        rw [x_paramsOf] at h
        refine lv_aload_n hx hb dX12_paramsOf_112 rfl (lv_at hl 0 rfl) ?_
        obtain ⟨r1, hc1, h⟩ := ob_ex h
        refine nc_Vv (As := []) (rest := []) ⟨hx, hb, hml, hown, hts⟩ (c_x_wantName l dC dI cy a k (fun _ => 0) σ r1 hc1 H.size) (cwV 0 hts g_x_paramsOf_wantName_279 rfl rfl rfl hd_x_wantName ⟨Nat.le_of_ble_eq_true rfl, Nat.le_of_ble_eq_true rfl⟩) hK hG hA hP hD hS rfl hl.1 rfl (Nat.le_of_ble_eq_true rfl) dX12_paramsOf_113 ⟨Nat.le_refl _, Nat.le_refl _⟩ (fun H locs hP hD hS => ?_)
        refine lv_aload_n hx hb dX12_paramsOf_116 rfl (lv_at hl 0 rfl) ?_
        refine ng_10 hx hb hts in_x_paramsOf hown hK hP (hts _ (List.mem_cons_of_mem _ (List.mem_append_left _ (List.mem_append_left _ (List.mem_of_getElem? (i := 0) rfl))))) dX12_paramsOf_117 ?_
        refine lv_if_ne (tgt := 187) hx hb dX12_paramsOf_120 (by decide) (fun c2 => ?_) (fun c2 => ?_)
        · rw [if_neg c2] at h
          exact ih.2.2.2.2.2.2.2.2.2.2.2.2.2.1 L r1.2 r h H locs ls hP hD hS (lv_sub hl [0, 1, 2, 3, 4] rfl)
        · rw [if_pos c2] at h
          refine lv_iload_n hx hb dX12_paramsOf_123 rfl (lv_at hl 3 rfl) ?_
          refine lv_bipush (v := 8) hx hb dX12_paramsOf_124 (by decide) ?_
          refine lv_icmp_ne (tgt := 187) hx hb dX12_paramsOf_126 (by decide) (fun c3 => ?_) (fun c3 => ?_)
          · rw [if_neg c3] at h
            exact ih.2.2.2.2.2.2.2.2.2.2.2.2.2.1 L r1.2 r h H locs ls hP hD hS (lv_sub hl [0, 1, 2, 3, 4] rfl)
          · rw [if_pos c3] at h
            refine lv_iconst (v := 0) hx hb dX12_paramsOf_129 (by decide) ?_
            refine lv_istore (lv' := [(5, .int 0), (0, .ref (a 0)), (1, .int (L 1)), (2, .int (L 2)), (3, .int (L 3)), (4, .int (L 4))]) hx hb dX12_paramsOf_130 hl (by decide) rfl (fun ls hl => ?_)
            exact ih.2.2.2.2.2.2.2.2.2.2.1 (upd L 5 0) r1.2 r h H locs ls hP hD hS (lv_sub hl [1, 2, 3, 4, 5, 0] rfl)
      · intro L σ r h H locs ls hP hD hS hl
        rw [x_paramsOf] at h
        refine lv_iload hx hb dX12_paramsOf_132 (lv_at hl 5 rfl) ?_
        refine lv_aload_n hx hb dX12_paramsOf_134 rfl (lv_at hl 0 rfl) ?_
        refine ng_38 hx hb hts in_x_paramsOf hown hK hP (hts _ (List.mem_cons_of_mem _ (List.mem_append_left _ (List.mem_append_left _ (List.mem_of_getElem? (i := 15) rfl))))) dX12_paramsOf_135 ?_
        refine lv_icmp_ge (tgt := 177) hx hb dX12_paramsOf_138 (by decide) (fun c1 => ?_) (fun c1 => ?_)
        · rw [if_pos c1] at h
          exact ih.2.2.2.2.2.2.2.2.2.2.2.2.1 L σ r h H locs ls hP hD hS (lv_sub hl [0, 1, 2, 3, 4, 5] rfl)
        · rw [if_neg c1] at h
          refine lv_aload_n hx hb dX12_paramsOf_141 rfl (lv_at hl 0 rfl) ?_
          refine lv_aload_n hx hb dX12_paramsOf_142 rfl (lv_at hl 0 rfl) ?_
          refine ng_39 hx hb hts in_x_paramsOf hown hK hP (hts _ (List.mem_cons_of_mem _ (List.mem_append_left _ (List.mem_append_left _ (List.mem_of_getElem? (i := 16) rfl))))) dX12_paramsOf_143 ?_
          refine lv_iload hx hb dX12_paramsOf_146 (lv_at hl 5 rfl) ?_
          obtain ⟨q2, h⟩ := nb_ite1 h
          refine nl_22 hx hb hK hP q2 dX12_paramsOf_148 ?_
          refine lv_aload_n hx hb dX12_paramsOf_149 rfl (lv_at hl 0 rfl) ?_
          refine ng_40 hx hb hts in_x_paramsOf hown hK hP (hts _ (List.mem_cons_of_mem _ (List.mem_append_left _ (List.mem_append_left _ (List.mem_of_getElem? (i := 17) rfl))))) dX12_paramsOf_150 ?_
          refine lv_iload hx hb dX12_paramsOf_153 (lv_at hl 5 rfl) ?_
          obtain ⟨q3, h⟩ := nb_ite1 h
          refine nl_23 hx hb hK hP q3 dX12_paramsOf_155 ?_
          obtain ⟨r4, hc4, h⟩ := ob_ex h
          refine nc_Vi (As := [.int (σ.2.2 22 ((L 5)).toNatClampNeg), .int (σ.2.2 23 ((L 5)).toNatClampNeg)]) (rest := []) ⟨hx, hb, hml, hown, hts⟩ (c_x_isNamed l dC dI cy a k (upd (upd (fun _ => 0) 1 ((σ.2.2 22 ((L 5)).toNatClampNeg))) 2 ((σ.2.2 23 ((L 5)).toNatClampNeg))) σ r4 hc4 H.size) (cwV 2 hts g_x_paramsOf_isNamed_123 rfl rfl rfl hd_x_isNamed ⟨Nat.le_of_ble_eq_true rfl, Nat.le_of_ble_eq_true rfl⟩) hK hG hA hP hD hS rfl hl.1 rfl (Nat.le_of_ble_eq_true rfl) dX12_paramsOf_156 ⟨Nat.le_refl _, Nat.le_refl _⟩ (fun H locs hP hD hS => ?_)
          refine lv_if_eq (tgt := 171) hx hb dX12_paramsOf_159 (by decide) (fun c5 => ?_) (fun c5 => ?_)
          · rw [if_pos c5] at h
            exact ih.2.2.2.2.2.2.2.2.2.2.2.1 L r4.2 r h H locs ls hP hD hS (lv_sub hl [0, 1, 2, 3, 4, 5] rfl)
          · rw [if_neg c5] at h
            refine lv_aload_n hx hb dX12_paramsOf_162 rfl (lv_at hl 0 rfl) ?_
            refine lv_iconst (v := 4) hx hb dX12_paramsOf_163 (by decide) ?_
            refine lv_aload_n hx hb dX12_paramsOf_164 rfl (lv_at hl 0 rfl) ?_
            refine ng_8 hx hb hts in_x_paramsOf hown hK hP (hts _ (List.mem_cons_of_mem _ (List.mem_append_left _ (List.mem_append_left _ (List.mem_of_getElem? (i := 21) rfl))))) dX12_paramsOf_165 ?_
            obtain ⟨r6, hc6, h⟩ := ob_ex h
            refine nc_Vv (As := [.int 4, .int (r4.2.1 8)]) (rest := []) ⟨hx, hb, hml, hown, hts⟩ (c_x_fault l dC dI cy a k (upd (upd (fun _ => 0) 1 4) 2 ((r4.2.1 8))) r4.2 r6 hc6 H.size) (cwV 2 hts g_x_paramsOf_fault_58 rfl rfl rfl hd_x_fault ⟨Nat.le_of_ble_eq_true rfl, Nat.le_of_ble_eq_true rfl⟩) hK hG hA hP hD hS rfl hl.1 rfl (Nat.le_of_ble_eq_true rfl) dX12_paramsOf_168 ⟨Nat.le_refl _, Nat.le_refl _⟩ (fun H locs hP hD hS => ?_)
            exact ih.2.2.2.2.2.2.2.2.2.2.2.1 L r6.2 r h H locs ls hP hD hS (lv_sub hl [0, 1, 2, 3, 4, 5] rfl)
      · intro L σ r h H locs ls hP hD hS hl
        rw [x_paramsOf] at h
        refine lv_iinc (v := ((L 5)) + 1) (lv' := [(5, .int (((L 5)) + 1)), (0, .ref (a 0)), (1, .int (L 1)), (2, .int (L 2)), (3, .int (L 3)), (4, .int (L 4))]) hx hb dX12_paramsOf_171 hl (k := 5) rfl rfl (by decide) rfl (fun ls hl => ?_)
        refine lv_goto (tgt := 132) hx hb dX12_paramsOf_174 (by decide) ?_
        exact ih.2.2.2.2.2.2.2.2.2.2.1 (upd L 5 (((L 5)) + 1)) σ r h H locs ls hP hD hS (lv_sub hl [1, 2, 3, 4, 5, 0] rfl)
      · intro L σ r h H locs ls hP hD hS hl
        rw [x_paramsOf] at h
        refine lv_aload_n hx hb dX12_paramsOf_177 rfl (lv_at hl 0 rfl) ?_
        refine lv_bipush (v := 8) hx hb dX12_paramsOf_178 (by decide) ?_
        refine lv_aload_n hx hb dX12_paramsOf_180 rfl (lv_at hl 0 rfl) ?_
        refine ng_8 hx hb hts in_x_paramsOf hown hK hP (hts _ (List.mem_cons_of_mem _ (List.mem_append_left _ (List.mem_append_left _ (List.mem_of_getElem? (i := 21) rfl))))) dX12_paramsOf_181 ?_
        obtain ⟨r1, hc1, h⟩ := ob_ex h
        refine nc_Vv (As := [.int 8, .int (σ.1 8)]) (rest := []) ⟨hx, hb, hml, hown, hts⟩ (c_x_fault l dC dI cy a k (upd (upd (fun _ => 0) 1 8) 2 ((σ.1 8))) σ r1 hc1 H.size) (cwV 2 hts g_x_paramsOf_fault_58 rfl rfl rfl hd_x_fault ⟨Nat.le_of_ble_eq_true rfl, Nat.le_of_ble_eq_true rfl⟩) hK hG hA hP hD hS rfl hl.1 rfl (Nat.le_of_ble_eq_true rfl) dX12_paramsOf_184 ⟨Nat.le_refl _, Nat.le_refl _⟩ (fun H locs hP hD hS => ?_)
        exact ih.2.2.2.2.2.2.2.2.2.2.2.2.2.1 L r1.2 r h H locs ls hP hD hS (lv_sub hl [0, 1, 2, 3, 4] rfl)
      · intro L σ r h H locs ls hP hD hS hl
        rw [x_paramsOf] at h
        refine lv_aload_n hx hb dX12_paramsOf_187 rfl (lv_at hl 0 rfl) ?_
        refine ng_10 hx hb hts in_x_paramsOf hown hK hP (hts _ (List.mem_cons_of_mem _ (List.mem_append_left _ (List.mem_append_left _ (List.mem_of_getElem? (i := 0) rfl))))) dX12_paramsOf_188 ?_
        refine lv_if_ne (tgt := 199) hx hb dX12_paramsOf_191 (by decide) (fun c1 => ?_) (fun c1 => ?_)
        · rw [if_neg c1] at h
          exact ih.2.2.2.2.2.2.2.2.2.2.2.2.2.2.1 L σ r h H locs ls hP hD hS (lv_sub hl [0, 1, 2, 3, 4] rfl)
        · rw [if_pos c1] at h
          refine lv_aload_n hx hb dX12_paramsOf_194 rfl (lv_at hl 0 rfl) ?_
          refine lv_iconst (v := 1) hx hb dX12_paramsOf_195 (by decide) ?_
          obtain ⟨r2, hc2, h⟩ := ob_ex h
          refine nc_Vv (As := [.int 1]) (rest := []) ⟨hx, hb, hml, hown, hts⟩ (c_x_tellLocal l dC dI cy a k (upd (fun _ => 0) 1 1) σ r2 hc2 H.size) (cwV 1 hts g_x_paramsOf_tellLocal_342 rfl rfl rfl hd_x_tellLocal ⟨Nat.le_of_ble_eq_true rfl, Nat.le_of_ble_eq_true rfl⟩) hK hG hA hP hD hS rfl hl.1 rfl (Nat.le_of_ble_eq_true rfl) dX12_paramsOf_196 ⟨Nat.le_refl _, Nat.le_refl _⟩ (fun H locs hP hD hS => ?_)
          exact ih.2.2.2.2.2.2.2.2.2.2.2.2.2.2.1 L r2.2 r h H locs ls hP hD hS (lv_sub hl [0, 1, 2, 3, 4] rfl)
      · intro L σ r h H locs ls hP hD hS hl
        rw [x_paramsOf] at h
        refine lv_aload_n hx hb dX12_paramsOf_199 rfl (lv_at hl 0 rfl) ?_
        refine ng_10 hx hb hts in_x_paramsOf hown hK hP (hts _ (List.mem_cons_of_mem _ (List.mem_append_left _ (List.mem_append_left _ (List.mem_of_getElem? (i := 0) rfl))))) dX12_paramsOf_200 ?_
        refine lv_if_ne (tgt := 229) hx hb dX12_paramsOf_203 (by decide) (fun c1 => ?_) (fun c1 => ?_)
        · rw [if_neg c1] at h
          exact ih.2.2.2.2.2.2.2.2.2.2.2.2.2.2.2.2.1 L σ r h H locs ls hP hD hS (lv_sub hl [0, 1, 2, 3, 4] rfl)
        · rw [if_pos c1] at h
          refine lv_aload_n hx hb dX12_paramsOf_206 rfl (lv_at hl 0 rfl) ?_
          refine ng_34 hx hb hts in_x_paramsOf hown hK hP (hts _ (List.mem_cons_of_mem _ (List.mem_append_left _ (List.mem_append_left _ (List.mem_of_getElem? (i := 28) rfl))))) dX12_paramsOf_207 ?_
          refine lv_bipush (v := 8) hx hb dX12_paramsOf_210 (by decide) ?_
          refine lv_iload_n hx hb dX12_paramsOf_212 rfl (lv_at hl 1 rfl) ?_
          refine lv_imul hx hb dX12_paramsOf_213 ?_
          refine lv_iload_n hx hb dX12_paramsOf_214 rfl (lv_at hl 3 rfl) ?_
          refine lv_iadd hx hb dX12_paramsOf_215 ?_
          refine lv_iload hx hb dX12_paramsOf_216 (lv_at hl 4 rfl) ?_
          obtain ⟨q2, h⟩ := nb_ite1 h
          refine ns_19 hx hb hK hP hD hS q2 dX12_paramsOf_218 (fun H locs hP hD hS => ?_)
          exact ih.2.2.2.2.2.2.2.2.2.2.2.2.2.2.2.1 L (σ.1, σ.2.1, updG σ.2.2 19 (upd (σ.2.2 19) ((((8 * ((L 1)))) + ((L 3)))).toNatClampNeg ((L 4)))) r h H locs ls hP hD hS (lv_sub hl [0, 1, 2, 3, 4] rfl)
      · intro L σ r h H locs ls hP hD hS hl
        rw [x_paramsOf] at h
        refine lv_iinc (v := ((L 3)) + 1) (lv' := [(3, .int (((L 3)) + 1)), (0, .ref (a 0)), (1, .int (L 1)), (2, .int (L 2)), (4, .int (L 4))]) hx hb dX12_paramsOf_219 hl (k := 3) rfl rfl (by decide) rfl (fun ls hl => ?_)
        refine lv_aload_n hx hb dX12_paramsOf_222 rfl (lv_at hl 1 rfl) ?_
        refine ng_33 hx hb hts in_x_paramsOf hown hK hP (hts _ (List.mem_cons_of_mem _ (List.mem_append_left _ (List.mem_append_left _ (List.mem_of_getElem? (i := 29) rfl))))) dX12_paramsOf_223 ?_
        refine lv_iload_n hx hb dX12_paramsOf_226 rfl (lv_at hl 2 rfl) ?_
        refine lv_iload_n hx hb dX12_paramsOf_227 rfl (lv_at hl 0 rfl) ?_
        obtain ⟨q1, h⟩ := nb_ite1 h
        refine ns_18 hx hb hK hP hD hS q1 dX12_paramsOf_228 (fun H locs hP hD hS => ?_)
        exact ih.2.2.2.2.2.2.2.2.2.2.2.2.2.2.2.2.1 (upd L 3 (((L 3)) + 1)) (σ.1, σ.2.1, updG σ.2.2 18 (upd (σ.2.2 18) ((L 1)).toNatClampNeg ((((L 3)) + 1)))) r h H locs ls hP hD hS (lv_sub hl [1, 2, 3, 0, 4] rfl)
      · intro L σ r h H locs ls hP hD hS hl
        rw [x_paramsOf] at h
        refine lv_goto (tgt := 2) hx hb dX12_paramsOf_229 (by decide) ?_
        exact ih.2.1 L σ r h H locs ls hP hD hS (lv_sub hl [0, 1, 2, 3] rfl)
      · intro L σ r h H locs ls hP hD hS hl
        rw [x_paramsOf] at h
        refine lv_aload_n hx hb dX12_paramsOf_232 rfl (lv_at hl 0 rfl) ?_
        refine ng_10 hx hb hts in_x_paramsOf hown hK hP (hts _ (List.mem_cons_of_mem _ (List.mem_append_left _ (List.mem_append_left _ (List.mem_of_getElem? (i := 0) rfl))))) dX12_paramsOf_233 ?_
        refine lv_if_ne (tgt := 252) hx hb dX12_paramsOf_236 (by decide) (fun c1 => ?_) (fun c1 => ?_)
        · rw [if_neg c1] at h
          exact ih.2.2.2.2.2.2.2.2.2.2.2.2.2.2.2.2.2.2 L σ r h H locs ls hP hD hS (lv_sub hl [0, 1, 2, 3] rfl)
        · rw [if_pos c1] at h
          refine lv_aload_n hx hb dX12_paramsOf_239 rfl (lv_at hl 0 rfl) ?_
          refine lv_bipush (v := 7) hx hb dX12_paramsOf_240 (by decide) ?_
          obtain ⟨r2, hc2, h⟩ := ob_ex h
          refine nc_Vi (As := [.int 7]) (rest := []) ⟨hx, hb, hml, hown, hts⟩ (c_x_isSign l dC dI cy a k (upd (fun _ => 0) 1 7) σ r2 hc2 H.size) (cwV 1 hts g_x_paramsOf_isSign_65 rfl rfl rfl hd_x_isSign ⟨Nat.le_of_ble_eq_true rfl, Nat.le_of_ble_eq_true rfl⟩) hK hG hA hP hD hS rfl hl.1 rfl (Nat.le_of_ble_eq_true rfl) dX12_paramsOf_242 ⟨Nat.le_refl _, Nat.le_refl _⟩ (fun H locs hP hD hS => ?_)
          refine lv_if_ne (tgt := 252) hx hb dX12_paramsOf_245 (by decide) (fun c3 => ?_) (fun c3 => ?_)
          · rw [if_neg c3] at h
            exact ih.2.2.2.2.2.2.2.2.2.2.2.2.2.2.2.2.2.2 L r2.2 r h H locs ls hP hD hS (lv_sub hl [0, 1, 2, 3] rfl)
          · rw [if_pos c3] at h
            refine lv_aload_n hx hb dX12_paramsOf_248 rfl (lv_at hl 0 rfl) ?_
            obtain ⟨r4, hc4, h⟩ := ob_ex h
            refine nc_Vv (As := []) (rest := []) ⟨hx, hb, hml, hown, hts⟩ (c_x_cannot l dC dI cy a k (fun _ => 0) r2.2 r4 hc4 H.size) (cwV 0 hts g_x_paramsOf_cannot_68 rfl rfl rfl hd_x_cannot ⟨Nat.le_of_ble_eq_true rfl, Nat.le_of_ble_eq_true rfl⟩) hK hG hA hP hD hS rfl hl.1 rfl (Nat.le_of_ble_eq_true rfl) dX12_paramsOf_249 ⟨Nat.le_refl _, Nat.le_refl _⟩ (fun H locs hP hD hS => ?_)
            exact ih.2.2.2.2.2.2.2.2.2.2.2.2.2.2.2.2.2.2 L r4.2 r h H locs ls hP hD hS (lv_sub hl [0, 1, 2, 3] rfl)
      · intro L σ r h H locs ls hP hD hS hl
        rw [x_paramsOf] at h
        cases h
        exact W.vret hx hb hr (fun t ht hW => ⟨⟨(), rfl, trivial, by rw [ht]; exact hP, va_K.moved hW.alike hK, hD⟩, hS.F ht⟩) hS.2.2 dX12_paramsOf_252
  exact (blk k0).1 L0 σ0 r0 h0 s.heap [] ls hP hD hS hl
/-! declareCallable -/
def x_declareCallable : Nat → Nat → (Nat → Int32) → MS → Option (Int32 × MS)
  | 0, _, _, _ => none
  | k + 1, 0, L, σ => ob (x_take k 0 (fun _ => 0) σ) (fun r1 => ob (x_wantName k 0 (fun _ => 0) r1.2) (fun r2 => if ((r2.2.1 10)) = 0 then (x_declareCallable k 1 L r2.2) else (some (0, r2.2))))
  | k + 1, 1, L, σ => ob (x_find k 0 (fun _ => 0) σ) (fun r1 => if ((r1.2.1 46)) ≤ 0 then (x_declareCallable k 2 L r1.2) else (ob (x_fault k 0 (upd (upd (fun _ => 0) 1 4) 2 ((r1.2.1 8))) r1.2) (fun r3 => x_declareCallable k 3 L r3.2)))
  | k + 1, 2, L, σ => if ((σ.1 30)) = 40 then (ob (x_fault k 0 (upd (upd (fun _ => 0) 1 8) 2 ((σ.1 8))) σ) (fun r2 => x_declareCallable k 3 L r2.2)) else (x_declareCallable k 3 L σ)
  | k + 1, 3, L, σ => if ((σ.1 10)) = 0 then (x_declareCallable k 4 L σ) else (some (0, σ))
  | k + 1, 4, L, σ => if ((L 1)) = 0 then (x_declareCallable k 5 (upd (upd L 2 ((σ.1 30))) 3 ((σ.1 25))) σ) else (x_declareCallable k 6 (upd (upd (upd L 2 ((σ.1 30))) 3 ((σ.1 25))) 100 3) σ)
  | k + 1, 5, L, σ => x_declareCallable k 6 (upd L 100 2) σ
  | k + 1, 6, L, σ => ob (x_tellEntity k 0 (upd (upd (fun _ => 0) 1 ((L 100))) 2 ((L 2))) σ) (fun r1 => ob (x_take k 0 (fun _ => 0) r1.2) (fun r2 => if ((r2.2.1 10)) = 0 then (ob (x_isSign k 0 (upd (fun _ => 0) 1 6) r2.2) (fun r4 => if r4.1 = 0 then (ob (x_cannot k 0 (fun _ => 0) r4.2) (fun r6 => x_declareCallable k 7 L r6.2)) else (x_declareCallable k 7 L r4.2))) else (x_declareCallable k 7 L r2.2)))
  | k + 1, 7, L, σ => if ((σ.1 10)) = 0 then (x_declareCallable k 8 L σ) else (some (0, σ))
  | k + 1, 8, L, σ => x_declareCallable k 9 L (upd σ.1 30 ((((σ.1 30)) + 1)), σ.2.1, σ.2.2)
  | k + 1, 9, L, σ => if ((L 1)) = 0 then (x_declareCallable k 10 (upd L 100 ((σ.1 31))) σ) else (x_declareCallable k 11 (upd (upd L 100 1) 101 ((σ.1 31))) σ)
  | k + 1, 10, L, σ => x_declareCallable k 11 (upd (upd L 100 0) 101 ((L 100))) σ
  | k + 1, 11, L, σ => x_declareCallable k 12 L (upd σ.1 31 ((((L 101)) + ((L 100)))), σ.2.1, σ.2.2)
  | k + 1, 12, L, σ => x_declareCallable k 13 L (upd σ.1 37 ((1 + ((L 2)))), σ.2.1, σ.2.2)
  | k + 1, 13, L, σ => if ¬ (((σ.1 37)) < 0 ∨ 43 ≤ ((σ.1 37)).toNatClampNeg) then (x_declareCallable k 14 L (σ.1, σ.2.1, updG σ.2.2 21 (upd (σ.2.2 21) ((σ.1 37)).toNatClampNeg 0))) else none
  | k + 1, 14, L, σ => x_declareCallable k 15 L (upd σ.1 38 0, σ.2.1, σ.2.2)
  | k + 1, 15, L, σ => if ¬ (((L 2)) < 0 ∨ 41 ≤ ((L 2)).toNatClampNeg) then (x_declareCallable k 16 L (σ.1, σ.2.1, updG σ.2.2 18 (upd (σ.2.2 18) ((L 2)).toNatClampNeg 0))) else none
  | k + 1, 16, L, σ => if ((L 1)) = 0 ∨ ((L 1)) = 1 then (x_declareCallable k 17 L (upd σ.1 42 ((L 1)), σ.2.1, σ.2.2)) else none
  | k + 1, 17, L, σ => if ((L 1)) = 0 ∨ ((L 1)) = 1 then (x_declareCallable k 18 L (upd σ.1 43 ((L 1)), σ.2.1, σ.2.2)) else none
  | k + 1, 18, L, σ => ob (x_open k 0 (fun _ => 0) σ) (fun r1 => if ((r1.2.1 10)) = 0 then (ob (x_take k 0 (fun _ => 0) r1.2) (fun r3 => x_declareCallable k 19 L r3.2)) else (x_declareCallable k 19 L r1.2))
  | k + 1, 19, L, σ => ob (x_paramsOf k 0 (upd (upd (fun _ => 0) 1 ((L 2))) 2 ((L 1))) σ) (fun r1 => if ((r1.2.1 10)) = 0 then (ob (x_take k 0 (fun _ => 0) r1.2) (fun r3 => x_declareCallable k 20 L r3.2)) else (x_declareCallable k 20 L r1.2))
  | k + 1, 20, L, σ => x_declareCallable k 21 L (upd σ.1 13 ((((σ.1 13)) - 1)), σ.2.1, σ.2.2)
  | k + 1, 21, L, σ => if ((L 1)) = 0 then (x_declareCallable k 25 L σ) else (ob (x_want k 0 (upd (fun _ => 0) 1 13) σ) (fun r2 => x_declareCallable k 22 L r2.2))
  | k + 1, 22, L, σ => if ((σ.1 10)) = 0 then (ob (x_isWord k 0 (upd (fun _ => 0) 1 0) σ) (fun r2 => if r2.1 = 0 then (x_declareCallable k 23 L r2.2) else (ob (x_declareVar k 0 (fun _ => 0) r2.2) (fun r4 => x_declareCallable k 22 L r4.2)))) else (x_declareCallable k 23 L σ)
  | k + 1, 23, L, σ => ob (x_block k 0 (upd (fun _ => 0) 1 ((-1))) σ) (fun r1 => if ¬ (((L 2)) < 0 ∨ 41 ≤ ((L 2)).toNatClampNeg) then (x_declareCallable k 24 L (r1.2.1, r1.2.2.1, updG r1.2.2.2 17 (upd (r1.2.2.2 17) ((L 2)).toNatClampNeg r1.1))) else none)
  | k + 1, 24, L, σ => ob (x_wantWord k 0 (upd (fun _ => 0) 1 6) σ) (fun r1 => x_declareCallable k 26 L r1.2)
  | k + 1, 25, L, σ => ob (x_want k 0 (upd (fun _ => 0) 1 17) σ) (fun r1 => ob (x_exp k 0 (fun _ => 0) r1.2) (fun r2 => if ¬ (((L 2)) < 0 ∨ 41 ≤ ((L 2)).toNatClampNeg) then (x_declareCallable k 26 L (r2.2.1, r2.2.2.1, updG r2.2.2.2 17 (upd (r2.2.2.2 17) ((L 2)).toNatClampNeg r2.1))) else none))
  | k + 1, 26, L, σ => ob (x_want k 0 (upd (fun _ => 0) 1 13) σ) (fun r1 => x_declareCallable k 27 L (upd r1.2.1 37 0, r1.2.2.1, r1.2.2.2))
  | k + 1, 27, L, σ => x_declareCallable k 28 L (upd σ.1 38 0, σ.2.1, σ.2.2)
  | k + 1, 28, L, σ => x_declareCallable k 29 L (upd σ.1 42 1, σ.2.1, σ.2.2)
  | k + 1, 29, L, σ => some (0, (upd σ.1 43 1, σ.2.1, σ.2.2))
  | _ + 1, _ + 30, _, _ => none
def o_x_declareCallable : List Cond := [.methodLink RX12 71 yX12_take, .instanceMethod yX12_take, .selects RX12 yX12_take yX12_take, .initialized RX12, .methodLink RX12 279 yX12_wantName, .instanceMethod yX12_wantName, .selects RX12 yX12_wantName yX12_wantName, .fieldLink RX12 11 "SetHouseModel" "bad" "Z", .methodLink RX12 236 yX12_find, .instanceMethod yX12_find, .selects RX12 yX12_find yX12_find, .fieldLink RX12 111 "SetHouseModel" "foundKind" "I", .fieldLink RX12 32 "SetHouseModel" "tFrom" "I", .methodLink RX12 58 yX12_fault, .instanceMethod yX12_fault, .selects RX12 yX12_fault yX12_fault, .fieldLink RX12 346 "SetHouseModel" "callables" "I", .fieldLink RX12 139 "SetHouseModel" "entities" "I", .methodLink RX12 339 yX12_tellEntity, .instanceMethod yX12_tellEntity, .selects RX12 yX12_tellEntity yX12_tellEntity, .methodLink RX12 65 yX12_isSign, .instanceMethod yX12_isSign, .selects RX12 yX12_isSign yX12_isSign, .methodLink RX12 68 yX12_cannot, .instanceMethod yX12_cannot, .selects RX12 yX12_cannot yX12_cannot, .fieldLink RX12 349 "SetHouseModel" "procs" "I", .fieldLink RX12 133 "SetHouseModel" "owner" "I", .fieldLink RX12 157 "SetHouseModel" "held" "[I", .fieldLink RX12 114 "SetHouseModel" "seenNames" "I", .fieldLink RX12 239 "SetHouseModel" "params" "[I", .fieldLink RX12 233 "SetHouseModel" "mayDraw" "Z", .fieldLink RX12 230 "SetHouseModel" "mayMake" "Z", .methodLink RX12 177 yX12_open, .instanceMethod yX12_open, .selects RX12 yX12_open yX12_open, .methodLink RX12 352 yX12_paramsOf, .instanceMethod yX12_paramsOf, .selects RX12 yX12_paramsOf yX12_paramsOf, .fieldLink RX12 77 "SetHouseModel" "opened" "I", .methodLink RX12 199 yX12_want, .instanceMethod yX12_want, .selects RX12 yX12_want yX12_want, .methodLink RX12 74 yX12_isWord, .instanceMethod yX12_isWord, .selects RX12 yX12_isWord yX12_isWord, .methodLink RX12 356 yX12_declareVar, .instanceMethod yX12_declareVar, .selects RX12 yX12_declareVar yX12_declareVar, .fieldLink RX12 359 "SetHouseModel" "first" "[I", .methodLink RX12 336 yX12_block, .instanceMethod yX12_block, .selects RX12 yX12_block yX12_block, .methodLink RX12 253 yX12_wantWord, .instanceMethod yX12_wantWord, .selects RX12 yX12_wantWord yX12_wantWord, .methodLink RX12 209 yX12_exp, .instanceMethod yX12_exp, .selects RX12 yX12_exp yX12_exp]
theorem o_x_declareCallable_good : o_x_declareCallable.all goodWord = true := by decide +kernel
def p_x_declareCallable : List Cond := o_x_declareCallable ++ ((.code yX12_take cX12_take 2 none :: p_x_take) ++ ((.code yX12_wantName cX12_wantName 1 none :: p_x_wantName) ++ ((.code yX12_find cX12_find 2 none :: p_x_find) ++ ((.code yX12_fault cX12_fault 3 none :: p_x_fault) ++ ((.code yX12_tellEntity cX12_tellEntity 3 none :: p_x_tellEntity) ++ ((.code yX12_isSign cX12_isSign 2 (some .boolean) :: p_x_isSign) ++ ((.code yX12_cannot cX12_cannot 1 none :: p_x_cannot) ++ ((.code yX12_open cX12_open 1 none :: p_x_open) ++ ((.code yX12_paramsOf cX12_paramsOf 6 none :: p_x_paramsOf) ++ ((.code yX12_want cX12_want 2 none :: p_x_want) ++ ((.code yX12_isWord cX12_isWord 2 (some .boolean) :: p_x_isWord) ++ ((.code yX12_declareVar cX12_declareVar 3 none :: p_x_declareVar) ++ ((.code yX12_block cX12_block 5 (some .int) :: p_x_GS) ++ ((.code yX12_wantWord cX12_wantWord 2 none :: p_x_wantWord) ++ ((.code yX12_exp cX12_exp 2 (some .int) :: p_x_GE) ++ [])))))))))))))))
theorem p_x_declareCallable_good : p_x_declareCallable.all goodWord = true := nb_all2 o_x_declareCallable_good (nb_all2 (nb_allc (by decide +kernel) p_x_take_good) (nb_all2 (nb_allc (by decide +kernel) p_x_wantName_good) (nb_all2 (nb_allc (by decide +kernel) p_x_find_good) (nb_all2 (nb_allc (by decide +kernel) p_x_fault_good) (nb_all2 (nb_allc (by decide +kernel) p_x_tellEntity_good) (nb_all2 (nb_allc (by decide +kernel) p_x_isSign_good) (nb_all2 (nb_allc (by decide +kernel) p_x_cannot_good) (nb_all2 (nb_allc (by decide +kernel) p_x_open_good) (nb_all2 (nb_allc (by decide +kernel) p_x_paramsOf_good) (nb_all2 (nb_allc (by decide +kernel) p_x_want_good) (nb_all2 (nb_allc (by decide +kernel) p_x_isWord_good) (nb_all2 (nb_allc (by decide +kernel) p_x_declareVar_good) (nb_all2 (nb_allc (by decide +kernel) p_x_GS_good) (nb_all2 (nb_allc (by decide +kernel) p_x_wantWord_good) (nb_all2 (nb_allc (by decide +kernel) p_x_GE_good) rfl)))))))))))))))
def w_x_declareCallable : List Cond := .code yX12_declareCallable cX12_declareCallable 4 none :: (p_x_declareCallable ++ fM)
theorem w_x_declareCallable_good : w_x_declareCallable.all goodWord = true := nb_allc (by decide +kernel) (nb_all2 p_x_declareCallable_good fM_good)
theorem in_x_declareCallable : ∀ w ∈ wsX120, w ∈ w_x_declareCallable := fun _ h => List.mem_cons_of_mem _ (List.mem_append_right _ h)
theorem hd_x_declareCallable : yX12_declareCallable.cls = RX12 ∧ yX12_declareCallable.cls ≠ "java/lang/invoke/MethodHandle" ∧ yX12_declareCallable.cls ≠ "java/lang/invoke/VarHandle" ∧ (parseMethodDescriptor yX12_declareCallable.desc).map (fun d => d.parameters.length) = some 1 := by decide +kernel
theorem gg_x_declareCallable_block : GoodIn w_x_declareCallable w_x_block := goodIn_sub (fun w h => (List.mem_cons.mp h).elim (fun e => (List.mem_cons_of_mem _ (List.mem_append_left _ (List.mem_append_right _ (List.mem_append_right _ (List.mem_append_right _ (List.mem_append_right _ (List.mem_append_right _ (List.mem_append_right _ (List.mem_append_right _ (List.mem_append_right _ (List.mem_append_right _ (List.mem_append_right _ (List.mem_append_right _ (List.mem_append_right _ (List.mem_append_right _ (List.mem_append_left _ (List.mem_cons.mpr (Or.inl e))))))))))))))))))) (fun h => (List.mem_append.mp h).elim (fun h => (List.mem_cons_of_mem _ (List.mem_append_left _ (List.mem_append_right _ (List.mem_append_right _ (List.mem_append_right _ (List.mem_append_right _ (List.mem_append_right _ (List.mem_append_right _ (List.mem_append_right _ (List.mem_append_right _ (List.mem_append_right _ (List.mem_append_right _ (List.mem_append_right _ (List.mem_append_right _ (List.mem_append_right _ (List.mem_append_left _ (List.mem_cons_of_mem _ h)))))))))))))))))) (fun h => List.mem_cons_of_mem _ (List.mem_append_right _ h)))) w_x_block_good
theorem g_x_declareCallable_block_336 : GoodIn w_x_declareCallable (wsV RX12 336 RX12 yX12_block w_x_block) := goodIn_app (nb_g4 (List.mem_cons_of_mem _ (List.mem_append_left _ (List.mem_append_left _ (List.mem_of_getElem? (i := 51) rfl)))) (List.mem_cons_of_mem _ (List.mem_append_left _ (List.mem_append_left _ (List.mem_of_getElem? (i := 52) rfl)))) (List.mem_cons_of_mem _ (List.mem_append_left _ (List.mem_append_left _ (List.mem_of_getElem? (i := 53) rfl)))) (List.mem_cons_of_mem _ (List.mem_append_left _ (List.mem_append_left _ (List.mem_of_getElem? (i := 3) rfl)))) (by decide +kernel)) gg_x_declareCallable_block
theorem gg_x_declareCallable_cannot : GoodIn w_x_declareCallable w_x_cannot := goodIn_sub (fun w h => (List.mem_cons.mp h).elim (fun e => (List.mem_cons_of_mem _ (List.mem_append_left _ (List.mem_append_right _ (List.mem_append_right _ (List.mem_append_right _ (List.mem_append_right _ (List.mem_append_right _ (List.mem_append_right _ (List.mem_append_right _ (List.mem_append_left _ (List.mem_cons.mpr (Or.inl e))))))))))))) (fun h => (List.mem_append.mp h).elim (fun h => (List.mem_cons_of_mem _ (List.mem_append_left _ (List.mem_append_right _ (List.mem_append_right _ (List.mem_append_right _ (List.mem_append_right _ (List.mem_append_right _ (List.mem_append_right _ (List.mem_append_right _ (List.mem_append_left _ (List.mem_cons_of_mem _ h)))))))))))) (fun h => List.mem_cons_of_mem _ (List.mem_append_right _ h)))) w_x_cannot_good
theorem g_x_declareCallable_cannot_68 : GoodIn w_x_declareCallable (wsV RX12 68 RX12 yX12_cannot w_x_cannot) := goodIn_app (nb_g4 (List.mem_cons_of_mem _ (List.mem_append_left _ (List.mem_append_left _ (List.mem_of_getElem? (i := 24) rfl)))) (List.mem_cons_of_mem _ (List.mem_append_left _ (List.mem_append_left _ (List.mem_of_getElem? (i := 25) rfl)))) (List.mem_cons_of_mem _ (List.mem_append_left _ (List.mem_append_left _ (List.mem_of_getElem? (i := 26) rfl)))) (List.mem_cons_of_mem _ (List.mem_append_left _ (List.mem_append_left _ (List.mem_of_getElem? (i := 3) rfl)))) (by decide +kernel)) gg_x_declareCallable_cannot
theorem gg_x_declareCallable_declareVar : GoodIn w_x_declareCallable w_x_declareVar := goodIn_sub (fun w h => (List.mem_cons.mp h).elim (fun e => (List.mem_cons_of_mem _ (List.mem_append_left _ (List.mem_append_right _ (List.mem_append_right _ (List.mem_append_right _ (List.mem_append_right _ (List.mem_append_right _ (List.mem_append_right _ (List.mem_append_right _ (List.mem_append_right _ (List.mem_append_right _ (List.mem_append_right _ (List.mem_append_right _ (List.mem_append_right _ (List.mem_append_left _ (List.mem_cons.mpr (Or.inl e)))))))))))))))))) (fun h => (List.mem_append.mp h).elim (fun h => (List.mem_cons_of_mem _ (List.mem_append_left _ (List.mem_append_right _ (List.mem_append_right _ (List.mem_append_right _ (List.mem_append_right _ (List.mem_append_right _ (List.mem_append_right _ (List.mem_append_right _ (List.mem_append_right _ (List.mem_append_right _ (List.mem_append_right _ (List.mem_append_right _ (List.mem_append_right _ (List.mem_append_left _ (List.mem_cons_of_mem _ h))))))))))))))))) (fun h => List.mem_cons_of_mem _ (List.mem_append_right _ h)))) w_x_declareVar_good
theorem g_x_declareCallable_declareVar_356 : GoodIn w_x_declareCallable (wsV RX12 356 RX12 yX12_declareVar w_x_declareVar) := goodIn_app (nb_g4 (List.mem_cons_of_mem _ (List.mem_append_left _ (List.mem_append_left _ (List.mem_of_getElem? (i := 47) rfl)))) (List.mem_cons_of_mem _ (List.mem_append_left _ (List.mem_append_left _ (List.mem_of_getElem? (i := 48) rfl)))) (List.mem_cons_of_mem _ (List.mem_append_left _ (List.mem_append_left _ (List.mem_of_getElem? (i := 49) rfl)))) (List.mem_cons_of_mem _ (List.mem_append_left _ (List.mem_append_left _ (List.mem_of_getElem? (i := 3) rfl)))) (by decide +kernel)) gg_x_declareCallable_declareVar
theorem gg_x_declareCallable_exp : GoodIn w_x_declareCallable w_x_exp := goodIn_sub (fun w h => (List.mem_cons.mp h).elim (fun e => (List.mem_cons_of_mem _ (List.mem_append_left _ (List.mem_append_right _ (List.mem_append_right _ (List.mem_append_right _ (List.mem_append_right _ (List.mem_append_right _ (List.mem_append_right _ (List.mem_append_right _ (List.mem_append_right _ (List.mem_append_right _ (List.mem_append_right _ (List.mem_append_right _ (List.mem_append_right _ (List.mem_append_right _ (List.mem_append_right _ (List.mem_append_right _ (List.mem_append_left _ (List.mem_cons.mpr (Or.inl e))))))))))))))))))))) (fun h => (List.mem_append.mp h).elim (fun h => (List.mem_cons_of_mem _ (List.mem_append_left _ (List.mem_append_right _ (List.mem_append_right _ (List.mem_append_right _ (List.mem_append_right _ (List.mem_append_right _ (List.mem_append_right _ (List.mem_append_right _ (List.mem_append_right _ (List.mem_append_right _ (List.mem_append_right _ (List.mem_append_right _ (List.mem_append_right _ (List.mem_append_right _ (List.mem_append_right _ (List.mem_append_right _ (List.mem_append_left _ (List.mem_cons_of_mem _ h)))))))))))))))))))) (fun h => List.mem_cons_of_mem _ (List.mem_append_right _ h)))) w_x_exp_good
theorem g_x_declareCallable_exp_209 : GoodIn w_x_declareCallable (wsV RX12 209 RX12 yX12_exp w_x_exp) := goodIn_app (nb_g4 (List.mem_cons_of_mem _ (List.mem_append_left _ (List.mem_append_left _ (List.mem_of_getElem? (i := 57) rfl)))) (List.mem_cons_of_mem _ (List.mem_append_left _ (List.mem_append_left _ (List.mem_of_getElem? (i := 58) rfl)))) (List.mem_cons_of_mem _ (List.mem_append_left _ (List.mem_append_left _ (List.mem_of_getElem? (i := 59) rfl)))) (List.mem_cons_of_mem _ (List.mem_append_left _ (List.mem_append_left _ (List.mem_of_getElem? (i := 3) rfl)))) (by decide +kernel)) gg_x_declareCallable_exp
theorem gg_x_declareCallable_fault : GoodIn w_x_declareCallable w_x_fault := goodIn_sub (fun w h => (List.mem_cons.mp h).elim (fun e => (List.mem_cons_of_mem _ (List.mem_append_left _ (List.mem_append_right _ (List.mem_append_right _ (List.mem_append_right _ (List.mem_append_right _ (List.mem_append_left _ (List.mem_cons.mpr (Or.inl e)))))))))) (fun h => (List.mem_append.mp h).elim (fun h => (List.mem_cons_of_mem _ (List.mem_append_left _ (List.mem_append_right _ (List.mem_append_right _ (List.mem_append_right _ (List.mem_append_right _ (List.mem_append_left _ (List.mem_cons_of_mem _ h))))))))) (fun h => List.mem_cons_of_mem _ (List.mem_append_right _ h)))) w_x_fault_good
theorem g_x_declareCallable_fault_58 : GoodIn w_x_declareCallable (wsV RX12 58 RX12 yX12_fault w_x_fault) := goodIn_app (nb_g4 (List.mem_cons_of_mem _ (List.mem_append_left _ (List.mem_append_left _ (List.mem_of_getElem? (i := 13) rfl)))) (List.mem_cons_of_mem _ (List.mem_append_left _ (List.mem_append_left _ (List.mem_of_getElem? (i := 14) rfl)))) (List.mem_cons_of_mem _ (List.mem_append_left _ (List.mem_append_left _ (List.mem_of_getElem? (i := 15) rfl)))) (List.mem_cons_of_mem _ (List.mem_append_left _ (List.mem_append_left _ (List.mem_of_getElem? (i := 3) rfl)))) (by decide +kernel)) gg_x_declareCallable_fault
theorem gg_x_declareCallable_find : GoodIn w_x_declareCallable w_x_find := goodIn_sub (fun w h => (List.mem_cons.mp h).elim (fun e => (List.mem_cons_of_mem _ (List.mem_append_left _ (List.mem_append_right _ (List.mem_append_right _ (List.mem_append_right _ (List.mem_append_left _ (List.mem_cons.mpr (Or.inl e))))))))) (fun h => (List.mem_append.mp h).elim (fun h => (List.mem_cons_of_mem _ (List.mem_append_left _ (List.mem_append_right _ (List.mem_append_right _ (List.mem_append_right _ (List.mem_append_left _ (List.mem_cons_of_mem _ h)))))))) (fun h => List.mem_cons_of_mem _ (List.mem_append_right _ h)))) w_x_find_good
theorem g_x_declareCallable_find_236 : GoodIn w_x_declareCallable (wsV RX12 236 RX12 yX12_find w_x_find) := goodIn_app (nb_g4 (List.mem_cons_of_mem _ (List.mem_append_left _ (List.mem_append_left _ (List.mem_of_getElem? (i := 8) rfl)))) (List.mem_cons_of_mem _ (List.mem_append_left _ (List.mem_append_left _ (List.mem_of_getElem? (i := 9) rfl)))) (List.mem_cons_of_mem _ (List.mem_append_left _ (List.mem_append_left _ (List.mem_of_getElem? (i := 10) rfl)))) (List.mem_cons_of_mem _ (List.mem_append_left _ (List.mem_append_left _ (List.mem_of_getElem? (i := 3) rfl)))) (by decide +kernel)) gg_x_declareCallable_find
theorem gg_x_declareCallable_isSign : GoodIn w_x_declareCallable w_x_isSign := goodIn_sub (fun w h => (List.mem_cons.mp h).elim (fun e => (List.mem_cons_of_mem _ (List.mem_append_left _ (List.mem_append_right _ (List.mem_append_right _ (List.mem_append_right _ (List.mem_append_right _ (List.mem_append_right _ (List.mem_append_right _ (List.mem_append_left _ (List.mem_cons.mpr (Or.inl e)))))))))))) (fun h => (List.mem_append.mp h).elim (fun h => (List.mem_cons_of_mem _ (List.mem_append_left _ (List.mem_append_right _ (List.mem_append_right _ (List.mem_append_right _ (List.mem_append_right _ (List.mem_append_right _ (List.mem_append_right _ (List.mem_append_left _ (List.mem_cons_of_mem _ h))))))))))) (fun h => List.mem_cons_of_mem _ (List.mem_append_right _ h)))) w_x_isSign_good
theorem g_x_declareCallable_isSign_65 : GoodIn w_x_declareCallable (wsV RX12 65 RX12 yX12_isSign w_x_isSign) := goodIn_app (nb_g4 (List.mem_cons_of_mem _ (List.mem_append_left _ (List.mem_append_left _ (List.mem_of_getElem? (i := 21) rfl)))) (List.mem_cons_of_mem _ (List.mem_append_left _ (List.mem_append_left _ (List.mem_of_getElem? (i := 22) rfl)))) (List.mem_cons_of_mem _ (List.mem_append_left _ (List.mem_append_left _ (List.mem_of_getElem? (i := 23) rfl)))) (List.mem_cons_of_mem _ (List.mem_append_left _ (List.mem_append_left _ (List.mem_of_getElem? (i := 3) rfl)))) (by decide +kernel)) gg_x_declareCallable_isSign
theorem gg_x_declareCallable_isWord : GoodIn w_x_declareCallable w_x_isWord := goodIn_sub (fun w h => (List.mem_cons.mp h).elim (fun e => (List.mem_cons_of_mem _ (List.mem_append_left _ (List.mem_append_right _ (List.mem_append_right _ (List.mem_append_right _ (List.mem_append_right _ (List.mem_append_right _ (List.mem_append_right _ (List.mem_append_right _ (List.mem_append_right _ (List.mem_append_right _ (List.mem_append_right _ (List.mem_append_right _ (List.mem_append_left _ (List.mem_cons.mpr (Or.inl e))))))))))))))))) (fun h => (List.mem_append.mp h).elim (fun h => (List.mem_cons_of_mem _ (List.mem_append_left _ (List.mem_append_right _ (List.mem_append_right _ (List.mem_append_right _ (List.mem_append_right _ (List.mem_append_right _ (List.mem_append_right _ (List.mem_append_right _ (List.mem_append_right _ (List.mem_append_right _ (List.mem_append_right _ (List.mem_append_right _ (List.mem_append_left _ (List.mem_cons_of_mem _ h)))))))))))))))) (fun h => List.mem_cons_of_mem _ (List.mem_append_right _ h)))) w_x_isWord_good
theorem g_x_declareCallable_isWord_74 : GoodIn w_x_declareCallable (wsV RX12 74 RX12 yX12_isWord w_x_isWord) := goodIn_app (nb_g4 (List.mem_cons_of_mem _ (List.mem_append_left _ (List.mem_append_left _ (List.mem_of_getElem? (i := 44) rfl)))) (List.mem_cons_of_mem _ (List.mem_append_left _ (List.mem_append_left _ (List.mem_of_getElem? (i := 45) rfl)))) (List.mem_cons_of_mem _ (List.mem_append_left _ (List.mem_append_left _ (List.mem_of_getElem? (i := 46) rfl)))) (List.mem_cons_of_mem _ (List.mem_append_left _ (List.mem_append_left _ (List.mem_of_getElem? (i := 3) rfl)))) (by decide +kernel)) gg_x_declareCallable_isWord
theorem gg_x_declareCallable_open : GoodIn w_x_declareCallable w_x_open := goodIn_sub (fun w h => (List.mem_cons.mp h).elim (fun e => (List.mem_cons_of_mem _ (List.mem_append_left _ (List.mem_append_right _ (List.mem_append_right _ (List.mem_append_right _ (List.mem_append_right _ (List.mem_append_right _ (List.mem_append_right _ (List.mem_append_right _ (List.mem_append_right _ (List.mem_append_left _ (List.mem_cons.mpr (Or.inl e)))))))))))))) (fun h => (List.mem_append.mp h).elim (fun h => (List.mem_cons_of_mem _ (List.mem_append_left _ (List.mem_append_right _ (List.mem_append_right _ (List.mem_append_right _ (List.mem_append_right _ (List.mem_append_right _ (List.mem_append_right _ (List.mem_append_right _ (List.mem_append_right _ (List.mem_append_left _ (List.mem_cons_of_mem _ h))))))))))))) (fun h => List.mem_cons_of_mem _ (List.mem_append_right _ h)))) w_x_open_good
theorem g_x_declareCallable_open_177 : GoodIn w_x_declareCallable (wsV RX12 177 RX12 yX12_open w_x_open) := goodIn_app (nb_g4 (List.mem_cons_of_mem _ (List.mem_append_left _ (List.mem_append_left _ (List.mem_of_getElem? (i := 34) rfl)))) (List.mem_cons_of_mem _ (List.mem_append_left _ (List.mem_append_left _ (List.mem_of_getElem? (i := 35) rfl)))) (List.mem_cons_of_mem _ (List.mem_append_left _ (List.mem_append_left _ (List.mem_of_getElem? (i := 36) rfl)))) (List.mem_cons_of_mem _ (List.mem_append_left _ (List.mem_append_left _ (List.mem_of_getElem? (i := 3) rfl)))) (by decide +kernel)) gg_x_declareCallable_open
theorem gg_x_declareCallable_paramsOf : GoodIn w_x_declareCallable w_x_paramsOf := goodIn_sub (fun w h => (List.mem_cons.mp h).elim (fun e => (List.mem_cons_of_mem _ (List.mem_append_left _ (List.mem_append_right _ (List.mem_append_right _ (List.mem_append_right _ (List.mem_append_right _ (List.mem_append_right _ (List.mem_append_right _ (List.mem_append_right _ (List.mem_append_right _ (List.mem_append_right _ (List.mem_append_left _ (List.mem_cons.mpr (Or.inl e))))))))))))))) (fun h => (List.mem_append.mp h).elim (fun h => (List.mem_cons_of_mem _ (List.mem_append_left _ (List.mem_append_right _ (List.mem_append_right _ (List.mem_append_right _ (List.mem_append_right _ (List.mem_append_right _ (List.mem_append_right _ (List.mem_append_right _ (List.mem_append_right _ (List.mem_append_right _ (List.mem_append_left _ (List.mem_cons_of_mem _ h)))))))))))))) (fun h => List.mem_cons_of_mem _ (List.mem_append_right _ h)))) w_x_paramsOf_good
theorem g_x_declareCallable_paramsOf_352 : GoodIn w_x_declareCallable (wsV RX12 352 RX12 yX12_paramsOf w_x_paramsOf) := goodIn_app (nb_g4 (List.mem_cons_of_mem _ (List.mem_append_left _ (List.mem_append_left _ (List.mem_of_getElem? (i := 37) rfl)))) (List.mem_cons_of_mem _ (List.mem_append_left _ (List.mem_append_left _ (List.mem_of_getElem? (i := 38) rfl)))) (List.mem_cons_of_mem _ (List.mem_append_left _ (List.mem_append_left _ (List.mem_of_getElem? (i := 39) rfl)))) (List.mem_cons_of_mem _ (List.mem_append_left _ (List.mem_append_left _ (List.mem_of_getElem? (i := 3) rfl)))) (by decide +kernel)) gg_x_declareCallable_paramsOf
theorem gg_x_declareCallable_take : GoodIn w_x_declareCallable w_x_take := goodIn_sub (fun w h => (List.mem_cons.mp h).elim (fun e => (List.mem_cons_of_mem _ (List.mem_append_left _ (List.mem_append_right _ (List.mem_append_left _ (List.mem_cons.mpr (Or.inl e))))))) (fun h => (List.mem_append.mp h).elim (fun h => (List.mem_cons_of_mem _ (List.mem_append_left _ (List.mem_append_right _ (List.mem_append_left _ (List.mem_cons_of_mem _ h)))))) (fun h => List.mem_cons_of_mem _ (List.mem_append_right _ h)))) w_x_take_good
theorem g_x_declareCallable_take_71 : GoodIn w_x_declareCallable (wsV RX12 71 RX12 yX12_take w_x_take) := goodIn_app (nb_g4 (List.mem_cons_of_mem _ (List.mem_append_left _ (List.mem_append_left _ (List.mem_of_getElem? (i := 0) rfl)))) (List.mem_cons_of_mem _ (List.mem_append_left _ (List.mem_append_left _ (List.mem_of_getElem? (i := 1) rfl)))) (List.mem_cons_of_mem _ (List.mem_append_left _ (List.mem_append_left _ (List.mem_of_getElem? (i := 2) rfl)))) (List.mem_cons_of_mem _ (List.mem_append_left _ (List.mem_append_left _ (List.mem_of_getElem? (i := 3) rfl)))) (by decide +kernel)) gg_x_declareCallable_take
theorem gg_x_declareCallable_tellEntity : GoodIn w_x_declareCallable w_x_tellEntity := goodIn_sub (fun w h => (List.mem_cons.mp h).elim (fun e => (List.mem_cons_of_mem _ (List.mem_append_left _ (List.mem_append_right _ (List.mem_append_right _ (List.mem_append_right _ (List.mem_append_right _ (List.mem_append_right _ (List.mem_append_left _ (List.mem_cons.mpr (Or.inl e))))))))))) (fun h => (List.mem_append.mp h).elim (fun h => (List.mem_cons_of_mem _ (List.mem_append_left _ (List.mem_append_right _ (List.mem_append_right _ (List.mem_append_right _ (List.mem_append_right _ (List.mem_append_right _ (List.mem_append_left _ (List.mem_cons_of_mem _ h)))))))))) (fun h => List.mem_cons_of_mem _ (List.mem_append_right _ h)))) w_x_tellEntity_good
theorem g_x_declareCallable_tellEntity_339 : GoodIn w_x_declareCallable (wsV RX12 339 RX12 yX12_tellEntity w_x_tellEntity) := goodIn_app (nb_g4 (List.mem_cons_of_mem _ (List.mem_append_left _ (List.mem_append_left _ (List.mem_of_getElem? (i := 18) rfl)))) (List.mem_cons_of_mem _ (List.mem_append_left _ (List.mem_append_left _ (List.mem_of_getElem? (i := 19) rfl)))) (List.mem_cons_of_mem _ (List.mem_append_left _ (List.mem_append_left _ (List.mem_of_getElem? (i := 20) rfl)))) (List.mem_cons_of_mem _ (List.mem_append_left _ (List.mem_append_left _ (List.mem_of_getElem? (i := 3) rfl)))) (by decide +kernel)) gg_x_declareCallable_tellEntity
theorem gg_x_declareCallable_wantName : GoodIn w_x_declareCallable w_x_wantName := goodIn_sub (fun w h => (List.mem_cons.mp h).elim (fun e => (List.mem_cons_of_mem _ (List.mem_append_left _ (List.mem_append_right _ (List.mem_append_right _ (List.mem_append_left _ (List.mem_cons.mpr (Or.inl e)))))))) (fun h => (List.mem_append.mp h).elim (fun h => (List.mem_cons_of_mem _ (List.mem_append_left _ (List.mem_append_right _ (List.mem_append_right _ (List.mem_append_left _ (List.mem_cons_of_mem _ h))))))) (fun h => List.mem_cons_of_mem _ (List.mem_append_right _ h)))) w_x_wantName_good
theorem g_x_declareCallable_wantName_279 : GoodIn w_x_declareCallable (wsV RX12 279 RX12 yX12_wantName w_x_wantName) := goodIn_app (nb_g4 (List.mem_cons_of_mem _ (List.mem_append_left _ (List.mem_append_left _ (List.mem_of_getElem? (i := 4) rfl)))) (List.mem_cons_of_mem _ (List.mem_append_left _ (List.mem_append_left _ (List.mem_of_getElem? (i := 5) rfl)))) (List.mem_cons_of_mem _ (List.mem_append_left _ (List.mem_append_left _ (List.mem_of_getElem? (i := 6) rfl)))) (List.mem_cons_of_mem _ (List.mem_append_left _ (List.mem_append_left _ (List.mem_of_getElem? (i := 3) rfl)))) (by decide +kernel)) gg_x_declareCallable_wantName
theorem gg_x_declareCallable_wantWord : GoodIn w_x_declareCallable w_x_wantWord := goodIn_sub (fun w h => (List.mem_cons.mp h).elim (fun e => (List.mem_cons_of_mem _ (List.mem_append_left _ (List.mem_append_right _ (List.mem_append_right _ (List.mem_append_right _ (List.mem_append_right _ (List.mem_append_right _ (List.mem_append_right _ (List.mem_append_right _ (List.mem_append_right _ (List.mem_append_right _ (List.mem_append_right _ (List.mem_append_right _ (List.mem_append_right _ (List.mem_append_right _ (List.mem_append_right _ (List.mem_append_left _ (List.mem_cons.mpr (Or.inl e)))))))))))))))))))) (fun h => (List.mem_append.mp h).elim (fun h => (List.mem_cons_of_mem _ (List.mem_append_left _ (List.mem_append_right _ (List.mem_append_right _ (List.mem_append_right _ (List.mem_append_right _ (List.mem_append_right _ (List.mem_append_right _ (List.mem_append_right _ (List.mem_append_right _ (List.mem_append_right _ (List.mem_append_right _ (List.mem_append_right _ (List.mem_append_right _ (List.mem_append_right _ (List.mem_append_right _ (List.mem_append_left _ (List.mem_cons_of_mem _ h))))))))))))))))))) (fun h => List.mem_cons_of_mem _ (List.mem_append_right _ h)))) w_x_wantWord_good
theorem g_x_declareCallable_wantWord_253 : GoodIn w_x_declareCallable (wsV RX12 253 RX12 yX12_wantWord w_x_wantWord) := goodIn_app (nb_g4 (List.mem_cons_of_mem _ (List.mem_append_left _ (List.mem_append_left _ (List.mem_of_getElem? (i := 54) rfl)))) (List.mem_cons_of_mem _ (List.mem_append_left _ (List.mem_append_left _ (List.mem_of_getElem? (i := 55) rfl)))) (List.mem_cons_of_mem _ (List.mem_append_left _ (List.mem_append_left _ (List.mem_of_getElem? (i := 56) rfl)))) (List.mem_cons_of_mem _ (List.mem_append_left _ (List.mem_append_left _ (List.mem_of_getElem? (i := 3) rfl)))) (by decide +kernel)) gg_x_declareCallable_wantWord
theorem gg_x_declareCallable_want : GoodIn w_x_declareCallable w_x_want := goodIn_sub (fun w h => (List.mem_cons.mp h).elim (fun e => (List.mem_cons_of_mem _ (List.mem_append_left _ (List.mem_append_right _ (List.mem_append_right _ (List.mem_append_right _ (List.mem_append_right _ (List.mem_append_right _ (List.mem_append_right _ (List.mem_append_right _ (List.mem_append_right _ (List.mem_append_right _ (List.mem_append_right _ (List.mem_append_left _ (List.mem_cons.mpr (Or.inl e)))))))))))))))) (fun h => (List.mem_append.mp h).elim (fun h => (List.mem_cons_of_mem _ (List.mem_append_left _ (List.mem_append_right _ (List.mem_append_right _ (List.mem_append_right _ (List.mem_append_right _ (List.mem_append_right _ (List.mem_append_right _ (List.mem_append_right _ (List.mem_append_right _ (List.mem_append_right _ (List.mem_append_right _ (List.mem_append_left _ (List.mem_cons_of_mem _ h))))))))))))))) (fun h => List.mem_cons_of_mem _ (List.mem_append_right _ h)))) w_x_want_good
theorem g_x_declareCallable_want_199 : GoodIn w_x_declareCallable (wsV RX12 199 RX12 yX12_want w_x_want) := goodIn_app (nb_g4 (List.mem_cons_of_mem _ (List.mem_append_left _ (List.mem_append_left _ (List.mem_of_getElem? (i := 41) rfl)))) (List.mem_cons_of_mem _ (List.mem_append_left _ (List.mem_append_left _ (List.mem_of_getElem? (i := 42) rfl)))) (List.mem_cons_of_mem _ (List.mem_append_left _ (List.mem_append_left _ (List.mem_of_getElem? (i := 43) rfl)))) (List.mem_cons_of_mem _ (List.mem_append_left _ (List.mem_append_left _ (List.mem_of_getElem? (i := 3) rfl)))) (by decide +kernel)) gg_x_declareCallable_want
set_option maxHeartbeats 40000000 in
set_option maxRecDepth 100000 in
theorem c_x_declareCallable (l : Launch) (dC : Nat → ClassId) (dI : Nat → Nat → Nat) (cy : Nat → ClassId) (a : Nat → Nat) (k0 : Nat) (L0 : Nat → Int32) (σ0 : MS) (r0 : Int32 × MS) (h0 : x_declareCallable k0 0 L0 σ0 = some r0) (sz : Nat) : Met l yX12_declareCallable w_x_declareCallable ({ frames := 429, cells := 0, slots := 0, locals := 12730 }) (va_Pc [.ref (a 0), .int (L0 1)] (nIn (dC, dI) cy sz (vM cy a σ0))) (va_Qv (fun _ : Unit => True) (fun _ t => nOut (dC, dI) cy (va_A (vM cy a σ0) sz) (vM cy a r0.2) t) (va_A (vM cy a σ0) sz)) 0 0 (va_A (vM cy a σ0) sz) := by
  refine Met.ofW (cc := cX12_declareCallable) (maxL := 4) (ret := none) (by decide) rfl ?_
  intro p e s m args below meth c s₁ B hml hv
  obtain ⟨rfl, hsz, hP, hK, hD0, hG⟩ := hv
  have hx := B.exec
  have hb := B.bytes
  have hr := B.returns
  have hts := atoms_spec (ws := w_x_declareCallable) B.pre
  have hown : s.vm.findClass RX12 = some m.cls := findClass_of_methodNamed B.named
  have hlocks := B.notSynchronized
  subst hsz
  have hD := hD0.self (sz := s.heap.size)
  generalize hAe : va_A (vM cy a σ0) s.heap.size = A at hD ⊢
  have hA : ∀ q : Nat, s.heap.size ≤ q → A q := fun q h => by rw [← hAe]; exact Or.inr h
  have hS : va_S A s.heap s.heap [] := va_S.rf
  have hl := lv_entry ([.ref (a 0), .int (L0 1)]) (n := 4) (Nat.le_of_ble_eq_true rfl)
  rw [lg_entry_eq]
  generalize (lg_sl ([.ref (a 0), .int (L0 1)]) ++ List.replicate (4 - (lg_sl ([.ref (a 0), .int (L0 1)])).length) Slot.unset).toArray = ls at hl ⊢
  have hl : lv_has ls 4 [(0, .ref (a 0)), (1, .int (L0 1))] := hl
  have blk : ∀ k : Nat, (bT p l e (headSpec w_x_declareCallable ({ frames := 429, cells := 0, slots := 0, locals := 12730 })).room s m #[.ref (a 0), .int (L0 1)] below meth c dC dI cy a A (qV dC dI cy a A below #[.ref (a 0), .int (L0 1)] s) 4 (x_declareCallable k 0) (fun L => [(0, .ref (a 0)), (1, .int (L 1))]) 0 (fun L => [])) ∧ (bT p l e (headSpec w_x_declareCallable ({ frames := 429, cells := 0, slots := 0, locals := 12730 })).room s m #[.ref (a 0), .int (L0 1)] below meth c dC dI cy a A (qV dC dI cy a A below #[.ref (a 0), .int (L0 1)] s) 4 (x_declareCallable k 1) (fun L => [(0, .ref (a 0)), (1, .int (L 1))]) 16 (fun L => [])) ∧ (bT p l e (headSpec w_x_declareCallable ({ frames := 429, cells := 0, slots := 0, locals := 12730 })).room s m #[.ref (a 0), .int (L0 1)] below meth c dC dI cy a A (qV dC dI cy a A below #[.ref (a 0), .int (L0 1)] s) 4 (x_declareCallable k 2) (fun L => [(0, .ref (a 0)), (1, .int (L 1))]) 39 (fun L => [])) ∧ (bT p l e (headSpec w_x_declareCallable ({ frames := 429, cells := 0, slots := 0, locals := 12730 })).room s m #[.ref (a 0), .int (L0 1)] below meth c dC dI cy a A (qV dC dI cy a A below #[.ref (a 0), .int (L0 1)] s) 4 (x_declareCallable k 3) (fun L => [(0, .ref (a 0)), (1, .int (L 1))]) 58 (fun L => [])) ∧ (bT p l e (headSpec w_x_declareCallable ({ frames := 429, cells := 0, slots := 0, locals := 12730 })).room s m #[.ref (a 0), .int (L0 1)] below meth c dC dI cy a A (qV dC dI cy a A below #[.ref (a 0), .int (L0 1)] s) 4 (x_declareCallable k 4) (fun L => [(0, .ref (a 0)), (1, .int (L 1))]) 66 (fun L => [])) ∧ (bT p l e (headSpec w_x_declareCallable ({ frames := 429, cells := 0, slots := 0, locals := 12730 })).room s m #[.ref (a 0), .int (L0 1)] below meth c dC dI cy a A (qV dC dI cy a A below #[.ref (a 0), .int (L0 1)] s) 4 (x_declareCallable k 5) (fun L => [(0, .ref (a 0)), (1, .int (L 1)), (2, .int (L 2)), (3, .int (L 3))]) 85 (fun L => [.ref (a 0)])) ∧ (bT p l e (headSpec w_x_declareCallable ({ frames := 429, cells := 0, slots := 0, locals := 12730 })).room s m #[.ref (a 0), .int (L0 1)] below meth c dC dI cy a A (qV dC dI cy a A below #[.ref (a 0), .int (L0 1)] s) 4 (x_declareCallable k 6) (fun L => [(0, .ref (a 0)), (1, .int (L 1)), (2, .int (L 2)), (3, .int (L 3))]) 86 (fun L => [.int (L 100), .ref (a 0)])) ∧ (bT p l e (headSpec w_x_declareCallable ({ frames := 429, cells := 0, slots := 0, locals := 12730 })).room s m #[.ref (a 0), .int (L0 1)] below meth c dC dI cy a A (qV dC dI cy a A below #[.ref (a 0), .int (L0 1)] s) 4 (x_declareCallable k 7) (fun L => [(0, .ref (a 0)), (1, .int (L 1)), (2, .int (L 2)), (3, .int (L 3))]) 114 (fun L => [])) ∧ (bT p l e (headSpec w_x_declareCallable ({ frames := 429, cells := 0, slots := 0, locals := 12730 })).room s m #[.ref (a 0), .int (L0 1)] below meth c dC dI cy a A (qV dC dI cy a A below #[.ref (a 0), .int (L0 1)] s) 4 (x_declareCallable k 8) (fun L => [(0, .ref (a 0)), (1, .int (L 1)), (2, .int (L 2)), (3, .int (L 3))]) 122 (fun L => [])) ∧ (bT p l e (headSpec w_x_declareCallable ({ frames := 429, cells := 0, slots := 0, locals := 12730 })).room s m #[.ref (a 0), .int (L0 1)] below meth c dC dI cy a A (qV dC dI cy a A below #[.ref (a 0), .int (L0 1)] s) 4 (x_declareCallable k 9) (fun L => [(0, .ref (a 0)), (1, .int (L 1)), (2, .int (L 2)), (3, .int (L 3))]) 132 (fun L => [])) ∧ (bT p l e (headSpec w_x_declareCallable ({ frames := 429, cells := 0, slots := 0, locals := 12730 })).room s m #[.ref (a 0), .int (L0 1)] below meth c dC dI cy a A (qV dC dI cy a A below #[.ref (a 0), .int (L0 1)] s) 4 (x_declareCallable k 10) (fun L => [(0, .ref (a 0)), (1, .int (L 1)), (2, .int (L 2)), (3, .int (L 3))]) 145 (fun L => [.int (L 100), .ref (a 0)])) ∧ (bT p l e (headSpec w_x_declareCallable ({ frames := 429, cells := 0, slots := 0, locals := 12730 })).room s m #[.ref (a 0), .int (L0 1)] below meth c dC dI cy a A (qV dC dI cy a A below #[.ref (a 0), .int (L0 1)] s) 4 (x_declareCallable k 11) (fun L => [(0, .ref (a 0)), (1, .int (L 1)), (2, .int (L 2)), (3, .int (L 3))]) 146 (fun L => [.int (L 100), .int (L 101), .ref (a 0)])) ∧ (bT p l e (headSpec w_x_declareCallable ({ frames := 429, cells := 0, slots := 0, locals := 12730 })).room s m #[.ref (a 0), .int (L0 1)] below meth c dC dI cy a A (qV dC dI cy a A below #[.ref (a 0), .int (L0 1)] s) 4 (x_declareCallable k 12) (fun L => [(0, .ref (a 0)), (1, .int (L 1)), (2, .int (L 2)), (3, .int (L 3))]) 150 (fun L => [])) ∧ (bT p l e (headSpec w_x_declareCallable ({ frames := 429, cells := 0, slots := 0, locals := 12730 })).room s m #[.ref (a 0), .int (L0 1)] below meth c dC dI cy a A (qV dC dI cy a A below #[.ref (a 0), .int (L0 1)] s) 4 (x_declareCallable k 13) (fun L => [(0, .ref (a 0)), (1, .int (L 1)), (2, .int (L 2)), (3, .int (L 3))]) 157 (fun L => [])) ∧ (bT p l e (headSpec w_x_declareCallable ({ frames := 429, cells := 0, slots := 0, locals := 12730 })).room s m #[.ref (a 0), .int (L0 1)] below meth c dC dI cy a A (qV dC dI cy a A below #[.ref (a 0), .int (L0 1)] s) 4 (x_declareCallable k 14) (fun L => [(0, .ref (a 0)), (1, .int (L 1)), (2, .int (L 2)), (3, .int (L 3))]) 167 (fun L => [])) ∧ (bT p l e (headSpec w_x_declareCallable ({ frames := 429, cells := 0, slots := 0, locals := 12730 })).room s m #[.ref (a 0), .int (L0 1)] below meth c dC dI cy a A (qV dC dI cy a A below #[.ref (a 0), .int (L0 1)] s) 4 (x_declareCallable k 15) (fun L => [(0, .ref (a 0)), (1, .int (L 1)), (2, .int (L 2)), (3, .int (L 3))]) 172 (fun L => [])) ∧ (bT p l e (headSpec w_x_declareCallable ({ frames := 429, cells := 0, slots := 0, locals := 12730 })).room s m #[.ref (a 0), .int (L0 1)] below meth c dC dI cy a A (qV dC dI cy a A below #[.ref (a 0), .int (L0 1)] s) 4 (x_declareCallable k 16) (fun L => [(0, .ref (a 0)), (1, .int (L 1)), (2, .int (L 2)), (3, .int (L 3))]) 179 (fun L => [])) ∧ (bT p l e (headSpec w_x_declareCallable ({ frames := 429, cells := 0, slots := 0, locals := 12730 })).room s m #[.ref (a 0), .int (L0 1)] below meth c dC dI cy a A (qV dC dI cy a A below #[.ref (a 0), .int (L0 1)] s) 4 (x_declareCallable k 17) (fun L => [(0, .ref (a 0)), (1, .int (L 1)), (2, .int (L 2)), (3, .int (L 3))]) 184 (fun L => [])) ∧ (bT p l e (headSpec w_x_declareCallable ({ frames := 429, cells := 0, slots := 0, locals := 12730 })).room s m #[.ref (a 0), .int (L0 1)] below meth c dC dI cy a A (qV dC dI cy a A below #[.ref (a 0), .int (L0 1)] s) 4 (x_declareCallable k 18) (fun L => [(0, .ref (a 0)), (1, .int (L 1)), (2, .int (L 2)), (3, .int (L 3))]) 189 (fun L => [])) ∧ (bT p l e (headSpec w_x_declareCallable ({ frames := 429, cells := 0, slots := 0, locals := 12730 })).room s m #[.ref (a 0), .int (L0 1)] below meth c dC dI cy a A (qV dC dI cy a A below #[.ref (a 0), .int (L0 1)] s) 4 (x_declareCallable k 19) (fun L => [(0, .ref (a 0)), (1, .int (L 1)), (2, .int (L 2)), (3, .int (L 3))]) 204 (fun L => [])) ∧ (bT p l e (headSpec w_x_declareCallable ({ frames := 429, cells := 0, slots := 0, locals := 12730 })).room s m #[.ref (a 0), .int (L0 1)] below meth c dC dI cy a A (qV dC dI cy a A below #[.ref (a 0), .int (L0 1)] s) 4 (x_declareCallable k 20) (fun L => [(0, .ref (a 0)), (1, .int (L 1)), (2, .int (L 2)), (3, .int (L 3))]) 221 (fun L => [])) ∧ (bT p l e (headSpec w_x_declareCallable ({ frames := 429, cells := 0, slots := 0, locals := 12730 })).room s m #[.ref (a 0), .int (L0 1)] below meth c dC dI cy a A (qV dC dI cy a A below #[.ref (a 0), .int (L0 1)] s) 4 (x_declareCallable k 21) (fun L => [(0, .ref (a 0)), (1, .int (L 1)), (2, .int (L 2)), (3, .int (L 3))]) 231 (fun L => [])) ∧ (bT p l e (headSpec w_x_declareCallable ({ frames := 429, cells := 0, slots := 0, locals := 12730 })).room s m #[.ref (a 0), .int (L0 1)] below meth c dC dI cy a A (qV dC dI cy a A below #[.ref (a 0), .int (L0 1)] s) 4 (x_declareCallable k 22) (fun L => [(0, .ref (a 0)), (1, .int (L 1)), (2, .int (L 2)), (3, .int (L 3))]) 241 (fun L => [])) ∧ (bT p l e (headSpec w_x_declareCallable ({ frames := 429, cells := 0, slots := 0, locals := 12730 })).room s m #[.ref (a 0), .int (L0 1)] below meth c dC dI cy a A (qV dC dI cy a A below #[.ref (a 0), .int (L0 1)] s) 4 (x_declareCallable k 23) (fun L => [(0, .ref (a 0)), (1, .int (L 1)), (2, .int (L 2)), (3, .int (L 3))]) 263 (fun L => [])) ∧ (bT p l e (headSpec w_x_declareCallable ({ frames := 429, cells := 0, slots := 0, locals := 12730 })).room s m #[.ref (a 0), .int (L0 1)] below meth c dC dI cy a A (qV dC dI cy a A below #[.ref (a 0), .int (L0 1)] s) 4 (x_declareCallable k 24) (fun L => [(0, .ref (a 0)), (1, .int (L 1)), (2, .int (L 2)), (3, .int (L 3))]) 274 (fun L => [])) ∧ (bT p l e (headSpec w_x_declareCallable ({ frames := 429, cells := 0, slots := 0, locals := 12730 })).room s m #[.ref (a 0), .int (L0 1)] below meth c dC dI cy a A (qV dC dI cy a A below #[.ref (a 0), .int (L0 1)] s) 4 (x_declareCallable k 25) (fun L => [(0, .ref (a 0)), (1, .int (L 1)), (2, .int (L 2)), (3, .int (L 3))]) 283 (fun L => [])) ∧ (bT p l e (headSpec w_x_declareCallable ({ frames := 429, cells := 0, slots := 0, locals := 12730 })).room s m #[.ref (a 0), .int (L0 1)] below meth c dC dI cy a A (qV dC dI cy a A below #[.ref (a 0), .int (L0 1)] s) 4 (x_declareCallable k 26) (fun L => [(0, .ref (a 0)), (1, .int (L 1)), (2, .int (L 2)), (3, .int (L 3))]) 299 (fun L => [])) ∧ (bT p l e (headSpec w_x_declareCallable ({ frames := 429, cells := 0, slots := 0, locals := 12730 })).room s m #[.ref (a 0), .int (L0 1)] below meth c dC dI cy a A (qV dC dI cy a A below #[.ref (a 0), .int (L0 1)] s) 4 (x_declareCallable k 27) (fun L => [(0, .ref (a 0)), (1, .int (L 1)), (2, .int (L 2)), (3, .int (L 3))]) 310 (fun L => [])) ∧ (bT p l e (headSpec w_x_declareCallable ({ frames := 429, cells := 0, slots := 0, locals := 12730 })).room s m #[.ref (a 0), .int (L0 1)] below meth c dC dI cy a A (qV dC dI cy a A below #[.ref (a 0), .int (L0 1)] s) 4 (x_declareCallable k 28) (fun L => [(0, .ref (a 0)), (1, .int (L 1)), (2, .int (L 2)), (3, .int (L 3))]) 315 (fun L => [])) ∧ (bT p l e (headSpec w_x_declareCallable ({ frames := 429, cells := 0, slots := 0, locals := 12730 })).room s m #[.ref (a 0), .int (L0 1)] below meth c dC dI cy a A (qV dC dI cy a A below #[.ref (a 0), .int (L0 1)] s) 4 (x_declareCallable k 29) (fun L => [(0, .ref (a 0)), (1, .int (L 1)), (2, .int (L 2)), (3, .int (L 3))]) 320 (fun L => [])) := by
    intro k
    induction k with
    | zero => exact ⟨fun L σ r h => (by cases h), fun L σ r h => (by cases h), fun L σ r h => (by cases h), fun L σ r h => (by cases h), fun L σ r h => (by cases h), fun L σ r h => (by cases h), fun L σ r h => (by cases h), fun L σ r h => (by cases h), fun L σ r h => (by cases h), fun L σ r h => (by cases h), fun L σ r h => (by cases h), fun L σ r h => (by cases h), fun L σ r h => (by cases h), fun L σ r h => (by cases h), fun L σ r h => (by cases h), fun L σ r h => (by cases h), fun L σ r h => (by cases h), fun L σ r h => (by cases h), fun L σ r h => (by cases h), fun L σ r h => (by cases h), fun L σ r h => (by cases h), fun L σ r h => (by cases h), fun L σ r h => (by cases h), fun L σ r h => (by cases h), fun L σ r h => (by cases h), fun L σ r h => (by cases h), fun L σ r h => (by cases h), fun L σ r h => (by cases h), fun L σ r h => (by cases h), fun L σ r h => (by cases h)⟩
    | succ k ih =>
      refine ⟨?_, ?_, ?_, ?_, ?_, ?_, ?_, ?_, ?_, ?_, ?_, ?_, ?_, ?_, ?_, ?_, ?_, ?_, ?_, ?_, ?_, ?_, ?_, ?_, ?_, ?_, ?_, ?_, ?_, ?_⟩
      · intro L σ r h H locs ls hP hD hS hl
        rw [x_declareCallable] at h
        refine lv_aload_n hx hb dX12_declareCallable_0 rfl (lv_at hl 0 rfl) ?_
        obtain ⟨r1, hc1, h⟩ := ob_ex h
        refine nc_Vv (As := []) (rest := []) ⟨hx, hb, hml, hown, hts⟩ (c_x_take l dC dI cy a k (fun _ => 0) σ r1 hc1 H.size) (cwV 0 hts g_x_declareCallable_take_71 rfl rfl rfl hd_x_take ⟨Nat.le_of_ble_eq_true rfl, Nat.le_of_ble_eq_true rfl⟩) hK hG hA hP hD hS rfl hl.1 rfl (Nat.le_of_ble_eq_true rfl) dX12_declareCallable_1 ⟨Nat.le_refl _, Nat.le_refl _⟩ (fun H locs hP hD hS => ?_)
        refine lv_aload_n hx hb dX12_declareCallable_4 rfl (lv_at hl 0 rfl) ?_
        obtain ⟨r2, hc2, h⟩ := ob_ex h
        refine nc_Vv (As := []) (rest := []) ⟨hx, hb, hml, hown, hts⟩ (c_x_wantName l dC dI cy a k (fun _ => 0) r1.2 r2 hc2 H.size) (cwV 0 hts g_x_declareCallable_wantName_279 rfl rfl rfl hd_x_wantName ⟨Nat.le_of_ble_eq_true rfl, Nat.le_of_ble_eq_true rfl⟩) hK hG hA hP hD hS rfl hl.1 rfl (Nat.le_of_ble_eq_true rfl) dX12_declareCallable_5 ⟨Nat.le_refl _, Nat.le_refl _⟩ (fun H locs hP hD hS => ?_)
        refine lv_aload_n hx hb dX12_declareCallable_8 rfl (lv_at hl 0 rfl) ?_
        refine ng_10 hx hb hts in_x_declareCallable hown hK hP (hts _ (List.mem_cons_of_mem _ (List.mem_append_left _ (List.mem_append_left _ (List.mem_of_getElem? (i := 7) rfl))))) dX12_declareCallable_9 ?_
        refine lv_if_eq (tgt := 16) hx hb dX12_declareCallable_12 (by decide) (fun c3 => ?_) (fun c3 => ?_)
        · rw [if_pos c3] at h
          exact ih.2.1 L r2.2 r h H locs ls hP hD hS (lv_sub hl [0, 1] rfl)
        · rw [if_neg c3] at h
          cases h
          exact W.vret hx hb hr (fun t ht hW => ⟨⟨(), rfl, trivial, by rw [ht]; exact hP, va_K.moved hW.alike hK, hD⟩, hS.F ht⟩) hS.2.2 dX12_declareCallable_15
      · intro L σ r h H locs ls hP hD hS hl
        rw [x_declareCallable] at h
        refine lv_aload_n hx hb dX12_declareCallable_16 rfl (lv_at hl 0 rfl) ?_
        obtain ⟨r1, hc1, h⟩ := ob_ex h
        refine nc_Vv (As := []) (rest := []) ⟨hx, hb, hml, hown, hts⟩ (c_x_find l dC dI cy a k (fun _ => 0) σ r1 hc1 H.size) (cwV 0 hts g_x_declareCallable_find_236 rfl rfl rfl hd_x_find ⟨Nat.le_of_ble_eq_true rfl, Nat.le_of_ble_eq_true rfl⟩) hK hG hA hP hD hS rfl hl.1 rfl (Nat.le_of_ble_eq_true rfl) dX12_declareCallable_17 ⟨Nat.le_refl _, Nat.le_refl _⟩ (fun H locs hP hD hS => ?_)
        refine lv_aload_n hx hb dX12_declareCallable_20 rfl (lv_at hl 0 rfl) ?_
        refine ng_46 hx hb hts in_x_declareCallable hown hK hP (hts _ (List.mem_cons_of_mem _ (List.mem_append_left _ (List.mem_append_left _ (List.mem_of_getElem? (i := 11) rfl))))) dX12_declareCallable_21 ?_
        refine lv_if_le (tgt := 39) hx hb dX12_declareCallable_24 (by decide) (fun c2 => ?_) (fun c2 => ?_)
        · rw [if_pos c2] at h
          exact ih.2.2.1 L r1.2 r h H locs ls hP hD hS (lv_sub hl [0, 1] rfl)
        · rw [if_neg c2] at h
          refine lv_aload_n hx hb dX12_declareCallable_27 rfl (lv_at hl 0 rfl) ?_
          refine lv_iconst (v := 4) hx hb dX12_declareCallable_28 (by decide) ?_
          refine lv_aload_n hx hb dX12_declareCallable_29 rfl (lv_at hl 0 rfl) ?_
          refine ng_8 hx hb hts in_x_declareCallable hown hK hP (hts _ (List.mem_cons_of_mem _ (List.mem_append_left _ (List.mem_append_left _ (List.mem_of_getElem? (i := 12) rfl))))) dX12_declareCallable_30 ?_
          obtain ⟨r3, hc3, h⟩ := ob_ex h
          refine nc_Vv (As := [.int 4, .int (r1.2.1 8)]) (rest := []) ⟨hx, hb, hml, hown, hts⟩ (c_x_fault l dC dI cy a k (upd (upd (fun _ => 0) 1 4) 2 ((r1.2.1 8))) r1.2 r3 hc3 H.size) (cwV 2 hts g_x_declareCallable_fault_58 rfl rfl rfl hd_x_fault ⟨Nat.le_of_ble_eq_true rfl, Nat.le_of_ble_eq_true rfl⟩) hK hG hA hP hD hS rfl hl.1 rfl (Nat.le_of_ble_eq_true rfl) dX12_declareCallable_33 ⟨Nat.le_refl _, Nat.le_refl _⟩ (fun H locs hP hD hS => ?_)
          refine lv_goto (tgt := 58) hx hb dX12_declareCallable_36 (by decide) ?_
          exact ih.2.2.2.1 L r3.2 r h H locs ls hP hD hS (lv_sub hl [0, 1] rfl)
      · intro L σ r h H locs ls hP hD hS hl
        rw [x_declareCallable] at h
        refine lv_aload_n hx hb dX12_declareCallable_39 rfl (lv_at hl 0 rfl) ?_
        refine ng_30 hx hb hts in_x_declareCallable hown hK hP (hts _ (List.mem_cons_of_mem _ (List.mem_append_left _ (List.mem_append_left _ (List.mem_of_getElem? (i := 16) rfl))))) dX12_declareCallable_40 ?_
        refine lv_bipush (v := 40) hx hb dX12_declareCallable_43 (by decide) ?_
        refine lv_icmp_ne (tgt := 58) hx hb dX12_declareCallable_45 (by decide) (fun c1 => ?_) (fun c1 => ?_)
        · rw [if_neg c1] at h
          exact ih.2.2.2.1 L σ r h H locs ls hP hD hS (lv_sub hl [0, 1] rfl)
        · rw [if_pos c1] at h
          refine lv_aload_n hx hb dX12_declareCallable_48 rfl (lv_at hl 0 rfl) ?_
          refine lv_bipush (v := 8) hx hb dX12_declareCallable_49 (by decide) ?_
          refine lv_aload_n hx hb dX12_declareCallable_51 rfl (lv_at hl 0 rfl) ?_
          refine ng_8 hx hb hts in_x_declareCallable hown hK hP (hts _ (List.mem_cons_of_mem _ (List.mem_append_left _ (List.mem_append_left _ (List.mem_of_getElem? (i := 12) rfl))))) dX12_declareCallable_52 ?_
          obtain ⟨r2, hc2, h⟩ := ob_ex h
          refine nc_Vv (As := [.int 8, .int (σ.1 8)]) (rest := []) ⟨hx, hb, hml, hown, hts⟩ (c_x_fault l dC dI cy a k (upd (upd (fun _ => 0) 1 8) 2 ((σ.1 8))) σ r2 hc2 H.size) (cwV 2 hts g_x_declareCallable_fault_58 rfl rfl rfl hd_x_fault ⟨Nat.le_of_ble_eq_true rfl, Nat.le_of_ble_eq_true rfl⟩) hK hG hA hP hD hS rfl hl.1 rfl (Nat.le_of_ble_eq_true rfl) dX12_declareCallable_55 ⟨Nat.le_refl _, Nat.le_refl _⟩ (fun H locs hP hD hS => ?_)
          exact ih.2.2.2.1 L r2.2 r h H locs ls hP hD hS (lv_sub hl [0, 1] rfl)
      · intro L σ r h H locs ls hP hD hS hl
        rw [x_declareCallable] at h
        refine lv_aload_n hx hb dX12_declareCallable_58 rfl (lv_at hl 0 rfl) ?_
        refine ng_10 hx hb hts in_x_declareCallable hown hK hP (hts _ (List.mem_cons_of_mem _ (List.mem_append_left _ (List.mem_append_left _ (List.mem_of_getElem? (i := 7) rfl))))) dX12_declareCallable_59 ?_
        refine lv_if_eq (tgt := 66) hx hb dX12_declareCallable_62 (by decide) (fun c1 => ?_) (fun c1 => ?_)
        · rw [if_pos c1] at h
          exact ih.2.2.2.2.1 L σ r h H locs ls hP hD hS (lv_sub hl [0, 1] rfl)
        · rw [if_neg c1] at h
          cases h
          exact W.vret hx hb hr (fun t ht hW => ⟨⟨(), rfl, trivial, by rw [ht]; exact hP, va_K.moved hW.alike hK, hD⟩, hS.F ht⟩) hS.2.2 dX12_declareCallable_65
      · intro L σ r h H locs ls hP hD hS hl
        rw [x_declareCallable] at h
        refine lv_aload_n hx hb dX12_declareCallable_66 rfl (lv_at hl 0 rfl) ?_
        refine ng_30 hx hb hts in_x_declareCallable hown hK hP (hts _ (List.mem_cons_of_mem _ (List.mem_append_left _ (List.mem_append_left _ (List.mem_of_getElem? (i := 16) rfl))))) dX12_declareCallable_67 ?_
        refine lv_istore_n (lv' := [(2, .int (σ.1 30)), (0, .ref (a 0)), (1, .int (L 1))]) hx hb dX12_declareCallable_70 rfl hl (by decide) rfl (fun ls hl => ?_)
        refine lv_aload_n hx hb dX12_declareCallable_71 rfl (lv_at hl 1 rfl) ?_
        refine ng_25 hx hb hts in_x_declareCallable hown hK hP (hts _ (List.mem_cons_of_mem _ (List.mem_append_left _ (List.mem_append_left _ (List.mem_of_getElem? (i := 17) rfl))))) dX12_declareCallable_72 ?_
        refine lv_istore_n (lv' := [(3, .int (σ.1 25)), (2, .int (σ.1 30)), (0, .ref (a 0)), (1, .int (L 1))]) hx hb dX12_declareCallable_75 rfl hl (by decide) rfl (fun ls hl => ?_)
        refine lv_aload_n hx hb dX12_declareCallable_76 rfl (lv_at hl 2 rfl) ?_
        refine lv_iload_n hx hb dX12_declareCallable_77 rfl (lv_at hl 3 rfl) ?_
        refine lv_if_eq (tgt := 85) hx hb dX12_declareCallable_78 (by decide) (fun c1 => ?_) (fun c1 => ?_)
        · rw [if_pos c1] at h
          exact ih.2.2.2.2.2.1 (upd (upd L 2 ((σ.1 30))) 3 ((σ.1 25))) σ r h H locs ls hP hD hS (lv_sub hl [2, 3, 1, 0] rfl)
        · rw [if_neg c1] at h
          refine lv_iconst (v := 3) hx hb dX12_declareCallable_81 (by decide) ?_
          refine lv_goto (tgt := 86) hx hb dX12_declareCallable_82 (by decide) ?_
          exact ih.2.2.2.2.2.2.1 (upd (upd (upd L 2 ((σ.1 30))) 3 ((σ.1 25))) 100 3) σ r h H locs ls hP hD hS (lv_sub hl [2, 3, 1, 0] rfl)
      · intro L σ r h H locs ls hP hD hS hl
        rw [x_declareCallable] at h
        refine lv_iconst (v := 2) hx hb dX12_declareCallable_85 (by decide) ?_
        exact ih.2.2.2.2.2.2.1 (upd L 100 2) σ r h H locs ls hP hD hS (lv_sub hl [0, 1, 2, 3] rfl)
      · intro L σ r h H locs ls hP hD hS hl
        rw [x_declareCallable] at h
        refine lv_iload_n hx hb dX12_declareCallable_86 rfl (lv_at hl 2 rfl) ?_
        obtain ⟨r1, hc1, h⟩ := ob_ex h
        refine nc_Vv (As := [.int (L 100), .int (L 2)]) (rest := []) ⟨hx, hb, hml, hown, hts⟩ (c_x_tellEntity l dC dI cy a k (upd (upd (fun _ => 0) 1 ((L 100))) 2 ((L 2))) σ r1 hc1 H.size) (cwV 2 hts g_x_declareCallable_tellEntity_339 rfl rfl rfl hd_x_tellEntity ⟨Nat.le_of_ble_eq_true rfl, Nat.le_of_ble_eq_true rfl⟩) hK hG hA hP hD hS rfl hl.1 rfl (Nat.le_of_ble_eq_true rfl) dX12_declareCallable_87 ⟨Nat.le_refl _, Nat.le_refl _⟩ (fun H locs hP hD hS => ?_)
        refine lv_aload_n hx hb dX12_declareCallable_90 rfl (lv_at hl 0 rfl) ?_
        obtain ⟨r2, hc2, h⟩ := ob_ex h
        refine nc_Vv (As := []) (rest := []) ⟨hx, hb, hml, hown, hts⟩ (c_x_take l dC dI cy a k (fun _ => 0) r1.2 r2 hc2 H.size) (cwV 0 hts g_x_declareCallable_take_71 rfl rfl rfl hd_x_take ⟨Nat.le_of_ble_eq_true rfl, Nat.le_of_ble_eq_true rfl⟩) hK hG hA hP hD hS rfl hl.1 rfl (Nat.le_of_ble_eq_true rfl) dX12_declareCallable_91 ⟨Nat.le_refl _, Nat.le_refl _⟩ (fun H locs hP hD hS => ?_)
        refine lv_aload_n hx hb dX12_declareCallable_94 rfl (lv_at hl 0 rfl) ?_
        refine ng_10 hx hb hts in_x_declareCallable hown hK hP (hts _ (List.mem_cons_of_mem _ (List.mem_append_left _ (List.mem_append_left _ (List.mem_of_getElem? (i := 7) rfl))))) dX12_declareCallable_95 ?_
        refine lv_if_ne (tgt := 114) hx hb dX12_declareCallable_98 (by decide) (fun c3 => ?_) (fun c3 => ?_)
        · rw [if_neg c3] at h
          exact ih.2.2.2.2.2.2.2.1 L r2.2 r h H locs ls hP hD hS (lv_sub hl [0, 1, 2, 3] rfl)
        · rw [if_pos c3] at h
          refine lv_aload_n hx hb dX12_declareCallable_101 rfl (lv_at hl 0 rfl) ?_
          refine lv_bipush (v := 6) hx hb dX12_declareCallable_102 (by decide) ?_
          obtain ⟨r4, hc4, h⟩ := ob_ex h
          refine nc_Vi (As := [.int 6]) (rest := []) ⟨hx, hb, hml, hown, hts⟩ (c_x_isSign l dC dI cy a k (upd (fun _ => 0) 1 6) r2.2 r4 hc4 H.size) (cwV 1 hts g_x_declareCallable_isSign_65 rfl rfl rfl hd_x_isSign ⟨Nat.le_of_ble_eq_true rfl, Nat.le_of_ble_eq_true rfl⟩) hK hG hA hP hD hS rfl hl.1 rfl (Nat.le_of_ble_eq_true rfl) dX12_declareCallable_104 ⟨Nat.le_refl _, Nat.le_refl _⟩ (fun H locs hP hD hS => ?_)
          refine lv_if_ne (tgt := 114) hx hb dX12_declareCallable_107 (by decide) (fun c5 => ?_) (fun c5 => ?_)
          · rw [if_neg c5] at h
            exact ih.2.2.2.2.2.2.2.1 L r4.2 r h H locs ls hP hD hS (lv_sub hl [0, 1, 2, 3] rfl)
          · rw [if_pos c5] at h
            refine lv_aload_n hx hb dX12_declareCallable_110 rfl (lv_at hl 0 rfl) ?_
            obtain ⟨r6, hc6, h⟩ := ob_ex h
            refine nc_Vv (As := []) (rest := []) ⟨hx, hb, hml, hown, hts⟩ (c_x_cannot l dC dI cy a k (fun _ => 0) r4.2 r6 hc6 H.size) (cwV 0 hts g_x_declareCallable_cannot_68 rfl rfl rfl hd_x_cannot ⟨Nat.le_of_ble_eq_true rfl, Nat.le_of_ble_eq_true rfl⟩) hK hG hA hP hD hS rfl hl.1 rfl (Nat.le_of_ble_eq_true rfl) dX12_declareCallable_111 ⟨Nat.le_refl _, Nat.le_refl _⟩ (fun H locs hP hD hS => ?_)
            exact ih.2.2.2.2.2.2.2.1 L r6.2 r h H locs ls hP hD hS (lv_sub hl [0, 1, 2, 3] rfl)
      · intro L σ r h H locs ls hP hD hS hl
        rw [x_declareCallable] at h
        refine lv_aload_n hx hb dX12_declareCallable_114 rfl (lv_at hl 0 rfl) ?_
        refine ng_10 hx hb hts in_x_declareCallable hown hK hP (hts _ (List.mem_cons_of_mem _ (List.mem_append_left _ (List.mem_append_left _ (List.mem_of_getElem? (i := 7) rfl))))) dX12_declareCallable_115 ?_
        refine lv_if_eq (tgt := 122) hx hb dX12_declareCallable_118 (by decide) (fun c1 => ?_) (fun c1 => ?_)
        · rw [if_pos c1] at h
          exact ih.2.2.2.2.2.2.2.2.1 L σ r h H locs ls hP hD hS (lv_sub hl [0, 1, 2, 3] rfl)
        · rw [if_neg c1] at h
          cases h
          exact W.vret hx hb hr (fun t ht hW => ⟨⟨(), rfl, trivial, by rw [ht]; exact hP, va_K.moved hW.alike hK, hD⟩, hS.F ht⟩) hS.2.2 dX12_declareCallable_121
      · intro L σ r h H locs ls hP hD hS hl
        rw [x_declareCallable] at h
        refine lv_aload_n hx hb dX12_declareCallable_122 rfl (lv_at hl 0 rfl) ?_
        refine lv_dup hx hb dX12_declareCallable_123 rfl ?_
        refine ng_30 hx hb hts in_x_declareCallable hown hK hP (hts _ (List.mem_cons_of_mem _ (List.mem_append_left _ (List.mem_append_left _ (List.mem_of_getElem? (i := 16) rfl))))) dX12_declareCallable_124 ?_
        refine lv_iconst (v := 1) hx hb dX12_declareCallable_127 (by decide) ?_
        refine lv_iadd hx hb dX12_declareCallable_128 ?_
        refine np_30 hx hb hts in_x_declareCallable hown hK hP hD hS (hts _ (List.mem_cons_of_mem _ (List.mem_append_left _ (List.mem_append_left _ (List.mem_of_getElem? (i := 16) rfl))))) dX12_declareCallable_129 (fun H locs hP hD hS => ?_)
        exact ih.2.2.2.2.2.2.2.2.2.1 L (upd σ.1 30 ((((σ.1 30)) + 1)), σ.2.1, σ.2.2) r h H locs ls hP hD hS (lv_sub hl [0, 1, 2, 3] rfl)
      · intro L σ r h H locs ls hP hD hS hl
        rw [x_declareCallable] at h
        refine lv_aload_n hx hb dX12_declareCallable_132 rfl (lv_at hl 0 rfl) ?_
        refine lv_dup hx hb dX12_declareCallable_133 rfl ?_
        refine ng_31 hx hb hts in_x_declareCallable hown hK hP (hts _ (List.mem_cons_of_mem _ (List.mem_append_left _ (List.mem_append_left _ (List.mem_of_getElem? (i := 27) rfl))))) dX12_declareCallable_134 ?_
        refine lv_iload_n hx hb dX12_declareCallable_137 rfl (lv_at hl 1 rfl) ?_
        refine lv_if_eq (tgt := 145) hx hb dX12_declareCallable_138 (by decide) (fun c1 => ?_) (fun c1 => ?_)
        · rw [if_pos c1] at h
          exact ih.2.2.2.2.2.2.2.2.2.2.1 (upd L 100 ((σ.1 31))) σ r h H locs ls hP hD hS (lv_sub hl [0, 1, 2, 3] rfl)
        · rw [if_neg c1] at h
          refine lv_iconst (v := 1) hx hb dX12_declareCallable_141 (by decide) ?_
          refine lv_goto (tgt := 146) hx hb dX12_declareCallable_142 (by decide) ?_
          exact ih.2.2.2.2.2.2.2.2.2.2.2.1 (upd (upd L 100 1) 101 ((σ.1 31))) σ r h H locs ls hP hD hS (lv_sub hl [0, 1, 2, 3] rfl)
      · intro L σ r h H locs ls hP hD hS hl
        rw [x_declareCallable] at h
        refine lv_iconst (v := 0) hx hb dX12_declareCallable_145 (by decide) ?_
        exact ih.2.2.2.2.2.2.2.2.2.2.2.1 (upd (upd L 100 0) 101 ((L 100))) σ r h H locs ls hP hD hS (lv_sub hl [0, 1, 2, 3] rfl)
      · intro L σ r h H locs ls hP hD hS hl
        rw [x_declareCallable] at h
        refine lv_iadd hx hb dX12_declareCallable_146 ?_
        refine np_31 hx hb hts in_x_declareCallable hown hK hP hD hS (hts _ (List.mem_cons_of_mem _ (List.mem_append_left _ (List.mem_append_left _ (List.mem_of_getElem? (i := 27) rfl))))) dX12_declareCallable_147 (fun H locs hP hD hS => ?_)
        exact ih.2.2.2.2.2.2.2.2.2.2.2.2.1 L (upd σ.1 31 ((((L 101)) + ((L 100)))), σ.2.1, σ.2.2) r h H locs ls hP hD hS (lv_sub hl [0, 1, 2, 3] rfl)
      · intro L σ r h H locs ls hP hD hS hl
        rw [x_declareCallable] at h
        refine lv_aload_n hx hb dX12_declareCallable_150 rfl (lv_at hl 0 rfl) ?_
        refine lv_iconst (v := 1) hx hb dX12_declareCallable_151 (by decide) ?_
        refine lv_iload_n hx hb dX12_declareCallable_152 rfl (lv_at hl 2 rfl) ?_
        refine lv_iadd hx hb dX12_declareCallable_153 ?_
        refine np_37 hx hb hts in_x_declareCallable hown hK hP hD hS (hts _ (List.mem_cons_of_mem _ (List.mem_append_left _ (List.mem_append_left _ (List.mem_of_getElem? (i := 28) rfl))))) dX12_declareCallable_154 (fun H locs hP hD hS => ?_)
        exact ih.2.2.2.2.2.2.2.2.2.2.2.2.2.1 L (upd σ.1 37 ((1 + ((L 2)))), σ.2.1, σ.2.2) r h H locs ls hP hD hS (lv_sub hl [0, 1, 2, 3] rfl)
      · intro L σ r h H locs ls hP hD hS hl
        rw [x_declareCallable] at h
        refine lv_aload_n hx hb dX12_declareCallable_157 rfl (lv_at hl 0 rfl) ?_
        refine ng_36 hx hb hts in_x_declareCallable hown hK hP (hts _ (List.mem_cons_of_mem _ (List.mem_append_left _ (List.mem_append_left _ (List.mem_of_getElem? (i := 29) rfl))))) dX12_declareCallable_158 ?_
        refine lv_aload_n hx hb dX12_declareCallable_161 rfl (lv_at hl 0 rfl) ?_
        refine ng_37 hx hb hts in_x_declareCallable hown hK hP (hts _ (List.mem_cons_of_mem _ (List.mem_append_left _ (List.mem_append_left _ (List.mem_of_getElem? (i := 28) rfl))))) dX12_declareCallable_162 ?_
        refine lv_iconst (v := 0) hx hb dX12_declareCallable_165 (by decide) ?_
        obtain ⟨q1, h⟩ := nb_ite1 h
        refine ns_21 hx hb hK hP hD hS q1 dX12_declareCallable_166 (fun H locs hP hD hS => ?_)
        exact ih.2.2.2.2.2.2.2.2.2.2.2.2.2.2.1 L (σ.1, σ.2.1, updG σ.2.2 21 (upd (σ.2.2 21) ((σ.1 37)).toNatClampNeg 0)) r h H locs ls hP hD hS (lv_sub hl [0, 1, 2, 3] rfl)
      · intro L σ r h H locs ls hP hD hS hl
        rw [x_declareCallable] at h
        refine lv_aload_n hx hb dX12_declareCallable_167 rfl (lv_at hl 0 rfl) ?_
        refine lv_iconst (v := 0) hx hb dX12_declareCallable_168 (by decide) ?_
        refine np_38 hx hb hts in_x_declareCallable hown hK hP hD hS (hts _ (List.mem_cons_of_mem _ (List.mem_append_left _ (List.mem_append_left _ (List.mem_of_getElem? (i := 30) rfl))))) dX12_declareCallable_169 (fun H locs hP hD hS => ?_)
        exact ih.2.2.2.2.2.2.2.2.2.2.2.2.2.2.2.1 L (upd σ.1 38 0, σ.2.1, σ.2.2) r h H locs ls hP hD hS (lv_sub hl [0, 1, 2, 3] rfl)
      · intro L σ r h H locs ls hP hD hS hl
        rw [x_declareCallable] at h
        refine lv_aload_n hx hb dX12_declareCallable_172 rfl (lv_at hl 0 rfl) ?_
        refine ng_33 hx hb hts in_x_declareCallable hown hK hP (hts _ (List.mem_cons_of_mem _ (List.mem_append_left _ (List.mem_append_left _ (List.mem_of_getElem? (i := 31) rfl))))) dX12_declareCallable_173 ?_
        refine lv_iload_n hx hb dX12_declareCallable_176 rfl (lv_at hl 2 rfl) ?_
        refine lv_iconst (v := 0) hx hb dX12_declareCallable_177 (by decide) ?_
        obtain ⟨q1, h⟩ := nb_ite1 h
        refine ns_18 hx hb hK hP hD hS q1 dX12_declareCallable_178 (fun H locs hP hD hS => ?_)
        exact ih.2.2.2.2.2.2.2.2.2.2.2.2.2.2.2.2.1 L (σ.1, σ.2.1, updG σ.2.2 18 (upd (σ.2.2 18) ((L 2)).toNatClampNeg 0)) r h H locs ls hP hD hS (lv_sub hl [0, 1, 2, 3] rfl)
      · intro L σ r h H locs ls hP hD hS hl
        rw [x_declareCallable] at h
        refine lv_aload_n hx hb dX12_declareCallable_179 rfl (lv_at hl 0 rfl) ?_
        refine lv_iload_n hx hb dX12_declareCallable_180 rfl (lv_at hl 1 rfl) ?_
        obtain ⟨q1, h⟩ := nb_ite1 h
        refine np_42 hx hb hts in_x_declareCallable hown hK hP hD hS (hts _ (List.mem_cons_of_mem _ (List.mem_append_left _ (List.mem_append_left _ (List.mem_of_getElem? (i := 32) rfl))))) q1 dX12_declareCallable_181 (fun H locs hP hD hS => ?_)
        exact ih.2.2.2.2.2.2.2.2.2.2.2.2.2.2.2.2.2.1 L (upd σ.1 42 ((L 1)), σ.2.1, σ.2.2) r h H locs ls hP hD hS (lv_sub hl [0, 1, 2, 3] rfl)
      · intro L σ r h H locs ls hP hD hS hl
        rw [x_declareCallable] at h
        refine lv_aload_n hx hb dX12_declareCallable_184 rfl (lv_at hl 0 rfl) ?_
        refine lv_iload_n hx hb dX12_declareCallable_185 rfl (lv_at hl 1 rfl) ?_
        obtain ⟨q1, h⟩ := nb_ite1 h
        refine np_43 hx hb hts in_x_declareCallable hown hK hP hD hS (hts _ (List.mem_cons_of_mem _ (List.mem_append_left _ (List.mem_append_left _ (List.mem_of_getElem? (i := 33) rfl))))) q1 dX12_declareCallable_186 (fun H locs hP hD hS => ?_)
        exact ih.2.2.2.2.2.2.2.2.2.2.2.2.2.2.2.2.2.2.1 L (upd σ.1 43 ((L 1)), σ.2.1, σ.2.2) r h H locs ls hP hD hS (lv_sub hl [0, 1, 2, 3] rfl)
      · intro L σ r h H locs ls hP hD hS hl
        rw [x_declareCallable] at h
        refine lv_aload_n hx hb dX12_declareCallable_189 rfl (lv_at hl 0 rfl) ?_
        obtain ⟨r1, hc1, h⟩ := ob_ex h
        refine nc_Vv (As := []) (rest := []) ⟨hx, hb, hml, hown, hts⟩ (c_x_open l dC dI cy a k (fun _ => 0) σ r1 hc1 H.size) (cwV 0 hts g_x_declareCallable_open_177 rfl rfl rfl hd_x_open ⟨Nat.le_of_ble_eq_true rfl, Nat.le_of_ble_eq_true rfl⟩) hK hG hA hP hD hS rfl hl.1 rfl (Nat.le_of_ble_eq_true rfl) dX12_declareCallable_190 ⟨Nat.le_refl _, Nat.le_refl _⟩ (fun H locs hP hD hS => ?_)
        refine lv_aload_n hx hb dX12_declareCallable_193 rfl (lv_at hl 0 rfl) ?_
        refine ng_10 hx hb hts in_x_declareCallable hown hK hP (hts _ (List.mem_cons_of_mem _ (List.mem_append_left _ (List.mem_append_left _ (List.mem_of_getElem? (i := 7) rfl))))) dX12_declareCallable_194 ?_
        refine lv_if_ne (tgt := 204) hx hb dX12_declareCallable_197 (by decide) (fun c2 => ?_) (fun c2 => ?_)
        · rw [if_neg c2] at h
          exact ih.2.2.2.2.2.2.2.2.2.2.2.2.2.2.2.2.2.2.2.1 L r1.2 r h H locs ls hP hD hS (lv_sub hl [0, 1, 2, 3] rfl)
        · rw [if_pos c2] at h
          refine lv_aload_n hx hb dX12_declareCallable_200 rfl (lv_at hl 0 rfl) ?_
          obtain ⟨r3, hc3, h⟩ := ob_ex h
          refine nc_Vv (As := []) (rest := []) ⟨hx, hb, hml, hown, hts⟩ (c_x_take l dC dI cy a k (fun _ => 0) r1.2 r3 hc3 H.size) (cwV 0 hts g_x_declareCallable_take_71 rfl rfl rfl hd_x_take ⟨Nat.le_of_ble_eq_true rfl, Nat.le_of_ble_eq_true rfl⟩) hK hG hA hP hD hS rfl hl.1 rfl (Nat.le_of_ble_eq_true rfl) dX12_declareCallable_201 ⟨Nat.le_refl _, Nat.le_refl _⟩ (fun H locs hP hD hS => ?_)
          exact ih.2.2.2.2.2.2.2.2.2.2.2.2.2.2.2.2.2.2.2.1 L r3.2 r h H locs ls hP hD hS (lv_sub hl [0, 1, 2, 3] rfl)
      · intro L σ r h H locs ls hP hD hS hl
        rw [x_declareCallable] at h
        refine lv_aload_n hx hb dX12_declareCallable_204 rfl (lv_at hl 0 rfl) ?_
        refine lv_iload_n hx hb dX12_declareCallable_205 rfl (lv_at hl 2 rfl) ?_
        refine lv_iload_n hx hb dX12_declareCallable_206 rfl (lv_at hl 1 rfl) ?_
        obtain ⟨r1, hc1, h⟩ := ob_ex h
        refine nc_Vv (As := [.int (L 2), .int (L 1)]) (rest := []) ⟨hx, hb, hml, hown, hts⟩ (c_x_paramsOf l dC dI cy a k (upd (upd (fun _ => 0) 1 ((L 2))) 2 ((L 1))) σ r1 hc1 H.size) (cwV 2 hts g_x_declareCallable_paramsOf_352 rfl rfl rfl hd_x_paramsOf ⟨Nat.le_of_ble_eq_true rfl, Nat.le_of_ble_eq_true rfl⟩) hK hG hA hP hD hS rfl hl.1 rfl (Nat.le_of_ble_eq_true rfl) dX12_declareCallable_207 ⟨Nat.le_refl _, Nat.le_refl _⟩ (fun H locs hP hD hS => ?_)
        refine lv_aload_n hx hb dX12_declareCallable_210 rfl (lv_at hl 0 rfl) ?_
        refine ng_10 hx hb hts in_x_declareCallable hown hK hP (hts _ (List.mem_cons_of_mem _ (List.mem_append_left _ (List.mem_append_left _ (List.mem_of_getElem? (i := 7) rfl))))) dX12_declareCallable_211 ?_
        refine lv_if_ne (tgt := 221) hx hb dX12_declareCallable_214 (by decide) (fun c2 => ?_) (fun c2 => ?_)
        · rw [if_neg c2] at h
          exact ih.2.2.2.2.2.2.2.2.2.2.2.2.2.2.2.2.2.2.2.2.1 L r1.2 r h H locs ls hP hD hS (lv_sub hl [0, 1, 2, 3] rfl)
        · rw [if_pos c2] at h
          refine lv_aload_n hx hb dX12_declareCallable_217 rfl (lv_at hl 0 rfl) ?_
          obtain ⟨r3, hc3, h⟩ := ob_ex h
          refine nc_Vv (As := []) (rest := []) ⟨hx, hb, hml, hown, hts⟩ (c_x_take l dC dI cy a k (fun _ => 0) r1.2 r3 hc3 H.size) (cwV 0 hts g_x_declareCallable_take_71 rfl rfl rfl hd_x_take ⟨Nat.le_of_ble_eq_true rfl, Nat.le_of_ble_eq_true rfl⟩) hK hG hA hP hD hS rfl hl.1 rfl (Nat.le_of_ble_eq_true rfl) dX12_declareCallable_218 ⟨Nat.le_refl _, Nat.le_refl _⟩ (fun H locs hP hD hS => ?_)
          exact ih.2.2.2.2.2.2.2.2.2.2.2.2.2.2.2.2.2.2.2.2.1 L r3.2 r h H locs ls hP hD hS (lv_sub hl [0, 1, 2, 3] rfl)
      · intro L σ r h H locs ls hP hD hS hl
        rw [x_declareCallable] at h
        refine lv_aload_n hx hb dX12_declareCallable_221 rfl (lv_at hl 0 rfl) ?_
        refine lv_dup hx hb dX12_declareCallable_222 rfl ?_
        refine ng_13 hx hb hts in_x_declareCallable hown hK hP (hts _ (List.mem_cons_of_mem _ (List.mem_append_left _ (List.mem_append_left _ (List.mem_of_getElem? (i := 40) rfl))))) dX12_declareCallable_223 ?_
        refine lv_iconst (v := 1) hx hb dX12_declareCallable_226 (by decide) ?_
        refine lv_isub hx hb dX12_declareCallable_227 ?_
        refine np_13 hx hb hts in_x_declareCallable hown hK hP hD hS (hts _ (List.mem_cons_of_mem _ (List.mem_append_left _ (List.mem_append_left _ (List.mem_of_getElem? (i := 40) rfl))))) dX12_declareCallable_228 (fun H locs hP hD hS => ?_)
        exact ih.2.2.2.2.2.2.2.2.2.2.2.2.2.2.2.2.2.2.2.2.2.1 L (upd σ.1 13 ((((σ.1 13)) - 1)), σ.2.1, σ.2.2) r h H locs ls hP hD hS (lv_sub hl [0, 1, 2, 3] rfl)
      · intro L σ r h H locs ls hP hD hS hl
        rw [x_declareCallable] at h
        refine lv_iload_n hx hb dX12_declareCallable_231 rfl (lv_at hl 1 rfl) ?_
        refine lv_if_eq (tgt := 283) hx hb dX12_declareCallable_232 (by decide) (fun c1 => ?_) (fun c1 => ?_)
        · rw [if_pos c1] at h
          exact ih.2.2.2.2.2.2.2.2.2.2.2.2.2.2.2.2.2.2.2.2.2.2.2.2.2.1 L σ r h H locs ls hP hD hS (lv_sub hl [0, 1, 2, 3] rfl)
        · rw [if_neg c1] at h
          refine lv_aload_n hx hb dX12_declareCallable_235 rfl (lv_at hl 0 rfl) ?_
          refine lv_bipush (v := 13) hx hb dX12_declareCallable_236 (by decide) ?_
          obtain ⟨r2, hc2, h⟩ := ob_ex h
          refine nc_Vv (As := [.int 13]) (rest := []) ⟨hx, hb, hml, hown, hts⟩ (c_x_want l dC dI cy a k (upd (fun _ => 0) 1 13) σ r2 hc2 H.size) (cwV 1 hts g_x_declareCallable_want_199 rfl rfl rfl hd_x_want ⟨Nat.le_of_ble_eq_true rfl, Nat.le_of_ble_eq_true rfl⟩) hK hG hA hP hD hS rfl hl.1 rfl (Nat.le_of_ble_eq_true rfl) dX12_declareCallable_238 ⟨Nat.le_refl _, Nat.le_refl _⟩ (fun H locs hP hD hS => ?_)
          exact ih.2.2.2.2.2.2.2.2.2.2.2.2.2.2.2.2.2.2.2.2.2.2.1 L r2.2 r h H locs ls hP hD hS (lv_sub hl [0, 1, 2, 3] rfl)
      · intro L σ r h H locs ls hP hD hS hl
        rw [x_declareCallable] at h
        refine lv_aload_n hx hb dX12_declareCallable_241 rfl (lv_at hl 0 rfl) ?_
        refine ng_10 hx hb hts in_x_declareCallable hown hK hP (hts _ (List.mem_cons_of_mem _ (List.mem_append_left _ (List.mem_append_left _ (List.mem_of_getElem? (i := 7) rfl))))) dX12_declareCallable_242 ?_
        refine lv_if_ne (tgt := 263) hx hb dX12_declareCallable_245 (by decide) (fun c1 => ?_) (fun c1 => ?_)
        · rw [if_neg c1] at h
          exact ih.2.2.2.2.2.2.2.2.2.2.2.2.2.2.2.2.2.2.2.2.2.2.2.1 L σ r h H locs ls hP hD hS (lv_sub hl [0, 1, 2, 3] rfl)
        · rw [if_pos c1] at h
          refine lv_aload_n hx hb dX12_declareCallable_248 rfl (lv_at hl 0 rfl) ?_
          refine lv_iconst (v := 0) hx hb dX12_declareCallable_249 (by decide) ?_
          obtain ⟨r2, hc2, h⟩ := ob_ex h
          refine nc_Vi (As := [.int 0]) (rest := []) ⟨hx, hb, hml, hown, hts⟩ (c_x_isWord l dC dI cy a k (upd (fun _ => 0) 1 0) σ r2 hc2 H.size) (cwV 1 hts g_x_declareCallable_isWord_74 rfl rfl rfl hd_x_isWord ⟨Nat.le_of_ble_eq_true rfl, Nat.le_of_ble_eq_true rfl⟩) hK hG hA hP hD hS rfl hl.1 rfl (Nat.le_of_ble_eq_true rfl) dX12_declareCallable_250 ⟨Nat.le_refl _, Nat.le_refl _⟩ (fun H locs hP hD hS => ?_)
          refine lv_if_eq (tgt := 263) hx hb dX12_declareCallable_253 (by decide) (fun c3 => ?_) (fun c3 => ?_)
          · rw [if_pos c3] at h
            exact ih.2.2.2.2.2.2.2.2.2.2.2.2.2.2.2.2.2.2.2.2.2.2.2.1 L r2.2 r h H locs ls hP hD hS (lv_sub hl [0, 1, 2, 3] rfl)
          · rw [if_neg c3] at h
            refine lv_aload_n hx hb dX12_declareCallable_256 rfl (lv_at hl 0 rfl) ?_
            obtain ⟨r4, hc4, h⟩ := ob_ex h
            refine nc_Vv (As := []) (rest := []) ⟨hx, hb, hml, hown, hts⟩ (c_x_declareVar l dC dI cy a k (fun _ => 0) r2.2 r4 hc4 H.size) (cwV 0 hts g_x_declareCallable_declareVar_356 rfl rfl rfl hd_x_declareVar ⟨Nat.le_of_ble_eq_true rfl, Nat.le_of_ble_eq_true rfl⟩) hK hG hA hP hD hS rfl hl.1 rfl (Nat.le_of_ble_eq_true rfl) dX12_declareCallable_257 ⟨Nat.le_refl _, Nat.le_refl _⟩ (fun H locs hP hD hS => ?_)
            refine lv_goto (tgt := 241) hx hb dX12_declareCallable_260 (by decide) ?_
            exact ih.2.2.2.2.2.2.2.2.2.2.2.2.2.2.2.2.2.2.2.2.2.2.1 L r4.2 r h H locs ls hP hD hS (lv_sub hl [0, 1, 2, 3] rfl)
      · intro L σ r h H locs ls hP hD hS hl
        rw [x_declareCallable] at h
        refine lv_aload_n hx hb dX12_declareCallable_263 rfl (lv_at hl 0 rfl) ?_
        refine ng_32 hx hb hts in_x_declareCallable hown hK hP (hts _ (List.mem_cons_of_mem _ (List.mem_append_left _ (List.mem_append_left _ (List.mem_of_getElem? (i := 50) rfl))))) dX12_declareCallable_264 ?_
        refine lv_iload_n hx hb dX12_declareCallable_267 rfl (lv_at hl 2 rfl) ?_
        refine lv_aload_n hx hb dX12_declareCallable_268 rfl (lv_at hl 0 rfl) ?_
        refine lv_iconst (v := (-1)) hx hb dX12_declareCallable_269 (by decide) ?_
        obtain ⟨r1, hc1, h⟩ := ob_ex h
        refine nc_Vi (As := [.int (-1)]) (rest := [.int (L 2), .ref (a 17)]) ⟨hx, hb, hml, hown, hts⟩ (c_x_block l dC dI cy a k (upd (fun _ => 0) 1 ((-1))) σ r1 hc1 H.size) (cwV 1 hts g_x_declareCallable_block_336 rfl rfl rfl hd_x_block ⟨Nat.le_of_ble_eq_true rfl, Nat.le_of_ble_eq_true rfl⟩) hK hG hA hP hD hS rfl hl.1 rfl (Nat.le_of_ble_eq_true rfl) dX12_declareCallable_270 ⟨Nat.le_refl _, Nat.le_refl _⟩ (fun H locs hP hD hS => ?_)
        obtain ⟨q2, h⟩ := nb_ite1 h
        refine ns_17 hx hb hK hP hD hS q2 dX12_declareCallable_273 (fun H locs hP hD hS => ?_)
        exact ih.2.2.2.2.2.2.2.2.2.2.2.2.2.2.2.2.2.2.2.2.2.2.2.2.1 L (r1.2.1, r1.2.2.1, updG r1.2.2.2 17 (upd (r1.2.2.2 17) ((L 2)).toNatClampNeg r1.1)) r h H locs ls hP hD hS (lv_sub hl [0, 1, 2, 3] rfl)
      · intro L σ r h H locs ls hP hD hS hl
        rw [x_declareCallable] at h
        refine lv_aload_n hx hb dX12_declareCallable_274 rfl (lv_at hl 0 rfl) ?_
        refine lv_bipush (v := 6) hx hb dX12_declareCallable_275 (by decide) ?_
        obtain ⟨r1, hc1, h⟩ := ob_ex h
        refine nc_Vv (As := [.int 6]) (rest := []) ⟨hx, hb, hml, hown, hts⟩ (c_x_wantWord l dC dI cy a k (upd (fun _ => 0) 1 6) σ r1 hc1 H.size) (cwV 1 hts g_x_declareCallable_wantWord_253 rfl rfl rfl hd_x_wantWord ⟨Nat.le_of_ble_eq_true rfl, Nat.le_of_ble_eq_true rfl⟩) hK hG hA hP hD hS rfl hl.1 rfl (Nat.le_of_ble_eq_true rfl) dX12_declareCallable_277 ⟨Nat.le_refl _, Nat.le_refl _⟩ (fun H locs hP hD hS => ?_)
        refine lv_goto (tgt := 299) hx hb dX12_declareCallable_280 (by decide) ?_
        exact ih.2.2.2.2.2.2.2.2.2.2.2.2.2.2.2.2.2.2.2.2.2.2.2.2.2.2.1 L r1.2 r h H locs ls hP hD hS (lv_sub hl [0, 1, 2, 3] rfl)
      · intro L σ r h H locs ls hP hD hS hl
        rw [x_declareCallable] at h
        refine lv_aload_n hx hb dX12_declareCallable_283 rfl (lv_at hl 0 rfl) ?_
        refine lv_bipush (v := 17) hx hb dX12_declareCallable_284 (by decide) ?_
        obtain ⟨r1, hc1, h⟩ := ob_ex h
        refine nc_Vv (As := [.int 17]) (rest := []) ⟨hx, hb, hml, hown, hts⟩ (c_x_want l dC dI cy a k (upd (fun _ => 0) 1 17) σ r1 hc1 H.size) (cwV 1 hts g_x_declareCallable_want_199 rfl rfl rfl hd_x_want ⟨Nat.le_of_ble_eq_true rfl, Nat.le_of_ble_eq_true rfl⟩) hK hG hA hP hD hS rfl hl.1 rfl (Nat.le_of_ble_eq_true rfl) dX12_declareCallable_286 ⟨Nat.le_refl _, Nat.le_refl _⟩ (fun H locs hP hD hS => ?_)
        refine lv_aload_n hx hb dX12_declareCallable_289 rfl (lv_at hl 0 rfl) ?_
        refine ng_32 hx hb hts in_x_declareCallable hown hK hP (hts _ (List.mem_cons_of_mem _ (List.mem_append_left _ (List.mem_append_left _ (List.mem_of_getElem? (i := 50) rfl))))) dX12_declareCallable_290 ?_
        refine lv_iload_n hx hb dX12_declareCallable_293 rfl (lv_at hl 2 rfl) ?_
        refine lv_aload_n hx hb dX12_declareCallable_294 rfl (lv_at hl 0 rfl) ?_
        obtain ⟨r2, hc2, h⟩ := ob_ex h
        refine nc_Vi (As := []) (rest := [.int (L 2), .ref (a 17)]) ⟨hx, hb, hml, hown, hts⟩ (c_x_exp l dC dI cy a k (fun _ => 0) r1.2 r2 hc2 H.size) (cwV 0 hts g_x_declareCallable_exp_209 rfl rfl rfl hd_x_exp ⟨Nat.le_of_ble_eq_true rfl, Nat.le_of_ble_eq_true rfl⟩) hK hG hA hP hD hS rfl hl.1 rfl (Nat.le_of_ble_eq_true rfl) dX12_declareCallable_295 ⟨Nat.le_refl _, Nat.le_refl _⟩ (fun H locs hP hD hS => ?_)
        obtain ⟨q3, h⟩ := nb_ite1 h
        refine ns_17 hx hb hK hP hD hS q3 dX12_declareCallable_298 (fun H locs hP hD hS => ?_)
        exact ih.2.2.2.2.2.2.2.2.2.2.2.2.2.2.2.2.2.2.2.2.2.2.2.2.2.2.1 L (r2.2.1, r2.2.2.1, updG r2.2.2.2 17 (upd (r2.2.2.2 17) ((L 2)).toNatClampNeg r2.1)) r h H locs ls hP hD hS (lv_sub hl [0, 1, 2, 3] rfl)
      · intro L σ r h H locs ls hP hD hS hl
        rw [x_declareCallable] at h
        refine lv_aload_n hx hb dX12_declareCallable_299 rfl (lv_at hl 0 rfl) ?_
        refine lv_bipush (v := 13) hx hb dX12_declareCallable_300 (by decide) ?_
        obtain ⟨r1, hc1, h⟩ := ob_ex h
        refine nc_Vv (As := [.int 13]) (rest := []) ⟨hx, hb, hml, hown, hts⟩ (c_x_want l dC dI cy a k (upd (fun _ => 0) 1 13) σ r1 hc1 H.size) (cwV 1 hts g_x_declareCallable_want_199 rfl rfl rfl hd_x_want ⟨Nat.le_of_ble_eq_true rfl, Nat.le_of_ble_eq_true rfl⟩) hK hG hA hP hD hS rfl hl.1 rfl (Nat.le_of_ble_eq_true rfl) dX12_declareCallable_302 ⟨Nat.le_refl _, Nat.le_refl _⟩ (fun H locs hP hD hS => ?_)
        refine lv_aload_n hx hb dX12_declareCallable_305 rfl (lv_at hl 0 rfl) ?_
        refine lv_iconst (v := 0) hx hb dX12_declareCallable_306 (by decide) ?_
        refine np_37 hx hb hts in_x_declareCallable hown hK hP hD hS (hts _ (List.mem_cons_of_mem _ (List.mem_append_left _ (List.mem_append_left _ (List.mem_of_getElem? (i := 28) rfl))))) dX12_declareCallable_307 (fun H locs hP hD hS => ?_)
        exact ih.2.2.2.2.2.2.2.2.2.2.2.2.2.2.2.2.2.2.2.2.2.2.2.2.2.2.2.1 L (upd r1.2.1 37 0, r1.2.2.1, r1.2.2.2) r h H locs ls hP hD hS (lv_sub hl [0, 1, 2, 3] rfl)
      · intro L σ r h H locs ls hP hD hS hl
        rw [x_declareCallable] at h
        refine lv_aload_n hx hb dX12_declareCallable_310 rfl (lv_at hl 0 rfl) ?_
        refine lv_iconst (v := 0) hx hb dX12_declareCallable_311 (by decide) ?_
        refine np_38 hx hb hts in_x_declareCallable hown hK hP hD hS (hts _ (List.mem_cons_of_mem _ (List.mem_append_left _ (List.mem_append_left _ (List.mem_of_getElem? (i := 30) rfl))))) dX12_declareCallable_312 (fun H locs hP hD hS => ?_)
        exact ih.2.2.2.2.2.2.2.2.2.2.2.2.2.2.2.2.2.2.2.2.2.2.2.2.2.2.2.2.1 L (upd σ.1 38 0, σ.2.1, σ.2.2) r h H locs ls hP hD hS (lv_sub hl [0, 1, 2, 3] rfl)
      · intro L σ r h H locs ls hP hD hS hl
        rw [x_declareCallable] at h
        refine lv_aload_n hx hb dX12_declareCallable_315 rfl (lv_at hl 0 rfl) ?_
        refine lv_iconst (v := 1) hx hb dX12_declareCallable_316 (by decide) ?_
        refine np_42 hx hb hts in_x_declareCallable hown hK hP hD hS (hts _ (List.mem_cons_of_mem _ (List.mem_append_left _ (List.mem_append_left _ (List.mem_of_getElem? (i := 32) rfl))))) (Or.inr rfl) dX12_declareCallable_317 (fun H locs hP hD hS => ?_)
        exact ih.2.2.2.2.2.2.2.2.2.2.2.2.2.2.2.2.2.2.2.2.2.2.2.2.2.2.2.2.2 L (upd σ.1 42 1, σ.2.1, σ.2.2) r h H locs ls hP hD hS (lv_sub hl [0, 1, 2, 3] rfl)
      · intro L σ r h H locs ls hP hD hS hl
        rw [x_declareCallable] at h
        refine lv_aload_n hx hb dX12_declareCallable_320 rfl (lv_at hl 0 rfl) ?_
        refine lv_iconst (v := 1) hx hb dX12_declareCallable_321 (by decide) ?_
        refine np_43 hx hb hts in_x_declareCallable hown hK hP hD hS (hts _ (List.mem_cons_of_mem _ (List.mem_append_left _ (List.mem_append_left _ (List.mem_of_getElem? (i := 33) rfl))))) (Or.inr rfl) dX12_declareCallable_322 (fun H locs hP hD hS => ?_)
        cases h
        exact W.vret hx hb hr (fun t ht hW => ⟨⟨(), rfl, trivial, by rw [ht]; exact hP, va_K.moved hW.alike hK, hD⟩, hS.F ht⟩) hS.2.2 dX12_declareCallable_325
  exact (blk k0).1 L0 σ0 r0 h0 s.heap [] ls hP hD hS hl
