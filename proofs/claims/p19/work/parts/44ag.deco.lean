theorem c_GE (l : Launch) (dC : Nat → ClassId) (dI : Nat → Nat → Nat) (cy : Nat → ClassId) (a : Nat → Nat) : ∀ k0 : Nat, P_GE l dC dI cy a k0 := by
  intro k0
  induction k0 using Nat.strongRecOn with
  | ind k0 IH => exact ⟨c_s_brackets l dC dI cy a k0 IH, c_s_choice l dC dI cy a k0 IH, c_s_conjunction l dC dI cy a k0 IH, c_s_exp l dC dI cy a k0 IH, c_s_iters l dC dI cy a k0 IH, c_s_listed l dC dI cy a k0 IH, c_s_name l dC dI cy a k0 IH, c_s_negation l dC dI cy a k0 IH, c_s_parts l dC dI cy a k0 IH, c_s_power l dC dI cy a k0 IH, c_s_prefix l dC dI cy a k0 IH, c_s_primary l dC dI cy a k0 IH, c_s_quantified l dC dI cy a k0 IH, c_s_relation l dC dI cy a k0 IH, c_s_sum l dC dI cy a k0 IH, c_s_term l dC dI cy a k0 IH, c_s_wordly l dC dI cy a k0 IH⟩
def x_brackets (k b : Nat) (L : Nat → Int32) (σ : MS) : Option (Int32 × MS) := x_GE k 320 0 b L σ
theorem c_x_brackets (l : Launch) (dC : Nat → ClassId) (dI : Nat → Nat → Nat) (cy : Nat → ClassId) (a : Nat → Nat) (k0 : Nat) (L0 : Nat → Int32) (σ0 : MS) (r0 : Int32 × MS) (h0 : x_brackets k0 0 L0 σ0 = some r0) (sz : Nat) : Met l yX12_brackets w_x_brackets ({ frames := 325, cells := 0, slots := 0, locals := 10033 }) (va_Pc [.ref (a 0)] (nIn (dC, dI) cy sz (vM cy a σ0))) (va_Qi (fun (z : Int32) (_ : Unit) => z = r0.1) (fun _ t => nOut (dC, dI) cy (va_A (vM cy a σ0) sz) (vM cy a r0.2) t) (va_A (vM cy a σ0) sz)) 0 0 (va_A (vM cy a σ0) sz) := (c_GE l dC dI cy a k0).1 320 L0 σ0 r0 h0 sz
def x_choice (k b : Nat) (L : Nat → Int32) (σ : MS) : Option (Int32 × MS) := x_GE k 320 1 b L σ
theorem c_x_choice (l : Launch) (dC : Nat → ClassId) (dI : Nat → Nat → Nat) (cy : Nat → ClassId) (a : Nat → Nat) (k0 : Nat) (L0 : Nat → Int32) (σ0 : MS) (r0 : Int32 × MS) (h0 : x_choice k0 0 L0 σ0 = some r0) (sz : Nat) : Met l yX12_choice w_x_choice ({ frames := 325, cells := 0, slots := 0, locals := 10033 }) (va_Pc [.ref (a 0)] (nIn (dC, dI) cy sz (vM cy a σ0))) (va_Qi (fun (z : Int32) (_ : Unit) => z = r0.1) (fun _ t => nOut (dC, dI) cy (va_A (vM cy a σ0) sz) (vM cy a r0.2) t) (va_A (vM cy a σ0) sz)) 0 0 (va_A (vM cy a σ0) sz) := (c_GE l dC dI cy a k0).2.1 320 L0 σ0 r0 h0 sz
def x_conjunction (k b : Nat) (L : Nat → Int32) (σ : MS) : Option (Int32 × MS) := x_GE k 320 2 b L σ
theorem c_x_conjunction (l : Launch) (dC : Nat → ClassId) (dI : Nat → Nat → Nat) (cy : Nat → ClassId) (a : Nat → Nat) (k0 : Nat) (L0 : Nat → Int32) (σ0 : MS) (r0 : Int32 × MS) (h0 : x_conjunction k0 0 L0 σ0 = some r0) (sz : Nat) : Met l yX12_conjunction w_x_conjunction ({ frames := 325, cells := 0, slots := 0, locals := 10033 }) (va_Pc [.ref (a 0)] (nIn (dC, dI) cy sz (vM cy a σ0))) (va_Qi (fun (z : Int32) (_ : Unit) => z = r0.1) (fun _ t => nOut (dC, dI) cy (va_A (vM cy a σ0) sz) (vM cy a r0.2) t) (va_A (vM cy a σ0) sz)) 0 0 (va_A (vM cy a σ0) sz) := (c_GE l dC dI cy a k0).2.2.1 320 L0 σ0 r0 h0 sz
def x_exp (k b : Nat) (L : Nat → Int32) (σ : MS) : Option (Int32 × MS) := x_GE k 320 3 b L σ
theorem c_x_exp (l : Launch) (dC : Nat → ClassId) (dI : Nat → Nat → Nat) (cy : Nat → ClassId) (a : Nat → Nat) (k0 : Nat) (L0 : Nat → Int32) (σ0 : MS) (r0 : Int32 × MS) (h0 : x_exp k0 0 L0 σ0 = some r0) (sz : Nat) : Met l yX12_exp w_x_exp ({ frames := 325, cells := 0, slots := 0, locals := 10033 }) (va_Pc [.ref (a 0)] (nIn (dC, dI) cy sz (vM cy a σ0))) (va_Qi (fun (z : Int32) (_ : Unit) => z = r0.1) (fun _ t => nOut (dC, dI) cy (va_A (vM cy a σ0) sz) (vM cy a r0.2) t) (va_A (vM cy a σ0) sz)) 0 0 (va_A (vM cy a σ0) sz) := (c_GE l dC dI cy a k0).2.2.2.1 320 L0 σ0 r0 h0 sz
def x_iters (k b : Nat) (L : Nat → Int32) (σ : MS) : Option (Int32 × MS) := x_GE k 320 4 b L σ
theorem c_x_iters (l : Launch) (dC : Nat → ClassId) (dI : Nat → Nat → Nat) (cy : Nat → ClassId) (a : Nat → Nat) (k0 : Nat) (L0 : Nat → Int32) (σ0 : MS) (r0 : Int32 × MS) (h0 : x_iters k0 0 L0 σ0 = some r0) (sz : Nat) : Met l yX12_iters w_x_iters ({ frames := 325, cells := 0, slots := 0, locals := 10033 }) (va_Pc [.ref (a 0), .int (L0 1)] (nIn (dC, dI) cy sz (vM cy a σ0))) (va_Qi (fun (z : Int32) (_ : Unit) => z = r0.1) (fun _ t => nOut (dC, dI) cy (va_A (vM cy a σ0) sz) (vM cy a r0.2) t) (va_A (vM cy a σ0) sz)) 0 0 (va_A (vM cy a σ0) sz) := (c_GE l dC dI cy a k0).2.2.2.2.1 320 L0 σ0 r0 h0 sz
def x_listed (k b : Nat) (L : Nat → Int32) (σ : MS) : Option (Int32 × MS) := x_GE k 320 5 b L σ
theorem c_x_listed (l : Launch) (dC : Nat → ClassId) (dI : Nat → Nat → Nat) (cy : Nat → ClassId) (a : Nat → Nat) (k0 : Nat) (L0 : Nat → Int32) (σ0 : MS) (r0 : Int32 × MS) (h0 : x_listed k0 0 L0 σ0 = some r0) (sz : Nat) : Met l yX12_listed w_x_listed ({ frames := 325, cells := 0, slots := 0, locals := 10033 }) (va_Pc [.ref (a 0), .int (L0 1)] (nIn (dC, dI) cy sz (vM cy a σ0))) (va_Qi (fun (z : Int32) (_ : Unit) => z = r0.1) (fun _ t => nOut (dC, dI) cy (va_A (vM cy a σ0) sz) (vM cy a r0.2) t) (va_A (vM cy a σ0) sz)) 0 0 (va_A (vM cy a σ0) sz) := (c_GE l dC dI cy a k0).2.2.2.2.2.1 320 L0 σ0 r0 h0 sz
def x_name (k b : Nat) (L : Nat → Int32) (σ : MS) : Option (Int32 × MS) := x_GE k 320 6 b L σ
theorem c_x_name (l : Launch) (dC : Nat → ClassId) (dI : Nat → Nat → Nat) (cy : Nat → ClassId) (a : Nat → Nat) (k0 : Nat) (L0 : Nat → Int32) (σ0 : MS) (r0 : Int32 × MS) (h0 : x_name k0 0 L0 σ0 = some r0) (sz : Nat) : Met l yX12_name w_x_name ({ frames := 325, cells := 0, slots := 0, locals := 10033 }) (va_Pc [.ref (a 0)] (nIn (dC, dI) cy sz (vM cy a σ0))) (va_Qi (fun (z : Int32) (_ : Unit) => z = r0.1) (fun _ t => nOut (dC, dI) cy (va_A (vM cy a σ0) sz) (vM cy a r0.2) t) (va_A (vM cy a σ0) sz)) 0 0 (va_A (vM cy a σ0) sz) := (c_GE l dC dI cy a k0).2.2.2.2.2.2.1 320 L0 σ0 r0 h0 sz
def x_negation (k b : Nat) (L : Nat → Int32) (σ : MS) : Option (Int32 × MS) := x_GE k 320 7 b L σ
theorem c_x_negation (l : Launch) (dC : Nat → ClassId) (dI : Nat → Nat → Nat) (cy : Nat → ClassId) (a : Nat → Nat) (k0 : Nat) (L0 : Nat → Int32) (σ0 : MS) (r0 : Int32 × MS) (h0 : x_negation k0 0 L0 σ0 = some r0) (sz : Nat) : Met l yX12_negation w_x_negation ({ frames := 325, cells := 0, slots := 0, locals := 10033 }) (va_Pc [.ref (a 0)] (nIn (dC, dI) cy sz (vM cy a σ0))) (va_Qi (fun (z : Int32) (_ : Unit) => z = r0.1) (fun _ t => nOut (dC, dI) cy (va_A (vM cy a σ0) sz) (vM cy a r0.2) t) (va_A (vM cy a σ0) sz)) 0 0 (va_A (vM cy a σ0) sz) := (c_GE l dC dI cy a k0).2.2.2.2.2.2.2.1 320 L0 σ0 r0 h0 sz
def x_parts (k b : Nat) (L : Nat → Int32) (σ : MS) : Option (Int32 × MS) := x_GE k 320 8 b L σ
theorem c_x_parts (l : Launch) (dC : Nat → ClassId) (dI : Nat → Nat → Nat) (cy : Nat → ClassId) (a : Nat → Nat) (k0 : Nat) (L0 : Nat → Int32) (σ0 : MS) (r0 : Int32 × MS) (h0 : x_parts k0 0 L0 σ0 = some r0) (sz : Nat) : Met l yX12_parts w_x_parts ({ frames := 325, cells := 0, slots := 0, locals := 10033 }) (va_Pc [.ref (a 0), .int (L0 1)] (nIn (dC, dI) cy sz (vM cy a σ0))) (va_Qi (fun (z : Int32) (_ : Unit) => z = r0.1) (fun _ t => nOut (dC, dI) cy (va_A (vM cy a σ0) sz) (vM cy a r0.2) t) (va_A (vM cy a σ0) sz)) 0 0 (va_A (vM cy a σ0) sz) := (c_GE l dC dI cy a k0).2.2.2.2.2.2.2.2.1 320 L0 σ0 r0 h0 sz
def x_power (k b : Nat) (L : Nat → Int32) (σ : MS) : Option (Int32 × MS) := x_GE k 320 9 b L σ
theorem c_x_power (l : Launch) (dC : Nat → ClassId) (dI : Nat → Nat → Nat) (cy : Nat → ClassId) (a : Nat → Nat) (k0 : Nat) (L0 : Nat → Int32) (σ0 : MS) (r0 : Int32 × MS) (h0 : x_power k0 0 L0 σ0 = some r0) (sz : Nat) : Met l yX12_power w_x_power ({ frames := 325, cells := 0, slots := 0, locals := 10033 }) (va_Pc [.ref (a 0)] (nIn (dC, dI) cy sz (vM cy a σ0))) (va_Qi (fun (z : Int32) (_ : Unit) => z = r0.1) (fun _ t => nOut (dC, dI) cy (va_A (vM cy a σ0) sz) (vM cy a r0.2) t) (va_A (vM cy a σ0) sz)) 0 0 (va_A (vM cy a σ0) sz) := (c_GE l dC dI cy a k0).2.2.2.2.2.2.2.2.2.1 320 L0 σ0 r0 h0 sz
def x_prefix (k b : Nat) (L : Nat → Int32) (σ : MS) : Option (Int32 × MS) := x_GE k 320 10 b L σ
theorem c_x_prefix (l : Launch) (dC : Nat → ClassId) (dI : Nat → Nat → Nat) (cy : Nat → ClassId) (a : Nat → Nat) (k0 : Nat) (L0 : Nat → Int32) (σ0 : MS) (r0 : Int32 × MS) (h0 : x_prefix k0 0 L0 σ0 = some r0) (sz : Nat) : Met l yX12_prefix w_x_prefix ({ frames := 325, cells := 0, slots := 0, locals := 10033 }) (va_Pc [.ref (a 0)] (nIn (dC, dI) cy sz (vM cy a σ0))) (va_Qi (fun (z : Int32) (_ : Unit) => z = r0.1) (fun _ t => nOut (dC, dI) cy (va_A (vM cy a σ0) sz) (vM cy a r0.2) t) (va_A (vM cy a σ0) sz)) 0 0 (va_A (vM cy a σ0) sz) := (c_GE l dC dI cy a k0).2.2.2.2.2.2.2.2.2.2.1 320 L0 σ0 r0 h0 sz
def x_primary (k b : Nat) (L : Nat → Int32) (σ : MS) : Option (Int32 × MS) := x_GE k 320 11 b L σ
theorem c_x_primary (l : Launch) (dC : Nat → ClassId) (dI : Nat → Nat → Nat) (cy : Nat → ClassId) (a : Nat → Nat) (k0 : Nat) (L0 : Nat → Int32) (σ0 : MS) (r0 : Int32 × MS) (h0 : x_primary k0 0 L0 σ0 = some r0) (sz : Nat) : Met l yX12_primary w_x_primary ({ frames := 325, cells := 0, slots := 0, locals := 10033 }) (va_Pc [.ref (a 0)] (nIn (dC, dI) cy sz (vM cy a σ0))) (va_Qi (fun (z : Int32) (_ : Unit) => z = r0.1) (fun _ t => nOut (dC, dI) cy (va_A (vM cy a σ0) sz) (vM cy a r0.2) t) (va_A (vM cy a σ0) sz)) 0 0 (va_A (vM cy a σ0) sz) := (c_GE l dC dI cy a k0).2.2.2.2.2.2.2.2.2.2.2.1 320 L0 σ0 r0 h0 sz
def x_quantified (k b : Nat) (L : Nat → Int32) (σ : MS) : Option (Int32 × MS) := x_GE k 320 12 b L σ
theorem c_x_quantified (l : Launch) (dC : Nat → ClassId) (dI : Nat → Nat → Nat) (cy : Nat → ClassId) (a : Nat → Nat) (k0 : Nat) (L0 : Nat → Int32) (σ0 : MS) (r0 : Int32 × MS) (h0 : x_quantified k0 0 L0 σ0 = some r0) (sz : Nat) : Met l yX12_quantified w_x_quantified ({ frames := 325, cells := 0, slots := 0, locals := 10033 }) (va_Pc [.ref (a 0), .int (L0 1)] (nIn (dC, dI) cy sz (vM cy a σ0))) (va_Qi (fun (z : Int32) (_ : Unit) => z = r0.1) (fun _ t => nOut (dC, dI) cy (va_A (vM cy a σ0) sz) (vM cy a r0.2) t) (va_A (vM cy a σ0) sz)) 0 0 (va_A (vM cy a σ0) sz) := (c_GE l dC dI cy a k0).2.2.2.2.2.2.2.2.2.2.2.2.1 320 L0 σ0 r0 h0 sz
def x_relation (k b : Nat) (L : Nat → Int32) (σ : MS) : Option (Int32 × MS) := x_GE k 320 13 b L σ
theorem c_x_relation (l : Launch) (dC : Nat → ClassId) (dI : Nat → Nat → Nat) (cy : Nat → ClassId) (a : Nat → Nat) (k0 : Nat) (L0 : Nat → Int32) (σ0 : MS) (r0 : Int32 × MS) (h0 : x_relation k0 0 L0 σ0 = some r0) (sz : Nat) : Met l yX12_relation w_x_relation ({ frames := 325, cells := 0, slots := 0, locals := 10033 }) (va_Pc [.ref (a 0)] (nIn (dC, dI) cy sz (vM cy a σ0))) (va_Qi (fun (z : Int32) (_ : Unit) => z = r0.1) (fun _ t => nOut (dC, dI) cy (va_A (vM cy a σ0) sz) (vM cy a r0.2) t) (va_A (vM cy a σ0) sz)) 0 0 (va_A (vM cy a σ0) sz) := (c_GE l dC dI cy a k0).2.2.2.2.2.2.2.2.2.2.2.2.2.1 320 L0 σ0 r0 h0 sz
def x_sum (k b : Nat) (L : Nat → Int32) (σ : MS) : Option (Int32 × MS) := x_GE k 320 14 b L σ
theorem c_x_sum (l : Launch) (dC : Nat → ClassId) (dI : Nat → Nat → Nat) (cy : Nat → ClassId) (a : Nat → Nat) (k0 : Nat) (L0 : Nat → Int32) (σ0 : MS) (r0 : Int32 × MS) (h0 : x_sum k0 0 L0 σ0 = some r0) (sz : Nat) : Met l yX12_sum w_x_sum ({ frames := 325, cells := 0, slots := 0, locals := 10033 }) (va_Pc [.ref (a 0)] (nIn (dC, dI) cy sz (vM cy a σ0))) (va_Qi (fun (z : Int32) (_ : Unit) => z = r0.1) (fun _ t => nOut (dC, dI) cy (va_A (vM cy a σ0) sz) (vM cy a r0.2) t) (va_A (vM cy a σ0) sz)) 0 0 (va_A (vM cy a σ0) sz) := (c_GE l dC dI cy a k0).2.2.2.2.2.2.2.2.2.2.2.2.2.2.1 320 L0 σ0 r0 h0 sz
def x_term (k b : Nat) (L : Nat → Int32) (σ : MS) : Option (Int32 × MS) := x_GE k 320 15 b L σ
theorem c_x_term (l : Launch) (dC : Nat → ClassId) (dI : Nat → Nat → Nat) (cy : Nat → ClassId) (a : Nat → Nat) (k0 : Nat) (L0 : Nat → Int32) (σ0 : MS) (r0 : Int32 × MS) (h0 : x_term k0 0 L0 σ0 = some r0) (sz : Nat) : Met l yX12_term w_x_term ({ frames := 325, cells := 0, slots := 0, locals := 10033 }) (va_Pc [.ref (a 0)] (nIn (dC, dI) cy sz (vM cy a σ0))) (va_Qi (fun (z : Int32) (_ : Unit) => z = r0.1) (fun _ t => nOut (dC, dI) cy (va_A (vM cy a σ0) sz) (vM cy a r0.2) t) (va_A (vM cy a σ0) sz)) 0 0 (va_A (vM cy a σ0) sz) := (c_GE l dC dI cy a k0).2.2.2.2.2.2.2.2.2.2.2.2.2.2.2.1 320 L0 σ0 r0 h0 sz
def x_wordly (k b : Nat) (L : Nat → Int32) (σ : MS) : Option (Int32 × MS) := x_GE k 320 16 b L σ
theorem c_x_wordly (l : Launch) (dC : Nat → ClassId) (dI : Nat → Nat → Nat) (cy : Nat → ClassId) (a : Nat → Nat) (k0 : Nat) (L0 : Nat → Int32) (σ0 : MS) (r0 : Int32 × MS) (h0 : x_wordly k0 0 L0 σ0 = some r0) (sz : Nat) : Met l yX12_wordly w_x_wordly ({ frames := 325, cells := 0, slots := 0, locals := 10033 }) (va_Pc [.ref (a 0)] (nIn (dC, dI) cy sz (vM cy a σ0))) (va_Qi (fun (z : Int32) (_ : Unit) => z = r0.1) (fun _ t => nOut (dC, dI) cy (va_A (vM cy a σ0) sz) (vM cy a r0.2) t) (va_A (vM cy a σ0) sz)) 0 0 (va_A (vM cy a σ0) sz) := (c_GE l dC dI cy a k0).2.2.2.2.2.2.2.2.2.2.2.2.2.2.2.2 320 L0 σ0 r0 h0 sz
/-! isBlockEnd -/
def x_isBlockEnd : Nat → Nat → (Nat → Int32) → MS → Option (Int32 × MS)
  | 0, _, _, _ => none
  | k + 1, 0, L, σ => if ((σ.1 6)) = 0 then (x_isBlockEnd k 1 L σ) else (ob (x_isWord k 0 (upd (fun _ => 0) 1 6) σ) (fun r2 => if r2.1 = 0 then (ob (x_isWord k 0 (upd (fun _ => 0) 1 9) r2.2) (fun r4 => if r4.1 = 0 then (ob (x_isWord k 0 (upd (fun _ => 0) 1 10) r4.2) (fun r6 => if r6.1 = 0 then (x_isBlockEnd k 2 L r6.2) else (x_isBlockEnd k 1 L r6.2))) else (x_isBlockEnd k 1 L r4.2))) else (x_isBlockEnd k 1 L r2.2)))
  | k + 1, 1, L, σ => x_isBlockEnd k 3 (upd L 100 1) σ
  | k + 1, 2, L, σ => x_isBlockEnd k 3 (upd L 100 0) σ
  | k + 1, 3, L, σ => if ((L 100)) = 0 ∨ ((L 100)) = 1 then some ((L 100), σ) else none
  | _ + 1, _ + 4, _, _ => none
def o_x_isBlockEnd : List Cond := [.fieldLink RX12 35 "SetHouseModel" "tKind" "I", .methodLink RX12 74 yX12_isWord, .instanceMethod yX12_isWord, .selects RX12 yX12_isWord yX12_isWord, .initialized RX12]
theorem o_x_isBlockEnd_good : o_x_isBlockEnd.all goodWord = true := by decide +kernel
def p_x_isBlockEnd : List Cond := o_x_isBlockEnd ++ ((.code yX12_isWord cX12_isWord 2 (some .boolean) :: p_x_isWord) ++ [])
theorem p_x_isBlockEnd_good : p_x_isBlockEnd.all goodWord = true := nb_all2 o_x_isBlockEnd_good (nb_all2 (nb_allc (by decide +kernel) p_x_isWord_good) rfl)
def w_x_isBlockEnd : List Cond := .code yX12_isBlockEnd cX12_isBlockEnd 1 (some .boolean) :: (p_x_isBlockEnd ++ fM)
theorem w_x_isBlockEnd_good : w_x_isBlockEnd.all goodWord = true := nb_allc (by decide +kernel) (nb_all2 p_x_isBlockEnd_good fM_good)
theorem in_x_isBlockEnd : ∀ w ∈ wsX120, w ∈ w_x_isBlockEnd := fun _ h => List.mem_cons_of_mem _ (List.mem_append_right _ h)
theorem hd_x_isBlockEnd : yX12_isBlockEnd.cls = RX12 ∧ yX12_isBlockEnd.cls ≠ "java/lang/invoke/MethodHandle" ∧ yX12_isBlockEnd.cls ≠ "java/lang/invoke/VarHandle" ∧ (parseMethodDescriptor yX12_isBlockEnd.desc).map (fun d => d.parameters.length) = some 0 := by decide +kernel
theorem gg_x_isBlockEnd_isWord : GoodIn w_x_isBlockEnd w_x_isWord := goodIn_sub (fun w h => (List.mem_cons.mp h).elim (fun e => (List.mem_cons_of_mem _ (List.mem_append_left _ (List.mem_append_right _ (List.mem_append_left _ (List.mem_cons.mpr (Or.inl e))))))) (fun h => (List.mem_append.mp h).elim (fun h => (List.mem_cons_of_mem _ (List.mem_append_left _ (List.mem_append_right _ (List.mem_append_left _ (List.mem_cons_of_mem _ h)))))) (fun h => List.mem_cons_of_mem _ (List.mem_append_right _ h)))) w_x_isWord_good
theorem g_x_isBlockEnd_isWord_74 : GoodIn w_x_isBlockEnd (wsV RX12 74 RX12 yX12_isWord w_x_isWord) := goodIn_app (nb_g4 (List.mem_cons_of_mem _ (List.mem_append_left _ (List.mem_append_left _ (List.mem_of_getElem? (i := 1) rfl)))) (List.mem_cons_of_mem _ (List.mem_append_left _ (List.mem_append_left _ (List.mem_of_getElem? (i := 2) rfl)))) (List.mem_cons_of_mem _ (List.mem_append_left _ (List.mem_append_left _ (List.mem_of_getElem? (i := 3) rfl)))) (List.mem_cons_of_mem _ (List.mem_append_left _ (List.mem_append_left _ (List.mem_of_getElem? (i := 4) rfl)))) (by decide +kernel)) gg_x_isBlockEnd_isWord
set_option maxHeartbeats 40000000 in
set_option maxRecDepth 100000 in
theorem c_x_isBlockEnd (l : Launch) (dC : Nat → ClassId) (dI : Nat → Nat → Nat) (cy : Nat → ClassId) (a : Nat → Nat) (k0 : Nat) (L0 : Nat → Int32) (σ0 : MS) (r0 : Int32 × MS) (h0 : x_isBlockEnd k0 0 L0 σ0 = some r0) (sz : Nat) : Met l yX12_isBlockEnd w_x_isBlockEnd ({ frames := 1, cells := 0, slots := 0, locals := 21 }) (va_Pc [.ref (a 0)] (nIn (dC, dI) cy sz (vM cy a σ0))) (va_Qi (fun (z : Int32) (_ : Unit) => z = r0.1) (fun _ t => nOut (dC, dI) cy (va_A (vM cy a σ0) sz) (vM cy a r0.2) t) (va_A (vM cy a σ0) sz)) 0 0 (va_A (vM cy a σ0) sz) := by
  refine Met.ofW (cc := cX12_isBlockEnd) (maxL := 1) (ret := (some .boolean)) (by decide) rfl ?_
  intro p e s m args below meth c s₁ B hml hv
  obtain ⟨rfl, hsz, hP, hK, hD0, hG⟩ := hv
  have hx := B.exec
  have hb := B.bytes
  have hr := B.returns
  have hts := atoms_spec (ws := w_x_isBlockEnd) B.pre
  have hown : s.vm.findClass RX12 = some m.cls := findClass_of_methodNamed B.named
  have hlocks := B.notSynchronized
  subst hsz
  have hD := hD0.self (sz := s.heap.size)
  generalize hAe : va_A (vM cy a σ0) s.heap.size = A at hD ⊢
  have hA : ∀ q : Nat, s.heap.size ≤ q → A q := fun q h => by rw [← hAe]; exact Or.inr h
  have hS : va_S A s.heap s.heap [] := va_S.rf
  have hl := lv_entry ([.ref (a 0)]) (n := 1) (Nat.le_of_ble_eq_true rfl)
  rw [lg_entry_eq]
  generalize (lg_sl ([.ref (a 0)]) ++ List.replicate (1 - (lg_sl ([.ref (a 0)])).length) Slot.unset).toArray = ls at hl ⊢
  have hl : lv_has ls 1 [(0, .ref (a 0))] := hl
  have blk : ∀ k : Nat, (bT p l e (headSpec w_x_isBlockEnd ({ frames := 1, cells := 0, slots := 0, locals := 21 })).room s m #[.ref (a 0)] below meth c dC dI cy a A (qI dC dI cy a A below #[.ref (a 0)] s) 1 (x_isBlockEnd k 0) (fun L => [(0, .ref (a 0))]) 0 (fun L => [])) ∧ (bT p l e (headSpec w_x_isBlockEnd ({ frames := 1, cells := 0, slots := 0, locals := 21 })).room s m #[.ref (a 0)] below meth c dC dI cy a A (qI dC dI cy a A below #[.ref (a 0)] s) 1 (x_isBlockEnd k 1) (fun L => [(0, .ref (a 0))]) 34 (fun L => [])) ∧ (bT p l e (headSpec w_x_isBlockEnd ({ frames := 1, cells := 0, slots := 0, locals := 21 })).room s m #[.ref (a 0)] below meth c dC dI cy a A (qI dC dI cy a A below #[.ref (a 0)] s) 1 (x_isBlockEnd k 2) (fun L => [(0, .ref (a 0))]) 38 (fun L => [])) ∧ (bT p l e (headSpec w_x_isBlockEnd ({ frames := 1, cells := 0, slots := 0, locals := 21 })).room s m #[.ref (a 0)] below meth c dC dI cy a A (qI dC dI cy a A below #[.ref (a 0)] s) 1 (x_isBlockEnd k 3) (fun L => [(0, .ref (a 0))]) 39 (fun L => [.int (L 100)])) := by
    intro k
    induction k with
    | zero => exact ⟨fun L σ r h => (by cases h), fun L σ r h => (by cases h), fun L σ r h => (by cases h), fun L σ r h => (by cases h)⟩
    | succ k ih =>
      refine ⟨?_, ?_, ?_, ?_⟩
      · intro L σ r h H locs ls hP hD hS hl
        rw [x_isBlockEnd] at h
        refine lv_aload_n hx hb dX12_isBlockEnd_0 rfl (lv_at hl 0 rfl) ?_
        refine ng_6 hx hb hts in_x_isBlockEnd hown hK hP (hts _ (List.mem_cons_of_mem _ (List.mem_append_left _ (List.mem_append_left _ (List.mem_of_getElem? (i := 0) rfl))))) dX12_isBlockEnd_1 ?_
        refine lv_if_eq (tgt := 34) hx hb dX12_isBlockEnd_4 (by decide) (fun c1 => ?_) (fun c1 => ?_)
        · rw [if_pos c1] at h
          exact ih.2.1 L σ r h H locs ls hP hD hS (lv_sub hl [0] rfl)
        · rw [if_neg c1] at h
          refine lv_aload_n hx hb dX12_isBlockEnd_7 rfl (lv_at hl 0 rfl) ?_
          refine lv_bipush (v := 6) hx hb dX12_isBlockEnd_8 (by decide) ?_
          obtain ⟨r2, hc2, h⟩ := ob_ex h
          refine nc_Vi (As := [.int 6]) (rest := []) ⟨hx, hb, hml, hown, hts⟩ (c_x_isWord l dC dI cy a k (upd (fun _ => 0) 1 6) σ r2 hc2 H.size) (cwV 1 hts g_x_isBlockEnd_isWord_74 rfl rfl rfl hd_x_isWord ⟨Nat.le_of_ble_eq_true rfl, Nat.le_of_ble_eq_true rfl⟩) hK hG hA hP hD hS rfl hl.1 rfl (Nat.le_of_ble_eq_true rfl) dX12_isBlockEnd_10 ⟨Nat.le_refl _, Nat.le_refl _⟩ (fun H locs hP hD hS => ?_)
          refine lv_if_ne (tgt := 34) hx hb dX12_isBlockEnd_13 (by decide) (fun c3 => ?_) (fun c3 => ?_)
          · rw [if_neg c3] at h
            exact ih.2.1 L r2.2 r h H locs ls hP hD hS (lv_sub hl [0] rfl)
          · rw [if_pos c3] at h
            refine lv_aload_n hx hb dX12_isBlockEnd_16 rfl (lv_at hl 0 rfl) ?_
            refine lv_bipush (v := 9) hx hb dX12_isBlockEnd_17 (by decide) ?_
            obtain ⟨r4, hc4, h⟩ := ob_ex h
            refine nc_Vi (As := [.int 9]) (rest := []) ⟨hx, hb, hml, hown, hts⟩ (c_x_isWord l dC dI cy a k (upd (fun _ => 0) 1 9) r2.2 r4 hc4 H.size) (cwV 1 hts g_x_isBlockEnd_isWord_74 rfl rfl rfl hd_x_isWord ⟨Nat.le_of_ble_eq_true rfl, Nat.le_of_ble_eq_true rfl⟩) hK hG hA hP hD hS rfl hl.1 rfl (Nat.le_of_ble_eq_true rfl) dX12_isBlockEnd_19 ⟨Nat.le_refl _, Nat.le_refl _⟩ (fun H locs hP hD hS => ?_)
            refine lv_if_ne (tgt := 34) hx hb dX12_isBlockEnd_22 (by decide) (fun c5 => ?_) (fun c5 => ?_)
            · rw [if_neg c5] at h
              exact ih.2.1 L r4.2 r h H locs ls hP hD hS (lv_sub hl [0] rfl)
            · rw [if_pos c5] at h
              refine lv_aload_n hx hb dX12_isBlockEnd_25 rfl (lv_at hl 0 rfl) ?_
              refine lv_bipush (v := 10) hx hb dX12_isBlockEnd_26 (by decide) ?_
              obtain ⟨r6, hc6, h⟩ := ob_ex h
              refine nc_Vi (As := [.int 10]) (rest := []) ⟨hx, hb, hml, hown, hts⟩ (c_x_isWord l dC dI cy a k (upd (fun _ => 0) 1 10) r4.2 r6 hc6 H.size) (cwV 1 hts g_x_isBlockEnd_isWord_74 rfl rfl rfl hd_x_isWord ⟨Nat.le_of_ble_eq_true rfl, Nat.le_of_ble_eq_true rfl⟩) hK hG hA hP hD hS rfl hl.1 rfl (Nat.le_of_ble_eq_true rfl) dX12_isBlockEnd_28 ⟨Nat.le_refl _, Nat.le_refl _⟩ (fun H locs hP hD hS => ?_)
              refine lv_if_eq (tgt := 38) hx hb dX12_isBlockEnd_31 (by decide) (fun c7 => ?_) (fun c7 => ?_)
              · rw [if_pos c7] at h
                exact ih.2.2.1 L r6.2 r h H locs ls hP hD hS (lv_sub hl [0] rfl)
              · rw [if_neg c7] at h
                exact ih.2.1 L r6.2 r h H locs ls hP hD hS (lv_sub hl [0] rfl)
      · intro L σ r h H locs ls hP hD hS hl
        rw [x_isBlockEnd] at h
        refine lv_iconst (v := 1) hx hb dX12_isBlockEnd_34 (by decide) ?_
        refine lv_goto (tgt := 39) hx hb dX12_isBlockEnd_35 (by decide) ?_
        exact ih.2.2.2 (upd L 100 1) σ r h H locs ls hP hD hS (lv_sub hl [0] rfl)
      · intro L σ r h H locs ls hP hD hS hl
        rw [x_isBlockEnd] at h
        refine lv_iconst (v := 0) hx hb dX12_isBlockEnd_38 (by decide) ?_
        exact ih.2.2.2 (upd L 100 0) σ r h H locs ls hP hD hS (lv_sub hl [0] rfl)
      · intro L σ r h H locs ls hP hD hS hl
        rw [x_isBlockEnd] at h
        obtain ⟨q1, h⟩ := nb_ite1 h
        cases h
        exact W.zret (v := (L 100)) hx hb hr (nb_bz q1) (fun t ht hW => ⟨⟨(L 100), (), rfl, rfl, by rw [ht]; exact hP, va_K.moved hW.alike hK, hD⟩, hS.F ht⟩) hS.2.2 dX12_isBlockEnd_39
  exact (blk k0).1 L0 σ0 r0 h0 s.heap [] ls hP hD hS hl
/-! isTarget -/
def x_isTarget : Nat → Nat → (Nat → Int32) → MS → Option (Int32 × MS)
  | 0, _, _, _ => none
  | k + 1, 0, L, σ => x_isTarget k 1 (upd L 2 ((L 1))) σ
  | k + 1, 1, L, σ => if ¬ (((L 2)) < 0 ∨ 70000 ≤ ((L 2)).toNatClampNeg) then (if ((σ.2.2 4 ((L 2)).toNatClampNeg)) = 21 then (x_isTarget k 2 L σ) else (if ¬ (((L 2)) < 0 ∨ 70000 ≤ ((L 2)).toNatClampNeg) then (if ((σ.2.2 4 ((L 2)).toNatClampNeg)) = 22 then (x_isTarget k 2 L σ) else (if ¬ (((L 2)) < 0 ∨ 70000 ≤ ((L 2)).toNatClampNeg) then (if ((σ.2.2 4 ((L 2)).toNatClampNeg)) = 23 then (x_isTarget k 2 L σ) else (x_isTarget k 3 L σ)) else none)) else none)) else none
  | k + 1, 2, L, σ => if ¬ (((L 2)) < 0 ∨ 70000 ≤ ((L 2)).toNatClampNeg) then (x_isTarget k 1 (upd L 2 ((σ.2.2 6 ((L 2)).toNatClampNeg))) σ) else none
  | k + 1, 3, L, σ => if ¬ (((L 2)) < 0 ∨ 70000 ≤ ((L 2)).toNatClampNeg) then (if ((σ.2.2 4 ((L 2)).toNatClampNeg)) = 7 then (x_isTarget k 5 (upd L 100 1) σ) else (x_isTarget k 4 L σ)) else none
  | k + 1, 4, L, σ => x_isTarget k 5 (upd L 100 0) σ
  | k + 1, 5, L, σ => if ((L 100)) = 0 ∨ ((L 100)) = 1 then some ((L 100), σ) else none
  | _ + 1, _ + 6, _, _ => none
def o_x_isTarget : List Cond := [.fieldLink RX12 83 "SetHouseModel" "op" "[I", .fieldLink RX12 89 "SetHouseModel" "x2" "[I"]
theorem o_x_isTarget_good : o_x_isTarget.all goodWord = true := by decide +kernel
def p_x_isTarget : List Cond := o_x_isTarget ++ []
theorem p_x_isTarget_good : p_x_isTarget.all goodWord = true := nb_all2 o_x_isTarget_good rfl
def w_x_isTarget : List Cond := .code yX12_isTarget cX12_isTarget 3 (some .boolean) :: (p_x_isTarget ++ fM)
theorem w_x_isTarget_good : w_x_isTarget.all goodWord = true := nb_allc (by decide +kernel) (nb_all2 p_x_isTarget_good fM_good)
theorem in_x_isTarget : ∀ w ∈ wsX120, w ∈ w_x_isTarget := fun _ h => List.mem_cons_of_mem _ (List.mem_append_right _ h)
theorem hd_x_isTarget : yX12_isTarget.cls = RX12 ∧ yX12_isTarget.cls ≠ "java/lang/invoke/MethodHandle" ∧ yX12_isTarget.cls ≠ "java/lang/invoke/VarHandle" ∧ (parseMethodDescriptor yX12_isTarget.desc).map (fun d => d.parameters.length) = some 1 := by decide +kernel
set_option maxHeartbeats 40000000 in
set_option maxRecDepth 100000 in
theorem c_x_isTarget (l : Launch) (dC : Nat → ClassId) (dI : Nat → Nat → Nat) (cy : Nat → ClassId) (a : Nat → Nat) (k0 : Nat) (L0 : Nat → Int32) (σ0 : MS) (r0 : Int32 × MS) (h0 : x_isTarget k0 0 L0 σ0 = some r0) (sz : Nat) : Met l yX12_isTarget w_x_isTarget ({ frames := 0, cells := 0, slots := 0, locals := 0 }) (va_Pc [.ref (a 0), .int (L0 1)] (nIn (dC, dI) cy sz (vM cy a σ0))) (va_Qi (fun (z : Int32) (_ : Unit) => z = r0.1) (fun _ t => nOut (dC, dI) cy (va_A (vM cy a σ0) sz) (vM cy a r0.2) t) (va_A (vM cy a σ0) sz)) 0 0 (va_A (vM cy a σ0) sz) := by
  refine Met.ofW (cc := cX12_isTarget) (maxL := 3) (ret := (some .boolean)) (by decide) rfl ?_
  intro p e s m args below meth c s₁ B hml hv
  obtain ⟨rfl, hsz, hP, hK, hD0, hG⟩ := hv
  have hx := B.exec
  have hb := B.bytes
  have hr := B.returns
  have hts := atoms_spec (ws := w_x_isTarget) B.pre
  have hown : s.vm.findClass RX12 = some m.cls := findClass_of_methodNamed B.named
  have hlocks := B.notSynchronized
  subst hsz
  have hD := hD0.self (sz := s.heap.size)
  generalize hAe : va_A (vM cy a σ0) s.heap.size = A at hD ⊢
  have hA : ∀ q : Nat, s.heap.size ≤ q → A q := fun q h => by rw [← hAe]; exact Or.inr h
  have hS : va_S A s.heap s.heap [] := va_S.rf
  have hl := lv_entry ([.ref (a 0), .int (L0 1)]) (n := 3) (Nat.le_of_ble_eq_true rfl)
  rw [lg_entry_eq]
  generalize (lg_sl ([.ref (a 0), .int (L0 1)]) ++ List.replicate (3 - (lg_sl ([.ref (a 0), .int (L0 1)])).length) Slot.unset).toArray = ls at hl ⊢
  have hl : lv_has ls 3 [(0, .ref (a 0)), (1, .int (L0 1))] := hl
  have blk : ∀ k : Nat, (bT p l e (headSpec w_x_isTarget ({ frames := 0, cells := 0, slots := 0, locals := 0 })).room s m #[.ref (a 0), .int (L0 1)] below meth c dC dI cy a A (qI dC dI cy a A below #[.ref (a 0), .int (L0 1)] s) 3 (x_isTarget k 0) (fun L => [(0, .ref (a 0)), (1, .int (L 1))]) 0 (fun L => [])) ∧ (bT p l e (headSpec w_x_isTarget ({ frames := 0, cells := 0, slots := 0, locals := 0 })).room s m #[.ref (a 0), .int (L0 1)] below meth c dC dI cy a A (qI dC dI cy a A below #[.ref (a 0), .int (L0 1)] s) 3 (x_isTarget k 1) (fun L => [(0, .ref (a 0)), (1, .int (L 1)), (2, .int (L 2))]) 2 (fun L => [])) ∧ (bT p l e (headSpec w_x_isTarget ({ frames := 0, cells := 0, slots := 0, locals := 0 })).room s m #[.ref (a 0), .int (L0 1)] below meth c dC dI cy a A (qI dC dI cy a A below #[.ref (a 0), .int (L0 1)] s) 3 (x_isTarget k 2) (fun L => [(0, .ref (a 0)), (1, .int (L 1)), (2, .int (L 2))]) 35 (fun L => [])) ∧ (bT p l e (headSpec w_x_isTarget ({ frames := 0, cells := 0, slots := 0, locals := 0 })).room s m #[.ref (a 0), .int (L0 1)] below meth c dC dI cy a A (qI dC dI cy a A below #[.ref (a 0), .int (L0 1)] s) 3 (x_isTarget k 3) (fun L => [(0, .ref (a 0)), (1, .int (L 1)), (2, .int (L 2))]) 45 (fun L => [])) ∧ (bT p l e (headSpec w_x_isTarget ({ frames := 0, cells := 0, slots := 0, locals := 0 })).room s m #[.ref (a 0), .int (L0 1)] below meth c dC dI cy a A (qI dC dI cy a A below #[.ref (a 0), .int (L0 1)] s) 3 (x_isTarget k 4) (fun L => [(0, .ref (a 0)), (1, .int (L 1)), (2, .int (L 2))]) 60 (fun L => [])) ∧ (bT p l e (headSpec w_x_isTarget ({ frames := 0, cells := 0, slots := 0, locals := 0 })).room s m #[.ref (a 0), .int (L0 1)] below meth c dC dI cy a A (qI dC dI cy a A below #[.ref (a 0), .int (L0 1)] s) 3 (x_isTarget k 5) (fun L => [(0, .ref (a 0)), (1, .int (L 1)), (2, .int (L 2))]) 61 (fun L => [.int (L 100)])) := by
    intro k
    induction k with
    | zero => exact ⟨fun L σ r h => (by cases h), fun L σ r h => (by cases h), fun L σ r h => (by cases h), fun L σ r h => (by cases h), fun L σ r h => (by cases h), fun L σ r h => (by cases h)⟩
    | succ k ih =>
      refine ⟨?_, ?_, ?_, ?_, ?_, ?_⟩
      · intro L σ r h H locs ls hP hD hS hl
        rw [x_isTarget] at h
        refine lv_iload_n hx hb dX12_isTarget_0 rfl (lv_at hl 1 rfl) ?_
        refine lv_istore_n (lv' := [(2, .int (L 1)), (0, .ref (a 0)), (1, .int (L 1))]) hx hb dX12_isTarget_1 rfl hl (by decide) rfl (fun ls hl => ?_)
        exact ih.2.1 (upd L 2 ((L 1))) σ r h H locs ls hP hD hS (lv_sub hl [1, 2, 0] rfl)
      · intro L σ r h H locs ls hP hD hS hl
        rw [x_isTarget] at h
        refine lv_aload_n hx hb dX12_isTarget_2 rfl (lv_at hl 0 rfl) ?_
        refine ng_14 hx hb hts in_x_isTarget hown hK hP (hts _ (List.mem_cons_of_mem _ (List.mem_append_left _ (List.mem_append_left _ (List.mem_of_getElem? (i := 0) rfl))))) dX12_isTarget_3 ?_
        refine lv_iload_n hx hb dX12_isTarget_6 rfl (lv_at hl 2 rfl) ?_
        obtain ⟨q1, h⟩ := nb_ite1 h
        refine nl_4 hx hb hK hP q1 dX12_isTarget_7 ?_
        refine lv_bipush (v := 21) hx hb dX12_isTarget_8 (by decide) ?_
        refine lv_icmp_eq (tgt := 35) hx hb dX12_isTarget_10 (by decide) (fun c2 => ?_) (fun c2 => ?_)
        · rw [if_pos c2] at h
          exact ih.2.2.1 L σ r h H locs ls hP hD hS (lv_sub hl [0, 1, 2] rfl)
        · rw [if_neg c2] at h
          refine lv_aload_n hx hb dX12_isTarget_13 rfl (lv_at hl 0 rfl) ?_
          refine ng_14 hx hb hts in_x_isTarget hown hK hP (hts _ (List.mem_cons_of_mem _ (List.mem_append_left _ (List.mem_append_left _ (List.mem_of_getElem? (i := 0) rfl))))) dX12_isTarget_14 ?_
          refine lv_iload_n hx hb dX12_isTarget_17 rfl (lv_at hl 2 rfl) ?_
          obtain ⟨q3, h⟩ := nb_ite1 h
          refine nl_4 hx hb hK hP q3 dX12_isTarget_18 ?_
          refine lv_bipush (v := 22) hx hb dX12_isTarget_19 (by decide) ?_
          refine lv_icmp_eq (tgt := 35) hx hb dX12_isTarget_21 (by decide) (fun c4 => ?_) (fun c4 => ?_)
          · rw [if_pos c4] at h
            exact ih.2.2.1 L σ r h H locs ls hP hD hS (lv_sub hl [0, 1, 2] rfl)
          · rw [if_neg c4] at h
            refine lv_aload_n hx hb dX12_isTarget_24 rfl (lv_at hl 0 rfl) ?_
            refine ng_14 hx hb hts in_x_isTarget hown hK hP (hts _ (List.mem_cons_of_mem _ (List.mem_append_left _ (List.mem_append_left _ (List.mem_of_getElem? (i := 0) rfl))))) dX12_isTarget_25 ?_
            refine lv_iload_n hx hb dX12_isTarget_28 rfl (lv_at hl 2 rfl) ?_
            obtain ⟨q5, h⟩ := nb_ite1 h
            refine nl_4 hx hb hK hP q5 dX12_isTarget_29 ?_
            refine lv_bipush (v := 23) hx hb dX12_isTarget_30 (by decide) ?_
            refine lv_icmp_ne (tgt := 45) hx hb dX12_isTarget_32 (by decide) (fun c6 => ?_) (fun c6 => ?_)
            · rw [if_neg c6] at h
              exact ih.2.2.2.1 L σ r h H locs ls hP hD hS (lv_sub hl [0, 1, 2] rfl)
            · rw [if_pos c6] at h
              exact ih.2.2.1 L σ r h H locs ls hP hD hS (lv_sub hl [0, 1, 2] rfl)
      · intro L σ r h H locs ls hP hD hS hl
        rw [x_isTarget] at h
        refine lv_aload_n hx hb dX12_isTarget_35 rfl (lv_at hl 0 rfl) ?_
        refine ng_16 hx hb hts in_x_isTarget hown hK hP (hts _ (List.mem_cons_of_mem _ (List.mem_append_left _ (List.mem_append_left _ (List.mem_of_getElem? (i := 1) rfl))))) dX12_isTarget_36 ?_
        refine lv_iload_n hx hb dX12_isTarget_39 rfl (lv_at hl 2 rfl) ?_
        obtain ⟨q1, h⟩ := nb_ite1 h
        refine nl_6 hx hb hK hP q1 dX12_isTarget_40 ?_
        refine lv_istore_n (lv' := [(2, .int (σ.2.2 6 ((L 2)).toNatClampNeg)), (0, .ref (a 0)), (1, .int (L 1))]) hx hb dX12_isTarget_41 rfl hl (by decide) rfl (fun ls hl => ?_)
        refine lv_goto (tgt := 2) hx hb dX12_isTarget_42 (by decide) ?_
        exact ih.2.1 (upd L 2 ((σ.2.2 6 ((L 2)).toNatClampNeg))) σ r h H locs ls hP hD hS (lv_sub hl [1, 2, 0] rfl)
      · intro L σ r h H locs ls hP hD hS hl
        rw [x_isTarget] at h
        refine lv_aload_n hx hb dX12_isTarget_45 rfl (lv_at hl 0 rfl) ?_
        refine ng_14 hx hb hts in_x_isTarget hown hK hP (hts _ (List.mem_cons_of_mem _ (List.mem_append_left _ (List.mem_append_left _ (List.mem_of_getElem? (i := 0) rfl))))) dX12_isTarget_46 ?_
        refine lv_iload_n hx hb dX12_isTarget_49 rfl (lv_at hl 2 rfl) ?_
        obtain ⟨q1, h⟩ := nb_ite1 h
        refine nl_4 hx hb hK hP q1 dX12_isTarget_50 ?_
        refine lv_bipush (v := 7) hx hb dX12_isTarget_51 (by decide) ?_
        refine lv_icmp_ne (tgt := 60) hx hb dX12_isTarget_53 (by decide) (fun c2 => ?_) (fun c2 => ?_)
        · rw [if_neg c2] at h
          exact ih.2.2.2.2.1 L σ r h H locs ls hP hD hS (lv_sub hl [0, 1, 2] rfl)
        · rw [if_pos c2] at h
          refine lv_iconst (v := 1) hx hb dX12_isTarget_56 (by decide) ?_
          refine lv_goto (tgt := 61) hx hb dX12_isTarget_57 (by decide) ?_
          exact ih.2.2.2.2.2 (upd L 100 1) σ r h H locs ls hP hD hS (lv_sub hl [0, 1, 2] rfl)
      · intro L σ r h H locs ls hP hD hS hl
        rw [x_isTarget] at h
        refine lv_iconst (v := 0) hx hb dX12_isTarget_60 (by decide) ?_
        exact ih.2.2.2.2.2 (upd L 100 0) σ r h H locs ls hP hD hS (lv_sub hl [0, 1, 2] rfl)
      · intro L σ r h H locs ls hP hD hS hl
        rw [x_isTarget] at h
        obtain ⟨q1, h⟩ := nb_ite1 h
        cases h
        exact W.zret (v := (L 100)) hx hb hr (nb_bz q1) (fun t ht hW => ⟨⟨(L 100), (), rfl, rfl, by rw [ht]; exact hP, va_K.moved hW.alike hK, hD⟩, hS.F ht⟩) hS.2.2 dX12_isTarget_61
  exact (blk k0).1 L0 σ0 r0 h0 s.heap [] ls hP hD hS hl
/-! call -/
def x_call : Nat → Nat → (Nat → Int32) → MS → Option (Int32 × MS)
  | 0, _, _, _ => none
  | k + 1, 0, L, σ => ob (x_take k 0 (fun _ => 0) σ) (fun r1 => if ((r1.2.1 10)) = 0 then (ob (x_isSign k 0 (upd (fun _ => 0) 1 6) r1.2) (fun r3 => if r3.1 = 0 then (ob (x_fault k 0 (upd (upd (fun _ => 0) 1 5) 2 ((σ.1 8))) r3.2) (fun r5 => x_call k 1 (upd (upd L 2 ((σ.1 47))) 3 ((σ.1 8))) r5.2)) else (x_call k 1 (upd (upd L 2 ((σ.1 47))) 3 ((σ.1 8))) r3.2))) else (x_call k 1 (upd (upd L 2 ((σ.1 47))) 3 ((σ.1 8))) r1.2))
  | k + 1, 1, L, σ => if ((σ.1 10)) = 0 then (ob (x_open k 0 (fun _ => 0) σ) (fun r2 => x_call k 2 L r2.2)) else (x_call k 2 L σ)
  | k + 1, 2, L, σ => if ((σ.1 10)) = 0 then (ob (x_take k 0 (fun _ => 0) σ) (fun r2 => x_call k 3 L r2.2)) else (x_call k 3 L σ)
  | k + 1, 3, L, σ => x_call k 4 (upd (upd (upd L 4 ((-1))) 5 ((-1))) 6 0) σ
  | k + 1, 4, L, σ => if ((σ.1 10)) = 0 then (if 0 < ((L 6)) then (x_call k 5 L σ) else (ob (x_isSign k 0 (upd (fun _ => 0) 1 7) σ) (fun r3 => if r3.1 = 0 then (x_call k 5 L r3.2) else (x_call k 12 L r3.2)))) else (x_call k 12 L σ)
  | k + 1, 5, L, σ => if ((L 6)) = 0 then (x_call k 6 L σ) else (ob (x_isSign k 0 (upd (fun _ => 0) 1 12) σ) (fun r2 => if r2.1 = 0 then (x_call k 12 L r2.2) else (x_call k 6 L r2.2)))
  | k + 1, 6, L, σ => if ((L 6)) ≤ 0 then (x_call k 7 L σ) else (ob (x_take k 0 (fun _ => 0) σ) (fun r2 => x_call k 7 L r2.2))
  | k + 1, 7, L, σ => ob (x_exp k 0 (fun _ => 0) σ) (fun r1 => if ((r1.2.1 10)) = 0 then (if ¬ (((L 2)) < 0 ∨ 41 ≤ ((L 2)).toNatClampNeg) then (if ((r1.2.2.2 18 ((L 2)).toNatClampNeg)) ≤ ((L 6)) then (x_call k 8 (upd (upd L 7 ((σ.1 8))) 8 r1.1) r1.2) else (if ¬ (((((8 * ((L 2)))) + ((L 6)))) < 0 ∨ 328 ≤ ((((8 * ((L 2)))) + ((L 6)))).toNatClampNeg) then (if ((r1.2.2.2 19 ((((8 * ((L 2)))) + ((L 6)))).toNatClampNeg)) ≤ 0 then (x_call k 8 (upd (upd L 7 ((σ.1 8))) 8 r1.1) r1.2) else (ob (x_isTarget k 0 (upd (fun _ => 0) 1 r1.1) r1.2) (fun r7 => if r7.1 = 0 then (ob (x_fault k 0 (upd (upd (fun _ => 0) 1 6) 2 ((σ.1 8))) r7.2) (fun r9 => x_call k 8 (upd (upd L 7 ((σ.1 8))) 8 r1.1) r9.2)) else (x_call k 8 (upd (upd L 7 ((σ.1 8))) 8 r1.1) r7.2)))) else none)) else none) else (x_call k 8 (upd (upd L 7 ((σ.1 8))) 8 r1.1) r1.2))
  | k + 1, 8, L, σ => if ((L 6)) = 0 then (x_call k 10 (upd L 100 ((L 8))) σ) else (x_call k 9 L σ)
  | k + 1, 9, L, σ => x_call k 10 (upd L 100 ((L 4))) σ
  | k + 1, 10, L, σ => if ((L 6)) ≤ 0 then (x_call k 11 (upd L 4 ((L 100))) σ) else (if ¬ (((L 5)) < 0 ∨ 70000 ≤ ((L 5)).toNatClampNeg) then (x_call k 11 (upd L 4 ((L 100))) (σ.1, σ.2.1, updG σ.2.2 9 (upd (σ.2.2 9) ((L 5)).toNatClampNeg ((L 8))))) else none)
  | k + 1, 11, L, σ => x_call k 4 (upd (upd L 5 ((L 8))) 6 (((L 6)) + 1)) σ
  | k + 1, 12, L, σ => if ((σ.1 10)) = 0 then (ob (x_isSign k 0 (upd (fun _ => 0) 1 7) σ) (fun r2 => if r2.1 = 0 then (ob (x_cannot k 0 (fun _ => 0) r2.2) (fun r4 => x_call k 13 L r4.2)) else (x_call k 13 L r2.2))) else (x_call k 13 L σ)
  | k + 1, 13, L, σ => if ((σ.1 10)) = 0 then (if ¬ (((L 2)) < 0 ∨ 41 ≤ ((L 2)).toNatClampNeg) then (if ((L 6)) = ((σ.2.2 18 ((L 2)).toNatClampNeg)) then (x_call k 14 L σ) else (ob (x_fault k 0 (upd (upd (fun _ => 0) 1 6) 2 ((σ.1 8))) σ) (fun r4 => x_call k 14 L r4.2))) else none) else (x_call k 14 L σ)
  | k + 1, 14, L, σ => if ((σ.1 10)) = 0 then (ob (x_take k 0 (fun _ => 0) σ) (fun r2 => x_call k 15 L r2.2)) else (x_call k 15 L σ)
  | k + 1, 15, L, σ => x_call k 16 L (upd σ.1 13 ((((σ.1 13)) - 1)), σ.2.1, σ.2.2)
  | k + 1, 16, L, σ => ob (x_want k 0 (upd (fun _ => 0) 1 13) σ) (fun r1 => ob (x_node k 0 (upd (upd (upd (upd (fun _ => 0) 1 45) 2 ((L 1))) 3 ((L 4))) 4 ((L 2))) r1.2) (fun r2 => some (r2.1, r2.2)))
  | _ + 1, _ + 17, _, _ => none
def o_x_call : List Cond := [.fieldLink RX12 130 "SetHouseModel" "foundNumber" "I", .fieldLink RX12 32 "SetHouseModel" "tFrom" "I", .methodLink RX12 71 yX12_take, .instanceMethod yX12_take, .selects RX12 yX12_take yX12_take, .initialized RX12, .fieldLink RX12 11 "SetHouseModel" "bad" "Z", .methodLink RX12 65 yX12_isSign, .instanceMethod yX12_isSign, .selects RX12 yX12_isSign yX12_isSign, .methodLink RX12 58 yX12_fault, .instanceMethod yX12_fault, .selects RX12 yX12_fault yX12_fault, .methodLink RX12 177 yX12_open, .instanceMethod yX12_open, .selects RX12 yX12_open yX12_open, .methodLink RX12 209 yX12_exp, .instanceMethod yX12_exp, .selects RX12 yX12_exp yX12_exp, .fieldLink RX12 239 "SetHouseModel" "params" "[I", .fieldLink RX12 330 "SetHouseModel" "modes" "[I", .methodLink RX12 333 yX12_isTarget, .instanceMethod yX12_isTarget, .selects RX12 yX12_isTarget yX12_isTarget, .fieldLink RX12 98 "SetHouseModel" "next" "[I", .methodLink RX12 68 yX12_cannot, .instanceMethod yX12_cannot, .selects RX12 yX12_cannot yX12_cannot, .fieldLink RX12 77 "SetHouseModel" "opened" "I", .methodLink RX12 199 yX12_want, .instanceMethod yX12_want, .selects RX12 yX12_want yX12_want, .methodLink RX12 101 yX12_node, .instanceMethod yX12_node, .selects RX12 yX12_node yX12_node]
theorem o_x_call_good : o_x_call.all goodWord = true := by decide +kernel
def p_x_call : List Cond := o_x_call ++ ((.code yX12_take cX12_take 2 none :: p_x_take) ++ ((.code yX12_isSign cX12_isSign 2 (some .boolean) :: p_x_isSign) ++ ((.code yX12_fault cX12_fault 3 none :: p_x_fault) ++ ((.code yX12_open cX12_open 1 none :: p_x_open) ++ ((.code yX12_exp cX12_exp 2 (some .int) :: p_x_GE) ++ ((.code yX12_isTarget cX12_isTarget 3 (some .boolean) :: p_x_isTarget) ++ ((.code yX12_cannot cX12_cannot 1 none :: p_x_cannot) ++ ((.code yX12_want cX12_want 2 none :: p_x_want) ++ ((.code yX12_node cX12_node 6 (some .int) :: p_x_node) ++ [])))))))))
theorem p_x_call_good : p_x_call.all goodWord = true := nb_all2 o_x_call_good (nb_all2 (nb_allc (by decide +kernel) p_x_take_good) (nb_all2 (nb_allc (by decide +kernel) p_x_isSign_good) (nb_all2 (nb_allc (by decide +kernel) p_x_fault_good) (nb_all2 (nb_allc (by decide +kernel) p_x_open_good) (nb_all2 (nb_allc (by decide +kernel) p_x_GE_good) (nb_all2 (nb_allc (by decide +kernel) p_x_isTarget_good) (nb_all2 (nb_allc (by decide +kernel) p_x_cannot_good) (nb_all2 (nb_allc (by decide +kernel) p_x_want_good) (nb_all2 (nb_allc (by decide +kernel) p_x_node_good) rfl)))))))))
def w_x_call : List Cond := .code yX12_call cX12_call 9 (some .int) :: (p_x_call ++ fM)
theorem w_x_call_good : w_x_call.all goodWord = true := nb_allc (by decide +kernel) (nb_all2 p_x_call_good fM_good)
theorem in_x_call : ∀ w ∈ wsX120, w ∈ w_x_call := fun _ h => List.mem_cons_of_mem _ (List.mem_append_right _ h)
theorem hd_x_call : yX12_call.cls = RX12 ∧ yX12_call.cls ≠ "java/lang/invoke/MethodHandle" ∧ yX12_call.cls ≠ "java/lang/invoke/VarHandle" ∧ (parseMethodDescriptor yX12_call.desc).map (fun d => d.parameters.length) = some 1 := by decide +kernel
theorem gg_x_call_cannot : GoodIn w_x_call w_x_cannot := goodIn_sub (fun w h => (List.mem_cons.mp h).elim (fun e => (List.mem_cons_of_mem _ (List.mem_append_left _ (List.mem_append_right _ (List.mem_append_right _ (List.mem_append_right _ (List.mem_append_right _ (List.mem_append_right _ (List.mem_append_right _ (List.mem_append_right _ (List.mem_append_left _ (List.mem_cons.mpr (Or.inl e))))))))))))) (fun h => (List.mem_append.mp h).elim (fun h => (List.mem_cons_of_mem _ (List.mem_append_left _ (List.mem_append_right _ (List.mem_append_right _ (List.mem_append_right _ (List.mem_append_right _ (List.mem_append_right _ (List.mem_append_right _ (List.mem_append_right _ (List.mem_append_left _ (List.mem_cons_of_mem _ h)))))))))))) (fun h => List.mem_cons_of_mem _ (List.mem_append_right _ h)))) w_x_cannot_good
theorem g_x_call_cannot_68 : GoodIn w_x_call (wsV RX12 68 RX12 yX12_cannot w_x_cannot) := goodIn_app (nb_g4 (List.mem_cons_of_mem _ (List.mem_append_left _ (List.mem_append_left _ (List.mem_of_getElem? (i := 25) rfl)))) (List.mem_cons_of_mem _ (List.mem_append_left _ (List.mem_append_left _ (List.mem_of_getElem? (i := 26) rfl)))) (List.mem_cons_of_mem _ (List.mem_append_left _ (List.mem_append_left _ (List.mem_of_getElem? (i := 27) rfl)))) (List.mem_cons_of_mem _ (List.mem_append_left _ (List.mem_append_left _ (List.mem_of_getElem? (i := 5) rfl)))) (by decide +kernel)) gg_x_call_cannot
theorem gg_x_call_exp : GoodIn w_x_call w_x_exp := goodIn_sub (fun w h => (List.mem_cons.mp h).elim (fun e => (List.mem_cons_of_mem _ (List.mem_append_left _ (List.mem_append_right _ (List.mem_append_right _ (List.mem_append_right _ (List.mem_append_right _ (List.mem_append_right _ (List.mem_append_left _ (List.mem_cons.mpr (Or.inl e))))))))))) (fun h => (List.mem_append.mp h).elim (fun h => (List.mem_cons_of_mem _ (List.mem_append_left _ (List.mem_append_right _ (List.mem_append_right _ (List.mem_append_right _ (List.mem_append_right _ (List.mem_append_right _ (List.mem_append_left _ (List.mem_cons_of_mem _ h)))))))))) (fun h => List.mem_cons_of_mem _ (List.mem_append_right _ h)))) w_x_exp_good
theorem g_x_call_exp_209 : GoodIn w_x_call (wsV RX12 209 RX12 yX12_exp w_x_exp) := goodIn_app (nb_g4 (List.mem_cons_of_mem _ (List.mem_append_left _ (List.mem_append_left _ (List.mem_of_getElem? (i := 16) rfl)))) (List.mem_cons_of_mem _ (List.mem_append_left _ (List.mem_append_left _ (List.mem_of_getElem? (i := 17) rfl)))) (List.mem_cons_of_mem _ (List.mem_append_left _ (List.mem_append_left _ (List.mem_of_getElem? (i := 18) rfl)))) (List.mem_cons_of_mem _ (List.mem_append_left _ (List.mem_append_left _ (List.mem_of_getElem? (i := 5) rfl)))) (by decide +kernel)) gg_x_call_exp
theorem gg_x_call_fault : GoodIn w_x_call w_x_fault := goodIn_sub (fun w h => (List.mem_cons.mp h).elim (fun e => (List.mem_cons_of_mem _ (List.mem_append_left _ (List.mem_append_right _ (List.mem_append_right _ (List.mem_append_right _ (List.mem_append_left _ (List.mem_cons.mpr (Or.inl e))))))))) (fun h => (List.mem_append.mp h).elim (fun h => (List.mem_cons_of_mem _ (List.mem_append_left _ (List.mem_append_right _ (List.mem_append_right _ (List.mem_append_right _ (List.mem_append_left _ (List.mem_cons_of_mem _ h)))))))) (fun h => List.mem_cons_of_mem _ (List.mem_append_right _ h)))) w_x_fault_good
theorem g_x_call_fault_58 : GoodIn w_x_call (wsV RX12 58 RX12 yX12_fault w_x_fault) := goodIn_app (nb_g4 (List.mem_cons_of_mem _ (List.mem_append_left _ (List.mem_append_left _ (List.mem_of_getElem? (i := 10) rfl)))) (List.mem_cons_of_mem _ (List.mem_append_left _ (List.mem_append_left _ (List.mem_of_getElem? (i := 11) rfl)))) (List.mem_cons_of_mem _ (List.mem_append_left _ (List.mem_append_left _ (List.mem_of_getElem? (i := 12) rfl)))) (List.mem_cons_of_mem _ (List.mem_append_left _ (List.mem_append_left _ (List.mem_of_getElem? (i := 5) rfl)))) (by decide +kernel)) gg_x_call_fault
theorem gg_x_call_isSign : GoodIn w_x_call w_x_isSign := goodIn_sub (fun w h => (List.mem_cons.mp h).elim (fun e => (List.mem_cons_of_mem _ (List.mem_append_left _ (List.mem_append_right _ (List.mem_append_right _ (List.mem_append_left _ (List.mem_cons.mpr (Or.inl e)))))))) (fun h => (List.mem_append.mp h).elim (fun h => (List.mem_cons_of_mem _ (List.mem_append_left _ (List.mem_append_right _ (List.mem_append_right _ (List.mem_append_left _ (List.mem_cons_of_mem _ h))))))) (fun h => List.mem_cons_of_mem _ (List.mem_append_right _ h)))) w_x_isSign_good
theorem g_x_call_isSign_65 : GoodIn w_x_call (wsV RX12 65 RX12 yX12_isSign w_x_isSign) := goodIn_app (nb_g4 (List.mem_cons_of_mem _ (List.mem_append_left _ (List.mem_append_left _ (List.mem_of_getElem? (i := 7) rfl)))) (List.mem_cons_of_mem _ (List.mem_append_left _ (List.mem_append_left _ (List.mem_of_getElem? (i := 8) rfl)))) (List.mem_cons_of_mem _ (List.mem_append_left _ (List.mem_append_left _ (List.mem_of_getElem? (i := 9) rfl)))) (List.mem_cons_of_mem _ (List.mem_append_left _ (List.mem_append_left _ (List.mem_of_getElem? (i := 5) rfl)))) (by decide +kernel)) gg_x_call_isSign
theorem gg_x_call_isTarget : GoodIn w_x_call w_x_isTarget := goodIn_sub (fun w h => (List.mem_cons.mp h).elim (fun e => (List.mem_cons_of_mem _ (List.mem_append_left _ (List.mem_append_right _ (List.mem_append_right _ (List.mem_append_right _ (List.mem_append_right _ (List.mem_append_right _ (List.mem_append_right _ (List.mem_append_left _ (List.mem_cons.mpr (Or.inl e)))))))))))) (fun h => (List.mem_append.mp h).elim (fun h => (List.mem_cons_of_mem _ (List.mem_append_left _ (List.mem_append_right _ (List.mem_append_right _ (List.mem_append_right _ (List.mem_append_right _ (List.mem_append_right _ (List.mem_append_right _ (List.mem_append_left _ (List.mem_cons_of_mem _ h))))))))))) (fun h => List.mem_cons_of_mem _ (List.mem_append_right _ h)))) w_x_isTarget_good
theorem g_x_call_isTarget_333 : GoodIn w_x_call (wsV RX12 333 RX12 yX12_isTarget w_x_isTarget) := goodIn_app (nb_g4 (List.mem_cons_of_mem _ (List.mem_append_left _ (List.mem_append_left _ (List.mem_of_getElem? (i := 21) rfl)))) (List.mem_cons_of_mem _ (List.mem_append_left _ (List.mem_append_left _ (List.mem_of_getElem? (i := 22) rfl)))) (List.mem_cons_of_mem _ (List.mem_append_left _ (List.mem_append_left _ (List.mem_of_getElem? (i := 23) rfl)))) (List.mem_cons_of_mem _ (List.mem_append_left _ (List.mem_append_left _ (List.mem_of_getElem? (i := 5) rfl)))) (by decide +kernel)) gg_x_call_isTarget
theorem gg_x_call_node : GoodIn w_x_call w_x_node := goodIn_sub (fun w h => (List.mem_cons.mp h).elim (fun e => (List.mem_cons_of_mem _ (List.mem_append_left _ (List.mem_append_right _ (List.mem_append_right _ (List.mem_append_right _ (List.mem_append_right _ (List.mem_append_right _ (List.mem_append_right _ (List.mem_append_right _ (List.mem_append_right _ (List.mem_append_right _ (List.mem_append_left _ (List.mem_cons.mpr (Or.inl e))))))))))))))) (fun h => (List.mem_append.mp h).elim (fun h => (List.mem_cons_of_mem _ (List.mem_append_left _ (List.mem_append_right _ (List.mem_append_right _ (List.mem_append_right _ (List.mem_append_right _ (List.mem_append_right _ (List.mem_append_right _ (List.mem_append_right _ (List.mem_append_right _ (List.mem_append_right _ (List.mem_append_left _ (List.mem_cons_of_mem _ h)))))))))))))) (fun h => List.mem_cons_of_mem _ (List.mem_append_right _ h)))) w_x_node_good
theorem g_x_call_node_101 : GoodIn w_x_call (wsV RX12 101 RX12 yX12_node w_x_node) := goodIn_app (nb_g4 (List.mem_cons_of_mem _ (List.mem_append_left _ (List.mem_append_left _ (List.mem_of_getElem? (i := 32) rfl)))) (List.mem_cons_of_mem _ (List.mem_append_left _ (List.mem_append_left _ (List.mem_of_getElem? (i := 33) rfl)))) (List.mem_cons_of_mem _ (List.mem_append_left _ (List.mem_append_left _ (List.mem_of_getElem? (i := 34) rfl)))) (List.mem_cons_of_mem _ (List.mem_append_left _ (List.mem_append_left _ (List.mem_of_getElem? (i := 5) rfl)))) (by decide +kernel)) gg_x_call_node
theorem gg_x_call_open : GoodIn w_x_call w_x_open := goodIn_sub (fun w h => (List.mem_cons.mp h).elim (fun e => (List.mem_cons_of_mem _ (List.mem_append_left _ (List.mem_append_right _ (List.mem_append_right _ (List.mem_append_right _ (List.mem_append_right _ (List.mem_append_left _ (List.mem_cons.mpr (Or.inl e)))))))))) (fun h => (List.mem_append.mp h).elim (fun h => (List.mem_cons_of_mem _ (List.mem_append_left _ (List.mem_append_right _ (List.mem_append_right _ (List.mem_append_right _ (List.mem_append_right _ (List.mem_append_left _ (List.mem_cons_of_mem _ h))))))))) (fun h => List.mem_cons_of_mem _ (List.mem_append_right _ h)))) w_x_open_good
theorem g_x_call_open_177 : GoodIn w_x_call (wsV RX12 177 RX12 yX12_open w_x_open) := goodIn_app (nb_g4 (List.mem_cons_of_mem _ (List.mem_append_left _ (List.mem_append_left _ (List.mem_of_getElem? (i := 13) rfl)))) (List.mem_cons_of_mem _ (List.mem_append_left _ (List.mem_append_left _ (List.mem_of_getElem? (i := 14) rfl)))) (List.mem_cons_of_mem _ (List.mem_append_left _ (List.mem_append_left _ (List.mem_of_getElem? (i := 15) rfl)))) (List.mem_cons_of_mem _ (List.mem_append_left _ (List.mem_append_left _ (List.mem_of_getElem? (i := 5) rfl)))) (by decide +kernel)) gg_x_call_open
theorem gg_x_call_take : GoodIn w_x_call w_x_take := goodIn_sub (fun w h => (List.mem_cons.mp h).elim (fun e => (List.mem_cons_of_mem _ (List.mem_append_left _ (List.mem_append_right _ (List.mem_append_left _ (List.mem_cons.mpr (Or.inl e))))))) (fun h => (List.mem_append.mp h).elim (fun h => (List.mem_cons_of_mem _ (List.mem_append_left _ (List.mem_append_right _ (List.mem_append_left _ (List.mem_cons_of_mem _ h)))))) (fun h => List.mem_cons_of_mem _ (List.mem_append_right _ h)))) w_x_take_good
theorem g_x_call_take_71 : GoodIn w_x_call (wsV RX12 71 RX12 yX12_take w_x_take) := goodIn_app (nb_g4 (List.mem_cons_of_mem _ (List.mem_append_left _ (List.mem_append_left _ (List.mem_of_getElem? (i := 2) rfl)))) (List.mem_cons_of_mem _ (List.mem_append_left _ (List.mem_append_left _ (List.mem_of_getElem? (i := 3) rfl)))) (List.mem_cons_of_mem _ (List.mem_append_left _ (List.mem_append_left _ (List.mem_of_getElem? (i := 4) rfl)))) (List.mem_cons_of_mem _ (List.mem_append_left _ (List.mem_append_left _ (List.mem_of_getElem? (i := 5) rfl)))) (by decide +kernel)) gg_x_call_take
theorem gg_x_call_want : GoodIn w_x_call w_x_want := goodIn_sub (fun w h => (List.mem_cons.mp h).elim (fun e => (List.mem_cons_of_mem _ (List.mem_append_left _ (List.mem_append_right _ (List.mem_append_right _ (List.mem_append_right _ (List.mem_append_right _ (List.mem_append_right _ (List.mem_append_right _ (List.mem_append_right _ (List.mem_append_right _ (List.mem_append_left _ (List.mem_cons.mpr (Or.inl e)))))))))))))) (fun h => (List.mem_append.mp h).elim (fun h => (List.mem_cons_of_mem _ (List.mem_append_left _ (List.mem_append_right _ (List.mem_append_right _ (List.mem_append_right _ (List.mem_append_right _ (List.mem_append_right _ (List.mem_append_right _ (List.mem_append_right _ (List.mem_append_right _ (List.mem_append_left _ (List.mem_cons_of_mem _ h))))))))))))) (fun h => List.mem_cons_of_mem _ (List.mem_append_right _ h)))) w_x_want_good
theorem g_x_call_want_199 : GoodIn w_x_call (wsV RX12 199 RX12 yX12_want w_x_want) := goodIn_app (nb_g4 (List.mem_cons_of_mem _ (List.mem_append_left _ (List.mem_append_left _ (List.mem_of_getElem? (i := 29) rfl)))) (List.mem_cons_of_mem _ (List.mem_append_left _ (List.mem_append_left _ (List.mem_of_getElem? (i := 30) rfl)))) (List.mem_cons_of_mem _ (List.mem_append_left _ (List.mem_append_left _ (List.mem_of_getElem? (i := 31) rfl)))) (List.mem_cons_of_mem _ (List.mem_append_left _ (List.mem_append_left _ (List.mem_of_getElem? (i := 5) rfl)))) (by decide +kernel)) gg_x_call_want
set_option maxHeartbeats 40000000 in
set_option maxRecDepth 100000 in
theorem c_x_call (l : Launch) (dC : Nat → ClassId) (dI : Nat → Nat → Nat) (cy : Nat → ClassId) (a : Nat → Nat) (k0 : Nat) (L0 : Nat → Int32) (σ0 : MS) (r0 : Int32 × MS) (h0 : x_call k0 0 L0 σ0 = some r0) (sz : Nat) : Met l yX12_call w_x_call ({ frames := 326, cells := 0, slots := 0, locals := 10054 }) (va_Pc [.ref (a 0), .int (L0 1)] (nIn (dC, dI) cy sz (vM cy a σ0))) (va_Qi (fun (z : Int32) (_ : Unit) => z = r0.1) (fun _ t => nOut (dC, dI) cy (va_A (vM cy a σ0) sz) (vM cy a r0.2) t) (va_A (vM cy a σ0) sz)) 0 0 (va_A (vM cy a σ0) sz) := by
  refine Met.ofW (cc := cX12_call) (maxL := 9) (ret := (some .int)) (by decide) rfl ?_
  intro p e s m args below meth c s₁ B hml hv
  obtain ⟨rfl, hsz, hP, hK, hD0, hG⟩ := hv
  have hx := B.exec
  have hb := B.bytes
  have hr := B.returns
  have hts := atoms_spec (ws := w_x_call) B.pre
  have hown : s.vm.findClass RX12 = some m.cls := findClass_of_methodNamed B.named
  have hlocks := B.notSynchronized
  subst hsz
  have hD := hD0.self (sz := s.heap.size)
  generalize hAe : va_A (vM cy a σ0) s.heap.size = A at hD ⊢
  have hA : ∀ q : Nat, s.heap.size ≤ q → A q := fun q h => by rw [← hAe]; exact Or.inr h
  have hS : va_S A s.heap s.heap [] := va_S.rf
  have hl := lv_entry ([.ref (a 0), .int (L0 1)]) (n := 9) (Nat.le_of_ble_eq_true rfl)
  rw [lg_entry_eq]
  generalize (lg_sl ([.ref (a 0), .int (L0 1)]) ++ List.replicate (9 - (lg_sl ([.ref (a 0), .int (L0 1)])).length) Slot.unset).toArray = ls at hl ⊢
  have hl : lv_has ls 9 [(0, .ref (a 0)), (1, .int (L0 1))] := hl
  have blk : ∀ k : Nat, (bT p l e (headSpec w_x_call ({ frames := 326, cells := 0, slots := 0, locals := 10054 })).room s m #[.ref (a 0), .int (L0 1)] below meth c dC dI cy a A (qI dC dI cy a A below #[.ref (a 0), .int (L0 1)] s) 9 (x_call k 0) (fun L => [(0, .ref (a 0)), (1, .int (L 1))]) 0 (fun L => [])) ∧ (bT p l e (headSpec w_x_call ({ frames := 326, cells := 0, slots := 0, locals := 10054 })).room s m #[.ref (a 0), .int (L0 1)] below meth c dC dI cy a A (qI dC dI cy a A below #[.ref (a 0), .int (L0 1)] s) 9 (x_call k 1) (fun L => [(0, .ref (a 0)), (1, .int (L 1)), (2, .int (L 2)), (3, .int (L 3))]) 36 (fun L => [])) ∧ (bT p l e (headSpec w_x_call ({ frames := 326, cells := 0, slots := 0, locals := 10054 })).room s m #[.ref (a 0), .int (L0 1)] below meth c dC dI cy a A (qI dC dI cy a A below #[.ref (a 0), .int (L0 1)] s) 9 (x_call k 2) (fun L => [(0, .ref (a 0)), (1, .int (L 1)), (2, .int (L 2)), (3, .int (L 3))]) 47 (fun L => [])) ∧ (bT p l e (headSpec w_x_call ({ frames := 326, cells := 0, slots := 0, locals := 10054 })).room s m #[.ref (a 0), .int (L0 1)] below meth c dC dI cy a A (qI dC dI cy a A below #[.ref (a 0), .int (L0 1)] s) 9 (x_call k 3) (fun L => [(0, .ref (a 0)), (1, .int (L 1)), (2, .int (L 2)), (3, .int (L 3))]) 58 (fun L => [])) ∧ (bT p l e (headSpec w_x_call ({ frames := 326, cells := 0, slots := 0, locals := 10054 })).room s m #[.ref (a 0), .int (L0 1)] below meth c dC dI cy a A (qI dC dI cy a A below #[.ref (a 0), .int (L0 1)] s) 9 (x_call k 4) (fun L => [(0, .ref (a 0)), (1, .int (L 1)), (2, .int (L 2)), (3, .int (L 3)), (4, .int (L 4)), (5, .int (L 5)), (6, .int (L 6))]) 67 (fun L => [])) ∧ (bT p l e (headSpec w_x_call ({ frames := 326, cells := 0, slots := 0, locals := 10054 })).room s m #[.ref (a 0), .int (L0 1)] below meth c dC dI cy a A (qI dC dI cy a A below #[.ref (a 0), .int (L0 1)] s) 9 (x_call k 5) (fun L => [(0, .ref (a 0)), (1, .int (L 1)), (2, .int (L 2)), (3, .int (L 3)), (4, .int (L 4)), (5, .int (L 5)), (6, .int (L 6))]) 88 (fun L => [])) ∧ (bT p l e (headSpec w_x_call ({ frames := 326, cells := 0, slots := 0, locals := 10054 })).room s m #[.ref (a 0), .int (L0 1)] below meth c dC dI cy a A (qI dC dI cy a A below #[.ref (a 0), .int (L0 1)] s) 9 (x_call k 6) (fun L => [(0, .ref (a 0)), (1, .int (L 1)), (2, .int (L 2)), (3, .int (L 3)), (4, .int (L 4)), (5, .int (L 5)), (6, .int (L 6))]) 102 (fun L => [])) ∧ (bT p l e (headSpec w_x_call ({ frames := 326, cells := 0, slots := 0, locals := 10054 })).room s m #[.ref (a 0), .int (L0 1)] below meth c dC dI cy a A (qI dC dI cy a A below #[.ref (a 0), .int (L0 1)] s) 9 (x_call k 7) (fun L => [(0, .ref (a 0)), (1, .int (L 1)), (2, .int (L 2)), (3, .int (L 3)), (4, .int (L 4)), (5, .int (L 5)), (6, .int (L 6))]) 111 (fun L => [])) ∧ (bT p l e (headSpec w_x_call ({ frames := 326, cells := 0, slots := 0, locals := 10054 })).room s m #[.ref (a 0), .int (L0 1)] below meth c dC dI cy a A (qI dC dI cy a A below #[.ref (a 0), .int (L0 1)] s) 9 (x_call k 8) (fun L => [(0, .ref (a 0)), (1, .int (L 1)), (2, .int (L 2)), (3, .int (L 3)), (4, .int (L 4)), (5, .int (L 5)), (6, .int (L 6)), (7, .int (L 7)), (8, .int (L 8))]) 173 (fun L => [])) ∧ (bT p l e (headSpec w_x_call ({ frames := 326, cells := 0, slots := 0, locals := 10054 })).room s m #[.ref (a 0), .int (L0 1)] below meth c dC dI cy a A (qI dC dI cy a A below #[.ref (a 0), .int (L0 1)] s) 9 (x_call k 9) (fun L => [(0, .ref (a 0)), (1, .int (L 1)), (2, .int (L 2)), (3, .int (L 3)), (4, .int (L 4)), (5, .int (L 5)), (6, .int (L 6)), (7, .int (L 7)), (8, .int (L 8))]) 183 (fun L => [])) ∧ (bT p l e (headSpec w_x_call ({ frames := 326, cells := 0, slots := 0, locals := 10054 })).room s m #[.ref (a 0), .int (L0 1)] below meth c dC dI cy a A (qI dC dI cy a A below #[.ref (a 0), .int (L0 1)] s) 9 (x_call k 10) (fun L => [(0, .ref (a 0)), (1, .int (L 1)), (2, .int (L 2)), (3, .int (L 3)), (4, .int (L 4)), (5, .int (L 5)), (6, .int (L 6)), (7, .int (L 7)), (8, .int (L 8))]) 185 (fun L => [.int (L 100)])) ∧ (bT p l e (headSpec w_x_call ({ frames := 326, cells := 0, slots := 0, locals := 10054 })).room s m #[.ref (a 0), .int (L0 1)] below meth c dC dI cy a A (qI dC dI cy a A below #[.ref (a 0), .int (L0 1)] s) 9 (x_call k 11) (fun L => [(0, .ref (a 0)), (1, .int (L 1)), (2, .int (L 2)), (3, .int (L 3)), (4, .int (L 4)), (5, .int (L 5)), (6, .int (L 6)), (7, .int (L 7)), (8, .int (L 8))]) 201 (fun L => [])) ∧ (bT p l e (headSpec w_x_call ({ frames := 326, cells := 0, slots := 0, locals := 10054 })).room s m #[.ref (a 0), .int (L0 1)] below meth c dC dI cy a A (qI dC dI cy a A below #[.ref (a 0), .int (L0 1)] s) 9 (x_call k 12) (fun L => [(0, .ref (a 0)), (1, .int (L 1)), (2, .int (L 2)), (3, .int (L 3)), (4, .int (L 4)), (5, .int (L 5)), (6, .int (L 6))]) 211 (fun L => [])) ∧ (bT p l e (headSpec w_x_call ({ frames := 326, cells := 0, slots := 0, locals := 10054 })).room s m #[.ref (a 0), .int (L0 1)] below meth c dC dI cy a A (qI dC dI cy a A below #[.ref (a 0), .int (L0 1)] s) 9 (x_call k 13) (fun L => [(0, .ref (a 0)), (1, .int (L 1)), (2, .int (L 2)), (3, .int (L 3)), (4, .int (L 4)), (5, .int (L 5)), (6, .int (L 6))]) 231 (fun L => [])) ∧ (bT p l e (headSpec w_x_call ({ frames := 326, cells := 0, slots := 0, locals := 10054 })).room s m #[.ref (a 0), .int (L0 1)] below meth c dC dI cy a A (qI dC dI cy a A below #[.ref (a 0), .int (L0 1)] s) 9 (x_call k 14) (fun L => [(0, .ref (a 0)), (1, .int (L 1)), (2, .int (L 2)), (3, .int (L 3)), (4, .int (L 4)), (5, .int (L 5)), (6, .int (L 6))]) 259 (fun L => [])) ∧ (bT p l e (headSpec w_x_call ({ frames := 326, cells := 0, slots := 0, locals := 10054 })).room s m #[.ref (a 0), .int (L0 1)] below meth c dC dI cy a A (qI dC dI cy a A below #[.ref (a 0), .int (L0 1)] s) 9 (x_call k 15) (fun L => [(0, .ref (a 0)), (1, .int (L 1)), (2, .int (L 2)), (3, .int (L 3)), (4, .int (L 4)), (5, .int (L 5)), (6, .int (L 6))]) 270 (fun L => [])) ∧ (bT p l e (headSpec w_x_call ({ frames := 326, cells := 0, slots := 0, locals := 10054 })).room s m #[.ref (a 0), .int (L0 1)] below meth c dC dI cy a A (qI dC dI cy a A below #[.ref (a 0), .int (L0 1)] s) 9 (x_call k 16) (fun L => [(0, .ref (a 0)), (1, .int (L 1)), (2, .int (L 2)), (3, .int (L 3)), (4, .int (L 4)), (5, .int (L 5)), (6, .int (L 6))]) 280 (fun L => [])) := by
    intro k
    induction k with
    | zero => exact ⟨fun L σ r h => (by cases h), fun L σ r h => (by cases h), fun L σ r h => (by cases h), fun L σ r h => (by cases h), fun L σ r h => (by cases h), fun L σ r h => (by cases h), fun L σ r h => (by cases h), fun L σ r h => (by cases h), fun L σ r h => (by cases h), fun L σ r h => (by cases h), fun L σ r h => (by cases h), fun L σ r h => (by cases h), fun L σ r h => (by cases h), fun L σ r h => (by cases h), fun L σ r h => (by cases h), fun L σ r h => (by cases h), fun L σ r h => (by cases h)⟩
    | succ k ih =>
      refine ⟨?_, ?_, ?_, ?_, ?_, ?_, ?_, ?_, ?_, ?_, ?_, ?_, ?_, ?_, ?_, ?_, ?_⟩
      · intro L σ r h H locs ls hP hD hS hl
        rw [x_call] at h
        refine lv_aload_n hx hb dX12_call_0 rfl (lv_at hl 0 rfl) ?_
        refine ng_47 hx hb hts in_x_call hown hK hP (hts _ (List.mem_cons_of_mem _ (List.mem_append_left _ (List.mem_append_left _ (List.mem_of_getElem? (i := 0) rfl))))) dX12_call_1 ?_
        refine lv_istore_n (lv' := [(2, .int (σ.1 47)), (0, .ref (a 0)), (1, .int (L 1))]) hx hb dX12_call_4 rfl hl (by decide) rfl (fun ls hl => ?_)
        refine lv_aload_n hx hb dX12_call_5 rfl (lv_at hl 1 rfl) ?_
        refine ng_8 hx hb hts in_x_call hown hK hP (hts _ (List.mem_cons_of_mem _ (List.mem_append_left _ (List.mem_append_left _ (List.mem_of_getElem? (i := 1) rfl))))) dX12_call_6 ?_
        refine lv_istore_n (lv' := [(3, .int (σ.1 8)), (2, .int (σ.1 47)), (0, .ref (a 0)), (1, .int (L 1))]) hx hb dX12_call_9 rfl hl (by decide) rfl (fun ls hl => ?_)
        refine lv_aload_n hx hb dX12_call_10 rfl (lv_at hl 2 rfl) ?_
        obtain ⟨r1, hc1, h⟩ := ob_ex h
        refine nc_Vv (As := []) (rest := []) ⟨hx, hb, hml, hown, hts⟩ (c_x_take l dC dI cy a k (fun _ => 0) σ r1 hc1 H.size) (cwV 0 hts g_x_call_take_71 rfl rfl rfl hd_x_take ⟨Nat.le_of_ble_eq_true rfl, Nat.le_of_ble_eq_true rfl⟩) hK hG hA hP hD hS rfl hl.1 rfl (Nat.le_of_ble_eq_true rfl) dX12_call_11 ⟨Nat.le_refl _, Nat.le_refl _⟩ (fun H locs hP hD hS => ?_)
        refine lv_aload_n hx hb dX12_call_14 rfl (lv_at hl 2 rfl) ?_
        refine ng_10 hx hb hts in_x_call hown hK hP (hts _ (List.mem_cons_of_mem _ (List.mem_append_left _ (List.mem_append_left _ (List.mem_of_getElem? (i := 6) rfl))))) dX12_call_15 ?_
        refine lv_if_ne (tgt := 36) hx hb dX12_call_18 (by decide) (fun c2 => ?_) (fun c2 => ?_)
        · rw [if_neg c2] at h
          exact ih.2.1 (upd (upd L 2 ((σ.1 47))) 3 ((σ.1 8))) r1.2 r h H locs ls hP hD hS (lv_sub hl [2, 3, 1, 0] rfl)
        · rw [if_pos c2] at h
          refine lv_aload_n hx hb dX12_call_21 rfl (lv_at hl 2 rfl) ?_
          refine lv_bipush (v := 6) hx hb dX12_call_22 (by decide) ?_
          obtain ⟨r3, hc3, h⟩ := ob_ex h
          refine nc_Vi (As := [.int 6]) (rest := []) ⟨hx, hb, hml, hown, hts⟩ (c_x_isSign l dC dI cy a k (upd (fun _ => 0) 1 6) r1.2 r3 hc3 H.size) (cwV 1 hts g_x_call_isSign_65 rfl rfl rfl hd_x_isSign ⟨Nat.le_of_ble_eq_true rfl, Nat.le_of_ble_eq_true rfl⟩) hK hG hA hP hD hS rfl hl.1 rfl (Nat.le_of_ble_eq_true rfl) dX12_call_24 ⟨Nat.le_refl _, Nat.le_refl _⟩ (fun H locs hP hD hS => ?_)
          refine lv_if_ne (tgt := 36) hx hb dX12_call_27 (by decide) (fun c4 => ?_) (fun c4 => ?_)
          · rw [if_neg c4] at h
            exact ih.2.1 (upd (upd L 2 ((σ.1 47))) 3 ((σ.1 8))) r3.2 r h H locs ls hP hD hS (lv_sub hl [2, 3, 1, 0] rfl)
          · rw [if_pos c4] at h
            refine lv_aload_n hx hb dX12_call_30 rfl (lv_at hl 2 rfl) ?_
            refine lv_iconst (v := 5) hx hb dX12_call_31 (by decide) ?_
            refine lv_iload_n hx hb dX12_call_32 rfl (lv_at hl 0 rfl) ?_
            obtain ⟨r5, hc5, h⟩ := ob_ex h
            refine nc_Vv (As := [.int 5, .int (σ.1 8)]) (rest := []) ⟨hx, hb, hml, hown, hts⟩ (c_x_fault l dC dI cy a k (upd (upd (fun _ => 0) 1 5) 2 ((σ.1 8))) r3.2 r5 hc5 H.size) (cwV 2 hts g_x_call_fault_58 rfl rfl rfl hd_x_fault ⟨Nat.le_of_ble_eq_true rfl, Nat.le_of_ble_eq_true rfl⟩) hK hG hA hP hD hS rfl hl.1 rfl (Nat.le_of_ble_eq_true rfl) dX12_call_33 ⟨Nat.le_refl _, Nat.le_refl _⟩ (fun H locs hP hD hS => ?_)
            exact ih.2.1 (upd (upd L 2 ((σ.1 47))) 3 ((σ.1 8))) r5.2 r h H locs ls hP hD hS (lv_sub hl [2, 3, 1, 0] rfl)
      · intro L σ r h H locs ls hP hD hS hl
        rw [x_call] at h
        refine lv_aload_n hx hb dX12_call_36 rfl (lv_at hl 0 rfl) ?_
        refine ng_10 hx hb hts in_x_call hown hK hP (hts _ (List.mem_cons_of_mem _ (List.mem_append_left _ (List.mem_append_left _ (List.mem_of_getElem? (i := 6) rfl))))) dX12_call_37 ?_
        refine lv_if_ne (tgt := 47) hx hb dX12_call_40 (by decide) (fun c1 => ?_) (fun c1 => ?_)
        · rw [if_neg c1] at h
          exact ih.2.2.1 L σ r h H locs ls hP hD hS (lv_sub hl [0, 1, 2, 3] rfl)
        · rw [if_pos c1] at h
          refine lv_aload_n hx hb dX12_call_43 rfl (lv_at hl 0 rfl) ?_
          obtain ⟨r2, hc2, h⟩ := ob_ex h
          refine nc_Vv (As := []) (rest := []) ⟨hx, hb, hml, hown, hts⟩ (c_x_open l dC dI cy a k (fun _ => 0) σ r2 hc2 H.size) (cwV 0 hts g_x_call_open_177 rfl rfl rfl hd_x_open ⟨Nat.le_of_ble_eq_true rfl, Nat.le_of_ble_eq_true rfl⟩) hK hG hA hP hD hS rfl hl.1 rfl (Nat.le_of_ble_eq_true rfl) dX12_call_44 ⟨Nat.le_refl _, Nat.le_refl _⟩ (fun H locs hP hD hS => ?_)
          exact ih.2.2.1 L r2.2 r h H locs ls hP hD hS (lv_sub hl [0, 1, 2, 3] rfl)
      · intro L σ r h H locs ls hP hD hS hl
        rw [x_call] at h
        refine lv_aload_n hx hb dX12_call_47 rfl (lv_at hl 0 rfl) ?_
        refine ng_10 hx hb hts in_x_call hown hK hP (hts _ (List.mem_cons_of_mem _ (List.mem_append_left _ (List.mem_append_left _ (List.mem_of_getElem? (i := 6) rfl))))) dX12_call_48 ?_
        refine lv_if_ne (tgt := 58) hx hb dX12_call_51 (by decide) (fun c1 => ?_) (fun c1 => ?_)
        · rw [if_neg c1] at h
          exact ih.2.2.2.1 L σ r h H locs ls hP hD hS (lv_sub hl [0, 1, 2, 3] rfl)
        · rw [if_pos c1] at h
          refine lv_aload_n hx hb dX12_call_54 rfl (lv_at hl 0 rfl) ?_
          obtain ⟨r2, hc2, h⟩ := ob_ex h
          refine nc_Vv (As := []) (rest := []) ⟨hx, hb, hml, hown, hts⟩ (c_x_take l dC dI cy a k (fun _ => 0) σ r2 hc2 H.size) (cwV 0 hts g_x_call_take_71 rfl rfl rfl hd_x_take ⟨Nat.le_of_ble_eq_true rfl, Nat.le_of_ble_eq_true rfl⟩) hK hG hA hP hD hS rfl hl.1 rfl (Nat.le_of_ble_eq_true rfl) dX12_call_55 ⟨Nat.le_refl _, Nat.le_refl _⟩ (fun H locs hP hD hS => ?_)
          exact ih.2.2.2.1 L r2.2 r h H locs ls hP hD hS (lv_sub hl [0, 1, 2, 3] rfl)
      · intro L σ r h H locs ls hP hD hS hl
        rw [x_call] at h
        refine lv_iconst (v := (-1)) hx hb dX12_call_58 (by decide) ?_
        refine lv_istore (lv' := [(4, .int (-1)), (0, .ref (a 0)), (1, .int (L 1)), (2, .int (L 2)), (3, .int (L 3))]) hx hb dX12_call_59 hl (by decide) rfl (fun ls hl => ?_)
        refine lv_iconst (v := (-1)) hx hb dX12_call_61 (by decide) ?_
        refine lv_istore (lv' := [(5, .int (-1)), (4, .int (-1)), (0, .ref (a 0)), (1, .int (L 1)), (2, .int (L 2)), (3, .int (L 3))]) hx hb dX12_call_62 hl (by decide) rfl (fun ls hl => ?_)
        refine lv_iconst (v := 0) hx hb dX12_call_64 (by decide) ?_
        refine lv_istore (lv' := [(6, .int 0), (5, .int (-1)), (4, .int (-1)), (0, .ref (a 0)), (1, .int (L 1)), (2, .int (L 2)), (3, .int (L 3))]) hx hb dX12_call_65 hl (by decide) rfl (fun ls hl => ?_)
        exact ih.2.2.2.2.1 (upd (upd (upd L 4 ((-1))) 5 ((-1))) 6 0) σ r h H locs ls hP hD hS (lv_sub hl [3, 4, 5, 6, 2, 1, 0] rfl)
      · intro L σ r h H locs ls hP hD hS hl
        rw [x_call] at h
        refine lv_aload_n hx hb dX12_call_67 rfl (lv_at hl 0 rfl) ?_
        refine ng_10 hx hb hts in_x_call hown hK hP (hts _ (List.mem_cons_of_mem _ (List.mem_append_left _ (List.mem_append_left _ (List.mem_of_getElem? (i := 6) rfl))))) dX12_call_68 ?_
        refine lv_if_ne (tgt := 211) hx hb dX12_call_71 (by decide) (fun c1 => ?_) (fun c1 => ?_)
        · rw [if_neg c1] at h
          exact ih.2.2.2.2.2.2.2.2.2.2.2.2.1 L σ r h H locs ls hP hD hS (lv_sub hl [0, 1, 2, 3, 4, 5, 6] rfl)
        · rw [if_pos c1] at h
          refine lv_iload hx hb dX12_call_74 (lv_at hl 6 rfl) ?_
          refine lv_if_gt (tgt := 88) hx hb dX12_call_76 (by decide) (fun c2 => ?_) (fun c2 => ?_)
          · rw [if_pos c2] at h
            exact ih.2.2.2.2.2.1 L σ r h H locs ls hP hD hS (lv_sub hl [0, 1, 2, 3, 4, 5, 6] rfl)
          · rw [if_neg c2] at h
            refine lv_aload_n hx hb dX12_call_79 rfl (lv_at hl 0 rfl) ?_
            refine lv_bipush (v := 7) hx hb dX12_call_80 (by decide) ?_
            obtain ⟨r3, hc3, h⟩ := ob_ex h
            refine nc_Vi (As := [.int 7]) (rest := []) ⟨hx, hb, hml, hown, hts⟩ (c_x_isSign l dC dI cy a k (upd (fun _ => 0) 1 7) σ r3 hc3 H.size) (cwV 1 hts g_x_call_isSign_65 rfl rfl rfl hd_x_isSign ⟨Nat.le_of_ble_eq_true rfl, Nat.le_of_ble_eq_true rfl⟩) hK hG hA hP hD hS rfl hl.1 rfl (Nat.le_of_ble_eq_true rfl) dX12_call_82 ⟨Nat.le_refl _, Nat.le_refl _⟩ (fun H locs hP hD hS => ?_)
            refine lv_if_ne (tgt := 211) hx hb dX12_call_85 (by decide) (fun c4 => ?_) (fun c4 => ?_)
            · rw [if_neg c4] at h
              exact ih.2.2.2.2.2.2.2.2.2.2.2.2.1 L r3.2 r h H locs ls hP hD hS (lv_sub hl [0, 1, 2, 3, 4, 5, 6] rfl)
            · rw [if_pos c4] at h
              exact ih.2.2.2.2.2.1 L r3.2 r h H locs ls hP hD hS (lv_sub hl [0, 1, 2, 3, 4, 5, 6] rfl)
      · intro L σ r h H locs ls hP hD hS hl
        rw [x_call] at h
        refine lv_iload hx hb dX12_call_88 (lv_at hl 6 rfl) ?_
        refine lv_if_eq (tgt := 102) hx hb dX12_call_90 (by decide) (fun c1 => ?_) (fun c1 => ?_)
        · rw [if_pos c1] at h
          exact ih.2.2.2.2.2.2.1 L σ r h H locs ls hP hD hS (lv_sub hl [0, 1, 2, 3, 4, 5, 6] rfl)
        · rw [if_neg c1] at h
          refine lv_aload_n hx hb dX12_call_93 rfl (lv_at hl 0 rfl) ?_
          refine lv_bipush (v := 12) hx hb dX12_call_94 (by decide) ?_
          obtain ⟨r2, hc2, h⟩ := ob_ex h
          refine nc_Vi (As := [.int 12]) (rest := []) ⟨hx, hb, hml, hown, hts⟩ (c_x_isSign l dC dI cy a k (upd (fun _ => 0) 1 12) σ r2 hc2 H.size) (cwV 1 hts g_x_call_isSign_65 rfl rfl rfl hd_x_isSign ⟨Nat.le_of_ble_eq_true rfl, Nat.le_of_ble_eq_true rfl⟩) hK hG hA hP hD hS rfl hl.1 rfl (Nat.le_of_ble_eq_true rfl) dX12_call_96 ⟨Nat.le_refl _, Nat.le_refl _⟩ (fun H locs hP hD hS => ?_)
          refine lv_if_eq (tgt := 211) hx hb dX12_call_99 (by decide) (fun c3 => ?_) (fun c3 => ?_)
          · rw [if_pos c3] at h
            exact ih.2.2.2.2.2.2.2.2.2.2.2.2.1 L r2.2 r h H locs ls hP hD hS (lv_sub hl [0, 1, 2, 3, 4, 5, 6] rfl)
          · rw [if_neg c3] at h
            exact ih.2.2.2.2.2.2.1 L r2.2 r h H locs ls hP hD hS (lv_sub hl [0, 1, 2, 3, 4, 5, 6] rfl)
      · intro L σ r h H locs ls hP hD hS hl
        rw [x_call] at h
        refine lv_iload hx hb dX12_call_102 (lv_at hl 6 rfl) ?_
        refine lv_if_le (tgt := 111) hx hb dX12_call_104 (by decide) (fun c1 => ?_) (fun c1 => ?_)
        · rw [if_pos c1] at h
          exact ih.2.2.2.2.2.2.2.1 L σ r h H locs ls hP hD hS (lv_sub hl [0, 1, 2, 3, 4, 5, 6] rfl)
        · rw [if_neg c1] at h
          refine lv_aload_n hx hb dX12_call_107 rfl (lv_at hl 0 rfl) ?_
          obtain ⟨r2, hc2, h⟩ := ob_ex h
          refine nc_Vv (As := []) (rest := []) ⟨hx, hb, hml, hown, hts⟩ (c_x_take l dC dI cy a k (fun _ => 0) σ r2 hc2 H.size) (cwV 0 hts g_x_call_take_71 rfl rfl rfl hd_x_take ⟨Nat.le_of_ble_eq_true rfl, Nat.le_of_ble_eq_true rfl⟩) hK hG hA hP hD hS rfl hl.1 rfl (Nat.le_of_ble_eq_true rfl) dX12_call_108 ⟨Nat.le_refl _, Nat.le_refl _⟩ (fun H locs hP hD hS => ?_)
          exact ih.2.2.2.2.2.2.2.1 L r2.2 r h H locs ls hP hD hS (lv_sub hl [0, 1, 2, 3, 4, 5, 6] rfl)
      · intro L σ r h H locs ls hP hD hS hl
        rw [x_call] at h
        refine lv_aload_n hx hb dX12_call_111 rfl (lv_at hl 0 rfl) ?_
        refine ng_8 hx hb hts in_x_call hown hK hP (hts _ (List.mem_cons_of_mem _ (List.mem_append_left _ (List.mem_append_left _ (List.mem_of_getElem? (i := 1) rfl))))) dX12_call_112 ?_
        refine lv_istore (lv' := [(7, .int (σ.1 8)), (0, .ref (a 0)), (1, .int (L 1)), (2, .int (L 2)), (3, .int (L 3)), (4, .int (L 4)), (5, .int (L 5)), (6, .int (L 6))]) hx hb dX12_call_115 hl (by decide) rfl (fun ls hl => ?_)
        refine lv_aload_n hx hb dX12_call_117 rfl (lv_at hl 1 rfl) ?_
        obtain ⟨r1, hc1, h⟩ := ob_ex h
        refine nc_Vi (As := []) (rest := []) ⟨hx, hb, hml, hown, hts⟩ (c_x_exp l dC dI cy a k (fun _ => 0) σ r1 hc1 H.size) (cwV 0 hts g_x_call_exp_209 rfl rfl rfl hd_x_exp ⟨Nat.le_of_ble_eq_true rfl, Nat.le_of_ble_eq_true rfl⟩) hK hG hA hP hD hS rfl hl.1 rfl (Nat.le_of_ble_eq_true rfl) dX12_call_118 ⟨Nat.le_refl _, Nat.le_refl _⟩ (fun H locs hP hD hS => ?_)
        refine lv_istore (lv' := [(8, .int r1.1), (7, .int (σ.1 8)), (0, .ref (a 0)), (1, .int (L 1)), (2, .int (L 2)), (3, .int (L 3)), (4, .int (L 4)), (5, .int (L 5)), (6, .int (L 6))]) hx hb dX12_call_121 hl (by decide) rfl (fun ls hl => ?_)
        refine lv_aload_n hx hb dX12_call_123 rfl (lv_at hl 2 rfl) ?_
        refine ng_10 hx hb hts in_x_call hown hK hP (hts _ (List.mem_cons_of_mem _ (List.mem_append_left _ (List.mem_append_left _ (List.mem_of_getElem? (i := 6) rfl))))) dX12_call_124 ?_
        refine lv_if_ne (tgt := 173) hx hb dX12_call_127 (by decide) (fun c2 => ?_) (fun c2 => ?_)
        · rw [if_neg c2] at h
          exact ih.2.2.2.2.2.2.2.2.1 (upd (upd L 7 ((σ.1 8))) 8 r1.1) r1.2 r h H locs ls hP hD hS (lv_sub hl [2, 3, 4, 5, 6, 7, 8, 1, 0] rfl)
        · rw [if_pos c2] at h
          refine lv_iload hx hb dX12_call_130 (lv_at hl 8 rfl) ?_
          refine lv_aload_n hx hb dX12_call_132 rfl (lv_at hl 2 rfl) ?_
          refine ng_33 hx hb hts in_x_call hown hK hP (hts _ (List.mem_cons_of_mem _ (List.mem_append_left _ (List.mem_append_left _ (List.mem_of_getElem? (i := 19) rfl))))) dX12_call_133 ?_
          refine lv_iload_n hx hb dX12_call_136 rfl (lv_at hl 4 rfl) ?_
          obtain ⟨q3, h⟩ := nb_ite1 h
          refine nl_18 hx hb hK hP q3 dX12_call_137 ?_
          refine lv_icmp_ge (tgt := 173) hx hb dX12_call_138 (by decide) (fun c4 => ?_) (fun c4 => ?_)
          · rw [if_pos c4] at h
            exact ih.2.2.2.2.2.2.2.2.1 (upd (upd L 7 ((σ.1 8))) 8 r1.1) r1.2 r h H locs ls hP hD hS (lv_sub hl [2, 3, 4, 5, 6, 7, 8, 1, 0] rfl)
          · rw [if_neg c4] at h
            refine lv_aload_n hx hb dX12_call_141 rfl (lv_at hl 2 rfl) ?_
            refine ng_34 hx hb hts in_x_call hown hK hP (hts _ (List.mem_cons_of_mem _ (List.mem_append_left _ (List.mem_append_left _ (List.mem_of_getElem? (i := 20) rfl))))) dX12_call_142 ?_
            refine lv_bipush (v := 8) hx hb dX12_call_145 (by decide) ?_
            refine lv_iload_n hx hb dX12_call_147 rfl (lv_at hl 4 rfl) ?_
            refine lv_imul hx hb dX12_call_148 ?_
            refine lv_iload hx hb dX12_call_149 (lv_at hl 8 rfl) ?_
            refine lv_iadd hx hb dX12_call_151 ?_
            obtain ⟨q5, h⟩ := nb_ite1 h
            refine nl_19 hx hb hK hP q5 dX12_call_152 ?_
            refine lv_if_le (tgt := 173) hx hb dX12_call_153 (by decide) (fun c6 => ?_) (fun c6 => ?_)
            · rw [if_pos c6] at h
              exact ih.2.2.2.2.2.2.2.2.1 (upd (upd L 7 ((σ.1 8))) 8 r1.1) r1.2 r h H locs ls hP hD hS (lv_sub hl [2, 3, 4, 5, 6, 7, 8, 1, 0] rfl)
            · rw [if_neg c6] at h
              refine lv_aload_n hx hb dX12_call_156 rfl (lv_at hl 2 rfl) ?_
              refine lv_iload hx hb dX12_call_157 (lv_at hl 0 rfl) ?_
              obtain ⟨r7, hc7, h⟩ := ob_ex h
              refine nc_Vi (As := [.int r1.1]) (rest := []) ⟨hx, hb, hml, hown, hts⟩ (c_x_isTarget l dC dI cy a k (upd (fun _ => 0) 1 r1.1) r1.2 r7 hc7 H.size) (cwV 1 hts g_x_call_isTarget_333 rfl rfl rfl hd_x_isTarget ⟨Nat.le_of_ble_eq_true rfl, Nat.le_of_ble_eq_true rfl⟩) hK hG hA hP hD hS rfl hl.1 rfl (Nat.le_of_ble_eq_true rfl) dX12_call_159 ⟨Nat.le_refl _, Nat.le_refl _⟩ (fun H locs hP hD hS => ?_)
              refine lv_if_ne (tgt := 173) hx hb dX12_call_162 (by decide) (fun c8 => ?_) (fun c8 => ?_)
              · rw [if_neg c8] at h
                exact ih.2.2.2.2.2.2.2.2.1 (upd (upd L 7 ((σ.1 8))) 8 r1.1) r7.2 r h H locs ls hP hD hS (lv_sub hl [2, 3, 4, 5, 6, 7, 8, 1, 0] rfl)
              · rw [if_pos c8] at h
                refine lv_aload_n hx hb dX12_call_165 rfl (lv_at hl 2 rfl) ?_
                refine lv_bipush (v := 6) hx hb dX12_call_166 (by decide) ?_
                refine lv_iload hx hb dX12_call_168 (lv_at hl 1 rfl) ?_
                obtain ⟨r9, hc9, h⟩ := ob_ex h
                refine nc_Vv (As := [.int 6, .int (σ.1 8)]) (rest := []) ⟨hx, hb, hml, hown, hts⟩ (c_x_fault l dC dI cy a k (upd (upd (fun _ => 0) 1 6) 2 ((σ.1 8))) r7.2 r9 hc9 H.size) (cwV 2 hts g_x_call_fault_58 rfl rfl rfl hd_x_fault ⟨Nat.le_of_ble_eq_true rfl, Nat.le_of_ble_eq_true rfl⟩) hK hG hA hP hD hS rfl hl.1 rfl (Nat.le_of_ble_eq_true rfl) dX12_call_170 ⟨Nat.le_refl _, Nat.le_refl _⟩ (fun H locs hP hD hS => ?_)
                exact ih.2.2.2.2.2.2.2.2.1 (upd (upd L 7 ((σ.1 8))) 8 r1.1) r9.2 r h H locs ls hP hD hS (lv_sub hl [2, 3, 4, 5, 6, 7, 8, 1, 0] rfl)
      · intro L σ r h H locs ls hP hD hS hl
        rw [x_call] at h
        refine lv_iload hx hb dX12_call_173 (lv_at hl 6 rfl) ?_
        refine lv_if_ne (tgt := 183) hx hb dX12_call_175 (by decide) (fun c1 => ?_) (fun c1 => ?_)
        · rw [if_neg c1] at h
          exact ih.2.2.2.2.2.2.2.2.2.1 L σ r h H locs ls hP hD hS (lv_sub hl [0, 1, 2, 3, 4, 5, 6, 7, 8] rfl)
        · rw [if_pos c1] at h
          refine lv_iload hx hb dX12_call_178 (lv_at hl 8 rfl) ?_
          refine lv_goto (tgt := 185) hx hb dX12_call_180 (by decide) ?_
          exact ih.2.2.2.2.2.2.2.2.2.2.1 (upd L 100 ((L 8))) σ r h H locs ls hP hD hS (lv_sub hl [0, 1, 2, 3, 4, 5, 6, 7, 8] rfl)
      · intro L σ r h H locs ls hP hD hS hl
        rw [x_call] at h
        refine lv_iload hx hb dX12_call_183 (lv_at hl 4 rfl) ?_
        exact ih.2.2.2.2.2.2.2.2.2.2.1 (upd L 100 ((L 4))) σ r h H locs ls hP hD hS (lv_sub hl [0, 1, 2, 3, 4, 5, 6, 7, 8] rfl)
      · intro L σ r h H locs ls hP hD hS hl
        rw [x_call] at h
        refine lv_istore (lv' := [(4, .int (L 100)), (0, .ref (a 0)), (1, .int (L 1)), (2, .int (L 2)), (3, .int (L 3)), (5, .int (L 5)), (6, .int (L 6)), (7, .int (L 7)), (8, .int (L 8))]) hx hb dX12_call_185 hl (by decide) rfl (fun ls hl => ?_)
        refine lv_iload hx hb dX12_call_187 (lv_at hl 6 rfl) ?_
        refine lv_if_le (tgt := 201) hx hb dX12_call_189 (by decide) (fun c1 => ?_) (fun c1 => ?_)
        · rw [if_pos c1] at h
          exact ih.2.2.2.2.2.2.2.2.2.2.2.1 (upd L 4 ((L 100))) σ r h H locs ls hP hD hS (lv_sub hl [1, 2, 3, 4, 0, 5, 6, 7, 8] rfl)
        · rw [if_neg c1] at h
          refine lv_aload_n hx hb dX12_call_192 rfl (lv_at hl 1 rfl) ?_
          refine ng_19 hx hb hts in_x_call hown hK hP (hts _ (List.mem_cons_of_mem _ (List.mem_append_left _ (List.mem_append_left _ (List.mem_of_getElem? (i := 24) rfl))))) dX12_call_193 ?_
          refine lv_iload hx hb dX12_call_196 (lv_at hl 5 rfl) ?_
          refine lv_iload hx hb dX12_call_198 (lv_at hl 8 rfl) ?_
          obtain ⟨q2, h⟩ := nb_ite1 h
          refine ns_9 hx hb hK hP hD hS q2 dX12_call_200 (fun H locs hP hD hS => ?_)
          exact ih.2.2.2.2.2.2.2.2.2.2.2.1 (upd L 4 ((L 100))) (σ.1, σ.2.1, updG σ.2.2 9 (upd (σ.2.2 9) ((L 5)).toNatClampNeg ((L 8)))) r h H locs ls hP hD hS (lv_sub hl [1, 2, 3, 4, 0, 5, 6, 7, 8] rfl)
      · intro L σ r h H locs ls hP hD hS hl
        rw [x_call] at h
        refine lv_iload hx hb dX12_call_201 (lv_at hl 8 rfl) ?_
        refine lv_istore (lv' := [(5, .int (L 8)), (0, .ref (a 0)), (1, .int (L 1)), (2, .int (L 2)), (3, .int (L 3)), (4, .int (L 4)), (6, .int (L 6)), (7, .int (L 7)), (8, .int (L 8))]) hx hb dX12_call_203 hl (by decide) rfl (fun ls hl => ?_)
        refine lv_iinc (v := ((L 6)) + 1) (lv' := [(6, .int (((L 6)) + 1)), (5, .int (L 8)), (0, .ref (a 0)), (1, .int (L 1)), (2, .int (L 2)), (3, .int (L 3)), (4, .int (L 4)), (7, .int (L 7)), (8, .int (L 8))]) hx hb dX12_call_205 hl (k := 6) rfl rfl (by decide) rfl (fun ls hl => ?_)
        refine lv_goto (tgt := 67) hx hb dX12_call_208 (by decide) ?_
        exact ih.2.2.2.2.1 (upd (upd L 5 ((L 8))) 6 (((L 6)) + 1)) σ r h H locs ls hP hD hS (lv_sub hl [2, 3, 4, 5, 6, 1, 0] rfl)
      · intro L σ r h H locs ls hP hD hS hl
        rw [x_call] at h
        refine lv_aload_n hx hb dX12_call_211 rfl (lv_at hl 0 rfl) ?_
        refine ng_10 hx hb hts in_x_call hown hK hP (hts _ (List.mem_cons_of_mem _ (List.mem_append_left _ (List.mem_append_left _ (List.mem_of_getElem? (i := 6) rfl))))) dX12_call_212 ?_
        refine lv_if_ne (tgt := 231) hx hb dX12_call_215 (by decide) (fun c1 => ?_) (fun c1 => ?_)
        · rw [if_neg c1] at h
          exact ih.2.2.2.2.2.2.2.2.2.2.2.2.2.1 L σ r h H locs ls hP hD hS (lv_sub hl [0, 1, 2, 3, 4, 5, 6] rfl)
        · rw [if_pos c1] at h
          refine lv_aload_n hx hb dX12_call_218 rfl (lv_at hl 0 rfl) ?_
          refine lv_bipush (v := 7) hx hb dX12_call_219 (by decide) ?_
          obtain ⟨r2, hc2, h⟩ := ob_ex h
          refine nc_Vi (As := [.int 7]) (rest := []) ⟨hx, hb, hml, hown, hts⟩ (c_x_isSign l dC dI cy a k (upd (fun _ => 0) 1 7) σ r2 hc2 H.size) (cwV 1 hts g_x_call_isSign_65 rfl rfl rfl hd_x_isSign ⟨Nat.le_of_ble_eq_true rfl, Nat.le_of_ble_eq_true rfl⟩) hK hG hA hP hD hS rfl hl.1 rfl (Nat.le_of_ble_eq_true rfl) dX12_call_221 ⟨Nat.le_refl _, Nat.le_refl _⟩ (fun H locs hP hD hS => ?_)
          refine lv_if_ne (tgt := 231) hx hb dX12_call_224 (by decide) (fun c3 => ?_) (fun c3 => ?_)
          · rw [if_neg c3] at h
            exact ih.2.2.2.2.2.2.2.2.2.2.2.2.2.1 L r2.2 r h H locs ls hP hD hS (lv_sub hl [0, 1, 2, 3, 4, 5, 6] rfl)
          · rw [if_pos c3] at h
            refine lv_aload_n hx hb dX12_call_227 rfl (lv_at hl 0 rfl) ?_
            obtain ⟨r4, hc4, h⟩ := ob_ex h
            refine nc_Vv (As := []) (rest := []) ⟨hx, hb, hml, hown, hts⟩ (c_x_cannot l dC dI cy a k (fun _ => 0) r2.2 r4 hc4 H.size) (cwV 0 hts g_x_call_cannot_68 rfl rfl rfl hd_x_cannot ⟨Nat.le_of_ble_eq_true rfl, Nat.le_of_ble_eq_true rfl⟩) hK hG hA hP hD hS rfl hl.1 rfl (Nat.le_of_ble_eq_true rfl) dX12_call_228 ⟨Nat.le_refl _, Nat.le_refl _⟩ (fun H locs hP hD hS => ?_)
            exact ih.2.2.2.2.2.2.2.2.2.2.2.2.2.1 L r4.2 r h H locs ls hP hD hS (lv_sub hl [0, 1, 2, 3, 4, 5, 6] rfl)
      · intro L σ r h H locs ls hP hD hS hl
        rw [x_call] at h
        refine lv_aload_n hx hb dX12_call_231 rfl (lv_at hl 0 rfl) ?_
        refine ng_10 hx hb hts in_x_call hown hK hP (hts _ (List.mem_cons_of_mem _ (List.mem_append_left _ (List.mem_append_left _ (List.mem_of_getElem? (i := 6) rfl))))) dX12_call_232 ?_
        refine lv_if_ne (tgt := 259) hx hb dX12_call_235 (by decide) (fun c1 => ?_) (fun c1 => ?_)
        · rw [if_neg c1] at h
          exact ih.2.2.2.2.2.2.2.2.2.2.2.2.2.2.1 L σ r h H locs ls hP hD hS (lv_sub hl [0, 1, 2, 3, 4, 5, 6] rfl)
        · rw [if_pos c1] at h
          refine lv_iload hx hb dX12_call_238 (lv_at hl 6 rfl) ?_
          refine lv_aload_n hx hb dX12_call_240 rfl (lv_at hl 0 rfl) ?_
          refine ng_33 hx hb hts in_x_call hown hK hP (hts _ (List.mem_cons_of_mem _ (List.mem_append_left _ (List.mem_append_left _ (List.mem_of_getElem? (i := 19) rfl))))) dX12_call_241 ?_
          refine lv_iload_n hx hb dX12_call_244 rfl (lv_at hl 2 rfl) ?_
          obtain ⟨q2, h⟩ := nb_ite1 h
          refine nl_18 hx hb hK hP q2 dX12_call_245 ?_
          refine lv_icmp_eq (tgt := 259) hx hb dX12_call_246 (by decide) (fun c3 => ?_) (fun c3 => ?_)
          · rw [if_pos c3] at h
            exact ih.2.2.2.2.2.2.2.2.2.2.2.2.2.2.1 L σ r h H locs ls hP hD hS (lv_sub hl [0, 1, 2, 3, 4, 5, 6] rfl)
          · rw [if_neg c3] at h
            refine lv_aload_n hx hb dX12_call_249 rfl (lv_at hl 0 rfl) ?_
            refine lv_bipush (v := 6) hx hb dX12_call_250 (by decide) ?_
            refine lv_aload_n hx hb dX12_call_252 rfl (lv_at hl 0 rfl) ?_
            refine ng_8 hx hb hts in_x_call hown hK hP (hts _ (List.mem_cons_of_mem _ (List.mem_append_left _ (List.mem_append_left _ (List.mem_of_getElem? (i := 1) rfl))))) dX12_call_253 ?_
            obtain ⟨r4, hc4, h⟩ := ob_ex h
            refine nc_Vv (As := [.int 6, .int (σ.1 8)]) (rest := []) ⟨hx, hb, hml, hown, hts⟩ (c_x_fault l dC dI cy a k (upd (upd (fun _ => 0) 1 6) 2 ((σ.1 8))) σ r4 hc4 H.size) (cwV 2 hts g_x_call_fault_58 rfl rfl rfl hd_x_fault ⟨Nat.le_of_ble_eq_true rfl, Nat.le_of_ble_eq_true rfl⟩) hK hG hA hP hD hS rfl hl.1 rfl (Nat.le_of_ble_eq_true rfl) dX12_call_256 ⟨Nat.le_refl _, Nat.le_refl _⟩ (fun H locs hP hD hS => ?_)
            exact ih.2.2.2.2.2.2.2.2.2.2.2.2.2.2.1 L r4.2 r h H locs ls hP hD hS (lv_sub hl [0, 1, 2, 3, 4, 5, 6] rfl)
      · intro L σ r h H locs ls hP hD hS hl
        rw [x_call] at h
        refine lv_aload_n hx hb dX12_call_259 rfl (lv_at hl 0 rfl) ?_
        refine ng_10 hx hb hts in_x_call hown hK hP (hts _ (List.mem_cons_of_mem _ (List.mem_append_left _ (List.mem_append_left _ (List.mem_of_getElem? (i := 6) rfl))))) dX12_call_260 ?_
        refine lv_if_ne (tgt := 270) hx hb dX12_call_263 (by decide) (fun c1 => ?_) (fun c1 => ?_)
        · rw [if_neg c1] at h
          exact ih.2.2.2.2.2.2.2.2.2.2.2.2.2.2.2.1 L σ r h H locs ls hP hD hS (lv_sub hl [0, 1, 2, 3, 4, 5, 6] rfl)
        · rw [if_pos c1] at h
          refine lv_aload_n hx hb dX12_call_266 rfl (lv_at hl 0 rfl) ?_
          obtain ⟨r2, hc2, h⟩ := ob_ex h
          refine nc_Vv (As := []) (rest := []) ⟨hx, hb, hml, hown, hts⟩ (c_x_take l dC dI cy a k (fun _ => 0) σ r2 hc2 H.size) (cwV 0 hts g_x_call_take_71 rfl rfl rfl hd_x_take ⟨Nat.le_of_ble_eq_true rfl, Nat.le_of_ble_eq_true rfl⟩) hK hG hA hP hD hS rfl hl.1 rfl (Nat.le_of_ble_eq_true rfl) dX12_call_267 ⟨Nat.le_refl _, Nat.le_refl _⟩ (fun H locs hP hD hS => ?_)
          exact ih.2.2.2.2.2.2.2.2.2.2.2.2.2.2.2.1 L r2.2 r h H locs ls hP hD hS (lv_sub hl [0, 1, 2, 3, 4, 5, 6] rfl)
      · intro L σ r h H locs ls hP hD hS hl
        rw [x_call] at h
        refine lv_aload_n hx hb dX12_call_270 rfl (lv_at hl 0 rfl) ?_
        refine lv_dup hx hb dX12_call_271 rfl ?_
        refine ng_13 hx hb hts in_x_call hown hK hP (hts _ (List.mem_cons_of_mem _ (List.mem_append_left _ (List.mem_append_left _ (List.mem_of_getElem? (i := 28) rfl))))) dX12_call_272 ?_
        refine lv_iconst (v := 1) hx hb dX12_call_275 (by decide) ?_
        refine lv_isub hx hb dX12_call_276 ?_
        refine np_13 hx hb hts in_x_call hown hK hP hD hS (hts _ (List.mem_cons_of_mem _ (List.mem_append_left _ (List.mem_append_left _ (List.mem_of_getElem? (i := 28) rfl))))) dX12_call_277 (fun H locs hP hD hS => ?_)
        exact ih.2.2.2.2.2.2.2.2.2.2.2.2.2.2.2.2 L (upd σ.1 13 ((((σ.1 13)) - 1)), σ.2.1, σ.2.2) r h H locs ls hP hD hS (lv_sub hl [0, 1, 2, 3, 4, 5, 6] rfl)
      · intro L σ r h H locs ls hP hD hS hl
        rw [x_call] at h
        refine lv_aload_n hx hb dX12_call_280 rfl (lv_at hl 0 rfl) ?_
        refine lv_bipush (v := 13) hx hb dX12_call_281 (by decide) ?_
        obtain ⟨r1, hc1, h⟩ := ob_ex h
        refine nc_Vv (As := [.int 13]) (rest := []) ⟨hx, hb, hml, hown, hts⟩ (c_x_want l dC dI cy a k (upd (fun _ => 0) 1 13) σ r1 hc1 H.size) (cwV 1 hts g_x_call_want_199 rfl rfl rfl hd_x_want ⟨Nat.le_of_ble_eq_true rfl, Nat.le_of_ble_eq_true rfl⟩) hK hG hA hP hD hS rfl hl.1 rfl (Nat.le_of_ble_eq_true rfl) dX12_call_283 ⟨Nat.le_refl _, Nat.le_refl _⟩ (fun H locs hP hD hS => ?_)
        refine lv_aload_n hx hb dX12_call_286 rfl (lv_at hl 0 rfl) ?_
        refine lv_bipush (v := 45) hx hb dX12_call_287 (by decide) ?_
        refine lv_iload_n hx hb dX12_call_289 rfl (lv_at hl 1 rfl) ?_
        refine lv_iload hx hb dX12_call_290 (lv_at hl 4 rfl) ?_
        refine lv_iload_n hx hb dX12_call_292 rfl (lv_at hl 2 rfl) ?_
        obtain ⟨r2, hc2, h⟩ := ob_ex h
        refine nc_Vi (As := [.int 45, .int (L 1), .int (L 4), .int (L 2)]) (rest := []) ⟨hx, hb, hml, hown, hts⟩ (c_x_node l dC dI cy a k (upd (upd (upd (upd (fun _ => 0) 1 45) 2 ((L 1))) 3 ((L 4))) 4 ((L 2))) r1.2 r2 hc2 H.size) (cwV 4 hts g_x_call_node_101 rfl rfl rfl hd_x_node ⟨Nat.le_of_ble_eq_true rfl, Nat.le_of_ble_eq_true rfl⟩) hK hG hA hP hD hS rfl hl.1 rfl (Nat.le_of_ble_eq_true rfl) dX12_call_293 ⟨Nat.le_refl _, Nat.le_refl _⟩ (fun H locs hP hD hS => ?_)
        cases h
        exact W.iret (v := r2.1) hx hb hr (fun t ht hW => ⟨⟨r2.1, (), rfl, rfl, by rw [ht]; exact hP, va_K.moved hW.alike hK, hD⟩, hS.F ht⟩) hS.2.2 dX12_call_296
  exact (blk k0).1 L0 σ0 r0 h0 s.heap [] ls hP hD hS hl
/-! target -/
def x_target : Nat → Nat → (Nat → Int32) → MS → Option (Int32 × MS)
  | 0, _, _, _ => none
  | k + 1, 0, L, σ => ob (x_wantName k 0 (fun _ => 0) σ) (fun r1 => if ((r1.2.1 10)) = 0 then (x_target k 1 L r1.2) else (some (0, r1.2)))
  | k + 1, 1, L, σ => ob (x_find k 0 (fun _ => 0) σ) (fun r1 => ob (x_take k 0 (fun _ => 0) r1.2) (fun r2 => if ((r2.2.1 10)) = 0 then (if ((r1.2.1 46)) = 1 then (x_target k 2 (upd (upd (upd (upd L 1 ((σ.1 8))) 2 ((r1.2.1 46))) 3 ((r1.2.1 47))) 4 ((r1.2.1 48))) r2.2) else (ob (x_fault k 0 (upd (upd (fun _ => 0) 1 5) 2 ((σ.1 8))) r2.2) (fun r5 => x_target k 2 (upd (upd (upd (upd L 1 ((σ.1 8))) 2 ((r1.2.1 46))) 3 ((r1.2.1 47))) 4 ((r1.2.1 48))) r5.2))) else (x_target k 2 (upd (upd (upd (upd L 1 ((σ.1 8))) 2 ((r1.2.1 46))) 3 ((r1.2.1 47))) 4 ((r1.2.1 48))) r2.2)))
  | k + 1, 2, L, σ => if ((σ.1 10)) = 0 then (x_target k 3 L σ) else (x_target k 6 (upd L 100 0) σ)
  | k + 1, 3, L, σ => if ((L 4)) = 0 then (x_target k 4 (upd L 100 7) σ) else (x_target k 5 (upd (upd L 100 1) 101 7) σ)
  | k + 1, 4, L, σ => x_target k 5 (upd (upd L 100 0) 101 ((L 100))) σ
  | k + 1, 5, L, σ => ob (x_node k 0 (upd (upd (upd (upd (fun _ => 0) 1 ((L 101))) 2 ((L 100))) 3 ((L 3))) 4 0) σ) (fun r1 => ob (x_parts k 0 (upd (fun _ => 0) 1 r1.1) r1.2) (fun r2 => x_target k 6 (upd L 100 r2.1) r2.2))
  | k + 1, 6, L, σ => some ((L 100), σ)
  | _ + 1, _ + 7, _, _ => none
def o_x_target : List Cond := [.methodLink RX12 279 yX12_wantName, .instanceMethod yX12_wantName, .selects RX12 yX12_wantName yX12_wantName, .initialized RX12, .fieldLink RX12 11 "SetHouseModel" "bad" "Z", .fieldLink RX12 32 "SetHouseModel" "tFrom" "I", .methodLink RX12 236 yX12_find, .instanceMethod yX12_find, .selects RX12 yX12_find yX12_find, .fieldLink RX12 111 "SetHouseModel" "foundKind" "I", .fieldLink RX12 130 "SetHouseModel" "foundNumber" "I", .fieldLink RX12 136 "SetHouseModel" "foundLocal" "Z", .methodLink RX12 71 yX12_take, .instanceMethod yX12_take, .selects RX12 yX12_take yX12_take, .methodLink RX12 58 yX12_fault, .instanceMethod yX12_fault, .selects RX12 yX12_fault yX12_fault, .methodLink RX12 101 yX12_node, .instanceMethod yX12_node, .selects RX12 yX12_node yX12_node, .methodLink RX12 206 yX12_parts, .instanceMethod yX12_parts, .selects RX12 yX12_parts yX12_parts]
theorem o_x_target_good : o_x_target.all goodWord = true := by decide +kernel
def p_x_target : List Cond := o_x_target ++ ((.code yX12_wantName cX12_wantName 1 none :: p_x_wantName) ++ ((.code yX12_find cX12_find 2 none :: p_x_find) ++ ((.code yX12_take cX12_take 2 none :: p_x_take) ++ ((.code yX12_fault cX12_fault 3 none :: p_x_fault) ++ ((.code yX12_node cX12_node 6 (some .int) :: p_x_node) ++ ((.code yX12_parts cX12_parts 6 (some .int) :: p_x_GE) ++ []))))))
theorem p_x_target_good : p_x_target.all goodWord = true := nb_all2 o_x_target_good (nb_all2 (nb_allc (by decide +kernel) p_x_wantName_good) (nb_all2 (nb_allc (by decide +kernel) p_x_find_good) (nb_all2 (nb_allc (by decide +kernel) p_x_take_good) (nb_all2 (nb_allc (by decide +kernel) p_x_fault_good) (nb_all2 (nb_allc (by decide +kernel) p_x_node_good) (nb_all2 (nb_allc (by decide +kernel) p_x_GE_good) rfl))))))
def w_x_target : List Cond := .code yX12_target cX12_target 5 (some .int) :: (p_x_target ++ fM)
theorem w_x_target_good : w_x_target.all goodWord = true := nb_allc (by decide +kernel) (nb_all2 p_x_target_good fM_good)
theorem in_x_target : ∀ w ∈ wsX120, w ∈ w_x_target := fun _ h => List.mem_cons_of_mem _ (List.mem_append_right _ h)
theorem hd_x_target : yX12_target.cls = RX12 ∧ yX12_target.cls ≠ "java/lang/invoke/MethodHandle" ∧ yX12_target.cls ≠ "java/lang/invoke/VarHandle" ∧ (parseMethodDescriptor yX12_target.desc).map (fun d => d.parameters.length) = some 0 := by decide +kernel
theorem gg_x_target_fault : GoodIn w_x_target w_x_fault := goodIn_sub (fun w h => (List.mem_cons.mp h).elim (fun e => (List.mem_cons_of_mem _ (List.mem_append_left _ (List.mem_append_right _ (List.mem_append_right _ (List.mem_append_right _ (List.mem_append_right _ (List.mem_append_left _ (List.mem_cons.mpr (Or.inl e)))))))))) (fun h => (List.mem_append.mp h).elim (fun h => (List.mem_cons_of_mem _ (List.mem_append_left _ (List.mem_append_right _ (List.mem_append_right _ (List.mem_append_right _ (List.mem_append_right _ (List.mem_append_left _ (List.mem_cons_of_mem _ h))))))))) (fun h => List.mem_cons_of_mem _ (List.mem_append_right _ h)))) w_x_fault_good
theorem g_x_target_fault_58 : GoodIn w_x_target (wsV RX12 58 RX12 yX12_fault w_x_fault) := goodIn_app (nb_g4 (List.mem_cons_of_mem _ (List.mem_append_left _ (List.mem_append_left _ (List.mem_of_getElem? (i := 15) rfl)))) (List.mem_cons_of_mem _ (List.mem_append_left _ (List.mem_append_left _ (List.mem_of_getElem? (i := 16) rfl)))) (List.mem_cons_of_mem _ (List.mem_append_left _ (List.mem_append_left _ (List.mem_of_getElem? (i := 17) rfl)))) (List.mem_cons_of_mem _ (List.mem_append_left _ (List.mem_append_left _ (List.mem_of_getElem? (i := 3) rfl)))) (by decide +kernel)) gg_x_target_fault
theorem gg_x_target_find : GoodIn w_x_target w_x_find := goodIn_sub (fun w h => (List.mem_cons.mp h).elim (fun e => (List.mem_cons_of_mem _ (List.mem_append_left _ (List.mem_append_right _ (List.mem_append_right _ (List.mem_append_left _ (List.mem_cons.mpr (Or.inl e)))))))) (fun h => (List.mem_append.mp h).elim (fun h => (List.mem_cons_of_mem _ (List.mem_append_left _ (List.mem_append_right _ (List.mem_append_right _ (List.mem_append_left _ (List.mem_cons_of_mem _ h))))))) (fun h => List.mem_cons_of_mem _ (List.mem_append_right _ h)))) w_x_find_good
theorem g_x_target_find_236 : GoodIn w_x_target (wsV RX12 236 RX12 yX12_find w_x_find) := goodIn_app (nb_g4 (List.mem_cons_of_mem _ (List.mem_append_left _ (List.mem_append_left _ (List.mem_of_getElem? (i := 6) rfl)))) (List.mem_cons_of_mem _ (List.mem_append_left _ (List.mem_append_left _ (List.mem_of_getElem? (i := 7) rfl)))) (List.mem_cons_of_mem _ (List.mem_append_left _ (List.mem_append_left _ (List.mem_of_getElem? (i := 8) rfl)))) (List.mem_cons_of_mem _ (List.mem_append_left _ (List.mem_append_left _ (List.mem_of_getElem? (i := 3) rfl)))) (by decide +kernel)) gg_x_target_find
theorem gg_x_target_node : GoodIn w_x_target w_x_node := goodIn_sub (fun w h => (List.mem_cons.mp h).elim (fun e => (List.mem_cons_of_mem _ (List.mem_append_left _ (List.mem_append_right _ (List.mem_append_right _ (List.mem_append_right _ (List.mem_append_right _ (List.mem_append_right _ (List.mem_append_left _ (List.mem_cons.mpr (Or.inl e))))))))))) (fun h => (List.mem_append.mp h).elim (fun h => (List.mem_cons_of_mem _ (List.mem_append_left _ (List.mem_append_right _ (List.mem_append_right _ (List.mem_append_right _ (List.mem_append_right _ (List.mem_append_right _ (List.mem_append_left _ (List.mem_cons_of_mem _ h)))))))))) (fun h => List.mem_cons_of_mem _ (List.mem_append_right _ h)))) w_x_node_good
theorem g_x_target_node_101 : GoodIn w_x_target (wsV RX12 101 RX12 yX12_node w_x_node) := goodIn_app (nb_g4 (List.mem_cons_of_mem _ (List.mem_append_left _ (List.mem_append_left _ (List.mem_of_getElem? (i := 18) rfl)))) (List.mem_cons_of_mem _ (List.mem_append_left _ (List.mem_append_left _ (List.mem_of_getElem? (i := 19) rfl)))) (List.mem_cons_of_mem _ (List.mem_append_left _ (List.mem_append_left _ (List.mem_of_getElem? (i := 20) rfl)))) (List.mem_cons_of_mem _ (List.mem_append_left _ (List.mem_append_left _ (List.mem_of_getElem? (i := 3) rfl)))) (by decide +kernel)) gg_x_target_node
theorem gg_x_target_parts : GoodIn w_x_target w_x_parts := goodIn_sub (fun w h => (List.mem_cons.mp h).elim (fun e => (List.mem_cons_of_mem _ (List.mem_append_left _ (List.mem_append_right _ (List.mem_append_right _ (List.mem_append_right _ (List.mem_append_right _ (List.mem_append_right _ (List.mem_append_right _ (List.mem_append_left _ (List.mem_cons.mpr (Or.inl e)))))))))))) (fun h => (List.mem_append.mp h).elim (fun h => (List.mem_cons_of_mem _ (List.mem_append_left _ (List.mem_append_right _ (List.mem_append_right _ (List.mem_append_right _ (List.mem_append_right _ (List.mem_append_right _ (List.mem_append_right _ (List.mem_append_left _ (List.mem_cons_of_mem _ h))))))))))) (fun h => List.mem_cons_of_mem _ (List.mem_append_right _ h)))) w_x_parts_good
theorem g_x_target_parts_206 : GoodIn w_x_target (wsV RX12 206 RX12 yX12_parts w_x_parts) := goodIn_app (nb_g4 (List.mem_cons_of_mem _ (List.mem_append_left _ (List.mem_append_left _ (List.mem_of_getElem? (i := 21) rfl)))) (List.mem_cons_of_mem _ (List.mem_append_left _ (List.mem_append_left _ (List.mem_of_getElem? (i := 22) rfl)))) (List.mem_cons_of_mem _ (List.mem_append_left _ (List.mem_append_left _ (List.mem_of_getElem? (i := 23) rfl)))) (List.mem_cons_of_mem _ (List.mem_append_left _ (List.mem_append_left _ (List.mem_of_getElem? (i := 3) rfl)))) (by decide +kernel)) gg_x_target_parts
theorem gg_x_target_take : GoodIn w_x_target w_x_take := goodIn_sub (fun w h => (List.mem_cons.mp h).elim (fun e => (List.mem_cons_of_mem _ (List.mem_append_left _ (List.mem_append_right _ (List.mem_append_right _ (List.mem_append_right _ (List.mem_append_left _ (List.mem_cons.mpr (Or.inl e))))))))) (fun h => (List.mem_append.mp h).elim (fun h => (List.mem_cons_of_mem _ (List.mem_append_left _ (List.mem_append_right _ (List.mem_append_right _ (List.mem_append_right _ (List.mem_append_left _ (List.mem_cons_of_mem _ h)))))))) (fun h => List.mem_cons_of_mem _ (List.mem_append_right _ h)))) w_x_take_good
theorem g_x_target_take_71 : GoodIn w_x_target (wsV RX12 71 RX12 yX12_take w_x_take) := goodIn_app (nb_g4 (List.mem_cons_of_mem _ (List.mem_append_left _ (List.mem_append_left _ (List.mem_of_getElem? (i := 12) rfl)))) (List.mem_cons_of_mem _ (List.mem_append_left _ (List.mem_append_left _ (List.mem_of_getElem? (i := 13) rfl)))) (List.mem_cons_of_mem _ (List.mem_append_left _ (List.mem_append_left _ (List.mem_of_getElem? (i := 14) rfl)))) (List.mem_cons_of_mem _ (List.mem_append_left _ (List.mem_append_left _ (List.mem_of_getElem? (i := 3) rfl)))) (by decide +kernel)) gg_x_target_take
theorem gg_x_target_wantName : GoodIn w_x_target w_x_wantName := goodIn_sub (fun w h => (List.mem_cons.mp h).elim (fun e => (List.mem_cons_of_mem _ (List.mem_append_left _ (List.mem_append_right _ (List.mem_append_left _ (List.mem_cons.mpr (Or.inl e))))))) (fun h => (List.mem_append.mp h).elim (fun h => (List.mem_cons_of_mem _ (List.mem_append_left _ (List.mem_append_right _ (List.mem_append_left _ (List.mem_cons_of_mem _ h)))))) (fun h => List.mem_cons_of_mem _ (List.mem_append_right _ h)))) w_x_wantName_good
theorem g_x_target_wantName_279 : GoodIn w_x_target (wsV RX12 279 RX12 yX12_wantName w_x_wantName) := goodIn_app (nb_g4 (List.mem_cons_of_mem _ (List.mem_append_left _ (List.mem_append_left _ (List.mem_of_getElem? (i := 0) rfl)))) (List.mem_cons_of_mem _ (List.mem_append_left _ (List.mem_append_left _ (List.mem_of_getElem? (i := 1) rfl)))) (List.mem_cons_of_mem _ (List.mem_append_left _ (List.mem_append_left _ (List.mem_of_getElem? (i := 2) rfl)))) (List.mem_cons_of_mem _ (List.mem_append_left _ (List.mem_append_left _ (List.mem_of_getElem? (i := 3) rfl)))) (by decide +kernel)) gg_x_target_wantName
set_option maxHeartbeats 40000000 in
set_option maxRecDepth 100000 in
theorem c_x_target (l : Launch) (dC : Nat → ClassId) (dI : Nat → Nat → Nat) (cy : Nat → ClassId) (a : Nat → Nat) (k0 : Nat) (L0 : Nat → Int32) (σ0 : MS) (r0 : Int32 × MS) (h0 : x_target k0 0 L0 σ0 = some r0) (sz : Nat) : Met l yX12_target w_x_target ({ frames := 326, cells := 0, slots := 0, locals := 10058 }) (va_Pc [.ref (a 0)] (nIn (dC, dI) cy sz (vM cy a σ0))) (va_Qi (fun (z : Int32) (_ : Unit) => z = r0.1) (fun _ t => nOut (dC, dI) cy (va_A (vM cy a σ0) sz) (vM cy a r0.2) t) (va_A (vM cy a σ0) sz)) 0 0 (va_A (vM cy a σ0) sz) := by
  refine Met.ofW (cc := cX12_target) (maxL := 5) (ret := (some .int)) (by decide) rfl ?_
  intro p e s m args below meth c s₁ B hml hv
  obtain ⟨rfl, hsz, hP, hK, hD0, hG⟩ := hv
  have hx := B.exec
  have hb := B.bytes
  have hr := B.returns
  have hts := atoms_spec (ws := w_x_target) B.pre
  have hown : s.vm.findClass RX12 = some m.cls := findClass_of_methodNamed B.named
  have hlocks := B.notSynchronized
  subst hsz
  have hD := hD0.self (sz := s.heap.size)
  generalize hAe : va_A (vM cy a σ0) s.heap.size = A at hD ⊢
  have hA : ∀ q : Nat, s.heap.size ≤ q → A q := fun q h => by rw [← hAe]; exact Or.inr h
  have hS : va_S A s.heap s.heap [] := va_S.rf
  have hl := lv_entry ([.ref (a 0)]) (n := 5) (Nat.le_of_ble_eq_true rfl)
  rw [lg_entry_eq]
  generalize (lg_sl ([.ref (a 0)]) ++ List.replicate (5 - (lg_sl ([.ref (a 0)])).length) Slot.unset).toArray = ls at hl ⊢
  have hl : lv_has ls 5 [(0, .ref (a 0))] := hl
  have blk : ∀ k : Nat, (bT p l e (headSpec w_x_target ({ frames := 326, cells := 0, slots := 0, locals := 10058 })).room s m #[.ref (a 0)] below meth c dC dI cy a A (qI dC dI cy a A below #[.ref (a 0)] s) 5 (x_target k 0) (fun L => [(0, .ref (a 0))]) 0 (fun L => [])) ∧ (bT p l e (headSpec w_x_target ({ frames := 326, cells := 0, slots := 0, locals := 10058 })).room s m #[.ref (a 0)] below meth c dC dI cy a A (qI dC dI cy a A below #[.ref (a 0)] s) 5 (x_target k 1) (fun L => [(0, .ref (a 0))]) 13 (fun L => [])) ∧ (bT p l e (headSpec w_x_target ({ frames := 326, cells := 0, slots := 0, locals := 10058 })).room s m #[.ref (a 0)] below meth c dC dI cy a A (qI dC dI cy a A below #[.ref (a 0)] s) 5 (x_target k 2) (fun L => [(0, .ref (a 0)), (1, .int (L 1)), (2, .int (L 2)), (3, .int (L 3)), (4, .int (L 4))]) 60 (fun L => [])) ∧ (bT p l e (headSpec w_x_target ({ frames := 326, cells := 0, slots := 0, locals := 10058 })).room s m #[.ref (a 0)] below meth c dC dI cy a A (qI dC dI cy a A below #[.ref (a 0)] s) 5 (x_target k 3) (fun L => [(0, .ref (a 0)), (1, .int (L 1)), (2, .int (L 2)), (3, .int (L 3)), (4, .int (L 4))]) 71 (fun L => [])) ∧ (bT p l e (headSpec w_x_target ({ frames := 326, cells := 0, slots := 0, locals := 10058 })).room s m #[.ref (a 0)] below meth c dC dI cy a A (qI dC dI cy a A below #[.ref (a 0)] s) 5 (x_target k 4) (fun L => [(0, .ref (a 0)), (1, .int (L 1)), (2, .int (L 2)), (3, .int (L 3)), (4, .int (L 4))]) 84 (fun L => [.int (L 100), .ref (a 0), .ref (a 0)])) ∧ (bT p l e (headSpec w_x_target ({ frames := 326, cells := 0, slots := 0, locals := 10058 })).room s m #[.ref (a 0)] below meth c dC dI cy a A (qI dC dI cy a A below #[.ref (a 0)] s) 5 (x_target k 5) (fun L => [(0, .ref (a 0)), (1, .int (L 1)), (2, .int (L 2)), (3, .int (L 3)), (4, .int (L 4))]) 85 (fun L => [.int (L 100), .int (L 101), .ref (a 0), .ref (a 0)])) ∧ (bT p l e (headSpec w_x_target ({ frames := 326, cells := 0, slots := 0, locals := 10058 })).room s m #[.ref (a 0)] below meth c dC dI cy a A (qI dC dI cy a A below #[.ref (a 0)] s) 5 (x_target k 6) (fun L => [(0, .ref (a 0)), (1, .int (L 1)), (2, .int (L 2)), (3, .int (L 3)), (4, .int (L 4))]) 93 (fun L => [.int (L 100)])) := by
    intro k
    induction k with
    | zero => exact ⟨fun L σ r h => (by cases h), fun L σ r h => (by cases h), fun L σ r h => (by cases h), fun L σ r h => (by cases h), fun L σ r h => (by cases h), fun L σ r h => (by cases h), fun L σ r h => (by cases h)⟩
    | succ k ih =>
      refine ⟨?_, ?_, ?_, ?_, ?_, ?_, ?_⟩
      · intro L σ r h H locs ls hP hD hS hl
        rw [x_target] at h
        refine lv_aload_n hx hb dX12_target_0 rfl (lv_at hl 0 rfl) ?_
        obtain ⟨r1, hc1, h⟩ := ob_ex h
        refine nc_Vv (As := []) (rest := []) ⟨hx, hb, hml, hown, hts⟩ (c_x_wantName l dC dI cy a k (fun _ => 0) σ r1 hc1 H.size) (cwV 0 hts g_x_target_wantName_279 rfl rfl rfl hd_x_wantName ⟨Nat.le_of_ble_eq_true rfl, Nat.le_of_ble_eq_true rfl⟩) hK hG hA hP hD hS rfl hl.1 rfl (Nat.le_of_ble_eq_true rfl) dX12_target_1 ⟨Nat.le_refl _, Nat.le_refl _⟩ (fun H locs hP hD hS => ?_)
        refine lv_aload_n hx hb dX12_target_4 rfl (lv_at hl 0 rfl) ?_
        refine ng_10 hx hb hts in_x_target hown hK hP (hts _ (List.mem_cons_of_mem _ (List.mem_append_left _ (List.mem_append_left _ (List.mem_of_getElem? (i := 4) rfl))))) dX12_target_5 ?_
        refine lv_if_eq (tgt := 13) hx hb dX12_target_8 (by decide) (fun c2 => ?_) (fun c2 => ?_)
        · rw [if_pos c2] at h
          exact ih.2.1 L r1.2 r h H locs ls hP hD hS (lv_sub hl [0] rfl)
        · rw [if_neg c2] at h
          refine lv_iconst (v := 0) hx hb dX12_target_11 (by decide) ?_
          cases h
          exact W.iret (v := 0) hx hb hr (fun t ht hW => ⟨⟨0, (), rfl, rfl, by rw [ht]; exact hP, va_K.moved hW.alike hK, hD⟩, hS.F ht⟩) hS.2.2 dX12_target_12
      · intro L σ r h H locs ls hP hD hS hl
        rw [x_target] at h
        refine lv_aload_n hx hb dX12_target_13 rfl (lv_at hl 0 rfl) ?_
        refine ng_8 hx hb hts in_x_target hown hK hP (hts _ (List.mem_cons_of_mem _ (List.mem_append_left _ (List.mem_append_left _ (List.mem_of_getElem? (i := 5) rfl))))) dX12_target_14 ?_
        refine lv_istore_n (lv' := [(1, .int (σ.1 8)), (0, .ref (a 0))]) hx hb dX12_target_17 rfl hl (by decide) rfl (fun ls hl => ?_)
        refine lv_aload_n hx hb dX12_target_18 rfl (lv_at hl 1 rfl) ?_
        obtain ⟨r1, hc1, h⟩ := ob_ex h
        refine nc_Vv (As := []) (rest := []) ⟨hx, hb, hml, hown, hts⟩ (c_x_find l dC dI cy a k (fun _ => 0) σ r1 hc1 H.size) (cwV 0 hts g_x_target_find_236 rfl rfl rfl hd_x_find ⟨Nat.le_of_ble_eq_true rfl, Nat.le_of_ble_eq_true rfl⟩) hK hG hA hP hD hS rfl hl.1 rfl (Nat.le_of_ble_eq_true rfl) dX12_target_19 ⟨Nat.le_refl _, Nat.le_refl _⟩ (fun H locs hP hD hS => ?_)
        refine lv_aload_n hx hb dX12_target_22 rfl (lv_at hl 1 rfl) ?_
        refine ng_46 hx hb hts in_x_target hown hK hP (hts _ (List.mem_cons_of_mem _ (List.mem_append_left _ (List.mem_append_left _ (List.mem_of_getElem? (i := 9) rfl))))) dX12_target_23 ?_
        refine lv_istore_n (lv' := [(2, .int (r1.2.1 46)), (1, .int (σ.1 8)), (0, .ref (a 0))]) hx hb dX12_target_26 rfl hl (by decide) rfl (fun ls hl => ?_)
        refine lv_aload_n hx hb dX12_target_27 rfl (lv_at hl 2 rfl) ?_
        refine ng_47 hx hb hts in_x_target hown hK hP (hts _ (List.mem_cons_of_mem _ (List.mem_append_left _ (List.mem_append_left _ (List.mem_of_getElem? (i := 10) rfl))))) dX12_target_28 ?_
        refine lv_istore_n (lv' := [(3, .int (r1.2.1 47)), (2, .int (r1.2.1 46)), (1, .int (σ.1 8)), (0, .ref (a 0))]) hx hb dX12_target_31 rfl hl (by decide) rfl (fun ls hl => ?_)
        refine lv_aload_n hx hb dX12_target_32 rfl (lv_at hl 3 rfl) ?_
        refine ng_48 hx hb hts in_x_target hown hK hP (hts _ (List.mem_cons_of_mem _ (List.mem_append_left _ (List.mem_append_left _ (List.mem_of_getElem? (i := 11) rfl))))) dX12_target_33 ?_
        refine lv_istore (lv' := [(4, .int (r1.2.1 48)), (3, .int (r1.2.1 47)), (2, .int (r1.2.1 46)), (1, .int (σ.1 8)), (0, .ref (a 0))]) hx hb dX12_target_36 hl (by decide) rfl (fun ls hl => ?_)
        refine lv_aload_n hx hb dX12_target_38 rfl (lv_at hl 4 rfl) ?_
        obtain ⟨r2, hc2, h⟩ := ob_ex h
        refine nc_Vv (As := []) (rest := []) ⟨hx, hb, hml, hown, hts⟩ (c_x_take l dC dI cy a k (fun _ => 0) r1.2 r2 hc2 H.size) (cwV 0 hts g_x_target_take_71 rfl rfl rfl hd_x_take ⟨Nat.le_of_ble_eq_true rfl, Nat.le_of_ble_eq_true rfl⟩) hK hG hA hP hD hS rfl hl.1 rfl (Nat.le_of_ble_eq_true rfl) dX12_target_39 ⟨Nat.le_refl _, Nat.le_refl _⟩ (fun H locs hP hD hS => ?_)
        refine lv_aload_n hx hb dX12_target_42 rfl (lv_at hl 4 rfl) ?_
        refine ng_10 hx hb hts in_x_target hown hK hP (hts _ (List.mem_cons_of_mem _ (List.mem_append_left _ (List.mem_append_left _ (List.mem_of_getElem? (i := 4) rfl))))) dX12_target_43 ?_
        refine lv_if_ne (tgt := 60) hx hb dX12_target_46 (by decide) (fun c3 => ?_) (fun c3 => ?_)
        · rw [if_neg c3] at h
          exact ih.2.2.1 (upd (upd (upd (upd L 1 ((σ.1 8))) 2 ((r1.2.1 46))) 3 ((r1.2.1 47))) 4 ((r1.2.1 48))) r2.2 r h H locs ls hP hD hS (lv_sub hl [4, 3, 2, 1, 0] rfl)
        · rw [if_pos c3] at h
          refine lv_iload_n hx hb dX12_target_49 rfl (lv_at hl 2 rfl) ?_
          refine lv_iconst (v := 1) hx hb dX12_target_50 (by decide) ?_
          refine lv_icmp_eq (tgt := 60) hx hb dX12_target_51 (by decide) (fun c4 => ?_) (fun c4 => ?_)
          · rw [if_pos c4] at h
            exact ih.2.2.1 (upd (upd (upd (upd L 1 ((σ.1 8))) 2 ((r1.2.1 46))) 3 ((r1.2.1 47))) 4 ((r1.2.1 48))) r2.2 r h H locs ls hP hD hS (lv_sub hl [4, 3, 2, 1, 0] rfl)
          · rw [if_neg c4] at h
            refine lv_aload_n hx hb dX12_target_54 rfl (lv_at hl 4 rfl) ?_
            refine lv_iconst (v := 5) hx hb dX12_target_55 (by decide) ?_
            refine lv_iload_n hx hb dX12_target_56 rfl (lv_at hl 3 rfl) ?_
            obtain ⟨r5, hc5, h⟩ := ob_ex h
            refine nc_Vv (As := [.int 5, .int (σ.1 8)]) (rest := []) ⟨hx, hb, hml, hown, hts⟩ (c_x_fault l dC dI cy a k (upd (upd (fun _ => 0) 1 5) 2 ((σ.1 8))) r2.2 r5 hc5 H.size) (cwV 2 hts g_x_target_fault_58 rfl rfl rfl hd_x_fault ⟨Nat.le_of_ble_eq_true rfl, Nat.le_of_ble_eq_true rfl⟩) hK hG hA hP hD hS rfl hl.1 rfl (Nat.le_of_ble_eq_true rfl) dX12_target_57 ⟨Nat.le_refl _, Nat.le_refl _⟩ (fun H locs hP hD hS => ?_)
            exact ih.2.2.1 (upd (upd (upd (upd L 1 ((σ.1 8))) 2 ((r1.2.1 46))) 3 ((r1.2.1 47))) 4 ((r1.2.1 48))) r5.2 r h H locs ls hP hD hS (lv_sub hl [4, 3, 2, 1, 0] rfl)
      · intro L σ r h H locs ls hP hD hS hl
        rw [x_target] at h
        refine lv_aload_n hx hb dX12_target_60 rfl (lv_at hl 0 rfl) ?_
        refine ng_10 hx hb hts in_x_target hown hK hP (hts _ (List.mem_cons_of_mem _ (List.mem_append_left _ (List.mem_append_left _ (List.mem_of_getElem? (i := 4) rfl))))) dX12_target_61 ?_
        refine lv_if_eq (tgt := 71) hx hb dX12_target_64 (by decide) (fun c1 => ?_) (fun c1 => ?_)
        · rw [if_pos c1] at h
          exact ih.2.2.2.1 L σ r h H locs ls hP hD hS (lv_sub hl [0, 1, 2, 3, 4] rfl)
        · rw [if_neg c1] at h
          refine lv_iconst (v := 0) hx hb dX12_target_67 (by decide) ?_
          refine lv_goto (tgt := 93) hx hb dX12_target_68 (by decide) ?_
          exact ih.2.2.2.2.2.2 (upd L 100 0) σ r h H locs ls hP hD hS (lv_sub hl [0, 1, 2, 3, 4] rfl)
      · intro L σ r h H locs ls hP hD hS hl
        rw [x_target] at h
        refine lv_aload_n hx hb dX12_target_71 rfl (lv_at hl 0 rfl) ?_
        refine lv_aload_n hx hb dX12_target_72 rfl (lv_at hl 0 rfl) ?_
        refine lv_bipush (v := 7) hx hb dX12_target_73 (by decide) ?_
        refine lv_iload hx hb dX12_target_75 (lv_at hl 4 rfl) ?_
        refine lv_if_eq (tgt := 84) hx hb dX12_target_77 (by decide) (fun c1 => ?_) (fun c1 => ?_)
        · rw [if_pos c1] at h
          exact ih.2.2.2.2.1 (upd L 100 7) σ r h H locs ls hP hD hS (lv_sub hl [0, 1, 2, 3, 4] rfl)
        · rw [if_neg c1] at h
          refine lv_iconst (v := 1) hx hb dX12_target_80 (by decide) ?_
          refine lv_goto (tgt := 85) hx hb dX12_target_81 (by decide) ?_
          exact ih.2.2.2.2.2.1 (upd (upd L 100 1) 101 7) σ r h H locs ls hP hD hS (lv_sub hl [0, 1, 2, 3, 4] rfl)
      · intro L σ r h H locs ls hP hD hS hl
        rw [x_target] at h
        refine lv_iconst (v := 0) hx hb dX12_target_84 (by decide) ?_
        exact ih.2.2.2.2.2.1 (upd (upd L 100 0) 101 ((L 100))) σ r h H locs ls hP hD hS (lv_sub hl [0, 1, 2, 3, 4] rfl)
      · intro L σ r h H locs ls hP hD hS hl
        rw [x_target] at h
        refine lv_iload_n hx hb dX12_target_85 rfl (lv_at hl 3 rfl) ?_
        refine lv_iconst (v := 0) hx hb dX12_target_86 (by decide) ?_
        obtain ⟨r1, hc1, h⟩ := ob_ex h
        refine nc_Vi (As := [.int (L 101), .int (L 100), .int (L 3), .int 0]) (rest := [.ref (a 0)]) ⟨hx, hb, hml, hown, hts⟩ (c_x_node l dC dI cy a k (upd (upd (upd (upd (fun _ => 0) 1 ((L 101))) 2 ((L 100))) 3 ((L 3))) 4 0) σ r1 hc1 H.size) (cwV 4 hts g_x_target_node_101 rfl rfl rfl hd_x_node ⟨Nat.le_of_ble_eq_true rfl, Nat.le_of_ble_eq_true rfl⟩) hK hG hA hP hD hS rfl hl.1 rfl (Nat.le_of_ble_eq_true rfl) dX12_target_87 ⟨Nat.le_refl _, Nat.le_refl _⟩ (fun H locs hP hD hS => ?_)
        obtain ⟨r2, hc2, h⟩ := ob_ex h
        refine nc_Vi (As := [.int r1.1]) (rest := []) ⟨hx, hb, hml, hown, hts⟩ (c_x_parts l dC dI cy a k (upd (fun _ => 0) 1 r1.1) r1.2 r2 hc2 H.size) (cwV 1 hts g_x_target_parts_206 rfl rfl rfl hd_x_parts ⟨Nat.le_of_ble_eq_true rfl, Nat.le_of_ble_eq_true rfl⟩) hK hG hA hP hD hS rfl hl.1 rfl (Nat.le_of_ble_eq_true rfl) dX12_target_90 ⟨Nat.le_refl _, Nat.le_refl _⟩ (fun H locs hP hD hS => ?_)
        exact ih.2.2.2.2.2.2 (upd L 100 r2.1) r2.2 r h H locs ls hP hD hS (lv_sub hl [0, 1, 2, 3, 4] rfl)
      · intro L σ r h H locs ls hP hD hS hl
        rw [x_target] at h
        cases h
        exact W.iret (v := (L 100)) hx hb hr (fun t ht hW => ⟨⟨(L 100), (), rfl, rfl, by rw [ht]; exact hP, va_K.moved hW.alike hK, hD⟩, hS.F ht⟩) hS.2.2 dX12_target_93
  exact (blk k0).1 L0 σ0 r0 h0 s.heap [] ls hP hD hS hl
/-! begun -/
def x_begun : Nat → Nat → (Nat → Int32) → MS → Option (Int32 × MS)
  | 0, _, _, _ => none
  | k + 1, 0, L, σ => ob (x_find k 0 (fun _ => 0) σ) (fun r1 => if ((r1.2.1 46)) = 3 then (ob (x_call k 0 (upd (fun _ => 0) 1 ((-1))) r1.2) (fun r3 => some (r3.1, r3.2))) else (x_begun k 1 L r1.2))
  | k + 1, 1, L, σ => ob (x_target k 0 (fun _ => 0) σ) (fun r1 => if ((r1.2.1 10)) = 0 then (x_begun k 2 (upd L 1 r1.1) r1.2) else (some (0, r1.2)))
  | k + 1, 2, L, σ => ob (x_isSign k 0 (upd (fun _ => 0) 1 2) σ) (fun r1 => if r1.1 = 0 then (ob (x_isSign k 0 (upd (fun _ => 0) 1 3) r1.2) (fun r3 => if r3.1 = 0 then (ob (x_isSign k 0 (upd (fun _ => 0) 1 4) r3.2) (fun r5 => if r5.1 = 0 then (x_begun k 4 L r5.2) else (x_begun k 3 L r5.2))) else (x_begun k 3 L r3.2))) else (x_begun k 3 L r1.2))
  | k + 1, 3, L, σ => ob (x_operator k 0 (fun _ => 0) σ) (fun r1 => ob (x_take k 0 (fun _ => 0) r1.2) (fun r2 => ob (x_want k 0 (upd (fun _ => 0) 1 1) r2.2) (fun r3 => ob (x_exp k 0 (fun _ => 0) r3.2) (fun r4 => ob (x_want k 0 (upd (fun _ => 0) 1 13) r4.2) (fun r5 => ob (x_node k 0 (upd (upd (upd (upd (fun _ => 0) 1 41) 2 ((L 1))) 3 r4.1) 4 r1.1) r5.2) (fun r6 => some (r6.1, r6.2)))))))
  | k + 1, 4, L, σ => ob (x_isWord k 0 (upd (fun _ => 0) 1 25) σ) (fun r1 => if r1.1 = 0 then (ob (x_isWord k 0 (upd (fun _ => 0) 1 26) r1.2) (fun r3 => if r3.1 = 0 then (ob (x_isWord k 0 (upd (fun _ => 0) 1 27) r3.2) (fun r5 => if r5.1 = 0 then (x_begun k 6 L r5.2) else (x_begun k 5 L r5.2))) else (x_begun k 5 L r3.2))) else (x_begun k 5 L r1.2))
  | k + 1, 5, L, σ => ob (x_take k 0 (fun _ => 0) σ) (fun r1 => ob (x_target k 0 (fun _ => 0) r1.2) (fun r2 => ob (x_want k 0 (upd (fun _ => 0) 1 13) r2.2) (fun r3 => ob (x_node k 0 (upd (upd (upd (upd (fun _ => 0) 1 43) 2 ((L 1))) 3 r2.1) 4 ((σ.1 7))) r3.2) (fun r4 => some (r4.1, r4.2)))))
  | k + 1, 6, L, σ => ob (x_want k 0 (upd (fun _ => 0) 1 1) σ) (fun r1 => if ((r1.2.1 10)) = 0 then (x_begun k 7 L r1.2) else (some (0, r1.2)))
  | k + 1, 7, L, σ => ob (x_isWord k 0 (upd (fun _ => 0) 1 31) σ) (fun r1 => if r1.1 = 0 then (x_begun k 9 L r1.2) else (if ¬ (((L 1)) < 0 ∨ 70000 ≤ ((L 1)).toNatClampNeg) then (if ((r1.2.2.2 4 ((L 1)).toNatClampNeg)) = 7 then (x_begun k 8 L r1.2) else (ob (x_cannot k 0 (fun _ => 0) r1.2) (fun r5 => some (0, r5.2)))) else none))
  | k + 1, 8, L, σ => ob (x_take k 0 (fun _ => 0) σ) (fun r1 => ob (x_want k 0 (upd (fun _ => 0) 1 13) r1.2) (fun r2 => ob (x_node k 0 (upd (upd (upd (upd (fun _ => 0) 1 44) 2 ((L 1))) 3 0) 4 0) r2.2) (fun r3 => some (r3.1, r3.2))))
  | k + 1, 9, L, σ => if ((σ.1 6)) = 1 then (ob (x_find k 0 (fun _ => 0) σ) (fun r2 => if ((r2.2.1 46)) = 3 then (ob (x_call k 0 (upd (fun _ => 0) 1 ((L 1))) r2.2) (fun r4 => some (r4.1, r4.2))) else (x_begun k 10 L r2.2))) else (x_begun k 10 L σ)
  | k + 1, 10, L, σ => ob (x_exp k 0 (fun _ => 0) σ) (fun r1 => ob (x_want k 0 (upd (fun _ => 0) 1 13) r1.2) (fun r2 => ob (x_node k 0 (upd (upd (upd (upd (fun _ => 0) 1 40) 2 ((L 1))) 3 r1.1) 4 0) r2.2) (fun r3 => some (r3.1, r3.2))))
  | _ + 1, _ + 11, _, _ => none
def o_x_begun : List Cond := [.methodLink RX12 236 yX12_find, .instanceMethod yX12_find, .selects RX12 yX12_find yX12_find, .initialized RX12, .fieldLink RX12 111 "SetHouseModel" "foundKind" "I", .methodLink RX12 324 yX12_call, .instanceMethod yX12_call, .selects RX12 yX12_call yX12_call, .methodLink RX12 327 yX12_target, .instanceMethod yX12_target, .selects RX12 yX12_target yX12_target, .fieldLink RX12 11 "SetHouseModel" "bad" "Z", .methodLink RX12 65 yX12_isSign, .instanceMethod yX12_isSign, .selects RX12 yX12_isSign yX12_isSign, .methodLink RX12 187 yX12_operator, .instanceMethod yX12_operator, .selects RX12 yX12_operator yX12_operator, .methodLink RX12 71 yX12_take, .instanceMethod yX12_take, .selects RX12 yX12_take yX12_take, .methodLink RX12 199 yX12_want, .instanceMethod yX12_want, .selects RX12 yX12_want yX12_want, .methodLink RX12 209 yX12_exp, .instanceMethod yX12_exp, .selects RX12 yX12_exp yX12_exp, .methodLink RX12 101 yX12_node, .instanceMethod yX12_node, .selects RX12 yX12_node yX12_node, .methodLink RX12 74 yX12_isWord, .instanceMethod yX12_isWord, .selects RX12 yX12_isWord yX12_isWord, .fieldLink RX12 49 "SetHouseModel" "tWhat" "I", .fieldLink RX12 83 "SetHouseModel" "op" "[I", .methodLink RX12 68 yX12_cannot, .instanceMethod yX12_cannot, .selects RX12 yX12_cannot yX12_cannot, .fieldLink RX12 35 "SetHouseModel" "tKind" "I"]
theorem o_x_begun_good : o_x_begun.all goodWord = true := by decide +kernel
def p_x_begun : List Cond := o_x_begun ++ ((.code yX12_find cX12_find 2 none :: p_x_find) ++ ((.code yX12_call cX12_call 9 (some .int) :: p_x_call) ++ ((.code yX12_target cX12_target 5 (some .int) :: p_x_target) ++ ((.code yX12_isSign cX12_isSign 2 (some .boolean) :: p_x_isSign) ++ ((.code yX12_operator cX12_operator 1 (some .int) :: p_x_operator) ++ ((.code yX12_take cX12_take 2 none :: p_x_take) ++ ((.code yX12_want cX12_want 2 none :: p_x_want) ++ ((.code yX12_exp cX12_exp 2 (some .int) :: p_x_GE) ++ ((.code yX12_node cX12_node 6 (some .int) :: p_x_node) ++ ((.code yX12_isWord cX12_isWord 2 (some .boolean) :: p_x_isWord) ++ ((.code yX12_cannot cX12_cannot 1 none :: p_x_cannot) ++ [])))))))))))
theorem p_x_begun_good : p_x_begun.all goodWord = true := nb_all2 o_x_begun_good (nb_all2 (nb_allc (by decide +kernel) p_x_find_good) (nb_all2 (nb_allc (by decide +kernel) p_x_call_good) (nb_all2 (nb_allc (by decide +kernel) p_x_target_good) (nb_all2 (nb_allc (by decide +kernel) p_x_isSign_good) (nb_all2 (nb_allc (by decide +kernel) p_x_operator_good) (nb_all2 (nb_allc (by decide +kernel) p_x_take_good) (nb_all2 (nb_allc (by decide +kernel) p_x_want_good) (nb_all2 (nb_allc (by decide +kernel) p_x_GE_good) (nb_all2 (nb_allc (by decide +kernel) p_x_node_good) (nb_all2 (nb_allc (by decide +kernel) p_x_isWord_good) (nb_all2 (nb_allc (by decide +kernel) p_x_cannot_good) rfl)))))))))))
def w_x_begun : List Cond := .code yX12_begun cX12_begun 4 (some .int) :: (p_x_begun ++ fM)
theorem w_x_begun_good : w_x_begun.all goodWord = true := nb_allc (by decide +kernel) (nb_all2 p_x_begun_good fM_good)
theorem in_x_begun : ∀ w ∈ wsX120, w ∈ w_x_begun := fun _ h => List.mem_cons_of_mem _ (List.mem_append_right _ h)
theorem hd_x_begun : yX12_begun.cls = RX12 ∧ yX12_begun.cls ≠ "java/lang/invoke/MethodHandle" ∧ yX12_begun.cls ≠ "java/lang/invoke/VarHandle" ∧ (parseMethodDescriptor yX12_begun.desc).map (fun d => d.parameters.length) = some 0 := by decide +kernel
theorem gg_x_begun_call : GoodIn w_x_begun w_x_call := goodIn_sub (fun w h => (List.mem_cons.mp h).elim (fun e => (List.mem_cons_of_mem _ (List.mem_append_left _ (List.mem_append_right _ (List.mem_append_right _ (List.mem_append_left _ (List.mem_cons.mpr (Or.inl e)))))))) (fun h => (List.mem_append.mp h).elim (fun h => (List.mem_cons_of_mem _ (List.mem_append_left _ (List.mem_append_right _ (List.mem_append_right _ (List.mem_append_left _ (List.mem_cons_of_mem _ h))))))) (fun h => List.mem_cons_of_mem _ (List.mem_append_right _ h)))) w_x_call_good
theorem g_x_begun_call_324 : GoodIn w_x_begun (wsV RX12 324 RX12 yX12_call w_x_call) := goodIn_app (nb_g4 (List.mem_cons_of_mem _ (List.mem_append_left _ (List.mem_append_left _ (List.mem_of_getElem? (i := 5) rfl)))) (List.mem_cons_of_mem _ (List.mem_append_left _ (List.mem_append_left _ (List.mem_of_getElem? (i := 6) rfl)))) (List.mem_cons_of_mem _ (List.mem_append_left _ (List.mem_append_left _ (List.mem_of_getElem? (i := 7) rfl)))) (List.mem_cons_of_mem _ (List.mem_append_left _ (List.mem_append_left _ (List.mem_of_getElem? (i := 3) rfl)))) (by decide +kernel)) gg_x_begun_call
theorem gg_x_begun_cannot : GoodIn w_x_begun w_x_cannot := goodIn_sub (fun w h => (List.mem_cons.mp h).elim (fun e => (List.mem_cons_of_mem _ (List.mem_append_left _ (List.mem_append_right _ (List.mem_append_right _ (List.mem_append_right _ (List.mem_append_right _ (List.mem_append_right _ (List.mem_append_right _ (List.mem_append_right _ (List.mem_append_right _ (List.mem_append_right _ (List.mem_append_right _ (List.mem_append_right _ (List.mem_append_left _ (List.mem_cons.mpr (Or.inl e))))))))))))))))) (fun h => (List.mem_append.mp h).elim (fun h => (List.mem_cons_of_mem _ (List.mem_append_left _ (List.mem_append_right _ (List.mem_append_right _ (List.mem_append_right _ (List.mem_append_right _ (List.mem_append_right _ (List.mem_append_right _ (List.mem_append_right _ (List.mem_append_right _ (List.mem_append_right _ (List.mem_append_right _ (List.mem_append_right _ (List.mem_append_left _ (List.mem_cons_of_mem _ h)))))))))))))))) (fun h => List.mem_cons_of_mem _ (List.mem_append_right _ h)))) w_x_cannot_good
theorem g_x_begun_cannot_68 : GoodIn w_x_begun (wsV RX12 68 RX12 yX12_cannot w_x_cannot) := goodIn_app (nb_g4 (List.mem_cons_of_mem _ (List.mem_append_left _ (List.mem_append_left _ (List.mem_of_getElem? (i := 35) rfl)))) (List.mem_cons_of_mem _ (List.mem_append_left _ (List.mem_append_left _ (List.mem_of_getElem? (i := 36) rfl)))) (List.mem_cons_of_mem _ (List.mem_append_left _ (List.mem_append_left _ (List.mem_of_getElem? (i := 37) rfl)))) (List.mem_cons_of_mem _ (List.mem_append_left _ (List.mem_append_left _ (List.mem_of_getElem? (i := 3) rfl)))) (by decide +kernel)) gg_x_begun_cannot
theorem gg_x_begun_exp : GoodIn w_x_begun w_x_exp := goodIn_sub (fun w h => (List.mem_cons.mp h).elim (fun e => (List.mem_cons_of_mem _ (List.mem_append_left _ (List.mem_append_right _ (List.mem_append_right _ (List.mem_append_right _ (List.mem_append_right _ (List.mem_append_right _ (List.mem_append_right _ (List.mem_append_right _ (List.mem_append_right _ (List.mem_append_left _ (List.mem_cons.mpr (Or.inl e)))))))))))))) (fun h => (List.mem_append.mp h).elim (fun h => (List.mem_cons_of_mem _ (List.mem_append_left _ (List.mem_append_right _ (List.mem_append_right _ (List.mem_append_right _ (List.mem_append_right _ (List.mem_append_right _ (List.mem_append_right _ (List.mem_append_right _ (List.mem_append_right _ (List.mem_append_left _ (List.mem_cons_of_mem _ h))))))))))))) (fun h => List.mem_cons_of_mem _ (List.mem_append_right _ h)))) w_x_exp_good
theorem g_x_begun_exp_209 : GoodIn w_x_begun (wsV RX12 209 RX12 yX12_exp w_x_exp) := goodIn_app (nb_g4 (List.mem_cons_of_mem _ (List.mem_append_left _ (List.mem_append_left _ (List.mem_of_getElem? (i := 24) rfl)))) (List.mem_cons_of_mem _ (List.mem_append_left _ (List.mem_append_left _ (List.mem_of_getElem? (i := 25) rfl)))) (List.mem_cons_of_mem _ (List.mem_append_left _ (List.mem_append_left _ (List.mem_of_getElem? (i := 26) rfl)))) (List.mem_cons_of_mem _ (List.mem_append_left _ (List.mem_append_left _ (List.mem_of_getElem? (i := 3) rfl)))) (by decide +kernel)) gg_x_begun_exp
theorem gg_x_begun_find : GoodIn w_x_begun w_x_find := goodIn_sub (fun w h => (List.mem_cons.mp h).elim (fun e => (List.mem_cons_of_mem _ (List.mem_append_left _ (List.mem_append_right _ (List.mem_append_left _ (List.mem_cons.mpr (Or.inl e))))))) (fun h => (List.mem_append.mp h).elim (fun h => (List.mem_cons_of_mem _ (List.mem_append_left _ (List.mem_append_right _ (List.mem_append_left _ (List.mem_cons_of_mem _ h)))))) (fun h => List.mem_cons_of_mem _ (List.mem_append_right _ h)))) w_x_find_good
theorem g_x_begun_find_236 : GoodIn w_x_begun (wsV RX12 236 RX12 yX12_find w_x_find) := goodIn_app (nb_g4 (List.mem_cons_of_mem _ (List.mem_append_left _ (List.mem_append_left _ (List.mem_of_getElem? (i := 0) rfl)))) (List.mem_cons_of_mem _ (List.mem_append_left _ (List.mem_append_left _ (List.mem_of_getElem? (i := 1) rfl)))) (List.mem_cons_of_mem _ (List.mem_append_left _ (List.mem_append_left _ (List.mem_of_getElem? (i := 2) rfl)))) (List.mem_cons_of_mem _ (List.mem_append_left _ (List.mem_append_left _ (List.mem_of_getElem? (i := 3) rfl)))) (by decide +kernel)) gg_x_begun_find
theorem gg_x_begun_isSign : GoodIn w_x_begun w_x_isSign := goodIn_sub (fun w h => (List.mem_cons.mp h).elim (fun e => (List.mem_cons_of_mem _ (List.mem_append_left _ (List.mem_append_right _ (List.mem_append_right _ (List.mem_append_right _ (List.mem_append_right _ (List.mem_append_left _ (List.mem_cons.mpr (Or.inl e)))))))))) (fun h => (List.mem_append.mp h).elim (fun h => (List.mem_cons_of_mem _ (List.mem_append_left _ (List.mem_append_right _ (List.mem_append_right _ (List.mem_append_right _ (List.mem_append_right _ (List.mem_append_left _ (List.mem_cons_of_mem _ h))))))))) (fun h => List.mem_cons_of_mem _ (List.mem_append_right _ h)))) w_x_isSign_good
theorem g_x_begun_isSign_65 : GoodIn w_x_begun (wsV RX12 65 RX12 yX12_isSign w_x_isSign) := goodIn_app (nb_g4 (List.mem_cons_of_mem _ (List.mem_append_left _ (List.mem_append_left _ (List.mem_of_getElem? (i := 12) rfl)))) (List.mem_cons_of_mem _ (List.mem_append_left _ (List.mem_append_left _ (List.mem_of_getElem? (i := 13) rfl)))) (List.mem_cons_of_mem _ (List.mem_append_left _ (List.mem_append_left _ (List.mem_of_getElem? (i := 14) rfl)))) (List.mem_cons_of_mem _ (List.mem_append_left _ (List.mem_append_left _ (List.mem_of_getElem? (i := 3) rfl)))) (by decide +kernel)) gg_x_begun_isSign
theorem gg_x_begun_isWord : GoodIn w_x_begun w_x_isWord := goodIn_sub (fun w h => (List.mem_cons.mp h).elim (fun e => (List.mem_cons_of_mem _ (List.mem_append_left _ (List.mem_append_right _ (List.mem_append_right _ (List.mem_append_right _ (List.mem_append_right _ (List.mem_append_right _ (List.mem_append_right _ (List.mem_append_right _ (List.mem_append_right _ (List.mem_append_right _ (List.mem_append_right _ (List.mem_append_left _ (List.mem_cons.mpr (Or.inl e)))))))))))))))) (fun h => (List.mem_append.mp h).elim (fun h => (List.mem_cons_of_mem _ (List.mem_append_left _ (List.mem_append_right _ (List.mem_append_right _ (List.mem_append_right _ (List.mem_append_right _ (List.mem_append_right _ (List.mem_append_right _ (List.mem_append_right _ (List.mem_append_right _ (List.mem_append_right _ (List.mem_append_right _ (List.mem_append_left _ (List.mem_cons_of_mem _ h))))))))))))))) (fun h => List.mem_cons_of_mem _ (List.mem_append_right _ h)))) w_x_isWord_good
theorem g_x_begun_isWord_74 : GoodIn w_x_begun (wsV RX12 74 RX12 yX12_isWord w_x_isWord) := goodIn_app (nb_g4 (List.mem_cons_of_mem _ (List.mem_append_left _ (List.mem_append_left _ (List.mem_of_getElem? (i := 30) rfl)))) (List.mem_cons_of_mem _ (List.mem_append_left _ (List.mem_append_left _ (List.mem_of_getElem? (i := 31) rfl)))) (List.mem_cons_of_mem _ (List.mem_append_left _ (List.mem_append_left _ (List.mem_of_getElem? (i := 32) rfl)))) (List.mem_cons_of_mem _ (List.mem_append_left _ (List.mem_append_left _ (List.mem_of_getElem? (i := 3) rfl)))) (by decide +kernel)) gg_x_begun_isWord
theorem gg_x_begun_node : GoodIn w_x_begun w_x_node := goodIn_sub (fun w h => (List.mem_cons.mp h).elim (fun e => (List.mem_cons_of_mem _ (List.mem_append_left _ (List.mem_append_right _ (List.mem_append_right _ (List.mem_append_right _ (List.mem_append_right _ (List.mem_append_right _ (List.mem_append_right _ (List.mem_append_right _ (List.mem_append_right _ (List.mem_append_right _ (List.mem_append_left _ (List.mem_cons.mpr (Or.inl e))))))))))))))) (fun h => (List.mem_append.mp h).elim (fun h => (List.mem_cons_of_mem _ (List.mem_append_left _ (List.mem_append_right _ (List.mem_append_right _ (List.mem_append_right _ (List.mem_append_right _ (List.mem_append_right _ (List.mem_append_right _ (List.mem_append_right _ (List.mem_append_right _ (List.mem_append_right _ (List.mem_append_left _ (List.mem_cons_of_mem _ h)))))))))))))) (fun h => List.mem_cons_of_mem _ (List.mem_append_right _ h)))) w_x_node_good
theorem g_x_begun_node_101 : GoodIn w_x_begun (wsV RX12 101 RX12 yX12_node w_x_node) := goodIn_app (nb_g4 (List.mem_cons_of_mem _ (List.mem_append_left _ (List.mem_append_left _ (List.mem_of_getElem? (i := 27) rfl)))) (List.mem_cons_of_mem _ (List.mem_append_left _ (List.mem_append_left _ (List.mem_of_getElem? (i := 28) rfl)))) (List.mem_cons_of_mem _ (List.mem_append_left _ (List.mem_append_left _ (List.mem_of_getElem? (i := 29) rfl)))) (List.mem_cons_of_mem _ (List.mem_append_left _ (List.mem_append_left _ (List.mem_of_getElem? (i := 3) rfl)))) (by decide +kernel)) gg_x_begun_node
theorem gg_x_begun_operator : GoodIn w_x_begun w_x_operator := goodIn_sub (fun w h => (List.mem_cons.mp h).elim (fun e => (List.mem_cons_of_mem _ (List.mem_append_left _ (List.mem_append_right _ (List.mem_append_right _ (List.mem_append_right _ (List.mem_append_right _ (List.mem_append_right _ (List.mem_append_left _ (List.mem_cons.mpr (Or.inl e))))))))))) (fun h => (List.mem_append.mp h).elim (fun h => (List.mem_cons_of_mem _ (List.mem_append_left _ (List.mem_append_right _ (List.mem_append_right _ (List.mem_append_right _ (List.mem_append_right _ (List.mem_append_right _ (List.mem_append_left _ (List.mem_cons_of_mem _ h)))))))))) (fun h => List.mem_cons_of_mem _ (List.mem_append_right _ h)))) w_x_operator_good
theorem g_x_begun_operator_187 : GoodIn w_x_begun (wsV RX12 187 RX12 yX12_operator w_x_operator) := goodIn_app (nb_g4 (List.mem_cons_of_mem _ (List.mem_append_left _ (List.mem_append_left _ (List.mem_of_getElem? (i := 15) rfl)))) (List.mem_cons_of_mem _ (List.mem_append_left _ (List.mem_append_left _ (List.mem_of_getElem? (i := 16) rfl)))) (List.mem_cons_of_mem _ (List.mem_append_left _ (List.mem_append_left _ (List.mem_of_getElem? (i := 17) rfl)))) (List.mem_cons_of_mem _ (List.mem_append_left _ (List.mem_append_left _ (List.mem_of_getElem? (i := 3) rfl)))) (by decide +kernel)) gg_x_begun_operator
theorem gg_x_begun_take : GoodIn w_x_begun w_x_take := goodIn_sub (fun w h => (List.mem_cons.mp h).elim (fun e => (List.mem_cons_of_mem _ (List.mem_append_left _ (List.mem_append_right _ (List.mem_append_right _ (List.mem_append_right _ (List.mem_append_right _ (List.mem_append_right _ (List.mem_append_right _ (List.mem_append_left _ (List.mem_cons.mpr (Or.inl e)))))))))))) (fun h => (List.mem_append.mp h).elim (fun h => (List.mem_cons_of_mem _ (List.mem_append_left _ (List.mem_append_right _ (List.mem_append_right _ (List.mem_append_right _ (List.mem_append_right _ (List.mem_append_right _ (List.mem_append_right _ (List.mem_append_left _ (List.mem_cons_of_mem _ h))))))))))) (fun h => List.mem_cons_of_mem _ (List.mem_append_right _ h)))) w_x_take_good
theorem g_x_begun_take_71 : GoodIn w_x_begun (wsV RX12 71 RX12 yX12_take w_x_take) := goodIn_app (nb_g4 (List.mem_cons_of_mem _ (List.mem_append_left _ (List.mem_append_left _ (List.mem_of_getElem? (i := 18) rfl)))) (List.mem_cons_of_mem _ (List.mem_append_left _ (List.mem_append_left _ (List.mem_of_getElem? (i := 19) rfl)))) (List.mem_cons_of_mem _ (List.mem_append_left _ (List.mem_append_left _ (List.mem_of_getElem? (i := 20) rfl)))) (List.mem_cons_of_mem _ (List.mem_append_left _ (List.mem_append_left _ (List.mem_of_getElem? (i := 3) rfl)))) (by decide +kernel)) gg_x_begun_take
theorem gg_x_begun_target : GoodIn w_x_begun w_x_target := goodIn_sub (fun w h => (List.mem_cons.mp h).elim (fun e => (List.mem_cons_of_mem _ (List.mem_append_left _ (List.mem_append_right _ (List.mem_append_right _ (List.mem_append_right _ (List.mem_append_left _ (List.mem_cons.mpr (Or.inl e))))))))) (fun h => (List.mem_append.mp h).elim (fun h => (List.mem_cons_of_mem _ (List.mem_append_left _ (List.mem_append_right _ (List.mem_append_right _ (List.mem_append_right _ (List.mem_append_left _ (List.mem_cons_of_mem _ h)))))))) (fun h => List.mem_cons_of_mem _ (List.mem_append_right _ h)))) w_x_target_good
theorem g_x_begun_target_327 : GoodIn w_x_begun (wsV RX12 327 RX12 yX12_target w_x_target) := goodIn_app (nb_g4 (List.mem_cons_of_mem _ (List.mem_append_left _ (List.mem_append_left _ (List.mem_of_getElem? (i := 8) rfl)))) (List.mem_cons_of_mem _ (List.mem_append_left _ (List.mem_append_left _ (List.mem_of_getElem? (i := 9) rfl)))) (List.mem_cons_of_mem _ (List.mem_append_left _ (List.mem_append_left _ (List.mem_of_getElem? (i := 10) rfl)))) (List.mem_cons_of_mem _ (List.mem_append_left _ (List.mem_append_left _ (List.mem_of_getElem? (i := 3) rfl)))) (by decide +kernel)) gg_x_begun_target
theorem gg_x_begun_want : GoodIn w_x_begun w_x_want := goodIn_sub (fun w h => (List.mem_cons.mp h).elim (fun e => (List.mem_cons_of_mem _ (List.mem_append_left _ (List.mem_append_right _ (List.mem_append_right _ (List.mem_append_right _ (List.mem_append_right _ (List.mem_append_right _ (List.mem_append_right _ (List.mem_append_right _ (List.mem_append_left _ (List.mem_cons.mpr (Or.inl e))))))))))))) (fun h => (List.mem_append.mp h).elim (fun h => (List.mem_cons_of_mem _ (List.mem_append_left _ (List.mem_append_right _ (List.mem_append_right _ (List.mem_append_right _ (List.mem_append_right _ (List.mem_append_right _ (List.mem_append_right _ (List.mem_append_right _ (List.mem_append_left _ (List.mem_cons_of_mem _ h)))))))))))) (fun h => List.mem_cons_of_mem _ (List.mem_append_right _ h)))) w_x_want_good
theorem g_x_begun_want_199 : GoodIn w_x_begun (wsV RX12 199 RX12 yX12_want w_x_want) := goodIn_app (nb_g4 (List.mem_cons_of_mem _ (List.mem_append_left _ (List.mem_append_left _ (List.mem_of_getElem? (i := 21) rfl)))) (List.mem_cons_of_mem _ (List.mem_append_left _ (List.mem_append_left _ (List.mem_of_getElem? (i := 22) rfl)))) (List.mem_cons_of_mem _ (List.mem_append_left _ (List.mem_append_left _ (List.mem_of_getElem? (i := 23) rfl)))) (List.mem_cons_of_mem _ (List.mem_append_left _ (List.mem_append_left _ (List.mem_of_getElem? (i := 3) rfl)))) (by decide +kernel)) gg_x_begun_want
set_option maxHeartbeats 40000000 in
set_option maxRecDepth 100000 in
theorem c_x_begun (l : Launch) (dC : Nat → ClassId) (dI : Nat → Nat → Nat) (cy : Nat → ClassId) (a : Nat → Nat) (k0 : Nat) (L0 : Nat → Int32) (σ0 : MS) (r0 : Int32 × MS) (h0 : x_begun k0 0 L0 σ0 = some r0) (sz : Nat) : Met l yX12_begun w_x_begun ({ frames := 327, cells := 0, slots := 0, locals := 10082 }) (va_Pc [.ref (a 0)] (nIn (dC, dI) cy sz (vM cy a σ0))) (va_Qi (fun (z : Int32) (_ : Unit) => z = r0.1) (fun _ t => nOut (dC, dI) cy (va_A (vM cy a σ0) sz) (vM cy a r0.2) t) (va_A (vM cy a σ0) sz)) 0 0 (va_A (vM cy a σ0) sz) := by
  refine Met.ofW (cc := cX12_begun) (maxL := 4) (ret := (some .int)) (by decide) rfl ?_
  intro p e s m args below meth c s₁ B hml hv
  obtain ⟨rfl, hsz, hP, hK, hD0, hG⟩ := hv
  have hx := B.exec
  have hb := B.bytes
  have hr := B.returns
  have hts := atoms_spec (ws := w_x_begun) B.pre
  have hown : s.vm.findClass RX12 = some m.cls := findClass_of_methodNamed B.named
  have hlocks := B.notSynchronized
  subst hsz
  have hD := hD0.self (sz := s.heap.size)
  generalize hAe : va_A (vM cy a σ0) s.heap.size = A at hD ⊢
  have hA : ∀ q : Nat, s.heap.size ≤ q → A q := fun q h => by rw [← hAe]; exact Or.inr h
  have hS : va_S A s.heap s.heap [] := va_S.rf
  have hl := lv_entry ([.ref (a 0)]) (n := 4) (Nat.le_of_ble_eq_true rfl)
  rw [lg_entry_eq]
  generalize (lg_sl ([.ref (a 0)]) ++ List.replicate (4 - (lg_sl ([.ref (a 0)])).length) Slot.unset).toArray = ls at hl ⊢
  have hl : lv_has ls 4 [(0, .ref (a 0))] := hl
  have blk : ∀ k : Nat, (bT p l e (headSpec w_x_begun ({ frames := 327, cells := 0, slots := 0, locals := 10082 })).room s m #[.ref (a 0)] below meth c dC dI cy a A (qI dC dI cy a A below #[.ref (a 0)] s) 4 (x_begun k 0) (fun L => [(0, .ref (a 0))]) 0 (fun L => [])) ∧ (bT p l e (headSpec w_x_begun ({ frames := 327, cells := 0, slots := 0, locals := 10082 })).room s m #[.ref (a 0)] below meth c dC dI cy a A (qI dC dI cy a A below #[.ref (a 0)] s) 4 (x_begun k 1) (fun L => [(0, .ref (a 0))]) 18 (fun L => [])) ∧ (bT p l e (headSpec w_x_begun ({ frames := 327, cells := 0, slots := 0, locals := 10082 })).room s m #[.ref (a 0)] below meth c dC dI cy a A (qI dC dI cy a A below #[.ref (a 0)] s) 4 (x_begun k 2) (fun L => [(0, .ref (a 0)), (1, .int (L 1))]) 32 (fun L => [])) ∧ (bT p l e (headSpec w_x_begun ({ frames := 327, cells := 0, slots := 0, locals := 10082 })).room s m #[.ref (a 0)] below meth c dC dI cy a A (qI dC dI cy a A below #[.ref (a 0)] s) 4 (x_begun k 3) (fun L => [(0, .ref (a 0)), (1, .int (L 1))]) 56 (fun L => [])) ∧ (bT p l e (headSpec w_x_begun ({ frames := 327, cells := 0, slots := 0, locals := 10082 })).room s m #[.ref (a 0)] below meth c dC dI cy a A (qI dC dI cy a A below #[.ref (a 0)] s) 4 (x_begun k 4) (fun L => [(0, .ref (a 0)), (1, .int (L 1))]) 91 (fun L => [])) ∧ (bT p l e (headSpec w_x_begun ({ frames := 327, cells := 0, slots := 0, locals := 10082 })).room s m #[.ref (a 0)] below meth c dC dI cy a A (qI dC dI cy a A below #[.ref (a 0)] s) 4 (x_begun k 5) (fun L => [(0, .ref (a 0)), (1, .int (L 1))]) 118 (fun L => [])) ∧ (bT p l e (headSpec w_x_begun ({ frames := 327, cells := 0, slots := 0, locals := 10082 })).room s m #[.ref (a 0)] below meth c dC dI cy a A (qI dC dI cy a A below #[.ref (a 0)] s) 4 (x_begun k 6) (fun L => [(0, .ref (a 0)), (1, .int (L 1))]) 148 (fun L => [])) ∧ (bT p l e (headSpec w_x_begun ({ frames := 327, cells := 0, slots := 0, locals := 10082 })).room s m #[.ref (a 0)] below meth c dC dI cy a A (qI dC dI cy a A below #[.ref (a 0)] s) 4 (x_begun k 7) (fun L => [(0, .ref (a 0)), (1, .int (L 1))]) 162 (fun L => [])) ∧ (bT p l e (headSpec w_x_begun ({ frames := 327, cells := 0, slots := 0, locals := 10082 })).room s m #[.ref (a 0)] below meth c dC dI cy a A (qI dC dI cy a A below #[.ref (a 0)] s) 4 (x_begun k 8) (fun L => [(0, .ref (a 0)), (1, .int (L 1))]) 188 (fun L => [])) ∧ (bT p l e (headSpec w_x_begun ({ frames := 327, cells := 0, slots := 0, locals := 10082 })).room s m #[.ref (a 0)] below meth c dC dI cy a A (qI dC dI cy a A below #[.ref (a 0)] s) 4 (x_begun k 9) (fun L => [(0, .ref (a 0)), (1, .int (L 1))]) 208 (fun L => [])) ∧ (bT p l e (headSpec w_x_begun ({ frames := 327, cells := 0, slots := 0, locals := 10082 })).room s m #[.ref (a 0)] below meth c dC dI cy a A (qI dC dI cy a A below #[.ref (a 0)] s) 4 (x_begun k 10) (fun L => [(0, .ref (a 0)), (1, .int (L 1))]) 234 (fun L => [])) := by
    intro k
    induction k with
    | zero => exact ⟨fun L σ r h => (by cases h), fun L σ r h => (by cases h), fun L σ r h => (by cases h), fun L σ r h => (by cases h), fun L σ r h => (by cases h), fun L σ r h => (by cases h), fun L σ r h => (by cases h), fun L σ r h => (by cases h), fun L σ r h => (by cases h), fun L σ r h => (by cases h), fun L σ r h => (by cases h)⟩
    | succ k ih =>
      refine ⟨?_, ?_, ?_, ?_, ?_, ?_, ?_, ?_, ?_, ?_, ?_⟩
      · intro L σ r h H locs ls hP hD hS hl
        rw [x_begun] at h
        refine lv_aload_n hx hb dX12_begun_0 rfl (lv_at hl 0 rfl) ?_
        obtain ⟨r1, hc1, h⟩ := ob_ex h
        refine nc_Vv (As := []) (rest := []) ⟨hx, hb, hml, hown, hts⟩ (c_x_find l dC dI cy a k (fun _ => 0) σ r1 hc1 H.size) (cwV 0 hts g_x_begun_find_236 rfl rfl rfl hd_x_find ⟨Nat.le_of_ble_eq_true rfl, Nat.le_of_ble_eq_true rfl⟩) hK hG hA hP hD hS rfl hl.1 rfl (Nat.le_of_ble_eq_true rfl) dX12_begun_1 ⟨Nat.le_refl _, Nat.le_refl _⟩ (fun H locs hP hD hS => ?_)
        refine lv_aload_n hx hb dX12_begun_4 rfl (lv_at hl 0 rfl) ?_
        refine ng_46 hx hb hts in_x_begun hown hK hP (hts _ (List.mem_cons_of_mem _ (List.mem_append_left _ (List.mem_append_left _ (List.mem_of_getElem? (i := 4) rfl))))) dX12_begun_5 ?_
        refine lv_iconst (v := 3) hx hb dX12_begun_8 (by decide) ?_
        refine lv_icmp_ne (tgt := 18) hx hb dX12_begun_9 (by decide) (fun c2 => ?_) (fun c2 => ?_)
        · rw [if_neg c2] at h
          exact ih.2.1 L r1.2 r h H locs ls hP hD hS (lv_sub hl [0] rfl)
        · rw [if_pos c2] at h
          refine lv_aload_n hx hb dX12_begun_12 rfl (lv_at hl 0 rfl) ?_
          refine lv_iconst (v := (-1)) hx hb dX12_begun_13 (by decide) ?_
          obtain ⟨r3, hc3, h⟩ := ob_ex h
          refine nc_Vi (As := [.int (-1)]) (rest := []) ⟨hx, hb, hml, hown, hts⟩ (c_x_call l dC dI cy a k (upd (fun _ => 0) 1 ((-1))) r1.2 r3 hc3 H.size) (cwV 1 hts g_x_begun_call_324 rfl rfl rfl hd_x_call ⟨Nat.le_of_ble_eq_true rfl, Nat.le_of_ble_eq_true rfl⟩) hK hG hA hP hD hS rfl hl.1 rfl (Nat.le_of_ble_eq_true rfl) dX12_begun_14 ⟨Nat.le_refl _, Nat.le_refl _⟩ (fun H locs hP hD hS => ?_)
          cases h
          exact W.iret (v := r3.1) hx hb hr (fun t ht hW => ⟨⟨r3.1, (), rfl, rfl, by rw [ht]; exact hP, va_K.moved hW.alike hK, hD⟩, hS.F ht⟩) hS.2.2 dX12_begun_17
      · intro L σ r h H locs ls hP hD hS hl
        rw [x_begun] at h
        refine lv_aload_n hx hb dX12_begun_18 rfl (lv_at hl 0 rfl) ?_
        obtain ⟨r1, hc1, h⟩ := ob_ex h
        refine nc_Vi (As := []) (rest := []) ⟨hx, hb, hml, hown, hts⟩ (c_x_target l dC dI cy a k (fun _ => 0) σ r1 hc1 H.size) (cwV 0 hts g_x_begun_target_327 rfl rfl rfl hd_x_target ⟨Nat.le_of_ble_eq_true rfl, Nat.le_of_ble_eq_true rfl⟩) hK hG hA hP hD hS rfl hl.1 rfl (Nat.le_of_ble_eq_true rfl) dX12_begun_19 ⟨Nat.le_refl _, Nat.le_refl _⟩ (fun H locs hP hD hS => ?_)
        refine lv_istore_n (lv' := [(1, .int r1.1), (0, .ref (a 0))]) hx hb dX12_begun_22 rfl hl (by decide) rfl (fun ls hl => ?_)
        refine lv_aload_n hx hb dX12_begun_23 rfl (lv_at hl 1 rfl) ?_
        refine ng_10 hx hb hts in_x_begun hown hK hP (hts _ (List.mem_cons_of_mem _ (List.mem_append_left _ (List.mem_append_left _ (List.mem_of_getElem? (i := 11) rfl))))) dX12_begun_24 ?_
        refine lv_if_eq (tgt := 32) hx hb dX12_begun_27 (by decide) (fun c2 => ?_) (fun c2 => ?_)
        · rw [if_pos c2] at h
          exact ih.2.2.1 (upd L 1 r1.1) r1.2 r h H locs ls hP hD hS (lv_sub hl [1, 0] rfl)
        · rw [if_neg c2] at h
          refine lv_iconst (v := 0) hx hb dX12_begun_30 (by decide) ?_
          cases h
          exact W.iret (v := 0) hx hb hr (fun t ht hW => ⟨⟨0, (), rfl, rfl, by rw [ht]; exact hP, va_K.moved hW.alike hK, hD⟩, hS.F ht⟩) hS.2.2 dX12_begun_31
      · intro L σ r h H locs ls hP hD hS hl
        rw [x_begun] at h
        refine lv_aload_n hx hb dX12_begun_32 rfl (lv_at hl 0 rfl) ?_
        refine lv_iconst (v := 2) hx hb dX12_begun_33 (by decide) ?_
        obtain ⟨r1, hc1, h⟩ := ob_ex h
        refine nc_Vi (As := [.int 2]) (rest := []) ⟨hx, hb, hml, hown, hts⟩ (c_x_isSign l dC dI cy a k (upd (fun _ => 0) 1 2) σ r1 hc1 H.size) (cwV 1 hts g_x_begun_isSign_65 rfl rfl rfl hd_x_isSign ⟨Nat.le_of_ble_eq_true rfl, Nat.le_of_ble_eq_true rfl⟩) hK hG hA hP hD hS rfl hl.1 rfl (Nat.le_of_ble_eq_true rfl) dX12_begun_34 ⟨Nat.le_refl _, Nat.le_refl _⟩ (fun H locs hP hD hS => ?_)
        refine lv_if_ne (tgt := 56) hx hb dX12_begun_37 (by decide) (fun c2 => ?_) (fun c2 => ?_)
        · rw [if_neg c2] at h
          exact ih.2.2.2.1 L r1.2 r h H locs ls hP hD hS (lv_sub hl [0, 1] rfl)
        · rw [if_pos c2] at h
          refine lv_aload_n hx hb dX12_begun_40 rfl (lv_at hl 0 rfl) ?_
          refine lv_iconst (v := 3) hx hb dX12_begun_41 (by decide) ?_
          obtain ⟨r3, hc3, h⟩ := ob_ex h
          refine nc_Vi (As := [.int 3]) (rest := []) ⟨hx, hb, hml, hown, hts⟩ (c_x_isSign l dC dI cy a k (upd (fun _ => 0) 1 3) r1.2 r3 hc3 H.size) (cwV 1 hts g_x_begun_isSign_65 rfl rfl rfl hd_x_isSign ⟨Nat.le_of_ble_eq_true rfl, Nat.le_of_ble_eq_true rfl⟩) hK hG hA hP hD hS rfl hl.1 rfl (Nat.le_of_ble_eq_true rfl) dX12_begun_42 ⟨Nat.le_refl _, Nat.le_refl _⟩ (fun H locs hP hD hS => ?_)
          refine lv_if_ne (tgt := 56) hx hb dX12_begun_45 (by decide) (fun c4 => ?_) (fun c4 => ?_)
          · rw [if_neg c4] at h
            exact ih.2.2.2.1 L r3.2 r h H locs ls hP hD hS (lv_sub hl [0, 1] rfl)
          · rw [if_pos c4] at h
            refine lv_aload_n hx hb dX12_begun_48 rfl (lv_at hl 0 rfl) ?_
            refine lv_iconst (v := 4) hx hb dX12_begun_49 (by decide) ?_
            obtain ⟨r5, hc5, h⟩ := ob_ex h
            refine nc_Vi (As := [.int 4]) (rest := []) ⟨hx, hb, hml, hown, hts⟩ (c_x_isSign l dC dI cy a k (upd (fun _ => 0) 1 4) r3.2 r5 hc5 H.size) (cwV 1 hts g_x_begun_isSign_65 rfl rfl rfl hd_x_isSign ⟨Nat.le_of_ble_eq_true rfl, Nat.le_of_ble_eq_true rfl⟩) hK hG hA hP hD hS rfl hl.1 rfl (Nat.le_of_ble_eq_true rfl) dX12_begun_50 ⟨Nat.le_refl _, Nat.le_refl _⟩ (fun H locs hP hD hS => ?_)
            refine lv_if_eq (tgt := 91) hx hb dX12_begun_53 (by decide) (fun c6 => ?_) (fun c6 => ?_)
            · rw [if_pos c6] at h
              exact ih.2.2.2.2.1 L r5.2 r h H locs ls hP hD hS (lv_sub hl [0, 1] rfl)
            · rw [if_neg c6] at h
              exact ih.2.2.2.1 L r5.2 r h H locs ls hP hD hS (lv_sub hl [0, 1] rfl)
      · intro L σ r h H locs ls hP hD hS hl
        rw [x_begun] at h
        refine lv_aload_n hx hb dX12_begun_56 rfl (lv_at hl 0 rfl) ?_
        obtain ⟨r1, hc1, h⟩ := ob_ex h
        refine nc_Vi (As := []) (rest := []) ⟨hx, hb, hml, hown, hts⟩ (c_x_operator l dC dI cy a k (fun _ => 0) σ r1 hc1 H.size) (cwV 0 hts g_x_begun_operator_187 rfl rfl rfl hd_x_operator ⟨Nat.le_of_ble_eq_true rfl, Nat.le_of_ble_eq_true rfl⟩) hK hG hA hP hD hS rfl hl.1 rfl (Nat.le_of_ble_eq_true rfl) dX12_begun_57 ⟨Nat.le_refl _, Nat.le_refl _⟩ (fun H locs hP hD hS => ?_)
        refine lv_istore_n (lv' := [(2, .int r1.1), (0, .ref (a 0)), (1, .int (L 1))]) hx hb dX12_begun_60 rfl hl (by decide) rfl (fun ls hl => ?_)
        refine lv_aload_n hx hb dX12_begun_61 rfl (lv_at hl 1 rfl) ?_
        obtain ⟨r2, hc2, h⟩ := ob_ex h
        refine nc_Vv (As := []) (rest := []) ⟨hx, hb, hml, hown, hts⟩ (c_x_take l dC dI cy a k (fun _ => 0) r1.2 r2 hc2 H.size) (cwV 0 hts g_x_begun_take_71 rfl rfl rfl hd_x_take ⟨Nat.le_of_ble_eq_true rfl, Nat.le_of_ble_eq_true rfl⟩) hK hG hA hP hD hS rfl hl.1 rfl (Nat.le_of_ble_eq_true rfl) dX12_begun_62 ⟨Nat.le_refl _, Nat.le_refl _⟩ (fun H locs hP hD hS => ?_)
        refine lv_aload_n hx hb dX12_begun_65 rfl (lv_at hl 1 rfl) ?_
        refine lv_iconst (v := 1) hx hb dX12_begun_66 (by decide) ?_
        obtain ⟨r3, hc3, h⟩ := ob_ex h
        refine nc_Vv (As := [.int 1]) (rest := []) ⟨hx, hb, hml, hown, hts⟩ (c_x_want l dC dI cy a k (upd (fun _ => 0) 1 1) r2.2 r3 hc3 H.size) (cwV 1 hts g_x_begun_want_199 rfl rfl rfl hd_x_want ⟨Nat.le_of_ble_eq_true rfl, Nat.le_of_ble_eq_true rfl⟩) hK hG hA hP hD hS rfl hl.1 rfl (Nat.le_of_ble_eq_true rfl) dX12_begun_67 ⟨Nat.le_refl _, Nat.le_refl _⟩ (fun H locs hP hD hS => ?_)
        refine lv_aload_n hx hb dX12_begun_70 rfl (lv_at hl 1 rfl) ?_
        obtain ⟨r4, hc4, h⟩ := ob_ex h
        refine nc_Vi (As := []) (rest := []) ⟨hx, hb, hml, hown, hts⟩ (c_x_exp l dC dI cy a k (fun _ => 0) r3.2 r4 hc4 H.size) (cwV 0 hts g_x_begun_exp_209 rfl rfl rfl hd_x_exp ⟨Nat.le_of_ble_eq_true rfl, Nat.le_of_ble_eq_true rfl⟩) hK hG hA hP hD hS rfl hl.1 rfl (Nat.le_of_ble_eq_true rfl) dX12_begun_71 ⟨Nat.le_refl _, Nat.le_refl _⟩ (fun H locs hP hD hS => ?_)
        refine lv_istore_n (lv' := [(3, .int r4.1), (2, .int r1.1), (0, .ref (a 0)), (1, .int (L 1))]) hx hb dX12_begun_74 rfl hl (by decide) rfl (fun ls hl => ?_)
        refine lv_aload_n hx hb dX12_begun_75 rfl (lv_at hl 2 rfl) ?_
        refine lv_bipush (v := 13) hx hb dX12_begun_76 (by decide) ?_
        obtain ⟨r5, hc5, h⟩ := ob_ex h
        refine nc_Vv (As := [.int 13]) (rest := []) ⟨hx, hb, hml, hown, hts⟩ (c_x_want l dC dI cy a k (upd (fun _ => 0) 1 13) r4.2 r5 hc5 H.size) (cwV 1 hts g_x_begun_want_199 rfl rfl rfl hd_x_want ⟨Nat.le_of_ble_eq_true rfl, Nat.le_of_ble_eq_true rfl⟩) hK hG hA hP hD hS rfl hl.1 rfl (Nat.le_of_ble_eq_true rfl) dX12_begun_78 ⟨Nat.le_refl _, Nat.le_refl _⟩ (fun H locs hP hD hS => ?_)
        refine lv_aload_n hx hb dX12_begun_81 rfl (lv_at hl 2 rfl) ?_
        refine lv_bipush (v := 41) hx hb dX12_begun_82 (by decide) ?_
        refine lv_iload_n hx hb dX12_begun_84 rfl (lv_at hl 3 rfl) ?_
        refine lv_iload_n hx hb dX12_begun_85 rfl (lv_at hl 0 rfl) ?_
        refine lv_iload_n hx hb dX12_begun_86 rfl (lv_at hl 1 rfl) ?_
        obtain ⟨r6, hc6, h⟩ := ob_ex h
        refine nc_Vi (As := [.int 41, .int (L 1), .int r4.1, .int r1.1]) (rest := []) ⟨hx, hb, hml, hown, hts⟩ (c_x_node l dC dI cy a k (upd (upd (upd (upd (fun _ => 0) 1 41) 2 ((L 1))) 3 r4.1) 4 r1.1) r5.2 r6 hc6 H.size) (cwV 4 hts g_x_begun_node_101 rfl rfl rfl hd_x_node ⟨Nat.le_of_ble_eq_true rfl, Nat.le_of_ble_eq_true rfl⟩) hK hG hA hP hD hS rfl hl.1 rfl (Nat.le_of_ble_eq_true rfl) dX12_begun_87 ⟨Nat.le_refl _, Nat.le_refl _⟩ (fun H locs hP hD hS => ?_)
        cases h
        exact W.iret (v := r6.1) hx hb hr (fun t ht hW => ⟨⟨r6.1, (), rfl, rfl, by rw [ht]; exact hP, va_K.moved hW.alike hK, hD⟩, hS.F ht⟩) hS.2.2 dX12_begun_90
      · intro L σ r h H locs ls hP hD hS hl
        rw [x_begun] at h
        refine lv_aload_n hx hb dX12_begun_91 rfl (lv_at hl 0 rfl) ?_
        refine lv_bipush (v := 25) hx hb dX12_begun_92 (by decide) ?_
        obtain ⟨r1, hc1, h⟩ := ob_ex h
        refine nc_Vi (As := [.int 25]) (rest := []) ⟨hx, hb, hml, hown, hts⟩ (c_x_isWord l dC dI cy a k (upd (fun _ => 0) 1 25) σ r1 hc1 H.size) (cwV 1 hts g_x_begun_isWord_74 rfl rfl rfl hd_x_isWord ⟨Nat.le_of_ble_eq_true rfl, Nat.le_of_ble_eq_true rfl⟩) hK hG hA hP hD hS rfl hl.1 rfl (Nat.le_of_ble_eq_true rfl) dX12_begun_94 ⟨Nat.le_refl _, Nat.le_refl _⟩ (fun H locs hP hD hS => ?_)
        refine lv_if_ne (tgt := 118) hx hb dX12_begun_97 (by decide) (fun c2 => ?_) (fun c2 => ?_)
        · rw [if_neg c2] at h
          exact ih.2.2.2.2.2.1 L r1.2 r h H locs ls hP hD hS (lv_sub hl [0, 1] rfl)
        · rw [if_pos c2] at h
          refine lv_aload_n hx hb dX12_begun_100 rfl (lv_at hl 0 rfl) ?_
          refine lv_bipush (v := 26) hx hb dX12_begun_101 (by decide) ?_
          obtain ⟨r3, hc3, h⟩ := ob_ex h
          refine nc_Vi (As := [.int 26]) (rest := []) ⟨hx, hb, hml, hown, hts⟩ (c_x_isWord l dC dI cy a k (upd (fun _ => 0) 1 26) r1.2 r3 hc3 H.size) (cwV 1 hts g_x_begun_isWord_74 rfl rfl rfl hd_x_isWord ⟨Nat.le_of_ble_eq_true rfl, Nat.le_of_ble_eq_true rfl⟩) hK hG hA hP hD hS rfl hl.1 rfl (Nat.le_of_ble_eq_true rfl) dX12_begun_103 ⟨Nat.le_refl _, Nat.le_refl _⟩ (fun H locs hP hD hS => ?_)
          refine lv_if_ne (tgt := 118) hx hb dX12_begun_106 (by decide) (fun c4 => ?_) (fun c4 => ?_)
          · rw [if_neg c4] at h
            exact ih.2.2.2.2.2.1 L r3.2 r h H locs ls hP hD hS (lv_sub hl [0, 1] rfl)
          · rw [if_pos c4] at h
            refine lv_aload_n hx hb dX12_begun_109 rfl (lv_at hl 0 rfl) ?_
            refine lv_bipush (v := 27) hx hb dX12_begun_110 (by decide) ?_
            obtain ⟨r5, hc5, h⟩ := ob_ex h
            refine nc_Vi (As := [.int 27]) (rest := []) ⟨hx, hb, hml, hown, hts⟩ (c_x_isWord l dC dI cy a k (upd (fun _ => 0) 1 27) r3.2 r5 hc5 H.size) (cwV 1 hts g_x_begun_isWord_74 rfl rfl rfl hd_x_isWord ⟨Nat.le_of_ble_eq_true rfl, Nat.le_of_ble_eq_true rfl⟩) hK hG hA hP hD hS rfl hl.1 rfl (Nat.le_of_ble_eq_true rfl) dX12_begun_112 ⟨Nat.le_refl _, Nat.le_refl _⟩ (fun H locs hP hD hS => ?_)
            refine lv_if_eq (tgt := 148) hx hb dX12_begun_115 (by decide) (fun c6 => ?_) (fun c6 => ?_)
            · rw [if_pos c6] at h
              exact ih.2.2.2.2.2.2.1 L r5.2 r h H locs ls hP hD hS (lv_sub hl [0, 1] rfl)
            · rw [if_neg c6] at h
              exact ih.2.2.2.2.2.1 L r5.2 r h H locs ls hP hD hS (lv_sub hl [0, 1] rfl)
      · intro L σ r h H locs ls hP hD hS hl
        rw [x_begun] at h
        refine lv_aload_n hx hb dX12_begun_118 rfl (lv_at hl 0 rfl) ?_
        refine ng_7 hx hb hts in_x_begun hown hK hP (hts _ (List.mem_cons_of_mem _ (List.mem_append_left _ (List.mem_append_left _ (List.mem_of_getElem? (i := 33) rfl))))) dX12_begun_119 ?_
        refine lv_istore_n (lv' := [(2, .int (σ.1 7)), (0, .ref (a 0)), (1, .int (L 1))]) hx hb dX12_begun_122 rfl hl (by decide) rfl (fun ls hl => ?_)
        refine lv_aload_n hx hb dX12_begun_123 rfl (lv_at hl 1 rfl) ?_
        obtain ⟨r1, hc1, h⟩ := ob_ex h
        refine nc_Vv (As := []) (rest := []) ⟨hx, hb, hml, hown, hts⟩ (c_x_take l dC dI cy a k (fun _ => 0) σ r1 hc1 H.size) (cwV 0 hts g_x_begun_take_71 rfl rfl rfl hd_x_take ⟨Nat.le_of_ble_eq_true rfl, Nat.le_of_ble_eq_true rfl⟩) hK hG hA hP hD hS rfl hl.1 rfl (Nat.le_of_ble_eq_true rfl) dX12_begun_124 ⟨Nat.le_refl _, Nat.le_refl _⟩ (fun H locs hP hD hS => ?_)
        refine lv_aload_n hx hb dX12_begun_127 rfl (lv_at hl 1 rfl) ?_
        obtain ⟨r2, hc2, h⟩ := ob_ex h
        refine nc_Vi (As := []) (rest := []) ⟨hx, hb, hml, hown, hts⟩ (c_x_target l dC dI cy a k (fun _ => 0) r1.2 r2 hc2 H.size) (cwV 0 hts g_x_begun_target_327 rfl rfl rfl hd_x_target ⟨Nat.le_of_ble_eq_true rfl, Nat.le_of_ble_eq_true rfl⟩) hK hG hA hP hD hS rfl hl.1 rfl (Nat.le_of_ble_eq_true rfl) dX12_begun_128 ⟨Nat.le_refl _, Nat.le_refl _⟩ (fun H locs hP hD hS => ?_)
        refine lv_istore_n (lv' := [(3, .int r2.1), (2, .int (σ.1 7)), (0, .ref (a 0)), (1, .int (L 1))]) hx hb dX12_begun_131 rfl hl (by decide) rfl (fun ls hl => ?_)
        refine lv_aload_n hx hb dX12_begun_132 rfl (lv_at hl 2 rfl) ?_
        refine lv_bipush (v := 13) hx hb dX12_begun_133 (by decide) ?_
        obtain ⟨r3, hc3, h⟩ := ob_ex h
        refine nc_Vv (As := [.int 13]) (rest := []) ⟨hx, hb, hml, hown, hts⟩ (c_x_want l dC dI cy a k (upd (fun _ => 0) 1 13) r2.2 r3 hc3 H.size) (cwV 1 hts g_x_begun_want_199 rfl rfl rfl hd_x_want ⟨Nat.le_of_ble_eq_true rfl, Nat.le_of_ble_eq_true rfl⟩) hK hG hA hP hD hS rfl hl.1 rfl (Nat.le_of_ble_eq_true rfl) dX12_begun_135 ⟨Nat.le_refl _, Nat.le_refl _⟩ (fun H locs hP hD hS => ?_)
        refine lv_aload_n hx hb dX12_begun_138 rfl (lv_at hl 2 rfl) ?_
        refine lv_bipush (v := 43) hx hb dX12_begun_139 (by decide) ?_
        refine lv_iload_n hx hb dX12_begun_141 rfl (lv_at hl 3 rfl) ?_
        refine lv_iload_n hx hb dX12_begun_142 rfl (lv_at hl 0 rfl) ?_
        refine lv_iload_n hx hb dX12_begun_143 rfl (lv_at hl 1 rfl) ?_
        obtain ⟨r4, hc4, h⟩ := ob_ex h
        refine nc_Vi (As := [.int 43, .int (L 1), .int r2.1, .int (σ.1 7)]) (rest := []) ⟨hx, hb, hml, hown, hts⟩ (c_x_node l dC dI cy a k (upd (upd (upd (upd (fun _ => 0) 1 43) 2 ((L 1))) 3 r2.1) 4 ((σ.1 7))) r3.2 r4 hc4 H.size) (cwV 4 hts g_x_begun_node_101 rfl rfl rfl hd_x_node ⟨Nat.le_of_ble_eq_true rfl, Nat.le_of_ble_eq_true rfl⟩) hK hG hA hP hD hS rfl hl.1 rfl (Nat.le_of_ble_eq_true rfl) dX12_begun_144 ⟨Nat.le_refl _, Nat.le_refl _⟩ (fun H locs hP hD hS => ?_)
        cases h
        exact W.iret (v := r4.1) hx hb hr (fun t ht hW => ⟨⟨r4.1, (), rfl, rfl, by rw [ht]; exact hP, va_K.moved hW.alike hK, hD⟩, hS.F ht⟩) hS.2.2 dX12_begun_147
      · intro L σ r h H locs ls hP hD hS hl
        rw [x_begun] at h
        refine lv_aload_n hx hb dX12_begun_148 rfl (lv_at hl 0 rfl) ?_
        refine lv_iconst (v := 1) hx hb dX12_begun_149 (by decide) ?_
        obtain ⟨r1, hc1, h⟩ := ob_ex h
        refine nc_Vv (As := [.int 1]) (rest := []) ⟨hx, hb, hml, hown, hts⟩ (c_x_want l dC dI cy a k (upd (fun _ => 0) 1 1) σ r1 hc1 H.size) (cwV 1 hts g_x_begun_want_199 rfl rfl rfl hd_x_want ⟨Nat.le_of_ble_eq_true rfl, Nat.le_of_ble_eq_true rfl⟩) hK hG hA hP hD hS rfl hl.1 rfl (Nat.le_of_ble_eq_true rfl) dX12_begun_150 ⟨Nat.le_refl _, Nat.le_refl _⟩ (fun H locs hP hD hS => ?_)
        refine lv_aload_n hx hb dX12_begun_153 rfl (lv_at hl 0 rfl) ?_
        refine ng_10 hx hb hts in_x_begun hown hK hP (hts _ (List.mem_cons_of_mem _ (List.mem_append_left _ (List.mem_append_left _ (List.mem_of_getElem? (i := 11) rfl))))) dX12_begun_154 ?_
        refine lv_if_eq (tgt := 162) hx hb dX12_begun_157 (by decide) (fun c2 => ?_) (fun c2 => ?_)
        · rw [if_pos c2] at h
          exact ih.2.2.2.2.2.2.2.1 L r1.2 r h H locs ls hP hD hS (lv_sub hl [0, 1] rfl)
        · rw [if_neg c2] at h
          refine lv_iconst (v := 0) hx hb dX12_begun_160 (by decide) ?_
          cases h
          exact W.iret (v := 0) hx hb hr (fun t ht hW => ⟨⟨0, (), rfl, rfl, by rw [ht]; exact hP, va_K.moved hW.alike hK, hD⟩, hS.F ht⟩) hS.2.2 dX12_begun_161
      · intro L σ r h H locs ls hP hD hS hl
        rw [x_begun] at h
        refine lv_aload_n hx hb dX12_begun_162 rfl (lv_at hl 0 rfl) ?_
        refine lv_bipush (v := 31) hx hb dX12_begun_163 (by decide) ?_
        obtain ⟨r1, hc1, h⟩ := ob_ex h
        refine nc_Vi (As := [.int 31]) (rest := []) ⟨hx, hb, hml, hown, hts⟩ (c_x_isWord l dC dI cy a k (upd (fun _ => 0) 1 31) σ r1 hc1 H.size) (cwV 1 hts g_x_begun_isWord_74 rfl rfl rfl hd_x_isWord ⟨Nat.le_of_ble_eq_true rfl, Nat.le_of_ble_eq_true rfl⟩) hK hG hA hP hD hS rfl hl.1 rfl (Nat.le_of_ble_eq_true rfl) dX12_begun_165 ⟨Nat.le_refl _, Nat.le_refl _⟩ (fun H locs hP hD hS => ?_)
        refine lv_if_eq (tgt := 208) hx hb dX12_begun_168 (by decide) (fun c2 => ?_) (fun c2 => ?_)
        · rw [if_pos c2] at h
          exact ih.2.2.2.2.2.2.2.2.2.1 L r1.2 r h H locs ls hP hD hS (lv_sub hl [0, 1] rfl)
        · rw [if_neg c2] at h
          refine lv_aload_n hx hb dX12_begun_171 rfl (lv_at hl 0 rfl) ?_
          refine ng_14 hx hb hts in_x_begun hown hK hP (hts _ (List.mem_cons_of_mem _ (List.mem_append_left _ (List.mem_append_left _ (List.mem_of_getElem? (i := 34) rfl))))) dX12_begun_172 ?_
          refine lv_iload_n hx hb dX12_begun_175 rfl (lv_at hl 1 rfl) ?_
          obtain ⟨q3, h⟩ := nb_ite1 h
          refine nl_4 hx hb hK hP q3 dX12_begun_176 ?_
          refine lv_bipush (v := 7) hx hb dX12_begun_177 (by decide) ?_
          refine lv_icmp_eq (tgt := 188) hx hb dX12_begun_179 (by decide) (fun c4 => ?_) (fun c4 => ?_)
          · rw [if_pos c4] at h
            exact ih.2.2.2.2.2.2.2.2.1 L r1.2 r h H locs ls hP hD hS (lv_sub hl [0, 1] rfl)
          · rw [if_neg c4] at h
            refine lv_aload_n hx hb dX12_begun_182 rfl (lv_at hl 0 rfl) ?_
            obtain ⟨r5, hc5, h⟩ := ob_ex h
            refine nc_Vv (As := []) (rest := []) ⟨hx, hb, hml, hown, hts⟩ (c_x_cannot l dC dI cy a k (fun _ => 0) r1.2 r5 hc5 H.size) (cwV 0 hts g_x_begun_cannot_68 rfl rfl rfl hd_x_cannot ⟨Nat.le_of_ble_eq_true rfl, Nat.le_of_ble_eq_true rfl⟩) hK hG hA hP hD hS rfl hl.1 rfl (Nat.le_of_ble_eq_true rfl) dX12_begun_183 ⟨Nat.le_refl _, Nat.le_refl _⟩ (fun H locs hP hD hS => ?_)
            refine lv_iconst (v := 0) hx hb dX12_begun_186 (by decide) ?_
            cases h
            exact W.iret (v := 0) hx hb hr (fun t ht hW => ⟨⟨0, (), rfl, rfl, by rw [ht]; exact hP, va_K.moved hW.alike hK, hD⟩, hS.F ht⟩) hS.2.2 dX12_begun_187
      · intro L σ r h H locs ls hP hD hS hl
        rw [x_begun] at h
        refine lv_aload_n hx hb dX12_begun_188 rfl (lv_at hl 0 rfl) ?_
        obtain ⟨r1, hc1, h⟩ := ob_ex h
        refine nc_Vv (As := []) (rest := []) ⟨hx, hb, hml, hown, hts⟩ (c_x_take l dC dI cy a k (fun _ => 0) σ r1 hc1 H.size) (cwV 0 hts g_x_begun_take_71 rfl rfl rfl hd_x_take ⟨Nat.le_of_ble_eq_true rfl, Nat.le_of_ble_eq_true rfl⟩) hK hG hA hP hD hS rfl hl.1 rfl (Nat.le_of_ble_eq_true rfl) dX12_begun_189 ⟨Nat.le_refl _, Nat.le_refl _⟩ (fun H locs hP hD hS => ?_)
        refine lv_aload_n hx hb dX12_begun_192 rfl (lv_at hl 0 rfl) ?_
        refine lv_bipush (v := 13) hx hb dX12_begun_193 (by decide) ?_
        obtain ⟨r2, hc2, h⟩ := ob_ex h
        refine nc_Vv (As := [.int 13]) (rest := []) ⟨hx, hb, hml, hown, hts⟩ (c_x_want l dC dI cy a k (upd (fun _ => 0) 1 13) r1.2 r2 hc2 H.size) (cwV 1 hts g_x_begun_want_199 rfl rfl rfl hd_x_want ⟨Nat.le_of_ble_eq_true rfl, Nat.le_of_ble_eq_true rfl⟩) hK hG hA hP hD hS rfl hl.1 rfl (Nat.le_of_ble_eq_true rfl) dX12_begun_195 ⟨Nat.le_refl _, Nat.le_refl _⟩ (fun H locs hP hD hS => ?_)
        refine lv_aload_n hx hb dX12_begun_198 rfl (lv_at hl 0 rfl) ?_
        refine lv_bipush (v := 44) hx hb dX12_begun_199 (by decide) ?_
        refine lv_iload_n hx hb dX12_begun_201 rfl (lv_at hl 1 rfl) ?_
        refine lv_iconst (v := 0) hx hb dX12_begun_202 (by decide) ?_
        refine lv_iconst (v := 0) hx hb dX12_begun_203 (by decide) ?_
        obtain ⟨r3, hc3, h⟩ := ob_ex h
        refine nc_Vi (As := [.int 44, .int (L 1), .int 0, .int 0]) (rest := []) ⟨hx, hb, hml, hown, hts⟩ (c_x_node l dC dI cy a k (upd (upd (upd (upd (fun _ => 0) 1 44) 2 ((L 1))) 3 0) 4 0) r2.2 r3 hc3 H.size) (cwV 4 hts g_x_begun_node_101 rfl rfl rfl hd_x_node ⟨Nat.le_of_ble_eq_true rfl, Nat.le_of_ble_eq_true rfl⟩) hK hG hA hP hD hS rfl hl.1 rfl (Nat.le_of_ble_eq_true rfl) dX12_begun_204 ⟨Nat.le_refl _, Nat.le_refl _⟩ (fun H locs hP hD hS => ?_)
        cases h
        exact W.iret (v := r3.1) hx hb hr (fun t ht hW => ⟨⟨r3.1, (), rfl, rfl, by rw [ht]; exact hP, va_K.moved hW.alike hK, hD⟩, hS.F ht⟩) hS.2.2 dX12_begun_207
      · intro L σ r h H locs ls hP hD hS hl
        rw [x_begun] at h
        refine lv_aload_n hx hb dX12_begun_208 rfl (lv_at hl 0 rfl) ?_
        refine ng_6 hx hb hts in_x_begun hown hK hP (hts _ (List.mem_cons_of_mem _ (List.mem_append_left _ (List.mem_append_left _ (List.mem_of_getElem? (i := 38) rfl))))) dX12_begun_209 ?_
        refine lv_iconst (v := 1) hx hb dX12_begun_212 (by decide) ?_
        refine lv_icmp_ne (tgt := 234) hx hb dX12_begun_213 (by decide) (fun c1 => ?_) (fun c1 => ?_)
        · rw [if_neg c1] at h
          exact ih.2.2.2.2.2.2.2.2.2.2 L σ r h H locs ls hP hD hS (lv_sub hl [0, 1] rfl)
        · rw [if_pos c1] at h
          refine lv_aload_n hx hb dX12_begun_216 rfl (lv_at hl 0 rfl) ?_
          obtain ⟨r2, hc2, h⟩ := ob_ex h
          refine nc_Vv (As := []) (rest := []) ⟨hx, hb, hml, hown, hts⟩ (c_x_find l dC dI cy a k (fun _ => 0) σ r2 hc2 H.size) (cwV 0 hts g_x_begun_find_236 rfl rfl rfl hd_x_find ⟨Nat.le_of_ble_eq_true rfl, Nat.le_of_ble_eq_true rfl⟩) hK hG hA hP hD hS rfl hl.1 rfl (Nat.le_of_ble_eq_true rfl) dX12_begun_217 ⟨Nat.le_refl _, Nat.le_refl _⟩ (fun H locs hP hD hS => ?_)
          refine lv_aload_n hx hb dX12_begun_220 rfl (lv_at hl 0 rfl) ?_
          refine ng_46 hx hb hts in_x_begun hown hK hP (hts _ (List.mem_cons_of_mem _ (List.mem_append_left _ (List.mem_append_left _ (List.mem_of_getElem? (i := 4) rfl))))) dX12_begun_221 ?_
          refine lv_iconst (v := 3) hx hb dX12_begun_224 (by decide) ?_
          refine lv_icmp_ne (tgt := 234) hx hb dX12_begun_225 (by decide) (fun c3 => ?_) (fun c3 => ?_)
          · rw [if_neg c3] at h
            exact ih.2.2.2.2.2.2.2.2.2.2 L r2.2 r h H locs ls hP hD hS (lv_sub hl [0, 1] rfl)
          · rw [if_pos c3] at h
            refine lv_aload_n hx hb dX12_begun_228 rfl (lv_at hl 0 rfl) ?_
            refine lv_iload_n hx hb dX12_begun_229 rfl (lv_at hl 1 rfl) ?_
            obtain ⟨r4, hc4, h⟩ := ob_ex h
            refine nc_Vi (As := [.int (L 1)]) (rest := []) ⟨hx, hb, hml, hown, hts⟩ (c_x_call l dC dI cy a k (upd (fun _ => 0) 1 ((L 1))) r2.2 r4 hc4 H.size) (cwV 1 hts g_x_begun_call_324 rfl rfl rfl hd_x_call ⟨Nat.le_of_ble_eq_true rfl, Nat.le_of_ble_eq_true rfl⟩) hK hG hA hP hD hS rfl hl.1 rfl (Nat.le_of_ble_eq_true rfl) dX12_begun_230 ⟨Nat.le_refl _, Nat.le_refl _⟩ (fun H locs hP hD hS => ?_)
            cases h
            exact W.iret (v := r4.1) hx hb hr (fun t ht hW => ⟨⟨r4.1, (), rfl, rfl, by rw [ht]; exact hP, va_K.moved hW.alike hK, hD⟩, hS.F ht⟩) hS.2.2 dX12_begun_233
      · intro L σ r h H locs ls hP hD hS hl
        rw [x_begun] at h
        refine lv_aload_n hx hb dX12_begun_234 rfl (lv_at hl 0 rfl) ?_
        obtain ⟨r1, hc1, h⟩ := ob_ex h
        refine nc_Vi (As := []) (rest := []) ⟨hx, hb, hml, hown, hts⟩ (c_x_exp l dC dI cy a k (fun _ => 0) σ r1 hc1 H.size) (cwV 0 hts g_x_begun_exp_209 rfl rfl rfl hd_x_exp ⟨Nat.le_of_ble_eq_true rfl, Nat.le_of_ble_eq_true rfl⟩) hK hG hA hP hD hS rfl hl.1 rfl (Nat.le_of_ble_eq_true rfl) dX12_begun_235 ⟨Nat.le_refl _, Nat.le_refl _⟩ (fun H locs hP hD hS => ?_)
        refine lv_istore_n (lv' := [(2, .int r1.1), (0, .ref (a 0)), (1, .int (L 1))]) hx hb dX12_begun_238 rfl hl (by decide) rfl (fun ls hl => ?_)
        refine lv_aload_n hx hb dX12_begun_239 rfl (lv_at hl 1 rfl) ?_
        refine lv_bipush (v := 13) hx hb dX12_begun_240 (by decide) ?_
        obtain ⟨r2, hc2, h⟩ := ob_ex h
        refine nc_Vv (As := [.int 13]) (rest := []) ⟨hx, hb, hml, hown, hts⟩ (c_x_want l dC dI cy a k (upd (fun _ => 0) 1 13) r1.2 r2 hc2 H.size) (cwV 1 hts g_x_begun_want_199 rfl rfl rfl hd_x_want ⟨Nat.le_of_ble_eq_true rfl, Nat.le_of_ble_eq_true rfl⟩) hK hG hA hP hD hS rfl hl.1 rfl (Nat.le_of_ble_eq_true rfl) dX12_begun_242 ⟨Nat.le_refl _, Nat.le_refl _⟩ (fun H locs hP hD hS => ?_)
        refine lv_aload_n hx hb dX12_begun_245 rfl (lv_at hl 1 rfl) ?_
        refine lv_bipush (v := 40) hx hb dX12_begun_246 (by decide) ?_
        refine lv_iload_n hx hb dX12_begun_248 rfl (lv_at hl 2 rfl) ?_
        refine lv_iload_n hx hb dX12_begun_249 rfl (lv_at hl 0 rfl) ?_
        refine lv_iconst (v := 0) hx hb dX12_begun_250 (by decide) ?_
        obtain ⟨r3, hc3, h⟩ := ob_ex h
        refine nc_Vi (As := [.int 40, .int (L 1), .int r1.1, .int 0]) (rest := []) ⟨hx, hb, hml, hown, hts⟩ (c_x_node l dC dI cy a k (upd (upd (upd (upd (fun _ => 0) 1 40) 2 ((L 1))) 3 r1.1) 4 0) r2.2 r3 hc3 H.size) (cwV 4 hts g_x_begun_node_101 rfl rfl rfl hd_x_node ⟨Nat.le_of_ble_eq_true rfl, Nat.le_of_ble_eq_true rfl⟩) hK hG hA hP hD hS rfl hl.1 rfl (Nat.le_of_ble_eq_true rfl) dX12_begun_251 ⟨Nat.le_refl _, Nat.le_refl _⟩ (fun H locs hP hD hS => ?_)
        cases h
        exact W.iret (v := r3.1) hx hb hr (fun t ht hW => ⟨⟨r3.1, (), rfl, rfl, by rw [ht]; exact hP, va_K.moved hW.alike hK, hD⟩, hS.F ht⟩) hS.2.2 dX12_begun_254
  exact (blk k0).1 L0 σ0 r0 h0 s.heap [] ls hP hD hS hl
