/-! rank -/
def x_rank : Nat → Nat → (Nat → Int32) → MS → Option (Int32 × MS)
  | 0, _, _, _ => none
  | k + 1, 0, L, σ => if 3 ≤ ((L 1)) then (x_rank k 1 L σ) else (x_rank k 2 (upd L 100 ((L 1))) σ)
  | k + 1, 1, L, σ => if ¬ (((L 1)) < 0 ∨ 1740000 ≤ ((L 1)).toNatClampNeg) then (x_rank k 2 (upd L 100 ((((σ.2.2 28 ((L 1)).toNatClampNeg)) + 1))) σ) else none
  | k + 1, 2, L, σ => some ((L 100), σ)
  | _ + 1, _ + 3, _, _ => none
def o_x_rank : List Cond := [.fieldLink RX12 372 "SetHouseModel" "heap" "[I"]
theorem o_x_rank_good : o_x_rank.all goodWord = true := by decide +kernel
def p_x_rank : List Cond := o_x_rank ++ []
theorem p_x_rank_good : p_x_rank.all goodWord = true := nb_all2 o_x_rank_good rfl
def w_x_rank : List Cond := .code yX12_rank cX12_rank 2 (some .int) :: (p_x_rank ++ fM)
theorem w_x_rank_good : w_x_rank.all goodWord = true := nb_allc (by decide +kernel) (nb_all2 p_x_rank_good fM_good)
theorem in_x_rank : ∀ w ∈ wsX120, w ∈ w_x_rank := fun _ h => List.mem_cons_of_mem _ (List.mem_append_right _ h)
theorem hd_x_rank : yX12_rank.cls = RX12 ∧ yX12_rank.cls ≠ "java/lang/invoke/MethodHandle" ∧ yX12_rank.cls ≠ "java/lang/invoke/VarHandle" ∧ (parseMethodDescriptor yX12_rank.desc).map (fun d => d.parameters.length) = some 1 := by decide +kernel
set_option maxHeartbeats 40000000 in
set_option maxRecDepth 100000 in
theorem c_x_rank (l : Launch) (dC : Nat → ClassId) (dI : Nat → Nat → Nat) (cy : Nat → ClassId) (a : Nat → Nat) (k0 : Nat) (L0 : Nat → Int32) (σ0 : MS) (r0 : Int32 × MS) (h0 : x_rank k0 0 L0 σ0 = some r0) (sz : Nat) : Met l yX12_rank w_x_rank ({ frames := 0, cells := 0, slots := 0, locals := 0 }) (va_Pc [.ref (a 0), .int (L0 1)] (nIn (dC, dI) cy sz (vM cy a σ0))) (va_Qi (fun (z : Int32) (_ : Unit) => z = r0.1) (fun _ t => nOut (dC, dI) cy (va_A (vM cy a σ0) sz) (vM cy a r0.2) t) (va_A (vM cy a σ0) sz)) 0 0 (va_A (vM cy a σ0) sz) := by
  refine Met.ofW (cc := cX12_rank) (maxL := 2) (ret := (some .int)) (by decide) rfl ?_
  intro p e s m args below meth c s₁ B hml hv
  obtain ⟨rfl, hsz, hP, hK, hD0, hG⟩ := hv
  have hx := B.exec
  have hb := B.bytes
  have hr := B.returns
  have hts := atoms_spec (ws := w_x_rank) B.pre
  have hown : s.vm.findClass RX12 = some m.cls := findClass_of_methodNamed B.named
  have hlocks := B.notSynchronized
  subst hsz
  have hD := hD0.self (sz := s.heap.size)
  generalize hAe : va_A (vM cy a σ0) s.heap.size = A at hD ⊢
  have hA : ∀ q : Nat, s.heap.size ≤ q → A q := fun q h => by rw [← hAe]; exact Or.inr h
  have hS : va_S A s.heap s.heap [] := va_S.rf
  have hl := lv_entry ([.ref (a 0), .int (L0 1)]) (n := 2) (Nat.le_of_ble_eq_true rfl)
  rw [lg_entry_eq]
  generalize (lg_sl ([.ref (a 0), .int (L0 1)]) ++ List.replicate (2 - (lg_sl ([.ref (a 0), .int (L0 1)])).length) Slot.unset).toArray = ls at hl ⊢
  have hl : lv_has ls 2 [(0, .ref (a 0)), (1, .int (L0 1))] := hl
  have blk : ∀ k : Nat, (bT p l e (headSpec w_x_rank ({ frames := 0, cells := 0, slots := 0, locals := 0 })).room s m #[.ref (a 0), .int (L0 1)] below meth c dC dI cy a A (qI dC dI cy a A below #[.ref (a 0), .int (L0 1)] s) 2 (x_rank k 0) (fun L => [(0, .ref (a 0)), (1, .int (L 1))]) 0 (fun L => [])) ∧ (bT p l e (headSpec w_x_rank ({ frames := 0, cells := 0, slots := 0, locals := 0 })).room s m #[.ref (a 0), .int (L0 1)] below meth c dC dI cy a A (qI dC dI cy a A below #[.ref (a 0), .int (L0 1)] s) 2 (x_rank k 1) (fun L => [(0, .ref (a 0)), (1, .int (L 1))]) 9 (fun L => [])) ∧ (bT p l e (headSpec w_x_rank ({ frames := 0, cells := 0, slots := 0, locals := 0 })).room s m #[.ref (a 0), .int (L0 1)] below meth c dC dI cy a A (qI dC dI cy a A below #[.ref (a 0), .int (L0 1)] s) 2 (x_rank k 2) (fun L => [(0, .ref (a 0)), (1, .int (L 1))]) 17 (fun L => [.int (L 100)])) := by
    intro k
    induction k with
    | zero => exact ⟨fun L σ r h => (by cases h), fun L σ r h => (by cases h), fun L σ r h => (by cases h)⟩
    | succ k ih =>
      refine ⟨?_, ?_, ?_⟩
      · intro L σ r h H locs ls hP hD hS hl
        rw [x_rank] at h
        refine lv_iload_n hx hb dX12_rank_0 rfl (lv_at hl 1 rfl) ?_
        refine lv_iconst (v := 3) hx hb dX12_rank_1 (by decide) ?_
        refine lv_icmp_ge (tgt := 9) hx hb dX12_rank_2 (by decide) (fun c1 => ?_) (fun c1 => ?_)
        · rw [if_pos c1] at h
          exact ih.2.1 L σ r h H locs ls hP hD hS (lv_sub hl [0, 1] rfl)
        · rw [if_neg c1] at h
          refine lv_iload_n hx hb dX12_rank_5 rfl (lv_at hl 1 rfl) ?_
          refine lv_goto (tgt := 17) hx hb dX12_rank_6 (by decide) ?_
          exact ih.2.2 (upd L 100 ((L 1))) σ r h H locs ls hP hD hS (lv_sub hl [0, 1] rfl)
      · intro L σ r h H locs ls hP hD hS hl
        rw [x_rank] at h
        refine lv_aload_n hx hb dX12_rank_9 rfl (lv_at hl 0 rfl) ?_
        refine ng_53 hx hb hts in_x_rank hown hK hP (hts _ (List.mem_cons_of_mem _ (List.mem_append_left _ (List.mem_append_left _ (List.mem_of_getElem? (i := 0) rfl))))) dX12_rank_10 ?_
        refine lv_iload_n hx hb dX12_rank_13 rfl (lv_at hl 1 rfl) ?_
        obtain ⟨q1, h⟩ := nb_ite1 h
        refine nl_28 hx hb hK hP q1 dX12_rank_14 ?_
        refine lv_iconst (v := 1) hx hb dX12_rank_15 (by decide) ?_
        refine lv_iadd hx hb dX12_rank_16 ?_
        exact ih.2.2 (upd L 100 ((((σ.2.2 28 ((L 1)).toNatClampNeg)) + 1))) σ r h H locs ls hP hD hS (lv_sub hl [0, 1] rfl)
      · intro L σ r h H locs ls hP hD hS hl
        rw [x_rank] at h
        cases h
        exact W.iret (v := (L 100)) hx hb hr (fun t ht hW => ⟨⟨(L 100), (), rfl, rfl, by rw [ht]; exact hP, va_K.moved hW.alike hK, hD⟩, hS.F ht⟩) hS.2.2 dX12_rank_17
  exact (blk k0).1 L0 σ0 r0 h0 s.heap [] ls hP hD hS hl
/-! GC: compare -/
def s_compare (X : Nat → Nat → Nat → (Nat → Int32) → MS → Option (Int32 × MS)) (K d : Nat) (b : Nat) (L : Nat → Int32) (σ : MS) : Option (Int32 × MS) := match b with
  | 0 => if ((L 1)) = ((L 2)) then (some (0, σ)) else (X d 0 1 L σ)
  | 1 => ob (x_rank K 0 (upd (fun _ => 0) 1 ((L 1))) σ) (fun r1 => ob (x_rank K 0 (upd (fun _ => 0) 1 ((L 2))) r1.2) (fun r2 => if ((r1.1 - r2.1)) = 0 then (X d 0 2 (upd L 3 ((r1.1 - r2.1))) r2.2) else (some ((r1.1 - r2.1), r2.2))))
  | 2 => if ¬ (((L 1)) < 0 ∨ 1740000 ≤ ((L 1)).toNatClampNeg) then (if ((σ.2.2 28 ((L 1)).toNatClampNeg)) = 2 then (ob (x_compareWholes K 0 (upd (upd (fun _ => 0) 1 ((L 1))) 2 ((L 2))) σ) (fun r3 => some (r3.1, r3.2))) else (X d 0 3 (upd L 4 ((σ.2.2 28 ((L 1)).toNatClampNeg))) σ)) else none
  | 3 => if ¬ (((((L 1)) + 1)) < 0 ∨ 1740000 ≤ ((((L 1)) + 1)).toNatClampNeg) then (if ¬ (((((L 2)) + 1)) < 0 ∨ 1740000 ≤ ((((L 2)) + 1)).toNatClampNeg) then (X d 0 4 (upd (upd (upd L 5 ((σ.2.2 28 ((((L 1)) + 1)).toNatClampNeg))) 6 ((σ.2.2 28 ((((L 2)) + 1)).toNatClampNeg))) 7 0) σ) else none) else none
  | 4 => if ((L 5)) ≤ ((L 7)) then (X d 0 9 L σ) else (if ((L 6)) ≤ ((L 7)) then (X d 0 9 L σ) else (if ((L 4)) = 5 then (X d 0 5 L σ) else (if ((L 4)) = 6 then (X d 0 5 L σ) else (X d 0 6 L σ))))
  | 5 => if ¬ (((((((L 1)) + 4)) + ((L 7)))) < 0 ∨ 1740000 ≤ ((((((L 1)) + 4)) + ((L 7)))).toNatClampNeg) then (if ¬ (((((((L 2)) + 4)) + ((L 7)))) < 0 ∨ 1740000 ≤ ((((((L 2)) + 4)) + ((L 7)))).toNatClampNeg) then (od d (fun e3 => ob (X e3 0 0 (upd (upd (fun _ => 0) 1 ((σ.2.2 28 ((((((L 1)) + 4)) + ((L 7)))).toNatClampNeg))) 2 ((σ.2.2 28 ((((((L 2)) + 4)) + ((L 7)))).toNatClampNeg))) σ) (fun r3 => X d 0 7 (upd L 100 r3.1) r3.2))) else none) else none
  | 6 => if ¬ (((((((L 1)) + 4)) + ((L 7)))) < 0 ∨ 1740000 ≤ ((((((L 1)) + 4)) + ((L 7)))).toNatClampNeg) then (if ¬ (((((((L 2)) + 4)) + ((L 7)))) < 0 ∨ 1740000 ≤ ((((((L 2)) + 4)) + ((L 7)))).toNatClampNeg) then (X d 0 7 (upd L 100 ((((σ.2.2 28 ((((((L 1)) + 4)) + ((L 7)))).toNatClampNeg)) - ((σ.2.2 28 ((((((L 2)) + 4)) + ((L 7)))).toNatClampNeg))))) σ) else none) else none
  | 7 => if ((L 100)) = 0 then (X d 0 8 (upd L 8 ((L 100))) σ) else (some ((L 100), σ))
  | 8 => X d 0 4 (upd L 7 (((L 7)) + 1)) σ
  | 9 => some ((((L 5)) - ((L 6))), σ)
  | _ => none
theorem s_compare_0 (X : Nat → Nat → Nat → (Nat → Int32) → MS → Option (Int32 × MS)) (K d : Nat) (L : Nat → Int32) (σ : MS) : s_compare X K d 0 L σ = (if ((L 1)) = ((L 2)) then (some (0, σ)) else (X d 0 1 L σ)) := rfl
theorem s_compare_1 (X : Nat → Nat → Nat → (Nat → Int32) → MS → Option (Int32 × MS)) (K d : Nat) (L : Nat → Int32) (σ : MS) : s_compare X K d 1 L σ = (ob (x_rank K 0 (upd (fun _ => 0) 1 ((L 1))) σ) (fun r1 => ob (x_rank K 0 (upd (fun _ => 0) 1 ((L 2))) r1.2) (fun r2 => if ((r1.1 - r2.1)) = 0 then (X d 0 2 (upd L 3 ((r1.1 - r2.1))) r2.2) else (some ((r1.1 - r2.1), r2.2))))) := rfl
theorem s_compare_2 (X : Nat → Nat → Nat → (Nat → Int32) → MS → Option (Int32 × MS)) (K d : Nat) (L : Nat → Int32) (σ : MS) : s_compare X K d 2 L σ = (if ¬ (((L 1)) < 0 ∨ 1740000 ≤ ((L 1)).toNatClampNeg) then (if ((σ.2.2 28 ((L 1)).toNatClampNeg)) = 2 then (ob (x_compareWholes K 0 (upd (upd (fun _ => 0) 1 ((L 1))) 2 ((L 2))) σ) (fun r3 => some (r3.1, r3.2))) else (X d 0 3 (upd L 4 ((σ.2.2 28 ((L 1)).toNatClampNeg))) σ)) else none) := rfl
theorem s_compare_3 (X : Nat → Nat → Nat → (Nat → Int32) → MS → Option (Int32 × MS)) (K d : Nat) (L : Nat → Int32) (σ : MS) : s_compare X K d 3 L σ = (if ¬ (((((L 1)) + 1)) < 0 ∨ 1740000 ≤ ((((L 1)) + 1)).toNatClampNeg) then (if ¬ (((((L 2)) + 1)) < 0 ∨ 1740000 ≤ ((((L 2)) + 1)).toNatClampNeg) then (X d 0 4 (upd (upd (upd L 5 ((σ.2.2 28 ((((L 1)) + 1)).toNatClampNeg))) 6 ((σ.2.2 28 ((((L 2)) + 1)).toNatClampNeg))) 7 0) σ) else none) else none) := rfl
theorem s_compare_4 (X : Nat → Nat → Nat → (Nat → Int32) → MS → Option (Int32 × MS)) (K d : Nat) (L : Nat → Int32) (σ : MS) : s_compare X K d 4 L σ = (if ((L 5)) ≤ ((L 7)) then (X d 0 9 L σ) else (if ((L 6)) ≤ ((L 7)) then (X d 0 9 L σ) else (if ((L 4)) = 5 then (X d 0 5 L σ) else (if ((L 4)) = 6 then (X d 0 5 L σ) else (X d 0 6 L σ))))) := rfl
theorem s_compare_5 (X : Nat → Nat → Nat → (Nat → Int32) → MS → Option (Int32 × MS)) (K d : Nat) (L : Nat → Int32) (σ : MS) : s_compare X K d 5 L σ = (if ¬ (((((((L 1)) + 4)) + ((L 7)))) < 0 ∨ 1740000 ≤ ((((((L 1)) + 4)) + ((L 7)))).toNatClampNeg) then (if ¬ (((((((L 2)) + 4)) + ((L 7)))) < 0 ∨ 1740000 ≤ ((((((L 2)) + 4)) + ((L 7)))).toNatClampNeg) then (od d (fun e3 => ob (X e3 0 0 (upd (upd (fun _ => 0) 1 ((σ.2.2 28 ((((((L 1)) + 4)) + ((L 7)))).toNatClampNeg))) 2 ((σ.2.2 28 ((((((L 2)) + 4)) + ((L 7)))).toNatClampNeg))) σ) (fun r3 => X d 0 7 (upd L 100 r3.1) r3.2))) else none) else none) := rfl
theorem s_compare_6 (X : Nat → Nat → Nat → (Nat → Int32) → MS → Option (Int32 × MS)) (K d : Nat) (L : Nat → Int32) (σ : MS) : s_compare X K d 6 L σ = (if ¬ (((((((L 1)) + 4)) + ((L 7)))) < 0 ∨ 1740000 ≤ ((((((L 1)) + 4)) + ((L 7)))).toNatClampNeg) then (if ¬ (((((((L 2)) + 4)) + ((L 7)))) < 0 ∨ 1740000 ≤ ((((((L 2)) + 4)) + ((L 7)))).toNatClampNeg) then (X d 0 7 (upd L 100 ((((σ.2.2 28 ((((((L 1)) + 4)) + ((L 7)))).toNatClampNeg)) - ((σ.2.2 28 ((((((L 2)) + 4)) + ((L 7)))).toNatClampNeg))))) σ) else none) else none) := rfl
theorem s_compare_7 (X : Nat → Nat → Nat → (Nat → Int32) → MS → Option (Int32 × MS)) (K d : Nat) (L : Nat → Int32) (σ : MS) : s_compare X K d 7 L σ = (if ((L 100)) = 0 then (X d 0 8 (upd L 8 ((L 100))) σ) else (some ((L 100), σ))) := rfl
theorem s_compare_8 (X : Nat → Nat → Nat → (Nat → Int32) → MS → Option (Int32 × MS)) (K d : Nat) (L : Nat → Int32) (σ : MS) : s_compare X K d 8 L σ = (X d 0 4 (upd L 7 (((L 7)) + 1)) σ) := rfl
theorem s_compare_9 (X : Nat → Nat → Nat → (Nat → Int32) → MS → Option (Int32 × MS)) (K d : Nat) (L : Nat → Int32) (σ : MS) : s_compare X K d 9 L σ = (some ((((L 5)) - ((L 6))), σ)) := rfl
def x_GC : Nat → Nat → Nat → Nat → (Nat → Int32) → MS → Option (Int32 × MS)
  | 0 => fun _ _ _ _ _ => none
  | k + 1 => fun d m b L σ => match m with
    | 0 => s_compare (x_GC k) k d b L σ
    | _ => none
theorem x_GC_0 (k d b : Nat) (L : Nat → Int32) (σ : MS) : x_GC (k + 1) d 0 b L σ = s_compare (x_GC k) k d b L σ := rfl
def o_x_GC : List Cond := [.code yX12_compare cX12_compare 9 (some .int), .methodLink RX12 457 yX12_rank, .instanceMethod yX12_rank, .selects RX12 yX12_rank yX12_rank, .initialized RX12, .fieldLink RX12 372 "SetHouseModel" "heap" "[I", .methodLink RX12 460 yX12_compareWholes, .instanceMethod yX12_compareWholes, .selects RX12 yX12_compareWholes yX12_compareWholes, .methodLink RX12 451 yX12_compare, .instanceMethod yX12_compare, .selects RX12 yX12_compare yX12_compare]
theorem o_x_GC_good : o_x_GC.all goodWord = true := by decide +kernel
def p_x_GC : List Cond := o_x_GC ++ ((.code yX12_rank cX12_rank 2 (some .int) :: p_x_rank) ++ ((.code yX12_compareWholes cX12_compareWholes 7 (some .int) :: p_x_compareWholes) ++ []))
theorem p_x_GC_good : p_x_GC.all goodWord = true := nb_all2 o_x_GC_good (nb_all2 (nb_allc (by decide +kernel) p_x_rank_good) (nb_all2 (nb_allc (by decide +kernel) p_x_compareWholes_good) rfl))
def w_x_compare : List Cond := .code yX12_compare cX12_compare 9 (some .int) :: (p_x_GC ++ fM)
theorem w_x_compare_good : w_x_compare.all goodWord = true := nb_allc (by decide +kernel) (nb_all2 p_x_GC_good fM_good)
theorem in_x_compare : ∀ w ∈ wsX120, w ∈ w_x_compare := fun _ h => List.mem_cons_of_mem _ (List.mem_append_right _ h)
theorem hd_x_compare : yX12_compare.cls = RX12 ∧ yX12_compare.cls ≠ "java/lang/invoke/MethodHandle" ∧ yX12_compare.cls ≠ "java/lang/invoke/VarHandle" ∧ (parseMethodDescriptor yX12_compare.desc).map (fun d => d.parameters.length) = some 2 := by decide +kernel
abbrev P_GC (l : Launch) (dC : Nat → ClassId) (dI : Nat → Nat → Nat) (cy : Nat → ClassId) (a : Nat → Nat) (k0 : Nat) : Prop := (∀ (d : Nat) (L0 : Nat → Int32) (σ0 : MS) (r0 : Int32 × MS), x_GC k0 d 0 0 L0 σ0 = some r0 → ∀ (sz : Nat), Met l yX12_compare w_x_compare ({ frames := 2 + d, cells := 0, slots := 0, locals := 47 + 28 * d }) (va_Pc [.ref (a 0), .int (L0 1), .int (L0 2)] (nIn (dC, dI) cy sz (vM cy a σ0))) (va_Qi (fun (z : Int32) (_ : Unit) => z = r0.1) (fun _ t => nOut (dC, dI) cy (va_A (vM cy a σ0) sz) (vM cy a r0.2) t) (va_A (vM cy a σ0) sz)) 0 0 (va_A (vM cy a σ0) sz))
theorem gg_x_compare_compareWholes : GoodIn w_x_compare w_x_compareWholes := goodIn_sub (fun w h => (List.mem_cons.mp h).elim (fun e => (List.mem_cons_of_mem _ (List.mem_append_left _ (List.mem_append_right _ (List.mem_append_right _ (List.mem_append_left _ (List.mem_cons.mpr (Or.inl e)))))))) (fun h => (List.mem_append.mp h).elim (fun h => (List.mem_cons_of_mem _ (List.mem_append_left _ (List.mem_append_right _ (List.mem_append_right _ (List.mem_append_left _ (List.mem_cons_of_mem _ h))))))) (fun h => List.mem_cons_of_mem _ (List.mem_append_right _ h)))) w_x_compareWholes_good
theorem g_x_compare_compareWholes_460 : GoodIn w_x_compare (wsV RX12 460 RX12 yX12_compareWholes w_x_compareWholes) := goodIn_app (nb_g4 (List.mem_cons_of_mem _ (List.mem_append_left _ (List.mem_append_left _ (List.mem_of_getElem? (i := 6) rfl)))) (List.mem_cons_of_mem _ (List.mem_append_left _ (List.mem_append_left _ (List.mem_of_getElem? (i := 7) rfl)))) (List.mem_cons_of_mem _ (List.mem_append_left _ (List.mem_append_left _ (List.mem_of_getElem? (i := 8) rfl)))) (List.mem_cons_of_mem _ (List.mem_append_left _ (List.mem_append_left _ (List.mem_of_getElem? (i := 4) rfl)))) (by decide +kernel)) gg_x_compare_compareWholes
theorem gg_x_compare_compare : GoodIn w_x_compare w_x_compare := goodIn_sub (fun w h => (List.mem_cons.mp h).elim (fun e => e ▸ (List.mem_cons_of_mem _ (List.mem_append_left _ (List.mem_append_left _ (List.mem_of_getElem? (i := 0) rfl))))) (fun h => List.mem_cons_of_mem _ h)) w_x_compare_good
theorem g_x_compare_compare_451 : GoodIn w_x_compare (wsV RX12 451 RX12 yX12_compare w_x_compare) := goodIn_app (nb_g4 (List.mem_cons_of_mem _ (List.mem_append_left _ (List.mem_append_left _ (List.mem_of_getElem? (i := 9) rfl)))) (List.mem_cons_of_mem _ (List.mem_append_left _ (List.mem_append_left _ (List.mem_of_getElem? (i := 10) rfl)))) (List.mem_cons_of_mem _ (List.mem_append_left _ (List.mem_append_left _ (List.mem_of_getElem? (i := 11) rfl)))) (List.mem_cons_of_mem _ (List.mem_append_left _ (List.mem_append_left _ (List.mem_of_getElem? (i := 4) rfl)))) (by decide +kernel)) gg_x_compare_compare
theorem gg_x_compare_rank : GoodIn w_x_compare w_x_rank := goodIn_sub (fun w h => (List.mem_cons.mp h).elim (fun e => (List.mem_cons_of_mem _ (List.mem_append_left _ (List.mem_append_right _ (List.mem_append_left _ (List.mem_cons.mpr (Or.inl e))))))) (fun h => (List.mem_append.mp h).elim (fun h => (List.mem_cons_of_mem _ (List.mem_append_left _ (List.mem_append_right _ (List.mem_append_left _ (List.mem_cons_of_mem _ h)))))) (fun h => List.mem_cons_of_mem _ (List.mem_append_right _ h)))) w_x_rank_good
theorem g_x_compare_rank_457 : GoodIn w_x_compare (wsV RX12 457 RX12 yX12_rank w_x_rank) := goodIn_app (nb_g4 (List.mem_cons_of_mem _ (List.mem_append_left _ (List.mem_append_left _ (List.mem_of_getElem? (i := 1) rfl)))) (List.mem_cons_of_mem _ (List.mem_append_left _ (List.mem_append_left _ (List.mem_of_getElem? (i := 2) rfl)))) (List.mem_cons_of_mem _ (List.mem_append_left _ (List.mem_append_left _ (List.mem_of_getElem? (i := 3) rfl)))) (List.mem_cons_of_mem _ (List.mem_append_left _ (List.mem_append_left _ (List.mem_of_getElem? (i := 4) rfl)))) (by decide +kernel)) gg_x_compare_rank
set_option maxHeartbeats 40000000 in
set_option maxRecDepth 100000 in
theorem c_s_compare (l : Launch) (dC : Nat → ClassId) (dI : Nat → Nat → Nat) (cy : Nat → ClassId) (a : Nat → Nat) (k0 : Nat) (IH : ∀ j : Nat, j < k0 → P_GC l dC dI cy a j) (d : Nat) (L0 : Nat → Int32) (σ0 : MS) (r0 : Int32 × MS) (h0 : x_GC k0 d 0 0 L0 σ0 = some r0) (sz : Nat) : Met l yX12_compare w_x_compare ({ frames := 2 + d, cells := 0, slots := 0, locals := 47 + 28 * d }) (va_Pc [.ref (a 0), .int (L0 1), .int (L0 2)] (nIn (dC, dI) cy sz (vM cy a σ0))) (va_Qi (fun (z : Int32) (_ : Unit) => z = r0.1) (fun _ t => nOut (dC, dI) cy (va_A (vM cy a σ0) sz) (vM cy a r0.2) t) (va_A (vM cy a σ0) sz)) 0 0 (va_A (vM cy a σ0) sz) := by
  refine Met.ofW (cc := cX12_compare) (maxL := 9) (ret := (some .int)) (by decide) rfl ?_
  intro p e s m args below meth c s₁ B hml hv
  obtain ⟨rfl, hsz, hP, hK, hD0, hG⟩ := hv
  have hx := B.exec
  have hb := B.bytes
  have hr := B.returns
  have hts := atoms_spec (ws := w_x_compare) B.pre
  have hown : s.vm.findClass RX12 = some m.cls := findClass_of_methodNamed B.named
  have hlocks := B.notSynchronized
  subst hsz
  have hD := hD0.self (sz := s.heap.size)
  generalize hAe : va_A (vM cy a σ0) s.heap.size = A at hD ⊢
  have hA : ∀ q : Nat, s.heap.size ≤ q → A q := fun q h => by rw [← hAe]; exact Or.inr h
  have hS : va_S A s.heap s.heap [] := va_S.rf
  have hl := lv_entry ([.ref (a 0), .int (L0 1), .int (L0 2)]) (n := 9) (Nat.le_of_ble_eq_true rfl)
  rw [lg_entry_eq]
  generalize (lg_sl ([.ref (a 0), .int (L0 1), .int (L0 2)]) ++ List.replicate (9 - (lg_sl ([.ref (a 0), .int (L0 1), .int (L0 2)])).length) Slot.unset).toArray = ls at hl ⊢
  have hl : lv_has ls 9 [(0, .ref (a 0)), (1, .int (L0 1)), (2, .int (L0 2))] := hl
  have blk : ∀ k : Nat, k ≤ k0 → (bT p l e (headSpec w_x_compare ({ frames := 2 + d, cells := 0, slots := 0, locals := 47 + 28 * d })).room s m #[.ref (a 0), .int (L0 1), .int (L0 2)] below meth c dC dI cy a A (qI dC dI cy a A below #[.ref (a 0), .int (L0 1), .int (L0 2)] s) 9 (x_GC k d 0 0) (fun L => [(0, .ref (a 0)), (1, .int (L 1)), (2, .int (L 2))]) 0 (fun L => [])) ∧ (bT p l e (headSpec w_x_compare ({ frames := 2 + d, cells := 0, slots := 0, locals := 47 + 28 * d })).room s m #[.ref (a 0), .int (L0 1), .int (L0 2)] below meth c dC dI cy a A (qI dC dI cy a A below #[.ref (a 0), .int (L0 1), .int (L0 2)] s) 9 (x_GC k d 0 1) (fun L => [(0, .ref (a 0)), (1, .int (L 1)), (2, .int (L 2))]) 7 (fun L => [])) ∧ (bT p l e (headSpec w_x_compare ({ frames := 2 + d, cells := 0, slots := 0, locals := 47 + 28 * d })).room s m #[.ref (a 0), .int (L0 1), .int (L0 2)] below meth c dC dI cy a A (qI dC dI cy a A below #[.ref (a 0), .int (L0 1), .int (L0 2)] s) 9 (x_GC k d 0 2) (fun L => [(0, .ref (a 0)), (1, .int (L 1)), (2, .int (L 2)), (3, .int (L 3))]) 25 (fun L => [])) ∧ (bT p l e (headSpec w_x_compare ({ frames := 2 + d, cells := 0, slots := 0, locals := 47 + 28 * d })).room s m #[.ref (a 0), .int (L0 1), .int (L0 2)] below meth c dC dI cy a A (qI dC dI cy a A below #[.ref (a 0), .int (L0 1), .int (L0 2)] s) 9 (x_GC k d 0 3) (fun L => [(0, .ref (a 0)), (1, .int (L 1)), (2, .int (L 2)), (3, .int (L 3)), (4, .int (L 4))]) 46 (fun L => [])) ∧ (bT p l e (headSpec w_x_compare ({ frames := 2 + d, cells := 0, slots := 0, locals := 47 + 28 * d })).room s m #[.ref (a 0), .int (L0 1), .int (L0 2)] below meth c dC dI cy a A (qI dC dI cy a A below #[.ref (a 0), .int (L0 1), .int (L0 2)] s) 9 (x_GC k d 0 4) (fun L => [(0, .ref (a 0)), (1, .int (L 1)), (2, .int (L 2)), (3, .int (L 3)), (4, .int (L 4)), (5, .int (L 5)), (6, .int (L 6)), (7, .int (L 7))]) 69 (fun L => [])) ∧ (bT p l e (headSpec w_x_compare ({ frames := 2 + d, cells := 0, slots := 0, locals := 47 + 28 * d })).room s m #[.ref (a 0), .int (L0 1), .int (L0 2)] below meth c dC dI cy a A (qI dC dI cy a A below #[.ref (a 0), .int (L0 1), .int (L0 2)] s) 9 (x_GC k d 0 5) (fun L => [(0, .ref (a 0)), (1, .int (L 1)), (2, .int (L 2)), (3, .int (L 3)), (4, .int (L 4)), (5, .int (L 5)), (6, .int (L 6)), (7, .int (L 7))]) 96 (fun L => [])) ∧ (bT p l e (headSpec w_x_compare ({ frames := 2 + d, cells := 0, slots := 0, locals := 47 + 28 * d })).room s m #[.ref (a 0), .int (L0 1), .int (L0 2)] below meth c dC dI cy a A (qI dC dI cy a A below #[.ref (a 0), .int (L0 1), .int (L0 2)] s) 9 (x_GC k d 0 6) (fun L => [(0, .ref (a 0)), (1, .int (L 1)), (2, .int (L 2)), (3, .int (L 3)), (4, .int (L 4)), (5, .int (L 5)), (6, .int (L 6)), (7, .int (L 7))]) 125 (fun L => [])) ∧ (bT p l e (headSpec w_x_compare ({ frames := 2 + d, cells := 0, slots := 0, locals := 47 + 28 * d })).room s m #[.ref (a 0), .int (L0 1), .int (L0 2)] below meth c dC dI cy a A (qI dC dI cy a A below #[.ref (a 0), .int (L0 1), .int (L0 2)] s) 9 (x_GC k d 0 7) (fun L => [(0, .ref (a 0)), (1, .int (L 1)), (2, .int (L 2)), (3, .int (L 3)), (4, .int (L 4)), (5, .int (L 5)), (6, .int (L 6)), (7, .int (L 7))]) 148 (fun L => [.int (L 100)])) ∧ (bT p l e (headSpec w_x_compare ({ frames := 2 + d, cells := 0, slots := 0, locals := 47 + 28 * d })).room s m #[.ref (a 0), .int (L0 1), .int (L0 2)] below meth c dC dI cy a A (qI dC dI cy a A below #[.ref (a 0), .int (L0 1), .int (L0 2)] s) 9 (x_GC k d 0 8) (fun L => [(0, .ref (a 0)), (1, .int (L 1)), (2, .int (L 2)), (3, .int (L 3)), (4, .int (L 4)), (5, .int (L 5)), (6, .int (L 6)), (7, .int (L 7)), (8, .int (L 8))]) 158 (fun L => [])) ∧ (bT p l e (headSpec w_x_compare ({ frames := 2 + d, cells := 0, slots := 0, locals := 47 + 28 * d })).room s m #[.ref (a 0), .int (L0 1), .int (L0 2)] below meth c dC dI cy a A (qI dC dI cy a A below #[.ref (a 0), .int (L0 1), .int (L0 2)] s) 9 (x_GC k d 0 9) (fun L => [(0, .ref (a 0)), (1, .int (L 1)), (2, .int (L 2)), (3, .int (L 3)), (4, .int (L 4)), (5, .int (L 5)), (6, .int (L 6)), (7, .int (L 7))]) 164 (fun L => [])) := by
    intro k
    induction k with
    | zero => exact fun _ => ⟨fun L σ r h => (by cases h), fun L σ r h => (by cases h), fun L σ r h => (by cases h), fun L σ r h => (by cases h), fun L σ r h => (by cases h), fun L σ r h => (by cases h), fun L σ r h => (by cases h), fun L σ r h => (by cases h), fun L σ r h => (by cases h), fun L σ r h => (by cases h)⟩
    | succ k ih =>
      intro hk
      replace ih := ih (by omega)
      refine ⟨?_, ?_, ?_, ?_, ?_, ?_, ?_, ?_, ?_, ?_⟩
      · intro L σ r h H locs ls hP hD hS hl
        rw [x_GC_0, s_compare_0] at h
        refine lv_iload_n hx hb dX12_compare_0 rfl (lv_at hl 1 rfl) ?_
        refine lv_iload_n hx hb dX12_compare_1 rfl (lv_at hl 2 rfl) ?_
        refine lv_icmp_ne (tgt := 7) hx hb dX12_compare_2 (by decide) (fun c1 => ?_) (fun c1 => ?_)
        · rw [if_neg c1] at h
          exact ih.2.1 L σ r h H locs ls hP hD hS (lv_sub hl [0, 1, 2] rfl)
        · rw [if_pos c1] at h
          refine lv_iconst (v := 0) hx hb dX12_compare_5 (by decide) ?_
          cases h
          exact W.iret (v := 0) hx hb hr (fun t ht hW => ⟨⟨0, (), rfl, rfl, by rw [ht]; exact hP, va_K.moved hW.alike hK, hD⟩, hS.F ht⟩) hS.2.2 dX12_compare_6
      · intro L σ r h H locs ls hP hD hS hl
        rw [x_GC_0, s_compare_1] at h
        refine lv_aload_n hx hb dX12_compare_7 rfl (lv_at hl 0 rfl) ?_
        refine lv_iload_n hx hb dX12_compare_8 rfl (lv_at hl 1 rfl) ?_
        obtain ⟨r1, hc1, h⟩ := ob_ex h
        refine nc_Vi (As := [.int (L 1)]) (rest := []) ⟨hx, hb, hml, hown, hts⟩ (c_x_rank l dC dI cy a k (upd (fun _ => 0) 1 ((L 1))) σ r1 hc1 H.size) (cwV 1 hts g_x_compare_rank_457 rfl rfl rfl hd_x_rank (by show 0 + 1 ≤ 2 + d ∧ 8 + (2 + 11) + 0 ≤ 47 + 28 * d; omega)) hK hG hA hP hD hS rfl hl.1 rfl (Nat.le_of_ble_eq_true rfl) dX12_compare_9 ⟨Nat.le_refl _, Nat.le_refl _⟩ (fun H locs hP hD hS => ?_)
        refine lv_aload_n hx hb dX12_compare_12 rfl (lv_at hl 0 rfl) ?_
        refine lv_iload_n hx hb dX12_compare_13 rfl (lv_at hl 2 rfl) ?_
        obtain ⟨r2, hc2, h⟩ := ob_ex h
        refine nc_Vi (As := [.int (L 2)]) (rest := [.int r1.1]) ⟨hx, hb, hml, hown, hts⟩ (c_x_rank l dC dI cy a k (upd (fun _ => 0) 1 ((L 2))) r1.2 r2 hc2 H.size) (cwV 1 hts g_x_compare_rank_457 rfl rfl rfl hd_x_rank (by show 0 + 1 ≤ 2 + d ∧ 8 + (2 + 11) + 0 ≤ 47 + 28 * d; omega)) hK hG hA hP hD hS rfl hl.1 rfl (Nat.le_of_ble_eq_true rfl) dX12_compare_14 ⟨Nat.le_refl _, Nat.le_refl _⟩ (fun H locs hP hD hS => ?_)
        refine lv_isub hx hb dX12_compare_17 ?_
        refine lv_istore_n (lv' := [(3, .int (r1.1 - r2.1)), (0, .ref (a 0)), (1, .int (L 1)), (2, .int (L 2))]) hx hb dX12_compare_18 rfl hl (by decide) rfl (fun ls hl => ?_)
        refine lv_iload_n hx hb dX12_compare_19 rfl (lv_at hl 0 rfl) ?_
        refine lv_if_eq (tgt := 25) hx hb dX12_compare_20 (by decide) (fun c3 => ?_) (fun c3 => ?_)
        · rw [if_pos c3] at h
          exact ih.2.2.1 (upd L 3 ((r1.1 - r2.1))) r2.2 r h H locs ls hP hD hS (lv_sub hl [1, 2, 3, 0] rfl)
        · rw [if_neg c3] at h
          refine lv_iload_n hx hb dX12_compare_23 rfl (lv_at hl 0 rfl) ?_
          cases h
          exact W.iret (v := (r1.1 - r2.1)) hx hb hr (fun t ht hW => ⟨⟨(r1.1 - r2.1), (), rfl, rfl, by rw [ht]; exact hP, va_K.moved hW.alike hK, hD⟩, hS.F ht⟩) hS.2.2 dX12_compare_24
      · intro L σ r h H locs ls hP hD hS hl
        rw [x_GC_0, s_compare_2] at h
        refine lv_aload_n hx hb dX12_compare_25 rfl (lv_at hl 0 rfl) ?_
        refine ng_53 hx hb hts in_x_compare hown hK hP (hts _ (List.mem_cons_of_mem _ (List.mem_append_left _ (List.mem_append_left _ (List.mem_of_getElem? (i := 5) rfl))))) dX12_compare_26 ?_
        refine lv_iload_n hx hb dX12_compare_29 rfl (lv_at hl 1 rfl) ?_
        obtain ⟨q1, h⟩ := nb_ite1 h
        refine nl_28 hx hb hK hP q1 dX12_compare_30 ?_
        refine lv_istore (lv' := [(4, .int (σ.2.2 28 ((L 1)).toNatClampNeg)), (0, .ref (a 0)), (1, .int (L 1)), (2, .int (L 2)), (3, .int (L 3))]) hx hb dX12_compare_31 hl (by decide) rfl (fun ls hl => ?_)
        refine lv_iload hx hb dX12_compare_33 (lv_at hl 0 rfl) ?_
        refine lv_iconst (v := 2) hx hb dX12_compare_35 (by decide) ?_
        refine lv_icmp_ne (tgt := 46) hx hb dX12_compare_36 (by decide) (fun c2 => ?_) (fun c2 => ?_)
        · rw [if_neg c2] at h
          exact ih.2.2.2.1 (upd L 4 ((σ.2.2 28 ((L 1)).toNatClampNeg))) σ r h H locs ls hP hD hS (lv_sub hl [1, 2, 3, 4, 0] rfl)
        · rw [if_pos c2] at h
          refine lv_aload_n hx hb dX12_compare_39 rfl (lv_at hl 1 rfl) ?_
          refine lv_iload_n hx hb dX12_compare_40 rfl (lv_at hl 2 rfl) ?_
          refine lv_iload_n hx hb dX12_compare_41 rfl (lv_at hl 3 rfl) ?_
          obtain ⟨r3, hc3, h⟩ := ob_ex h
          refine nc_Vi (As := [.int (L 1), .int (L 2)]) (rest := []) ⟨hx, hb, hml, hown, hts⟩ (c_x_compareWholes l dC dI cy a k (upd (upd (fun _ => 0) 1 ((L 1))) 2 ((L 2))) σ r3 hc3 H.size) (cwV 2 hts g_x_compare_compareWholes_460 rfl rfl rfl hd_x_compareWholes (by show 1 + 1 ≤ 2 + d ∧ 8 + (7 + 11) + 21 ≤ 47 + 28 * d; omega)) hK hG hA hP hD hS rfl hl.1 rfl (Nat.le_of_ble_eq_true rfl) dX12_compare_42 ⟨Nat.le_refl _, Nat.le_refl _⟩ (fun H locs hP hD hS => ?_)
          cases h
          exact W.iret (v := r3.1) hx hb hr (fun t ht hW => ⟨⟨r3.1, (), rfl, rfl, by rw [ht]; exact hP, va_K.moved hW.alike hK, hD⟩, hS.F ht⟩) hS.2.2 dX12_compare_45
      · intro L σ r h H locs ls hP hD hS hl
        rw [x_GC_0, s_compare_3] at h
        refine lv_aload_n hx hb dX12_compare_46 rfl (lv_at hl 0 rfl) ?_
        refine ng_53 hx hb hts in_x_compare hown hK hP (hts _ (List.mem_cons_of_mem _ (List.mem_append_left _ (List.mem_append_left _ (List.mem_of_getElem? (i := 5) rfl))))) dX12_compare_47 ?_
        refine lv_iload_n hx hb dX12_compare_50 rfl (lv_at hl 1 rfl) ?_
        refine lv_iconst (v := 1) hx hb dX12_compare_51 (by decide) ?_
        refine lv_iadd hx hb dX12_compare_52 ?_
        obtain ⟨q1, h⟩ := nb_ite1 h
        refine nl_28 hx hb hK hP q1 dX12_compare_53 ?_
        refine lv_istore (lv' := [(5, .int (σ.2.2 28 ((((L 1)) + 1)).toNatClampNeg)), (0, .ref (a 0)), (1, .int (L 1)), (2, .int (L 2)), (3, .int (L 3)), (4, .int (L 4))]) hx hb dX12_compare_54 hl (by decide) rfl (fun ls hl => ?_)
        refine lv_aload_n hx hb dX12_compare_56 rfl (lv_at hl 1 rfl) ?_
        refine ng_53 hx hb hts in_x_compare hown hK hP (hts _ (List.mem_cons_of_mem _ (List.mem_append_left _ (List.mem_append_left _ (List.mem_of_getElem? (i := 5) rfl))))) dX12_compare_57 ?_
        refine lv_iload_n hx hb dX12_compare_60 rfl (lv_at hl 3 rfl) ?_
        refine lv_iconst (v := 1) hx hb dX12_compare_61 (by decide) ?_
        refine lv_iadd hx hb dX12_compare_62 ?_
        obtain ⟨q2, h⟩ := nb_ite1 h
        refine nl_28 hx hb hK hP q2 dX12_compare_63 ?_
        refine lv_istore (lv' := [(6, .int (σ.2.2 28 ((((L 2)) + 1)).toNatClampNeg)), (5, .int (σ.2.2 28 ((((L 1)) + 1)).toNatClampNeg)), (0, .ref (a 0)), (1, .int (L 1)), (2, .int (L 2)), (3, .int (L 3)), (4, .int (L 4))]) hx hb dX12_compare_64 hl (by decide) rfl (fun ls hl => ?_)
        refine lv_iconst (v := 0) hx hb dX12_compare_66 (by decide) ?_
        refine lv_istore (lv' := [(7, .int 0), (6, .int (σ.2.2 28 ((((L 2)) + 1)).toNatClampNeg)), (5, .int (σ.2.2 28 ((((L 1)) + 1)).toNatClampNeg)), (0, .ref (a 0)), (1, .int (L 1)), (2, .int (L 2)), (3, .int (L 3)), (4, .int (L 4))]) hx hb dX12_compare_67 hl (by decide) rfl (fun ls hl => ?_)
        exact ih.2.2.2.2.1 (upd (upd (upd L 5 ((σ.2.2 28 ((((L 1)) + 1)).toNatClampNeg))) 6 ((σ.2.2 28 ((((L 2)) + 1)).toNatClampNeg))) 7 0) σ r h H locs ls hP hD hS (lv_sub hl [3, 4, 5, 6, 7, 2, 1, 0] rfl)
      · intro L σ r h H locs ls hP hD hS hl
        rw [x_GC_0, s_compare_4] at h
        refine lv_iload hx hb dX12_compare_69 (lv_at hl 7 rfl) ?_
        refine lv_iload hx hb dX12_compare_71 (lv_at hl 5 rfl) ?_
        refine lv_icmp_ge (tgt := 164) hx hb dX12_compare_73 (by decide) (fun c1 => ?_) (fun c1 => ?_)
        · rw [if_pos c1] at h
          exact ih.2.2.2.2.2.2.2.2.2 L σ r h H locs ls hP hD hS (lv_sub hl [0, 1, 2, 3, 4, 5, 6, 7] rfl)
        · rw [if_neg c1] at h
          refine lv_iload hx hb dX12_compare_76 (lv_at hl 7 rfl) ?_
          refine lv_iload hx hb dX12_compare_78 (lv_at hl 6 rfl) ?_
          refine lv_icmp_ge (tgt := 164) hx hb dX12_compare_80 (by decide) (fun c2 => ?_) (fun c2 => ?_)
          · rw [if_pos c2] at h
            exact ih.2.2.2.2.2.2.2.2.2 L σ r h H locs ls hP hD hS (lv_sub hl [0, 1, 2, 3, 4, 5, 6, 7] rfl)
          · rw [if_neg c2] at h
            refine lv_iload hx hb dX12_compare_83 (lv_at hl 4 rfl) ?_
            refine lv_iconst (v := 5) hx hb dX12_compare_85 (by decide) ?_
            refine lv_icmp_eq (tgt := 96) hx hb dX12_compare_86 (by decide) (fun c3 => ?_) (fun c3 => ?_)
            · rw [if_pos c3] at h
              exact ih.2.2.2.2.2.1 L σ r h H locs ls hP hD hS (lv_sub hl [0, 1, 2, 3, 4, 5, 6, 7] rfl)
            · rw [if_neg c3] at h
              refine lv_iload hx hb dX12_compare_89 (lv_at hl 4 rfl) ?_
              refine lv_bipush (v := 6) hx hb dX12_compare_91 (by decide) ?_
              refine lv_icmp_ne (tgt := 125) hx hb dX12_compare_93 (by decide) (fun c4 => ?_) (fun c4 => ?_)
              · rw [if_neg c4] at h
                exact ih.2.2.2.2.2.2.1 L σ r h H locs ls hP hD hS (lv_sub hl [0, 1, 2, 3, 4, 5, 6, 7] rfl)
              · rw [if_pos c4] at h
                exact ih.2.2.2.2.2.1 L σ r h H locs ls hP hD hS (lv_sub hl [0, 1, 2, 3, 4, 5, 6, 7] rfl)
      · intro L σ r h H locs ls hP hD hS hl
        rw [x_GC_0, s_compare_5] at h
        refine lv_aload_n hx hb dX12_compare_96 rfl (lv_at hl 0 rfl) ?_
        refine lv_aload_n hx hb dX12_compare_97 rfl (lv_at hl 0 rfl) ?_
        refine ng_53 hx hb hts in_x_compare hown hK hP (hts _ (List.mem_cons_of_mem _ (List.mem_append_left _ (List.mem_append_left _ (List.mem_of_getElem? (i := 5) rfl))))) dX12_compare_98 ?_
        refine lv_iload_n hx hb dX12_compare_101 rfl (lv_at hl 1 rfl) ?_
        refine lv_iconst (v := 4) hx hb dX12_compare_102 (by decide) ?_
        refine lv_iadd hx hb dX12_compare_103 ?_
        refine lv_iload hx hb dX12_compare_104 (lv_at hl 7 rfl) ?_
        refine lv_iadd hx hb dX12_compare_106 ?_
        obtain ⟨q1, h⟩ := nb_ite1 h
        refine nl_28 hx hb hK hP q1 dX12_compare_107 ?_
        refine lv_aload_n hx hb dX12_compare_108 rfl (lv_at hl 0 rfl) ?_
        refine ng_53 hx hb hts in_x_compare hown hK hP (hts _ (List.mem_cons_of_mem _ (List.mem_append_left _ (List.mem_append_left _ (List.mem_of_getElem? (i := 5) rfl))))) dX12_compare_109 ?_
        refine lv_iload_n hx hb dX12_compare_112 rfl (lv_at hl 2 rfl) ?_
        refine lv_iconst (v := 4) hx hb dX12_compare_113 (by decide) ?_
        refine lv_iadd hx hb dX12_compare_114 ?_
        refine lv_iload hx hb dX12_compare_115 (lv_at hl 7 rfl) ?_
        refine lv_iadd hx hb dX12_compare_117 ?_
        obtain ⟨q2, h⟩ := nb_ite1 h
        refine nl_28 hx hb hK hP q2 dX12_compare_118 ?_
        obtain ⟨e3, he3, h⟩ := od_ex h
        obtain ⟨r3, hc3, h⟩ := ob_ex h
        refine nc_Vi (As := [.int (σ.2.2 28 ((((((L 1)) + 4)) + ((L 7)))).toNatClampNeg), .int (σ.2.2 28 ((((((L 2)) + 4)) + ((L 7)))).toNatClampNeg)]) (rest := []) ⟨hx, hb, hml, hown, hts⟩ ((IH k (by omega)) e3 (upd (upd (fun _ => 0) 1 ((σ.2.2 28 ((((((L 1)) + 4)) + ((L 7)))).toNatClampNeg))) 2 ((σ.2.2 28 ((((((L 2)) + 4)) + ((L 7)))).toNatClampNeg))) σ r3 hc3 H.size) (cwV 2 hts g_x_compare_compare_451 rfl rfl rfl hd_x_compare (by show (2 + e3) + 1 ≤ 2 + d ∧ 8 + (9 + 11) + (47 + 28 * e3) ≤ 47 + 28 * d; omega)) hK hG hA hP hD hS rfl hl.1 rfl (Nat.le_of_ble_eq_true rfl) dX12_compare_119 ⟨Nat.le_refl _, Nat.le_refl _⟩ (fun H locs hP hD hS => ?_)
        refine lv_goto (tgt := 148) hx hb dX12_compare_122 (by decide) ?_
        exact ih.2.2.2.2.2.2.2.1 (upd L 100 r3.1) r3.2 r h H locs ls hP hD hS (lv_sub hl [0, 1, 2, 3, 4, 5, 6, 7] rfl)
      · intro L σ r h H locs ls hP hD hS hl
        rw [x_GC_0, s_compare_6] at h
        refine lv_aload_n hx hb dX12_compare_125 rfl (lv_at hl 0 rfl) ?_
        refine ng_53 hx hb hts in_x_compare hown hK hP (hts _ (List.mem_cons_of_mem _ (List.mem_append_left _ (List.mem_append_left _ (List.mem_of_getElem? (i := 5) rfl))))) dX12_compare_126 ?_
        refine lv_iload_n hx hb dX12_compare_129 rfl (lv_at hl 1 rfl) ?_
        refine lv_iconst (v := 4) hx hb dX12_compare_130 (by decide) ?_
        refine lv_iadd hx hb dX12_compare_131 ?_
        refine lv_iload hx hb dX12_compare_132 (lv_at hl 7 rfl) ?_
        refine lv_iadd hx hb dX12_compare_134 ?_
        obtain ⟨q1, h⟩ := nb_ite1 h
        refine nl_28 hx hb hK hP q1 dX12_compare_135 ?_
        refine lv_aload_n hx hb dX12_compare_136 rfl (lv_at hl 0 rfl) ?_
        refine ng_53 hx hb hts in_x_compare hown hK hP (hts _ (List.mem_cons_of_mem _ (List.mem_append_left _ (List.mem_append_left _ (List.mem_of_getElem? (i := 5) rfl))))) dX12_compare_137 ?_
        refine lv_iload_n hx hb dX12_compare_140 rfl (lv_at hl 2 rfl) ?_
        refine lv_iconst (v := 4) hx hb dX12_compare_141 (by decide) ?_
        refine lv_iadd hx hb dX12_compare_142 ?_
        refine lv_iload hx hb dX12_compare_143 (lv_at hl 7 rfl) ?_
        refine lv_iadd hx hb dX12_compare_145 ?_
        obtain ⟨q2, h⟩ := nb_ite1 h
        refine nl_28 hx hb hK hP q2 dX12_compare_146 ?_
        refine lv_isub hx hb dX12_compare_147 ?_
        exact ih.2.2.2.2.2.2.2.1 (upd L 100 ((((σ.2.2 28 ((((((L 1)) + 4)) + ((L 7)))).toNatClampNeg)) - ((σ.2.2 28 ((((((L 2)) + 4)) + ((L 7)))).toNatClampNeg))))) σ r h H locs ls hP hD hS (lv_sub hl [0, 1, 2, 3, 4, 5, 6, 7] rfl)
      · intro L σ r h H locs ls hP hD hS hl
        rw [x_GC_0, s_compare_7] at h
        refine lv_istore (lv' := [(8, .int (L 100)), (0, .ref (a 0)), (1, .int (L 1)), (2, .int (L 2)), (3, .int (L 3)), (4, .int (L 4)), (5, .int (L 5)), (6, .int (L 6)), (7, .int (L 7))]) hx hb dX12_compare_148 hl (by decide) rfl (fun ls hl => ?_)
        refine lv_iload hx hb dX12_compare_150 (lv_at hl 0 rfl) ?_
        refine lv_if_eq (tgt := 158) hx hb dX12_compare_152 (by decide) (fun c1 => ?_) (fun c1 => ?_)
        · rw [if_pos c1] at h
          exact ih.2.2.2.2.2.2.2.2.1 (upd L 8 ((L 100))) σ r h H locs ls hP hD hS (lv_sub hl [1, 2, 3, 4, 5, 6, 7, 8, 0] rfl)
        · rw [if_neg c1] at h
          refine lv_iload hx hb dX12_compare_155 (lv_at hl 0 rfl) ?_
          cases h
          exact W.iret (v := (L 100)) hx hb hr (fun t ht hW => ⟨⟨(L 100), (), rfl, rfl, by rw [ht]; exact hP, va_K.moved hW.alike hK, hD⟩, hS.F ht⟩) hS.2.2 dX12_compare_157
      · intro L σ r h H locs ls hP hD hS hl
        rw [x_GC_0, s_compare_8] at h
        refine lv_iinc (v := ((L 7)) + 1) (lv' := [(7, .int (((L 7)) + 1)), (0, .ref (a 0)), (1, .int (L 1)), (2, .int (L 2)), (3, .int (L 3)), (4, .int (L 4)), (5, .int (L 5)), (6, .int (L 6)), (8, .int (L 8))]) hx hb dX12_compare_158 hl (k := 7) rfl rfl (by decide) rfl (fun ls hl => ?_)
        refine lv_goto (tgt := 69) hx hb dX12_compare_161 (by decide) ?_
        exact ih.2.2.2.2.1 (upd L 7 (((L 7)) + 1)) σ r h H locs ls hP hD hS (lv_sub hl [1, 2, 3, 4, 5, 6, 7, 0] rfl)
      · intro L σ r h H locs ls hP hD hS hl
        rw [x_GC_0, s_compare_9] at h
        refine lv_iload hx hb dX12_compare_164 (lv_at hl 5 rfl) ?_
        refine lv_iload hx hb dX12_compare_166 (lv_at hl 6 rfl) ?_
        refine lv_isub hx hb dX12_compare_168 ?_
        cases h
        exact W.iret (v := (((L 5)) - ((L 6)))) hx hb hr (fun t ht hW => ⟨⟨(((L 5)) - ((L 6))), (), rfl, rfl, by rw [ht]; exact hP, va_K.moved hW.alike hK, hD⟩, hS.F ht⟩) hS.2.2 dX12_compare_169
  exact (blk k0 (Nat.le_refl _)).1 L0 σ0 r0 h0 s.heap [] ls hP hD hS hl
theorem c_GC (l : Launch) (dC : Nat → ClassId) (dI : Nat → Nat → Nat) (cy : Nat → ClassId) (a : Nat → Nat) : ∀ k0 : Nat, P_GC l dC dI cy a k0 := by
  intro k0
  induction k0 using Nat.strongRecOn with
  | ind k0 IH => exact c_s_compare l dC dI cy a k0 IH
def x_compare (k b : Nat) (L : Nat → Int32) (σ : MS) : Option (Int32 × MS) := x_GC k 40 0 b L σ
theorem c_x_compare (l : Launch) (dC : Nat → ClassId) (dI : Nat → Nat → Nat) (cy : Nat → ClassId) (a : Nat → Nat) (k0 : Nat) (L0 : Nat → Int32) (σ0 : MS) (r0 : Int32 × MS) (h0 : x_compare k0 0 L0 σ0 = some r0) (sz : Nat) : Met l yX12_compare w_x_compare ({ frames := 42, cells := 0, slots := 0, locals := 1167 }) (va_Pc [.ref (a 0), .int (L0 1), .int (L0 2)] (nIn (dC, dI) cy sz (vM cy a σ0))) (va_Qi (fun (z : Int32) (_ : Unit) => z = r0.1) (fun _ t => nOut (dC, dI) cy (va_A (vM cy a σ0) sz) (vM cy a r0.2) t) (va_A (vM cy a σ0) sz)) 0 0 (va_A (vM cy a σ0) sz) := (c_GC l dC dI cy a k0) 40 L0 σ0 r0 h0 sz
/-! merge -/
def x_merge : Nat → Nat → (Nat → Int32) → MS → Option (Int32 × MS)
  | 0, _, _, _ => none
  | k + 1, 0, L, σ => x_merge k 1 (upd (upd (upd L 5 ((L 2))) 6 ((L 3))) 7 ((L 2))) σ
  | k + 1, 1, L, σ => if ((L 4)) ≤ ((L 7)) then (x_merge k 12 L σ) else (if ((L 6)) = ((L 4)) then (x_merge k 2 L σ) else (if ((L 3)) ≤ ((L 5)) then (x_merge k 3 L σ) else (if ¬ (((((L 1)) + ((L 5)))) < 0 ∨ 185000 ≤ ((((L 1)) + ((L 5)))).toNatClampNeg) then (if ¬ (((((L 1)) + ((L 6)))) < 0 ∨ 185000 ≤ ((((L 1)) + ((L 6)))).toNatClampNeg) then (ob (x_compare k 0 (upd (upd (fun _ => 0) 1 ((σ.2.2 29 ((((L 1)) + ((L 5)))).toNatClampNeg))) 2 ((σ.2.2 29 ((((L 1)) + ((L 6)))).toNatClampNeg))) σ) (fun r6 => if 0 < r6.1 then (x_merge k 3 L r6.2) else (x_merge k 2 L r6.2))) else none) else none)))
  | k + 1, 2, L, σ => x_merge k 4 (upd L 100 1) σ
  | k + 1, 3, L, σ => x_merge k 4 (upd L 100 0) σ
  | k + 1, 4, L, σ => if ((L 100)) = 0 then (x_merge k 5 (upd (upd L 8 ((L 100))) 100 ((L 7))) σ) else (if ¬ (((((L 1)) + ((L 5)))) < 0 ∨ 185000 ≤ ((((L 1)) + ((L 5)))).toNatClampNeg) then (x_merge k 6 (upd (upd (upd L 8 ((L 100))) 100 ((σ.2.2 29 ((((L 1)) + ((L 5)))).toNatClampNeg))) 101 ((L 7))) σ) else none)
  | k + 1, 5, L, σ => if ¬ (((((L 1)) + ((L 6)))) < 0 ∨ 185000 ≤ ((((L 1)) + ((L 6)))).toNatClampNeg) then (x_merge k 6 (upd (upd L 100 ((σ.2.2 29 ((((L 1)) + ((L 6)))).toNatClampNeg))) 101 ((L 100))) σ) else none
  | k + 1, 6, L, σ => if ¬ (((L 101)) < 0 ∨ 60100 ≤ ((L 101)).toNatClampNeg) then (x_merge k 7 L (σ.1, σ.2.1, updG σ.2.2 41 (upd (σ.2.2 41) ((L 101)).toNatClampNeg ((L 100))))) else none
  | k + 1, 7, L, σ => if ((L 8)) = 0 then (x_merge k 8 (upd L 100 ((L 5))) σ) else (x_merge k 9 (upd (upd L 100 1) 101 ((L 5))) σ)
  | k + 1, 8, L, σ => x_merge k 9 (upd (upd L 100 0) 101 ((L 100))) σ
  | k + 1, 9, L, σ => if ((L 8)) = 0 then (x_merge k 10 (upd (upd L 5 ((((L 101)) + ((L 100))))) 100 ((L 6))) σ) else (x_merge k 11 (upd (upd (upd L 5 ((((L 101)) + ((L 100))))) 100 0) 101 ((L 6))) σ)
  | k + 1, 10, L, σ => x_merge k 11 (upd (upd L 100 1) 101 ((L 100))) σ
  | k + 1, 11, L, σ => x_merge k 1 (upd (upd L 6 ((((L 101)) + ((L 100))))) 7 (((L 7)) + 1)) σ
  | k + 1, 12, L, σ => some (0, σ)
  | _ + 1, _ + 13, _, _ => none
def o_x_merge : List Cond := [.fieldLink RX12 382 "SetHouseModel" "pile" "[I", .methodLink RX12 451 yX12_compare, .instanceMethod yX12_compare, .selects RX12 yX12_compare yX12_compare, .initialized RX12, .fieldLink RX12 448 "SetHouseModel" "sorting" "[I"]
theorem o_x_merge_good : o_x_merge.all goodWord = true := by decide +kernel
def p_x_merge : List Cond := o_x_merge ++ ((.code yX12_compare cX12_compare 9 (some .int) :: p_x_GC) ++ [])
theorem p_x_merge_good : p_x_merge.all goodWord = true := nb_all2 o_x_merge_good (nb_all2 (nb_allc (by decide +kernel) p_x_GC_good) rfl)
def w_x_merge : List Cond := .code yX12_merge cX12_merge 9 none :: (p_x_merge ++ fM)
theorem w_x_merge_good : w_x_merge.all goodWord = true := nb_allc (by decide +kernel) (nb_all2 p_x_merge_good fM_good)
theorem in_x_merge : ∀ w ∈ wsX120, w ∈ w_x_merge := fun _ h => List.mem_cons_of_mem _ (List.mem_append_right _ h)
theorem hd_x_merge : yX12_merge.cls = RX12 ∧ yX12_merge.cls ≠ "java/lang/invoke/MethodHandle" ∧ yX12_merge.cls ≠ "java/lang/invoke/VarHandle" ∧ (parseMethodDescriptor yX12_merge.desc).map (fun d => d.parameters.length) = some 4 := by decide +kernel
theorem gg_x_merge_compare : GoodIn w_x_merge w_x_compare := goodIn_sub (fun w h => (List.mem_cons.mp h).elim (fun e => (List.mem_cons_of_mem _ (List.mem_append_left _ (List.mem_append_right _ (List.mem_append_left _ (List.mem_cons.mpr (Or.inl e))))))) (fun h => (List.mem_append.mp h).elim (fun h => (List.mem_cons_of_mem _ (List.mem_append_left _ (List.mem_append_right _ (List.mem_append_left _ (List.mem_cons_of_mem _ h)))))) (fun h => List.mem_cons_of_mem _ (List.mem_append_right _ h)))) w_x_compare_good
theorem g_x_merge_compare_451 : GoodIn w_x_merge (wsV RX12 451 RX12 yX12_compare w_x_compare) := goodIn_app (nb_g4 (List.mem_cons_of_mem _ (List.mem_append_left _ (List.mem_append_left _ (List.mem_of_getElem? (i := 1) rfl)))) (List.mem_cons_of_mem _ (List.mem_append_left _ (List.mem_append_left _ (List.mem_of_getElem? (i := 2) rfl)))) (List.mem_cons_of_mem _ (List.mem_append_left _ (List.mem_append_left _ (List.mem_of_getElem? (i := 3) rfl)))) (List.mem_cons_of_mem _ (List.mem_append_left _ (List.mem_append_left _ (List.mem_of_getElem? (i := 4) rfl)))) (by decide +kernel)) gg_x_merge_compare
set_option maxHeartbeats 40000000 in
set_option maxRecDepth 100000 in
theorem c_x_merge (l : Launch) (dC : Nat → ClassId) (dI : Nat → Nat → Nat) (cy : Nat → ClassId) (a : Nat → Nat) (k0 : Nat) (L0 : Nat → Int32) (σ0 : MS) (r0 : Int32 × MS) (h0 : x_merge k0 0 L0 σ0 = some r0) (sz : Nat) : Met l yX12_merge w_x_merge ({ frames := 43, cells := 0, slots := 0, locals := 1195 }) (va_Pc [.ref (a 0), .int (L0 1), .int (L0 2), .int (L0 3), .int (L0 4)] (nIn (dC, dI) cy sz (vM cy a σ0))) (va_Qv (fun _ : Unit => True) (fun _ t => nOut (dC, dI) cy (va_A (vM cy a σ0) sz) (vM cy a r0.2) t) (va_A (vM cy a σ0) sz)) 0 0 (va_A (vM cy a σ0) sz) := by
  refine Met.ofW (cc := cX12_merge) (maxL := 9) (ret := none) (by decide) rfl ?_
  intro p e s m args below meth c s₁ B hml hv
  obtain ⟨rfl, hsz, hP, hK, hD0, hG⟩ := hv
  have hx := B.exec
  have hb := B.bytes
  have hr := B.returns
  have hts := atoms_spec (ws := w_x_merge) B.pre
  have hown : s.vm.findClass RX12 = some m.cls := findClass_of_methodNamed B.named
  have hlocks := B.notSynchronized
  subst hsz
  have hD := hD0.self (sz := s.heap.size)
  generalize hAe : va_A (vM cy a σ0) s.heap.size = A at hD ⊢
  have hA : ∀ q : Nat, s.heap.size ≤ q → A q := fun q h => by rw [← hAe]; exact Or.inr h
  have hS : va_S A s.heap s.heap [] := va_S.rf
  have hl := lv_entry ([.ref (a 0), .int (L0 1), .int (L0 2), .int (L0 3), .int (L0 4)]) (n := 9) (Nat.le_of_ble_eq_true rfl)
  rw [lg_entry_eq]
  generalize (lg_sl ([.ref (a 0), .int (L0 1), .int (L0 2), .int (L0 3), .int (L0 4)]) ++ List.replicate (9 - (lg_sl ([.ref (a 0), .int (L0 1), .int (L0 2), .int (L0 3), .int (L0 4)])).length) Slot.unset).toArray = ls at hl ⊢
  have hl : lv_has ls 9 [(0, .ref (a 0)), (1, .int (L0 1)), (2, .int (L0 2)), (3, .int (L0 3)), (4, .int (L0 4))] := hl
  have blk : ∀ k : Nat, (bT p l e (headSpec w_x_merge ({ frames := 43, cells := 0, slots := 0, locals := 1195 })).room s m #[.ref (a 0), .int (L0 1), .int (L0 2), .int (L0 3), .int (L0 4)] below meth c dC dI cy a A (qV dC dI cy a A below #[.ref (a 0), .int (L0 1), .int (L0 2), .int (L0 3), .int (L0 4)] s) 9 (x_merge k 0) (fun L => [(0, .ref (a 0)), (1, .int (L 1)), (2, .int (L 2)), (3, .int (L 3)), (4, .int (L 4))]) 0 (fun L => [])) ∧ (bT p l e (headSpec w_x_merge ({ frames := 43, cells := 0, slots := 0, locals := 1195 })).room s m #[.ref (a 0), .int (L0 1), .int (L0 2), .int (L0 3), .int (L0 4)] below meth c dC dI cy a A (qV dC dI cy a A below #[.ref (a 0), .int (L0 1), .int (L0 2), .int (L0 3), .int (L0 4)] s) 9 (x_merge k 1) (fun L => [(0, .ref (a 0)), (1, .int (L 1)), (2, .int (L 2)), (3, .int (L 3)), (4, .int (L 4)), (5, .int (L 5)), (6, .int (L 6)), (7, .int (L 7))]) 9 (fun L => [])) ∧ (bT p l e (headSpec w_x_merge ({ frames := 43, cells := 0, slots := 0, locals := 1195 })).room s m #[.ref (a 0), .int (L0 1), .int (L0 2), .int (L0 3), .int (L0 4)] below meth c dC dI cy a A (qV dC dI cy a A below #[.ref (a 0), .int (L0 1), .int (L0 2), .int (L0 3), .int (L0 4)] s) 9 (x_merge k 2) (fun L => [(0, .ref (a 0)), (1, .int (L 1)), (2, .int (L 2)), (3, .int (L 3)), (4, .int (L 4)), (5, .int (L 5)), (6, .int (L 6)), (7, .int (L 7))]) 54 (fun L => [])) ∧ (bT p l e (headSpec w_x_merge ({ frames := 43, cells := 0, slots := 0, locals := 1195 })).room s m #[.ref (a 0), .int (L0 1), .int (L0 2), .int (L0 3), .int (L0 4)] below meth c dC dI cy a A (qV dC dI cy a A below #[.ref (a 0), .int (L0 1), .int (L0 2), .int (L0 3), .int (L0 4)] s) 9 (x_merge k 3) (fun L => [(0, .ref (a 0)), (1, .int (L 1)), (2, .int (L 2)), (3, .int (L 3)), (4, .int (L 4)), (5, .int (L 5)), (6, .int (L 6)), (7, .int (L 7))]) 58 (fun L => [])) ∧ (bT p l e (headSpec w_x_merge ({ frames := 43, cells := 0, slots := 0, locals := 1195 })).room s m #[.ref (a 0), .int (L0 1), .int (L0 2), .int (L0 3), .int (L0 4)] below meth c dC dI cy a A (qV dC dI cy a A below #[.ref (a 0), .int (L0 1), .int (L0 2), .int (L0 3), .int (L0 4)] s) 9 (x_merge k 4) (fun L => [(0, .ref (a 0)), (1, .int (L 1)), (2, .int (L 2)), (3, .int (L 3)), (4, .int (L 4)), (5, .int (L 5)), (6, .int (L 6)), (7, .int (L 7))]) 59 (fun L => [.int (L 100)])) ∧ (bT p l e (headSpec w_x_merge ({ frames := 43, cells := 0, slots := 0, locals := 1195 })).room s m #[.ref (a 0), .int (L0 1), .int (L0 2), .int (L0 3), .int (L0 4)] below meth c dC dI cy a A (qV dC dI cy a A below #[.ref (a 0), .int (L0 1), .int (L0 2), .int (L0 3), .int (L0 4)] s) 9 (x_merge k 5) (fun L => [(0, .ref (a 0)), (1, .int (L 1)), (2, .int (L 2)), (3, .int (L 3)), (4, .int (L 4)), (5, .int (L 5)), (6, .int (L 6)), (7, .int (L 7)), (8, .int (L 8))]) 84 (fun L => [.int (L 100), .ref (a 41)])) ∧ (bT p l e (headSpec w_x_merge ({ frames := 43, cells := 0, slots := 0, locals := 1195 })).room s m #[.ref (a 0), .int (L0 1), .int (L0 2), .int (L0 3), .int (L0 4)] below meth c dC dI cy a A (qV dC dI cy a A below #[.ref (a 0), .int (L0 1), .int (L0 2), .int (L0 3), .int (L0 4)] s) 9 (x_merge k 6) (fun L => [(0, .ref (a 0)), (1, .int (L 1)), (2, .int (L 2)), (3, .int (L 3)), (4, .int (L 4)), (5, .int (L 5)), (6, .int (L 6)), (7, .int (L 7)), (8, .int (L 8))]) 93 (fun L => [.int (L 100), .int (L 101), .ref (a 41)])) ∧ (bT p l e (headSpec w_x_merge ({ frames := 43, cells := 0, slots := 0, locals := 1195 })).room s m #[.ref (a 0), .int (L0 1), .int (L0 2), .int (L0 3), .int (L0 4)] below meth c dC dI cy a A (qV dC dI cy a A below #[.ref (a 0), .int (L0 1), .int (L0 2), .int (L0 3), .int (L0 4)] s) 9 (x_merge k 7) (fun L => [(0, .ref (a 0)), (1, .int (L 1)), (2, .int (L 2)), (3, .int (L 3)), (4, .int (L 4)), (5, .int (L 5)), (6, .int (L 6)), (7, .int (L 7)), (8, .int (L 8))]) 94 (fun L => [])) ∧ (bT p l e (headSpec w_x_merge ({ frames := 43, cells := 0, slots := 0, locals := 1195 })).room s m #[.ref (a 0), .int (L0 1), .int (L0 2), .int (L0 3), .int (L0 4)] below meth c dC dI cy a A (qV dC dI cy a A below #[.ref (a 0), .int (L0 1), .int (L0 2), .int (L0 3), .int (L0 4)] s) 9 (x_merge k 8) (fun L => [(0, .ref (a 0)), (1, .int (L 1)), (2, .int (L 2)), (3, .int (L 3)), (4, .int (L 4)), (5, .int (L 5)), (6, .int (L 6)), (7, .int (L 7)), (8, .int (L 8))]) 105 (fun L => [.int (L 100)])) ∧ (bT p l e (headSpec w_x_merge ({ frames := 43, cells := 0, slots := 0, locals := 1195 })).room s m #[.ref (a 0), .int (L0 1), .int (L0 2), .int (L0 3), .int (L0 4)] below meth c dC dI cy a A (qV dC dI cy a A below #[.ref (a 0), .int (L0 1), .int (L0 2), .int (L0 3), .int (L0 4)] s) 9 (x_merge k 9) (fun L => [(0, .ref (a 0)), (1, .int (L 1)), (2, .int (L 2)), (3, .int (L 3)), (4, .int (L 4)), (5, .int (L 5)), (6, .int (L 6)), (7, .int (L 7)), (8, .int (L 8))]) 106 (fun L => [.int (L 100), .int (L 101)])) ∧ (bT p l e (headSpec w_x_merge ({ frames := 43, cells := 0, slots := 0, locals := 1195 })).room s m #[.ref (a 0), .int (L0 1), .int (L0 2), .int (L0 3), .int (L0 4)] below meth c dC dI cy a A (qV dC dI cy a A below #[.ref (a 0), .int (L0 1), .int (L0 2), .int (L0 3), .int (L0 4)] s) 9 (x_merge k 10) (fun L => [(0, .ref (a 0)), (1, .int (L 1)), (2, .int (L 2)), (3, .int (L 3)), (4, .int (L 4)), (5, .int (L 5)), (6, .int (L 6)), (7, .int (L 7)), (8, .int (L 8))]) 120 (fun L => [.int (L 100)])) ∧ (bT p l e (headSpec w_x_merge ({ frames := 43, cells := 0, slots := 0, locals := 1195 })).room s m #[.ref (a 0), .int (L0 1), .int (L0 2), .int (L0 3), .int (L0 4)] below meth c dC dI cy a A (qV dC dI cy a A below #[.ref (a 0), .int (L0 1), .int (L0 2), .int (L0 3), .int (L0 4)] s) 9 (x_merge k 11) (fun L => [(0, .ref (a 0)), (1, .int (L 1)), (2, .int (L 2)), (3, .int (L 3)), (4, .int (L 4)), (5, .int (L 5)), (6, .int (L 6)), (7, .int (L 7)), (8, .int (L 8))]) 121 (fun L => [.int (L 100), .int (L 101)])) ∧ (bT p l e (headSpec w_x_merge ({ frames := 43, cells := 0, slots := 0, locals := 1195 })).room s m #[.ref (a 0), .int (L0 1), .int (L0 2), .int (L0 3), .int (L0 4)] below meth c dC dI cy a A (qV dC dI cy a A below #[.ref (a 0), .int (L0 1), .int (L0 2), .int (L0 3), .int (L0 4)] s) 9 (x_merge k 12) (fun L => [(0, .ref (a 0)), (1, .int (L 1)), (2, .int (L 2)), (3, .int (L 3)), (4, .int (L 4)), (5, .int (L 5)), (6, .int (L 6)), (7, .int (L 7))]) 130 (fun L => [])) := by
    intro k
    induction k with
    | zero => exact ⟨fun L σ r h => (by cases h), fun L σ r h => (by cases h), fun L σ r h => (by cases h), fun L σ r h => (by cases h), fun L σ r h => (by cases h), fun L σ r h => (by cases h), fun L σ r h => (by cases h), fun L σ r h => (by cases h), fun L σ r h => (by cases h), fun L σ r h => (by cases h), fun L σ r h => (by cases h), fun L σ r h => (by cases h), fun L σ r h => (by cases h)⟩
    | succ k ih =>
      refine ⟨?_, ?_, ?_, ?_, ?_, ?_, ?_, ?_, ?_, ?_, ?_, ?_, ?_⟩
      · intro L σ r h H locs ls hP hD hS hl
        rw [x_merge] at h
        refine lv_iload_n hx hb dX12_merge_0 rfl (lv_at hl 2 rfl) ?_
        refine lv_istore (lv' := [(5, .int (L 2)), (0, .ref (a 0)), (1, .int (L 1)), (2, .int (L 2)), (3, .int (L 3)), (4, .int (L 4))]) hx hb dX12_merge_1 hl (by decide) rfl (fun ls hl => ?_)
        refine lv_iload_n hx hb dX12_merge_3 rfl (lv_at hl 4 rfl) ?_
        refine lv_istore (lv' := [(6, .int (L 3)), (5, .int (L 2)), (0, .ref (a 0)), (1, .int (L 1)), (2, .int (L 2)), (3, .int (L 3)), (4, .int (L 4))]) hx hb dX12_merge_4 hl (by decide) rfl (fun ls hl => ?_)
        refine lv_iload_n hx hb dX12_merge_6 rfl (lv_at hl 4 rfl) ?_
        refine lv_istore (lv' := [(7, .int (L 2)), (6, .int (L 3)), (5, .int (L 2)), (0, .ref (a 0)), (1, .int (L 1)), (2, .int (L 2)), (3, .int (L 3)), (4, .int (L 4))]) hx hb dX12_merge_7 hl (by decide) rfl (fun ls hl => ?_)
        exact ih.2.1 (upd (upd (upd L 5 ((L 2))) 6 ((L 3))) 7 ((L 2))) σ r h H locs ls hP hD hS (lv_sub hl [3, 4, 5, 6, 7, 2, 1, 0] rfl)
      · intro L σ r h H locs ls hP hD hS hl
        rw [x_merge] at h
        refine lv_iload hx hb dX12_merge_9 (lv_at hl 7 rfl) ?_
        refine lv_iload hx hb dX12_merge_11 (lv_at hl 4 rfl) ?_
        refine lv_icmp_ge (tgt := 130) hx hb dX12_merge_13 (by decide) (fun c1 => ?_) (fun c1 => ?_)
        · rw [if_pos c1] at h
          exact ih.2.2.2.2.2.2.2.2.2.2.2.2 L σ r h H locs ls hP hD hS (lv_sub hl [0, 1, 2, 3, 4, 5, 6, 7] rfl)
        · rw [if_neg c1] at h
          refine lv_iload hx hb dX12_merge_16 (lv_at hl 6 rfl) ?_
          refine lv_iload hx hb dX12_merge_18 (lv_at hl 4 rfl) ?_
          refine lv_icmp_eq (tgt := 54) hx hb dX12_merge_20 (by decide) (fun c2 => ?_) (fun c2 => ?_)
          · rw [if_pos c2] at h
            exact ih.2.2.1 L σ r h H locs ls hP hD hS (lv_sub hl [0, 1, 2, 3, 4, 5, 6, 7] rfl)
          · rw [if_neg c2] at h
            refine lv_iload hx hb dX12_merge_23 (lv_at hl 5 rfl) ?_
            refine lv_iload_n hx hb dX12_merge_25 rfl (lv_at hl 3 rfl) ?_
            refine lv_icmp_ge (tgt := 58) hx hb dX12_merge_26 (by decide) (fun c3 => ?_) (fun c3 => ?_)
            · rw [if_pos c3] at h
              exact ih.2.2.2.1 L σ r h H locs ls hP hD hS (lv_sub hl [0, 1, 2, 3, 4, 5, 6, 7] rfl)
            · rw [if_neg c3] at h
              refine lv_aload_n hx hb dX12_merge_29 rfl (lv_at hl 0 rfl) ?_
              refine lv_aload_n hx hb dX12_merge_30 rfl (lv_at hl 0 rfl) ?_
              refine ng_58 hx hb hts in_x_merge hown hK hP (hts _ (List.mem_cons_of_mem _ (List.mem_append_left _ (List.mem_append_left _ (List.mem_of_getElem? (i := 0) rfl))))) dX12_merge_31 ?_
              refine lv_iload_n hx hb dX12_merge_34 rfl (lv_at hl 1 rfl) ?_
              refine lv_iload hx hb dX12_merge_35 (lv_at hl 5 rfl) ?_
              refine lv_iadd hx hb dX12_merge_37 ?_
              obtain ⟨q4, h⟩ := nb_ite1 h
              refine nl_29 hx hb hK hP q4 dX12_merge_38 ?_
              refine lv_aload_n hx hb dX12_merge_39 rfl (lv_at hl 0 rfl) ?_
              refine ng_58 hx hb hts in_x_merge hown hK hP (hts _ (List.mem_cons_of_mem _ (List.mem_append_left _ (List.mem_append_left _ (List.mem_of_getElem? (i := 0) rfl))))) dX12_merge_40 ?_
              refine lv_iload_n hx hb dX12_merge_43 rfl (lv_at hl 1 rfl) ?_
              refine lv_iload hx hb dX12_merge_44 (lv_at hl 6 rfl) ?_
              refine lv_iadd hx hb dX12_merge_46 ?_
              obtain ⟨q5, h⟩ := nb_ite1 h
              refine nl_29 hx hb hK hP q5 dX12_merge_47 ?_
              obtain ⟨r6, hc6, h⟩ := ob_ex h
              refine nc_Vi (As := [.int (σ.2.2 29 ((((L 1)) + ((L 5)))).toNatClampNeg), .int (σ.2.2 29 ((((L 1)) + ((L 6)))).toNatClampNeg)]) (rest := []) ⟨hx, hb, hml, hown, hts⟩ (c_x_compare l dC dI cy a k (upd (upd (fun _ => 0) 1 ((σ.2.2 29 ((((L 1)) + ((L 5)))).toNatClampNeg))) 2 ((σ.2.2 29 ((((L 1)) + ((L 6)))).toNatClampNeg))) σ r6 hc6 H.size) (cwV 2 hts g_x_merge_compare_451 rfl rfl rfl hd_x_compare ⟨Nat.le_of_ble_eq_true rfl, Nat.le_of_ble_eq_true rfl⟩) hK hG hA hP hD hS rfl hl.1 rfl (Nat.le_of_ble_eq_true rfl) dX12_merge_48 ⟨Nat.le_refl _, Nat.le_refl _⟩ (fun H locs hP hD hS => ?_)
              refine lv_if_gt (tgt := 58) hx hb dX12_merge_51 (by decide) (fun c7 => ?_) (fun c7 => ?_)
              · rw [if_pos c7] at h
                exact ih.2.2.2.1 L r6.2 r h H locs ls hP hD hS (lv_sub hl [0, 1, 2, 3, 4, 5, 6, 7] rfl)
              · rw [if_neg c7] at h
                exact ih.2.2.1 L r6.2 r h H locs ls hP hD hS (lv_sub hl [0, 1, 2, 3, 4, 5, 6, 7] rfl)
      · intro L σ r h H locs ls hP hD hS hl
        rw [x_merge] at h
        refine lv_iconst (v := 1) hx hb dX12_merge_54 (by decide) ?_
        refine lv_goto (tgt := 59) hx hb dX12_merge_55 (by decide) ?_
        exact ih.2.2.2.2.1 (upd L 100 1) σ r h H locs ls hP hD hS (lv_sub hl [0, 1, 2, 3, 4, 5, 6, 7] rfl)
      · intro L σ r h H locs ls hP hD hS hl
        rw [x_merge] at h
        refine lv_iconst (v := 0) hx hb dX12_merge_58 (by decide) ?_
        exact ih.2.2.2.2.1 (upd L 100 0) σ r h H locs ls hP hD hS (lv_sub hl [0, 1, 2, 3, 4, 5, 6, 7] rfl)
      · intro L σ r h H locs ls hP hD hS hl
        rw [x_merge] at h
        refine lv_istore (lv' := [(8, .int (L 100)), (0, .ref (a 0)), (1, .int (L 1)), (2, .int (L 2)), (3, .int (L 3)), (4, .int (L 4)), (5, .int (L 5)), (6, .int (L 6)), (7, .int (L 7))]) hx hb dX12_merge_59 hl (by decide) rfl (fun ls hl => ?_)
        refine lv_aload_n hx hb dX12_merge_61 rfl (lv_at hl 1 rfl) ?_
        refine ng_80 hx hb hts in_x_merge hown hK hP (hts _ (List.mem_cons_of_mem _ (List.mem_append_left _ (List.mem_append_left _ (List.mem_of_getElem? (i := 5) rfl))))) dX12_merge_62 ?_
        refine lv_iload hx hb dX12_merge_65 (lv_at hl 8 rfl) ?_
        refine lv_iload hx hb dX12_merge_67 (lv_at hl 0 rfl) ?_
        refine lv_if_eq (tgt := 84) hx hb dX12_merge_69 (by decide) (fun c1 => ?_) (fun c1 => ?_)
        · rw [if_pos c1] at h
          exact ih.2.2.2.2.2.1 (upd (upd L 8 ((L 100))) 100 ((L 7))) σ r h H locs ls hP hD hS (lv_sub hl [1, 2, 3, 4, 5, 6, 7, 8, 0] rfl)
        · rw [if_neg c1] at h
          refine lv_aload_n hx hb dX12_merge_72 rfl (lv_at hl 1 rfl) ?_
          refine ng_58 hx hb hts in_x_merge hown hK hP (hts _ (List.mem_cons_of_mem _ (List.mem_append_left _ (List.mem_append_left _ (List.mem_of_getElem? (i := 0) rfl))))) dX12_merge_73 ?_
          refine lv_iload_n hx hb dX12_merge_76 rfl (lv_at hl 2 rfl) ?_
          refine lv_iload hx hb dX12_merge_77 (lv_at hl 6 rfl) ?_
          refine lv_iadd hx hb dX12_merge_79 ?_
          obtain ⟨q2, h⟩ := nb_ite1 h
          refine nl_29 hx hb hK hP q2 dX12_merge_80 ?_
          refine lv_goto (tgt := 93) hx hb dX12_merge_81 (by decide) ?_
          exact ih.2.2.2.2.2.2.1 (upd (upd (upd L 8 ((L 100))) 100 ((σ.2.2 29 ((((L 1)) + ((L 5)))).toNatClampNeg))) 101 ((L 7))) σ r h H locs ls hP hD hS (lv_sub hl [1, 2, 3, 4, 5, 6, 7, 8, 0] rfl)
      · intro L σ r h H locs ls hP hD hS hl
        rw [x_merge] at h
        refine lv_aload_n hx hb dX12_merge_84 rfl (lv_at hl 0 rfl) ?_
        refine ng_58 hx hb hts in_x_merge hown hK hP (hts _ (List.mem_cons_of_mem _ (List.mem_append_left _ (List.mem_append_left _ (List.mem_of_getElem? (i := 0) rfl))))) dX12_merge_85 ?_
        refine lv_iload_n hx hb dX12_merge_88 rfl (lv_at hl 1 rfl) ?_
        refine lv_iload hx hb dX12_merge_89 (lv_at hl 6 rfl) ?_
        refine lv_iadd hx hb dX12_merge_91 ?_
        obtain ⟨q1, h⟩ := nb_ite1 h
        refine nl_29 hx hb hK hP q1 dX12_merge_92 ?_
        exact ih.2.2.2.2.2.2.1 (upd (upd L 100 ((σ.2.2 29 ((((L 1)) + ((L 6)))).toNatClampNeg))) 101 ((L 100))) σ r h H locs ls hP hD hS (lv_sub hl [0, 1, 2, 3, 4, 5, 6, 7, 8] rfl)
      · intro L σ r h H locs ls hP hD hS hl
        rw [x_merge] at h
        obtain ⟨q1, h⟩ := nb_ite1 h
        refine ns_41 hx hb hK hP hD hS q1 dX12_merge_93 (fun H locs hP hD hS => ?_)
        exact ih.2.2.2.2.2.2.2.1 L (σ.1, σ.2.1, updG σ.2.2 41 (upd (σ.2.2 41) ((L 101)).toNatClampNeg ((L 100)))) r h H locs ls hP hD hS (lv_sub hl [0, 1, 2, 3, 4, 5, 6, 7, 8] rfl)
      · intro L σ r h H locs ls hP hD hS hl
        rw [x_merge] at h
        refine lv_iload hx hb dX12_merge_94 (lv_at hl 5 rfl) ?_
        refine lv_iload hx hb dX12_merge_96 (lv_at hl 8 rfl) ?_
        refine lv_if_eq (tgt := 105) hx hb dX12_merge_98 (by decide) (fun c1 => ?_) (fun c1 => ?_)
        · rw [if_pos c1] at h
          exact ih.2.2.2.2.2.2.2.2.1 (upd L 100 ((L 5))) σ r h H locs ls hP hD hS (lv_sub hl [0, 1, 2, 3, 4, 5, 6, 7, 8] rfl)
        · rw [if_neg c1] at h
          refine lv_iconst (v := 1) hx hb dX12_merge_101 (by decide) ?_
          refine lv_goto (tgt := 106) hx hb dX12_merge_102 (by decide) ?_
          exact ih.2.2.2.2.2.2.2.2.2.1 (upd (upd L 100 1) 101 ((L 5))) σ r h H locs ls hP hD hS (lv_sub hl [0, 1, 2, 3, 4, 5, 6, 7, 8] rfl)
      · intro L σ r h H locs ls hP hD hS hl
        rw [x_merge] at h
        refine lv_iconst (v := 0) hx hb dX12_merge_105 (by decide) ?_
        exact ih.2.2.2.2.2.2.2.2.2.1 (upd (upd L 100 0) 101 ((L 100))) σ r h H locs ls hP hD hS (lv_sub hl [0, 1, 2, 3, 4, 5, 6, 7, 8] rfl)
      · intro L σ r h H locs ls hP hD hS hl
        rw [x_merge] at h
        refine lv_iadd hx hb dX12_merge_106 ?_
        refine lv_istore (lv' := [(5, .int (((L 101)) + ((L 100)))), (0, .ref (a 0)), (1, .int (L 1)), (2, .int (L 2)), (3, .int (L 3)), (4, .int (L 4)), (6, .int (L 6)), (7, .int (L 7)), (8, .int (L 8))]) hx hb dX12_merge_107 hl (by decide) rfl (fun ls hl => ?_)
        refine lv_iload hx hb dX12_merge_109 (lv_at hl 6 rfl) ?_
        refine lv_iload hx hb dX12_merge_111 (lv_at hl 8 rfl) ?_
        refine lv_if_eq (tgt := 120) hx hb dX12_merge_113 (by decide) (fun c1 => ?_) (fun c1 => ?_)
        · rw [if_pos c1] at h
          exact ih.2.2.2.2.2.2.2.2.2.2.1 (upd (upd L 5 ((((L 101)) + ((L 100))))) 100 ((L 6))) σ r h H locs ls hP hD hS (lv_sub hl [1, 2, 3, 4, 5, 0, 6, 7, 8] rfl)
        · rw [if_neg c1] at h
          refine lv_iconst (v := 0) hx hb dX12_merge_116 (by decide) ?_
          refine lv_goto (tgt := 121) hx hb dX12_merge_117 (by decide) ?_
          exact ih.2.2.2.2.2.2.2.2.2.2.2.1 (upd (upd (upd L 5 ((((L 101)) + ((L 100))))) 100 0) 101 ((L 6))) σ r h H locs ls hP hD hS (lv_sub hl [1, 2, 3, 4, 5, 0, 6, 7, 8] rfl)
      · intro L σ r h H locs ls hP hD hS hl
        rw [x_merge] at h
        refine lv_iconst (v := 1) hx hb dX12_merge_120 (by decide) ?_
        exact ih.2.2.2.2.2.2.2.2.2.2.2.1 (upd (upd L 100 1) 101 ((L 100))) σ r h H locs ls hP hD hS (lv_sub hl [0, 1, 2, 3, 4, 5, 6, 7, 8] rfl)
      · intro L σ r h H locs ls hP hD hS hl
        rw [x_merge] at h
        refine lv_iadd hx hb dX12_merge_121 ?_
        refine lv_istore (lv' := [(6, .int (((L 101)) + ((L 100)))), (0, .ref (a 0)), (1, .int (L 1)), (2, .int (L 2)), (3, .int (L 3)), (4, .int (L 4)), (5, .int (L 5)), (7, .int (L 7)), (8, .int (L 8))]) hx hb dX12_merge_122 hl (by decide) rfl (fun ls hl => ?_)
        refine lv_iinc (v := ((L 7)) + 1) (lv' := [(7, .int (((L 7)) + 1)), (6, .int (((L 101)) + ((L 100)))), (0, .ref (a 0)), (1, .int (L 1)), (2, .int (L 2)), (3, .int (L 3)), (4, .int (L 4)), (5, .int (L 5)), (8, .int (L 8))]) hx hb dX12_merge_124 hl (k := 7) rfl rfl (by decide) rfl (fun ls hl => ?_)
        refine lv_goto (tgt := 9) hx hb dX12_merge_127 (by decide) ?_
        exact ih.2.1 (upd (upd L 6 ((((L 101)) + ((L 100))))) 7 (((L 7)) + 1)) σ r h H locs ls hP hD hS (lv_sub hl [2, 3, 4, 5, 6, 7, 1, 0] rfl)
      · intro L σ r h H locs ls hP hD hS hl
        rw [x_merge] at h
        cases h
        exact W.vret hx hb hr (fun t ht hW => ⟨⟨(), rfl, trivial, by rw [ht]; exact hP, va_K.moved hW.alike hK, hD⟩, hS.F ht⟩) hS.2.2 dX12_merge_130
  exact (blk k0).1 L0 σ0 r0 h0 s.heap [] ls hP hD hS hl
/-! distinct -/
def x_distinct : Nat → Nat → (Nat → Int32) → MS → Option (Int32 × MS)
  | 0, _, _, _ => none
  | k + 1, 0, L, σ => x_distinct k 1 (upd (upd L 2 ((((σ.1 59)) - ((L 1))))) 3 1) σ
  | k + 1, 1, L, σ => if ((L 2)) ≤ ((L 3)) then (x_distinct k 11 L σ) else (x_distinct k 2 (upd L 4 0) σ)
  | k + 1, 2, L, σ => if ((L 2)) ≤ ((L 4)) then (x_distinct k 7 L σ) else (if ((L 2)) ≤ ((((L 4)) + ((L 3)))) then (x_distinct k 3 (upd (upd L 100 ((L 4))) 101 ((L 1))) σ) else (x_distinct k 4 (upd (upd (upd L 100 ((((L 4)) + ((L 3))))) 101 ((L 4))) 102 ((L 1))) σ))
  | k + 1, 3, L, σ => x_distinct k 4 (upd (upd (upd L 100 ((L 2))) 101 ((L 100))) 102 ((L 101))) σ
  | k + 1, 4, L, σ => if ((L 2)) ≤ ((((L 4)) + ((2 * ((L 3)))))) then (x_distinct k 5 (upd (upd (upd L 100 ((L 100))) 101 ((L 101))) 102 ((L 102))) σ) else (x_distinct k 6 (upd (upd (upd (upd L 100 ((((L 4)) + ((2 * ((L 3))))))) 101 ((L 100))) 102 ((L 101))) 103 ((L 102))) σ)
  | k + 1, 5, L, σ => x_distinct k 6 (upd (upd (upd (upd L 100 ((L 2))) 101 ((L 100))) 102 ((L 101))) 103 ((L 102))) σ
  | k + 1, 6, L, σ => ob (x_merge k 0 (upd (upd (upd (upd (fun _ => 0) 1 ((L 103))) 2 ((L 102))) 3 ((L 101))) 4 ((L 100))) σ) (fun r1 => x_distinct k 2 (upd L 4 ((((L 4)) + ((2 * ((L 3))))))) r1.2)
  | k + 1, 7, L, σ => x_distinct k 8 (upd L 4 0) σ
  | k + 1, 8, L, σ => if ((L 2)) ≤ ((L 4)) then (x_distinct k 10 L σ) else (if ¬ (((L 4)) < 0 ∨ 60100 ≤ ((L 4)).toNatClampNeg) then (if ¬ (((((L 1)) + ((L 4)))) < 0 ∨ 185000 ≤ ((((L 1)) + ((L 4)))).toNatClampNeg) then (x_distinct k 9 L (σ.1, σ.2.1, updG σ.2.2 29 (upd (σ.2.2 29) ((((L 1)) + ((L 4)))).toNatClampNeg ((σ.2.2 41 ((L 4)).toNatClampNeg))))) else none) else none)
  | k + 1, 9, L, σ => x_distinct k 8 (upd L 4 (((L 4)) + 1)) σ
  | k + 1, 10, L, σ => x_distinct k 1 (upd L 3 ((((L 3)) + ((L 3))))) σ
  | k + 1, 11, L, σ => x_distinct k 12 (upd (upd L 3 0) 4 0) σ
  | k + 1, 12, L, σ => if ((L 2)) ≤ ((L 4)) then (x_distinct k 16 L σ) else (if ((L 3)) = 0 then (x_distinct k 13 L σ) else (if ¬ (((((((L 1)) + ((L 3)))) - 1)) < 0 ∨ 185000 ≤ ((((((L 1)) + ((L 3)))) - 1)).toNatClampNeg) then (if ¬ (((((L 1)) + ((L 4)))) < 0 ∨ 185000 ≤ ((((L 1)) + ((L 4)))).toNatClampNeg) then (ob (x_compare k 0 (upd (upd (fun _ => 0) 1 ((σ.2.2 29 ((((((L 1)) + ((L 3)))) - 1)).toNatClampNeg))) 2 ((σ.2.2 29 ((((L 1)) + ((L 4)))).toNatClampNeg))) σ) (fun r5 => if r5.1 = 0 then (x_distinct k 15 L r5.2) else (x_distinct k 13 L r5.2))) else none) else none))
  | k + 1, 13, L, σ => if ¬ (((((L 1)) + ((L 4)))) < 0 ∨ 185000 ≤ ((((L 1)) + ((L 4)))).toNatClampNeg) then (if ¬ (((((L 1)) + ((L 3)))) < 0 ∨ 185000 ≤ ((((L 1)) + ((L 3)))).toNatClampNeg) then (x_distinct k 14 L (σ.1, σ.2.1, updG σ.2.2 29 (upd (σ.2.2 29) ((((L 1)) + ((L 3)))).toNatClampNeg ((σ.2.2 29 ((((L 1)) + ((L 4)))).toNatClampNeg))))) else none) else none
  | k + 1, 14, L, σ => x_distinct k 15 (upd L 3 (((L 3)) + 1)) σ
  | k + 1, 15, L, σ => x_distinct k 12 (upd L 4 (((L 4)) + 1)) σ
  | k + 1, 16, L, σ => some (0, (upd σ.1 59 ((((L 1)) + ((L 3)))), σ.2.1, σ.2.2))
  | _ + 1, _ + 17, _, _ => none
def o_x_distinct : List Cond := [.fieldLink RX12 385 "SetHouseModel" "top" "I", .methodLink RX12 444 yX12_merge, .instanceMethod yX12_merge, .selects RX12 yX12_merge yX12_merge, .initialized RX12, .fieldLink RX12 382 "SetHouseModel" "pile" "[I", .fieldLink RX12 448 "SetHouseModel" "sorting" "[I", .methodLink RX12 451 yX12_compare, .instanceMethod yX12_compare, .selects RX12 yX12_compare yX12_compare]
theorem o_x_distinct_good : o_x_distinct.all goodWord = true := by decide +kernel
def p_x_distinct : List Cond := o_x_distinct ++ ((.code yX12_merge cX12_merge 9 none :: p_x_merge) ++ ((.code yX12_compare cX12_compare 9 (some .int) :: p_x_GC) ++ []))
theorem p_x_distinct_good : p_x_distinct.all goodWord = true := nb_all2 o_x_distinct_good (nb_all2 (nb_allc (by decide +kernel) p_x_merge_good) (nb_all2 (nb_allc (by decide +kernel) p_x_GC_good) rfl))
def w_x_distinct : List Cond := .code yX12_distinct cX12_distinct 5 none :: (p_x_distinct ++ fM)
theorem w_x_distinct_good : w_x_distinct.all goodWord = true := nb_allc (by decide +kernel) (nb_all2 p_x_distinct_good fM_good)
theorem in_x_distinct : ∀ w ∈ wsX120, w ∈ w_x_distinct := fun _ h => List.mem_cons_of_mem _ (List.mem_append_right _ h)
theorem hd_x_distinct : yX12_distinct.cls = RX12 ∧ yX12_distinct.cls ≠ "java/lang/invoke/MethodHandle" ∧ yX12_distinct.cls ≠ "java/lang/invoke/VarHandle" ∧ (parseMethodDescriptor yX12_distinct.desc).map (fun d => d.parameters.length) = some 1 := by decide +kernel
theorem gg_x_distinct_compare : GoodIn w_x_distinct w_x_compare := goodIn_sub (fun w h => (List.mem_cons.mp h).elim (fun e => (List.mem_cons_of_mem _ (List.mem_append_left _ (List.mem_append_right _ (List.mem_append_right _ (List.mem_append_left _ (List.mem_cons.mpr (Or.inl e)))))))) (fun h => (List.mem_append.mp h).elim (fun h => (List.mem_cons_of_mem _ (List.mem_append_left _ (List.mem_append_right _ (List.mem_append_right _ (List.mem_append_left _ (List.mem_cons_of_mem _ h))))))) (fun h => List.mem_cons_of_mem _ (List.mem_append_right _ h)))) w_x_compare_good
theorem g_x_distinct_compare_451 : GoodIn w_x_distinct (wsV RX12 451 RX12 yX12_compare w_x_compare) := goodIn_app (nb_g4 (List.mem_cons_of_mem _ (List.mem_append_left _ (List.mem_append_left _ (List.mem_of_getElem? (i := 7) rfl)))) (List.mem_cons_of_mem _ (List.mem_append_left _ (List.mem_append_left _ (List.mem_of_getElem? (i := 8) rfl)))) (List.mem_cons_of_mem _ (List.mem_append_left _ (List.mem_append_left _ (List.mem_of_getElem? (i := 9) rfl)))) (List.mem_cons_of_mem _ (List.mem_append_left _ (List.mem_append_left _ (List.mem_of_getElem? (i := 4) rfl)))) (by decide +kernel)) gg_x_distinct_compare
theorem gg_x_distinct_merge : GoodIn w_x_distinct w_x_merge := goodIn_sub (fun w h => (List.mem_cons.mp h).elim (fun e => (List.mem_cons_of_mem _ (List.mem_append_left _ (List.mem_append_right _ (List.mem_append_left _ (List.mem_cons.mpr (Or.inl e))))))) (fun h => (List.mem_append.mp h).elim (fun h => (List.mem_cons_of_mem _ (List.mem_append_left _ (List.mem_append_right _ (List.mem_append_left _ (List.mem_cons_of_mem _ h)))))) (fun h => List.mem_cons_of_mem _ (List.mem_append_right _ h)))) w_x_merge_good
theorem g_x_distinct_merge_444 : GoodIn w_x_distinct (wsV RX12 444 RX12 yX12_merge w_x_merge) := goodIn_app (nb_g4 (List.mem_cons_of_mem _ (List.mem_append_left _ (List.mem_append_left _ (List.mem_of_getElem? (i := 1) rfl)))) (List.mem_cons_of_mem _ (List.mem_append_left _ (List.mem_append_left _ (List.mem_of_getElem? (i := 2) rfl)))) (List.mem_cons_of_mem _ (List.mem_append_left _ (List.mem_append_left _ (List.mem_of_getElem? (i := 3) rfl)))) (List.mem_cons_of_mem _ (List.mem_append_left _ (List.mem_append_left _ (List.mem_of_getElem? (i := 4) rfl)))) (by decide +kernel)) gg_x_distinct_merge
set_option maxHeartbeats 40000000 in
set_option maxRecDepth 100000 in
theorem c_x_distinct (l : Launch) (dC : Nat → ClassId) (dI : Nat → Nat → Nat) (cy : Nat → ClassId) (a : Nat → Nat) (k0 : Nat) (L0 : Nat → Int32) (σ0 : MS) (r0 : Int32 × MS) (h0 : x_distinct k0 0 L0 σ0 = some r0) (sz : Nat) : Met l yX12_distinct w_x_distinct ({ frames := 44, cells := 0, slots := 0, locals := 1223 }) (va_Pc [.ref (a 0), .int (L0 1)] (nIn (dC, dI) cy sz (vM cy a σ0))) (va_Qv (fun _ : Unit => True) (fun _ t => nOut (dC, dI) cy (va_A (vM cy a σ0) sz) (vM cy a r0.2) t) (va_A (vM cy a σ0) sz)) 0 0 (va_A (vM cy a σ0) sz) := by
  refine Met.ofW (cc := cX12_distinct) (maxL := 5) (ret := none) (by decide) rfl ?_
  intro p e s m args below meth c s₁ B hml hv
  obtain ⟨rfl, hsz, hP, hK, hD0, hG⟩ := hv
  have hx := B.exec
  have hb := B.bytes
  have hr := B.returns
  have hts := atoms_spec (ws := w_x_distinct) B.pre
  have hown : s.vm.findClass RX12 = some m.cls := findClass_of_methodNamed B.named
  have hlocks := B.notSynchronized
  subst hsz
  have hD := hD0.self (sz := s.heap.size)
  generalize hAe : va_A (vM cy a σ0) s.heap.size = A at hD ⊢
  have hA : ∀ q : Nat, s.heap.size ≤ q → A q := fun q h => by rw [← hAe]; exact Or.inr h
  have hS : va_S A s.heap s.heap [] := va_S.rf
  have hl := lv_entry ([.ref (a 0), .int (L0 1)]) (n := 5) (Nat.le_of_ble_eq_true rfl)
  rw [lg_entry_eq]
  generalize (lg_sl ([.ref (a 0), .int (L0 1)]) ++ List.replicate (5 - (lg_sl ([.ref (a 0), .int (L0 1)])).length) Slot.unset).toArray = ls at hl ⊢
  have hl : lv_has ls 5 [(0, .ref (a 0)), (1, .int (L0 1))] := hl
  have blk : ∀ k : Nat, (bT p l e (headSpec w_x_distinct ({ frames := 44, cells := 0, slots := 0, locals := 1223 })).room s m #[.ref (a 0), .int (L0 1)] below meth c dC dI cy a A (qV dC dI cy a A below #[.ref (a 0), .int (L0 1)] s) 5 (x_distinct k 0) (fun L => [(0, .ref (a 0)), (1, .int (L 1))]) 0 (fun L => [])) ∧ (bT p l e (headSpec w_x_distinct ({ frames := 44, cells := 0, slots := 0, locals := 1223 })).room s m #[.ref (a 0), .int (L0 1)] below meth c dC dI cy a A (qV dC dI cy a A below #[.ref (a 0), .int (L0 1)] s) 5 (x_distinct k 1) (fun L => [(0, .ref (a 0)), (1, .int (L 1)), (2, .int (L 2)), (3, .int (L 3))]) 9 (fun L => [])) ∧ (bT p l e (headSpec w_x_distinct ({ frames := 44, cells := 0, slots := 0, locals := 1223 })).room s m #[.ref (a 0), .int (L0 1)] below meth c dC dI cy a A (qV dC dI cy a A below #[.ref (a 0), .int (L0 1)] s) 5 (x_distinct k 2) (fun L => [(0, .ref (a 0)), (1, .int (L 1)), (2, .int (L 2)), (3, .int (L 3)), (4, .int (L 4))]) 17 (fun L => [])) ∧ (bT p l e (headSpec w_x_distinct ({ frames := 44, cells := 0, slots := 0, locals := 1223 })).room s m #[.ref (a 0), .int (L0 1)] below meth c dC dI cy a A (qV dC dI cy a A below #[.ref (a 0), .int (L0 1)] s) 5 (x_distinct k 3) (fun L => [(0, .ref (a 0)), (1, .int (L 1)), (2, .int (L 2)), (3, .int (L 3)), (4, .int (L 4))]) 42 (fun L => [.int (L 100), .int (L 101), .ref (a 0)])) ∧ (bT p l e (headSpec w_x_distinct ({ frames := 44, cells := 0, slots := 0, locals := 1223 })).room s m #[.ref (a 0), .int (L0 1)] below meth c dC dI cy a A (qV dC dI cy a A below #[.ref (a 0), .int (L0 1)] s) 5 (x_distinct k 4) (fun L => [(0, .ref (a 0)), (1, .int (L 1)), (2, .int (L 2)), (3, .int (L 3)), (4, .int (L 4))]) 43 (fun L => [.int (L 100), .int (L 101), .int (L 102), .ref (a 0)])) ∧ (bT p l e (headSpec w_x_distinct ({ frames := 44, cells := 0, slots := 0, locals := 1223 })).room s m #[.ref (a 0), .int (L0 1)] below meth c dC dI cy a A (qV dC dI cy a A below #[.ref (a 0), .int (L0 1)] s) 5 (x_distinct k 5) (fun L => [(0, .ref (a 0)), (1, .int (L 1)), (2, .int (L 2)), (3, .int (L 3)), (4, .int (L 4))]) 62 (fun L => [.int (L 100), .int (L 101), .int (L 102), .ref (a 0)])) ∧ (bT p l e (headSpec w_x_distinct ({ frames := 44, cells := 0, slots := 0, locals := 1223 })).room s m #[.ref (a 0), .int (L0 1)] below meth c dC dI cy a A (qV dC dI cy a A below #[.ref (a 0), .int (L0 1)] s) 5 (x_distinct k 6) (fun L => [(0, .ref (a 0)), (1, .int (L 1)), (2, .int (L 2)), (3, .int (L 3)), (4, .int (L 4))]) 63 (fun L => [.int (L 100), .int (L 101), .int (L 102), .int (L 103), .ref (a 0)])) ∧ (bT p l e (headSpec w_x_distinct ({ frames := 44, cells := 0, slots := 0, locals := 1223 })).room s m #[.ref (a 0), .int (L0 1)] below meth c dC dI cy a A (qV dC dI cy a A below #[.ref (a 0), .int (L0 1)] s) 5 (x_distinct k 7) (fun L => [(0, .ref (a 0)), (1, .int (L 1)), (2, .int (L 2)), (3, .int (L 3)), (4, .int (L 4))]) 77 (fun L => [])) ∧ (bT p l e (headSpec w_x_distinct ({ frames := 44, cells := 0, slots := 0, locals := 1223 })).room s m #[.ref (a 0), .int (L0 1)] below meth c dC dI cy a A (qV dC dI cy a A below #[.ref (a 0), .int (L0 1)] s) 5 (x_distinct k 8) (fun L => [(0, .ref (a 0)), (1, .int (L 1)), (2, .int (L 2)), (3, .int (L 3)), (4, .int (L 4))]) 80 (fun L => [])) ∧ (bT p l e (headSpec w_x_distinct ({ frames := 44, cells := 0, slots := 0, locals := 1223 })).room s m #[.ref (a 0), .int (L0 1)] below meth c dC dI cy a A (qV dC dI cy a A below #[.ref (a 0), .int (L0 1)] s) 5 (x_distinct k 9) (fun L => [(0, .ref (a 0)), (1, .int (L 1)), (2, .int (L 2)), (3, .int (L 3)), (4, .int (L 4))]) 102 (fun L => [])) ∧ (bT p l e (headSpec w_x_distinct ({ frames := 44, cells := 0, slots := 0, locals := 1223 })).room s m #[.ref (a 0), .int (L0 1)] below meth c dC dI cy a A (qV dC dI cy a A below #[.ref (a 0), .int (L0 1)] s) 5 (x_distinct k 10) (fun L => [(0, .ref (a 0)), (1, .int (L 1)), (2, .int (L 2)), (3, .int (L 3)), (4, .int (L 4))]) 108 (fun L => [])) ∧ (bT p l e (headSpec w_x_distinct ({ frames := 44, cells := 0, slots := 0, locals := 1223 })).room s m #[.ref (a 0), .int (L0 1)] below meth c dC dI cy a A (qV dC dI cy a A below #[.ref (a 0), .int (L0 1)] s) 5 (x_distinct k 11) (fun L => [(0, .ref (a 0)), (1, .int (L 1)), (2, .int (L 2)), (3, .int (L 3))]) 115 (fun L => [])) ∧ (bT p l e (headSpec w_x_distinct ({ frames := 44, cells := 0, slots := 0, locals := 1223 })).room s m #[.ref (a 0), .int (L0 1)] below meth c dC dI cy a A (qV dC dI cy a A below #[.ref (a 0), .int (L0 1)] s) 5 (x_distinct k 12) (fun L => [(0, .ref (a 0)), (1, .int (L 1)), (2, .int (L 2)), (3, .int (L 3)), (4, .int (L 4))]) 120 (fun L => [])) ∧ (bT p l e (headSpec w_x_distinct ({ frames := 44, cells := 0, slots := 0, locals := 1223 })).room s m #[.ref (a 0), .int (L0 1)] below meth c dC dI cy a A (qV dC dI cy a A below #[.ref (a 0), .int (L0 1)] s) 5 (x_distinct k 13) (fun L => [(0, .ref (a 0)), (1, .int (L 1)), (2, .int (L 2)), (3, .int (L 3)), (4, .int (L 4))]) 156 (fun L => [])) ∧ (bT p l e (headSpec w_x_distinct ({ frames := 44, cells := 0, slots := 0, locals := 1223 })).room s m #[.ref (a 0), .int (L0 1)] below meth c dC dI cy a A (qV dC dI cy a A below #[.ref (a 0), .int (L0 1)] s) 5 (x_distinct k 14) (fun L => [(0, .ref (a 0)), (1, .int (L 1)), (2, .int (L 2)), (3, .int (L 3)), (4, .int (L 4))]) 173 (fun L => [])) ∧ (bT p l e (headSpec w_x_distinct ({ frames := 44, cells := 0, slots := 0, locals := 1223 })).room s m #[.ref (a 0), .int (L0 1)] below meth c dC dI cy a A (qV dC dI cy a A below #[.ref (a 0), .int (L0 1)] s) 5 (x_distinct k 15) (fun L => [(0, .ref (a 0)), (1, .int (L 1)), (2, .int (L 2)), (3, .int (L 3)), (4, .int (L 4))]) 176 (fun L => [])) ∧ (bT p l e (headSpec w_x_distinct ({ frames := 44, cells := 0, slots := 0, locals := 1223 })).room s m #[.ref (a 0), .int (L0 1)] below meth c dC dI cy a A (qV dC dI cy a A below #[.ref (a 0), .int (L0 1)] s) 5 (x_distinct k 16) (fun L => [(0, .ref (a 0)), (1, .int (L 1)), (2, .int (L 2)), (3, .int (L 3)), (4, .int (L 4))]) 182 (fun L => [])) := by
    intro k
    induction k with
    | zero => exact ⟨fun L σ r h => (by cases h), fun L σ r h => (by cases h), fun L σ r h => (by cases h), fun L σ r h => (by cases h), fun L σ r h => (by cases h), fun L σ r h => (by cases h), fun L σ r h => (by cases h), fun L σ r h => (by cases h), fun L σ r h => (by cases h), fun L σ r h => (by cases h), fun L σ r h => (by cases h), fun L σ r h => (by cases h), fun L σ r h => (by cases h), fun L σ r h => (by cases h), fun L σ r h => (by cases h), fun L σ r h => (by cases h), fun L σ r h => (by cases h)⟩
    | succ k ih =>
      refine ⟨?_, ?_, ?_, ?_, ?_, ?_, ?_, ?_, ?_, ?_, ?_, ?_, ?_, ?_, ?_, ?_, ?_⟩
      · intro L σ r h H locs ls hP hD hS hl
        rw [x_distinct] at h
        refine lv_aload_n hx hb dX12_distinct_0 rfl (lv_at hl 0 rfl) ?_
        refine ng_59 hx hb hts in_x_distinct hown hK hP (hts _ (List.mem_cons_of_mem _ (List.mem_append_left _ (List.mem_append_left _ (List.mem_of_getElem? (i := 0) rfl))))) dX12_distinct_1 ?_
        refine lv_iload_n hx hb dX12_distinct_4 rfl (lv_at hl 1 rfl) ?_
        refine lv_isub hx hb dX12_distinct_5 ?_
        refine lv_istore_n (lv' := [(2, .int (((σ.1 59)) - ((L 1)))), (0, .ref (a 0)), (1, .int (L 1))]) hx hb dX12_distinct_6 rfl hl (by decide) rfl (fun ls hl => ?_)
        refine lv_iconst (v := 1) hx hb dX12_distinct_7 (by decide) ?_
        refine lv_istore_n (lv' := [(3, .int 1), (2, .int (((σ.1 59)) - ((L 1)))), (0, .ref (a 0)), (1, .int (L 1))]) hx hb dX12_distinct_8 rfl hl (by decide) rfl (fun ls hl => ?_)
        exact ih.2.1 (upd (upd L 2 ((((σ.1 59)) - ((L 1))))) 3 1) σ r h H locs ls hP hD hS (lv_sub hl [2, 3, 1, 0] rfl)
      · intro L σ r h H locs ls hP hD hS hl
        rw [x_distinct] at h
        refine lv_iload_n hx hb dX12_distinct_9 rfl (lv_at hl 3 rfl) ?_
        refine lv_iload_n hx hb dX12_distinct_10 rfl (lv_at hl 2 rfl) ?_
        refine lv_icmp_ge (tgt := 115) hx hb dX12_distinct_11 (by decide) (fun c1 => ?_) (fun c1 => ?_)
        · rw [if_pos c1] at h
          exact ih.2.2.2.2.2.2.2.2.2.2.2.1 L σ r h H locs ls hP hD hS (lv_sub hl [0, 1, 2, 3] rfl)
        · rw [if_neg c1] at h
          refine lv_iconst (v := 0) hx hb dX12_distinct_14 (by decide) ?_
          refine lv_istore (lv' := [(4, .int 0), (0, .ref (a 0)), (1, .int (L 1)), (2, .int (L 2)), (3, .int (L 3))]) hx hb dX12_distinct_15 hl (by decide) rfl (fun ls hl => ?_)
          exact ih.2.2.1 (upd L 4 0) σ r h H locs ls hP hD hS (lv_sub hl [1, 2, 3, 4, 0] rfl)
      · intro L σ r h H locs ls hP hD hS hl
        rw [x_distinct] at h
        refine lv_iload hx hb dX12_distinct_17 (lv_at hl 4 rfl) ?_
        refine lv_iload_n hx hb dX12_distinct_19 rfl (lv_at hl 2 rfl) ?_
        refine lv_icmp_ge (tgt := 77) hx hb dX12_distinct_20 (by decide) (fun c1 => ?_) (fun c1 => ?_)
        · rw [if_pos c1] at h
          exact ih.2.2.2.2.2.2.2.1 L σ r h H locs ls hP hD hS (lv_sub hl [0, 1, 2, 3, 4] rfl)
        · rw [if_neg c1] at h
          refine lv_aload_n hx hb dX12_distinct_23 rfl (lv_at hl 0 rfl) ?_
          refine lv_iload_n hx hb dX12_distinct_24 rfl (lv_at hl 1 rfl) ?_
          refine lv_iload hx hb dX12_distinct_25 (lv_at hl 4 rfl) ?_
          refine lv_iload hx hb dX12_distinct_27 (lv_at hl 4 rfl) ?_
          refine lv_iload_n hx hb dX12_distinct_29 rfl (lv_at hl 3 rfl) ?_
          refine lv_iadd hx hb dX12_distinct_30 ?_
          refine lv_iload_n hx hb dX12_distinct_31 rfl (lv_at hl 2 rfl) ?_
          refine lv_icmp_ge (tgt := 42) hx hb dX12_distinct_32 (by decide) (fun c2 => ?_) (fun c2 => ?_)
          · rw [if_pos c2] at h
            exact ih.2.2.2.1 (upd (upd L 100 ((L 4))) 101 ((L 1))) σ r h H locs ls hP hD hS (lv_sub hl [0, 1, 2, 3, 4] rfl)
          · rw [if_neg c2] at h
            refine lv_iload hx hb dX12_distinct_35 (lv_at hl 4 rfl) ?_
            refine lv_iload_n hx hb dX12_distinct_37 rfl (lv_at hl 3 rfl) ?_
            refine lv_iadd hx hb dX12_distinct_38 ?_
            refine lv_goto (tgt := 43) hx hb dX12_distinct_39 (by decide) ?_
            exact ih.2.2.2.2.1 (upd (upd (upd L 100 ((((L 4)) + ((L 3))))) 101 ((L 4))) 102 ((L 1))) σ r h H locs ls hP hD hS (lv_sub hl [0, 1, 2, 3, 4] rfl)
      · intro L σ r h H locs ls hP hD hS hl
        rw [x_distinct] at h
        refine lv_iload_n hx hb dX12_distinct_42 rfl (lv_at hl 2 rfl) ?_
        exact ih.2.2.2.2.1 (upd (upd (upd L 100 ((L 2))) 101 ((L 100))) 102 ((L 101))) σ r h H locs ls hP hD hS (lv_sub hl [0, 1, 2, 3, 4] rfl)
      · intro L σ r h H locs ls hP hD hS hl
        rw [x_distinct] at h
        refine lv_iload hx hb dX12_distinct_43 (lv_at hl 4 rfl) ?_
        refine lv_iconst (v := 2) hx hb dX12_distinct_45 (by decide) ?_
        refine lv_iload_n hx hb dX12_distinct_46 rfl (lv_at hl 3 rfl) ?_
        refine lv_imul hx hb dX12_distinct_47 ?_
        refine lv_iadd hx hb dX12_distinct_48 ?_
        refine lv_iload_n hx hb dX12_distinct_49 rfl (lv_at hl 2 rfl) ?_
        refine lv_icmp_ge (tgt := 62) hx hb dX12_distinct_50 (by decide) (fun c1 => ?_) (fun c1 => ?_)
        · rw [if_pos c1] at h
          exact ih.2.2.2.2.2.1 (upd (upd (upd L 100 ((L 100))) 101 ((L 101))) 102 ((L 102))) σ r h H locs ls hP hD hS (lv_sub hl [0, 1, 2, 3, 4] rfl)
        · rw [if_neg c1] at h
          refine lv_iload hx hb dX12_distinct_53 (lv_at hl 4 rfl) ?_
          refine lv_iconst (v := 2) hx hb dX12_distinct_55 (by decide) ?_
          refine lv_iload_n hx hb dX12_distinct_56 rfl (lv_at hl 3 rfl) ?_
          refine lv_imul hx hb dX12_distinct_57 ?_
          refine lv_iadd hx hb dX12_distinct_58 ?_
          refine lv_goto (tgt := 63) hx hb dX12_distinct_59 (by decide) ?_
          exact ih.2.2.2.2.2.2.1 (upd (upd (upd (upd L 100 ((((L 4)) + ((2 * ((L 3))))))) 101 ((L 100))) 102 ((L 101))) 103 ((L 102))) σ r h H locs ls hP hD hS (lv_sub hl [0, 1, 2, 3, 4] rfl)
      · intro L σ r h H locs ls hP hD hS hl
        rw [x_distinct] at h
        refine lv_iload_n hx hb dX12_distinct_62 rfl (lv_at hl 2 rfl) ?_
        exact ih.2.2.2.2.2.2.1 (upd (upd (upd (upd L 100 ((L 2))) 101 ((L 100))) 102 ((L 101))) 103 ((L 102))) σ r h H locs ls hP hD hS (lv_sub hl [0, 1, 2, 3, 4] rfl)
      · intro L σ r h H locs ls hP hD hS hl
        rw [x_distinct] at h
        obtain ⟨r1, hc1, h⟩ := ob_ex h
        refine nc_Vv (As := [.int (L 103), .int (L 102), .int (L 101), .int (L 100)]) (rest := []) ⟨hx, hb, hml, hown, hts⟩ (c_x_merge l dC dI cy a k (upd (upd (upd (upd (fun _ => 0) 1 ((L 103))) 2 ((L 102))) 3 ((L 101))) 4 ((L 100))) σ r1 hc1 H.size) (cwV 4 hts g_x_distinct_merge_444 rfl rfl rfl hd_x_merge ⟨Nat.le_of_ble_eq_true rfl, Nat.le_of_ble_eq_true rfl⟩) hK hG hA hP hD hS rfl hl.1 rfl (Nat.le_of_ble_eq_true rfl) dX12_distinct_63 ⟨Nat.le_refl _, Nat.le_refl _⟩ (fun H locs hP hD hS => ?_)
        refine lv_iload hx hb dX12_distinct_66 (lv_at hl 4 rfl) ?_
        refine lv_iconst (v := 2) hx hb dX12_distinct_68 (by decide) ?_
        refine lv_iload_n hx hb dX12_distinct_69 rfl (lv_at hl 3 rfl) ?_
        refine lv_imul hx hb dX12_distinct_70 ?_
        refine lv_iadd hx hb dX12_distinct_71 ?_
        refine lv_istore (lv' := [(4, .int (((L 4)) + ((2 * ((L 3)))))), (0, .ref (a 0)), (1, .int (L 1)), (2, .int (L 2)), (3, .int (L 3))]) hx hb dX12_distinct_72 hl (by decide) rfl (fun ls hl => ?_)
        refine lv_goto (tgt := 17) hx hb dX12_distinct_74 (by decide) ?_
        exact ih.2.2.1 (upd L 4 ((((L 4)) + ((2 * ((L 3))))))) r1.2 r h H locs ls hP hD hS (lv_sub hl [1, 2, 3, 4, 0] rfl)
      · intro L σ r h H locs ls hP hD hS hl
        rw [x_distinct] at h
        refine lv_iconst (v := 0) hx hb dX12_distinct_77 (by decide) ?_
        refine lv_istore (lv' := [(4, .int 0), (0, .ref (a 0)), (1, .int (L 1)), (2, .int (L 2)), (3, .int (L 3))]) hx hb dX12_distinct_78 hl (by decide) rfl (fun ls hl => ?_)
        exact ih.2.2.2.2.2.2.2.2.1 (upd L 4 0) σ r h H locs ls hP hD hS (lv_sub hl [1, 2, 3, 4, 0] rfl)
      · intro L σ r h H locs ls hP hD hS hl
        rw [x_distinct] at h
        refine lv_iload hx hb dX12_distinct_80 (lv_at hl 4 rfl) ?_
        refine lv_iload_n hx hb dX12_distinct_82 rfl (lv_at hl 2 rfl) ?_
        refine lv_icmp_ge (tgt := 108) hx hb dX12_distinct_83 (by decide) (fun c1 => ?_) (fun c1 => ?_)
        · rw [if_pos c1] at h
          exact ih.2.2.2.2.2.2.2.2.2.2.1 L σ r h H locs ls hP hD hS (lv_sub hl [0, 1, 2, 3, 4] rfl)
        · rw [if_neg c1] at h
          refine lv_aload_n hx hb dX12_distinct_86 rfl (lv_at hl 0 rfl) ?_
          refine ng_58 hx hb hts in_x_distinct hown hK hP (hts _ (List.mem_cons_of_mem _ (List.mem_append_left _ (List.mem_append_left _ (List.mem_of_getElem? (i := 5) rfl))))) dX12_distinct_87 ?_
          refine lv_iload_n hx hb dX12_distinct_90 rfl (lv_at hl 1 rfl) ?_
          refine lv_iload hx hb dX12_distinct_91 (lv_at hl 4 rfl) ?_
          refine lv_iadd hx hb dX12_distinct_93 ?_
          refine lv_aload_n hx hb dX12_distinct_94 rfl (lv_at hl 0 rfl) ?_
          refine ng_80 hx hb hts in_x_distinct hown hK hP (hts _ (List.mem_cons_of_mem _ (List.mem_append_left _ (List.mem_append_left _ (List.mem_of_getElem? (i := 6) rfl))))) dX12_distinct_95 ?_
          refine lv_iload hx hb dX12_distinct_98 (lv_at hl 4 rfl) ?_
          obtain ⟨q2, h⟩ := nb_ite1 h
          refine nl_41 hx hb hK hP q2 dX12_distinct_100 ?_
          obtain ⟨q3, h⟩ := nb_ite1 h
          refine ns_29 hx hb hK hP hD hS q3 dX12_distinct_101 (fun H locs hP hD hS => ?_)
          exact ih.2.2.2.2.2.2.2.2.2.1 L (σ.1, σ.2.1, updG σ.2.2 29 (upd (σ.2.2 29) ((((L 1)) + ((L 4)))).toNatClampNeg ((σ.2.2 41 ((L 4)).toNatClampNeg)))) r h H locs ls hP hD hS (lv_sub hl [0, 1, 2, 3, 4] rfl)
      · intro L σ r h H locs ls hP hD hS hl
        rw [x_distinct] at h
        refine lv_iinc (v := ((L 4)) + 1) (lv' := [(4, .int (((L 4)) + 1)), (0, .ref (a 0)), (1, .int (L 1)), (2, .int (L 2)), (3, .int (L 3))]) hx hb dX12_distinct_102 hl (k := 4) rfl rfl (by decide) rfl (fun ls hl => ?_)
        refine lv_goto (tgt := 80) hx hb dX12_distinct_105 (by decide) ?_
        exact ih.2.2.2.2.2.2.2.2.1 (upd L 4 (((L 4)) + 1)) σ r h H locs ls hP hD hS (lv_sub hl [1, 2, 3, 4, 0] rfl)
      · intro L σ r h H locs ls hP hD hS hl
        rw [x_distinct] at h
        refine lv_iload_n hx hb dX12_distinct_108 rfl (lv_at hl 3 rfl) ?_
        refine lv_iload_n hx hb dX12_distinct_109 rfl (lv_at hl 3 rfl) ?_
        refine lv_iadd hx hb dX12_distinct_110 ?_
        refine lv_istore_n (lv' := [(3, .int (((L 3)) + ((L 3)))), (0, .ref (a 0)), (1, .int (L 1)), (2, .int (L 2)), (4, .int (L 4))]) hx hb dX12_distinct_111 rfl hl (by decide) rfl (fun ls hl => ?_)
        refine lv_goto (tgt := 9) hx hb dX12_distinct_112 (by decide) ?_
        exact ih.2.1 (upd L 3 ((((L 3)) + ((L 3))))) σ r h H locs ls hP hD hS (lv_sub hl [1, 2, 3, 0] rfl)
      · intro L σ r h H locs ls hP hD hS hl
        rw [x_distinct] at h
        refine lv_iconst (v := 0) hx hb dX12_distinct_115 (by decide) ?_
        refine lv_istore_n (lv' := [(3, .int 0), (0, .ref (a 0)), (1, .int (L 1)), (2, .int (L 2))]) hx hb dX12_distinct_116 rfl hl (by decide) rfl (fun ls hl => ?_)
        refine lv_iconst (v := 0) hx hb dX12_distinct_117 (by decide) ?_
        refine lv_istore (lv' := [(4, .int 0), (3, .int 0), (0, .ref (a 0)), (1, .int (L 1)), (2, .int (L 2))]) hx hb dX12_distinct_118 hl (by decide) rfl (fun ls hl => ?_)
        exact ih.2.2.2.2.2.2.2.2.2.2.2.2.1 (upd (upd L 3 0) 4 0) σ r h H locs ls hP hD hS (lv_sub hl [2, 3, 4, 1, 0] rfl)
      · intro L σ r h H locs ls hP hD hS hl
        rw [x_distinct] at h
        refine lv_iload hx hb dX12_distinct_120 (lv_at hl 4 rfl) ?_
        refine lv_iload_n hx hb dX12_distinct_122 rfl (lv_at hl 2 rfl) ?_
        refine lv_icmp_ge (tgt := 182) hx hb dX12_distinct_123 (by decide) (fun c1 => ?_) (fun c1 => ?_)
        · rw [if_pos c1] at h
          exact ih.2.2.2.2.2.2.2.2.2.2.2.2.2.2.2.2 L σ r h H locs ls hP hD hS (lv_sub hl [0, 1, 2, 3, 4] rfl)
        · rw [if_neg c1] at h
          refine lv_iload_n hx hb dX12_distinct_126 rfl (lv_at hl 3 rfl) ?_
          refine lv_if_eq (tgt := 156) hx hb dX12_distinct_127 (by decide) (fun c2 => ?_) (fun c2 => ?_)
          · rw [if_pos c2] at h
            exact ih.2.2.2.2.2.2.2.2.2.2.2.2.2.1 L σ r h H locs ls hP hD hS (lv_sub hl [0, 1, 2, 3, 4] rfl)
          · rw [if_neg c2] at h
            refine lv_aload_n hx hb dX12_distinct_130 rfl (lv_at hl 0 rfl) ?_
            refine lv_aload_n hx hb dX12_distinct_131 rfl (lv_at hl 0 rfl) ?_
            refine ng_58 hx hb hts in_x_distinct hown hK hP (hts _ (List.mem_cons_of_mem _ (List.mem_append_left _ (List.mem_append_left _ (List.mem_of_getElem? (i := 5) rfl))))) dX12_distinct_132 ?_
            refine lv_iload_n hx hb dX12_distinct_135 rfl (lv_at hl 1 rfl) ?_
            refine lv_iload_n hx hb dX12_distinct_136 rfl (lv_at hl 3 rfl) ?_
            refine lv_iadd hx hb dX12_distinct_137 ?_
            refine lv_iconst (v := 1) hx hb dX12_distinct_138 (by decide) ?_
            refine lv_isub hx hb dX12_distinct_139 ?_
            obtain ⟨q3, h⟩ := nb_ite1 h
            refine nl_29 hx hb hK hP q3 dX12_distinct_140 ?_
            refine lv_aload_n hx hb dX12_distinct_141 rfl (lv_at hl 0 rfl) ?_
            refine ng_58 hx hb hts in_x_distinct hown hK hP (hts _ (List.mem_cons_of_mem _ (List.mem_append_left _ (List.mem_append_left _ (List.mem_of_getElem? (i := 5) rfl))))) dX12_distinct_142 ?_
            refine lv_iload_n hx hb dX12_distinct_145 rfl (lv_at hl 1 rfl) ?_
            refine lv_iload hx hb dX12_distinct_146 (lv_at hl 4 rfl) ?_
            refine lv_iadd hx hb dX12_distinct_148 ?_
            obtain ⟨q4, h⟩ := nb_ite1 h
            refine nl_29 hx hb hK hP q4 dX12_distinct_149 ?_
            obtain ⟨r5, hc5, h⟩ := ob_ex h
            refine nc_Vi (As := [.int (σ.2.2 29 ((((((L 1)) + ((L 3)))) - 1)).toNatClampNeg), .int (σ.2.2 29 ((((L 1)) + ((L 4)))).toNatClampNeg)]) (rest := []) ⟨hx, hb, hml, hown, hts⟩ (c_x_compare l dC dI cy a k (upd (upd (fun _ => 0) 1 ((σ.2.2 29 ((((((L 1)) + ((L 3)))) - 1)).toNatClampNeg))) 2 ((σ.2.2 29 ((((L 1)) + ((L 4)))).toNatClampNeg))) σ r5 hc5 H.size) (cwV 2 hts g_x_distinct_compare_451 rfl rfl rfl hd_x_compare ⟨Nat.le_of_ble_eq_true rfl, Nat.le_of_ble_eq_true rfl⟩) hK hG hA hP hD hS rfl hl.1 rfl (Nat.le_of_ble_eq_true rfl) dX12_distinct_150 ⟨Nat.le_refl _, Nat.le_refl _⟩ (fun H locs hP hD hS => ?_)
            refine lv_if_eq (tgt := 176) hx hb dX12_distinct_153 (by decide) (fun c6 => ?_) (fun c6 => ?_)
            · rw [if_pos c6] at h
              exact ih.2.2.2.2.2.2.2.2.2.2.2.2.2.2.2.1 L r5.2 r h H locs ls hP hD hS (lv_sub hl [0, 1, 2, 3, 4] rfl)
            · rw [if_neg c6] at h
              exact ih.2.2.2.2.2.2.2.2.2.2.2.2.2.1 L r5.2 r h H locs ls hP hD hS (lv_sub hl [0, 1, 2, 3, 4] rfl)
      · intro L σ r h H locs ls hP hD hS hl
        rw [x_distinct] at h
        refine lv_aload_n hx hb dX12_distinct_156 rfl (lv_at hl 0 rfl) ?_
        refine ng_58 hx hb hts in_x_distinct hown hK hP (hts _ (List.mem_cons_of_mem _ (List.mem_append_left _ (List.mem_append_left _ (List.mem_of_getElem? (i := 5) rfl))))) dX12_distinct_157 ?_
        refine lv_iload_n hx hb dX12_distinct_160 rfl (lv_at hl 1 rfl) ?_
        refine lv_iload_n hx hb dX12_distinct_161 rfl (lv_at hl 3 rfl) ?_
        refine lv_iadd hx hb dX12_distinct_162 ?_
        refine lv_aload_n hx hb dX12_distinct_163 rfl (lv_at hl 0 rfl) ?_
        refine ng_58 hx hb hts in_x_distinct hown hK hP (hts _ (List.mem_cons_of_mem _ (List.mem_append_left _ (List.mem_append_left _ (List.mem_of_getElem? (i := 5) rfl))))) dX12_distinct_164 ?_
        refine lv_iload_n hx hb dX12_distinct_167 rfl (lv_at hl 1 rfl) ?_
        refine lv_iload hx hb dX12_distinct_168 (lv_at hl 4 rfl) ?_
        refine lv_iadd hx hb dX12_distinct_170 ?_
        obtain ⟨q1, h⟩ := nb_ite1 h
        refine nl_29 hx hb hK hP q1 dX12_distinct_171 ?_
        obtain ⟨q2, h⟩ := nb_ite1 h
        refine ns_29 hx hb hK hP hD hS q2 dX12_distinct_172 (fun H locs hP hD hS => ?_)
        exact ih.2.2.2.2.2.2.2.2.2.2.2.2.2.2.1 L (σ.1, σ.2.1, updG σ.2.2 29 (upd (σ.2.2 29) ((((L 1)) + ((L 3)))).toNatClampNeg ((σ.2.2 29 ((((L 1)) + ((L 4)))).toNatClampNeg)))) r h H locs ls hP hD hS (lv_sub hl [0, 1, 2, 3, 4] rfl)
      · intro L σ r h H locs ls hP hD hS hl
        rw [x_distinct] at h
        refine lv_iinc (v := ((L 3)) + 1) (lv' := [(3, .int (((L 3)) + 1)), (0, .ref (a 0)), (1, .int (L 1)), (2, .int (L 2)), (4, .int (L 4))]) hx hb dX12_distinct_173 hl (k := 3) rfl rfl (by decide) rfl (fun ls hl => ?_)
        exact ih.2.2.2.2.2.2.2.2.2.2.2.2.2.2.2.1 (upd L 3 (((L 3)) + 1)) σ r h H locs ls hP hD hS (lv_sub hl [1, 2, 3, 0, 4] rfl)
      · intro L σ r h H locs ls hP hD hS hl
        rw [x_distinct] at h
        refine lv_iinc (v := ((L 4)) + 1) (lv' := [(4, .int (((L 4)) + 1)), (0, .ref (a 0)), (1, .int (L 1)), (2, .int (L 2)), (3, .int (L 3))]) hx hb dX12_distinct_176 hl (k := 4) rfl rfl (by decide) rfl (fun ls hl => ?_)
        refine lv_goto (tgt := 120) hx hb dX12_distinct_179 (by decide) ?_
        exact ih.2.2.2.2.2.2.2.2.2.2.2.2.1 (upd L 4 (((L 4)) + 1)) σ r h H locs ls hP hD hS (lv_sub hl [1, 2, 3, 4, 0] rfl)
      · intro L σ r h H locs ls hP hD hS hl
        rw [x_distinct] at h
        refine lv_aload_n hx hb dX12_distinct_182 rfl (lv_at hl 0 rfl) ?_
        refine lv_iload_n hx hb dX12_distinct_183 rfl (lv_at hl 1 rfl) ?_
        refine lv_iload_n hx hb dX12_distinct_184 rfl (lv_at hl 3 rfl) ?_
        refine lv_iadd hx hb dX12_distinct_185 ?_
        refine np_59 hx hb hts in_x_distinct hown hK hP hD hS (hts _ (List.mem_cons_of_mem _ (List.mem_append_left _ (List.mem_append_left _ (List.mem_of_getElem? (i := 0) rfl))))) dX12_distinct_186 (fun H locs hP hD hS => ?_)
        cases h
        exact W.vret hx hb hr (fun t ht hW => ⟨⟨(), rfl, trivial, by rw [ht]; exact hP, va_K.moved hW.alike hK, hD⟩, hS.F ht⟩) hS.2.2 dX12_distinct_189
  exact (blk k0).1 L0 σ0 r0 h0 s.heap [] ls hP hD hS hl
/-! setOf -/
def x_setOf : Nat → Nat → (Nat → Int32) → MS → Option (Int32 × MS)
  | 0, _, _, _ => none
  | k + 1, 0, L, σ => ob (x_distinct k 0 (upd (fun _ => 0) 1 ((L 1))) σ) (fun r1 => x_setOf k 1 (upd L 2 ((((r1.2.1 59)) - ((L 1))))) (upd r1.2.1 59 ((L 1)), r1.2.2.1, r1.2.2.2))
  | k + 1, 1, L, σ => ob (x_make k 0 (upd (upd (fun _ => 0) 1 6) 2 ((L 2))) σ) (fun r1 => if ((r1.2.1 56)) ≤ 0 then (x_setOf k 2 (upd L 3 r1.1) r1.2) else (some (0, r1.2)))
  | k + 1, 2, L, σ => x_setOf k 3 (upd L 4 0) σ
  | k + 1, 3, L, σ => if ((L 2)) ≤ ((L 4)) then (x_setOf k 5 L σ) else (if ¬ (((((L 1)) + ((L 4)))) < 0 ∨ 185000 ≤ ((((L 1)) + ((L 4)))).toNatClampNeg) then (if ¬ (((((((L 3)) + 4)) + ((L 4)))) < 0 ∨ 1740000 ≤ ((((((L 3)) + 4)) + ((L 4)))).toNatClampNeg) then (x_setOf k 4 L (σ.1, σ.2.1, updG σ.2.2 28 (upd (σ.2.2 28) ((((((L 3)) + 4)) + ((L 4)))).toNatClampNeg ((σ.2.2 29 ((((L 1)) + ((L 4)))).toNatClampNeg))))) else none) else none)
  | k + 1, 4, L, σ => x_setOf k 3 (upd L 4 (((L 4)) + 1)) σ
  | k + 1, 5, L, σ => ob (x_measured k 0 (upd (fun _ => 0) 1 ((L 3))) σ) (fun r1 => some (r1.1, r1.2))
  | _ + 1, _ + 6, _, _ => none
def o_x_setOf : List Cond := [.methodLink RX12 454 yX12_distinct, .instanceMethod yX12_distinct, .selects RX12 yX12_distinct yX12_distinct, .initialized RX12, .fieldLink RX12 385 "SetHouseModel" "top" "I", .methodLink RX12 429 yX12_make, .instanceMethod yX12_make, .selects RX12 yX12_make yX12_make, .fieldLink RX12 362 "SetHouseModel" "err" "I", .fieldLink RX12 372 "SetHouseModel" "heap" "[I", .fieldLink RX12 382 "SetHouseModel" "pile" "[I", .methodLink RX12 441 yX12_measured, .instanceMethod yX12_measured, .selects RX12 yX12_measured yX12_measured]
theorem o_x_setOf_good : o_x_setOf.all goodWord = true := by decide +kernel
def p_x_setOf : List Cond := o_x_setOf ++ ((.code yX12_distinct cX12_distinct 5 none :: p_x_distinct) ++ ((.code yX12_make cX12_make 4 (some .int) :: p_x_make) ++ ((.code yX12_measured cX12_measured 7 (some .int) :: p_x_measured) ++ [])))
theorem p_x_setOf_good : p_x_setOf.all goodWord = true := nb_all2 o_x_setOf_good (nb_all2 (nb_allc (by decide +kernel) p_x_distinct_good) (nb_all2 (nb_allc (by decide +kernel) p_x_make_good) (nb_all2 (nb_allc (by decide +kernel) p_x_measured_good) rfl)))
def w_x_setOf : List Cond := .code yX12_setOf cX12_setOf 5 (some .int) :: (p_x_setOf ++ fM)
theorem w_x_setOf_good : w_x_setOf.all goodWord = true := nb_allc (by decide +kernel) (nb_all2 p_x_setOf_good fM_good)
theorem in_x_setOf : ∀ w ∈ wsX120, w ∈ w_x_setOf := fun _ h => List.mem_cons_of_mem _ (List.mem_append_right _ h)
theorem hd_x_setOf : yX12_setOf.cls = RX12 ∧ yX12_setOf.cls ≠ "java/lang/invoke/MethodHandle" ∧ yX12_setOf.cls ≠ "java/lang/invoke/VarHandle" ∧ (parseMethodDescriptor yX12_setOf.desc).map (fun d => d.parameters.length) = some 1 := by decide +kernel
theorem gg_x_setOf_distinct : GoodIn w_x_setOf w_x_distinct := goodIn_sub (fun w h => (List.mem_cons.mp h).elim (fun e => (List.mem_cons_of_mem _ (List.mem_append_left _ (List.mem_append_right _ (List.mem_append_left _ (List.mem_cons.mpr (Or.inl e))))))) (fun h => (List.mem_append.mp h).elim (fun h => (List.mem_cons_of_mem _ (List.mem_append_left _ (List.mem_append_right _ (List.mem_append_left _ (List.mem_cons_of_mem _ h)))))) (fun h => List.mem_cons_of_mem _ (List.mem_append_right _ h)))) w_x_distinct_good
theorem g_x_setOf_distinct_454 : GoodIn w_x_setOf (wsV RX12 454 RX12 yX12_distinct w_x_distinct) := goodIn_app (nb_g4 (List.mem_cons_of_mem _ (List.mem_append_left _ (List.mem_append_left _ (List.mem_of_getElem? (i := 0) rfl)))) (List.mem_cons_of_mem _ (List.mem_append_left _ (List.mem_append_left _ (List.mem_of_getElem? (i := 1) rfl)))) (List.mem_cons_of_mem _ (List.mem_append_left _ (List.mem_append_left _ (List.mem_of_getElem? (i := 2) rfl)))) (List.mem_cons_of_mem _ (List.mem_append_left _ (List.mem_append_left _ (List.mem_of_getElem? (i := 3) rfl)))) (by decide +kernel)) gg_x_setOf_distinct
theorem gg_x_setOf_make : GoodIn w_x_setOf w_x_make := goodIn_sub (fun w h => (List.mem_cons.mp h).elim (fun e => (List.mem_cons_of_mem _ (List.mem_append_left _ (List.mem_append_right _ (List.mem_append_right _ (List.mem_append_left _ (List.mem_cons.mpr (Or.inl e)))))))) (fun h => (List.mem_append.mp h).elim (fun h => (List.mem_cons_of_mem _ (List.mem_append_left _ (List.mem_append_right _ (List.mem_append_right _ (List.mem_append_left _ (List.mem_cons_of_mem _ h))))))) (fun h => List.mem_cons_of_mem _ (List.mem_append_right _ h)))) w_x_make_good
theorem g_x_setOf_make_429 : GoodIn w_x_setOf (wsV RX12 429 RX12 yX12_make w_x_make) := goodIn_app (nb_g4 (List.mem_cons_of_mem _ (List.mem_append_left _ (List.mem_append_left _ (List.mem_of_getElem? (i := 5) rfl)))) (List.mem_cons_of_mem _ (List.mem_append_left _ (List.mem_append_left _ (List.mem_of_getElem? (i := 6) rfl)))) (List.mem_cons_of_mem _ (List.mem_append_left _ (List.mem_append_left _ (List.mem_of_getElem? (i := 7) rfl)))) (List.mem_cons_of_mem _ (List.mem_append_left _ (List.mem_append_left _ (List.mem_of_getElem? (i := 3) rfl)))) (by decide +kernel)) gg_x_setOf_make
theorem gg_x_setOf_measured : GoodIn w_x_setOf w_x_measured := goodIn_sub (fun w h => (List.mem_cons.mp h).elim (fun e => (List.mem_cons_of_mem _ (List.mem_append_left _ (List.mem_append_right _ (List.mem_append_right _ (List.mem_append_right _ (List.mem_append_left _ (List.mem_cons.mpr (Or.inl e))))))))) (fun h => (List.mem_append.mp h).elim (fun h => (List.mem_cons_of_mem _ (List.mem_append_left _ (List.mem_append_right _ (List.mem_append_right _ (List.mem_append_right _ (List.mem_append_left _ (List.mem_cons_of_mem _ h)))))))) (fun h => List.mem_cons_of_mem _ (List.mem_append_right _ h)))) w_x_measured_good
theorem g_x_setOf_measured_441 : GoodIn w_x_setOf (wsV RX12 441 RX12 yX12_measured w_x_measured) := goodIn_app (nb_g4 (List.mem_cons_of_mem _ (List.mem_append_left _ (List.mem_append_left _ (List.mem_of_getElem? (i := 11) rfl)))) (List.mem_cons_of_mem _ (List.mem_append_left _ (List.mem_append_left _ (List.mem_of_getElem? (i := 12) rfl)))) (List.mem_cons_of_mem _ (List.mem_append_left _ (List.mem_append_left _ (List.mem_of_getElem? (i := 13) rfl)))) (List.mem_cons_of_mem _ (List.mem_append_left _ (List.mem_append_left _ (List.mem_of_getElem? (i := 3) rfl)))) (by decide +kernel)) gg_x_setOf_measured
set_option maxHeartbeats 40000000 in
set_option maxRecDepth 100000 in
theorem c_x_setOf (l : Launch) (dC : Nat → ClassId) (dI : Nat → Nat → Nat) (cy : Nat → ClassId) (a : Nat → Nat) (k0 : Nat) (L0 : Nat → Int32) (σ0 : MS) (r0 : Int32 × MS) (h0 : x_setOf k0 0 L0 σ0 = some r0) (sz : Nat) : Met l yX12_setOf w_x_setOf ({ frames := 45, cells := 0, slots := 0, locals := 1247 }) (va_Pc [.ref (a 0), .int (L0 1)] (nIn (dC, dI) cy sz (vM cy a σ0))) (va_Qi (fun (z : Int32) (_ : Unit) => z = r0.1) (fun _ t => nOut (dC, dI) cy (va_A (vM cy a σ0) sz) (vM cy a r0.2) t) (va_A (vM cy a σ0) sz)) 0 0 (va_A (vM cy a σ0) sz) := by
  refine Met.ofW (cc := cX12_setOf) (maxL := 5) (ret := (some .int)) (by decide) rfl ?_
  intro p e s m args below meth c s₁ B hml hv
  obtain ⟨rfl, hsz, hP, hK, hD0, hG⟩ := hv
  have hx := B.exec
  have hb := B.bytes
  have hr := B.returns
  have hts := atoms_spec (ws := w_x_setOf) B.pre
  have hown : s.vm.findClass RX12 = some m.cls := findClass_of_methodNamed B.named
  have hlocks := B.notSynchronized
  subst hsz
  have hD := hD0.self (sz := s.heap.size)
  generalize hAe : va_A (vM cy a σ0) s.heap.size = A at hD ⊢
  have hA : ∀ q : Nat, s.heap.size ≤ q → A q := fun q h => by rw [← hAe]; exact Or.inr h
  have hS : va_S A s.heap s.heap [] := va_S.rf
  have hl := lv_entry ([.ref (a 0), .int (L0 1)]) (n := 5) (Nat.le_of_ble_eq_true rfl)
  rw [lg_entry_eq]
  generalize (lg_sl ([.ref (a 0), .int (L0 1)]) ++ List.replicate (5 - (lg_sl ([.ref (a 0), .int (L0 1)])).length) Slot.unset).toArray = ls at hl ⊢
  have hl : lv_has ls 5 [(0, .ref (a 0)), (1, .int (L0 1))] := hl
  have blk : ∀ k : Nat, (bT p l e (headSpec w_x_setOf ({ frames := 45, cells := 0, slots := 0, locals := 1247 })).room s m #[.ref (a 0), .int (L0 1)] below meth c dC dI cy a A (qI dC dI cy a A below #[.ref (a 0), .int (L0 1)] s) 5 (x_setOf k 0) (fun L => [(0, .ref (a 0)), (1, .int (L 1))]) 0 (fun L => [])) ∧ (bT p l e (headSpec w_x_setOf ({ frames := 45, cells := 0, slots := 0, locals := 1247 })).room s m #[.ref (a 0), .int (L0 1)] below meth c dC dI cy a A (qI dC dI cy a A below #[.ref (a 0), .int (L0 1)] s) 5 (x_setOf k 1) (fun L => [(0, .ref (a 0)), (1, .int (L 1)), (2, .int (L 2))]) 17 (fun L => [])) ∧ (bT p l e (headSpec w_x_setOf ({ frames := 45, cells := 0, slots := 0, locals := 1247 })).room s m #[.ref (a 0), .int (L0 1)] below meth c dC dI cy a A (qI dC dI cy a A below #[.ref (a 0), .int (L0 1)] s) 5 (x_setOf k 2) (fun L => [(0, .ref (a 0)), (1, .int (L 1)), (2, .int (L 2)), (3, .int (L 3))]) 34 (fun L => [])) ∧ (bT p l e (headSpec w_x_setOf ({ frames := 45, cells := 0, slots := 0, locals := 1247 })).room s m #[.ref (a 0), .int (L0 1)] below meth c dC dI cy a A (qI dC dI cy a A below #[.ref (a 0), .int (L0 1)] s) 5 (x_setOf k 3) (fun L => [(0, .ref (a 0)), (1, .int (L 1)), (2, .int (L 2)), (3, .int (L 3)), (4, .int (L 4))]) 37 (fun L => [])) ∧ (bT p l e (headSpec w_x_setOf ({ frames := 45, cells := 0, slots := 0, locals := 1247 })).room s m #[.ref (a 0), .int (L0 1)] below meth c dC dI cy a A (qI dC dI cy a A below #[.ref (a 0), .int (L0 1)] s) 5 (x_setOf k 4) (fun L => [(0, .ref (a 0)), (1, .int (L 1)), (2, .int (L 2)), (3, .int (L 3)), (4, .int (L 4))]) 63 (fun L => [])) ∧ (bT p l e (headSpec w_x_setOf ({ frames := 45, cells := 0, slots := 0, locals := 1247 })).room s m #[.ref (a 0), .int (L0 1)] below meth c dC dI cy a A (qI dC dI cy a A below #[.ref (a 0), .int (L0 1)] s) 5 (x_setOf k 5) (fun L => [(0, .ref (a 0)), (1, .int (L 1)), (2, .int (L 2)), (3, .int (L 3)), (4, .int (L 4))]) 69 (fun L => [])) := by
    intro k
    induction k with
    | zero => exact ⟨fun L σ r h => (by cases h), fun L σ r h => (by cases h), fun L σ r h => (by cases h), fun L σ r h => (by cases h), fun L σ r h => (by cases h), fun L σ r h => (by cases h)⟩
    | succ k ih =>
      refine ⟨?_, ?_, ?_, ?_, ?_, ?_⟩
      · intro L σ r h H locs ls hP hD hS hl
        rw [x_setOf] at h
        refine lv_aload_n hx hb dX12_setOf_0 rfl (lv_at hl 0 rfl) ?_
        refine lv_iload_n hx hb dX12_setOf_1 rfl (lv_at hl 1 rfl) ?_
        obtain ⟨r1, hc1, h⟩ := ob_ex h
        refine nc_Vv (As := [.int (L 1)]) (rest := []) ⟨hx, hb, hml, hown, hts⟩ (c_x_distinct l dC dI cy a k (upd (fun _ => 0) 1 ((L 1))) σ r1 hc1 H.size) (cwV 1 hts g_x_setOf_distinct_454 rfl rfl rfl hd_x_distinct ⟨Nat.le_of_ble_eq_true rfl, Nat.le_of_ble_eq_true rfl⟩) hK hG hA hP hD hS rfl hl.1 rfl (Nat.le_of_ble_eq_true rfl) dX12_setOf_2 ⟨Nat.le_refl _, Nat.le_refl _⟩ (fun H locs hP hD hS => ?_)
        refine lv_aload_n hx hb dX12_setOf_5 rfl (lv_at hl 0 rfl) ?_
        refine ng_59 hx hb hts in_x_setOf hown hK hP (hts _ (List.mem_cons_of_mem _ (List.mem_append_left _ (List.mem_append_left _ (List.mem_of_getElem? (i := 4) rfl))))) dX12_setOf_6 ?_
        refine lv_iload_n hx hb dX12_setOf_9 rfl (lv_at hl 1 rfl) ?_
        refine lv_isub hx hb dX12_setOf_10 ?_
        refine lv_istore_n (lv' := [(2, .int (((r1.2.1 59)) - ((L 1)))), (0, .ref (a 0)), (1, .int (L 1))]) hx hb dX12_setOf_11 rfl hl (by decide) rfl (fun ls hl => ?_)
        refine lv_aload_n hx hb dX12_setOf_12 rfl (lv_at hl 1 rfl) ?_
        refine lv_iload_n hx hb dX12_setOf_13 rfl (lv_at hl 2 rfl) ?_
        refine np_59 hx hb hts in_x_setOf hown hK hP hD hS (hts _ (List.mem_cons_of_mem _ (List.mem_append_left _ (List.mem_append_left _ (List.mem_of_getElem? (i := 4) rfl))))) dX12_setOf_14 (fun H locs hP hD hS => ?_)
        exact ih.2.1 (upd L 2 ((((r1.2.1 59)) - ((L 1))))) (upd r1.2.1 59 ((L 1)), r1.2.2.1, r1.2.2.2) r h H locs ls hP hD hS (lv_sub hl [1, 2, 0] rfl)
      · intro L σ r h H locs ls hP hD hS hl
        rw [x_setOf] at h
        refine lv_aload_n hx hb dX12_setOf_17 rfl (lv_at hl 0 rfl) ?_
        refine lv_bipush (v := 6) hx hb dX12_setOf_18 (by decide) ?_
        refine lv_iload_n hx hb dX12_setOf_20 rfl (lv_at hl 2 rfl) ?_
        obtain ⟨r1, hc1, h⟩ := ob_ex h
        refine nc_Vi (As := [.int 6, .int (L 2)]) (rest := []) ⟨hx, hb, hml, hown, hts⟩ (c_x_make l dC dI cy a k (upd (upd (fun _ => 0) 1 6) 2 ((L 2))) σ r1 hc1 H.size) (cwV 2 hts g_x_setOf_make_429 rfl rfl rfl hd_x_make ⟨Nat.le_of_ble_eq_true rfl, Nat.le_of_ble_eq_true rfl⟩) hK hG hA hP hD hS rfl hl.1 rfl (Nat.le_of_ble_eq_true rfl) dX12_setOf_21 ⟨Nat.le_refl _, Nat.le_refl _⟩ (fun H locs hP hD hS => ?_)
        refine lv_istore_n (lv' := [(3, .int r1.1), (0, .ref (a 0)), (1, .int (L 1)), (2, .int (L 2))]) hx hb dX12_setOf_24 rfl hl (by decide) rfl (fun ls hl => ?_)
        refine lv_aload_n hx hb dX12_setOf_25 rfl (lv_at hl 1 rfl) ?_
        refine ng_56 hx hb hts in_x_setOf hown hK hP (hts _ (List.mem_cons_of_mem _ (List.mem_append_left _ (List.mem_append_left _ (List.mem_of_getElem? (i := 8) rfl))))) dX12_setOf_26 ?_
        refine lv_if_le (tgt := 34) hx hb dX12_setOf_29 (by decide) (fun c2 => ?_) (fun c2 => ?_)
        · rw [if_pos c2] at h
          exact ih.2.2.1 (upd L 3 r1.1) r1.2 r h H locs ls hP hD hS (lv_sub hl [1, 2, 3, 0] rfl)
        · rw [if_neg c2] at h
          refine lv_iconst (v := 0) hx hb dX12_setOf_32 (by decide) ?_
          cases h
          exact W.iret (v := 0) hx hb hr (fun t ht hW => ⟨⟨0, (), rfl, rfl, by rw [ht]; exact hP, va_K.moved hW.alike hK, hD⟩, hS.F ht⟩) hS.2.2 dX12_setOf_33
      · intro L σ r h H locs ls hP hD hS hl
        rw [x_setOf] at h
        refine lv_iconst (v := 0) hx hb dX12_setOf_34 (by decide) ?_
        refine lv_istore (lv' := [(4, .int 0), (0, .ref (a 0)), (1, .int (L 1)), (2, .int (L 2)), (3, .int (L 3))]) hx hb dX12_setOf_35 hl (by decide) rfl (fun ls hl => ?_)
        exact ih.2.2.2.1 (upd L 4 0) σ r h H locs ls hP hD hS (lv_sub hl [1, 2, 3, 4, 0] rfl)
      · intro L σ r h H locs ls hP hD hS hl
        rw [x_setOf] at h
        refine lv_iload hx hb dX12_setOf_37 (lv_at hl 4 rfl) ?_
        refine lv_iload_n hx hb dX12_setOf_39 rfl (lv_at hl 2 rfl) ?_
        refine lv_icmp_ge (tgt := 69) hx hb dX12_setOf_40 (by decide) (fun c1 => ?_) (fun c1 => ?_)
        · rw [if_pos c1] at h
          exact ih.2.2.2.2.2 L σ r h H locs ls hP hD hS (lv_sub hl [0, 1, 2, 3, 4] rfl)
        · rw [if_neg c1] at h
          refine lv_aload_n hx hb dX12_setOf_43 rfl (lv_at hl 0 rfl) ?_
          refine ng_53 hx hb hts in_x_setOf hown hK hP (hts _ (List.mem_cons_of_mem _ (List.mem_append_left _ (List.mem_append_left _ (List.mem_of_getElem? (i := 9) rfl))))) dX12_setOf_44 ?_
          refine lv_iload_n hx hb dX12_setOf_47 rfl (lv_at hl 3 rfl) ?_
          refine lv_iconst (v := 4) hx hb dX12_setOf_48 (by decide) ?_
          refine lv_iadd hx hb dX12_setOf_49 ?_
          refine lv_iload hx hb dX12_setOf_50 (lv_at hl 4 rfl) ?_
          refine lv_iadd hx hb dX12_setOf_52 ?_
          refine lv_aload_n hx hb dX12_setOf_53 rfl (lv_at hl 0 rfl) ?_
          refine ng_58 hx hb hts in_x_setOf hown hK hP (hts _ (List.mem_cons_of_mem _ (List.mem_append_left _ (List.mem_append_left _ (List.mem_of_getElem? (i := 10) rfl))))) dX12_setOf_54 ?_
          refine lv_iload_n hx hb dX12_setOf_57 rfl (lv_at hl 1 rfl) ?_
          refine lv_iload hx hb dX12_setOf_58 (lv_at hl 4 rfl) ?_
          refine lv_iadd hx hb dX12_setOf_60 ?_
          obtain ⟨q2, h⟩ := nb_ite1 h
          refine nl_29 hx hb hK hP q2 dX12_setOf_61 ?_
          obtain ⟨q3, h⟩ := nb_ite1 h
          refine ns_28 hx hb hK hP hD hS q3 dX12_setOf_62 (fun H locs hP hD hS => ?_)
          exact ih.2.2.2.2.1 L (σ.1, σ.2.1, updG σ.2.2 28 (upd (σ.2.2 28) ((((((L 3)) + 4)) + ((L 4)))).toNatClampNeg ((σ.2.2 29 ((((L 1)) + ((L 4)))).toNatClampNeg)))) r h H locs ls hP hD hS (lv_sub hl [0, 1, 2, 3, 4] rfl)
      · intro L σ r h H locs ls hP hD hS hl
        rw [x_setOf] at h
        refine lv_iinc (v := ((L 4)) + 1) (lv' := [(4, .int (((L 4)) + 1)), (0, .ref (a 0)), (1, .int (L 1)), (2, .int (L 2)), (3, .int (L 3))]) hx hb dX12_setOf_63 hl (k := 4) rfl rfl (by decide) rfl (fun ls hl => ?_)
        refine lv_goto (tgt := 37) hx hb dX12_setOf_66 (by decide) ?_
        exact ih.2.2.2.1 (upd L 4 (((L 4)) + 1)) σ r h H locs ls hP hD hS (lv_sub hl [1, 2, 3, 4, 0] rfl)
      · intro L σ r h H locs ls hP hD hS hl
        rw [x_setOf] at h
        refine lv_aload_n hx hb dX12_setOf_69 rfl (lv_at hl 0 rfl) ?_
        refine lv_iload_n hx hb dX12_setOf_70 rfl (lv_at hl 3 rfl) ?_
        obtain ⟨r1, hc1, h⟩ := ob_ex h
        refine nc_Vi (As := [.int (L 3)]) (rest := []) ⟨hx, hb, hml, hown, hts⟩ (c_x_measured l dC dI cy a k (upd (fun _ => 0) 1 ((L 3))) σ r1 hc1 H.size) (cwV 1 hts g_x_setOf_measured_441 rfl rfl rfl hd_x_measured ⟨Nat.le_of_ble_eq_true rfl, Nat.le_of_ble_eq_true rfl⟩) hK hG hA hP hD hS rfl hl.1 rfl (Nat.le_of_ble_eq_true rfl) dX12_setOf_71 ⟨Nat.le_refl _, Nat.le_refl _⟩ (fun H locs hP hD hS => ?_)
        cases h
        exact W.iret (v := r1.1) hx hb hr (fun t ht hW => ⟨⟨r1.1, (), rfl, rfl, by rw [ht]; exact hP, va_K.moved hW.alike hK, hD⟩, hS.F ht⟩) hS.2.2 dX12_setOf_74
  exact (blk k0).1 L0 σ0 r0 h0 s.heap [] ls hP hD hS hl
/-! loadA -/
def x_loadA : Nat → Nat → (Nat → Int32) → MS → Option (Int32 × MS)
  | 0, _, _, _ => none
  | k + 1, 0, L, σ => if ¬ (((((L 1)) + 1)) < 0 ∨ 1740000 ≤ ((((L 1)) + 1)).toNatClampNeg) then (x_loadA k 1 L (upd σ.1 84 ((((σ.2.2 28 ((((L 1)) + 1)).toNatClampNeg)) - 1)), σ.2.1, σ.2.2)) else none
  | k + 1, 1, L, σ => x_loadA k 2 (upd L 2 0) σ
  | k + 1, 2, L, σ => if ((σ.1 84)) ≤ ((L 2)) then (x_loadA k 4 L σ) else (if ¬ (((((((L 1)) + 5)) + ((L 2)))) < 0 ∨ 1740000 ≤ ((((((L 1)) + 5)) + ((L 2)))).toNatClampNeg) then (if ¬ (((L 2)) < 0 ∨ 140 ≤ ((L 2)).toNatClampNeg) then (x_loadA k 3 L (σ.1, σ.2.1, updG σ.2.2 42 (upd (σ.2.2 42) ((L 2)).toNatClampNeg ((σ.2.2 28 ((((((L 1)) + 5)) + ((L 2)))).toNatClampNeg))))) else none) else none)
  | k + 1, 3, L, σ => x_loadA k 2 (upd L 2 (((L 2)) + 1)) σ
  | k + 1, 4, L, σ => some (0, σ)
  | _ + 1, _ + 5, _, _ => none
def o_x_loadA : List Cond := [.fieldLink RX12 372 "SetHouseModel" "heap" "[I", .fieldLink RX12 466 "SetHouseModel" "na" "I", .fieldLink RX12 469 "SetHouseModel" "ra" "[I"]
theorem o_x_loadA_good : o_x_loadA.all goodWord = true := by decide +kernel
def p_x_loadA : List Cond := o_x_loadA ++ []
theorem p_x_loadA_good : p_x_loadA.all goodWord = true := nb_all2 o_x_loadA_good rfl
def w_x_loadA : List Cond := .code yX12_loadA cX12_loadA 3 none :: (p_x_loadA ++ fM)
theorem w_x_loadA_good : w_x_loadA.all goodWord = true := nb_allc (by decide +kernel) (nb_all2 p_x_loadA_good fM_good)
theorem in_x_loadA : ∀ w ∈ wsX120, w ∈ w_x_loadA := fun _ h => List.mem_cons_of_mem _ (List.mem_append_right _ h)
theorem hd_x_loadA : yX12_loadA.cls = RX12 ∧ yX12_loadA.cls ≠ "java/lang/invoke/MethodHandle" ∧ yX12_loadA.cls ≠ "java/lang/invoke/VarHandle" ∧ (parseMethodDescriptor yX12_loadA.desc).map (fun d => d.parameters.length) = some 1 := by decide +kernel
set_option maxHeartbeats 40000000 in
set_option maxRecDepth 100000 in
theorem c_x_loadA (l : Launch) (dC : Nat → ClassId) (dI : Nat → Nat → Nat) (cy : Nat → ClassId) (a : Nat → Nat) (k0 : Nat) (L0 : Nat → Int32) (σ0 : MS) (r0 : Int32 × MS) (h0 : x_loadA k0 0 L0 σ0 = some r0) (sz : Nat) : Met l yX12_loadA w_x_loadA ({ frames := 0, cells := 0, slots := 0, locals := 0 }) (va_Pc [.ref (a 0), .int (L0 1)] (nIn (dC, dI) cy sz (vM cy a σ0))) (va_Qv (fun _ : Unit => True) (fun _ t => nOut (dC, dI) cy (va_A (vM cy a σ0) sz) (vM cy a r0.2) t) (va_A (vM cy a σ0) sz)) 0 0 (va_A (vM cy a σ0) sz) := by
  refine Met.ofW (cc := cX12_loadA) (maxL := 3) (ret := none) (by decide) rfl ?_
  intro p e s m args below meth c s₁ B hml hv
  obtain ⟨rfl, hsz, hP, hK, hD0, hG⟩ := hv
  have hx := B.exec
  have hb := B.bytes
  have hr := B.returns
  have hts := atoms_spec (ws := w_x_loadA) B.pre
  have hown : s.vm.findClass RX12 = some m.cls := findClass_of_methodNamed B.named
  have hlocks := B.notSynchronized
  subst hsz
  have hD := hD0.self (sz := s.heap.size)
  generalize hAe : va_A (vM cy a σ0) s.heap.size = A at hD ⊢
  have hA : ∀ q : Nat, s.heap.size ≤ q → A q := fun q h => by rw [← hAe]; exact Or.inr h
  have hS : va_S A s.heap s.heap [] := va_S.rf
  have hl := lv_entry ([.ref (a 0), .int (L0 1)]) (n := 3) (Nat.le_of_ble_eq_true rfl)
  rw [lg_entry_eq]
  generalize (lg_sl ([.ref (a 0), .int (L0 1)]) ++ List.replicate (3 - (lg_sl ([.ref (a 0), .int (L0 1)])).length) Slot.unset).toArray = ls at hl ⊢
  have hl : lv_has ls 3 [(0, .ref (a 0)), (1, .int (L0 1))] := hl
  have blk : ∀ k : Nat, (bT p l e (headSpec w_x_loadA ({ frames := 0, cells := 0, slots := 0, locals := 0 })).room s m #[.ref (a 0), .int (L0 1)] below meth c dC dI cy a A (qV dC dI cy a A below #[.ref (a 0), .int (L0 1)] s) 3 (x_loadA k 0) (fun L => [(0, .ref (a 0)), (1, .int (L 1))]) 0 (fun L => [])) ∧ (bT p l e (headSpec w_x_loadA ({ frames := 0, cells := 0, slots := 0, locals := 0 })).room s m #[.ref (a 0), .int (L0 1)] below meth c dC dI cy a A (qV dC dI cy a A below #[.ref (a 0), .int (L0 1)] s) 3 (x_loadA k 1) (fun L => [(0, .ref (a 0)), (1, .int (L 1))]) 14 (fun L => [])) ∧ (bT p l e (headSpec w_x_loadA ({ frames := 0, cells := 0, slots := 0, locals := 0 })).room s m #[.ref (a 0), .int (L0 1)] below meth c dC dI cy a A (qV dC dI cy a A below #[.ref (a 0), .int (L0 1)] s) 3 (x_loadA k 2) (fun L => [(0, .ref (a 0)), (1, .int (L 1)), (2, .int (L 2))]) 16 (fun L => [])) ∧ (bT p l e (headSpec w_x_loadA ({ frames := 0, cells := 0, slots := 0, locals := 0 })).room s m #[.ref (a 0), .int (L0 1)] below meth c dC dI cy a A (qV dC dI cy a A below #[.ref (a 0), .int (L0 1)] s) 3 (x_loadA k 3) (fun L => [(0, .ref (a 0)), (1, .int (L 1)), (2, .int (L 2))]) 40 (fun L => [])) ∧ (bT p l e (headSpec w_x_loadA ({ frames := 0, cells := 0, slots := 0, locals := 0 })).room s m #[.ref (a 0), .int (L0 1)] below meth c dC dI cy a A (qV dC dI cy a A below #[.ref (a 0), .int (L0 1)] s) 3 (x_loadA k 4) (fun L => [(0, .ref (a 0)), (1, .int (L 1)), (2, .int (L 2))]) 46 (fun L => [])) := by
    intro k
    induction k with
    | zero => exact ⟨fun L σ r h => (by cases h), fun L σ r h => (by cases h), fun L σ r h => (by cases h), fun L σ r h => (by cases h), fun L σ r h => (by cases h)⟩
    | succ k ih =>
      refine ⟨?_, ?_, ?_, ?_, ?_⟩
      · intro L σ r h H locs ls hP hD hS hl
        rw [x_loadA] at h
        refine lv_aload_n hx hb dX12_loadA_0 rfl (lv_at hl 0 rfl) ?_
        refine lv_aload_n hx hb dX12_loadA_1 rfl (lv_at hl 0 rfl) ?_
        refine ng_53 hx hb hts in_x_loadA hown hK hP (hts _ (List.mem_cons_of_mem _ (List.mem_append_left _ (List.mem_append_left _ (List.mem_of_getElem? (i := 0) rfl))))) dX12_loadA_2 ?_
        refine lv_iload_n hx hb dX12_loadA_5 rfl (lv_at hl 1 rfl) ?_
        refine lv_iconst (v := 1) hx hb dX12_loadA_6 (by decide) ?_
        refine lv_iadd hx hb dX12_loadA_7 ?_
        obtain ⟨q1, h⟩ := nb_ite1 h
        refine nl_28 hx hb hK hP q1 dX12_loadA_8 ?_
        refine lv_iconst (v := 1) hx hb dX12_loadA_9 (by decide) ?_
        refine lv_isub hx hb dX12_loadA_10 ?_
        refine np_84 hx hb hts in_x_loadA hown hK hP hD hS (hts _ (List.mem_cons_of_mem _ (List.mem_append_left _ (List.mem_append_left _ (List.mem_of_getElem? (i := 1) rfl))))) dX12_loadA_11 (fun H locs hP hD hS => ?_)
        exact ih.2.1 L (upd σ.1 84 ((((σ.2.2 28 ((((L 1)) + 1)).toNatClampNeg)) - 1)), σ.2.1, σ.2.2) r h H locs ls hP hD hS (lv_sub hl [0, 1] rfl)
      · intro L σ r h H locs ls hP hD hS hl
        rw [x_loadA] at h
        refine lv_iconst (v := 0) hx hb dX12_loadA_14 (by decide) ?_
        refine lv_istore_n (lv' := [(2, .int 0), (0, .ref (a 0)), (1, .int (L 1))]) hx hb dX12_loadA_15 rfl hl (by decide) rfl (fun ls hl => ?_)
        exact ih.2.2.1 (upd L 2 0) σ r h H locs ls hP hD hS (lv_sub hl [1, 2, 0] rfl)
      · intro L σ r h H locs ls hP hD hS hl
        rw [x_loadA] at h
        refine lv_iload_n hx hb dX12_loadA_16 rfl (lv_at hl 2 rfl) ?_
        refine lv_aload_n hx hb dX12_loadA_17 rfl (lv_at hl 0 rfl) ?_
        refine ng_84 hx hb hts in_x_loadA hown hK hP (hts _ (List.mem_cons_of_mem _ (List.mem_append_left _ (List.mem_append_left _ (List.mem_of_getElem? (i := 1) rfl))))) dX12_loadA_18 ?_
        refine lv_icmp_ge (tgt := 46) hx hb dX12_loadA_21 (by decide) (fun c1 => ?_) (fun c1 => ?_)
        · rw [if_pos c1] at h
          exact ih.2.2.2.2 L σ r h H locs ls hP hD hS (lv_sub hl [0, 1, 2] rfl)
        · rw [if_neg c1] at h
          refine lv_aload_n hx hb dX12_loadA_24 rfl (lv_at hl 0 rfl) ?_
          refine ng_81 hx hb hts in_x_loadA hown hK hP (hts _ (List.mem_cons_of_mem _ (List.mem_append_left _ (List.mem_append_left _ (List.mem_of_getElem? (i := 2) rfl))))) dX12_loadA_25 ?_
          refine lv_iload_n hx hb dX12_loadA_28 rfl (lv_at hl 2 rfl) ?_
          refine lv_aload_n hx hb dX12_loadA_29 rfl (lv_at hl 0 rfl) ?_
          refine ng_53 hx hb hts in_x_loadA hown hK hP (hts _ (List.mem_cons_of_mem _ (List.mem_append_left _ (List.mem_append_left _ (List.mem_of_getElem? (i := 0) rfl))))) dX12_loadA_30 ?_
          refine lv_iload_n hx hb dX12_loadA_33 rfl (lv_at hl 1 rfl) ?_
          refine lv_iconst (v := 5) hx hb dX12_loadA_34 (by decide) ?_
          refine lv_iadd hx hb dX12_loadA_35 ?_
          refine lv_iload_n hx hb dX12_loadA_36 rfl (lv_at hl 2 rfl) ?_
          refine lv_iadd hx hb dX12_loadA_37 ?_
          obtain ⟨q2, h⟩ := nb_ite1 h
          refine nl_28 hx hb hK hP q2 dX12_loadA_38 ?_
          obtain ⟨q3, h⟩ := nb_ite1 h
          refine ns_42 hx hb hK hP hD hS q3 dX12_loadA_39 (fun H locs hP hD hS => ?_)
          exact ih.2.2.2.1 L (σ.1, σ.2.1, updG σ.2.2 42 (upd (σ.2.2 42) ((L 2)).toNatClampNeg ((σ.2.2 28 ((((((L 1)) + 5)) + ((L 2)))).toNatClampNeg)))) r h H locs ls hP hD hS (lv_sub hl [0, 1, 2] rfl)
      · intro L σ r h H locs ls hP hD hS hl
        rw [x_loadA] at h
        refine lv_iinc (v := ((L 2)) + 1) (lv' := [(2, .int (((L 2)) + 1)), (0, .ref (a 0)), (1, .int (L 1))]) hx hb dX12_loadA_40 hl (k := 2) rfl rfl (by decide) rfl (fun ls hl => ?_)
        refine lv_goto (tgt := 16) hx hb dX12_loadA_43 (by decide) ?_
        exact ih.2.2.1 (upd L 2 (((L 2)) + 1)) σ r h H locs ls hP hD hS (lv_sub hl [1, 2, 0] rfl)
      · intro L σ r h H locs ls hP hD hS hl
        rw [x_loadA] at h
        cases h
        exact W.vret hx hb hr (fun t ht hW => ⟨⟨(), rfl, trivial, by rw [ht]; exact hP, va_K.moved hW.alike hK, hD⟩, hS.F ht⟩) hS.2.2 dX12_loadA_46
  exact (blk k0).1 L0 σ0 r0 h0 s.heap [] ls hP hD hS hl
/-! loadB -/
def x_loadB : Nat → Nat → (Nat → Int32) → MS → Option (Int32 × MS)
  | 0, _, _, _ => none
  | k + 1, 0, L, σ => if ¬ (((((L 1)) + 1)) < 0 ∨ 1740000 ≤ ((((L 1)) + 1)).toNatClampNeg) then (x_loadB k 1 L (upd σ.1 85 ((((σ.2.2 28 ((((L 1)) + 1)).toNatClampNeg)) - 1)), σ.2.1, σ.2.2)) else none
  | k + 1, 1, L, σ => x_loadB k 2 (upd L 2 0) σ
  | k + 1, 2, L, σ => if ((σ.1 85)) ≤ ((L 2)) then (x_loadB k 4 L σ) else (if ¬ (((((((L 1)) + 5)) + ((L 2)))) < 0 ∨ 1740000 ≤ ((((((L 1)) + 5)) + ((L 2)))).toNatClampNeg) then (if ¬ (((L 2)) < 0 ∨ 140 ≤ ((L 2)).toNatClampNeg) then (x_loadB k 3 L (σ.1, σ.2.1, updG σ.2.2 43 (upd (σ.2.2 43) ((L 2)).toNatClampNeg ((σ.2.2 28 ((((((L 1)) + 5)) + ((L 2)))).toNatClampNeg))))) else none) else none)
  | k + 1, 3, L, σ => x_loadB k 2 (upd L 2 (((L 2)) + 1)) σ
  | k + 1, 4, L, σ => some (0, σ)
  | _ + 1, _ + 5, _, _ => none
def o_x_loadB : List Cond := [.fieldLink RX12 372 "SetHouseModel" "heap" "[I", .fieldLink RX12 472 "SetHouseModel" "nb" "I", .fieldLink RX12 475 "SetHouseModel" "rb" "[I"]
theorem o_x_loadB_good : o_x_loadB.all goodWord = true := by decide +kernel
def p_x_loadB : List Cond := o_x_loadB ++ []
theorem p_x_loadB_good : p_x_loadB.all goodWord = true := nb_all2 o_x_loadB_good rfl
def w_x_loadB : List Cond := .code yX12_loadB cX12_loadB 3 none :: (p_x_loadB ++ fM)
theorem w_x_loadB_good : w_x_loadB.all goodWord = true := nb_allc (by decide +kernel) (nb_all2 p_x_loadB_good fM_good)
theorem in_x_loadB : ∀ w ∈ wsX120, w ∈ w_x_loadB := fun _ h => List.mem_cons_of_mem _ (List.mem_append_right _ h)
theorem hd_x_loadB : yX12_loadB.cls = RX12 ∧ yX12_loadB.cls ≠ "java/lang/invoke/MethodHandle" ∧ yX12_loadB.cls ≠ "java/lang/invoke/VarHandle" ∧ (parseMethodDescriptor yX12_loadB.desc).map (fun d => d.parameters.length) = some 1 := by decide +kernel
set_option maxHeartbeats 40000000 in
set_option maxRecDepth 100000 in
theorem c_x_loadB (l : Launch) (dC : Nat → ClassId) (dI : Nat → Nat → Nat) (cy : Nat → ClassId) (a : Nat → Nat) (k0 : Nat) (L0 : Nat → Int32) (σ0 : MS) (r0 : Int32 × MS) (h0 : x_loadB k0 0 L0 σ0 = some r0) (sz : Nat) : Met l yX12_loadB w_x_loadB ({ frames := 0, cells := 0, slots := 0, locals := 0 }) (va_Pc [.ref (a 0), .int (L0 1)] (nIn (dC, dI) cy sz (vM cy a σ0))) (va_Qv (fun _ : Unit => True) (fun _ t => nOut (dC, dI) cy (va_A (vM cy a σ0) sz) (vM cy a r0.2) t) (va_A (vM cy a σ0) sz)) 0 0 (va_A (vM cy a σ0) sz) := by
  refine Met.ofW (cc := cX12_loadB) (maxL := 3) (ret := none) (by decide) rfl ?_
  intro p e s m args below meth c s₁ B hml hv
  obtain ⟨rfl, hsz, hP, hK, hD0, hG⟩ := hv
  have hx := B.exec
  have hb := B.bytes
  have hr := B.returns
  have hts := atoms_spec (ws := w_x_loadB) B.pre
  have hown : s.vm.findClass RX12 = some m.cls := findClass_of_methodNamed B.named
  have hlocks := B.notSynchronized
  subst hsz
  have hD := hD0.self (sz := s.heap.size)
  generalize hAe : va_A (vM cy a σ0) s.heap.size = A at hD ⊢
  have hA : ∀ q : Nat, s.heap.size ≤ q → A q := fun q h => by rw [← hAe]; exact Or.inr h
  have hS : va_S A s.heap s.heap [] := va_S.rf
  have hl := lv_entry ([.ref (a 0), .int (L0 1)]) (n := 3) (Nat.le_of_ble_eq_true rfl)
  rw [lg_entry_eq]
  generalize (lg_sl ([.ref (a 0), .int (L0 1)]) ++ List.replicate (3 - (lg_sl ([.ref (a 0), .int (L0 1)])).length) Slot.unset).toArray = ls at hl ⊢
  have hl : lv_has ls 3 [(0, .ref (a 0)), (1, .int (L0 1))] := hl
  have blk : ∀ k : Nat, (bT p l e (headSpec w_x_loadB ({ frames := 0, cells := 0, slots := 0, locals := 0 })).room s m #[.ref (a 0), .int (L0 1)] below meth c dC dI cy a A (qV dC dI cy a A below #[.ref (a 0), .int (L0 1)] s) 3 (x_loadB k 0) (fun L => [(0, .ref (a 0)), (1, .int (L 1))]) 0 (fun L => [])) ∧ (bT p l e (headSpec w_x_loadB ({ frames := 0, cells := 0, slots := 0, locals := 0 })).room s m #[.ref (a 0), .int (L0 1)] below meth c dC dI cy a A (qV dC dI cy a A below #[.ref (a 0), .int (L0 1)] s) 3 (x_loadB k 1) (fun L => [(0, .ref (a 0)), (1, .int (L 1))]) 14 (fun L => [])) ∧ (bT p l e (headSpec w_x_loadB ({ frames := 0, cells := 0, slots := 0, locals := 0 })).room s m #[.ref (a 0), .int (L0 1)] below meth c dC dI cy a A (qV dC dI cy a A below #[.ref (a 0), .int (L0 1)] s) 3 (x_loadB k 2) (fun L => [(0, .ref (a 0)), (1, .int (L 1)), (2, .int (L 2))]) 16 (fun L => [])) ∧ (bT p l e (headSpec w_x_loadB ({ frames := 0, cells := 0, slots := 0, locals := 0 })).room s m #[.ref (a 0), .int (L0 1)] below meth c dC dI cy a A (qV dC dI cy a A below #[.ref (a 0), .int (L0 1)] s) 3 (x_loadB k 3) (fun L => [(0, .ref (a 0)), (1, .int (L 1)), (2, .int (L 2))]) 40 (fun L => [])) ∧ (bT p l e (headSpec w_x_loadB ({ frames := 0, cells := 0, slots := 0, locals := 0 })).room s m #[.ref (a 0), .int (L0 1)] below meth c dC dI cy a A (qV dC dI cy a A below #[.ref (a 0), .int (L0 1)] s) 3 (x_loadB k 4) (fun L => [(0, .ref (a 0)), (1, .int (L 1)), (2, .int (L 2))]) 46 (fun L => [])) := by
    intro k
    induction k with
    | zero => exact ⟨fun L σ r h => (by cases h), fun L σ r h => (by cases h), fun L σ r h => (by cases h), fun L σ r h => (by cases h), fun L σ r h => (by cases h)⟩
    | succ k ih =>
      refine ⟨?_, ?_, ?_, ?_, ?_⟩
      · intro L σ r h H locs ls hP hD hS hl
        rw [x_loadB] at h
        refine lv_aload_n hx hb dX12_loadB_0 rfl (lv_at hl 0 rfl) ?_
        refine lv_aload_n hx hb dX12_loadB_1 rfl (lv_at hl 0 rfl) ?_
        refine ng_53 hx hb hts in_x_loadB hown hK hP (hts _ (List.mem_cons_of_mem _ (List.mem_append_left _ (List.mem_append_left _ (List.mem_of_getElem? (i := 0) rfl))))) dX12_loadB_2 ?_
        refine lv_iload_n hx hb dX12_loadB_5 rfl (lv_at hl 1 rfl) ?_
        refine lv_iconst (v := 1) hx hb dX12_loadB_6 (by decide) ?_
        refine lv_iadd hx hb dX12_loadB_7 ?_
        obtain ⟨q1, h⟩ := nb_ite1 h
        refine nl_28 hx hb hK hP q1 dX12_loadB_8 ?_
        refine lv_iconst (v := 1) hx hb dX12_loadB_9 (by decide) ?_
        refine lv_isub hx hb dX12_loadB_10 ?_
        refine np_85 hx hb hts in_x_loadB hown hK hP hD hS (hts _ (List.mem_cons_of_mem _ (List.mem_append_left _ (List.mem_append_left _ (List.mem_of_getElem? (i := 1) rfl))))) dX12_loadB_11 (fun H locs hP hD hS => ?_)
        exact ih.2.1 L (upd σ.1 85 ((((σ.2.2 28 ((((L 1)) + 1)).toNatClampNeg)) - 1)), σ.2.1, σ.2.2) r h H locs ls hP hD hS (lv_sub hl [0, 1] rfl)
      · intro L σ r h H locs ls hP hD hS hl
        rw [x_loadB] at h
        refine lv_iconst (v := 0) hx hb dX12_loadB_14 (by decide) ?_
        refine lv_istore_n (lv' := [(2, .int 0), (0, .ref (a 0)), (1, .int (L 1))]) hx hb dX12_loadB_15 rfl hl (by decide) rfl (fun ls hl => ?_)
        exact ih.2.2.1 (upd L 2 0) σ r h H locs ls hP hD hS (lv_sub hl [1, 2, 0] rfl)
      · intro L σ r h H locs ls hP hD hS hl
        rw [x_loadB] at h
        refine lv_iload_n hx hb dX12_loadB_16 rfl (lv_at hl 2 rfl) ?_
        refine lv_aload_n hx hb dX12_loadB_17 rfl (lv_at hl 0 rfl) ?_
        refine ng_85 hx hb hts in_x_loadB hown hK hP (hts _ (List.mem_cons_of_mem _ (List.mem_append_left _ (List.mem_append_left _ (List.mem_of_getElem? (i := 1) rfl))))) dX12_loadB_18 ?_
        refine lv_icmp_ge (tgt := 46) hx hb dX12_loadB_21 (by decide) (fun c1 => ?_) (fun c1 => ?_)
        · rw [if_pos c1] at h
          exact ih.2.2.2.2 L σ r h H locs ls hP hD hS (lv_sub hl [0, 1, 2] rfl)
        · rw [if_neg c1] at h
          refine lv_aload_n hx hb dX12_loadB_24 rfl (lv_at hl 0 rfl) ?_
          refine ng_82 hx hb hts in_x_loadB hown hK hP (hts _ (List.mem_cons_of_mem _ (List.mem_append_left _ (List.mem_append_left _ (List.mem_of_getElem? (i := 2) rfl))))) dX12_loadB_25 ?_
          refine lv_iload_n hx hb dX12_loadB_28 rfl (lv_at hl 2 rfl) ?_
          refine lv_aload_n hx hb dX12_loadB_29 rfl (lv_at hl 0 rfl) ?_
          refine ng_53 hx hb hts in_x_loadB hown hK hP (hts _ (List.mem_cons_of_mem _ (List.mem_append_left _ (List.mem_append_left _ (List.mem_of_getElem? (i := 0) rfl))))) dX12_loadB_30 ?_
          refine lv_iload_n hx hb dX12_loadB_33 rfl (lv_at hl 1 rfl) ?_
          refine lv_iconst (v := 5) hx hb dX12_loadB_34 (by decide) ?_
          refine lv_iadd hx hb dX12_loadB_35 ?_
          refine lv_iload_n hx hb dX12_loadB_36 rfl (lv_at hl 2 rfl) ?_
          refine lv_iadd hx hb dX12_loadB_37 ?_
          obtain ⟨q2, h⟩ := nb_ite1 h
          refine nl_28 hx hb hK hP q2 dX12_loadB_38 ?_
          obtain ⟨q3, h⟩ := nb_ite1 h
          refine ns_43 hx hb hK hP hD hS q3 dX12_loadB_39 (fun H locs hP hD hS => ?_)
          exact ih.2.2.2.1 L (σ.1, σ.2.1, updG σ.2.2 43 (upd (σ.2.2 43) ((L 2)).toNatClampNeg ((σ.2.2 28 ((((((L 1)) + 5)) + ((L 2)))).toNatClampNeg)))) r h H locs ls hP hD hS (lv_sub hl [0, 1, 2] rfl)
      · intro L σ r h H locs ls hP hD hS hl
        rw [x_loadB] at h
        refine lv_iinc (v := ((L 2)) + 1) (lv' := [(2, .int (((L 2)) + 1)), (0, .ref (a 0)), (1, .int (L 1))]) hx hb dX12_loadB_40 hl (k := 2) rfl rfl (by decide) rfl (fun ls hl => ?_)
        refine lv_goto (tgt := 16) hx hb dX12_loadB_43 (by decide) ?_
        exact ih.2.2.1 (upd L 2 (((L 2)) + 1)) σ r h H locs ls hP hD hS (lv_sub hl [1, 2, 0] rfl)
      · intro L σ r h H locs ls hP hD hS hl
        rw [x_loadB] at h
        cases h
        exact W.vret hx hb hr (fun t ht hW => ⟨⟨(), rfl, trivial, by rw [ht]; exact hP, va_K.moved hW.alike hK, hD⟩, hS.F ht⟩) hS.2.2 dX12_loadB_46
  exact (blk k0).1 L0 σ0 r0 h0 s.heap [] ls hP hD hS hl
/-! wholeOf -/
def x_wholeOf : Nat → Nat → (Nat → Int32) → MS → Option (Int32 × MS)
  | 0, _, _, _ => none
  | k + 1, 0, L, σ => if ((σ.1 86)) ≤ 0 then (x_wholeOf k 1 L σ) else (if ¬ (((((σ.1 86)) - 1)) < 0 ∨ 300 ≤ ((((σ.1 86)) - 1)).toNatClampNeg) then (if ((σ.2.2 44 ((((σ.1 86)) - 1)).toNatClampNeg)) = 0 then (x_wholeOf k 0 L (upd σ.1 86 ((((σ.1 86)) - 1)), σ.2.1, σ.2.2)) else (x_wholeOf k 1 L σ)) else none)
  | k + 1, 1, L, σ => if ((σ.1 86)) ≤ 64 then (x_wholeOf k 2 L σ) else (ob (x_fail k 0 (upd (fun _ => 0) 1 5) σ) (fun r2 => some (0, r2.2)))
  | k + 1, 2, L, σ => ob (x_make k 0 (upd (upd (fun _ => 0) 1 2) 2 ((((σ.1 86)) + 1))) σ) (fun r1 => if ((r1.2.1 56)) ≤ 0 then (x_wholeOf k 3 (upd L 2 r1.1) r1.2) else (some (0, r1.2)))
  | k + 1, 3, L, σ => if ((σ.1 86)) = 0 then (x_wholeOf k 5 (upd (upd L 100 0) 101 ((((L 2)) + 4))) σ) else (x_wholeOf k 4 (upd L 100 ((((L 2)) + 4))) σ)
  | k + 1, 4, L, σ => x_wholeOf k 5 (upd (upd L 100 ((L 1))) 101 ((L 100))) σ
  | k + 1, 5, L, σ => if ¬ (((L 101)) < 0 ∨ 1740000 ≤ ((L 101)).toNatClampNeg) then (x_wholeOf k 6 L (σ.1, σ.2.1, updG σ.2.2 28 (upd (σ.2.2 28) ((L 101)).toNatClampNeg ((L 100))))) else none
  | k + 1, 6, L, σ => x_wholeOf k 7 (upd L 3 0) σ
  | k + 1, 7, L, σ => if ((σ.1 86)) ≤ ((L 3)) then (x_wholeOf k 9 L σ) else (if ¬ (((L 3)) < 0 ∨ 300 ≤ ((L 3)).toNatClampNeg) then (if ¬ (((((((L 2)) + 5)) + ((L 3)))) < 0 ∨ 1740000 ≤ ((((((L 2)) + 5)) + ((L 3)))).toNatClampNeg) then (x_wholeOf k 8 L (σ.1, σ.2.1, updG σ.2.2 28 (upd (σ.2.2 28) ((((((L 2)) + 5)) + ((L 3)))).toNatClampNeg ((σ.2.2 44 ((L 3)).toNatClampNeg))))) else none) else none)
  | k + 1, 8, L, σ => x_wholeOf k 7 (upd L 3 (((L 3)) + 1)) σ
  | k + 1, 9, L, σ => if (2 : Int32) = 0 then none else (if ¬ (((((L 2)) + 2)) < 0 ∨ 1740000 ≤ ((((L 2)) + 2)).toNatClampNeg) then (x_wholeOf k 10 L (σ.1, σ.2.1, updG σ.2.2 28 (upd (σ.2.2 28) ((((L 2)) + 2)).toNatClampNeg ((1 + ((((((σ.1 86)) + 1)) / 2))))))) else none)
  | k + 1, 10, L, σ => some ((L 2), σ)
  | _ + 1, _ + 11, _, _ => none
def o_x_wholeOf : List Cond := [.fieldLink RX12 478 "SetHouseModel" "nc" "I", .fieldLink RX12 481 "SetHouseModel" "rc" "[I", .methodLink RX12 369 yX12_fail, .instanceMethod yX12_fail, .selects RX12 yX12_fail yX12_fail, .initialized RX12, .methodLink RX12 429 yX12_make, .instanceMethod yX12_make, .selects RX12 yX12_make yX12_make, .fieldLink RX12 362 "SetHouseModel" "err" "I", .fieldLink RX12 372 "SetHouseModel" "heap" "[I"]
theorem o_x_wholeOf_good : o_x_wholeOf.all goodWord = true := by decide +kernel
def p_x_wholeOf : List Cond := o_x_wholeOf ++ ((.code yX12_fail cX12_fail 2 none :: p_x_fail) ++ ((.code yX12_make cX12_make 4 (some .int) :: p_x_make) ++ []))
theorem p_x_wholeOf_good : p_x_wholeOf.all goodWord = true := nb_all2 o_x_wholeOf_good (nb_all2 (nb_allc (by decide +kernel) p_x_fail_good) (nb_all2 (nb_allc (by decide +kernel) p_x_make_good) rfl))
def w_x_wholeOf : List Cond := .code yX12_wholeOf cX12_wholeOf 4 (some .int) :: (p_x_wholeOf ++ fM)
theorem w_x_wholeOf_good : w_x_wholeOf.all goodWord = true := nb_allc (by decide +kernel) (nb_all2 p_x_wholeOf_good fM_good)
theorem in_x_wholeOf : ∀ w ∈ wsX120, w ∈ w_x_wholeOf := fun _ h => List.mem_cons_of_mem _ (List.mem_append_right _ h)
theorem hd_x_wholeOf : yX12_wholeOf.cls = RX12 ∧ yX12_wholeOf.cls ≠ "java/lang/invoke/MethodHandle" ∧ yX12_wholeOf.cls ≠ "java/lang/invoke/VarHandle" ∧ (parseMethodDescriptor yX12_wholeOf.desc).map (fun d => d.parameters.length) = some 1 := by decide +kernel
theorem gg_x_wholeOf_fail : GoodIn w_x_wholeOf w_x_fail := goodIn_sub (fun w h => (List.mem_cons.mp h).elim (fun e => (List.mem_cons_of_mem _ (List.mem_append_left _ (List.mem_append_right _ (List.mem_append_left _ (List.mem_cons.mpr (Or.inl e))))))) (fun h => (List.mem_append.mp h).elim (fun h => (List.mem_cons_of_mem _ (List.mem_append_left _ (List.mem_append_right _ (List.mem_append_left _ (List.mem_cons_of_mem _ h)))))) (fun h => List.mem_cons_of_mem _ (List.mem_append_right _ h)))) w_x_fail_good
theorem g_x_wholeOf_fail_369 : GoodIn w_x_wholeOf (wsV RX12 369 RX12 yX12_fail w_x_fail) := goodIn_app (nb_g4 (List.mem_cons_of_mem _ (List.mem_append_left _ (List.mem_append_left _ (List.mem_of_getElem? (i := 2) rfl)))) (List.mem_cons_of_mem _ (List.mem_append_left _ (List.mem_append_left _ (List.mem_of_getElem? (i := 3) rfl)))) (List.mem_cons_of_mem _ (List.mem_append_left _ (List.mem_append_left _ (List.mem_of_getElem? (i := 4) rfl)))) (List.mem_cons_of_mem _ (List.mem_append_left _ (List.mem_append_left _ (List.mem_of_getElem? (i := 5) rfl)))) (by decide +kernel)) gg_x_wholeOf_fail
theorem gg_x_wholeOf_make : GoodIn w_x_wholeOf w_x_make := goodIn_sub (fun w h => (List.mem_cons.mp h).elim (fun e => (List.mem_cons_of_mem _ (List.mem_append_left _ (List.mem_append_right _ (List.mem_append_right _ (List.mem_append_left _ (List.mem_cons.mpr (Or.inl e)))))))) (fun h => (List.mem_append.mp h).elim (fun h => (List.mem_cons_of_mem _ (List.mem_append_left _ (List.mem_append_right _ (List.mem_append_right _ (List.mem_append_left _ (List.mem_cons_of_mem _ h))))))) (fun h => List.mem_cons_of_mem _ (List.mem_append_right _ h)))) w_x_make_good
theorem g_x_wholeOf_make_429 : GoodIn w_x_wholeOf (wsV RX12 429 RX12 yX12_make w_x_make) := goodIn_app (nb_g4 (List.mem_cons_of_mem _ (List.mem_append_left _ (List.mem_append_left _ (List.mem_of_getElem? (i := 6) rfl)))) (List.mem_cons_of_mem _ (List.mem_append_left _ (List.mem_append_left _ (List.mem_of_getElem? (i := 7) rfl)))) (List.mem_cons_of_mem _ (List.mem_append_left _ (List.mem_append_left _ (List.mem_of_getElem? (i := 8) rfl)))) (List.mem_cons_of_mem _ (List.mem_append_left _ (List.mem_append_left _ (List.mem_of_getElem? (i := 5) rfl)))) (by decide +kernel)) gg_x_wholeOf_make
set_option maxHeartbeats 40000000 in
set_option maxRecDepth 100000 in
theorem c_x_wholeOf (l : Launch) (dC : Nat → ClassId) (dI : Nat → Nat → Nat) (cy : Nat → ClassId) (a : Nat → Nat) (k0 : Nat) (L0 : Nat → Int32) (σ0 : MS) (r0 : Int32 × MS) (h0 : x_wholeOf k0 0 L0 σ0 = some r0) (sz : Nat) : Met l yX12_wholeOf w_x_wholeOf ({ frames := 2, cells := 0, slots := 0, locals := 44 }) (va_Pc [.ref (a 0), .int (L0 1)] (nIn (dC, dI) cy sz (vM cy a σ0))) (va_Qi (fun (z : Int32) (_ : Unit) => z = r0.1) (fun _ t => nOut (dC, dI) cy (va_A (vM cy a σ0) sz) (vM cy a r0.2) t) (va_A (vM cy a σ0) sz)) 0 0 (va_A (vM cy a σ0) sz) := by
  refine Met.ofW (cc := cX12_wholeOf) (maxL := 4) (ret := (some .int)) (by decide) rfl ?_
  intro p e s m args below meth c s₁ B hml hv
  obtain ⟨rfl, hsz, hP, hK, hD0, hG⟩ := hv
  have hx := B.exec
  have hb := B.bytes
  have hr := B.returns
  have hts := atoms_spec (ws := w_x_wholeOf) B.pre
  have hown : s.vm.findClass RX12 = some m.cls := findClass_of_methodNamed B.named
  have hlocks := B.notSynchronized
  subst hsz
  have hD := hD0.self (sz := s.heap.size)
  generalize hAe : va_A (vM cy a σ0) s.heap.size = A at hD ⊢
  have hA : ∀ q : Nat, s.heap.size ≤ q → A q := fun q h => by rw [← hAe]; exact Or.inr h
  have hS : va_S A s.heap s.heap [] := va_S.rf
  have hl := lv_entry ([.ref (a 0), .int (L0 1)]) (n := 4) (Nat.le_of_ble_eq_true rfl)
  rw [lg_entry_eq]
  generalize (lg_sl ([.ref (a 0), .int (L0 1)]) ++ List.replicate (4 - (lg_sl ([.ref (a 0), .int (L0 1)])).length) Slot.unset).toArray = ls at hl ⊢
  have hl : lv_has ls 4 [(0, .ref (a 0)), (1, .int (L0 1))] := hl
  have blk : ∀ k : Nat, (bT p l e (headSpec w_x_wholeOf ({ frames := 2, cells := 0, slots := 0, locals := 44 })).room s m #[.ref (a 0), .int (L0 1)] below meth c dC dI cy a A (qI dC dI cy a A below #[.ref (a 0), .int (L0 1)] s) 4 (x_wholeOf k 0) (fun L => [(0, .ref (a 0)), (1, .int (L 1))]) 0 (fun L => [])) ∧ (bT p l e (headSpec w_x_wholeOf ({ frames := 2, cells := 0, slots := 0, locals := 44 })).room s m #[.ref (a 0), .int (L0 1)] below meth c dC dI cy a A (qI dC dI cy a A below #[.ref (a 0), .int (L0 1)] s) 4 (x_wholeOf k 1) (fun L => [(0, .ref (a 0)), (1, .int (L 1))]) 34 (fun L => [])) ∧ (bT p l e (headSpec w_x_wholeOf ({ frames := 2, cells := 0, slots := 0, locals := 44 })).room s m #[.ref (a 0), .int (L0 1)] below meth c dC dI cy a A (qI dC dI cy a A below #[.ref (a 0), .int (L0 1)] s) 4 (x_wholeOf k 2) (fun L => [(0, .ref (a 0)), (1, .int (L 1))]) 50 (fun L => [])) ∧ (bT p l e (headSpec w_x_wholeOf ({ frames := 2, cells := 0, slots := 0, locals := 44 })).room s m #[.ref (a 0), .int (L0 1)] below meth c dC dI cy a A (qI dC dI cy a A below #[.ref (a 0), .int (L0 1)] s) 4 (x_wholeOf k 3) (fun L => [(0, .ref (a 0)), (1, .int (L 1)), (2, .int (L 2))]) 71 (fun L => [])) ∧ (bT p l e (headSpec w_x_wholeOf ({ frames := 2, cells := 0, slots := 0, locals := 44 })).room s m #[.ref (a 0), .int (L0 1)] below meth c dC dI cy a A (qI dC dI cy a A below #[.ref (a 0), .int (L0 1)] s) 4 (x_wholeOf k 4) (fun L => [(0, .ref (a 0)), (1, .int (L 1)), (2, .int (L 2))]) 89 (fun L => [.int (L 100), .ref (a 28)])) ∧ (bT p l e (headSpec w_x_wholeOf ({ frames := 2, cells := 0, slots := 0, locals := 44 })).room s m #[.ref (a 0), .int (L0 1)] below meth c dC dI cy a A (qI dC dI cy a A below #[.ref (a 0), .int (L0 1)] s) 4 (x_wholeOf k 5) (fun L => [(0, .ref (a 0)), (1, .int (L 1)), (2, .int (L 2))]) 90 (fun L => [.int (L 100), .int (L 101), .ref (a 28)])) ∧ (bT p l e (headSpec w_x_wholeOf ({ frames := 2, cells := 0, slots := 0, locals := 44 })).room s m #[.ref (a 0), .int (L0 1)] below meth c dC dI cy a A (qI dC dI cy a A below #[.ref (a 0), .int (L0 1)] s) 4 (x_wholeOf k 6) (fun L => [(0, .ref (a 0)), (1, .int (L 1)), (2, .int (L 2))]) 91 (fun L => [])) ∧ (bT p l e (headSpec w_x_wholeOf ({ frames := 2, cells := 0, slots := 0, locals := 44 })).room s m #[.ref (a 0), .int (L0 1)] below meth c dC dI cy a A (qI dC dI cy a A below #[.ref (a 0), .int (L0 1)] s) 4 (x_wholeOf k 7) (fun L => [(0, .ref (a 0)), (1, .int (L 1)), (2, .int (L 2)), (3, .int (L 3))]) 93 (fun L => [])) ∧ (bT p l e (headSpec w_x_wholeOf ({ frames := 2, cells := 0, slots := 0, locals := 44 })).room s m #[.ref (a 0), .int (L0 1)] below meth c dC dI cy a A (qI dC dI cy a A below #[.ref (a 0), .int (L0 1)] s) 4 (x_wholeOf k 8) (fun L => [(0, .ref (a 0)), (1, .int (L 1)), (2, .int (L 2)), (3, .int (L 3))]) 117 (fun L => [])) ∧ (bT p l e (headSpec w_x_wholeOf ({ frames := 2, cells := 0, slots := 0, locals := 44 })).room s m #[.ref (a 0), .int (L0 1)] below meth c dC dI cy a A (qI dC dI cy a A below #[.ref (a 0), .int (L0 1)] s) 4 (x_wholeOf k 9) (fun L => [(0, .ref (a 0)), (1, .int (L 1)), (2, .int (L 2)), (3, .int (L 3))]) 123 (fun L => [])) ∧ (bT p l e (headSpec w_x_wholeOf ({ frames := 2, cells := 0, slots := 0, locals := 44 })).room s m #[.ref (a 0), .int (L0 1)] below meth c dC dI cy a A (qI dC dI cy a A below #[.ref (a 0), .int (L0 1)] s) 4 (x_wholeOf k 10) (fun L => [(0, .ref (a 0)), (1, .int (L 1)), (2, .int (L 2)), (3, .int (L 3))]) 141 (fun L => [])) := by
    intro k
    induction k with
    | zero => exact ⟨fun L σ r h => (by cases h), fun L σ r h => (by cases h), fun L σ r h => (by cases h), fun L σ r h => (by cases h), fun L σ r h => (by cases h), fun L σ r h => (by cases h), fun L σ r h => (by cases h), fun L σ r h => (by cases h), fun L σ r h => (by cases h), fun L σ r h => (by cases h), fun L σ r h => (by cases h)⟩
    | succ k ih =>
      refine ⟨?_, ?_, ?_, ?_, ?_, ?_, ?_, ?_, ?_, ?_, ?_⟩
      · intro L σ r h H locs ls hP hD hS hl
        rw [x_wholeOf] at h
        refine lv_aload_n hx hb dX12_wholeOf_0 rfl (lv_at hl 0 rfl) ?_
        refine ng_86 hx hb hts in_x_wholeOf hown hK hP (hts _ (List.mem_cons_of_mem _ (List.mem_append_left _ (List.mem_append_left _ (List.mem_of_getElem? (i := 0) rfl))))) dX12_wholeOf_1 ?_
        refine lv_if_le (tgt := 34) hx hb dX12_wholeOf_4 (by decide) (fun c1 => ?_) (fun c1 => ?_)
        · rw [if_pos c1] at h
          exact ih.2.1 L σ r h H locs ls hP hD hS (lv_sub hl [0, 1] rfl)
        · rw [if_neg c1] at h
          refine lv_aload_n hx hb dX12_wholeOf_7 rfl (lv_at hl 0 rfl) ?_
          refine ng_83 hx hb hts in_x_wholeOf hown hK hP (hts _ (List.mem_cons_of_mem _ (List.mem_append_left _ (List.mem_append_left _ (List.mem_of_getElem? (i := 1) rfl))))) dX12_wholeOf_8 ?_
          refine lv_aload_n hx hb dX12_wholeOf_11 rfl (lv_at hl 0 rfl) ?_
          refine ng_86 hx hb hts in_x_wholeOf hown hK hP (hts _ (List.mem_cons_of_mem _ (List.mem_append_left _ (List.mem_append_left _ (List.mem_of_getElem? (i := 0) rfl))))) dX12_wholeOf_12 ?_
          refine lv_iconst (v := 1) hx hb dX12_wholeOf_15 (by decide) ?_
          refine lv_isub hx hb dX12_wholeOf_16 ?_
          obtain ⟨q2, h⟩ := nb_ite1 h
          refine nl_44 hx hb hK hP q2 dX12_wholeOf_17 ?_
          refine lv_if_ne (tgt := 34) hx hb dX12_wholeOf_18 (by decide) (fun c3 => ?_) (fun c3 => ?_)
          · rw [if_neg c3] at h
            exact ih.2.1 L σ r h H locs ls hP hD hS (lv_sub hl [0, 1] rfl)
          · rw [if_pos c3] at h
            refine lv_aload_n hx hb dX12_wholeOf_21 rfl (lv_at hl 0 rfl) ?_
            refine lv_dup hx hb dX12_wholeOf_22 rfl ?_
            refine ng_86 hx hb hts in_x_wholeOf hown hK hP (hts _ (List.mem_cons_of_mem _ (List.mem_append_left _ (List.mem_append_left _ (List.mem_of_getElem? (i := 0) rfl))))) dX12_wholeOf_23 ?_
            refine lv_iconst (v := 1) hx hb dX12_wholeOf_26 (by decide) ?_
            refine lv_isub hx hb dX12_wholeOf_27 ?_
            refine np_86 hx hb hts in_x_wholeOf hown hK hP hD hS (hts _ (List.mem_cons_of_mem _ (List.mem_append_left _ (List.mem_append_left _ (List.mem_of_getElem? (i := 0) rfl))))) dX12_wholeOf_28 (fun H locs hP hD hS => ?_)
            refine lv_goto (tgt := 0) hx hb dX12_wholeOf_31 (by decide) ?_
            exact ih.1 L (upd σ.1 86 ((((σ.1 86)) - 1)), σ.2.1, σ.2.2) r h H locs ls hP hD hS (lv_sub hl [0, 1] rfl)
      · intro L σ r h H locs ls hP hD hS hl
        rw [x_wholeOf] at h
        refine lv_aload_n hx hb dX12_wholeOf_34 rfl (lv_at hl 0 rfl) ?_
        refine ng_86 hx hb hts in_x_wholeOf hown hK hP (hts _ (List.mem_cons_of_mem _ (List.mem_append_left _ (List.mem_append_left _ (List.mem_of_getElem? (i := 0) rfl))))) dX12_wholeOf_35 ?_
        refine lv_bipush (v := 64) hx hb dX12_wholeOf_38 (by decide) ?_
        refine lv_icmp_le (tgt := 50) hx hb dX12_wholeOf_40 (by decide) (fun c1 => ?_) (fun c1 => ?_)
        · rw [if_pos c1] at h
          exact ih.2.2.1 L σ r h H locs ls hP hD hS (lv_sub hl [0, 1] rfl)
        · rw [if_neg c1] at h
          refine lv_aload_n hx hb dX12_wholeOf_43 rfl (lv_at hl 0 rfl) ?_
          refine lv_iconst (v := 5) hx hb dX12_wholeOf_44 (by decide) ?_
          obtain ⟨r2, hc2, h⟩ := ob_ex h
          refine nc_Vv (As := [.int 5]) (rest := []) ⟨hx, hb, hml, hown, hts⟩ (c_x_fail l dC dI cy a k (upd (fun _ => 0) 1 5) σ r2 hc2 H.size) (cwV 1 hts g_x_wholeOf_fail_369 rfl rfl rfl hd_x_fail ⟨Nat.le_of_ble_eq_true rfl, Nat.le_of_ble_eq_true rfl⟩) hK hG hA hP hD hS rfl hl.1 rfl (Nat.le_of_ble_eq_true rfl) dX12_wholeOf_45 ⟨Nat.le_refl _, Nat.le_refl _⟩ (fun H locs hP hD hS => ?_)
          refine lv_iconst (v := 0) hx hb dX12_wholeOf_48 (by decide) ?_
          cases h
          exact W.iret (v := 0) hx hb hr (fun t ht hW => ⟨⟨0, (), rfl, rfl, by rw [ht]; exact hP, va_K.moved hW.alike hK, hD⟩, hS.F ht⟩) hS.2.2 dX12_wholeOf_49
      · intro L σ r h H locs ls hP hD hS hl
        rw [x_wholeOf] at h
        refine lv_aload_n hx hb dX12_wholeOf_50 rfl (lv_at hl 0 rfl) ?_
        refine lv_iconst (v := 2) hx hb dX12_wholeOf_51 (by decide) ?_
        refine lv_aload_n hx hb dX12_wholeOf_52 rfl (lv_at hl 0 rfl) ?_
        refine ng_86 hx hb hts in_x_wholeOf hown hK hP (hts _ (List.mem_cons_of_mem _ (List.mem_append_left _ (List.mem_append_left _ (List.mem_of_getElem? (i := 0) rfl))))) dX12_wholeOf_53 ?_
        refine lv_iconst (v := 1) hx hb dX12_wholeOf_56 (by decide) ?_
        refine lv_iadd hx hb dX12_wholeOf_57 ?_
        obtain ⟨r1, hc1, h⟩ := ob_ex h
        refine nc_Vi (As := [.int 2, .int (((σ.1 86)) + 1)]) (rest := []) ⟨hx, hb, hml, hown, hts⟩ (c_x_make l dC dI cy a k (upd (upd (fun _ => 0) 1 2) 2 ((((σ.1 86)) + 1))) σ r1 hc1 H.size) (cwV 2 hts g_x_wholeOf_make_429 rfl rfl rfl hd_x_make ⟨Nat.le_of_ble_eq_true rfl, Nat.le_of_ble_eq_true rfl⟩) hK hG hA hP hD hS rfl hl.1 rfl (Nat.le_of_ble_eq_true rfl) dX12_wholeOf_58 ⟨Nat.le_refl _, Nat.le_refl _⟩ (fun H locs hP hD hS => ?_)
        refine lv_istore_n (lv' := [(2, .int r1.1), (0, .ref (a 0)), (1, .int (L 1))]) hx hb dX12_wholeOf_61 rfl hl (by decide) rfl (fun ls hl => ?_)
        refine lv_aload_n hx hb dX12_wholeOf_62 rfl (lv_at hl 1 rfl) ?_
        refine ng_56 hx hb hts in_x_wholeOf hown hK hP (hts _ (List.mem_cons_of_mem _ (List.mem_append_left _ (List.mem_append_left _ (List.mem_of_getElem? (i := 9) rfl))))) dX12_wholeOf_63 ?_
        refine lv_if_le (tgt := 71) hx hb dX12_wholeOf_66 (by decide) (fun c2 => ?_) (fun c2 => ?_)
        · rw [if_pos c2] at h
          exact ih.2.2.2.1 (upd L 2 r1.1) r1.2 r h H locs ls hP hD hS (lv_sub hl [1, 2, 0] rfl)
        · rw [if_neg c2] at h
          refine lv_iconst (v := 0) hx hb dX12_wholeOf_69 (by decide) ?_
          cases h
          exact W.iret (v := 0) hx hb hr (fun t ht hW => ⟨⟨0, (), rfl, rfl, by rw [ht]; exact hP, va_K.moved hW.alike hK, hD⟩, hS.F ht⟩) hS.2.2 dX12_wholeOf_70
      · intro L σ r h H locs ls hP hD hS hl
        rw [x_wholeOf] at h
        refine lv_aload_n hx hb dX12_wholeOf_71 rfl (lv_at hl 0 rfl) ?_
        refine ng_53 hx hb hts in_x_wholeOf hown hK hP (hts _ (List.mem_cons_of_mem _ (List.mem_append_left _ (List.mem_append_left _ (List.mem_of_getElem? (i := 10) rfl))))) dX12_wholeOf_72 ?_
        refine lv_iload_n hx hb dX12_wholeOf_75 rfl (lv_at hl 2 rfl) ?_
        refine lv_iconst (v := 4) hx hb dX12_wholeOf_76 (by decide) ?_
        refine lv_iadd hx hb dX12_wholeOf_77 ?_
        refine lv_aload_n hx hb dX12_wholeOf_78 rfl (lv_at hl 0 rfl) ?_
        refine ng_86 hx hb hts in_x_wholeOf hown hK hP (hts _ (List.mem_cons_of_mem _ (List.mem_append_left _ (List.mem_append_left _ (List.mem_of_getElem? (i := 0) rfl))))) dX12_wholeOf_79 ?_
        refine lv_if_ne (tgt := 89) hx hb dX12_wholeOf_82 (by decide) (fun c1 => ?_) (fun c1 => ?_)
        · rw [if_neg c1] at h
          exact ih.2.2.2.2.1 (upd L 100 ((((L 2)) + 4))) σ r h H locs ls hP hD hS (lv_sub hl [0, 1, 2] rfl)
        · rw [if_pos c1] at h
          refine lv_iconst (v := 0) hx hb dX12_wholeOf_85 (by decide) ?_
          refine lv_goto (tgt := 90) hx hb dX12_wholeOf_86 (by decide) ?_
          exact ih.2.2.2.2.2.1 (upd (upd L 100 0) 101 ((((L 2)) + 4))) σ r h H locs ls hP hD hS (lv_sub hl [0, 1, 2] rfl)
      · intro L σ r h H locs ls hP hD hS hl
        rw [x_wholeOf] at h
        refine lv_iload_n hx hb dX12_wholeOf_89 rfl (lv_at hl 1 rfl) ?_
        exact ih.2.2.2.2.2.1 (upd (upd L 100 ((L 1))) 101 ((L 100))) σ r h H locs ls hP hD hS (lv_sub hl [0, 1, 2] rfl)
      · intro L σ r h H locs ls hP hD hS hl
        rw [x_wholeOf] at h
        obtain ⟨q1, h⟩ := nb_ite1 h
        refine ns_28 hx hb hK hP hD hS q1 dX12_wholeOf_90 (fun H locs hP hD hS => ?_)
        exact ih.2.2.2.2.2.2.1 L (σ.1, σ.2.1, updG σ.2.2 28 (upd (σ.2.2 28) ((L 101)).toNatClampNeg ((L 100)))) r h H locs ls hP hD hS (lv_sub hl [0, 1, 2] rfl)
      · intro L σ r h H locs ls hP hD hS hl
        rw [x_wholeOf] at h
        refine lv_iconst (v := 0) hx hb dX12_wholeOf_91 (by decide) ?_
        refine lv_istore_n (lv' := [(3, .int 0), (0, .ref (a 0)), (1, .int (L 1)), (2, .int (L 2))]) hx hb dX12_wholeOf_92 rfl hl (by decide) rfl (fun ls hl => ?_)
        exact ih.2.2.2.2.2.2.2.1 (upd L 3 0) σ r h H locs ls hP hD hS (lv_sub hl [1, 2, 3, 0] rfl)
      · intro L σ r h H locs ls hP hD hS hl
        rw [x_wholeOf] at h
        refine lv_iload_n hx hb dX12_wholeOf_93 rfl (lv_at hl 3 rfl) ?_
        refine lv_aload_n hx hb dX12_wholeOf_94 rfl (lv_at hl 0 rfl) ?_
        refine ng_86 hx hb hts in_x_wholeOf hown hK hP (hts _ (List.mem_cons_of_mem _ (List.mem_append_left _ (List.mem_append_left _ (List.mem_of_getElem? (i := 0) rfl))))) dX12_wholeOf_95 ?_
        refine lv_icmp_ge (tgt := 123) hx hb dX12_wholeOf_98 (by decide) (fun c1 => ?_) (fun c1 => ?_)
        · rw [if_pos c1] at h
          exact ih.2.2.2.2.2.2.2.2.2.1 L σ r h H locs ls hP hD hS (lv_sub hl [0, 1, 2, 3] rfl)
        · rw [if_neg c1] at h
          refine lv_aload_n hx hb dX12_wholeOf_101 rfl (lv_at hl 0 rfl) ?_
          refine ng_53 hx hb hts in_x_wholeOf hown hK hP (hts _ (List.mem_cons_of_mem _ (List.mem_append_left _ (List.mem_append_left _ (List.mem_of_getElem? (i := 10) rfl))))) dX12_wholeOf_102 ?_
          refine lv_iload_n hx hb dX12_wholeOf_105 rfl (lv_at hl 2 rfl) ?_
          refine lv_iconst (v := 5) hx hb dX12_wholeOf_106 (by decide) ?_
          refine lv_iadd hx hb dX12_wholeOf_107 ?_
          refine lv_iload_n hx hb dX12_wholeOf_108 rfl (lv_at hl 3 rfl) ?_
          refine lv_iadd hx hb dX12_wholeOf_109 ?_
          refine lv_aload_n hx hb dX12_wholeOf_110 rfl (lv_at hl 0 rfl) ?_
          refine ng_83 hx hb hts in_x_wholeOf hown hK hP (hts _ (List.mem_cons_of_mem _ (List.mem_append_left _ (List.mem_append_left _ (List.mem_of_getElem? (i := 1) rfl))))) dX12_wholeOf_111 ?_
          refine lv_iload_n hx hb dX12_wholeOf_114 rfl (lv_at hl 3 rfl) ?_
          obtain ⟨q2, h⟩ := nb_ite1 h
          refine nl_44 hx hb hK hP q2 dX12_wholeOf_115 ?_
          obtain ⟨q3, h⟩ := nb_ite1 h
          refine ns_28 hx hb hK hP hD hS q3 dX12_wholeOf_116 (fun H locs hP hD hS => ?_)
          exact ih.2.2.2.2.2.2.2.2.1 L (σ.1, σ.2.1, updG σ.2.2 28 (upd (σ.2.2 28) ((((((L 2)) + 5)) + ((L 3)))).toNatClampNeg ((σ.2.2 44 ((L 3)).toNatClampNeg)))) r h H locs ls hP hD hS (lv_sub hl [0, 1, 2, 3] rfl)
      · intro L σ r h H locs ls hP hD hS hl
        rw [x_wholeOf] at h
        refine lv_iinc (v := ((L 3)) + 1) (lv' := [(3, .int (((L 3)) + 1)), (0, .ref (a 0)), (1, .int (L 1)), (2, .int (L 2))]) hx hb dX12_wholeOf_117 hl (k := 3) rfl rfl (by decide) rfl (fun ls hl => ?_)
        refine lv_goto (tgt := 93) hx hb dX12_wholeOf_120 (by decide) ?_
        exact ih.2.2.2.2.2.2.2.1 (upd L 3 (((L 3)) + 1)) σ r h H locs ls hP hD hS (lv_sub hl [1, 2, 3, 0] rfl)
      · intro L σ r h H locs ls hP hD hS hl
        rw [x_wholeOf] at h
        refine lv_aload_n hx hb dX12_wholeOf_123 rfl (lv_at hl 0 rfl) ?_
        refine ng_53 hx hb hts in_x_wholeOf hown hK hP (hts _ (List.mem_cons_of_mem _ (List.mem_append_left _ (List.mem_append_left _ (List.mem_of_getElem? (i := 10) rfl))))) dX12_wholeOf_124 ?_
        refine lv_iload_n hx hb dX12_wholeOf_127 rfl (lv_at hl 2 rfl) ?_
        refine lv_iconst (v := 2) hx hb dX12_wholeOf_128 (by decide) ?_
        refine lv_iadd hx hb dX12_wholeOf_129 ?_
        refine lv_iconst (v := 1) hx hb dX12_wholeOf_130 (by decide) ?_
        refine lv_aload_n hx hb dX12_wholeOf_131 rfl (lv_at hl 0 rfl) ?_
        refine ng_86 hx hb hts in_x_wholeOf hown hK hP (hts _ (List.mem_cons_of_mem _ (List.mem_append_left _ (List.mem_append_left _ (List.mem_of_getElem? (i := 0) rfl))))) dX12_wholeOf_132 ?_
        refine lv_iconst (v := 1) hx hb dX12_wholeOf_135 (by decide) ?_
        refine lv_iadd hx hb dX12_wholeOf_136 ?_
        refine lv_iconst (v := 2) hx hb dX12_wholeOf_137 (by decide) ?_
        obtain ⟨q1, h⟩ := nb_ite0 h
        refine lv_idiv hx hb dX12_wholeOf_138 q1 ?_
        refine lv_iadd hx hb dX12_wholeOf_139 ?_
        obtain ⟨q2, h⟩ := nb_ite1 h
        refine ns_28 hx hb hK hP hD hS q2 dX12_wholeOf_140 (fun H locs hP hD hS => ?_)
        exact ih.2.2.2.2.2.2.2.2.2.2 L (σ.1, σ.2.1, updG σ.2.2 28 (upd (σ.2.2 28) ((((L 2)) + 2)).toNatClampNeg ((1 + ((((((σ.1 86)) + 1)) / 2)))))) r h H locs ls hP hD hS (lv_sub hl [0, 1, 2, 3] rfl)
      · intro L σ r h H locs ls hP hD hS hl
        rw [x_wholeOf] at h
        refine lv_iload_n hx hb dX12_wholeOf_141 rfl (lv_at hl 2 rfl) ?_
        cases h
        exact W.iret (v := (L 2)) hx hb hr (fun t ht hW => ⟨⟨(L 2), (), rfl, rfl, by rw [ht]; exact hP, va_K.moved hW.alike hK, hD⟩, hS.F ht⟩) hS.2.2 dX12_wholeOf_142
  exact (blk k0).1 L0 σ0 r0 h0 s.heap [] ls hP hD hS hl
