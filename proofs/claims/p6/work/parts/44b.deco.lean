/-! find -/
def x_find : Nat → Nat → (Nat → Int32) → MS → Option (Int32 × MS)
  | 0, _, _, _ => none
  | k + 1, 0, L, σ => x_find k 1 L (upd σ.1 46 0, σ.2.1, σ.2.2)
  | k + 1, 1, L, σ => x_find k 2 (upd L 1 ((((σ.1 38)) - 1))) σ
  | k + 1, 2, L, σ => if ((L 1)) < 0 then (x_find k 8 L σ) else (if ¬ (((L 1)) < 0 ∨ 400 ≤ ((L 1)).toNatClampNeg) then (if ¬ (((L 1)) < 0 ∨ 400 ≤ ((L 1)).toNatClampNeg) then (ob (x_isNamed k 0 (upd (upd (fun _ => 0) 1 ((σ.2.2 22 ((L 1)).toNatClampNeg))) 2 ((σ.2.2 23 ((L 1)).toNatClampNeg))) σ) (fun r4 => if r4.1 = 0 then (x_find k 7 L r4.2) else (x_find k 3 L (upd r4.2.1 46 1, r4.2.2.1, r4.2.2.2)))) else none) else none)
  | k + 1, 3, L, σ => if ¬ (((L 1)) < 0 ∨ 400 ≤ ((L 1)).toNatClampNeg) then (x_find k 4 L (upd σ.1 47 ((σ.2.2 24 ((L 1)).toNatClampNeg)), σ.2.1, σ.2.2)) else none
  | k + 1, 4, L, σ => if ((σ.1 37)) ≤ 0 then (x_find k 5 L σ) else (x_find k 6 (upd L 100 1) σ)
  | k + 1, 5, L, σ => x_find k 6 (upd L 100 0) σ
  | k + 1, 6, L, σ => if ((L 100)) = 0 ∨ ((L 100)) = 1 then (some (0, (upd σ.1 48 ((L 100)), σ.2.1, σ.2.2))) else none
  | k + 1, 7, L, σ => x_find k 2 (upd L 1 (((L 1)) + (-1))) σ
  | k + 1, 8, L, σ => x_find k 9 (upd L 1 0) σ
  | k + 1, 9, L, σ => if ((σ.1 25)) ≤ ((L 1)) then (x_find k 13 L σ) else (if ¬ (((L 1)) < 0 ∨ 200 ≤ ((L 1)).toNatClampNeg) then (if ¬ (((L 1)) < 0 ∨ 200 ≤ ((L 1)).toNatClampNeg) then (ob (x_isNamed k 0 (upd (upd (fun _ => 0) 1 ((σ.2.2 14 ((L 1)).toNatClampNeg))) 2 ((σ.2.2 15 ((L 1)).toNatClampNeg))) σ) (fun r4 => if r4.1 = 0 then (x_find k 12 L r4.2) else (if ¬ (((L 1)) < 0 ∨ 200 ≤ ((L 1)).toNatClampNeg) then (x_find k 10 L (upd r4.2.1 46 ((r4.2.2.2 13 ((L 1)).toNatClampNeg)), r4.2.2.1, r4.2.2.2)) else none))) else none) else none)
  | k + 1, 10, L, σ => if ¬ (((L 1)) < 0 ∨ 200 ≤ ((L 1)).toNatClampNeg) then (x_find k 11 L (upd σ.1 47 ((σ.2.2 16 ((L 1)).toNatClampNeg)), σ.2.1, σ.2.2)) else none
  | k + 1, 11, L, σ => some (0, (upd σ.1 48 0, σ.2.1, σ.2.2))
  | k + 1, 12, L, σ => x_find k 9 (upd L 1 (((L 1)) + 1)) σ
  | k + 1, 13, L, σ => some (0, σ)
  | _ + 1, _ + 14, _, _ => none
def o_x_find : List Cond := [.fieldLink RX12 111 "SetHouseModel" "foundKind" "I", .fieldLink RX12 114 "SetHouseModel" "seenNames" "I", .fieldLink RX12 117 "SetHouseModel" "nFrom" "[I", .fieldLink RX12 120 "SetHouseModel" "nSize" "[I", .methodLink RX12 123 yX12_isNamed, .instanceMethod yX12_isNamed, .selects RX12 yX12_isNamed yX12_isNamed, .initialized RX12, .fieldLink RX12 127 "SetHouseModel" "nSlot" "[I", .fieldLink RX12 130 "SetHouseModel" "foundNumber" "I", .fieldLink RX12 133 "SetHouseModel" "owner" "I", .fieldLink RX12 136 "SetHouseModel" "foundLocal" "Z", .fieldLink RX12 139 "SetHouseModel" "entities" "I", .fieldLink RX12 142 "SetHouseModel" "eFrom" "[I", .fieldLink RX12 145 "SetHouseModel" "eSize" "[I", .fieldLink RX12 148 "SetHouseModel" "eKind" "[I", .fieldLink RX12 151 "SetHouseModel" "eNumber" "[I"]
theorem o_x_find_good : o_x_find.all goodWord = true := by decide +kernel
def p_x_find : List Cond := o_x_find ++ ((.code yX12_isNamed cX12_isNamed 4 (some .boolean) :: p_x_isNamed) ++ [])
theorem p_x_find_good : p_x_find.all goodWord = true := nb_all2 o_x_find_good (nb_all2 (nb_allc (by decide +kernel) p_x_isNamed_good) rfl)
def w_x_find : List Cond := .code yX12_find cX12_find 2 none :: (p_x_find ++ fM)
theorem w_x_find_good : w_x_find.all goodWord = true := nb_allc (by decide +kernel) (nb_all2 p_x_find_good fM_good)
theorem in_x_find : ∀ w ∈ wsX120, w ∈ w_x_find := fun _ h => List.mem_cons_of_mem _ (List.mem_append_right _ h)
theorem gg_x_find_isNamed : GoodIn w_x_find w_x_isNamed := goodIn_sub (fun w h => (List.mem_cons.mp h).elim (fun e => (List.mem_cons_of_mem _ (List.mem_append_left _ (List.mem_append_right _ (List.mem_append_left _ (List.mem_cons.mpr (Or.inl e))))))) (fun h => (List.mem_append.mp h).elim (fun h => (List.mem_cons_of_mem _ (List.mem_append_left _ (List.mem_append_right _ (List.mem_append_left _ (List.mem_cons_of_mem _ h)))))) (fun h => List.mem_cons_of_mem _ (List.mem_append_right _ h)))) w_x_isNamed_good
theorem g_x_find_isNamed_123 : GoodIn w_x_find (wsV RX12 123 RX12 yX12_isNamed w_x_isNamed) := goodIn_app (nb_g4 (List.mem_cons_of_mem _ (List.mem_append_left _ (List.mem_append_left _ (List.mem_of_getElem? (i := 4) rfl)))) (List.mem_cons_of_mem _ (List.mem_append_left _ (List.mem_append_left _ (List.mem_of_getElem? (i := 5) rfl)))) (List.mem_cons_of_mem _ (List.mem_append_left _ (List.mem_append_left _ (List.mem_of_getElem? (i := 6) rfl)))) (List.mem_cons_of_mem _ (List.mem_append_left _ (List.mem_append_left _ (List.mem_of_getElem? (i := 7) rfl)))) (by decide +kernel)) gg_x_find_isNamed
set_option maxHeartbeats 40000000 in
set_option maxRecDepth 100000 in
theorem c_x_find (l : Launch) (dC : Nat → ClassId) (dI : Nat → Nat → Nat) (cy : Nat → ClassId) (a : Nat → Nat) (k0 : Nat) (L0 : Nat → Int32) (σ0 : MS) (r0 : Int32 × MS) (h0 : x_find k0 0 L0 σ0 = some r0) (sz : Nat) : Met l yX12_find w_x_find ({ frames := 1, cells := 0, slots := 0, locals := 23 }) (va_Pc [.ref (a 0)] (nIn (dC, dI) cy sz (vM cy a σ0))) (va_Qv (fun _ : Unit => True) (fun _ t => nOut (dC, dI) cy (va_A (vM cy a σ0) sz) (vM cy a r0.2) t) (va_A (vM cy a σ0) sz)) 0 0 (va_A (vM cy a σ0) sz) := by
  refine Met.ofW (cc := cX12_find) (maxL := 2) (ret := none) (by decide) rfl ?_
  intro p e s m args below meth c s₁ B hml hv
  obtain ⟨rfl, hsz, hP, hK, hD0, hG⟩ := hv
  have hx := B.exec
  have hb := B.bytes
  have hr := B.returns
  have hts := atoms_spec (ws := w_x_find) B.pre
  have hown : s.vm.findClass RX12 = some m.cls := findClass_of_methodNamed B.named
  have hlocks := B.notSynchronized
  subst hsz
  have hD := hD0.self (sz := s.heap.size)
  generalize hAe : va_A (vM cy a σ0) s.heap.size = A at hD ⊢
  have hA : ∀ q : Nat, s.heap.size ≤ q → A q := fun q h => by rw [← hAe]; exact Or.inr h
  have hS : va_S A s.heap s.heap [] := va_S.rf
  have hl := lv_entry ([.ref (a 0)]) (n := 2) (Nat.le_of_ble_eq_true rfl)
  rw [lg_entry_eq]
  generalize (lg_sl ([.ref (a 0)]) ++ List.replicate (2 - (lg_sl ([.ref (a 0)])).length) Slot.unset).toArray = ls at hl ⊢
  have hl : lv_has ls 2 [(0, .ref (a 0))] := hl
  have blk : ∀ k : Nat, (∀ (L : Nat → Int32) (σ : MS) (r : Int32 × MS), x_find k 0 L σ = some r → ∀ (H : Heap) (locs : List Loc) (ls : Array Slot), va_P (dC, dI) nCl (vM cy a σ) H → va_D A (vM cy a σ) → va_S A s.heap H locs → lv_has ls 2 [(0, .ref (a 0))] → W p l e (headSpec w_x_find ({ frames := 1, cells := 0, slots := 0, locals := 23 })).room s m #[.ref (a 0)] below meth c H locs 0 0 (MQ below (va_Qv (fun _ : Unit => True) (fun _ t => nOut (dC, dI) cy A (vM cy a r.2) t) A) #[.ref (a 0)] s 0 0 A) (F0 m 0 ls [])) ∧ (∀ (L : Nat → Int32) (σ : MS) (r : Int32 × MS), x_find k 1 L σ = some r → ∀ (H : Heap) (locs : List Loc) (ls : Array Slot), va_P (dC, dI) nCl (vM cy a σ) H → va_D A (vM cy a σ) → va_S A s.heap H locs → lv_has ls 2 [(0, .ref (a 0))] → W p l e (headSpec w_x_find ({ frames := 1, cells := 0, slots := 0, locals := 23 })).room s m #[.ref (a 0)] below meth c H locs 0 0 (MQ below (va_Qv (fun _ : Unit => True) (fun _ t => nOut (dC, dI) cy A (vM cy a r.2) t) A) #[.ref (a 0)] s 0 0 A) (F0 m 5 ls [])) ∧ (∀ (L : Nat → Int32) (σ : MS) (r : Int32 × MS), x_find k 2 L σ = some r → ∀ (H : Heap) (locs : List Loc) (ls : Array Slot), va_P (dC, dI) nCl (vM cy a σ) H → va_D A (vM cy a σ) → va_S A s.heap H locs → lv_has ls 2 [(0, .ref (a 0)), (1, .int (L 1))] → W p l e (headSpec w_x_find ({ frames := 1, cells := 0, slots := 0, locals := 23 })).room s m #[.ref (a 0)] below meth c H locs 0 0 (MQ below (va_Qv (fun _ : Unit => True) (fun _ t => nOut (dC, dI) cy A (vM cy a r.2) t) A) #[.ref (a 0)] s 0 0 A) (F0 m 12 ls [])) ∧ (∀ (L : Nat → Int32) (σ : MS) (r : Int32 × MS), x_find k 3 L σ = some r → ∀ (H : Heap) (locs : List Loc) (ls : Array Slot), va_P (dC, dI) nCl (vM cy a σ) H → va_D A (vM cy a σ) → va_S A s.heap H locs → lv_has ls 2 [(0, .ref (a 0)), (1, .int (L 1))] → W p l e (headSpec w_x_find ({ frames := 1, cells := 0, slots := 0, locals := 23 })).room s m #[.ref (a 0)] below meth c H locs 0 0 (MQ below (va_Qv (fun _ : Unit => True) (fun _ t => nOut (dC, dI) cy A (vM cy a r.2) t) A) #[.ref (a 0)] s 0 0 A) (F0 m 40 ls [])) ∧ (∀ (L : Nat → Int32) (σ : MS) (r : Int32 × MS), x_find k 4 L σ = some r → ∀ (H : Heap) (locs : List Loc) (ls : Array Slot), va_P (dC, dI) nCl (vM cy a σ) H → va_D A (vM cy a σ) → va_S A s.heap H locs → lv_has ls 2 [(0, .ref (a 0)), (1, .int (L 1))] → W p l e (headSpec w_x_find ({ frames := 1, cells := 0, slots := 0, locals := 23 })).room s m #[.ref (a 0)] below meth c H locs 0 0 (MQ below (va_Qv (fun _ : Unit => True) (fun _ t => nOut (dC, dI) cy A (vM cy a r.2) t) A) #[.ref (a 0)] s 0 0 A) (F0 m 50 ls [])) ∧ (∀ (L : Nat → Int32) (σ : MS) (r : Int32 × MS), x_find k 5 L σ = some r → ∀ (H : Heap) (locs : List Loc) (ls : Array Slot), va_P (dC, dI) nCl (vM cy a σ) H → va_D A (vM cy a σ) → va_S A s.heap H locs → lv_has ls 2 [(0, .ref (a 0)), (1, .int (L 1))] → W p l e (headSpec w_x_find ({ frames := 1, cells := 0, slots := 0, locals := 23 })).room s m #[.ref (a 0)] below meth c H locs 0 0 (MQ below (va_Qv (fun _ : Unit => True) (fun _ t => nOut (dC, dI) cy A (vM cy a r.2) t) A) #[.ref (a 0)] s 0 0 A) (F0 m 62 ls [.ref (a 0)])) ∧ (∀ (L : Nat → Int32) (σ : MS) (r : Int32 × MS), x_find k 6 L σ = some r → ∀ (H : Heap) (locs : List Loc) (ls : Array Slot), va_P (dC, dI) nCl (vM cy a σ) H → va_D A (vM cy a σ) → va_S A s.heap H locs → lv_has ls 2 [(0, .ref (a 0)), (1, .int (L 1))] → W p l e (headSpec w_x_find ({ frames := 1, cells := 0, slots := 0, locals := 23 })).room s m #[.ref (a 0)] below meth c H locs 0 0 (MQ below (va_Qv (fun _ : Unit => True) (fun _ t => nOut (dC, dI) cy A (vM cy a r.2) t) A) #[.ref (a 0)] s 0 0 A) (F0 m 63 ls [.int (L 100), .ref (a 0)])) ∧ (∀ (L : Nat → Int32) (σ : MS) (r : Int32 × MS), x_find k 7 L σ = some r → ∀ (H : Heap) (locs : List Loc) (ls : Array Slot), va_P (dC, dI) nCl (vM cy a σ) H → va_D A (vM cy a σ) → va_S A s.heap H locs → lv_has ls 2 [(0, .ref (a 0)), (1, .int (L 1))] → W p l e (headSpec w_x_find ({ frames := 1, cells := 0, slots := 0, locals := 23 })).room s m #[.ref (a 0)] below meth c H locs 0 0 (MQ below (va_Qv (fun _ : Unit => True) (fun _ t => nOut (dC, dI) cy A (vM cy a r.2) t) A) #[.ref (a 0)] s 0 0 A) (F0 m 67 ls [])) ∧ (∀ (L : Nat → Int32) (σ : MS) (r : Int32 × MS), x_find k 8 L σ = some r → ∀ (H : Heap) (locs : List Loc) (ls : Array Slot), va_P (dC, dI) nCl (vM cy a σ) H → va_D A (vM cy a σ) → va_S A s.heap H locs → lv_has ls 2 [(0, .ref (a 0)), (1, .int (L 1))] → W p l e (headSpec w_x_find ({ frames := 1, cells := 0, slots := 0, locals := 23 })).room s m #[.ref (a 0)] below meth c H locs 0 0 (MQ below (va_Qv (fun _ : Unit => True) (fun _ t => nOut (dC, dI) cy A (vM cy a r.2) t) A) #[.ref (a 0)] s 0 0 A) (F0 m 73 ls [])) ∧ (∀ (L : Nat → Int32) (σ : MS) (r : Int32 × MS), x_find k 9 L σ = some r → ∀ (H : Heap) (locs : List Loc) (ls : Array Slot), va_P (dC, dI) nCl (vM cy a σ) H → va_D A (vM cy a σ) → va_S A s.heap H locs → lv_has ls 2 [(0, .ref (a 0)), (1, .int (L 1))] → W p l e (headSpec w_x_find ({ frames := 1, cells := 0, slots := 0, locals := 23 })).room s m #[.ref (a 0)] below meth c H locs 0 0 (MQ below (va_Qv (fun _ : Unit => True) (fun _ t => nOut (dC, dI) cy A (vM cy a r.2) t) A) #[.ref (a 0)] s 0 0 A) (F0 m 75 ls [])) ∧ (∀ (L : Nat → Int32) (σ : MS) (r : Int32 × MS), x_find k 10 L σ = some r → ∀ (H : Heap) (locs : List Loc) (ls : Array Slot), va_P (dC, dI) nCl (vM cy a σ) H → va_D A (vM cy a σ) → va_S A s.heap H locs → lv_has ls 2 [(0, .ref (a 0)), (1, .int (L 1))] → W p l e (headSpec w_x_find ({ frames := 1, cells := 0, slots := 0, locals := 23 })).room s m #[.ref (a 0)] below meth c H locs 0 0 (MQ below (va_Qv (fun _ : Unit => True) (fun _ t => nOut (dC, dI) cy A (vM cy a r.2) t) A) #[.ref (a 0)] s 0 0 A) (F0 m 112 ls [])) ∧ (∀ (L : Nat → Int32) (σ : MS) (r : Int32 × MS), x_find k 11 L σ = some r → ∀ (H : Heap) (locs : List Loc) (ls : Array Slot), va_P (dC, dI) nCl (vM cy a σ) H → va_D A (vM cy a σ) → va_S A s.heap H locs → lv_has ls 2 [(0, .ref (a 0)), (1, .int (L 1))] → W p l e (headSpec w_x_find ({ frames := 1, cells := 0, slots := 0, locals := 23 })).room s m #[.ref (a 0)] below meth c H locs 0 0 (MQ below (va_Qv (fun _ : Unit => True) (fun _ t => nOut (dC, dI) cy A (vM cy a r.2) t) A) #[.ref (a 0)] s 0 0 A) (F0 m 122 ls [])) ∧ (∀ (L : Nat → Int32) (σ : MS) (r : Int32 × MS), x_find k 12 L σ = some r → ∀ (H : Heap) (locs : List Loc) (ls : Array Slot), va_P (dC, dI) nCl (vM cy a σ) H → va_D A (vM cy a σ) → va_S A s.heap H locs → lv_has ls 2 [(0, .ref (a 0)), (1, .int (L 1))] → W p l e (headSpec w_x_find ({ frames := 1, cells := 0, slots := 0, locals := 23 })).room s m #[.ref (a 0)] below meth c H locs 0 0 (MQ below (va_Qv (fun _ : Unit => True) (fun _ t => nOut (dC, dI) cy A (vM cy a r.2) t) A) #[.ref (a 0)] s 0 0 A) (F0 m 128 ls [])) ∧ (∀ (L : Nat → Int32) (σ : MS) (r : Int32 × MS), x_find k 13 L σ = some r → ∀ (H : Heap) (locs : List Loc) (ls : Array Slot), va_P (dC, dI) nCl (vM cy a σ) H → va_D A (vM cy a σ) → va_S A s.heap H locs → lv_has ls 2 [(0, .ref (a 0)), (1, .int (L 1))] → W p l e (headSpec w_x_find ({ frames := 1, cells := 0, slots := 0, locals := 23 })).room s m #[.ref (a 0)] below meth c H locs 0 0 (MQ below (va_Qv (fun _ : Unit => True) (fun _ t => nOut (dC, dI) cy A (vM cy a r.2) t) A) #[.ref (a 0)] s 0 0 A) (F0 m 134 ls [])) := by
    intro k
    induction k with
    | zero => exact ⟨fun L σ r h => (by cases h), fun L σ r h => (by cases h), fun L σ r h => (by cases h), fun L σ r h => (by cases h), fun L σ r h => (by cases h), fun L σ r h => (by cases h), fun L σ r h => (by cases h), fun L σ r h => (by cases h), fun L σ r h => (by cases h), fun L σ r h => (by cases h), fun L σ r h => (by cases h), fun L σ r h => (by cases h), fun L σ r h => (by cases h), fun L σ r h => (by cases h)⟩
    | succ k ih =>
      refine ⟨?_, ?_, ?_, ?_, ?_, ?_, ?_, ?_, ?_, ?_, ?_, ?_, ?_, ?_⟩
      · intro L σ r h H locs ls hP hD hS hl
        rw [x_find] at h
        refine lv_aload_n hx hb dX12_find_0 rfl (lv_at hl 0 rfl) ?_
        refine lv_iconst (v := 0) hx hb dX12_find_1 (by decide) ?_
        refine va_put (D := (dC, dI)) (ci := 11) (v := .int 0) (ty := .int) (C := RX12) (T := TX12) (N := 121) hx hb hts in_x_find tyX12 tyX12_ok nmX12 hown hK hP hD hS 0 rfl rfl 46 (by decide) (hts _ (List.mem_cons_of_mem _ (List.mem_append_left _ (List.mem_append_left _ (List.mem_of_getElem? (i := 0) rfl))))) (fun _ h9 => h9) rfl (by decide +kernel) rfl rfl (Nat.le_of_ble_eq_true rfl) dX12_find_2 (fun H locs hP hD hS => ?_)
        have hP : va_P (dC, dI) nCl (vM cy a (upd σ.1 46 0, σ.2.1, σ.2.2)) H := hP
        have hD : va_D A (vM cy a (upd σ.1 46 0, σ.2.1, σ.2.2)) := hD
        exact ih.2.1 L (upd σ.1 46 0, σ.2.1, σ.2.2) r h H locs ls hP hD hS (lv_sub hl [0] rfl)
      · intro L σ r h H locs ls hP hD hS hl
        rw [x_find] at h
        refine lv_aload_n hx hb dX12_find_5 rfl (lv_at hl 0 rfl) ?_
        refine va_get (D := (dC, dI)) (ci := 11) (v := .int (σ.1 38)) (C := RX12) (T := TX12) (N := 121) hx hb hts in_x_find hown hK hP 0 rfl rfl 38 (by decide) (hts _ (List.mem_cons_of_mem _ (List.mem_append_left _ (List.mem_append_left _ (List.mem_of_getElem? (i := 1) rfl))))) (fun _ h9 => h9) rfl dX12_find_6 ?_
        refine lv_iconst (v := 1) hx hb dX12_find_9 (by decide) ?_
        refine lv_isub hx hb dX12_find_10 ?_
        refine lv_istore_n (lv' := [(1, .int (((σ.1 38)) - 1)), (0, .ref (a 0))]) hx hb dX12_find_11 rfl hl (by decide) rfl (fun ls hl => ?_)
        exact ih.2.2.1 (upd L 1 ((((σ.1 38)) - 1))) σ r h H locs ls hP hD hS (lv_sub hl [1, 0] rfl)
      · intro L σ r h H locs ls hP hD hS hl
        rw [x_find] at h
        refine lv_iload_n hx hb dX12_find_12 rfl (lv_at hl 1 rfl) ?_
        refine lv_if_lt (tgt := 73) hx hb dX12_find_13 (by decide) (fun c1 => ?_) (fun c1 => ?_)
        · rw [if_pos c1] at h
          exact ih.2.2.2.2.2.2.2.2.1 L σ r h H locs ls hP hD hS (lv_sub hl [0, 1] rfl)
        · rw [if_neg c1] at h
          refine lv_aload_n hx hb dX12_find_16 rfl (lv_at hl 0 rfl) ?_
          refine lv_aload_n hx hb dX12_find_17 rfl (lv_at hl 0 rfl) ?_
          refine va_get (D := (dC, dI)) (ci := 11) (v := .ref (a 22)) (C := RX12) (T := TX12) (N := 121) hx hb hts in_x_find hown hK hP 0 rfl rfl 39 (by decide) (hts _ (List.mem_cons_of_mem _ (List.mem_append_left _ (List.mem_append_left _ (List.mem_of_getElem? (i := 2) rfl))))) (fun _ h9 => h9) rfl dX12_find_18 ?_
          refine lv_iload_n hx hb dX12_find_21 rfl (lv_at hl 1 rfl) ?_
          by_cases q2 : ¬ (((L 1)) < 0 ∨ 400 ≤ ((L 1)).toNatClampNeg)
          · rw [if_pos q2] at h
            refine va_iald hx hb hK hP 22 1 rfl rfl (nb_inp q2) dX12_find_22 ?_
            refine lv_aload_n hx hb dX12_find_23 rfl (lv_at hl 0 rfl) ?_
            refine va_get (D := (dC, dI)) (ci := 11) (v := .ref (a 23)) (C := RX12) (T := TX12) (N := 121) hx hb hts in_x_find hown hK hP 0 rfl rfl 40 (by decide) (hts _ (List.mem_cons_of_mem _ (List.mem_append_left _ (List.mem_append_left _ (List.mem_of_getElem? (i := 3) rfl))))) (fun _ h9 => h9) rfl dX12_find_24 ?_
            refine lv_iload_n hx hb dX12_find_27 rfl (lv_at hl 1 rfl) ?_
            by_cases q3 : ¬ (((L 1)) < 0 ∨ 400 ≤ ((L 1)).toNatClampNeg)
            · rw [if_pos q3] at h
              refine va_iald hx hb hK hP 23 1 rfl rfl (nb_inp q3) dX12_find_28 ?_
              cases hc4 : x_isNamed k 0 (upd (upd (fun _ => 0) 1 ((σ.2.2 22 ((L 1)).toNatClampNeg))) 2 ((σ.2.2 23 ((L 1)).toNatClampNeg))) σ with
              | none => rw [hc4, ob_none] at h; cases h
              | some r4 =>
                rw [hc4, ob_some] at h
                have hFc := va_free (wc := vM cy a σ) hD hS hA [0, 1, 2, 3, 4, 5, 6, 7, 8, 9, 10, 11, 12, 13, 14, 15, 16, 17, 18, 19, 20, 21, 22, 23, 24, 25, 26, 27, 28, 29, 30, 31, 32, 33, 34, 35, 36, 37, 38, 39, 40, 41, 42, 43, 44, 45, 46, 47, 48, 49, 50, 51, 52, 53, 54, 55, 56, 57] rfl
                refine va_calli (va_runV (As := [.int (σ.2.2 22 ((L 1)).toNatClampNeg), .int (σ.2.2 23 ((L 1)).toNatClampNeg)]) (rest := []) ⟨hx, hb, hml, hown, hts⟩ (c_x_isNamed l dC dI cy a k (upd (upd (fun _ => 0) 1 ((σ.2.2 22 ((L 1)).toNatClampNeg))) 2 ((σ.2.2 23 ((L 1)).toNatClampNeg))) σ r4 hc4 H.size) (cwV 2 hts g_x_find_isNamed_123 rfl rfl rfl (by decide +kernel) ⟨Nat.le_of_ble_eq_true rfl, Nat.le_of_ble_eq_true rfl⟩) ⟨nb_blind, va_recv hK hP (ci := 11) (q0 := 0) rfl rfl, fun U hU hW => ⟨rfl, by rw [hU], by rw [hU]; exact hP, va_K.moved hW.alike hK, hD.weaken (fun _ _ _ _ => trivial), hG.warm hW⟩⟩ rfl rfl hl.1 rfl (lv_room (Nat.le_of_ble_eq_true rfl)) dX12_find_29 ⟨Nat.le_of_ble_eq_true rfl, Nat.le_of_ble_eq_true rfl⟩) hS (fun q _ h => hFc q h) hFc (fun z9 _ t H1 locs ht hvm hw hB hz1 hk1 hS => ?_)
                subst hw
                obtain ⟨hP1, hK1, hD1⟩ := hB
                rw [ht] at hP1
                obtain ⟨hP, hD⟩ := va_join (wr := []) (w1 := vM cy a r4.2) hP hD [0, 1, 2, 3, 4, 5, 6, 7, 8, 9, 10, 11, 12, 13, 14, 15, 16, 17, 18, 19, 20, 21, 22, 23, 24, 25, 26, 27, 28, 29, 30, 31, 32, 33, 34, 35, 36, 37, 38, 39, 40, 41, 42, 43, 44, 45, 46, 47, 48, 49, 50, 51, 52, 53, 54, 55, 56, 57] [] rfl rfl (by decide) (by decide) hk1 hFc hP1 hD1
                generalize H1 = H at hP hS ⊢
                have hP : va_P (dC, dI) nCl (vM cy a r4.2) H := hP
                have hD : va_D A (vM cy a r4.2) := hD
                refine lv_if_eq (tgt := 67) hx hb dX12_find_32 (by decide) (fun c5 => ?_) (fun c5 => ?_)
                · rw [if_pos c5] at h
                  exact ih.2.2.2.2.2.2.2.1 L r4.2 r h H locs ls hP hD hS (lv_sub hl [0, 1] rfl)
                · rw [if_neg c5] at h
                  refine lv_aload_n hx hb dX12_find_35 rfl (lv_at hl 0 rfl) ?_
                  refine lv_iconst (v := 1) hx hb dX12_find_36 (by decide) ?_
                  refine va_put (D := (dC, dI)) (ci := 11) (v := .int 1) (ty := .int) (C := RX12) (T := TX12) (N := 121) hx hb hts in_x_find tyX12 tyX12_ok nmX12 hown hK hP hD hS 0 rfl rfl 46 (by decide) (hts _ (List.mem_cons_of_mem _ (List.mem_append_left _ (List.mem_append_left _ (List.mem_of_getElem? (i := 0) rfl))))) (fun _ h9 => h9) rfl (by decide +kernel) rfl rfl (Nat.le_of_ble_eq_true rfl) dX12_find_37 (fun H locs hP hD hS => ?_)
                  have hP : va_P (dC, dI) nCl (vM cy a (upd r4.2.1 46 1, r4.2.2.1, r4.2.2.2)) H := hP
                  have hD : va_D A (vM cy a (upd r4.2.1 46 1, r4.2.2.1, r4.2.2.2)) := hD
                  exact ih.2.2.2.1 L (upd r4.2.1 46 1, r4.2.2.1, r4.2.2.2) r h H locs ls hP hD hS (lv_sub hl [0, 1] rfl)
            · rw [if_neg q3] at h; cases h
          · rw [if_neg q2] at h; cases h
      · intro L σ r h H locs ls hP hD hS hl
        rw [x_find] at h
        refine lv_aload_n hx hb dX12_find_40 rfl (lv_at hl 0 rfl) ?_
        refine lv_aload_n hx hb dX12_find_41 rfl (lv_at hl 0 rfl) ?_
        refine va_get (D := (dC, dI)) (ci := 11) (v := .ref (a 24)) (C := RX12) (T := TX12) (N := 121) hx hb hts in_x_find hown hK hP 0 rfl rfl 41 (by decide) (hts _ (List.mem_cons_of_mem _ (List.mem_append_left _ (List.mem_append_left _ (List.mem_of_getElem? (i := 8) rfl))))) (fun _ h9 => h9) rfl dX12_find_42 ?_
        refine lv_iload_n hx hb dX12_find_45 rfl (lv_at hl 1 rfl) ?_
        by_cases q1 : ¬ (((L 1)) < 0 ∨ 400 ≤ ((L 1)).toNatClampNeg)
        · rw [if_pos q1] at h
          refine va_iald hx hb hK hP 24 1 rfl rfl (nb_inp q1) dX12_find_46 ?_
          refine va_put (D := (dC, dI)) (ci := 11) (v := .int (σ.2.2 24 ((L 1)).toNatClampNeg)) (ty := .int) (C := RX12) (T := TX12) (N := 121) hx hb hts in_x_find tyX12 tyX12_ok nmX12 hown hK hP hD hS 0 rfl rfl 47 (by decide) (hts _ (List.mem_cons_of_mem _ (List.mem_append_left _ (List.mem_append_left _ (List.mem_of_getElem? (i := 9) rfl))))) (fun _ h9 => h9) rfl (by decide +kernel) rfl rfl (Nat.le_of_ble_eq_true rfl) dX12_find_47 (fun H locs hP hD hS => ?_)
          have hP : va_P (dC, dI) nCl (vM cy a (upd σ.1 47 ((σ.2.2 24 ((L 1)).toNatClampNeg)), σ.2.1, σ.2.2)) H := hP
          have hD : va_D A (vM cy a (upd σ.1 47 ((σ.2.2 24 ((L 1)).toNatClampNeg)), σ.2.1, σ.2.2)) := hD
          exact ih.2.2.2.2.1 L (upd σ.1 47 ((σ.2.2 24 ((L 1)).toNatClampNeg)), σ.2.1, σ.2.2) r h H locs ls hP hD hS (lv_sub hl [0, 1] rfl)
        · rw [if_neg q1] at h; cases h
      · intro L σ r h H locs ls hP hD hS hl
        rw [x_find] at h
        refine lv_aload_n hx hb dX12_find_50 rfl (lv_at hl 0 rfl) ?_
        refine lv_aload_n hx hb dX12_find_51 rfl (lv_at hl 0 rfl) ?_
        refine va_get (D := (dC, dI)) (ci := 11) (v := .int (σ.1 37)) (C := RX12) (T := TX12) (N := 121) hx hb hts in_x_find hown hK hP 0 rfl rfl 37 (by decide) (hts _ (List.mem_cons_of_mem _ (List.mem_append_left _ (List.mem_append_left _ (List.mem_of_getElem? (i := 10) rfl))))) (fun _ h9 => h9) rfl dX12_find_52 ?_
        refine lv_if_le (tgt := 62) hx hb dX12_find_55 (by decide) (fun c1 => ?_) (fun c1 => ?_)
        · rw [if_pos c1] at h
          exact ih.2.2.2.2.2.1 L σ r h H locs ls hP hD hS (lv_sub hl [0, 1] rfl)
        · rw [if_neg c1] at h
          refine lv_iconst (v := 1) hx hb dX12_find_58 (by decide) ?_
          refine lv_goto (tgt := 63) hx hb dX12_find_59 (by decide) ?_
          exact ih.2.2.2.2.2.2.1 (upd L 100 1) σ r h H locs ls hP hD hS (lv_sub hl [0, 1] rfl)
      · intro L σ r h H locs ls hP hD hS hl
        rw [x_find] at h
        refine lv_iconst (v := 0) hx hb dX12_find_62 (by decide) ?_
        exact ih.2.2.2.2.2.2.1 (upd L 100 0) σ r h H locs ls hP hD hS (lv_sub hl [0, 1] rfl)
      · intro L σ r h H locs ls hP hD hS hl
        rw [x_find] at h
        by_cases q1 : ((L 100)) = 0 ∨ ((L 100)) = 1
        · rw [if_pos q1] at h
          refine va_put (D := (dC, dI)) (ci := 11) (v := .int (L 100)) (ty := .boolean) (C := RX12) (T := TX12) (N := 121) hx hb hts in_x_find tyX12 tyX12_ok nmX12 hown hK hP hD hS 0 rfl rfl 48 (by decide) (hts _ (List.mem_cons_of_mem _ (List.mem_append_left _ (List.mem_append_left _ (List.mem_of_getElem? (i := 11) rfl))))) (fun _ h9 => h9) rfl (by decide +kernel) (nb_bz q1) (nb_bf q1) (Nat.le_of_ble_eq_true rfl) dX12_find_63 (fun H locs hP hD hS => ?_)
          have hP : va_P (dC, dI) nCl (vM cy a (upd σ.1 48 ((L 100)), σ.2.1, σ.2.2)) H := hP
          have hD : va_D A (vM cy a (upd σ.1 48 ((L 100)), σ.2.1, σ.2.2)) := hD
          cases h
          exact W.vret hx hb hr (fun t ht hW => ⟨⟨(), rfl, trivial, by rw [ht]; exact hP, va_K.moved hW.alike hK, hD⟩, hS.F ht⟩) hS.2.2 dX12_find_66
        · rw [if_neg q1] at h; cases h
      · intro L σ r h H locs ls hP hD hS hl
        rw [x_find] at h
        refine lv_iinc (v := ((L 1)) + (-1)) (lv' := [(1, .int (((L 1)) + (-1))), (0, .ref (a 0))]) hx hb dX12_find_67 hl (k := 1) rfl rfl (by decide) rfl (fun ls hl => ?_)
        refine lv_goto (tgt := 12) hx hb dX12_find_70 (by decide) ?_
        exact ih.2.2.1 (upd L 1 (((L 1)) + (-1))) σ r h H locs ls hP hD hS (lv_sub hl [1, 0] rfl)
      · intro L σ r h H locs ls hP hD hS hl
        rw [x_find] at h
        refine lv_iconst (v := 0) hx hb dX12_find_73 (by decide) ?_
        refine lv_istore_n (lv' := [(1, .int 0), (0, .ref (a 0))]) hx hb dX12_find_74 rfl hl (by decide) rfl (fun ls hl => ?_)
        exact ih.2.2.2.2.2.2.2.2.2.1 (upd L 1 0) σ r h H locs ls hP hD hS (lv_sub hl [1, 0] rfl)
      · intro L σ r h H locs ls hP hD hS hl
        rw [x_find] at h
        refine lv_iload_n hx hb dX12_find_75 rfl (lv_at hl 1 rfl) ?_
        refine lv_aload_n hx hb dX12_find_76 rfl (lv_at hl 0 rfl) ?_
        refine va_get (D := (dC, dI)) (ci := 11) (v := .int (σ.1 25)) (C := RX12) (T := TX12) (N := 121) hx hb hts in_x_find hown hK hP 0 rfl rfl 25 (by decide) (hts _ (List.mem_cons_of_mem _ (List.mem_append_left _ (List.mem_append_left _ (List.mem_of_getElem? (i := 12) rfl))))) (fun _ h9 => h9) rfl dX12_find_77 ?_
        refine lv_icmp_ge (tgt := 134) hx hb dX12_find_80 (by decide) (fun c1 => ?_) (fun c1 => ?_)
        · rw [if_pos c1] at h
          exact ih.2.2.2.2.2.2.2.2.2.2.2.2.2 L σ r h H locs ls hP hD hS (lv_sub hl [0, 1] rfl)
        · rw [if_neg c1] at h
          refine lv_aload_n hx hb dX12_find_83 rfl (lv_at hl 0 rfl) ?_
          refine lv_aload_n hx hb dX12_find_84 rfl (lv_at hl 0 rfl) ?_
          refine va_get (D := (dC, dI)) (ci := 11) (v := .ref (a 14)) (C := RX12) (T := TX12) (N := 121) hx hb hts in_x_find hown hK hP 0 rfl rfl 27 (by decide) (hts _ (List.mem_cons_of_mem _ (List.mem_append_left _ (List.mem_append_left _ (List.mem_of_getElem? (i := 13) rfl))))) (fun _ h9 => h9) rfl dX12_find_85 ?_
          refine lv_iload_n hx hb dX12_find_88 rfl (lv_at hl 1 rfl) ?_
          by_cases q2 : ¬ (((L 1)) < 0 ∨ 200 ≤ ((L 1)).toNatClampNeg)
          · rw [if_pos q2] at h
            refine va_iald hx hb hK hP 14 1 rfl rfl (nb_inp q2) dX12_find_89 ?_
            refine lv_aload_n hx hb dX12_find_90 rfl (lv_at hl 0 rfl) ?_
            refine va_get (D := (dC, dI)) (ci := 11) (v := .ref (a 15)) (C := RX12) (T := TX12) (N := 121) hx hb hts in_x_find hown hK hP 0 rfl rfl 28 (by decide) (hts _ (List.mem_cons_of_mem _ (List.mem_append_left _ (List.mem_append_left _ (List.mem_of_getElem? (i := 14) rfl))))) (fun _ h9 => h9) rfl dX12_find_91 ?_
            refine lv_iload_n hx hb dX12_find_94 rfl (lv_at hl 1 rfl) ?_
            by_cases q3 : ¬ (((L 1)) < 0 ∨ 200 ≤ ((L 1)).toNatClampNeg)
            · rw [if_pos q3] at h
              refine va_iald hx hb hK hP 15 1 rfl rfl (nb_inp q3) dX12_find_95 ?_
              cases hc4 : x_isNamed k 0 (upd (upd (fun _ => 0) 1 ((σ.2.2 14 ((L 1)).toNatClampNeg))) 2 ((σ.2.2 15 ((L 1)).toNatClampNeg))) σ with
              | none => rw [hc4, ob_none] at h; cases h
              | some r4 =>
                rw [hc4, ob_some] at h
                have hFc := va_free (wc := vM cy a σ) hD hS hA [0, 1, 2, 3, 4, 5, 6, 7, 8, 9, 10, 11, 12, 13, 14, 15, 16, 17, 18, 19, 20, 21, 22, 23, 24, 25, 26, 27, 28, 29, 30, 31, 32, 33, 34, 35, 36, 37, 38, 39, 40, 41, 42, 43, 44, 45, 46, 47, 48, 49, 50, 51, 52, 53, 54, 55, 56, 57] rfl
                refine va_calli (va_runV (As := [.int (σ.2.2 14 ((L 1)).toNatClampNeg), .int (σ.2.2 15 ((L 1)).toNatClampNeg)]) (rest := []) ⟨hx, hb, hml, hown, hts⟩ (c_x_isNamed l dC dI cy a k (upd (upd (fun _ => 0) 1 ((σ.2.2 14 ((L 1)).toNatClampNeg))) 2 ((σ.2.2 15 ((L 1)).toNatClampNeg))) σ r4 hc4 H.size) (cwV 2 hts g_x_find_isNamed_123 rfl rfl rfl (by decide +kernel) ⟨Nat.le_of_ble_eq_true rfl, Nat.le_of_ble_eq_true rfl⟩) ⟨nb_blind, va_recv hK hP (ci := 11) (q0 := 0) rfl rfl, fun U hU hW => ⟨rfl, by rw [hU], by rw [hU]; exact hP, va_K.moved hW.alike hK, hD.weaken (fun _ _ _ _ => trivial), hG.warm hW⟩⟩ rfl rfl hl.1 rfl (lv_room (Nat.le_of_ble_eq_true rfl)) dX12_find_96 ⟨Nat.le_of_ble_eq_true rfl, Nat.le_of_ble_eq_true rfl⟩) hS (fun q _ h => hFc q h) hFc (fun z9 _ t H1 locs ht hvm hw hB hz1 hk1 hS => ?_)
                subst hw
                obtain ⟨hP1, hK1, hD1⟩ := hB
                rw [ht] at hP1
                obtain ⟨hP, hD⟩ := va_join (wr := []) (w1 := vM cy a r4.2) hP hD [0, 1, 2, 3, 4, 5, 6, 7, 8, 9, 10, 11, 12, 13, 14, 15, 16, 17, 18, 19, 20, 21, 22, 23, 24, 25, 26, 27, 28, 29, 30, 31, 32, 33, 34, 35, 36, 37, 38, 39, 40, 41, 42, 43, 44, 45, 46, 47, 48, 49, 50, 51, 52, 53, 54, 55, 56, 57] [] rfl rfl (by decide) (by decide) hk1 hFc hP1 hD1
                generalize H1 = H at hP hS ⊢
                have hP : va_P (dC, dI) nCl (vM cy a r4.2) H := hP
                have hD : va_D A (vM cy a r4.2) := hD
                refine lv_if_eq (tgt := 128) hx hb dX12_find_99 (by decide) (fun c5 => ?_) (fun c5 => ?_)
                · rw [if_pos c5] at h
                  exact ih.2.2.2.2.2.2.2.2.2.2.2.2.1 L r4.2 r h H locs ls hP hD hS (lv_sub hl [0, 1] rfl)
                · rw [if_neg c5] at h
                  refine lv_aload_n hx hb dX12_find_102 rfl (lv_at hl 0 rfl) ?_
                  refine lv_aload_n hx hb dX12_find_103 rfl (lv_at hl 0 rfl) ?_
                  refine va_get (D := (dC, dI)) (ci := 11) (v := .ref (a 13)) (C := RX12) (T := TX12) (N := 121) hx hb hts in_x_find hown hK hP 0 rfl rfl 26 (by decide) (hts _ (List.mem_cons_of_mem _ (List.mem_append_left _ (List.mem_append_left _ (List.mem_of_getElem? (i := 15) rfl))))) (fun _ h9 => h9) rfl dX12_find_104 ?_
                  refine lv_iload_n hx hb dX12_find_107 rfl (lv_at hl 1 rfl) ?_
                  by_cases q6 : ¬ (((L 1)) < 0 ∨ 200 ≤ ((L 1)).toNatClampNeg)
                  · rw [if_pos q6] at h
                    refine va_iald hx hb hK hP 13 1 rfl rfl (nb_inp q6) dX12_find_108 ?_
                    refine va_put (D := (dC, dI)) (ci := 11) (v := .int (r4.2.2.2 13 ((L 1)).toNatClampNeg)) (ty := .int) (C := RX12) (T := TX12) (N := 121) hx hb hts in_x_find tyX12 tyX12_ok nmX12 hown hK hP hD hS 0 rfl rfl 46 (by decide) (hts _ (List.mem_cons_of_mem _ (List.mem_append_left _ (List.mem_append_left _ (List.mem_of_getElem? (i := 0) rfl))))) (fun _ h9 => h9) rfl (by decide +kernel) rfl rfl (Nat.le_of_ble_eq_true rfl) dX12_find_109 (fun H locs hP hD hS => ?_)
                    have hP : va_P (dC, dI) nCl (vM cy a (upd r4.2.1 46 ((r4.2.2.2 13 ((L 1)).toNatClampNeg)), r4.2.2.1, r4.2.2.2)) H := hP
                    have hD : va_D A (vM cy a (upd r4.2.1 46 ((r4.2.2.2 13 ((L 1)).toNatClampNeg)), r4.2.2.1, r4.2.2.2)) := hD
                    exact ih.2.2.2.2.2.2.2.2.2.2.1 L (upd r4.2.1 46 ((r4.2.2.2 13 ((L 1)).toNatClampNeg)), r4.2.2.1, r4.2.2.2) r h H locs ls hP hD hS (lv_sub hl [0, 1] rfl)
                  · rw [if_neg q6] at h; cases h
            · rw [if_neg q3] at h; cases h
          · rw [if_neg q2] at h; cases h
      · intro L σ r h H locs ls hP hD hS hl
        rw [x_find] at h
        refine lv_aload_n hx hb dX12_find_112 rfl (lv_at hl 0 rfl) ?_
        refine lv_aload_n hx hb dX12_find_113 rfl (lv_at hl 0 rfl) ?_
        refine va_get (D := (dC, dI)) (ci := 11) (v := .ref (a 16)) (C := RX12) (T := TX12) (N := 121) hx hb hts in_x_find hown hK hP 0 rfl rfl 29 (by decide) (hts _ (List.mem_cons_of_mem _ (List.mem_append_left _ (List.mem_append_left _ (List.mem_of_getElem? (i := 16) rfl))))) (fun _ h9 => h9) rfl dX12_find_114 ?_
        refine lv_iload_n hx hb dX12_find_117 rfl (lv_at hl 1 rfl) ?_
        by_cases q1 : ¬ (((L 1)) < 0 ∨ 200 ≤ ((L 1)).toNatClampNeg)
        · rw [if_pos q1] at h
          refine va_iald hx hb hK hP 16 1 rfl rfl (nb_inp q1) dX12_find_118 ?_
          refine va_put (D := (dC, dI)) (ci := 11) (v := .int (σ.2.2 16 ((L 1)).toNatClampNeg)) (ty := .int) (C := RX12) (T := TX12) (N := 121) hx hb hts in_x_find tyX12 tyX12_ok nmX12 hown hK hP hD hS 0 rfl rfl 47 (by decide) (hts _ (List.mem_cons_of_mem _ (List.mem_append_left _ (List.mem_append_left _ (List.mem_of_getElem? (i := 9) rfl))))) (fun _ h9 => h9) rfl (by decide +kernel) rfl rfl (Nat.le_of_ble_eq_true rfl) dX12_find_119 (fun H locs hP hD hS => ?_)
          have hP : va_P (dC, dI) nCl (vM cy a (upd σ.1 47 ((σ.2.2 16 ((L 1)).toNatClampNeg)), σ.2.1, σ.2.2)) H := hP
          have hD : va_D A (vM cy a (upd σ.1 47 ((σ.2.2 16 ((L 1)).toNatClampNeg)), σ.2.1, σ.2.2)) := hD
          exact ih.2.2.2.2.2.2.2.2.2.2.2.1 L (upd σ.1 47 ((σ.2.2 16 ((L 1)).toNatClampNeg)), σ.2.1, σ.2.2) r h H locs ls hP hD hS (lv_sub hl [0, 1] rfl)
        · rw [if_neg q1] at h; cases h
      · intro L σ r h H locs ls hP hD hS hl
        rw [x_find] at h
        refine lv_aload_n hx hb dX12_find_122 rfl (lv_at hl 0 rfl) ?_
        refine lv_iconst (v := 0) hx hb dX12_find_123 (by decide) ?_
        refine va_put (D := (dC, dI)) (ci := 11) (v := .int 0) (ty := .boolean) (C := RX12) (T := TX12) (N := 121) hx hb hts in_x_find tyX12 tyX12_ok nmX12 hown hK hP hD hS 0 rfl rfl 48 (by decide) (hts _ (List.mem_cons_of_mem _ (List.mem_append_left _ (List.mem_append_left _ (List.mem_of_getElem? (i := 11) rfl))))) (fun _ h9 => h9) rfl (by decide +kernel) rfl rfl (Nat.le_of_ble_eq_true rfl) dX12_find_124 (fun H locs hP hD hS => ?_)
        have hP : va_P (dC, dI) nCl (vM cy a (upd σ.1 48 0, σ.2.1, σ.2.2)) H := hP
        have hD : va_D A (vM cy a (upd σ.1 48 0, σ.2.1, σ.2.2)) := hD
        cases h
        exact W.vret hx hb hr (fun t ht hW => ⟨⟨(), rfl, trivial, by rw [ht]; exact hP, va_K.moved hW.alike hK, hD⟩, hS.F ht⟩) hS.2.2 dX12_find_127
      · intro L σ r h H locs ls hP hD hS hl
        rw [x_find] at h
        refine lv_iinc (v := ((L 1)) + 1) (lv' := [(1, .int (((L 1)) + 1)), (0, .ref (a 0))]) hx hb dX12_find_128 hl (k := 1) rfl rfl (by decide) rfl (fun ls hl => ?_)
        refine lv_goto (tgt := 75) hx hb dX12_find_131 (by decide) ?_
        exact ih.2.2.2.2.2.2.2.2.2.1 (upd L 1 (((L 1)) + 1)) σ r h H locs ls hP hD hS (lv_sub hl [1, 0] rfl)
      · intro L σ r h H locs ls hP hD hS hl
        rw [x_find] at h
        cases h
        exact W.vret hx hb hr (fun t ht hW => ⟨⟨(), rfl, trivial, by rw [ht]; exact hP, va_K.moved hW.alike hK, hD⟩, hS.F ht⟩) hS.2.2 dX12_find_134
  exact (blk k0).1 L0 σ0 r0 h0 s.heap [] ls hP hD hS hl
/-! tellEntity -/
def x_tellEntity : Nat → Nat → (Nat → Int32) → MS → Option (Int32 × MS)
  | 0, _, _, _ => none
  | k + 1, 0, L, σ => if ¬ (((σ.1 25)) < 0 ∨ 200 ≤ ((σ.1 25)).toNatClampNeg) then (x_tellEntity k 1 L (σ.1, σ.2.1, updG σ.2.2 13 (upd (σ.2.2 13) ((σ.1 25)).toNatClampNeg ((L 1))))) else none
  | k + 1, 1, L, σ => ob (x_keep k 0 (upd (upd (fun _ => 0) 1 ((σ.1 8))) 2 ((σ.1 9))) σ) (fun r1 => if ¬ (((σ.1 25)) < 0 ∨ 200 ≤ ((σ.1 25)).toNatClampNeg) then (x_tellEntity k 2 L (r1.2.1, r1.2.2.1, updG r1.2.2.2 14 (upd (r1.2.2.2 14) ((σ.1 25)).toNatClampNeg r1.1))) else none)
  | k + 1, 2, L, σ => if ¬ (((σ.1 25)) < 0 ∨ 200 ≤ ((σ.1 25)).toNatClampNeg) then (x_tellEntity k 3 L (σ.1, σ.2.1, updG σ.2.2 15 (upd (σ.2.2 15) ((σ.1 25)).toNatClampNeg ((((σ.1 9)) - ((σ.1 8))))))) else none
  | k + 1, 3, L, σ => if ¬ (((σ.1 25)) < 0 ∨ 200 ≤ ((σ.1 25)).toNatClampNeg) then (x_tellEntity k 4 L (σ.1, σ.2.1, updG σ.2.2 16 (upd (σ.2.2 16) ((σ.1 25)).toNatClampNeg ((L 2))))) else none
  | k + 1, 4, L, σ => some (0, (upd σ.1 25 ((((σ.1 25)) + 1)), σ.2.1, σ.2.2))
  | _ + 1, _ + 5, _, _ => none
def o_x_tellEntity : List Cond := [.fieldLink RX12 148 "SetHouseModel" "eKind" "[I", .fieldLink RX12 139 "SetHouseModel" "entities" "I", .fieldLink RX12 142 "SetHouseModel" "eFrom" "[I", .fieldLink RX12 32 "SetHouseModel" "tFrom" "I", .fieldLink RX12 55 "SetHouseModel" "tTo" "I", .methodLink RX12 154 yX12_keep, .instanceMethod yX12_keep, .selects RX12 yX12_keep yX12_keep, .initialized RX12, .fieldLink RX12 145 "SetHouseModel" "eSize" "[I", .fieldLink RX12 151 "SetHouseModel" "eNumber" "[I"]
theorem o_x_tellEntity_good : o_x_tellEntity.all goodWord = true := by decide +kernel
def p_x_tellEntity : List Cond := o_x_tellEntity ++ ((.code yX12_keep cX12_keep 5 (some .int) :: p_x_keep) ++ [])
theorem p_x_tellEntity_good : p_x_tellEntity.all goodWord = true := nb_all2 o_x_tellEntity_good (nb_all2 (nb_allc (by decide +kernel) p_x_keep_good) rfl)
def w_x_tellEntity : List Cond := .code yX12_tellEntity cX12_tellEntity 3 none :: (p_x_tellEntity ++ fM)
theorem w_x_tellEntity_good : w_x_tellEntity.all goodWord = true := nb_allc (by decide +kernel) (nb_all2 p_x_tellEntity_good fM_good)
theorem in_x_tellEntity : ∀ w ∈ wsX120, w ∈ w_x_tellEntity := fun _ h => List.mem_cons_of_mem _ (List.mem_append_right _ h)
theorem gg_x_tellEntity_keep : GoodIn w_x_tellEntity w_x_keep := goodIn_sub (fun w h => (List.mem_cons.mp h).elim (fun e => (List.mem_cons_of_mem _ (List.mem_append_left _ (List.mem_append_right _ (List.mem_append_left _ (List.mem_cons.mpr (Or.inl e))))))) (fun h => (List.mem_append.mp h).elim (fun h => (List.mem_cons_of_mem _ (List.mem_append_left _ (List.mem_append_right _ (List.mem_append_left _ (List.mem_cons_of_mem _ h)))))) (fun h => List.mem_cons_of_mem _ (List.mem_append_right _ h)))) w_x_keep_good
theorem g_x_tellEntity_keep_154 : GoodIn w_x_tellEntity (wsV RX12 154 RX12 yX12_keep w_x_keep) := goodIn_app (nb_g4 (List.mem_cons_of_mem _ (List.mem_append_left _ (List.mem_append_left _ (List.mem_of_getElem? (i := 5) rfl)))) (List.mem_cons_of_mem _ (List.mem_append_left _ (List.mem_append_left _ (List.mem_of_getElem? (i := 6) rfl)))) (List.mem_cons_of_mem _ (List.mem_append_left _ (List.mem_append_left _ (List.mem_of_getElem? (i := 7) rfl)))) (List.mem_cons_of_mem _ (List.mem_append_left _ (List.mem_append_left _ (List.mem_of_getElem? (i := 8) rfl)))) (by decide +kernel)) gg_x_tellEntity_keep
set_option maxHeartbeats 40000000 in
set_option maxRecDepth 100000 in
theorem c_x_tellEntity (l : Launch) (dC : Nat → ClassId) (dI : Nat → Nat → Nat) (cy : Nat → ClassId) (a : Nat → Nat) (k0 : Nat) (L0 : Nat → Int32) (σ0 : MS) (r0 : Int32 × MS) (h0 : x_tellEntity k0 0 L0 σ0 = some r0) (sz : Nat) : Met l yX12_tellEntity w_x_tellEntity ({ frames := 1, cells := 0, slots := 0, locals := 24 }) (va_Pc [.ref (a 0), .int (L0 1), .int (L0 2)] (nIn (dC, dI) cy sz (vM cy a σ0))) (va_Qv (fun _ : Unit => True) (fun _ t => nOut (dC, dI) cy (va_A (vM cy a σ0) sz) (vM cy a r0.2) t) (va_A (vM cy a σ0) sz)) 0 0 (va_A (vM cy a σ0) sz) := by
  refine Met.ofW (cc := cX12_tellEntity) (maxL := 3) (ret := none) (by decide) rfl ?_
  intro p e s m args below meth c s₁ B hml hv
  obtain ⟨rfl, hsz, hP, hK, hD0, hG⟩ := hv
  have hx := B.exec
  have hb := B.bytes
  have hr := B.returns
  have hts := atoms_spec (ws := w_x_tellEntity) B.pre
  have hown : s.vm.findClass RX12 = some m.cls := findClass_of_methodNamed B.named
  have hlocks := B.notSynchronized
  subst hsz
  have hD := hD0.self (sz := s.heap.size)
  generalize hAe : va_A (vM cy a σ0) s.heap.size = A at hD ⊢
  have hA : ∀ q : Nat, s.heap.size ≤ q → A q := fun q h => by rw [← hAe]; exact Or.inr h
  have hS : va_S A s.heap s.heap [] := va_S.rf
  have hl := lv_entry ([.ref (a 0), .int (L0 1), .int (L0 2)]) (n := 3) (Nat.le_of_ble_eq_true rfl)
  rw [lg_entry_eq]
  generalize (lg_sl ([.ref (a 0), .int (L0 1), .int (L0 2)]) ++ List.replicate (3 - (lg_sl ([.ref (a 0), .int (L0 1), .int (L0 2)])).length) Slot.unset).toArray = ls at hl ⊢
  have hl : lv_has ls 3 [(0, .ref (a 0)), (1, .int (L0 1)), (2, .int (L0 2))] := hl
  have blk : ∀ k : Nat, (∀ (L : Nat → Int32) (σ : MS) (r : Int32 × MS), x_tellEntity k 0 L σ = some r → ∀ (H : Heap) (locs : List Loc) (ls : Array Slot), va_P (dC, dI) nCl (vM cy a σ) H → va_D A (vM cy a σ) → va_S A s.heap H locs → lv_has ls 3 [(0, .ref (a 0)), (1, .int (L 1)), (2, .int (L 2))] → W p l e (headSpec w_x_tellEntity ({ frames := 1, cells := 0, slots := 0, locals := 24 })).room s m #[.ref (a 0), .int (L0 1), .int (L0 2)] below meth c H locs 0 0 (MQ below (va_Qv (fun _ : Unit => True) (fun _ t => nOut (dC, dI) cy A (vM cy a r.2) t) A) #[.ref (a 0), .int (L0 1), .int (L0 2)] s 0 0 A) (F0 m 0 ls [])) ∧ (∀ (L : Nat → Int32) (σ : MS) (r : Int32 × MS), x_tellEntity k 1 L σ = some r → ∀ (H : Heap) (locs : List Loc) (ls : Array Slot), va_P (dC, dI) nCl (vM cy a σ) H → va_D A (vM cy a σ) → va_S A s.heap H locs → lv_has ls 3 [(0, .ref (a 0)), (1, .int (L 1)), (2, .int (L 2))] → W p l e (headSpec w_x_tellEntity ({ frames := 1, cells := 0, slots := 0, locals := 24 })).room s m #[.ref (a 0), .int (L0 1), .int (L0 2)] below meth c H locs 0 0 (MQ below (va_Qv (fun _ : Unit => True) (fun _ t => nOut (dC, dI) cy A (vM cy a r.2) t) A) #[.ref (a 0), .int (L0 1), .int (L0 2)] s 0 0 A) (F0 m 10 ls [])) ∧ (∀ (L : Nat → Int32) (σ : MS) (r : Int32 × MS), x_tellEntity k 2 L σ = some r → ∀ (H : Heap) (locs : List Loc) (ls : Array Slot), va_P (dC, dI) nCl (vM cy a σ) H → va_D A (vM cy a σ) → va_S A s.heap H locs → lv_has ls 3 [(0, .ref (a 0)), (1, .int (L 1)), (2, .int (L 2))] → W p l e (headSpec w_x_tellEntity ({ frames := 1, cells := 0, slots := 0, locals := 24 })).room s m #[.ref (a 0), .int (L0 1), .int (L0 2)] below meth c H locs 0 0 (MQ below (va_Qv (fun _ : Unit => True) (fun _ t => nOut (dC, dI) cy A (vM cy a r.2) t) A) #[.ref (a 0), .int (L0 1), .int (L0 2)] s 0 0 A) (F0 m 31 ls [])) ∧ (∀ (L : Nat → Int32) (σ : MS) (r : Int32 × MS), x_tellEntity k 3 L σ = some r → ∀ (H : Heap) (locs : List Loc) (ls : Array Slot), va_P (dC, dI) nCl (vM cy a σ) H → va_D A (vM cy a σ) → va_S A s.heap H locs → lv_has ls 3 [(0, .ref (a 0)), (1, .int (L 1)), (2, .int (L 2))] → W p l e (headSpec w_x_tellEntity ({ frames := 1, cells := 0, slots := 0, locals := 24 })).room s m #[.ref (a 0), .int (L0 1), .int (L0 2)] below meth c H locs 0 0 (MQ below (va_Qv (fun _ : Unit => True) (fun _ t => nOut (dC, dI) cy A (vM cy a r.2) t) A) #[.ref (a 0), .int (L0 1), .int (L0 2)] s 0 0 A) (F0 m 49 ls [])) ∧ (∀ (L : Nat → Int32) (σ : MS) (r : Int32 × MS), x_tellEntity k 4 L σ = some r → ∀ (H : Heap) (locs : List Loc) (ls : Array Slot), va_P (dC, dI) nCl (vM cy a σ) H → va_D A (vM cy a σ) → va_S A s.heap H locs → lv_has ls 3 [(0, .ref (a 0)), (1, .int (L 1)), (2, .int (L 2))] → W p l e (headSpec w_x_tellEntity ({ frames := 1, cells := 0, slots := 0, locals := 24 })).room s m #[.ref (a 0), .int (L0 1), .int (L0 2)] below meth c H locs 0 0 (MQ below (va_Qv (fun _ : Unit => True) (fun _ t => nOut (dC, dI) cy A (vM cy a r.2) t) A) #[.ref (a 0), .int (L0 1), .int (L0 2)] s 0 0 A) (F0 m 59 ls [])) := by
    intro k
    induction k with
    | zero => exact ⟨fun L σ r h => (by cases h), fun L σ r h => (by cases h), fun L σ r h => (by cases h), fun L σ r h => (by cases h), fun L σ r h => (by cases h)⟩
    | succ k ih =>
      refine ⟨?_, ?_, ?_, ?_, ?_⟩
      · intro L σ r h H locs ls hP hD hS hl
        rw [x_tellEntity] at h
        refine lv_aload_n hx hb dX12_tellEntity_0 rfl (lv_at hl 0 rfl) ?_
        refine va_get (D := (dC, dI)) (ci := 11) (v := .ref (a 13)) (C := RX12) (T := TX12) (N := 121) hx hb hts in_x_tellEntity hown hK hP 0 rfl rfl 26 (by decide) (hts _ (List.mem_cons_of_mem _ (List.mem_append_left _ (List.mem_append_left _ (List.mem_of_getElem? (i := 0) rfl))))) (fun _ h9 => h9) rfl dX12_tellEntity_1 ?_
        refine lv_aload_n hx hb dX12_tellEntity_4 rfl (lv_at hl 0 rfl) ?_
        refine va_get (D := (dC, dI)) (ci := 11) (v := .int (σ.1 25)) (C := RX12) (T := TX12) (N := 121) hx hb hts in_x_tellEntity hown hK hP 0 rfl rfl 25 (by decide) (hts _ (List.mem_cons_of_mem _ (List.mem_append_left _ (List.mem_append_left _ (List.mem_of_getElem? (i := 1) rfl))))) (fun _ h9 => h9) rfl dX12_tellEntity_5 ?_
        refine lv_iload_n hx hb dX12_tellEntity_8 rfl (lv_at hl 1 rfl) ?_
        by_cases q1 : ¬ (((σ.1 25)) < 0 ∨ 200 ≤ ((σ.1 25)).toNatClampNeg)
        · rw [if_pos q1] at h
          refine va_iast hx hb hK hP hD hS 13 1 rfl rfl (nb_inp q1) dX12_tellEntity_9 (fun H locs hP hD hS => ?_)
          have hP : va_P (dC, dI) nCl (vM cy a (σ.1, σ.2.1, updG σ.2.2 13 (upd (σ.2.2 13) ((σ.1 25)).toNatClampNeg ((L 1))))) H := hP
          have hD : va_D A (vM cy a (σ.1, σ.2.1, updG σ.2.2 13 (upd (σ.2.2 13) ((σ.1 25)).toNatClampNeg ((L 1))))) := hD
          exact ih.2.1 L (σ.1, σ.2.1, updG σ.2.2 13 (upd (σ.2.2 13) ((σ.1 25)).toNatClampNeg ((L 1)))) r h H locs ls hP hD hS (lv_sub hl [0, 1, 2] rfl)
        · rw [if_neg q1] at h; cases h
      · intro L σ r h H locs ls hP hD hS hl
        rw [x_tellEntity] at h
        refine lv_aload_n hx hb dX12_tellEntity_10 rfl (lv_at hl 0 rfl) ?_
        refine va_get (D := (dC, dI)) (ci := 11) (v := .ref (a 14)) (C := RX12) (T := TX12) (N := 121) hx hb hts in_x_tellEntity hown hK hP 0 rfl rfl 27 (by decide) (hts _ (List.mem_cons_of_mem _ (List.mem_append_left _ (List.mem_append_left _ (List.mem_of_getElem? (i := 2) rfl))))) (fun _ h9 => h9) rfl dX12_tellEntity_11 ?_
        refine lv_aload_n hx hb dX12_tellEntity_14 rfl (lv_at hl 0 rfl) ?_
        refine va_get (D := (dC, dI)) (ci := 11) (v := .int (σ.1 25)) (C := RX12) (T := TX12) (N := 121) hx hb hts in_x_tellEntity hown hK hP 0 rfl rfl 25 (by decide) (hts _ (List.mem_cons_of_mem _ (List.mem_append_left _ (List.mem_append_left _ (List.mem_of_getElem? (i := 1) rfl))))) (fun _ h9 => h9) rfl dX12_tellEntity_15 ?_
        refine lv_aload_n hx hb dX12_tellEntity_18 rfl (lv_at hl 0 rfl) ?_
        refine lv_aload_n hx hb dX12_tellEntity_19 rfl (lv_at hl 0 rfl) ?_
        refine va_get (D := (dC, dI)) (ci := 11) (v := .int (σ.1 8)) (C := RX12) (T := TX12) (N := 121) hx hb hts in_x_tellEntity hown hK hP 0 rfl rfl 8 (by decide) (hts _ (List.mem_cons_of_mem _ (List.mem_append_left _ (List.mem_append_left _ (List.mem_of_getElem? (i := 3) rfl))))) (fun _ h9 => h9) rfl dX12_tellEntity_20 ?_
        refine lv_aload_n hx hb dX12_tellEntity_23 rfl (lv_at hl 0 rfl) ?_
        refine va_get (D := (dC, dI)) (ci := 11) (v := .int (σ.1 9)) (C := RX12) (T := TX12) (N := 121) hx hb hts in_x_tellEntity hown hK hP 0 rfl rfl 9 (by decide) (hts _ (List.mem_cons_of_mem _ (List.mem_append_left _ (List.mem_append_left _ (List.mem_of_getElem? (i := 4) rfl))))) (fun _ h9 => h9) rfl dX12_tellEntity_24 ?_
        cases hc1 : x_keep k 0 (upd (upd (fun _ => 0) 1 ((σ.1 8))) 2 ((σ.1 9))) σ with
        | none => rw [hc1, ob_none] at h; cases h
        | some r1 =>
          rw [hc1, ob_some] at h
          have hFc := va_free (wc := vM cy a σ) hD hS hA [0, 1, 2, 3, 4, 5, 6, 7, 8, 9, 10, 11, 12, 13, 14, 15, 16, 17, 18, 19, 20, 21, 22, 23, 24, 25, 26, 27, 28, 29, 30, 31, 32, 33, 34, 35, 36, 37, 38, 39, 40, 41, 42, 43, 44, 45, 46, 47, 48, 49, 50, 51, 52, 53, 54, 55, 56, 57] rfl
          refine va_calli (va_runV (As := [.int (σ.1 8), .int (σ.1 9)]) (rest := [.int (σ.1 25), .ref (a 14)]) ⟨hx, hb, hml, hown, hts⟩ (c_x_keep l dC dI cy a k (upd (upd (fun _ => 0) 1 ((σ.1 8))) 2 ((σ.1 9))) σ r1 hc1 H.size) (cwV 2 hts g_x_tellEntity_keep_154 rfl rfl rfl (by decide +kernel) ⟨Nat.le_of_ble_eq_true rfl, Nat.le_of_ble_eq_true rfl⟩) ⟨nb_blind, va_recv hK hP (ci := 11) (q0 := 0) rfl rfl, fun U hU hW => ⟨rfl, by rw [hU], by rw [hU]; exact hP, va_K.moved hW.alike hK, hD.weaken (fun _ _ _ _ => trivial), hG.warm hW⟩⟩ rfl rfl hl.1 rfl (lv_room (Nat.le_of_ble_eq_true rfl)) dX12_tellEntity_27 ⟨Nat.le_of_ble_eq_true rfl, Nat.le_of_ble_eq_true rfl⟩) hS (fun q _ h => hFc q h) hFc (fun z9 _ t H1 locs ht hvm hw hB hz1 hk1 hS => ?_)
          subst hw
          obtain ⟨hP1, hK1, hD1⟩ := hB
          rw [ht] at hP1
          obtain ⟨hP, hD⟩ := va_join (wr := []) (w1 := vM cy a r1.2) hP hD [0, 1, 2, 3, 4, 5, 6, 7, 8, 9, 10, 11, 12, 13, 14, 15, 16, 17, 18, 19, 20, 21, 22, 23, 24, 25, 26, 27, 28, 29, 30, 31, 32, 33, 34, 35, 36, 37, 38, 39, 40, 41, 42, 43, 44, 45, 46, 47, 48, 49, 50, 51, 52, 53, 54, 55, 56, 57] [] rfl rfl (by decide) (by decide) hk1 hFc hP1 hD1
          generalize H1 = H at hP hS ⊢
          have hP : va_P (dC, dI) nCl (vM cy a r1.2) H := hP
          have hD : va_D A (vM cy a r1.2) := hD
          by_cases q2 : ¬ (((σ.1 25)) < 0 ∨ 200 ≤ ((σ.1 25)).toNatClampNeg)
          · rw [if_pos q2] at h
            refine va_iast hx hb hK hP hD hS 14 1 rfl rfl (nb_inp q2) dX12_tellEntity_30 (fun H locs hP hD hS => ?_)
            have hP : va_P (dC, dI) nCl (vM cy a (r1.2.1, r1.2.2.1, updG r1.2.2.2 14 (upd (r1.2.2.2 14) ((σ.1 25)).toNatClampNeg r1.1))) H := hP
            have hD : va_D A (vM cy a (r1.2.1, r1.2.2.1, updG r1.2.2.2 14 (upd (r1.2.2.2 14) ((σ.1 25)).toNatClampNeg r1.1))) := hD
            exact ih.2.2.1 L (r1.2.1, r1.2.2.1, updG r1.2.2.2 14 (upd (r1.2.2.2 14) ((σ.1 25)).toNatClampNeg r1.1)) r h H locs ls hP hD hS (lv_sub hl [0, 1, 2] rfl)
          · rw [if_neg q2] at h; cases h
      · intro L σ r h H locs ls hP hD hS hl
        rw [x_tellEntity] at h
        refine lv_aload_n hx hb dX12_tellEntity_31 rfl (lv_at hl 0 rfl) ?_
        refine va_get (D := (dC, dI)) (ci := 11) (v := .ref (a 15)) (C := RX12) (T := TX12) (N := 121) hx hb hts in_x_tellEntity hown hK hP 0 rfl rfl 28 (by decide) (hts _ (List.mem_cons_of_mem _ (List.mem_append_left _ (List.mem_append_left _ (List.mem_of_getElem? (i := 9) rfl))))) (fun _ h9 => h9) rfl dX12_tellEntity_32 ?_
        refine lv_aload_n hx hb dX12_tellEntity_35 rfl (lv_at hl 0 rfl) ?_
        refine va_get (D := (dC, dI)) (ci := 11) (v := .int (σ.1 25)) (C := RX12) (T := TX12) (N := 121) hx hb hts in_x_tellEntity hown hK hP 0 rfl rfl 25 (by decide) (hts _ (List.mem_cons_of_mem _ (List.mem_append_left _ (List.mem_append_left _ (List.mem_of_getElem? (i := 1) rfl))))) (fun _ h9 => h9) rfl dX12_tellEntity_36 ?_
        refine lv_aload_n hx hb dX12_tellEntity_39 rfl (lv_at hl 0 rfl) ?_
        refine va_get (D := (dC, dI)) (ci := 11) (v := .int (σ.1 9)) (C := RX12) (T := TX12) (N := 121) hx hb hts in_x_tellEntity hown hK hP 0 rfl rfl 9 (by decide) (hts _ (List.mem_cons_of_mem _ (List.mem_append_left _ (List.mem_append_left _ (List.mem_of_getElem? (i := 4) rfl))))) (fun _ h9 => h9) rfl dX12_tellEntity_40 ?_
        refine lv_aload_n hx hb dX12_tellEntity_43 rfl (lv_at hl 0 rfl) ?_
        refine va_get (D := (dC, dI)) (ci := 11) (v := .int (σ.1 8)) (C := RX12) (T := TX12) (N := 121) hx hb hts in_x_tellEntity hown hK hP 0 rfl rfl 8 (by decide) (hts _ (List.mem_cons_of_mem _ (List.mem_append_left _ (List.mem_append_left _ (List.mem_of_getElem? (i := 3) rfl))))) (fun _ h9 => h9) rfl dX12_tellEntity_44 ?_
        refine lv_isub hx hb dX12_tellEntity_47 ?_
        by_cases q1 : ¬ (((σ.1 25)) < 0 ∨ 200 ≤ ((σ.1 25)).toNatClampNeg)
        · rw [if_pos q1] at h
          refine va_iast hx hb hK hP hD hS 15 1 rfl rfl (nb_inp q1) dX12_tellEntity_48 (fun H locs hP hD hS => ?_)
          have hP : va_P (dC, dI) nCl (vM cy a (σ.1, σ.2.1, updG σ.2.2 15 (upd (σ.2.2 15) ((σ.1 25)).toNatClampNeg ((((σ.1 9)) - ((σ.1 8))))))) H := hP
          have hD : va_D A (vM cy a (σ.1, σ.2.1, updG σ.2.2 15 (upd (σ.2.2 15) ((σ.1 25)).toNatClampNeg ((((σ.1 9)) - ((σ.1 8))))))) := hD
          exact ih.2.2.2.1 L (σ.1, σ.2.1, updG σ.2.2 15 (upd (σ.2.2 15) ((σ.1 25)).toNatClampNeg ((((σ.1 9)) - ((σ.1 8)))))) r h H locs ls hP hD hS (lv_sub hl [0, 1, 2] rfl)
        · rw [if_neg q1] at h; cases h
      · intro L σ r h H locs ls hP hD hS hl
        rw [x_tellEntity] at h
        refine lv_aload_n hx hb dX12_tellEntity_49 rfl (lv_at hl 0 rfl) ?_
        refine va_get (D := (dC, dI)) (ci := 11) (v := .ref (a 16)) (C := RX12) (T := TX12) (N := 121) hx hb hts in_x_tellEntity hown hK hP 0 rfl rfl 29 (by decide) (hts _ (List.mem_cons_of_mem _ (List.mem_append_left _ (List.mem_append_left _ (List.mem_of_getElem? (i := 10) rfl))))) (fun _ h9 => h9) rfl dX12_tellEntity_50 ?_
        refine lv_aload_n hx hb dX12_tellEntity_53 rfl (lv_at hl 0 rfl) ?_
        refine va_get (D := (dC, dI)) (ci := 11) (v := .int (σ.1 25)) (C := RX12) (T := TX12) (N := 121) hx hb hts in_x_tellEntity hown hK hP 0 rfl rfl 25 (by decide) (hts _ (List.mem_cons_of_mem _ (List.mem_append_left _ (List.mem_append_left _ (List.mem_of_getElem? (i := 1) rfl))))) (fun _ h9 => h9) rfl dX12_tellEntity_54 ?_
        refine lv_iload_n hx hb dX12_tellEntity_57 rfl (lv_at hl 2 rfl) ?_
        by_cases q1 : ¬ (((σ.1 25)) < 0 ∨ 200 ≤ ((σ.1 25)).toNatClampNeg)
        · rw [if_pos q1] at h
          refine va_iast hx hb hK hP hD hS 16 1 rfl rfl (nb_inp q1) dX12_tellEntity_58 (fun H locs hP hD hS => ?_)
          have hP : va_P (dC, dI) nCl (vM cy a (σ.1, σ.2.1, updG σ.2.2 16 (upd (σ.2.2 16) ((σ.1 25)).toNatClampNeg ((L 2))))) H := hP
          have hD : va_D A (vM cy a (σ.1, σ.2.1, updG σ.2.2 16 (upd (σ.2.2 16) ((σ.1 25)).toNatClampNeg ((L 2))))) := hD
          exact ih.2.2.2.2 L (σ.1, σ.2.1, updG σ.2.2 16 (upd (σ.2.2 16) ((σ.1 25)).toNatClampNeg ((L 2)))) r h H locs ls hP hD hS (lv_sub hl [0, 1, 2] rfl)
        · rw [if_neg q1] at h; cases h
      · intro L σ r h H locs ls hP hD hS hl
        rw [x_tellEntity] at h
        refine lv_aload_n hx hb dX12_tellEntity_59 rfl (lv_at hl 0 rfl) ?_
        refine lv_dup hx hb dX12_tellEntity_60 rfl ?_
        refine va_get (D := (dC, dI)) (ci := 11) (v := .int (σ.1 25)) (C := RX12) (T := TX12) (N := 121) hx hb hts in_x_tellEntity hown hK hP 0 rfl rfl 25 (by decide) (hts _ (List.mem_cons_of_mem _ (List.mem_append_left _ (List.mem_append_left _ (List.mem_of_getElem? (i := 1) rfl))))) (fun _ h9 => h9) rfl dX12_tellEntity_61 ?_
        refine lv_iconst (v := 1) hx hb dX12_tellEntity_64 (by decide) ?_
        refine lv_iadd hx hb dX12_tellEntity_65 ?_
        refine va_put (D := (dC, dI)) (ci := 11) (v := .int (((σ.1 25)) + 1)) (ty := .int) (C := RX12) (T := TX12) (N := 121) hx hb hts in_x_tellEntity tyX12 tyX12_ok nmX12 hown hK hP hD hS 0 rfl rfl 25 (by decide) (hts _ (List.mem_cons_of_mem _ (List.mem_append_left _ (List.mem_append_left _ (List.mem_of_getElem? (i := 1) rfl))))) (fun _ h9 => h9) rfl (by decide +kernel) rfl rfl (Nat.le_of_ble_eq_true rfl) dX12_tellEntity_66 (fun H locs hP hD hS => ?_)
        have hP : va_P (dC, dI) nCl (vM cy a (upd σ.1 25 ((((σ.1 25)) + 1)), σ.2.1, σ.2.2)) H := hP
        have hD : va_D A (vM cy a (upd σ.1 25 ((((σ.1 25)) + 1)), σ.2.1, σ.2.2)) := hD
        cases h
        exact W.vret hx hb hr (fun t ht hW => ⟨⟨(), rfl, trivial, by rw [ht]; exact hP, va_K.moved hW.alike hK, hD⟩, hS.F ht⟩) hS.2.2 dX12_tellEntity_69
  exact (blk k0).1 L0 σ0 r0 h0 s.heap [] ls hP hD hS hl
/-! see -/
def x_see : Nat → Nat → (Nat → Int32) → MS → Option (Int32 × MS)
  | 0, _, _, _ => none
  | k + 1, 0, L, σ => if ¬ (((σ.1 38)) < 0 ∨ 400 ≤ ((σ.1 38)).toNatClampNeg) then (x_see k 1 L (σ.1, σ.2.1, updG σ.2.2 22 (upd (σ.2.2 22) ((σ.1 38)).toNatClampNeg ((L 1))))) else none
  | k + 1, 1, L, σ => if ¬ (((σ.1 38)) < 0 ∨ 400 ≤ ((σ.1 38)).toNatClampNeg) then (x_see k 2 L (σ.1, σ.2.1, updG σ.2.2 23 (upd (σ.2.2 23) ((σ.1 38)).toNatClampNeg ((L 2))))) else none
  | k + 1, 2, L, σ => if ¬ (((σ.1 38)) < 0 ∨ 400 ≤ ((σ.1 38)).toNatClampNeg) then (x_see k 3 L (σ.1, σ.2.1, updG σ.2.2 24 (upd (σ.2.2 24) ((σ.1 38)).toNatClampNeg ((L 3))))) else none
  | k + 1, 3, L, σ => some (0, (upd σ.1 38 ((((σ.1 38)) + 1)), σ.2.1, σ.2.2))
  | _ + 1, _ + 4, _, _ => none
def o_x_see : List Cond := [.fieldLink RX12 117 "SetHouseModel" "nFrom" "[I", .fieldLink RX12 114 "SetHouseModel" "seenNames" "I", .fieldLink RX12 120 "SetHouseModel" "nSize" "[I", .fieldLink RX12 127 "SetHouseModel" "nSlot" "[I"]
theorem o_x_see_good : o_x_see.all goodWord = true := by decide +kernel
def p_x_see : List Cond := o_x_see ++ []
theorem p_x_see_good : p_x_see.all goodWord = true := nb_all2 o_x_see_good rfl
def w_x_see : List Cond := .code yX12_see cX12_see 4 none :: (p_x_see ++ fM)
theorem w_x_see_good : w_x_see.all goodWord = true := nb_allc (by decide +kernel) (nb_all2 p_x_see_good fM_good)
theorem in_x_see : ∀ w ∈ wsX120, w ∈ w_x_see := fun _ h => List.mem_cons_of_mem _ (List.mem_append_right _ h)
set_option maxHeartbeats 40000000 in
set_option maxRecDepth 100000 in
theorem c_x_see (l : Launch) (dC : Nat → ClassId) (dI : Nat → Nat → Nat) (cy : Nat → ClassId) (a : Nat → Nat) (k0 : Nat) (L0 : Nat → Int32) (σ0 : MS) (r0 : Int32 × MS) (h0 : x_see k0 0 L0 σ0 = some r0) (sz : Nat) : Met l yX12_see w_x_see ({ frames := 0, cells := 0, slots := 0, locals := 0 }) (va_Pc [.ref (a 0), .int (L0 1), .int (L0 2), .int (L0 3)] (nIn (dC, dI) cy sz (vM cy a σ0))) (va_Qv (fun _ : Unit => True) (fun _ t => nOut (dC, dI) cy (va_A (vM cy a σ0) sz) (vM cy a r0.2) t) (va_A (vM cy a σ0) sz)) 0 0 (va_A (vM cy a σ0) sz) := by
  refine Met.ofW (cc := cX12_see) (maxL := 4) (ret := none) (by decide) rfl ?_
  intro p e s m args below meth c s₁ B hml hv
  obtain ⟨rfl, hsz, hP, hK, hD0, hG⟩ := hv
  have hx := B.exec
  have hb := B.bytes
  have hr := B.returns
  have hts := atoms_spec (ws := w_x_see) B.pre
  have hown : s.vm.findClass RX12 = some m.cls := findClass_of_methodNamed B.named
  have hlocks := B.notSynchronized
  subst hsz
  have hD := hD0.self (sz := s.heap.size)
  generalize hAe : va_A (vM cy a σ0) s.heap.size = A at hD ⊢
  have hA : ∀ q : Nat, s.heap.size ≤ q → A q := fun q h => by rw [← hAe]; exact Or.inr h
  have hS : va_S A s.heap s.heap [] := va_S.rf
  have hl := lv_entry ([.ref (a 0), .int (L0 1), .int (L0 2), .int (L0 3)]) (n := 4) (Nat.le_of_ble_eq_true rfl)
  rw [lg_entry_eq]
  generalize (lg_sl ([.ref (a 0), .int (L0 1), .int (L0 2), .int (L0 3)]) ++ List.replicate (4 - (lg_sl ([.ref (a 0), .int (L0 1), .int (L0 2), .int (L0 3)])).length) Slot.unset).toArray = ls at hl ⊢
  have hl : lv_has ls 4 [(0, .ref (a 0)), (1, .int (L0 1)), (2, .int (L0 2)), (3, .int (L0 3))] := hl
  have blk : ∀ k : Nat, (∀ (L : Nat → Int32) (σ : MS) (r : Int32 × MS), x_see k 0 L σ = some r → ∀ (H : Heap) (locs : List Loc) (ls : Array Slot), va_P (dC, dI) nCl (vM cy a σ) H → va_D A (vM cy a σ) → va_S A s.heap H locs → lv_has ls 4 [(0, .ref (a 0)), (1, .int (L 1)), (2, .int (L 2)), (3, .int (L 3))] → W p l e (headSpec w_x_see ({ frames := 0, cells := 0, slots := 0, locals := 0 })).room s m #[.ref (a 0), .int (L0 1), .int (L0 2), .int (L0 3)] below meth c H locs 0 0 (MQ below (va_Qv (fun _ : Unit => True) (fun _ t => nOut (dC, dI) cy A (vM cy a r.2) t) A) #[.ref (a 0), .int (L0 1), .int (L0 2), .int (L0 3)] s 0 0 A) (F0 m 0 ls [])) ∧ (∀ (L : Nat → Int32) (σ : MS) (r : Int32 × MS), x_see k 1 L σ = some r → ∀ (H : Heap) (locs : List Loc) (ls : Array Slot), va_P (dC, dI) nCl (vM cy a σ) H → va_D A (vM cy a σ) → va_S A s.heap H locs → lv_has ls 4 [(0, .ref (a 0)), (1, .int (L 1)), (2, .int (L 2)), (3, .int (L 3))] → W p l e (headSpec w_x_see ({ frames := 0, cells := 0, slots := 0, locals := 0 })).room s m #[.ref (a 0), .int (L0 1), .int (L0 2), .int (L0 3)] below meth c H locs 0 0 (MQ below (va_Qv (fun _ : Unit => True) (fun _ t => nOut (dC, dI) cy A (vM cy a r.2) t) A) #[.ref (a 0), .int (L0 1), .int (L0 2), .int (L0 3)] s 0 0 A) (F0 m 10 ls [])) ∧ (∀ (L : Nat → Int32) (σ : MS) (r : Int32 × MS), x_see k 2 L σ = some r → ∀ (H : Heap) (locs : List Loc) (ls : Array Slot), va_P (dC, dI) nCl (vM cy a σ) H → va_D A (vM cy a σ) → va_S A s.heap H locs → lv_has ls 4 [(0, .ref (a 0)), (1, .int (L 1)), (2, .int (L 2)), (3, .int (L 3))] → W p l e (headSpec w_x_see ({ frames := 0, cells := 0, slots := 0, locals := 0 })).room s m #[.ref (a 0), .int (L0 1), .int (L0 2), .int (L0 3)] below meth c H locs 0 0 (MQ below (va_Qv (fun _ : Unit => True) (fun _ t => nOut (dC, dI) cy A (vM cy a r.2) t) A) #[.ref (a 0), .int (L0 1), .int (L0 2), .int (L0 3)] s 0 0 A) (F0 m 20 ls [])) ∧ (∀ (L : Nat → Int32) (σ : MS) (r : Int32 × MS), x_see k 3 L σ = some r → ∀ (H : Heap) (locs : List Loc) (ls : Array Slot), va_P (dC, dI) nCl (vM cy a σ) H → va_D A (vM cy a σ) → va_S A s.heap H locs → lv_has ls 4 [(0, .ref (a 0)), (1, .int (L 1)), (2, .int (L 2)), (3, .int (L 3))] → W p l e (headSpec w_x_see ({ frames := 0, cells := 0, slots := 0, locals := 0 })).room s m #[.ref (a 0), .int (L0 1), .int (L0 2), .int (L0 3)] below meth c H locs 0 0 (MQ below (va_Qv (fun _ : Unit => True) (fun _ t => nOut (dC, dI) cy A (vM cy a r.2) t) A) #[.ref (a 0), .int (L0 1), .int (L0 2), .int (L0 3)] s 0 0 A) (F0 m 30 ls [])) := by
    intro k
    induction k with
    | zero => exact ⟨fun L σ r h => (by cases h), fun L σ r h => (by cases h), fun L σ r h => (by cases h), fun L σ r h => (by cases h)⟩
    | succ k ih =>
      refine ⟨?_, ?_, ?_, ?_⟩
      · intro L σ r h H locs ls hP hD hS hl
        rw [x_see] at h
        refine lv_aload_n hx hb dX12_see_0 rfl (lv_at hl 0 rfl) ?_
        refine va_get (D := (dC, dI)) (ci := 11) (v := .ref (a 22)) (C := RX12) (T := TX12) (N := 121) hx hb hts in_x_see hown hK hP 0 rfl rfl 39 (by decide) (hts _ (List.mem_cons_of_mem _ (List.mem_append_left _ (List.mem_append_left _ (List.mem_of_getElem? (i := 0) rfl))))) (fun _ h9 => h9) rfl dX12_see_1 ?_
        refine lv_aload_n hx hb dX12_see_4 rfl (lv_at hl 0 rfl) ?_
        refine va_get (D := (dC, dI)) (ci := 11) (v := .int (σ.1 38)) (C := RX12) (T := TX12) (N := 121) hx hb hts in_x_see hown hK hP 0 rfl rfl 38 (by decide) (hts _ (List.mem_cons_of_mem _ (List.mem_append_left _ (List.mem_append_left _ (List.mem_of_getElem? (i := 1) rfl))))) (fun _ h9 => h9) rfl dX12_see_5 ?_
        refine lv_iload_n hx hb dX12_see_8 rfl (lv_at hl 1 rfl) ?_
        by_cases q1 : ¬ (((σ.1 38)) < 0 ∨ 400 ≤ ((σ.1 38)).toNatClampNeg)
        · rw [if_pos q1] at h
          refine va_iast hx hb hK hP hD hS 22 1 rfl rfl (nb_inp q1) dX12_see_9 (fun H locs hP hD hS => ?_)
          have hP : va_P (dC, dI) nCl (vM cy a (σ.1, σ.2.1, updG σ.2.2 22 (upd (σ.2.2 22) ((σ.1 38)).toNatClampNeg ((L 1))))) H := hP
          have hD : va_D A (vM cy a (σ.1, σ.2.1, updG σ.2.2 22 (upd (σ.2.2 22) ((σ.1 38)).toNatClampNeg ((L 1))))) := hD
          exact ih.2.1 L (σ.1, σ.2.1, updG σ.2.2 22 (upd (σ.2.2 22) ((σ.1 38)).toNatClampNeg ((L 1)))) r h H locs ls hP hD hS (lv_sub hl [0, 1, 2, 3] rfl)
        · rw [if_neg q1] at h; cases h
      · intro L σ r h H locs ls hP hD hS hl
        rw [x_see] at h
        refine lv_aload_n hx hb dX12_see_10 rfl (lv_at hl 0 rfl) ?_
        refine va_get (D := (dC, dI)) (ci := 11) (v := .ref (a 23)) (C := RX12) (T := TX12) (N := 121) hx hb hts in_x_see hown hK hP 0 rfl rfl 40 (by decide) (hts _ (List.mem_cons_of_mem _ (List.mem_append_left _ (List.mem_append_left _ (List.mem_of_getElem? (i := 2) rfl))))) (fun _ h9 => h9) rfl dX12_see_11 ?_
        refine lv_aload_n hx hb dX12_see_14 rfl (lv_at hl 0 rfl) ?_
        refine va_get (D := (dC, dI)) (ci := 11) (v := .int (σ.1 38)) (C := RX12) (T := TX12) (N := 121) hx hb hts in_x_see hown hK hP 0 rfl rfl 38 (by decide) (hts _ (List.mem_cons_of_mem _ (List.mem_append_left _ (List.mem_append_left _ (List.mem_of_getElem? (i := 1) rfl))))) (fun _ h9 => h9) rfl dX12_see_15 ?_
        refine lv_iload_n hx hb dX12_see_18 rfl (lv_at hl 2 rfl) ?_
        by_cases q1 : ¬ (((σ.1 38)) < 0 ∨ 400 ≤ ((σ.1 38)).toNatClampNeg)
        · rw [if_pos q1] at h
          refine va_iast hx hb hK hP hD hS 23 1 rfl rfl (nb_inp q1) dX12_see_19 (fun H locs hP hD hS => ?_)
          have hP : va_P (dC, dI) nCl (vM cy a (σ.1, σ.2.1, updG σ.2.2 23 (upd (σ.2.2 23) ((σ.1 38)).toNatClampNeg ((L 2))))) H := hP
          have hD : va_D A (vM cy a (σ.1, σ.2.1, updG σ.2.2 23 (upd (σ.2.2 23) ((σ.1 38)).toNatClampNeg ((L 2))))) := hD
          exact ih.2.2.1 L (σ.1, σ.2.1, updG σ.2.2 23 (upd (σ.2.2 23) ((σ.1 38)).toNatClampNeg ((L 2)))) r h H locs ls hP hD hS (lv_sub hl [0, 1, 2, 3] rfl)
        · rw [if_neg q1] at h; cases h
      · intro L σ r h H locs ls hP hD hS hl
        rw [x_see] at h
        refine lv_aload_n hx hb dX12_see_20 rfl (lv_at hl 0 rfl) ?_
        refine va_get (D := (dC, dI)) (ci := 11) (v := .ref (a 24)) (C := RX12) (T := TX12) (N := 121) hx hb hts in_x_see hown hK hP 0 rfl rfl 41 (by decide) (hts _ (List.mem_cons_of_mem _ (List.mem_append_left _ (List.mem_append_left _ (List.mem_of_getElem? (i := 3) rfl))))) (fun _ h9 => h9) rfl dX12_see_21 ?_
        refine lv_aload_n hx hb dX12_see_24 rfl (lv_at hl 0 rfl) ?_
        refine va_get (D := (dC, dI)) (ci := 11) (v := .int (σ.1 38)) (C := RX12) (T := TX12) (N := 121) hx hb hts in_x_see hown hK hP 0 rfl rfl 38 (by decide) (hts _ (List.mem_cons_of_mem _ (List.mem_append_left _ (List.mem_append_left _ (List.mem_of_getElem? (i := 1) rfl))))) (fun _ h9 => h9) rfl dX12_see_25 ?_
        refine lv_iload_n hx hb dX12_see_28 rfl (lv_at hl 3 rfl) ?_
        by_cases q1 : ¬ (((σ.1 38)) < 0 ∨ 400 ≤ ((σ.1 38)).toNatClampNeg)
        · rw [if_pos q1] at h
          refine va_iast hx hb hK hP hD hS 24 1 rfl rfl (nb_inp q1) dX12_see_29 (fun H locs hP hD hS => ?_)
          have hP : va_P (dC, dI) nCl (vM cy a (σ.1, σ.2.1, updG σ.2.2 24 (upd (σ.2.2 24) ((σ.1 38)).toNatClampNeg ((L 3))))) H := hP
          have hD : va_D A (vM cy a (σ.1, σ.2.1, updG σ.2.2 24 (upd (σ.2.2 24) ((σ.1 38)).toNatClampNeg ((L 3))))) := hD
          exact ih.2.2.2 L (σ.1, σ.2.1, updG σ.2.2 24 (upd (σ.2.2 24) ((σ.1 38)).toNatClampNeg ((L 3)))) r h H locs ls hP hD hS (lv_sub hl [0, 1, 2, 3] rfl)
        · rw [if_neg q1] at h; cases h
      · intro L σ r h H locs ls hP hD hS hl
        rw [x_see] at h
        refine lv_aload_n hx hb dX12_see_30 rfl (lv_at hl 0 rfl) ?_
        refine lv_dup hx hb dX12_see_31 rfl ?_
        refine va_get (D := (dC, dI)) (ci := 11) (v := .int (σ.1 38)) (C := RX12) (T := TX12) (N := 121) hx hb hts in_x_see hown hK hP 0 rfl rfl 38 (by decide) (hts _ (List.mem_cons_of_mem _ (List.mem_append_left _ (List.mem_append_left _ (List.mem_of_getElem? (i := 1) rfl))))) (fun _ h9 => h9) rfl dX12_see_32 ?_
        refine lv_iconst (v := 1) hx hb dX12_see_35 (by decide) ?_
        refine lv_iadd hx hb dX12_see_36 ?_
        refine va_put (D := (dC, dI)) (ci := 11) (v := .int (((σ.1 38)) + 1)) (ty := .int) (C := RX12) (T := TX12) (N := 121) hx hb hts in_x_see tyX12 tyX12_ok nmX12 hown hK hP hD hS 0 rfl rfl 38 (by decide) (hts _ (List.mem_cons_of_mem _ (List.mem_append_left _ (List.mem_append_left _ (List.mem_of_getElem? (i := 1) rfl))))) (fun _ h9 => h9) rfl (by decide +kernel) rfl rfl (Nat.le_of_ble_eq_true rfl) dX12_see_37 (fun H locs hP hD hS => ?_)
        have hP : va_P (dC, dI) nCl (vM cy a (upd σ.1 38 ((((σ.1 38)) + 1)), σ.2.1, σ.2.2)) H := hP
        have hD : va_D A (vM cy a (upd σ.1 38 ((((σ.1 38)) + 1)), σ.2.1, σ.2.2)) := hD
        cases h
        exact W.vret hx hb hr (fun t ht hW => ⟨⟨(), rfl, trivial, by rw [ht]; exact hP, va_K.moved hW.alike hK, hD⟩, hS.F ht⟩) hS.2.2 dX12_see_40
  exact (blk k0).1 L0 σ0 r0 h0 s.heap [] ls hP hD hS hl
/-! wantName -/
def x_wantName : Nat → Nat → (Nat → Int32) → MS → Option (Int32 × MS)
  | 0, _, _, _ => none
  | k + 1, 0, L, σ => if ((σ.1 10)) = 0 then (if ((σ.1 6)) = 1 then (x_wantName k 1 L σ) else (ob (x_cannot k 0 (fun _ => 0) σ) (fun r3 => x_wantName k 1 L r3.2))) else (x_wantName k 1 L σ)
  | k + 1, 1, L, σ => some (0, σ)
  | _ + 1, _ + 2, _, _ => none
def o_x_wantName : List Cond := [.fieldLink RX12 11 "SetHouseModel" "bad" "Z", .fieldLink RX12 35 "SetHouseModel" "tKind" "I", .methodLink RX12 68 yX12_cannot, .instanceMethod yX12_cannot, .selects RX12 yX12_cannot yX12_cannot, .initialized RX12]
theorem o_x_wantName_good : o_x_wantName.all goodWord = true := by decide +kernel
def p_x_wantName : List Cond := o_x_wantName ++ ((.code yX12_cannot cX12_cannot 1 none :: p_x_cannot) ++ [])
theorem p_x_wantName_good : p_x_wantName.all goodWord = true := nb_all2 o_x_wantName_good (nb_all2 (nb_allc (by decide +kernel) p_x_cannot_good) rfl)
def w_x_wantName : List Cond := .code yX12_wantName cX12_wantName 1 none :: (p_x_wantName ++ fM)
theorem w_x_wantName_good : w_x_wantName.all goodWord = true := nb_allc (by decide +kernel) (nb_all2 p_x_wantName_good fM_good)
theorem in_x_wantName : ∀ w ∈ wsX120, w ∈ w_x_wantName := fun _ h => List.mem_cons_of_mem _ (List.mem_append_right _ h)
theorem gg_x_wantName_cannot : GoodIn w_x_wantName w_x_cannot := goodIn_sub (fun w h => (List.mem_cons.mp h).elim (fun e => (List.mem_cons_of_mem _ (List.mem_append_left _ (List.mem_append_right _ (List.mem_append_left _ (List.mem_cons.mpr (Or.inl e))))))) (fun h => (List.mem_append.mp h).elim (fun h => (List.mem_cons_of_mem _ (List.mem_append_left _ (List.mem_append_right _ (List.mem_append_left _ (List.mem_cons_of_mem _ h)))))) (fun h => List.mem_cons_of_mem _ (List.mem_append_right _ h)))) w_x_cannot_good
theorem g_x_wantName_cannot_68 : GoodIn w_x_wantName (wsV RX12 68 RX12 yX12_cannot w_x_cannot) := goodIn_app (nb_g4 (List.mem_cons_of_mem _ (List.mem_append_left _ (List.mem_append_left _ (List.mem_of_getElem? (i := 2) rfl)))) (List.mem_cons_of_mem _ (List.mem_append_left _ (List.mem_append_left _ (List.mem_of_getElem? (i := 3) rfl)))) (List.mem_cons_of_mem _ (List.mem_append_left _ (List.mem_append_left _ (List.mem_of_getElem? (i := 4) rfl)))) (List.mem_cons_of_mem _ (List.mem_append_left _ (List.mem_append_left _ (List.mem_of_getElem? (i := 5) rfl)))) (by decide +kernel)) gg_x_wantName_cannot
set_option maxHeartbeats 40000000 in
set_option maxRecDepth 100000 in
theorem c_x_wantName (l : Launch) (dC : Nat → ClassId) (dI : Nat → Nat → Nat) (cy : Nat → ClassId) (a : Nat → Nat) (k0 : Nat) (L0 : Nat → Int32) (σ0 : MS) (r0 : Int32 × MS) (h0 : x_wantName k0 0 L0 σ0 = some r0) (sz : Nat) : Met l yX12_wantName w_x_wantName ({ frames := 2, cells := 0, slots := 0, locals := 42 }) (va_Pc [.ref (a 0)] (nIn (dC, dI) cy sz (vM cy a σ0))) (va_Qv (fun _ : Unit => True) (fun _ t => nOut (dC, dI) cy (va_A (vM cy a σ0) sz) (vM cy a r0.2) t) (va_A (vM cy a σ0) sz)) 0 0 (va_A (vM cy a σ0) sz) := by
  refine Met.ofW (cc := cX12_wantName) (maxL := 1) (ret := none) (by decide) rfl ?_
  intro p e s m args below meth c s₁ B hml hv
  obtain ⟨rfl, hsz, hP, hK, hD0, hG⟩ := hv
  have hx := B.exec
  have hb := B.bytes
  have hr := B.returns
  have hts := atoms_spec (ws := w_x_wantName) B.pre
  have hown : s.vm.findClass RX12 = some m.cls := findClass_of_methodNamed B.named
  have hlocks := B.notSynchronized
  subst hsz
  have hD := hD0.self (sz := s.heap.size)
  generalize hAe : va_A (vM cy a σ0) s.heap.size = A at hD ⊢
  have hA : ∀ q : Nat, s.heap.size ≤ q → A q := fun q h => by rw [← hAe]; exact Or.inr h
  have hS : va_S A s.heap s.heap [] := va_S.rf
  have hl := lv_entry ([.ref (a 0)]) (n := 1) (Nat.le_of_ble_eq_true rfl)
  rw [lg_entry_eq]
  generalize (lg_sl ([.ref (a 0)]) ++ List.replicate (1 - (lg_sl ([.ref (a 0)])).length) Slot.unset).toArray = ls at hl ⊢
  have hl : lv_has ls 1 [(0, .ref (a 0))] := hl
  have blk : ∀ k : Nat, (∀ (L : Nat → Int32) (σ : MS) (r : Int32 × MS), x_wantName k 0 L σ = some r → ∀ (H : Heap) (locs : List Loc) (ls : Array Slot), va_P (dC, dI) nCl (vM cy a σ) H → va_D A (vM cy a σ) → va_S A s.heap H locs → lv_has ls 1 [(0, .ref (a 0))] → W p l e (headSpec w_x_wantName ({ frames := 2, cells := 0, slots := 0, locals := 42 })).room s m #[.ref (a 0)] below meth c H locs 0 0 (MQ below (va_Qv (fun _ : Unit => True) (fun _ t => nOut (dC, dI) cy A (vM cy a r.2) t) A) #[.ref (a 0)] s 0 0 A) (F0 m 0 ls [])) ∧ (∀ (L : Nat → Int32) (σ : MS) (r : Int32 × MS), x_wantName k 1 L σ = some r → ∀ (H : Heap) (locs : List Loc) (ls : Array Slot), va_P (dC, dI) nCl (vM cy a σ) H → va_D A (vM cy a σ) → va_S A s.heap H locs → lv_has ls 1 [(0, .ref (a 0))] → W p l e (headSpec w_x_wantName ({ frames := 2, cells := 0, slots := 0, locals := 42 })).room s m #[.ref (a 0)] below meth c H locs 0 0 (MQ below (va_Qv (fun _ : Unit => True) (fun _ t => nOut (dC, dI) cy A (vM cy a r.2) t) A) #[.ref (a 0)] s 0 0 A) (F0 m 19 ls [])) := by
    intro k
    induction k with
    | zero => exact ⟨fun L σ r h => (by cases h), fun L σ r h => (by cases h)⟩
    | succ k ih =>
      refine ⟨?_, ?_⟩
      · intro L σ r h H locs ls hP hD hS hl
        rw [x_wantName] at h
        refine lv_aload_n hx hb dX12_wantName_0 rfl (lv_at hl 0 rfl) ?_
        refine va_get (D := (dC, dI)) (ci := 11) (v := .int (σ.1 10)) (C := RX12) (T := TX12) (N := 121) hx hb hts in_x_wantName hown hK hP 0 rfl rfl 10 (by decide) (hts _ (List.mem_cons_of_mem _ (List.mem_append_left _ (List.mem_append_left _ (List.mem_of_getElem? (i := 0) rfl))))) (fun _ h9 => h9) rfl dX12_wantName_1 ?_
        refine lv_if_ne (tgt := 19) hx hb dX12_wantName_4 (by decide) (fun c1 => ?_) (fun c1 => ?_)
        · rw [if_neg c1] at h
          exact ih.2 L σ r h H locs ls hP hD hS (lv_sub hl [0] rfl)
        · rw [if_pos c1] at h
          refine lv_aload_n hx hb dX12_wantName_7 rfl (lv_at hl 0 rfl) ?_
          refine va_get (D := (dC, dI)) (ci := 11) (v := .int (σ.1 6)) (C := RX12) (T := TX12) (N := 121) hx hb hts in_x_wantName hown hK hP 0 rfl rfl 6 (by decide) (hts _ (List.mem_cons_of_mem _ (List.mem_append_left _ (List.mem_append_left _ (List.mem_of_getElem? (i := 1) rfl))))) (fun _ h9 => h9) rfl dX12_wantName_8 ?_
          refine lv_iconst (v := 1) hx hb dX12_wantName_11 (by decide) ?_
          refine lv_icmp_eq (tgt := 19) hx hb dX12_wantName_12 (by decide) (fun c2 => ?_) (fun c2 => ?_)
          · rw [if_pos c2] at h
            exact ih.2 L σ r h H locs ls hP hD hS (lv_sub hl [0] rfl)
          · rw [if_neg c2] at h
            refine lv_aload_n hx hb dX12_wantName_15 rfl (lv_at hl 0 rfl) ?_
            cases hc3 : x_cannot k 0 (fun _ => 0) σ with
            | none => rw [hc3, ob_none] at h; cases h
            | some r3 =>
              rw [hc3, ob_some] at h
              have hFc := va_free (wc := vM cy a σ) hD hS hA [0, 1, 2, 3, 4, 5, 6, 7, 8, 9, 10, 11, 12, 13, 14, 15, 16, 17, 18, 19, 20, 21, 22, 23, 24, 25, 26, 27, 28, 29, 30, 31, 32, 33, 34, 35, 36, 37, 38, 39, 40, 41, 42, 43, 44, 45, 46, 47, 48, 49, 50, 51, 52, 53, 54, 55, 56, 57] rfl
              refine va_callv (va_runV (As := []) (rest := []) ⟨hx, hb, hml, hown, hts⟩ (c_x_cannot l dC dI cy a k (fun _ => 0) σ r3 hc3 H.size) (cwV 0 hts g_x_wantName_cannot_68 rfl rfl rfl (by decide +kernel) ⟨Nat.le_of_ble_eq_true rfl, Nat.le_of_ble_eq_true rfl⟩) ⟨nb_blind, va_recv hK hP (ci := 11) (q0 := 0) rfl rfl, fun U hU hW => ⟨rfl, by rw [hU], by rw [hU]; exact hP, va_K.moved hW.alike hK, hD.weaken (fun _ _ _ _ => trivial), hG.warm hW⟩⟩ rfl rfl hl.1 rfl (lv_room (Nat.le_of_ble_eq_true rfl)) dX12_wantName_16 ⟨Nat.le_of_ble_eq_true rfl, Nat.le_of_ble_eq_true rfl⟩) hS (fun q _ h => hFc q h) hFc (fun _ t H1 locs ht hvm hw hB hz1 hk1 hS => ?_)
              obtain ⟨hP1, hK1, hD1⟩ := hB
              rw [ht] at hP1
              obtain ⟨hP, hD⟩ := va_join (wr := []) (w1 := vM cy a r3.2) hP hD [0, 1, 2, 3, 4, 5, 6, 7, 8, 9, 10, 11, 12, 13, 14, 15, 16, 17, 18, 19, 20, 21, 22, 23, 24, 25, 26, 27, 28, 29, 30, 31, 32, 33, 34, 35, 36, 37, 38, 39, 40, 41, 42, 43, 44, 45, 46, 47, 48, 49, 50, 51, 52, 53, 54, 55, 56, 57] [] rfl rfl (by decide) (by decide) hk1 hFc hP1 hD1
              generalize H1 = H at hP hS ⊢
              have hP : va_P (dC, dI) nCl (vM cy a r3.2) H := hP
              have hD : va_D A (vM cy a r3.2) := hD
              exact ih.2 L r3.2 r h H locs ls hP hD hS (lv_sub hl [0] rfl)
      · intro L σ r h H locs ls hP hD hS hl
        rw [x_wantName] at h
        cases h
        exact W.vret hx hb hr (fun t ht hW => ⟨⟨(), rfl, trivial, by rw [ht]; exact hP, va_K.moved hW.alike hK, hD⟩, hS.F ht⟩) hS.2.2 dX12_wantName_19
  exact (blk k0).1 L0 σ0 r0 h0 s.heap [] ls hP hD hS hl
/-! isRelation -/
def x_isRelation : Nat → Nat → (Nat → Int32) → MS → Option (Int32 × MS)
  | 0, _, _, _ => none
  | k + 1, 0, L, σ => if ((σ.1 6)) = 4 then (if ((σ.1 7)) < 17 then (x_isRelation k 1 L σ) else (if ((σ.1 7)) ≤ 22 then (x_isRelation k 2 L σ) else (x_isRelation k 1 L σ))) else (x_isRelation k 1 L σ)
  | k + 1, 1, L, σ => ob (x_isWord k 0 (upd (fun _ => 0) 1 14) σ) (fun r1 => if r1.1 = 0 then (ob (x_isWord k 0 (upd (fun _ => 0) 1 15) r1.2) (fun r3 => if r3.1 = 0 then (ob (x_isWord k 0 (upd (fun _ => 0) 1 16) r3.2) (fun r5 => if r5.1 = 0 then (x_isRelation k 3 L r5.2) else (x_isRelation k 2 L r5.2))) else (x_isRelation k 2 L r3.2))) else (x_isRelation k 2 L r1.2))
  | k + 1, 2, L, σ => x_isRelation k 4 (upd L 100 1) σ
  | k + 1, 3, L, σ => x_isRelation k 4 (upd L 100 0) σ
  | k + 1, 4, L, σ => if ((L 100)) = 0 ∨ ((L 100)) = 1 then some ((L 100), σ) else none
  | _ + 1, _ + 5, _, _ => none
def o_x_isRelation : List Cond := [.fieldLink RX12 35 "SetHouseModel" "tKind" "I", .fieldLink RX12 49 "SetHouseModel" "tWhat" "I", .methodLink RX12 74 yX12_isWord, .instanceMethod yX12_isWord, .selects RX12 yX12_isWord yX12_isWord, .initialized RX12]
theorem o_x_isRelation_good : o_x_isRelation.all goodWord = true := by decide +kernel
def p_x_isRelation : List Cond := o_x_isRelation ++ ((.code yX12_isWord cX12_isWord 2 (some .boolean) :: p_x_isWord) ++ [])
theorem p_x_isRelation_good : p_x_isRelation.all goodWord = true := nb_all2 o_x_isRelation_good (nb_all2 (nb_allc (by decide +kernel) p_x_isWord_good) rfl)
def w_x_isRelation : List Cond := .code yX12_isRelation cX12_isRelation 1 (some .boolean) :: (p_x_isRelation ++ fM)
theorem w_x_isRelation_good : w_x_isRelation.all goodWord = true := nb_allc (by decide +kernel) (nb_all2 p_x_isRelation_good fM_good)
theorem in_x_isRelation : ∀ w ∈ wsX120, w ∈ w_x_isRelation := fun _ h => List.mem_cons_of_mem _ (List.mem_append_right _ h)
theorem gg_x_isRelation_isWord : GoodIn w_x_isRelation w_x_isWord := goodIn_sub (fun w h => (List.mem_cons.mp h).elim (fun e => (List.mem_cons_of_mem _ (List.mem_append_left _ (List.mem_append_right _ (List.mem_append_left _ (List.mem_cons.mpr (Or.inl e))))))) (fun h => (List.mem_append.mp h).elim (fun h => (List.mem_cons_of_mem _ (List.mem_append_left _ (List.mem_append_right _ (List.mem_append_left _ (List.mem_cons_of_mem _ h)))))) (fun h => List.mem_cons_of_mem _ (List.mem_append_right _ h)))) w_x_isWord_good
theorem g_x_isRelation_isWord_74 : GoodIn w_x_isRelation (wsV RX12 74 RX12 yX12_isWord w_x_isWord) := goodIn_app (nb_g4 (List.mem_cons_of_mem _ (List.mem_append_left _ (List.mem_append_left _ (List.mem_of_getElem? (i := 2) rfl)))) (List.mem_cons_of_mem _ (List.mem_append_left _ (List.mem_append_left _ (List.mem_of_getElem? (i := 3) rfl)))) (List.mem_cons_of_mem _ (List.mem_append_left _ (List.mem_append_left _ (List.mem_of_getElem? (i := 4) rfl)))) (List.mem_cons_of_mem _ (List.mem_append_left _ (List.mem_append_left _ (List.mem_of_getElem? (i := 5) rfl)))) (by decide +kernel)) gg_x_isRelation_isWord
set_option maxHeartbeats 40000000 in
set_option maxRecDepth 100000 in
theorem c_x_isRelation (l : Launch) (dC : Nat → ClassId) (dI : Nat → Nat → Nat) (cy : Nat → ClassId) (a : Nat → Nat) (k0 : Nat) (L0 : Nat → Int32) (σ0 : MS) (r0 : Int32 × MS) (h0 : x_isRelation k0 0 L0 σ0 = some r0) (sz : Nat) : Met l yX12_isRelation w_x_isRelation ({ frames := 1, cells := 0, slots := 0, locals := 21 }) (va_Pc [.ref (a 0)] (nIn (dC, dI) cy sz (vM cy a σ0))) (va_Qi (fun (z : Int32) (_ : Unit) => z = r0.1) (fun _ t => nOut (dC, dI) cy (va_A (vM cy a σ0) sz) (vM cy a r0.2) t) (va_A (vM cy a σ0) sz)) 0 0 (va_A (vM cy a σ0) sz) := by
  refine Met.ofW (cc := cX12_isRelation) (maxL := 1) (ret := (some .boolean)) (by decide) rfl ?_
  intro p e s m args below meth c s₁ B hml hv
  obtain ⟨rfl, hsz, hP, hK, hD0, hG⟩ := hv
  have hx := B.exec
  have hb := B.bytes
  have hr := B.returns
  have hts := atoms_spec (ws := w_x_isRelation) B.pre
  have hown : s.vm.findClass RX12 = some m.cls := findClass_of_methodNamed B.named
  have hlocks := B.notSynchronized
  subst hsz
  have hD := hD0.self (sz := s.heap.size)
  generalize hAe : va_A (vM cy a σ0) s.heap.size = A at hD ⊢
  have hA : ∀ q : Nat, s.heap.size ≤ q → A q := fun q h => by rw [← hAe]; exact Or.inr h
  have hS : va_S A s.heap s.heap [] := va_S.rf
  have hl := lv_entry ([.ref (a 0)]) (n := 1) (Nat.le_of_ble_eq_true rfl)
  rw [lg_entry_eq]
  generalize (lg_sl ([.ref (a 0)]) ++ List.replicate (1 - (lg_sl ([.ref (a 0)])).length) Slot.unset).toArray = ls at hl ⊢
  have hl : lv_has ls 1 [(0, .ref (a 0))] := hl
  have blk : ∀ k : Nat, (∀ (L : Nat → Int32) (σ : MS) (r : Int32 × MS), x_isRelation k 0 L σ = some r → ∀ (H : Heap) (locs : List Loc) (ls : Array Slot), va_P (dC, dI) nCl (vM cy a σ) H → va_D A (vM cy a σ) → va_S A s.heap H locs → lv_has ls 1 [(0, .ref (a 0))] → W p l e (headSpec w_x_isRelation ({ frames := 1, cells := 0, slots := 0, locals := 21 })).room s m #[.ref (a 0)] below meth c H locs 0 0 (MQ below (va_Qi (fun (z : Int32) (_ : Unit) => z = r.1) (fun _ t => nOut (dC, dI) cy A (vM cy a r.2) t) A) #[.ref (a 0)] s 0 0 A) (F0 m 0 ls [])) ∧ (∀ (L : Nat → Int32) (σ : MS) (r : Int32 × MS), x_isRelation k 1 L σ = some r → ∀ (H : Heap) (locs : List Loc) (ls : Array Slot), va_P (dC, dI) nCl (vM cy a σ) H → va_D A (vM cy a σ) → va_S A s.heap H locs → lv_has ls 1 [(0, .ref (a 0))] → W p l e (headSpec w_x_isRelation ({ frames := 1, cells := 0, slots := 0, locals := 21 })).room s m #[.ref (a 0)] below meth c H locs 0 0 (MQ below (va_Qi (fun (z : Int32) (_ : Unit) => z = r.1) (fun _ t => nOut (dC, dI) cy A (vM cy a r.2) t) A) #[.ref (a 0)] s 0 0 A) (F0 m 26 ls [])) ∧ (∀ (L : Nat → Int32) (σ : MS) (r : Int32 × MS), x_isRelation k 2 L σ = some r → ∀ (H : Heap) (locs : List Loc) (ls : Array Slot), va_P (dC, dI) nCl (vM cy a σ) H → va_D A (vM cy a σ) → va_S A s.heap H locs → lv_has ls 1 [(0, .ref (a 0))] → W p l e (headSpec w_x_isRelation ({ frames := 1, cells := 0, slots := 0, locals := 21 })).room s m #[.ref (a 0)] below meth c H locs 0 0 (MQ below (va_Qi (fun (z : Int32) (_ : Unit) => z = r.1) (fun _ t => nOut (dC, dI) cy A (vM cy a r.2) t) A) #[.ref (a 0)] s 0 0 A) (F0 m 53 ls [])) ∧ (∀ (L : Nat → Int32) (σ : MS) (r : Int32 × MS), x_isRelation k 3 L σ = some r → ∀ (H : Heap) (locs : List Loc) (ls : Array Slot), va_P (dC, dI) nCl (vM cy a σ) H → va_D A (vM cy a σ) → va_S A s.heap H locs → lv_has ls 1 [(0, .ref (a 0))] → W p l e (headSpec w_x_isRelation ({ frames := 1, cells := 0, slots := 0, locals := 21 })).room s m #[.ref (a 0)] below meth c H locs 0 0 (MQ below (va_Qi (fun (z : Int32) (_ : Unit) => z = r.1) (fun _ t => nOut (dC, dI) cy A (vM cy a r.2) t) A) #[.ref (a 0)] s 0 0 A) (F0 m 57 ls [])) ∧ (∀ (L : Nat → Int32) (σ : MS) (r : Int32 × MS), x_isRelation k 4 L σ = some r → ∀ (H : Heap) (locs : List Loc) (ls : Array Slot), va_P (dC, dI) nCl (vM cy a σ) H → va_D A (vM cy a σ) → va_S A s.heap H locs → lv_has ls 1 [(0, .ref (a 0))] → W p l e (headSpec w_x_isRelation ({ frames := 1, cells := 0, slots := 0, locals := 21 })).room s m #[.ref (a 0)] below meth c H locs 0 0 (MQ below (va_Qi (fun (z : Int32) (_ : Unit) => z = r.1) (fun _ t => nOut (dC, dI) cy A (vM cy a r.2) t) A) #[.ref (a 0)] s 0 0 A) (F0 m 58 ls [.int (L 100)])) := by
    intro k
    induction k with
    | zero => exact ⟨fun L σ r h => (by cases h), fun L σ r h => (by cases h), fun L σ r h => (by cases h), fun L σ r h => (by cases h), fun L σ r h => (by cases h)⟩
    | succ k ih =>
      refine ⟨?_, ?_, ?_, ?_, ?_⟩
      · intro L σ r h H locs ls hP hD hS hl
        rw [x_isRelation] at h
        refine lv_aload_n hx hb dX12_isRelation_0 rfl (lv_at hl 0 rfl) ?_
        refine va_get (D := (dC, dI)) (ci := 11) (v := .int (σ.1 6)) (C := RX12) (T := TX12) (N := 121) hx hb hts in_x_isRelation hown hK hP 0 rfl rfl 6 (by decide) (hts _ (List.mem_cons_of_mem _ (List.mem_append_left _ (List.mem_append_left _ (List.mem_of_getElem? (i := 0) rfl))))) (fun _ h9 => h9) rfl dX12_isRelation_1 ?_
        refine lv_iconst (v := 4) hx hb dX12_isRelation_4 (by decide) ?_
        refine lv_icmp_ne (tgt := 26) hx hb dX12_isRelation_5 (by decide) (fun c1 => ?_) (fun c1 => ?_)
        · rw [if_neg c1] at h
          exact ih.2.1 L σ r h H locs ls hP hD hS (lv_sub hl [0] rfl)
        · rw [if_pos c1] at h
          refine lv_aload_n hx hb dX12_isRelation_8 rfl (lv_at hl 0 rfl) ?_
          refine va_get (D := (dC, dI)) (ci := 11) (v := .int (σ.1 7)) (C := RX12) (T := TX12) (N := 121) hx hb hts in_x_isRelation hown hK hP 0 rfl rfl 7 (by decide) (hts _ (List.mem_cons_of_mem _ (List.mem_append_left _ (List.mem_append_left _ (List.mem_of_getElem? (i := 1) rfl))))) (fun _ h9 => h9) rfl dX12_isRelation_9 ?_
          refine lv_bipush (v := 17) hx hb dX12_isRelation_12 (by decide) ?_
          refine lv_icmp_lt (tgt := 26) hx hb dX12_isRelation_14 (by decide) (fun c2 => ?_) (fun c2 => ?_)
          · rw [if_pos c2] at h
            exact ih.2.1 L σ r h H locs ls hP hD hS (lv_sub hl [0] rfl)
          · rw [if_neg c2] at h
            refine lv_aload_n hx hb dX12_isRelation_17 rfl (lv_at hl 0 rfl) ?_
            refine va_get (D := (dC, dI)) (ci := 11) (v := .int (σ.1 7)) (C := RX12) (T := TX12) (N := 121) hx hb hts in_x_isRelation hown hK hP 0 rfl rfl 7 (by decide) (hts _ (List.mem_cons_of_mem _ (List.mem_append_left _ (List.mem_append_left _ (List.mem_of_getElem? (i := 1) rfl))))) (fun _ h9 => h9) rfl dX12_isRelation_18 ?_
            refine lv_bipush (v := 22) hx hb dX12_isRelation_21 (by decide) ?_
            refine lv_icmp_le (tgt := 53) hx hb dX12_isRelation_23 (by decide) (fun c3 => ?_) (fun c3 => ?_)
            · rw [if_pos c3] at h
              exact ih.2.2.1 L σ r h H locs ls hP hD hS (lv_sub hl [0] rfl)
            · rw [if_neg c3] at h
              exact ih.2.1 L σ r h H locs ls hP hD hS (lv_sub hl [0] rfl)
      · intro L σ r h H locs ls hP hD hS hl
        rw [x_isRelation] at h
        refine lv_aload_n hx hb dX12_isRelation_26 rfl (lv_at hl 0 rfl) ?_
        refine lv_bipush (v := 14) hx hb dX12_isRelation_27 (by decide) ?_
        cases hc1 : x_isWord k 0 (upd (fun _ => 0) 1 14) σ with
        | none => rw [hc1, ob_none] at h; cases h
        | some r1 =>
          rw [hc1, ob_some] at h
          have hFc := va_free (wc := vM cy a σ) hD hS hA [0, 1, 2, 3, 4, 5, 6, 7, 8, 9, 10, 11, 12, 13, 14, 15, 16, 17, 18, 19, 20, 21, 22, 23, 24, 25, 26, 27, 28, 29, 30, 31, 32, 33, 34, 35, 36, 37, 38, 39, 40, 41, 42, 43, 44, 45, 46, 47, 48, 49, 50, 51, 52, 53, 54, 55, 56, 57] rfl
          refine va_calli (va_runV (As := [.int 14]) (rest := []) ⟨hx, hb, hml, hown, hts⟩ (c_x_isWord l dC dI cy a k (upd (fun _ => 0) 1 14) σ r1 hc1 H.size) (cwV 1 hts g_x_isRelation_isWord_74 rfl rfl rfl (by decide +kernel) ⟨Nat.le_of_ble_eq_true rfl, Nat.le_of_ble_eq_true rfl⟩) ⟨nb_blind, va_recv hK hP (ci := 11) (q0 := 0) rfl rfl, fun U hU hW => ⟨rfl, by rw [hU], by rw [hU]; exact hP, va_K.moved hW.alike hK, hD.weaken (fun _ _ _ _ => trivial), hG.warm hW⟩⟩ rfl rfl hl.1 rfl (lv_room (Nat.le_of_ble_eq_true rfl)) dX12_isRelation_29 ⟨Nat.le_of_ble_eq_true rfl, Nat.le_of_ble_eq_true rfl⟩) hS (fun q _ h => hFc q h) hFc (fun z9 _ t H1 locs ht hvm hw hB hz1 hk1 hS => ?_)
          subst hw
          obtain ⟨hP1, hK1, hD1⟩ := hB
          rw [ht] at hP1
          obtain ⟨hP, hD⟩ := va_join (wr := []) (w1 := vM cy a r1.2) hP hD [0, 1, 2, 3, 4, 5, 6, 7, 8, 9, 10, 11, 12, 13, 14, 15, 16, 17, 18, 19, 20, 21, 22, 23, 24, 25, 26, 27, 28, 29, 30, 31, 32, 33, 34, 35, 36, 37, 38, 39, 40, 41, 42, 43, 44, 45, 46, 47, 48, 49, 50, 51, 52, 53, 54, 55, 56, 57] [] rfl rfl (by decide) (by decide) hk1 hFc hP1 hD1
          generalize H1 = H at hP hS ⊢
          have hP : va_P (dC, dI) nCl (vM cy a r1.2) H := hP
          have hD : va_D A (vM cy a r1.2) := hD
          refine lv_if_ne (tgt := 53) hx hb dX12_isRelation_32 (by decide) (fun c2 => ?_) (fun c2 => ?_)
          · rw [if_neg c2] at h
            exact ih.2.2.1 L r1.2 r h H locs ls hP hD hS (lv_sub hl [0] rfl)
          · rw [if_pos c2] at h
            refine lv_aload_n hx hb dX12_isRelation_35 rfl (lv_at hl 0 rfl) ?_
            refine lv_bipush (v := 15) hx hb dX12_isRelation_36 (by decide) ?_
            cases hc3 : x_isWord k 0 (upd (fun _ => 0) 1 15) r1.2 with
            | none => rw [hc3, ob_none] at h; cases h
            | some r3 =>
              rw [hc3, ob_some] at h
              have hFc := va_free (wc := vM cy a r1.2) hD hS hA [0, 1, 2, 3, 4, 5, 6, 7, 8, 9, 10, 11, 12, 13, 14, 15, 16, 17, 18, 19, 20, 21, 22, 23, 24, 25, 26, 27, 28, 29, 30, 31, 32, 33, 34, 35, 36, 37, 38, 39, 40, 41, 42, 43, 44, 45, 46, 47, 48, 49, 50, 51, 52, 53, 54, 55, 56, 57] rfl
              refine va_calli (va_runV (As := [.int 15]) (rest := []) ⟨hx, hb, hml, hown, hts⟩ (c_x_isWord l dC dI cy a k (upd (fun _ => 0) 1 15) r1.2 r3 hc3 H.size) (cwV 1 hts g_x_isRelation_isWord_74 rfl rfl rfl (by decide +kernel) ⟨Nat.le_of_ble_eq_true rfl, Nat.le_of_ble_eq_true rfl⟩) ⟨nb_blind, va_recv hK hP (ci := 11) (q0 := 0) rfl rfl, fun U hU hW => ⟨rfl, by rw [hU], by rw [hU]; exact hP, va_K.moved hW.alike hK, hD.weaken (fun _ _ _ _ => trivial), hG.warm hW⟩⟩ rfl rfl hl.1 rfl (lv_room (Nat.le_of_ble_eq_true rfl)) dX12_isRelation_38 ⟨Nat.le_of_ble_eq_true rfl, Nat.le_of_ble_eq_true rfl⟩) hS (fun q _ h => hFc q h) hFc (fun z9 _ t H1 locs ht hvm hw hB hz1 hk1 hS => ?_)
              subst hw
              obtain ⟨hP1, hK1, hD1⟩ := hB
              rw [ht] at hP1
              obtain ⟨hP, hD⟩ := va_join (wr := []) (w1 := vM cy a r3.2) hP hD [0, 1, 2, 3, 4, 5, 6, 7, 8, 9, 10, 11, 12, 13, 14, 15, 16, 17, 18, 19, 20, 21, 22, 23, 24, 25, 26, 27, 28, 29, 30, 31, 32, 33, 34, 35, 36, 37, 38, 39, 40, 41, 42, 43, 44, 45, 46, 47, 48, 49, 50, 51, 52, 53, 54, 55, 56, 57] [] rfl rfl (by decide) (by decide) hk1 hFc hP1 hD1
              generalize H1 = H at hP hS ⊢
              have hP : va_P (dC, dI) nCl (vM cy a r3.2) H := hP
              have hD : va_D A (vM cy a r3.2) := hD
              refine lv_if_ne (tgt := 53) hx hb dX12_isRelation_41 (by decide) (fun c4 => ?_) (fun c4 => ?_)
              · rw [if_neg c4] at h
                exact ih.2.2.1 L r3.2 r h H locs ls hP hD hS (lv_sub hl [0] rfl)
              · rw [if_pos c4] at h
                refine lv_aload_n hx hb dX12_isRelation_44 rfl (lv_at hl 0 rfl) ?_
                refine lv_bipush (v := 16) hx hb dX12_isRelation_45 (by decide) ?_
                cases hc5 : x_isWord k 0 (upd (fun _ => 0) 1 16) r3.2 with
                | none => rw [hc5, ob_none] at h; cases h
                | some r5 =>
                  rw [hc5, ob_some] at h
                  have hFc := va_free (wc := vM cy a r3.2) hD hS hA [0, 1, 2, 3, 4, 5, 6, 7, 8, 9, 10, 11, 12, 13, 14, 15, 16, 17, 18, 19, 20, 21, 22, 23, 24, 25, 26, 27, 28, 29, 30, 31, 32, 33, 34, 35, 36, 37, 38, 39, 40, 41, 42, 43, 44, 45, 46, 47, 48, 49, 50, 51, 52, 53, 54, 55, 56, 57] rfl
                  refine va_calli (va_runV (As := [.int 16]) (rest := []) ⟨hx, hb, hml, hown, hts⟩ (c_x_isWord l dC dI cy a k (upd (fun _ => 0) 1 16) r3.2 r5 hc5 H.size) (cwV 1 hts g_x_isRelation_isWord_74 rfl rfl rfl (by decide +kernel) ⟨Nat.le_of_ble_eq_true rfl, Nat.le_of_ble_eq_true rfl⟩) ⟨nb_blind, va_recv hK hP (ci := 11) (q0 := 0) rfl rfl, fun U hU hW => ⟨rfl, by rw [hU], by rw [hU]; exact hP, va_K.moved hW.alike hK, hD.weaken (fun _ _ _ _ => trivial), hG.warm hW⟩⟩ rfl rfl hl.1 rfl (lv_room (Nat.le_of_ble_eq_true rfl)) dX12_isRelation_47 ⟨Nat.le_of_ble_eq_true rfl, Nat.le_of_ble_eq_true rfl⟩) hS (fun q _ h => hFc q h) hFc (fun z9 _ t H1 locs ht hvm hw hB hz1 hk1 hS => ?_)
                  subst hw
                  obtain ⟨hP1, hK1, hD1⟩ := hB
                  rw [ht] at hP1
                  obtain ⟨hP, hD⟩ := va_join (wr := []) (w1 := vM cy a r5.2) hP hD [0, 1, 2, 3, 4, 5, 6, 7, 8, 9, 10, 11, 12, 13, 14, 15, 16, 17, 18, 19, 20, 21, 22, 23, 24, 25, 26, 27, 28, 29, 30, 31, 32, 33, 34, 35, 36, 37, 38, 39, 40, 41, 42, 43, 44, 45, 46, 47, 48, 49, 50, 51, 52, 53, 54, 55, 56, 57] [] rfl rfl (by decide) (by decide) hk1 hFc hP1 hD1
                  generalize H1 = H at hP hS ⊢
                  have hP : va_P (dC, dI) nCl (vM cy a r5.2) H := hP
                  have hD : va_D A (vM cy a r5.2) := hD
                  refine lv_if_eq (tgt := 57) hx hb dX12_isRelation_50 (by decide) (fun c6 => ?_) (fun c6 => ?_)
                  · rw [if_pos c6] at h
                    exact ih.2.2.2.1 L r5.2 r h H locs ls hP hD hS (lv_sub hl [0] rfl)
                  · rw [if_neg c6] at h
                    exact ih.2.2.1 L r5.2 r h H locs ls hP hD hS (lv_sub hl [0] rfl)
      · intro L σ r h H locs ls hP hD hS hl
        rw [x_isRelation] at h
        refine lv_iconst (v := 1) hx hb dX12_isRelation_53 (by decide) ?_
        refine lv_goto (tgt := 58) hx hb dX12_isRelation_54 (by decide) ?_
        exact ih.2.2.2.2 (upd L 100 1) σ r h H locs ls hP hD hS (lv_sub hl [0] rfl)
      · intro L σ r h H locs ls hP hD hS hl
        rw [x_isRelation] at h
        refine lv_iconst (v := 0) hx hb dX12_isRelation_57 (by decide) ?_
        exact ih.2.2.2.2 (upd L 100 0) σ r h H locs ls hP hD hS (lv_sub hl [0] rfl)
      · intro L σ r h H locs ls hP hD hS hl
        rw [x_isRelation] at h
        by_cases q1 : ((L 100)) = 0 ∨ ((L 100)) = 1
        · rw [if_pos q1] at h
          cases h
          exact W.zret (v := (L 100)) hx hb hr (nb_bz q1) (fun t ht hW => ⟨⟨(L 100), (), rfl, rfl, by rw [ht]; exact hP, va_K.moved hW.alike hK, hD⟩, hS.F ht⟩) hS.2.2 dX12_isRelation_58
        · rw [if_neg q1] at h; cases h
  exact (blk k0).1 L0 σ0 r0 h0 s.heap [] ls hP hD hS hl
/-! operator -/
def x_operator : Nat → Nat → (Nat → Int32) → MS → Option (Int32 × MS)
  | 0, _, _, _ => none
  | k + 1, 0, L, σ => if ((σ.1 6)) = 4 then (x_operator k 2 (upd L 100 ((σ.1 7))) σ) else (x_operator k 1 L σ)
  | k + 1, 1, L, σ => x_operator k 2 (upd L 100 ((100 + ((σ.1 7))))) σ
  | k + 1, 2, L, σ => some ((L 100), σ)
  | _ + 1, _ + 3, _, _ => none
def o_x_operator : List Cond := [.fieldLink RX12 35 "SetHouseModel" "tKind" "I", .fieldLink RX12 49 "SetHouseModel" "tWhat" "I"]
theorem o_x_operator_good : o_x_operator.all goodWord = true := by decide +kernel
def p_x_operator : List Cond := o_x_operator ++ []
theorem p_x_operator_good : p_x_operator.all goodWord = true := nb_all2 o_x_operator_good rfl
def w_x_operator : List Cond := .code yX12_operator cX12_operator 1 (some .int) :: (p_x_operator ++ fM)
theorem w_x_operator_good : w_x_operator.all goodWord = true := nb_allc (by decide +kernel) (nb_all2 p_x_operator_good fM_good)
theorem in_x_operator : ∀ w ∈ wsX120, w ∈ w_x_operator := fun _ h => List.mem_cons_of_mem _ (List.mem_append_right _ h)
set_option maxHeartbeats 40000000 in
set_option maxRecDepth 100000 in
theorem c_x_operator (l : Launch) (dC : Nat → ClassId) (dI : Nat → Nat → Nat) (cy : Nat → ClassId) (a : Nat → Nat) (k0 : Nat) (L0 : Nat → Int32) (σ0 : MS) (r0 : Int32 × MS) (h0 : x_operator k0 0 L0 σ0 = some r0) (sz : Nat) : Met l yX12_operator w_x_operator ({ frames := 0, cells := 0, slots := 0, locals := 0 }) (va_Pc [.ref (a 0)] (nIn (dC, dI) cy sz (vM cy a σ0))) (va_Qi (fun (z : Int32) (_ : Unit) => z = r0.1) (fun _ t => nOut (dC, dI) cy (va_A (vM cy a σ0) sz) (vM cy a r0.2) t) (va_A (vM cy a σ0) sz)) 0 0 (va_A (vM cy a σ0) sz) := by
  refine Met.ofW (cc := cX12_operator) (maxL := 1) (ret := (some .int)) (by decide) rfl ?_
  intro p e s m args below meth c s₁ B hml hv
  obtain ⟨rfl, hsz, hP, hK, hD0, hG⟩ := hv
  have hx := B.exec
  have hb := B.bytes
  have hr := B.returns
  have hts := atoms_spec (ws := w_x_operator) B.pre
  have hown : s.vm.findClass RX12 = some m.cls := findClass_of_methodNamed B.named
  have hlocks := B.notSynchronized
  subst hsz
  have hD := hD0.self (sz := s.heap.size)
  generalize hAe : va_A (vM cy a σ0) s.heap.size = A at hD ⊢
  have hA : ∀ q : Nat, s.heap.size ≤ q → A q := fun q h => by rw [← hAe]; exact Or.inr h
  have hS : va_S A s.heap s.heap [] := va_S.rf
  have hl := lv_entry ([.ref (a 0)]) (n := 1) (Nat.le_of_ble_eq_true rfl)
  rw [lg_entry_eq]
  generalize (lg_sl ([.ref (a 0)]) ++ List.replicate (1 - (lg_sl ([.ref (a 0)])).length) Slot.unset).toArray = ls at hl ⊢
  have hl : lv_has ls 1 [(0, .ref (a 0))] := hl
  have blk : ∀ k : Nat, (∀ (L : Nat → Int32) (σ : MS) (r : Int32 × MS), x_operator k 0 L σ = some r → ∀ (H : Heap) (locs : List Loc) (ls : Array Slot), va_P (dC, dI) nCl (vM cy a σ) H → va_D A (vM cy a σ) → va_S A s.heap H locs → lv_has ls 1 [(0, .ref (a 0))] → W p l e (headSpec w_x_operator ({ frames := 0, cells := 0, slots := 0, locals := 0 })).room s m #[.ref (a 0)] below meth c H locs 0 0 (MQ below (va_Qi (fun (z : Int32) (_ : Unit) => z = r.1) (fun _ t => nOut (dC, dI) cy A (vM cy a r.2) t) A) #[.ref (a 0)] s 0 0 A) (F0 m 0 ls [])) ∧ (∀ (L : Nat → Int32) (σ : MS) (r : Int32 × MS), x_operator k 1 L σ = some r → ∀ (H : Heap) (locs : List Loc) (ls : Array Slot), va_P (dC, dI) nCl (vM cy a σ) H → va_D A (vM cy a σ) → va_S A s.heap H locs → lv_has ls 1 [(0, .ref (a 0))] → W p l e (headSpec w_x_operator ({ frames := 0, cells := 0, slots := 0, locals := 0 })).room s m #[.ref (a 0)] below meth c H locs 0 0 (MQ below (va_Qi (fun (z : Int32) (_ : Unit) => z = r.1) (fun _ t => nOut (dC, dI) cy A (vM cy a r.2) t) A) #[.ref (a 0)] s 0 0 A) (F0 m 15 ls [])) ∧ (∀ (L : Nat → Int32) (σ : MS) (r : Int32 × MS), x_operator k 2 L σ = some r → ∀ (H : Heap) (locs : List Loc) (ls : Array Slot), va_P (dC, dI) nCl (vM cy a σ) H → va_D A (vM cy a σ) → va_S A s.heap H locs → lv_has ls 1 [(0, .ref (a 0))] → W p l e (headSpec w_x_operator ({ frames := 0, cells := 0, slots := 0, locals := 0 })).room s m #[.ref (a 0)] below meth c H locs 0 0 (MQ below (va_Qi (fun (z : Int32) (_ : Unit) => z = r.1) (fun _ t => nOut (dC, dI) cy A (vM cy a r.2) t) A) #[.ref (a 0)] s 0 0 A) (F0 m 22 ls [.int (L 100)])) := by
    intro k
    induction k with
    | zero => exact ⟨fun L σ r h => (by cases h), fun L σ r h => (by cases h), fun L σ r h => (by cases h)⟩
    | succ k ih =>
      refine ⟨?_, ?_, ?_⟩
      · intro L σ r h H locs ls hP hD hS hl
        rw [x_operator] at h
        refine lv_aload_n hx hb dX12_operator_0 rfl (lv_at hl 0 rfl) ?_
        refine va_get (D := (dC, dI)) (ci := 11) (v := .int (σ.1 6)) (C := RX12) (T := TX12) (N := 121) hx hb hts in_x_operator hown hK hP 0 rfl rfl 6 (by decide) (hts _ (List.mem_cons_of_mem _ (List.mem_append_left _ (List.mem_append_left _ (List.mem_of_getElem? (i := 0) rfl))))) (fun _ h9 => h9) rfl dX12_operator_1 ?_
        refine lv_iconst (v := 4) hx hb dX12_operator_4 (by decide) ?_
        refine lv_icmp_ne (tgt := 15) hx hb dX12_operator_5 (by decide) (fun c1 => ?_) (fun c1 => ?_)
        · rw [if_neg c1] at h
          exact ih.2.1 L σ r h H locs ls hP hD hS (lv_sub hl [0] rfl)
        · rw [if_pos c1] at h
          refine lv_aload_n hx hb dX12_operator_8 rfl (lv_at hl 0 rfl) ?_
          refine va_get (D := (dC, dI)) (ci := 11) (v := .int (σ.1 7)) (C := RX12) (T := TX12) (N := 121) hx hb hts in_x_operator hown hK hP 0 rfl rfl 7 (by decide) (hts _ (List.mem_cons_of_mem _ (List.mem_append_left _ (List.mem_append_left _ (List.mem_of_getElem? (i := 1) rfl))))) (fun _ h9 => h9) rfl dX12_operator_9 ?_
          refine lv_goto (tgt := 22) hx hb dX12_operator_12 (by decide) ?_
          exact ih.2.2 (upd L 100 ((σ.1 7))) σ r h H locs ls hP hD hS (lv_sub hl [0] rfl)
      · intro L σ r h H locs ls hP hD hS hl
        rw [x_operator] at h
        refine lv_bipush (v := 100) hx hb dX12_operator_15 (by decide) ?_
        refine lv_aload_n hx hb dX12_operator_17 rfl (lv_at hl 0 rfl) ?_
        refine va_get (D := (dC, dI)) (ci := 11) (v := .int (σ.1 7)) (C := RX12) (T := TX12) (N := 121) hx hb hts in_x_operator hown hK hP 0 rfl rfl 7 (by decide) (hts _ (List.mem_cons_of_mem _ (List.mem_append_left _ (List.mem_append_left _ (List.mem_of_getElem? (i := 1) rfl))))) (fun _ h9 => h9) rfl dX12_operator_18 ?_
        refine lv_iadd hx hb dX12_operator_21 ?_
        exact ih.2.2 (upd L 100 ((100 + ((σ.1 7))))) σ r h H locs ls hP hD hS (lv_sub hl [0] rfl)
      · intro L σ r h H locs ls hP hD hS hl
        rw [x_operator] at h
        cases h
        exact W.iret (v := (L 100)) hx hb hr (fun t ht hW => ⟨⟨(L 100), (), rfl, rfl, by rw [ht]; exact hP, va_K.moved hW.alike hK, hD⟩, hS.F ht⟩) hS.2.2 dX12_operator_22
  exact (blk k0).1 L0 σ0 r0 h0 s.heap [] ls hP hD hS hl
/-! wrapped -/
def x_wrapped : Nat → Nat → (Nat → Int32) → MS → Option (Int32 × MS)
  | 0, _, _, _ => none
  | k + 1, 0, L, σ => ob (x_node k 0 (upd (upd (upd (upd (fun _ => 0) 1 ((L 1))) 2 ((L 2))) 3 ((L 3))) 4 ((L 4))) σ) (fun r1 => if ¬ (r1.1 < 0 ∨ 70000 ≤ r1.1.toNatClampNeg) then (x_wrapped k 1 (upd L 6 r1.1) (r1.2.1, r1.2.2.1, updG r1.2.2.2 8 (upd (r1.2.2.2 8) r1.1.toNatClampNeg ((L 5))))) else none)
  | k + 1, 1, L, σ => some ((L 6), σ)
  | _ + 1, _ + 2, _, _ => none
def o_x_wrapped : List Cond := [.methodLink RX12 101 yX12_node, .instanceMethod yX12_node, .selects RX12 yX12_node yX12_node, .initialized RX12, .fieldLink RX12 95 "SetHouseModel" "x4" "[I"]
theorem o_x_wrapped_good : o_x_wrapped.all goodWord = true := by decide +kernel
def p_x_wrapped : List Cond := o_x_wrapped ++ ((.code yX12_node cX12_node 6 (some .int) :: p_x_node) ++ [])
theorem p_x_wrapped_good : p_x_wrapped.all goodWord = true := nb_all2 o_x_wrapped_good (nb_all2 (nb_allc (by decide +kernel) p_x_node_good) rfl)
def w_x_wrapped : List Cond := .code yX12_wrapped cX12_wrapped 7 (some .int) :: (p_x_wrapped ++ fM)
theorem w_x_wrapped_good : w_x_wrapped.all goodWord = true := nb_allc (by decide +kernel) (nb_all2 p_x_wrapped_good fM_good)
theorem in_x_wrapped : ∀ w ∈ wsX120, w ∈ w_x_wrapped := fun _ h => List.mem_cons_of_mem _ (List.mem_append_right _ h)
theorem gg_x_wrapped_node : GoodIn w_x_wrapped w_x_node := goodIn_sub (fun w h => (List.mem_cons.mp h).elim (fun e => (List.mem_cons_of_mem _ (List.mem_append_left _ (List.mem_append_right _ (List.mem_append_left _ (List.mem_cons.mpr (Or.inl e))))))) (fun h => (List.mem_append.mp h).elim (fun h => (List.mem_cons_of_mem _ (List.mem_append_left _ (List.mem_append_right _ (List.mem_append_left _ (List.mem_cons_of_mem _ h)))))) (fun h => List.mem_cons_of_mem _ (List.mem_append_right _ h)))) w_x_node_good
theorem g_x_wrapped_node_101 : GoodIn w_x_wrapped (wsV RX12 101 RX12 yX12_node w_x_node) := goodIn_app (nb_g4 (List.mem_cons_of_mem _ (List.mem_append_left _ (List.mem_append_left _ (List.mem_of_getElem? (i := 0) rfl)))) (List.mem_cons_of_mem _ (List.mem_append_left _ (List.mem_append_left _ (List.mem_of_getElem? (i := 1) rfl)))) (List.mem_cons_of_mem _ (List.mem_append_left _ (List.mem_append_left _ (List.mem_of_getElem? (i := 2) rfl)))) (List.mem_cons_of_mem _ (List.mem_append_left _ (List.mem_append_left _ (List.mem_of_getElem? (i := 3) rfl)))) (by decide +kernel)) gg_x_wrapped_node
set_option maxHeartbeats 40000000 in
set_option maxRecDepth 100000 in
theorem c_x_wrapped (l : Launch) (dC : Nat → ClassId) (dI : Nat → Nat → Nat) (cy : Nat → ClassId) (a : Nat → Nat) (k0 : Nat) (L0 : Nat → Int32) (σ0 : MS) (r0 : Int32 × MS) (h0 : x_wrapped k0 0 L0 σ0 = some r0) (sz : Nat) : Met l yX12_wrapped w_x_wrapped ({ frames := 1, cells := 0, slots := 0, locals := 25 }) (va_Pc [.ref (a 0), .int (L0 1), .int (L0 2), .int (L0 3), .int (L0 4), .int (L0 5)] (nIn (dC, dI) cy sz (vM cy a σ0))) (va_Qi (fun (z : Int32) (_ : Unit) => z = r0.1) (fun _ t => nOut (dC, dI) cy (va_A (vM cy a σ0) sz) (vM cy a r0.2) t) (va_A (vM cy a σ0) sz)) 0 0 (va_A (vM cy a σ0) sz) := by
  refine Met.ofW (cc := cX12_wrapped) (maxL := 7) (ret := (some .int)) (by decide) rfl ?_
  intro p e s m args below meth c s₁ B hml hv
  obtain ⟨rfl, hsz, hP, hK, hD0, hG⟩ := hv
  have hx := B.exec
  have hb := B.bytes
  have hr := B.returns
  have hts := atoms_spec (ws := w_x_wrapped) B.pre
  have hown : s.vm.findClass RX12 = some m.cls := findClass_of_methodNamed B.named
  have hlocks := B.notSynchronized
  subst hsz
  have hD := hD0.self (sz := s.heap.size)
  generalize hAe : va_A (vM cy a σ0) s.heap.size = A at hD ⊢
  have hA : ∀ q : Nat, s.heap.size ≤ q → A q := fun q h => by rw [← hAe]; exact Or.inr h
  have hS : va_S A s.heap s.heap [] := va_S.rf
  have hl := lv_entry ([.ref (a 0), .int (L0 1), .int (L0 2), .int (L0 3), .int (L0 4), .int (L0 5)]) (n := 7) (Nat.le_of_ble_eq_true rfl)
  rw [lg_entry_eq]
  generalize (lg_sl ([.ref (a 0), .int (L0 1), .int (L0 2), .int (L0 3), .int (L0 4), .int (L0 5)]) ++ List.replicate (7 - (lg_sl ([.ref (a 0), .int (L0 1), .int (L0 2), .int (L0 3), .int (L0 4), .int (L0 5)])).length) Slot.unset).toArray = ls at hl ⊢
  have hl : lv_has ls 7 [(0, .ref (a 0)), (1, .int (L0 1)), (2, .int (L0 2)), (3, .int (L0 3)), (4, .int (L0 4)), (5, .int (L0 5))] := hl
  have blk : ∀ k : Nat, (∀ (L : Nat → Int32) (σ : MS) (r : Int32 × MS), x_wrapped k 0 L σ = some r → ∀ (H : Heap) (locs : List Loc) (ls : Array Slot), va_P (dC, dI) nCl (vM cy a σ) H → va_D A (vM cy a σ) → va_S A s.heap H locs → lv_has ls 7 [(0, .ref (a 0)), (1, .int (L 1)), (2, .int (L 2)), (3, .int (L 3)), (4, .int (L 4)), (5, .int (L 5))] → W p l e (headSpec w_x_wrapped ({ frames := 1, cells := 0, slots := 0, locals := 25 })).room s m #[.ref (a 0), .int (L0 1), .int (L0 2), .int (L0 3), .int (L0 4), .int (L0 5)] below meth c H locs 0 0 (MQ below (va_Qi (fun (z : Int32) (_ : Unit) => z = r.1) (fun _ t => nOut (dC, dI) cy A (vM cy a r.2) t) A) #[.ref (a 0), .int (L0 1), .int (L0 2), .int (L0 3), .int (L0 4), .int (L0 5)] s 0 0 A) (F0 m 0 ls [])) ∧ (∀ (L : Nat → Int32) (σ : MS) (r : Int32 × MS), x_wrapped k 1 L σ = some r → ∀ (H : Heap) (locs : List Loc) (ls : Array Slot), va_P (dC, dI) nCl (vM cy a σ) H → va_D A (vM cy a σ) → va_S A s.heap H locs → lv_has ls 7 [(0, .ref (a 0)), (1, .int (L 1)), (2, .int (L 2)), (3, .int (L 3)), (4, .int (L 4)), (5, .int (L 5)), (6, .int (L 6))] → W p l e (headSpec w_x_wrapped ({ frames := 1, cells := 0, slots := 0, locals := 25 })).room s m #[.ref (a 0), .int (L0 1), .int (L0 2), .int (L0 3), .int (L0 4), .int (L0 5)] below meth c H locs 0 0 (MQ below (va_Qi (fun (z : Int32) (_ : Unit) => z = r.1) (fun _ t => nOut (dC, dI) cy A (vM cy a r.2) t) A) #[.ref (a 0), .int (L0 1), .int (L0 2), .int (L0 3), .int (L0 4), .int (L0 5)] s 0 0 A) (F0 m 20 ls [])) := by
    intro k
    induction k with
    | zero => exact ⟨fun L σ r h => (by cases h), fun L σ r h => (by cases h)⟩
    | succ k ih =>
      refine ⟨?_, ?_⟩
      · intro L σ r h H locs ls hP hD hS hl
        rw [x_wrapped] at h
        refine lv_aload_n hx hb dX12_wrapped_0 rfl (lv_at hl 0 rfl) ?_
        refine lv_iload_n hx hb dX12_wrapped_1 rfl (lv_at hl 1 rfl) ?_
        refine lv_iload_n hx hb dX12_wrapped_2 rfl (lv_at hl 2 rfl) ?_
        refine lv_iload_n hx hb dX12_wrapped_3 rfl (lv_at hl 3 rfl) ?_
        refine lv_iload hx hb dX12_wrapped_4 (lv_at hl 4 rfl) ?_
        cases hc1 : x_node k 0 (upd (upd (upd (upd (fun _ => 0) 1 ((L 1))) 2 ((L 2))) 3 ((L 3))) 4 ((L 4))) σ with
        | none => rw [hc1, ob_none] at h; cases h
        | some r1 =>
          rw [hc1, ob_some] at h
          have hFc := va_free (wc := vM cy a σ) hD hS hA [0, 1, 2, 3, 4, 5, 6, 7, 8, 9, 10, 11, 12, 13, 14, 15, 16, 17, 18, 19, 20, 21, 22, 23, 24, 25, 26, 27, 28, 29, 30, 31, 32, 33, 34, 35, 36, 37, 38, 39, 40, 41, 42, 43, 44, 45, 46, 47, 48, 49, 50, 51, 52, 53, 54, 55, 56, 57] rfl
          refine va_calli (va_runV (As := [.int (L 1), .int (L 2), .int (L 3), .int (L 4)]) (rest := []) ⟨hx, hb, hml, hown, hts⟩ (c_x_node l dC dI cy a k (upd (upd (upd (upd (fun _ => 0) 1 ((L 1))) 2 ((L 2))) 3 ((L 3))) 4 ((L 4))) σ r1 hc1 H.size) (cwV 4 hts g_x_wrapped_node_101 rfl rfl rfl (by decide +kernel) ⟨Nat.le_of_ble_eq_true rfl, Nat.le_of_ble_eq_true rfl⟩) ⟨nb_blind, va_recv hK hP (ci := 11) (q0 := 0) rfl rfl, fun U hU hW => ⟨rfl, by rw [hU], by rw [hU]; exact hP, va_K.moved hW.alike hK, hD.weaken (fun _ _ _ _ => trivial), hG.warm hW⟩⟩ rfl rfl hl.1 rfl (lv_room (Nat.le_of_ble_eq_true rfl)) dX12_wrapped_6 ⟨Nat.le_of_ble_eq_true rfl, Nat.le_of_ble_eq_true rfl⟩) hS (fun q _ h => hFc q h) hFc (fun z9 _ t H1 locs ht hvm hw hB hz1 hk1 hS => ?_)
          subst hw
          obtain ⟨hP1, hK1, hD1⟩ := hB
          rw [ht] at hP1
          obtain ⟨hP, hD⟩ := va_join (wr := []) (w1 := vM cy a r1.2) hP hD [0, 1, 2, 3, 4, 5, 6, 7, 8, 9, 10, 11, 12, 13, 14, 15, 16, 17, 18, 19, 20, 21, 22, 23, 24, 25, 26, 27, 28, 29, 30, 31, 32, 33, 34, 35, 36, 37, 38, 39, 40, 41, 42, 43, 44, 45, 46, 47, 48, 49, 50, 51, 52, 53, 54, 55, 56, 57] [] rfl rfl (by decide) (by decide) hk1 hFc hP1 hD1
          generalize H1 = H at hP hS ⊢
          have hP : va_P (dC, dI) nCl (vM cy a r1.2) H := hP
          have hD : va_D A (vM cy a r1.2) := hD
          refine lv_istore (lv' := [(6, .int r1.1), (0, .ref (a 0)), (1, .int (L 1)), (2, .int (L 2)), (3, .int (L 3)), (4, .int (L 4)), (5, .int (L 5))]) hx hb dX12_wrapped_9 hl (by decide) rfl (fun ls hl => ?_)
          refine lv_aload_n hx hb dX12_wrapped_11 rfl (lv_at hl 1 rfl) ?_
          refine va_get (D := (dC, dI)) (ci := 11) (v := .ref (a 8)) (C := RX12) (T := TX12) (N := 121) hx hb hts in_x_wrapped hown hK hP 0 rfl rfl 18 (by decide) (hts _ (List.mem_cons_of_mem _ (List.mem_append_left _ (List.mem_append_left _ (List.mem_of_getElem? (i := 4) rfl))))) (fun _ h9 => h9) rfl dX12_wrapped_12 ?_
          refine lv_iload hx hb dX12_wrapped_15 (lv_at hl 0 rfl) ?_
          refine lv_iload hx hb dX12_wrapped_17 (lv_at hl 6 rfl) ?_
          by_cases q2 : ¬ (r1.1 < 0 ∨ 70000 ≤ r1.1.toNatClampNeg)
          · rw [if_pos q2] at h
            refine va_iast hx hb hK hP hD hS 8 1 rfl rfl (nb_inp q2) dX12_wrapped_19 (fun H locs hP hD hS => ?_)
            have hP : va_P (dC, dI) nCl (vM cy a (r1.2.1, r1.2.2.1, updG r1.2.2.2 8 (upd (r1.2.2.2 8) r1.1.toNatClampNeg ((L 5))))) H := hP
            have hD : va_D A (vM cy a (r1.2.1, r1.2.2.1, updG r1.2.2.2 8 (upd (r1.2.2.2 8) r1.1.toNatClampNeg ((L 5))))) := hD
            exact ih.2 (upd L 6 r1.1) (r1.2.1, r1.2.2.1, updG r1.2.2.2 8 (upd (r1.2.2.2 8) r1.1.toNatClampNeg ((L 5)))) r h H locs ls hP hD hS (lv_sub hl [1, 2, 3, 4, 5, 6, 0] rfl)
          · rw [if_neg q2] at h; cases h
      · intro L σ r h H locs ls hP hD hS hl
        rw [x_wrapped] at h
        refine lv_iload hx hb dX12_wrapped_20 (lv_at hl 6 rfl) ?_
        cases h
        exact W.iret (v := (L 6)) hx hb hr (fun t ht hW => ⟨⟨(L 6), (), rfl, rfl, by rw [ht]; exact hP, va_K.moved hW.alike hK, hD⟩, hS.F ht⟩) hS.2.2 dX12_wrapped_22
  exact (blk k0).1 L0 σ0 r0 h0 s.heap [] ls hP hD hS hl
/-! isBlockEnd -/
def x_isBlockEnd : Nat → Nat → (Nat → Int32) → MS → Option (Int32 × MS)
  | 0, _, _, _ => none
  | k + 1, 0, L, σ => if ((σ.1 6)) = 0 then (x_isBlockEnd k 1 L σ) else (ob (x_isWord k 0 (upd (fun _ => 0) 1 6) σ) (fun r2 => if r2.1 = 0 then (ob (x_isWord k 0 (upd (fun _ => 0) 1 9) r2.2) (fun r4 => if r4.1 = 0 then (ob (x_isWord k 0 (upd (fun _ => 0) 1 10) r4.2) (fun r6 => if r6.1 = 0 then (x_isBlockEnd k 2 L r6.2) else (x_isBlockEnd k 1 L r6.2))) else (x_isBlockEnd k 1 L r4.2))) else (x_isBlockEnd k 1 L r2.2)))
  | k + 1, 1, L, σ => x_isBlockEnd k 3 (upd L 100 1) σ
  | k + 1, 2, L, σ => x_isBlockEnd k 3 (upd L 100 0) σ
  | k + 1, 3, L, σ => if ((L 100)) = 0 ∨ ((L 100)) = 1 then some ((L 100), σ) else none
  | _ + 1, _ + 4, _, _ => none
def o_x_isBlockEnd : List Cond := [.fieldLink RX12 35 "SetHouseModel" "tKind" "I", .methodLink RX12 74 yX12_isWord, .instanceMethod yX12_isWord, .selects RX12 yX12_isWord yX12_isWord, .initialized RX12]
theorem o_x_isBlockEnd_good : o_x_isBlockEnd.all goodWord = true := by decide +kernel
def p_x_isBlockEnd : List Cond := o_x_isBlockEnd ++ ((.code yX12_isWord cX12_isWord 2 (some .boolean) :: p_x_isWord) ++ [])
theorem p_x_isBlockEnd_good : p_x_isBlockEnd.all goodWord = true := nb_all2 o_x_isBlockEnd_good (nb_all2 (nb_allc (by decide +kernel) p_x_isWord_good) rfl)
def w_x_isBlockEnd : List Cond := .code yX12_isBlockEnd cX12_isBlockEnd 1 (some .boolean) :: (p_x_isBlockEnd ++ fM)
theorem w_x_isBlockEnd_good : w_x_isBlockEnd.all goodWord = true := nb_allc (by decide +kernel) (nb_all2 p_x_isBlockEnd_good fM_good)
theorem in_x_isBlockEnd : ∀ w ∈ wsX120, w ∈ w_x_isBlockEnd := fun _ h => List.mem_cons_of_mem _ (List.mem_append_right _ h)
theorem gg_x_isBlockEnd_isWord : GoodIn w_x_isBlockEnd w_x_isWord := goodIn_sub (fun w h => (List.mem_cons.mp h).elim (fun e => (List.mem_cons_of_mem _ (List.mem_append_left _ (List.mem_append_right _ (List.mem_append_left _ (List.mem_cons.mpr (Or.inl e))))))) (fun h => (List.mem_append.mp h).elim (fun h => (List.mem_cons_of_mem _ (List.mem_append_left _ (List.mem_append_right _ (List.mem_append_left _ (List.mem_cons_of_mem _ h)))))) (fun h => List.mem_cons_of_mem _ (List.mem_append_right _ h)))) w_x_isWord_good
theorem g_x_isBlockEnd_isWord_74 : GoodIn w_x_isBlockEnd (wsV RX12 74 RX12 yX12_isWord w_x_isWord) := goodIn_app (nb_g4 (List.mem_cons_of_mem _ (List.mem_append_left _ (List.mem_append_left _ (List.mem_of_getElem? (i := 1) rfl)))) (List.mem_cons_of_mem _ (List.mem_append_left _ (List.mem_append_left _ (List.mem_of_getElem? (i := 2) rfl)))) (List.mem_cons_of_mem _ (List.mem_append_left _ (List.mem_append_left _ (List.mem_of_getElem? (i := 3) rfl)))) (List.mem_cons_of_mem _ (List.mem_append_left _ (List.mem_append_left _ (List.mem_of_getElem? (i := 4) rfl)))) (by decide +kernel)) gg_x_isBlockEnd_isWord
set_option maxHeartbeats 40000000 in
set_option maxRecDepth 100000 in
theorem c_x_isBlockEnd (l : Launch) (dC : Nat → ClassId) (dI : Nat → Nat → Nat) (cy : Nat → ClassId) (a : Nat → Nat) (k0 : Nat) (L0 : Nat → Int32) (σ0 : MS) (r0 : Int32 × MS) (h0 : x_isBlockEnd k0 0 L0 σ0 = some r0) (sz : Nat) : Met l yX12_isBlockEnd w_x_isBlockEnd ({ frames := 1, cells := 0, slots := 0, locals := 21 }) (va_Pc [.ref (a 0)] (nIn (dC, dI) cy sz (vM cy a σ0))) (va_Qi (fun (z : Int32) (_ : Unit) => z = r0.1) (fun _ t => nOut (dC, dI) cy (va_A (vM cy a σ0) sz) (vM cy a r0.2) t) (va_A (vM cy a σ0) sz)) 0 0 (va_A (vM cy a σ0) sz) := by
  refine Met.ofW (cc := cX12_isBlockEnd) (maxL := 1) (ret := (some .boolean)) (by decide) rfl ?_
  intro p e s m args below meth c s₁ B hml hv
  obtain ⟨rfl, hsz, hP, hK, hD0, hG⟩ := hv
  have hx := B.exec
  have hb := B.bytes
  have hr := B.returns
  have hts := atoms_spec (ws := w_x_isBlockEnd) B.pre
  have hown : s.vm.findClass RX12 = some m.cls := findClass_of_methodNamed B.named
  have hlocks := B.notSynchronized
  subst hsz
  have hD := hD0.self (sz := s.heap.size)
  generalize hAe : va_A (vM cy a σ0) s.heap.size = A at hD ⊢
  have hA : ∀ q : Nat, s.heap.size ≤ q → A q := fun q h => by rw [← hAe]; exact Or.inr h
  have hS : va_S A s.heap s.heap [] := va_S.rf
  have hl := lv_entry ([.ref (a 0)]) (n := 1) (Nat.le_of_ble_eq_true rfl)
  rw [lg_entry_eq]
  generalize (lg_sl ([.ref (a 0)]) ++ List.replicate (1 - (lg_sl ([.ref (a 0)])).length) Slot.unset).toArray = ls at hl ⊢
  have hl : lv_has ls 1 [(0, .ref (a 0))] := hl
  have blk : ∀ k : Nat, (∀ (L : Nat → Int32) (σ : MS) (r : Int32 × MS), x_isBlockEnd k 0 L σ = some r → ∀ (H : Heap) (locs : List Loc) (ls : Array Slot), va_P (dC, dI) nCl (vM cy a σ) H → va_D A (vM cy a σ) → va_S A s.heap H locs → lv_has ls 1 [(0, .ref (a 0))] → W p l e (headSpec w_x_isBlockEnd ({ frames := 1, cells := 0, slots := 0, locals := 21 })).room s m #[.ref (a 0)] below meth c H locs 0 0 (MQ below (va_Qi (fun (z : Int32) (_ : Unit) => z = r.1) (fun _ t => nOut (dC, dI) cy A (vM cy a r.2) t) A) #[.ref (a 0)] s 0 0 A) (F0 m 0 ls [])) ∧ (∀ (L : Nat → Int32) (σ : MS) (r : Int32 × MS), x_isBlockEnd k 1 L σ = some r → ∀ (H : Heap) (locs : List Loc) (ls : Array Slot), va_P (dC, dI) nCl (vM cy a σ) H → va_D A (vM cy a σ) → va_S A s.heap H locs → lv_has ls 1 [(0, .ref (a 0))] → W p l e (headSpec w_x_isBlockEnd ({ frames := 1, cells := 0, slots := 0, locals := 21 })).room s m #[.ref (a 0)] below meth c H locs 0 0 (MQ below (va_Qi (fun (z : Int32) (_ : Unit) => z = r.1) (fun _ t => nOut (dC, dI) cy A (vM cy a r.2) t) A) #[.ref (a 0)] s 0 0 A) (F0 m 34 ls [])) ∧ (∀ (L : Nat → Int32) (σ : MS) (r : Int32 × MS), x_isBlockEnd k 2 L σ = some r → ∀ (H : Heap) (locs : List Loc) (ls : Array Slot), va_P (dC, dI) nCl (vM cy a σ) H → va_D A (vM cy a σ) → va_S A s.heap H locs → lv_has ls 1 [(0, .ref (a 0))] → W p l e (headSpec w_x_isBlockEnd ({ frames := 1, cells := 0, slots := 0, locals := 21 })).room s m #[.ref (a 0)] below meth c H locs 0 0 (MQ below (va_Qi (fun (z : Int32) (_ : Unit) => z = r.1) (fun _ t => nOut (dC, dI) cy A (vM cy a r.2) t) A) #[.ref (a 0)] s 0 0 A) (F0 m 38 ls [])) ∧ (∀ (L : Nat → Int32) (σ : MS) (r : Int32 × MS), x_isBlockEnd k 3 L σ = some r → ∀ (H : Heap) (locs : List Loc) (ls : Array Slot), va_P (dC, dI) nCl (vM cy a σ) H → va_D A (vM cy a σ) → va_S A s.heap H locs → lv_has ls 1 [(0, .ref (a 0))] → W p l e (headSpec w_x_isBlockEnd ({ frames := 1, cells := 0, slots := 0, locals := 21 })).room s m #[.ref (a 0)] below meth c H locs 0 0 (MQ below (va_Qi (fun (z : Int32) (_ : Unit) => z = r.1) (fun _ t => nOut (dC, dI) cy A (vM cy a r.2) t) A) #[.ref (a 0)] s 0 0 A) (F0 m 39 ls [.int (L 100)])) := by
    intro k
    induction k with
    | zero => exact ⟨fun L σ r h => (by cases h), fun L σ r h => (by cases h), fun L σ r h => (by cases h), fun L σ r h => (by cases h)⟩
    | succ k ih =>
      refine ⟨?_, ?_, ?_, ?_⟩
      · intro L σ r h H locs ls hP hD hS hl
        rw [x_isBlockEnd] at h
        refine lv_aload_n hx hb dX12_isBlockEnd_0 rfl (lv_at hl 0 rfl) ?_
        refine va_get (D := (dC, dI)) (ci := 11) (v := .int (σ.1 6)) (C := RX12) (T := TX12) (N := 121) hx hb hts in_x_isBlockEnd hown hK hP 0 rfl rfl 6 (by decide) (hts _ (List.mem_cons_of_mem _ (List.mem_append_left _ (List.mem_append_left _ (List.mem_of_getElem? (i := 0) rfl))))) (fun _ h9 => h9) rfl dX12_isBlockEnd_1 ?_
        refine lv_if_eq (tgt := 34) hx hb dX12_isBlockEnd_4 (by decide) (fun c1 => ?_) (fun c1 => ?_)
        · rw [if_pos c1] at h
          exact ih.2.1 L σ r h H locs ls hP hD hS (lv_sub hl [0] rfl)
        · rw [if_neg c1] at h
          refine lv_aload_n hx hb dX12_isBlockEnd_7 rfl (lv_at hl 0 rfl) ?_
          refine lv_bipush (v := 6) hx hb dX12_isBlockEnd_8 (by decide) ?_
          cases hc2 : x_isWord k 0 (upd (fun _ => 0) 1 6) σ with
          | none => rw [hc2, ob_none] at h; cases h
          | some r2 =>
            rw [hc2, ob_some] at h
            have hFc := va_free (wc := vM cy a σ) hD hS hA [0, 1, 2, 3, 4, 5, 6, 7, 8, 9, 10, 11, 12, 13, 14, 15, 16, 17, 18, 19, 20, 21, 22, 23, 24, 25, 26, 27, 28, 29, 30, 31, 32, 33, 34, 35, 36, 37, 38, 39, 40, 41, 42, 43, 44, 45, 46, 47, 48, 49, 50, 51, 52, 53, 54, 55, 56, 57] rfl
            refine va_calli (va_runV (As := [.int 6]) (rest := []) ⟨hx, hb, hml, hown, hts⟩ (c_x_isWord l dC dI cy a k (upd (fun _ => 0) 1 6) σ r2 hc2 H.size) (cwV 1 hts g_x_isBlockEnd_isWord_74 rfl rfl rfl (by decide +kernel) ⟨Nat.le_of_ble_eq_true rfl, Nat.le_of_ble_eq_true rfl⟩) ⟨nb_blind, va_recv hK hP (ci := 11) (q0 := 0) rfl rfl, fun U hU hW => ⟨rfl, by rw [hU], by rw [hU]; exact hP, va_K.moved hW.alike hK, hD.weaken (fun _ _ _ _ => trivial), hG.warm hW⟩⟩ rfl rfl hl.1 rfl (lv_room (Nat.le_of_ble_eq_true rfl)) dX12_isBlockEnd_10 ⟨Nat.le_of_ble_eq_true rfl, Nat.le_of_ble_eq_true rfl⟩) hS (fun q _ h => hFc q h) hFc (fun z9 _ t H1 locs ht hvm hw hB hz1 hk1 hS => ?_)
            subst hw
            obtain ⟨hP1, hK1, hD1⟩ := hB
            rw [ht] at hP1
            obtain ⟨hP, hD⟩ := va_join (wr := []) (w1 := vM cy a r2.2) hP hD [0, 1, 2, 3, 4, 5, 6, 7, 8, 9, 10, 11, 12, 13, 14, 15, 16, 17, 18, 19, 20, 21, 22, 23, 24, 25, 26, 27, 28, 29, 30, 31, 32, 33, 34, 35, 36, 37, 38, 39, 40, 41, 42, 43, 44, 45, 46, 47, 48, 49, 50, 51, 52, 53, 54, 55, 56, 57] [] rfl rfl (by decide) (by decide) hk1 hFc hP1 hD1
            generalize H1 = H at hP hS ⊢
            have hP : va_P (dC, dI) nCl (vM cy a r2.2) H := hP
            have hD : va_D A (vM cy a r2.2) := hD
            refine lv_if_ne (tgt := 34) hx hb dX12_isBlockEnd_13 (by decide) (fun c3 => ?_) (fun c3 => ?_)
            · rw [if_neg c3] at h
              exact ih.2.1 L r2.2 r h H locs ls hP hD hS (lv_sub hl [0] rfl)
            · rw [if_pos c3] at h
              refine lv_aload_n hx hb dX12_isBlockEnd_16 rfl (lv_at hl 0 rfl) ?_
              refine lv_bipush (v := 9) hx hb dX12_isBlockEnd_17 (by decide) ?_
              cases hc4 : x_isWord k 0 (upd (fun _ => 0) 1 9) r2.2 with
              | none => rw [hc4, ob_none] at h; cases h
              | some r4 =>
                rw [hc4, ob_some] at h
                have hFc := va_free (wc := vM cy a r2.2) hD hS hA [0, 1, 2, 3, 4, 5, 6, 7, 8, 9, 10, 11, 12, 13, 14, 15, 16, 17, 18, 19, 20, 21, 22, 23, 24, 25, 26, 27, 28, 29, 30, 31, 32, 33, 34, 35, 36, 37, 38, 39, 40, 41, 42, 43, 44, 45, 46, 47, 48, 49, 50, 51, 52, 53, 54, 55, 56, 57] rfl
                refine va_calli (va_runV (As := [.int 9]) (rest := []) ⟨hx, hb, hml, hown, hts⟩ (c_x_isWord l dC dI cy a k (upd (fun _ => 0) 1 9) r2.2 r4 hc4 H.size) (cwV 1 hts g_x_isBlockEnd_isWord_74 rfl rfl rfl (by decide +kernel) ⟨Nat.le_of_ble_eq_true rfl, Nat.le_of_ble_eq_true rfl⟩) ⟨nb_blind, va_recv hK hP (ci := 11) (q0 := 0) rfl rfl, fun U hU hW => ⟨rfl, by rw [hU], by rw [hU]; exact hP, va_K.moved hW.alike hK, hD.weaken (fun _ _ _ _ => trivial), hG.warm hW⟩⟩ rfl rfl hl.1 rfl (lv_room (Nat.le_of_ble_eq_true rfl)) dX12_isBlockEnd_19 ⟨Nat.le_of_ble_eq_true rfl, Nat.le_of_ble_eq_true rfl⟩) hS (fun q _ h => hFc q h) hFc (fun z9 _ t H1 locs ht hvm hw hB hz1 hk1 hS => ?_)
                subst hw
                obtain ⟨hP1, hK1, hD1⟩ := hB
                rw [ht] at hP1
                obtain ⟨hP, hD⟩ := va_join (wr := []) (w1 := vM cy a r4.2) hP hD [0, 1, 2, 3, 4, 5, 6, 7, 8, 9, 10, 11, 12, 13, 14, 15, 16, 17, 18, 19, 20, 21, 22, 23, 24, 25, 26, 27, 28, 29, 30, 31, 32, 33, 34, 35, 36, 37, 38, 39, 40, 41, 42, 43, 44, 45, 46, 47, 48, 49, 50, 51, 52, 53, 54, 55, 56, 57] [] rfl rfl (by decide) (by decide) hk1 hFc hP1 hD1
                generalize H1 = H at hP hS ⊢
                have hP : va_P (dC, dI) nCl (vM cy a r4.2) H := hP
                have hD : va_D A (vM cy a r4.2) := hD
                refine lv_if_ne (tgt := 34) hx hb dX12_isBlockEnd_22 (by decide) (fun c5 => ?_) (fun c5 => ?_)
                · rw [if_neg c5] at h
                  exact ih.2.1 L r4.2 r h H locs ls hP hD hS (lv_sub hl [0] rfl)
                · rw [if_pos c5] at h
                  refine lv_aload_n hx hb dX12_isBlockEnd_25 rfl (lv_at hl 0 rfl) ?_
                  refine lv_bipush (v := 10) hx hb dX12_isBlockEnd_26 (by decide) ?_
                  cases hc6 : x_isWord k 0 (upd (fun _ => 0) 1 10) r4.2 with
                  | none => rw [hc6, ob_none] at h; cases h
                  | some r6 =>
                    rw [hc6, ob_some] at h
                    have hFc := va_free (wc := vM cy a r4.2) hD hS hA [0, 1, 2, 3, 4, 5, 6, 7, 8, 9, 10, 11, 12, 13, 14, 15, 16, 17, 18, 19, 20, 21, 22, 23, 24, 25, 26, 27, 28, 29, 30, 31, 32, 33, 34, 35, 36, 37, 38, 39, 40, 41, 42, 43, 44, 45, 46, 47, 48, 49, 50, 51, 52, 53, 54, 55, 56, 57] rfl
                    refine va_calli (va_runV (As := [.int 10]) (rest := []) ⟨hx, hb, hml, hown, hts⟩ (c_x_isWord l dC dI cy a k (upd (fun _ => 0) 1 10) r4.2 r6 hc6 H.size) (cwV 1 hts g_x_isBlockEnd_isWord_74 rfl rfl rfl (by decide +kernel) ⟨Nat.le_of_ble_eq_true rfl, Nat.le_of_ble_eq_true rfl⟩) ⟨nb_blind, va_recv hK hP (ci := 11) (q0 := 0) rfl rfl, fun U hU hW => ⟨rfl, by rw [hU], by rw [hU]; exact hP, va_K.moved hW.alike hK, hD.weaken (fun _ _ _ _ => trivial), hG.warm hW⟩⟩ rfl rfl hl.1 rfl (lv_room (Nat.le_of_ble_eq_true rfl)) dX12_isBlockEnd_28 ⟨Nat.le_of_ble_eq_true rfl, Nat.le_of_ble_eq_true rfl⟩) hS (fun q _ h => hFc q h) hFc (fun z9 _ t H1 locs ht hvm hw hB hz1 hk1 hS => ?_)
                    subst hw
                    obtain ⟨hP1, hK1, hD1⟩ := hB
                    rw [ht] at hP1
                    obtain ⟨hP, hD⟩ := va_join (wr := []) (w1 := vM cy a r6.2) hP hD [0, 1, 2, 3, 4, 5, 6, 7, 8, 9, 10, 11, 12, 13, 14, 15, 16, 17, 18, 19, 20, 21, 22, 23, 24, 25, 26, 27, 28, 29, 30, 31, 32, 33, 34, 35, 36, 37, 38, 39, 40, 41, 42, 43, 44, 45, 46, 47, 48, 49, 50, 51, 52, 53, 54, 55, 56, 57] [] rfl rfl (by decide) (by decide) hk1 hFc hP1 hD1
                    generalize H1 = H at hP hS ⊢
                    have hP : va_P (dC, dI) nCl (vM cy a r6.2) H := hP
                    have hD : va_D A (vM cy a r6.2) := hD
                    refine lv_if_eq (tgt := 38) hx hb dX12_isBlockEnd_31 (by decide) (fun c7 => ?_) (fun c7 => ?_)
                    · rw [if_pos c7] at h
                      exact ih.2.2.1 L r6.2 r h H locs ls hP hD hS (lv_sub hl [0] rfl)
                    · rw [if_neg c7] at h
                      exact ih.2.1 L r6.2 r h H locs ls hP hD hS (lv_sub hl [0] rfl)
      · intro L σ r h H locs ls hP hD hS hl
        rw [x_isBlockEnd] at h
        refine lv_iconst (v := 1) hx hb dX12_isBlockEnd_34 (by decide) ?_
        refine lv_goto (tgt := 39) hx hb dX12_isBlockEnd_35 (by decide) ?_
        exact ih.2.2.2 (upd L 100 1) σ r h H locs ls hP hD hS (lv_sub hl [0] rfl)
      · intro L σ r h H locs ls hP hD hS hl
        rw [x_isBlockEnd] at h
        refine lv_iconst (v := 0) hx hb dX12_isBlockEnd_38 (by decide) ?_
        exact ih.2.2.2 (upd L 100 0) σ r h H locs ls hP hD hS (lv_sub hl [0] rfl)
      · intro L σ r h H locs ls hP hD hS hl
        rw [x_isBlockEnd] at h
        by_cases q1 : ((L 100)) = 0 ∨ ((L 100)) = 1
        · rw [if_pos q1] at h
          cases h
          exact W.zret (v := (L 100)) hx hb hr (nb_bz q1) (fun t ht hW => ⟨⟨(L 100), (), rfl, rfl, by rw [ht]; exact hP, va_K.moved hW.alike hK, hD⟩, hS.F ht⟩) hS.2.2 dX12_isBlockEnd_39
        · rw [if_neg q1] at h; cases h
  exact (blk k0).1 L0 σ0 r0 h0 s.heap [] ls hP hD hS hl
/-! isTarget -/
def x_isTarget : Nat → Nat → (Nat → Int32) → MS → Option (Int32 × MS)
  | 0, _, _, _ => none
  | k + 1, 0, L, σ => x_isTarget k 1 (upd L 2 ((L 1))) σ
  | k + 1, 1, L, σ => if ¬ (((L 2)) < 0 ∨ 70000 ≤ ((L 2)).toNatClampNeg) then (if ((σ.2.2 4 ((L 2)).toNatClampNeg)) = 21 then (x_isTarget k 2 L σ) else (if ¬ (((L 2)) < 0 ∨ 70000 ≤ ((L 2)).toNatClampNeg) then (if ((σ.2.2 4 ((L 2)).toNatClampNeg)) = 22 then (x_isTarget k 2 L σ) else (if ¬ (((L 2)) < 0 ∨ 70000 ≤ ((L 2)).toNatClampNeg) then (if ((σ.2.2 4 ((L 2)).toNatClampNeg)) = 23 then (x_isTarget k 2 L σ) else (x_isTarget k 3 L σ)) else none)) else none)) else none
  | k + 1, 2, L, σ => if ¬ (((L 2)) < 0 ∨ 70000 ≤ ((L 2)).toNatClampNeg) then (x_isTarget k 1 (upd L 2 ((σ.2.2 6 ((L 2)).toNatClampNeg))) σ) else none
  | k + 1, 3, L, σ => if ¬ (((L 2)) < 0 ∨ 70000 ≤ ((L 2)).toNatClampNeg) then (if ((σ.2.2 4 ((L 2)).toNatClampNeg)) = 7 then (x_isTarget k 5 (upd L 100 1) σ) else (x_isTarget k 4 L σ)) else none
  | k + 1, 4, L, σ => x_isTarget k 5 (upd L 100 0) σ
  | k + 1, 5, L, σ => if ((L 100)) = 0 ∨ ((L 100)) = 1 then some ((L 100), σ) else none
  | _ + 1, _ + 6, _, _ => none
def o_x_isTarget : List Cond := [.fieldLink RX12 83 "SetHouseModel" "op" "[I", .fieldLink RX12 89 "SetHouseModel" "x2" "[I"]
theorem o_x_isTarget_good : o_x_isTarget.all goodWord = true := by decide +kernel
def p_x_isTarget : List Cond := o_x_isTarget ++ []
theorem p_x_isTarget_good : p_x_isTarget.all goodWord = true := nb_all2 o_x_isTarget_good rfl
def w_x_isTarget : List Cond := .code yX12_isTarget cX12_isTarget 3 (some .boolean) :: (p_x_isTarget ++ fM)
theorem w_x_isTarget_good : w_x_isTarget.all goodWord = true := nb_allc (by decide +kernel) (nb_all2 p_x_isTarget_good fM_good)
theorem in_x_isTarget : ∀ w ∈ wsX120, w ∈ w_x_isTarget := fun _ h => List.mem_cons_of_mem _ (List.mem_append_right _ h)
set_option maxHeartbeats 40000000 in
set_option maxRecDepth 100000 in
theorem c_x_isTarget (l : Launch) (dC : Nat → ClassId) (dI : Nat → Nat → Nat) (cy : Nat → ClassId) (a : Nat → Nat) (k0 : Nat) (L0 : Nat → Int32) (σ0 : MS) (r0 : Int32 × MS) (h0 : x_isTarget k0 0 L0 σ0 = some r0) (sz : Nat) : Met l yX12_isTarget w_x_isTarget ({ frames := 0, cells := 0, slots := 0, locals := 0 }) (va_Pc [.ref (a 0), .int (L0 1)] (nIn (dC, dI) cy sz (vM cy a σ0))) (va_Qi (fun (z : Int32) (_ : Unit) => z = r0.1) (fun _ t => nOut (dC, dI) cy (va_A (vM cy a σ0) sz) (vM cy a r0.2) t) (va_A (vM cy a σ0) sz)) 0 0 (va_A (vM cy a σ0) sz) := by
  refine Met.ofW (cc := cX12_isTarget) (maxL := 3) (ret := (some .boolean)) (by decide) rfl ?_
  intro p e s m args below meth c s₁ B hml hv
  obtain ⟨rfl, hsz, hP, hK, hD0, hG⟩ := hv
  have hx := B.exec
  have hb := B.bytes
  have hr := B.returns
  have hts := atoms_spec (ws := w_x_isTarget) B.pre
  have hown : s.vm.findClass RX12 = some m.cls := findClass_of_methodNamed B.named
  have hlocks := B.notSynchronized
  subst hsz
  have hD := hD0.self (sz := s.heap.size)
  generalize hAe : va_A (vM cy a σ0) s.heap.size = A at hD ⊢
  have hA : ∀ q : Nat, s.heap.size ≤ q → A q := fun q h => by rw [← hAe]; exact Or.inr h
  have hS : va_S A s.heap s.heap [] := va_S.rf
  have hl := lv_entry ([.ref (a 0), .int (L0 1)]) (n := 3) (Nat.le_of_ble_eq_true rfl)
  rw [lg_entry_eq]
  generalize (lg_sl ([.ref (a 0), .int (L0 1)]) ++ List.replicate (3 - (lg_sl ([.ref (a 0), .int (L0 1)])).length) Slot.unset).toArray = ls at hl ⊢
  have hl : lv_has ls 3 [(0, .ref (a 0)), (1, .int (L0 1))] := hl
  have blk : ∀ k : Nat, (∀ (L : Nat → Int32) (σ : MS) (r : Int32 × MS), x_isTarget k 0 L σ = some r → ∀ (H : Heap) (locs : List Loc) (ls : Array Slot), va_P (dC, dI) nCl (vM cy a σ) H → va_D A (vM cy a σ) → va_S A s.heap H locs → lv_has ls 3 [(0, .ref (a 0)), (1, .int (L 1))] → W p l e (headSpec w_x_isTarget ({ frames := 0, cells := 0, slots := 0, locals := 0 })).room s m #[.ref (a 0), .int (L0 1)] below meth c H locs 0 0 (MQ below (va_Qi (fun (z : Int32) (_ : Unit) => z = r.1) (fun _ t => nOut (dC, dI) cy A (vM cy a r.2) t) A) #[.ref (a 0), .int (L0 1)] s 0 0 A) (F0 m 0 ls [])) ∧ (∀ (L : Nat → Int32) (σ : MS) (r : Int32 × MS), x_isTarget k 1 L σ = some r → ∀ (H : Heap) (locs : List Loc) (ls : Array Slot), va_P (dC, dI) nCl (vM cy a σ) H → va_D A (vM cy a σ) → va_S A s.heap H locs → lv_has ls 3 [(0, .ref (a 0)), (1, .int (L 1)), (2, .int (L 2))] → W p l e (headSpec w_x_isTarget ({ frames := 0, cells := 0, slots := 0, locals := 0 })).room s m #[.ref (a 0), .int (L0 1)] below meth c H locs 0 0 (MQ below (va_Qi (fun (z : Int32) (_ : Unit) => z = r.1) (fun _ t => nOut (dC, dI) cy A (vM cy a r.2) t) A) #[.ref (a 0), .int (L0 1)] s 0 0 A) (F0 m 2 ls [])) ∧ (∀ (L : Nat → Int32) (σ : MS) (r : Int32 × MS), x_isTarget k 2 L σ = some r → ∀ (H : Heap) (locs : List Loc) (ls : Array Slot), va_P (dC, dI) nCl (vM cy a σ) H → va_D A (vM cy a σ) → va_S A s.heap H locs → lv_has ls 3 [(0, .ref (a 0)), (1, .int (L 1)), (2, .int (L 2))] → W p l e (headSpec w_x_isTarget ({ frames := 0, cells := 0, slots := 0, locals := 0 })).room s m #[.ref (a 0), .int (L0 1)] below meth c H locs 0 0 (MQ below (va_Qi (fun (z : Int32) (_ : Unit) => z = r.1) (fun _ t => nOut (dC, dI) cy A (vM cy a r.2) t) A) #[.ref (a 0), .int (L0 1)] s 0 0 A) (F0 m 35 ls [])) ∧ (∀ (L : Nat → Int32) (σ : MS) (r : Int32 × MS), x_isTarget k 3 L σ = some r → ∀ (H : Heap) (locs : List Loc) (ls : Array Slot), va_P (dC, dI) nCl (vM cy a σ) H → va_D A (vM cy a σ) → va_S A s.heap H locs → lv_has ls 3 [(0, .ref (a 0)), (1, .int (L 1)), (2, .int (L 2))] → W p l e (headSpec w_x_isTarget ({ frames := 0, cells := 0, slots := 0, locals := 0 })).room s m #[.ref (a 0), .int (L0 1)] below meth c H locs 0 0 (MQ below (va_Qi (fun (z : Int32) (_ : Unit) => z = r.1) (fun _ t => nOut (dC, dI) cy A (vM cy a r.2) t) A) #[.ref (a 0), .int (L0 1)] s 0 0 A) (F0 m 45 ls [])) ∧ (∀ (L : Nat → Int32) (σ : MS) (r : Int32 × MS), x_isTarget k 4 L σ = some r → ∀ (H : Heap) (locs : List Loc) (ls : Array Slot), va_P (dC, dI) nCl (vM cy a σ) H → va_D A (vM cy a σ) → va_S A s.heap H locs → lv_has ls 3 [(0, .ref (a 0)), (1, .int (L 1)), (2, .int (L 2))] → W p l e (headSpec w_x_isTarget ({ frames := 0, cells := 0, slots := 0, locals := 0 })).room s m #[.ref (a 0), .int (L0 1)] below meth c H locs 0 0 (MQ below (va_Qi (fun (z : Int32) (_ : Unit) => z = r.1) (fun _ t => nOut (dC, dI) cy A (vM cy a r.2) t) A) #[.ref (a 0), .int (L0 1)] s 0 0 A) (F0 m 60 ls [])) ∧ (∀ (L : Nat → Int32) (σ : MS) (r : Int32 × MS), x_isTarget k 5 L σ = some r → ∀ (H : Heap) (locs : List Loc) (ls : Array Slot), va_P (dC, dI) nCl (vM cy a σ) H → va_D A (vM cy a σ) → va_S A s.heap H locs → lv_has ls 3 [(0, .ref (a 0)), (1, .int (L 1)), (2, .int (L 2))] → W p l e (headSpec w_x_isTarget ({ frames := 0, cells := 0, slots := 0, locals := 0 })).room s m #[.ref (a 0), .int (L0 1)] below meth c H locs 0 0 (MQ below (va_Qi (fun (z : Int32) (_ : Unit) => z = r.1) (fun _ t => nOut (dC, dI) cy A (vM cy a r.2) t) A) #[.ref (a 0), .int (L0 1)] s 0 0 A) (F0 m 61 ls [.int (L 100)])) := by
    intro k
    induction k with
    | zero => exact ⟨fun L σ r h => (by cases h), fun L σ r h => (by cases h), fun L σ r h => (by cases h), fun L σ r h => (by cases h), fun L σ r h => (by cases h), fun L σ r h => (by cases h)⟩
    | succ k ih =>
      refine ⟨?_, ?_, ?_, ?_, ?_, ?_⟩
      · intro L σ r h H locs ls hP hD hS hl
        rw [x_isTarget] at h
        refine lv_iload_n hx hb dX12_isTarget_0 rfl (lv_at hl 1 rfl) ?_
        refine lv_istore_n (lv' := [(2, .int (L 1)), (0, .ref (a 0)), (1, .int (L 1))]) hx hb dX12_isTarget_1 rfl hl (by decide) rfl (fun ls hl => ?_)
        exact ih.2.1 (upd L 2 ((L 1))) σ r h H locs ls hP hD hS (lv_sub hl [1, 2, 0] rfl)
      · intro L σ r h H locs ls hP hD hS hl
        rw [x_isTarget] at h
        refine lv_aload_n hx hb dX12_isTarget_2 rfl (lv_at hl 0 rfl) ?_
        refine va_get (D := (dC, dI)) (ci := 11) (v := .ref (a 4)) (C := RX12) (T := TX12) (N := 121) hx hb hts in_x_isTarget hown hK hP 0 rfl rfl 14 (by decide) (hts _ (List.mem_cons_of_mem _ (List.mem_append_left _ (List.mem_append_left _ (List.mem_of_getElem? (i := 0) rfl))))) (fun _ h9 => h9) rfl dX12_isTarget_3 ?_
        refine lv_iload_n hx hb dX12_isTarget_6 rfl (lv_at hl 2 rfl) ?_
        by_cases q1 : ¬ (((L 2)) < 0 ∨ 70000 ≤ ((L 2)).toNatClampNeg)
        · rw [if_pos q1] at h
          refine va_iald hx hb hK hP 4 1 rfl rfl (nb_inp q1) dX12_isTarget_7 ?_
          refine lv_bipush (v := 21) hx hb dX12_isTarget_8 (by decide) ?_
          refine lv_icmp_eq (tgt := 35) hx hb dX12_isTarget_10 (by decide) (fun c2 => ?_) (fun c2 => ?_)
          · rw [if_pos c2] at h
            exact ih.2.2.1 L σ r h H locs ls hP hD hS (lv_sub hl [0, 1, 2] rfl)
          · rw [if_neg c2] at h
            refine lv_aload_n hx hb dX12_isTarget_13 rfl (lv_at hl 0 rfl) ?_
            refine va_get (D := (dC, dI)) (ci := 11) (v := .ref (a 4)) (C := RX12) (T := TX12) (N := 121) hx hb hts in_x_isTarget hown hK hP 0 rfl rfl 14 (by decide) (hts _ (List.mem_cons_of_mem _ (List.mem_append_left _ (List.mem_append_left _ (List.mem_of_getElem? (i := 0) rfl))))) (fun _ h9 => h9) rfl dX12_isTarget_14 ?_
            refine lv_iload_n hx hb dX12_isTarget_17 rfl (lv_at hl 2 rfl) ?_
            by_cases q3 : ¬ (((L 2)) < 0 ∨ 70000 ≤ ((L 2)).toNatClampNeg)
            · rw [if_pos q3] at h
              refine va_iald hx hb hK hP 4 1 rfl rfl (nb_inp q3) dX12_isTarget_18 ?_
              refine lv_bipush (v := 22) hx hb dX12_isTarget_19 (by decide) ?_
              refine lv_icmp_eq (tgt := 35) hx hb dX12_isTarget_21 (by decide) (fun c4 => ?_) (fun c4 => ?_)
              · rw [if_pos c4] at h
                exact ih.2.2.1 L σ r h H locs ls hP hD hS (lv_sub hl [0, 1, 2] rfl)
              · rw [if_neg c4] at h
                refine lv_aload_n hx hb dX12_isTarget_24 rfl (lv_at hl 0 rfl) ?_
                refine va_get (D := (dC, dI)) (ci := 11) (v := .ref (a 4)) (C := RX12) (T := TX12) (N := 121) hx hb hts in_x_isTarget hown hK hP 0 rfl rfl 14 (by decide) (hts _ (List.mem_cons_of_mem _ (List.mem_append_left _ (List.mem_append_left _ (List.mem_of_getElem? (i := 0) rfl))))) (fun _ h9 => h9) rfl dX12_isTarget_25 ?_
                refine lv_iload_n hx hb dX12_isTarget_28 rfl (lv_at hl 2 rfl) ?_
                by_cases q5 : ¬ (((L 2)) < 0 ∨ 70000 ≤ ((L 2)).toNatClampNeg)
                · rw [if_pos q5] at h
                  refine va_iald hx hb hK hP 4 1 rfl rfl (nb_inp q5) dX12_isTarget_29 ?_
                  refine lv_bipush (v := 23) hx hb dX12_isTarget_30 (by decide) ?_
                  refine lv_icmp_ne (tgt := 45) hx hb dX12_isTarget_32 (by decide) (fun c6 => ?_) (fun c6 => ?_)
                  · rw [if_neg c6] at h
                    exact ih.2.2.2.1 L σ r h H locs ls hP hD hS (lv_sub hl [0, 1, 2] rfl)
                  · rw [if_pos c6] at h
                    exact ih.2.2.1 L σ r h H locs ls hP hD hS (lv_sub hl [0, 1, 2] rfl)
                · rw [if_neg q5] at h; cases h
            · rw [if_neg q3] at h; cases h
        · rw [if_neg q1] at h; cases h
      · intro L σ r h H locs ls hP hD hS hl
        rw [x_isTarget] at h
        refine lv_aload_n hx hb dX12_isTarget_35 rfl (lv_at hl 0 rfl) ?_
        refine va_get (D := (dC, dI)) (ci := 11) (v := .ref (a 6)) (C := RX12) (T := TX12) (N := 121) hx hb hts in_x_isTarget hown hK hP 0 rfl rfl 16 (by decide) (hts _ (List.mem_cons_of_mem _ (List.mem_append_left _ (List.mem_append_left _ (List.mem_of_getElem? (i := 1) rfl))))) (fun _ h9 => h9) rfl dX12_isTarget_36 ?_
        refine lv_iload_n hx hb dX12_isTarget_39 rfl (lv_at hl 2 rfl) ?_
        by_cases q1 : ¬ (((L 2)) < 0 ∨ 70000 ≤ ((L 2)).toNatClampNeg)
        · rw [if_pos q1] at h
          refine va_iald hx hb hK hP 6 1 rfl rfl (nb_inp q1) dX12_isTarget_40 ?_
          refine lv_istore_n (lv' := [(2, .int (σ.2.2 6 ((L 2)).toNatClampNeg)), (0, .ref (a 0)), (1, .int (L 1))]) hx hb dX12_isTarget_41 rfl hl (by decide) rfl (fun ls hl => ?_)
          refine lv_goto (tgt := 2) hx hb dX12_isTarget_42 (by decide) ?_
          exact ih.2.1 (upd L 2 ((σ.2.2 6 ((L 2)).toNatClampNeg))) σ r h H locs ls hP hD hS (lv_sub hl [1, 2, 0] rfl)
        · rw [if_neg q1] at h; cases h
      · intro L σ r h H locs ls hP hD hS hl
        rw [x_isTarget] at h
        refine lv_aload_n hx hb dX12_isTarget_45 rfl (lv_at hl 0 rfl) ?_
        refine va_get (D := (dC, dI)) (ci := 11) (v := .ref (a 4)) (C := RX12) (T := TX12) (N := 121) hx hb hts in_x_isTarget hown hK hP 0 rfl rfl 14 (by decide) (hts _ (List.mem_cons_of_mem _ (List.mem_append_left _ (List.mem_append_left _ (List.mem_of_getElem? (i := 0) rfl))))) (fun _ h9 => h9) rfl dX12_isTarget_46 ?_
        refine lv_iload_n hx hb dX12_isTarget_49 rfl (lv_at hl 2 rfl) ?_
        by_cases q1 : ¬ (((L 2)) < 0 ∨ 70000 ≤ ((L 2)).toNatClampNeg)
        · rw [if_pos q1] at h
          refine va_iald hx hb hK hP 4 1 rfl rfl (nb_inp q1) dX12_isTarget_50 ?_
          refine lv_bipush (v := 7) hx hb dX12_isTarget_51 (by decide) ?_
          refine lv_icmp_ne (tgt := 60) hx hb dX12_isTarget_53 (by decide) (fun c2 => ?_) (fun c2 => ?_)
          · rw [if_neg c2] at h
            exact ih.2.2.2.2.1 L σ r h H locs ls hP hD hS (lv_sub hl [0, 1, 2] rfl)
          · rw [if_pos c2] at h
            refine lv_iconst (v := 1) hx hb dX12_isTarget_56 (by decide) ?_
            refine lv_goto (tgt := 61) hx hb dX12_isTarget_57 (by decide) ?_
            exact ih.2.2.2.2.2 (upd L 100 1) σ r h H locs ls hP hD hS (lv_sub hl [0, 1, 2] rfl)
        · rw [if_neg q1] at h; cases h
      · intro L σ r h H locs ls hP hD hS hl
        rw [x_isTarget] at h
        refine lv_iconst (v := 0) hx hb dX12_isTarget_60 (by decide) ?_
        exact ih.2.2.2.2.2 (upd L 100 0) σ r h H locs ls hP hD hS (lv_sub hl [0, 1, 2] rfl)
      · intro L σ r h H locs ls hP hD hS hl
        rw [x_isTarget] at h
        by_cases q1 : ((L 100)) = 0 ∨ ((L 100)) = 1
        · rw [if_pos q1] at h
          cases h
          exact W.zret (v := (L 100)) hx hb hr (nb_bz q1) (fun t ht hW => ⟨⟨(L 100), (), rfl, rfl, by rw [ht]; exact hP, va_K.moved hW.alike hK, hD⟩, hS.F ht⟩) hS.2.2 dX12_isTarget_61
        · rw [if_neg q1] at h; cases h
  exact (blk k0).1 L0 σ0 r0 h0 s.heap [] ls hP hD hS hl
/-! isStatement -/
def x_isStatement : Nat → Nat → (Nat → Int32) → MS → Option (Int32 × MS)
  | 0, _, _, _ => none
  | k + 1, 0, L, σ => if ((σ.1 6)) = 1 then (x_isStatement k 1 L σ) else (ob (x_isSign k 0 (upd (fun _ => 0) 1 10) σ) (fun r2 => if r2.1 = 0 then (if ((r2.2.1 6)) = 5 then (if ((r2.2.1 7)) = 7 then (x_isStatement k 1 L r2.2) else (if ((r2.2.1 7)) = 11 then (x_isStatement k 1 L r2.2) else (if ((r2.2.1 7)) = 13 then (x_isStatement k 1 L r2.2) else (if ((r2.2.1 7)) < 17 then (x_isStatement k 2 L r2.2) else (if 24 < ((r2.2.1 7)) then (x_isStatement k 2 L r2.2) else (x_isStatement k 1 L r2.2)))))) else (x_isStatement k 2 L r2.2)) else (x_isStatement k 1 L r2.2)))
  | k + 1, 1, L, σ => x_isStatement k 3 (upd L 100 1) σ
  | k + 1, 2, L, σ => x_isStatement k 3 (upd L 100 0) σ
  | k + 1, 3, L, σ => if ((L 100)) = 0 ∨ ((L 100)) = 1 then some ((L 100), σ) else none
  | _ + 1, _ + 4, _, _ => none
def o_x_isStatement : List Cond := [.fieldLink RX12 35 "SetHouseModel" "tKind" "I", .methodLink RX12 65 yX12_isSign, .instanceMethod yX12_isSign, .selects RX12 yX12_isSign yX12_isSign, .initialized RX12, .fieldLink RX12 49 "SetHouseModel" "tWhat" "I"]
theorem o_x_isStatement_good : o_x_isStatement.all goodWord = true := by decide +kernel
def p_x_isStatement : List Cond := o_x_isStatement ++ ((.code yX12_isSign cX12_isSign 2 (some .boolean) :: p_x_isSign) ++ [])
theorem p_x_isStatement_good : p_x_isStatement.all goodWord = true := nb_all2 o_x_isStatement_good (nb_all2 (nb_allc (by decide +kernel) p_x_isSign_good) rfl)
def w_x_isStatement : List Cond := .code yX12_isStatement cX12_isStatement 1 (some .boolean) :: (p_x_isStatement ++ fM)
theorem w_x_isStatement_good : w_x_isStatement.all goodWord = true := nb_allc (by decide +kernel) (nb_all2 p_x_isStatement_good fM_good)
theorem in_x_isStatement : ∀ w ∈ wsX120, w ∈ w_x_isStatement := fun _ h => List.mem_cons_of_mem _ (List.mem_append_right _ h)
theorem gg_x_isStatement_isSign : GoodIn w_x_isStatement w_x_isSign := goodIn_sub (fun w h => (List.mem_cons.mp h).elim (fun e => (List.mem_cons_of_mem _ (List.mem_append_left _ (List.mem_append_right _ (List.mem_append_left _ (List.mem_cons.mpr (Or.inl e))))))) (fun h => (List.mem_append.mp h).elim (fun h => (List.mem_cons_of_mem _ (List.mem_append_left _ (List.mem_append_right _ (List.mem_append_left _ (List.mem_cons_of_mem _ h)))))) (fun h => List.mem_cons_of_mem _ (List.mem_append_right _ h)))) w_x_isSign_good
theorem g_x_isStatement_isSign_65 : GoodIn w_x_isStatement (wsV RX12 65 RX12 yX12_isSign w_x_isSign) := goodIn_app (nb_g4 (List.mem_cons_of_mem _ (List.mem_append_left _ (List.mem_append_left _ (List.mem_of_getElem? (i := 1) rfl)))) (List.mem_cons_of_mem _ (List.mem_append_left _ (List.mem_append_left _ (List.mem_of_getElem? (i := 2) rfl)))) (List.mem_cons_of_mem _ (List.mem_append_left _ (List.mem_append_left _ (List.mem_of_getElem? (i := 3) rfl)))) (List.mem_cons_of_mem _ (List.mem_append_left _ (List.mem_append_left _ (List.mem_of_getElem? (i := 4) rfl)))) (by decide +kernel)) gg_x_isStatement_isSign
set_option maxHeartbeats 40000000 in
set_option maxRecDepth 100000 in
theorem c_x_isStatement (l : Launch) (dC : Nat → ClassId) (dI : Nat → Nat → Nat) (cy : Nat → ClassId) (a : Nat → Nat) (k0 : Nat) (L0 : Nat → Int32) (σ0 : MS) (r0 : Int32 × MS) (h0 : x_isStatement k0 0 L0 σ0 = some r0) (sz : Nat) : Met l yX12_isStatement w_x_isStatement ({ frames := 1, cells := 0, slots := 0, locals := 21 }) (va_Pc [.ref (a 0)] (nIn (dC, dI) cy sz (vM cy a σ0))) (va_Qi (fun (z : Int32) (_ : Unit) => z = r0.1) (fun _ t => nOut (dC, dI) cy (va_A (vM cy a σ0) sz) (vM cy a r0.2) t) (va_A (vM cy a σ0) sz)) 0 0 (va_A (vM cy a σ0) sz) := by
  refine Met.ofW (cc := cX12_isStatement) (maxL := 1) (ret := (some .boolean)) (by decide) rfl ?_
  intro p e s m args below meth c s₁ B hml hv
  obtain ⟨rfl, hsz, hP, hK, hD0, hG⟩ := hv
  have hx := B.exec
  have hb := B.bytes
  have hr := B.returns
  have hts := atoms_spec (ws := w_x_isStatement) B.pre
  have hown : s.vm.findClass RX12 = some m.cls := findClass_of_methodNamed B.named
  have hlocks := B.notSynchronized
  subst hsz
  have hD := hD0.self (sz := s.heap.size)
  generalize hAe : va_A (vM cy a σ0) s.heap.size = A at hD ⊢
  have hA : ∀ q : Nat, s.heap.size ≤ q → A q := fun q h => by rw [← hAe]; exact Or.inr h
  have hS : va_S A s.heap s.heap [] := va_S.rf
  have hl := lv_entry ([.ref (a 0)]) (n := 1) (Nat.le_of_ble_eq_true rfl)
  rw [lg_entry_eq]
  generalize (lg_sl ([.ref (a 0)]) ++ List.replicate (1 - (lg_sl ([.ref (a 0)])).length) Slot.unset).toArray = ls at hl ⊢
  have hl : lv_has ls 1 [(0, .ref (a 0))] := hl
  have blk : ∀ k : Nat, (∀ (L : Nat → Int32) (σ : MS) (r : Int32 × MS), x_isStatement k 0 L σ = some r → ∀ (H : Heap) (locs : List Loc) (ls : Array Slot), va_P (dC, dI) nCl (vM cy a σ) H → va_D A (vM cy a σ) → va_S A s.heap H locs → lv_has ls 1 [(0, .ref (a 0))] → W p l e (headSpec w_x_isStatement ({ frames := 1, cells := 0, slots := 0, locals := 21 })).room s m #[.ref (a 0)] below meth c H locs 0 0 (MQ below (va_Qi (fun (z : Int32) (_ : Unit) => z = r.1) (fun _ t => nOut (dC, dI) cy A (vM cy a r.2) t) A) #[.ref (a 0)] s 0 0 A) (F0 m 0 ls [])) ∧ (∀ (L : Nat → Int32) (σ : MS) (r : Int32 × MS), x_isStatement k 1 L σ = some r → ∀ (H : Heap) (locs : List Loc) (ls : Array Slot), va_P (dC, dI) nCl (vM cy a σ) H → va_D A (vM cy a σ) → va_S A s.heap H locs → lv_has ls 1 [(0, .ref (a 0))] → W p l e (headSpec w_x_isStatement ({ frames := 1, cells := 0, slots := 0, locals := 21 })).room s m #[.ref (a 0)] below meth c H locs 0 0 (MQ below (va_Qi (fun (z : Int32) (_ : Unit) => z = r.1) (fun _ t => nOut (dC, dI) cy A (vM cy a r.2) t) A) #[.ref (a 0)] s 0 0 A) (F0 m 70 ls [])) ∧ (∀ (L : Nat → Int32) (σ : MS) (r : Int32 × MS), x_isStatement k 2 L σ = some r → ∀ (H : Heap) (locs : List Loc) (ls : Array Slot), va_P (dC, dI) nCl (vM cy a σ) H → va_D A (vM cy a σ) → va_S A s.heap H locs → lv_has ls 1 [(0, .ref (a 0))] → W p l e (headSpec w_x_isStatement ({ frames := 1, cells := 0, slots := 0, locals := 21 })).room s m #[.ref (a 0)] below meth c H locs 0 0 (MQ below (va_Qi (fun (z : Int32) (_ : Unit) => z = r.1) (fun _ t => nOut (dC, dI) cy A (vM cy a r.2) t) A) #[.ref (a 0)] s 0 0 A) (F0 m 74 ls [])) ∧ (∀ (L : Nat → Int32) (σ : MS) (r : Int32 × MS), x_isStatement k 3 L σ = some r → ∀ (H : Heap) (locs : List Loc) (ls : Array Slot), va_P (dC, dI) nCl (vM cy a σ) H → va_D A (vM cy a σ) → va_S A s.heap H locs → lv_has ls 1 [(0, .ref (a 0))] → W p l e (headSpec w_x_isStatement ({ frames := 1, cells := 0, slots := 0, locals := 21 })).room s m #[.ref (a 0)] below meth c H locs 0 0 (MQ below (va_Qi (fun (z : Int32) (_ : Unit) => z = r.1) (fun _ t => nOut (dC, dI) cy A (vM cy a r.2) t) A) #[.ref (a 0)] s 0 0 A) (F0 m 75 ls [.int (L 100)])) := by
    intro k
    induction k with
    | zero => exact ⟨fun L σ r h => (by cases h), fun L σ r h => (by cases h), fun L σ r h => (by cases h), fun L σ r h => (by cases h)⟩
    | succ k ih =>
      refine ⟨?_, ?_, ?_, ?_⟩
      · intro L σ r h H locs ls hP hD hS hl
        rw [x_isStatement] at h
        refine lv_aload_n hx hb dX12_isStatement_0 rfl (lv_at hl 0 rfl) ?_
        refine va_get (D := (dC, dI)) (ci := 11) (v := .int (σ.1 6)) (C := RX12) (T := TX12) (N := 121) hx hb hts in_x_isStatement hown hK hP 0 rfl rfl 6 (by decide) (hts _ (List.mem_cons_of_mem _ (List.mem_append_left _ (List.mem_append_left _ (List.mem_of_getElem? (i := 0) rfl))))) (fun _ h9 => h9) rfl dX12_isStatement_1 ?_
        refine lv_iconst (v := 1) hx hb dX12_isStatement_4 (by decide) ?_
        refine lv_icmp_eq (tgt := 70) hx hb dX12_isStatement_5 (by decide) (fun c1 => ?_) (fun c1 => ?_)
        · rw [if_pos c1] at h
          exact ih.2.1 L σ r h H locs ls hP hD hS (lv_sub hl [0] rfl)
        · rw [if_neg c1] at h
          refine lv_aload_n hx hb dX12_isStatement_8 rfl (lv_at hl 0 rfl) ?_
          refine lv_bipush (v := 10) hx hb dX12_isStatement_9 (by decide) ?_
          cases hc2 : x_isSign k 0 (upd (fun _ => 0) 1 10) σ with
          | none => rw [hc2, ob_none] at h; cases h
          | some r2 =>
            rw [hc2, ob_some] at h
            have hFc := va_free (wc := vM cy a σ) hD hS hA [0, 1, 2, 3, 4, 5, 6, 7, 8, 9, 10, 11, 12, 13, 14, 15, 16, 17, 18, 19, 20, 21, 22, 23, 24, 25, 26, 27, 28, 29, 30, 31, 32, 33, 34, 35, 36, 37, 38, 39, 40, 41, 42, 43, 44, 45, 46, 47, 48, 49, 50, 51, 52, 53, 54, 55, 56, 57] rfl
            refine va_calli (va_runV (As := [.int 10]) (rest := []) ⟨hx, hb, hml, hown, hts⟩ (c_x_isSign l dC dI cy a k (upd (fun _ => 0) 1 10) σ r2 hc2 H.size) (cwV 1 hts g_x_isStatement_isSign_65 rfl rfl rfl (by decide +kernel) ⟨Nat.le_of_ble_eq_true rfl, Nat.le_of_ble_eq_true rfl⟩) ⟨nb_blind, va_recv hK hP (ci := 11) (q0 := 0) rfl rfl, fun U hU hW => ⟨rfl, by rw [hU], by rw [hU]; exact hP, va_K.moved hW.alike hK, hD.weaken (fun _ _ _ _ => trivial), hG.warm hW⟩⟩ rfl rfl hl.1 rfl (lv_room (Nat.le_of_ble_eq_true rfl)) dX12_isStatement_11 ⟨Nat.le_of_ble_eq_true rfl, Nat.le_of_ble_eq_true rfl⟩) hS (fun q _ h => hFc q h) hFc (fun z9 _ t H1 locs ht hvm hw hB hz1 hk1 hS => ?_)
            subst hw
            obtain ⟨hP1, hK1, hD1⟩ := hB
            rw [ht] at hP1
            obtain ⟨hP, hD⟩ := va_join (wr := []) (w1 := vM cy a r2.2) hP hD [0, 1, 2, 3, 4, 5, 6, 7, 8, 9, 10, 11, 12, 13, 14, 15, 16, 17, 18, 19, 20, 21, 22, 23, 24, 25, 26, 27, 28, 29, 30, 31, 32, 33, 34, 35, 36, 37, 38, 39, 40, 41, 42, 43, 44, 45, 46, 47, 48, 49, 50, 51, 52, 53, 54, 55, 56, 57] [] rfl rfl (by decide) (by decide) hk1 hFc hP1 hD1
            generalize H1 = H at hP hS ⊢
            have hP : va_P (dC, dI) nCl (vM cy a r2.2) H := hP
            have hD : va_D A (vM cy a r2.2) := hD
            refine lv_if_ne (tgt := 70) hx hb dX12_isStatement_14 (by decide) (fun c3 => ?_) (fun c3 => ?_)
            · rw [if_neg c3] at h
              exact ih.2.1 L r2.2 r h H locs ls hP hD hS (lv_sub hl [0] rfl)
            · rw [if_pos c3] at h
              refine lv_aload_n hx hb dX12_isStatement_17 rfl (lv_at hl 0 rfl) ?_
              refine va_get (D := (dC, dI)) (ci := 11) (v := .int (r2.2.1 6)) (C := RX12) (T := TX12) (N := 121) hx hb hts in_x_isStatement hown hK hP 0 rfl rfl 6 (by decide) (hts _ (List.mem_cons_of_mem _ (List.mem_append_left _ (List.mem_append_left _ (List.mem_of_getElem? (i := 0) rfl))))) (fun _ h9 => h9) rfl dX12_isStatement_18 ?_
              refine lv_iconst (v := 5) hx hb dX12_isStatement_21 (by decide) ?_
              refine lv_icmp_ne (tgt := 74) hx hb dX12_isStatement_22 (by decide) (fun c4 => ?_) (fun c4 => ?_)
              · rw [if_neg c4] at h
                exact ih.2.2.1 L r2.2 r h H locs ls hP hD hS (lv_sub hl [0] rfl)
              · rw [if_pos c4] at h
                refine lv_aload_n hx hb dX12_isStatement_25 rfl (lv_at hl 0 rfl) ?_
                refine va_get (D := (dC, dI)) (ci := 11) (v := .int (r2.2.1 7)) (C := RX12) (T := TX12) (N := 121) hx hb hts in_x_isStatement hown hK hP 0 rfl rfl 7 (by decide) (hts _ (List.mem_cons_of_mem _ (List.mem_append_left _ (List.mem_append_left _ (List.mem_of_getElem? (i := 5) rfl))))) (fun _ h9 => h9) rfl dX12_isStatement_26 ?_
                refine lv_bipush (v := 7) hx hb dX12_isStatement_29 (by decide) ?_
                refine lv_icmp_eq (tgt := 70) hx hb dX12_isStatement_31 (by decide) (fun c5 => ?_) (fun c5 => ?_)
                · rw [if_pos c5] at h
                  exact ih.2.1 L r2.2 r h H locs ls hP hD hS (lv_sub hl [0] rfl)
                · rw [if_neg c5] at h
                  refine lv_aload_n hx hb dX12_isStatement_34 rfl (lv_at hl 0 rfl) ?_
                  refine va_get (D := (dC, dI)) (ci := 11) (v := .int (r2.2.1 7)) (C := RX12) (T := TX12) (N := 121) hx hb hts in_x_isStatement hown hK hP 0 rfl rfl 7 (by decide) (hts _ (List.mem_cons_of_mem _ (List.mem_append_left _ (List.mem_append_left _ (List.mem_of_getElem? (i := 5) rfl))))) (fun _ h9 => h9) rfl dX12_isStatement_35 ?_
                  refine lv_bipush (v := 11) hx hb dX12_isStatement_38 (by decide) ?_
                  refine lv_icmp_eq (tgt := 70) hx hb dX12_isStatement_40 (by decide) (fun c6 => ?_) (fun c6 => ?_)
                  · rw [if_pos c6] at h
                    exact ih.2.1 L r2.2 r h H locs ls hP hD hS (lv_sub hl [0] rfl)
                  · rw [if_neg c6] at h
                    refine lv_aload_n hx hb dX12_isStatement_43 rfl (lv_at hl 0 rfl) ?_
                    refine va_get (D := (dC, dI)) (ci := 11) (v := .int (r2.2.1 7)) (C := RX12) (T := TX12) (N := 121) hx hb hts in_x_isStatement hown hK hP 0 rfl rfl 7 (by decide) (hts _ (List.mem_cons_of_mem _ (List.mem_append_left _ (List.mem_append_left _ (List.mem_of_getElem? (i := 5) rfl))))) (fun _ h9 => h9) rfl dX12_isStatement_44 ?_
                    refine lv_bipush (v := 13) hx hb dX12_isStatement_47 (by decide) ?_
                    refine lv_icmp_eq (tgt := 70) hx hb dX12_isStatement_49 (by decide) (fun c7 => ?_) (fun c7 => ?_)
                    · rw [if_pos c7] at h
                      exact ih.2.1 L r2.2 r h H locs ls hP hD hS (lv_sub hl [0] rfl)
                    · rw [if_neg c7] at h
                      refine lv_aload_n hx hb dX12_isStatement_52 rfl (lv_at hl 0 rfl) ?_
                      refine va_get (D := (dC, dI)) (ci := 11) (v := .int (r2.2.1 7)) (C := RX12) (T := TX12) (N := 121) hx hb hts in_x_isStatement hown hK hP 0 rfl rfl 7 (by decide) (hts _ (List.mem_cons_of_mem _ (List.mem_append_left _ (List.mem_append_left _ (List.mem_of_getElem? (i := 5) rfl))))) (fun _ h9 => h9) rfl dX12_isStatement_53 ?_
                      refine lv_bipush (v := 17) hx hb dX12_isStatement_56 (by decide) ?_
                      refine lv_icmp_lt (tgt := 74) hx hb dX12_isStatement_58 (by decide) (fun c8 => ?_) (fun c8 => ?_)
                      · rw [if_pos c8] at h
                        exact ih.2.2.1 L r2.2 r h H locs ls hP hD hS (lv_sub hl [0] rfl)
                      · rw [if_neg c8] at h
                        refine lv_aload_n hx hb dX12_isStatement_61 rfl (lv_at hl 0 rfl) ?_
                        refine va_get (D := (dC, dI)) (ci := 11) (v := .int (r2.2.1 7)) (C := RX12) (T := TX12) (N := 121) hx hb hts in_x_isStatement hown hK hP 0 rfl rfl 7 (by decide) (hts _ (List.mem_cons_of_mem _ (List.mem_append_left _ (List.mem_append_left _ (List.mem_of_getElem? (i := 5) rfl))))) (fun _ h9 => h9) rfl dX12_isStatement_62 ?_
                        refine lv_bipush (v := 24) hx hb dX12_isStatement_65 (by decide) ?_
                        refine lv_icmp_gt (tgt := 74) hx hb dX12_isStatement_67 (by decide) (fun c9 => ?_) (fun c9 => ?_)
                        · rw [if_pos c9] at h
                          exact ih.2.2.1 L r2.2 r h H locs ls hP hD hS (lv_sub hl [0] rfl)
                        · rw [if_neg c9] at h
                          exact ih.2.1 L r2.2 r h H locs ls hP hD hS (lv_sub hl [0] rfl)
      · intro L σ r h H locs ls hP hD hS hl
        rw [x_isStatement] at h
        refine lv_iconst (v := 1) hx hb dX12_isStatement_70 (by decide) ?_
        refine lv_goto (tgt := 75) hx hb dX12_isStatement_71 (by decide) ?_
        exact ih.2.2.2 (upd L 100 1) σ r h H locs ls hP hD hS (lv_sub hl [0] rfl)
      · intro L σ r h H locs ls hP hD hS hl
        rw [x_isStatement] at h
        refine lv_iconst (v := 0) hx hb dX12_isStatement_74 (by decide) ?_
        exact ih.2.2.2 (upd L 100 0) σ r h H locs ls hP hD hS (lv_sub hl [0] rfl)
      · intro L σ r h H locs ls hP hD hS hl
        rw [x_isStatement] at h
        by_cases q1 : ((L 100)) = 0 ∨ ((L 100)) = 1
        · rw [if_pos q1] at h
          cases h
          exact W.zret (v := (L 100)) hx hb hr (nb_bz q1) (fun t ht hW => ⟨⟨(L 100), (), rfl, rfl, by rw [ht]; exact hP, va_K.moved hW.alike hK, hD⟩, hS.F ht⟩) hS.2.2 dX12_isStatement_75
        · rw [if_neg q1] at h; cases h
  exact (blk k0).1 L0 σ0 r0 h0 s.heap [] ls hP hD hS hl
