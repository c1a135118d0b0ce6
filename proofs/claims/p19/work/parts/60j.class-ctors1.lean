/-! Objects that have just been made: defaults. -/
def fz0 : List Value := [.null, .null, .null, .null, .null, .null]
theorem fz0_ok : ∀ j, j < 6 → defaultValue (tyX0 j) = vp_V fz0 j := fun j hj => match j, hj with
  | 0, _ => rfl
  | 1, _ => rfl
  | 2, _ => rfl
  | 3, _ => rfl
  | 4, _ => rfl
  | 5, _ => rfl
  | n + 6, h => absurd h (by omega)
def fz1 : List Value := [.null, .int 0, .null, .null]
theorem fz1_ok : ∀ j, j < 4 → defaultValue (tyX1 j) = vp_V fz1 j := fun j hj => match j, hj with
  | 0, _ => rfl
  | 1, _ => rfl
  | 2, _ => rfl
  | 3, _ => rfl
  | n + 4, h => absurd h (by omega)
def fz2 : List Value := [.null, .int 0, .int 0, .int 0, .int 0, .long 0, .long 0, .null]
theorem fz2_ok : ∀ j, j < 8 → defaultValue (tyX2 j) = vp_V fz2 j := fun j hj => match j, hj with
  | 0, _ => rfl
  | 1, _ => rfl
  | 2, _ => rfl
  | 3, _ => rfl
  | 4, _ => rfl
  | 5, _ => rfl
  | 6, _ => rfl
  | 7, _ => rfl
  | n + 8, h => absurd h (by omega)
def fz3 : List Value := [.null, .null, .null, .null, .null, .null, .null, .null, .null, .null, .null, .int 0, .int 0, .int 0, .int 0, .int 0, .int 0, .long 0, .null, .int 0]
theorem fz3_ok : ∀ j, j < 20 → defaultValue (tyX3 j) = vp_V fz3 j := fun j hj => match j, hj with
  | 0, _ => rfl
  | 1, _ => rfl
  | 2, _ => rfl
  | 3, _ => rfl
  | 4, _ => rfl
  | 5, _ => rfl
  | 6, _ => rfl
  | 7, _ => rfl
  | 8, _ => rfl
  | 9, _ => rfl
  | 10, _ => rfl
  | 11, _ => rfl
  | 12, _ => rfl
  | 13, _ => rfl
  | 14, _ => rfl
  | 15, _ => rfl
  | 16, _ => rfl
  | 17, _ => rfl
  | 18, _ => rfl
  | 19, _ => rfl
  | n + 20, h => absurd h (by omega)
def fz5 : List Value := [.null, .null, .null, .int 0, .int 0, .int 0, .int 0, .int 0, .int 0, .int 0, .null, .int 0, .null, .int 0, .int 0, .int 0, .int 0, .int 0, .int 0, .int 0, .int 0]
theorem fz5_ok : ∀ j, j < 21 → defaultValue (tyX5 j) = vp_V fz5 j := fun j hj => match j, hj with
  | 0, _ => rfl
  | 1, _ => rfl
  | 2, _ => rfl
  | 3, _ => rfl
  | 4, _ => rfl
  | 5, _ => rfl
  | 6, _ => rfl
  | 7, _ => rfl
  | 8, _ => rfl
  | 9, _ => rfl
  | 10, _ => rfl
  | 11, _ => rfl
  | 12, _ => rfl
  | 13, _ => rfl
  | 14, _ => rfl
  | 15, _ => rfl
  | 16, _ => rfl
  | 17, _ => rfl
  | 18, _ => rfl
  | 19, _ => rfl
  | 20, _ => rfl
  | n + 21, h => absurd h (by omega)
def fz6 : List Value := [.null, .null, .null, .int 0]
theorem fz6_ok : ∀ j, j < 4 → defaultValue (tyX6 j) = vp_V fz6 j := fun j hj => match j, hj with
  | 0, _ => rfl
  | 1, _ => rfl
  | 2, _ => rfl
  | 3, _ => rfl
  | n + 4, h => absurd h (by omega)
def fz7 : List Value := [.null, .int 0, .int 0, .int 0, .int 0, .null, .null, .null, .null, .null, .null, .int 0, .int 0, .null, .null, .null, .null, .null, .null, .int 0]
theorem fz7_ok : ∀ j, j < 20 → defaultValue (tyX7 j) = vp_V fz7 j := fun j hj => match j, hj with
  | 0, _ => rfl
  | 1, _ => rfl
  | 2, _ => rfl
  | 3, _ => rfl
  | 4, _ => rfl
  | 5, _ => rfl
  | 6, _ => rfl
  | 7, _ => rfl
  | 8, _ => rfl
  | 9, _ => rfl
  | 10, _ => rfl
  | 11, _ => rfl
  | 12, _ => rfl
  | 13, _ => rfl
  | 14, _ => rfl
  | 15, _ => rfl
  | 16, _ => rfl
  | 17, _ => rfl
  | 18, _ => rfl
  | 19, _ => rfl
  | n + 20, h => absurd h (by omega)
def fz8 : List Value := [.int 0, .int 0, .int 0, .int 0, .int 0, .int 0, .int 0, .int 0, .int 0, .int 0, .int 0, .int 0, .int 0, .int 0, .int 0, .int 0, .long 0]
theorem fz8_ok : ∀ j, j < 17 → defaultValue (tyX8 j) = vp_V fz8 j := fun j hj => match j, hj with
  | 0, _ => rfl
  | 1, _ => rfl
  | 2, _ => rfl
  | 3, _ => rfl
  | 4, _ => rfl
  | 5, _ => rfl
  | 6, _ => rfl
  | 7, _ => rfl
  | 8, _ => rfl
  | 9, _ => rfl
  | 10, _ => rfl
  | 11, _ => rfl
  | 12, _ => rfl
  | 13, _ => rfl
  | 14, _ => rfl
  | 15, _ => rfl
  | 16, _ => rfl
  | n + 17, h => absurd h (by omega)
def fz9 : List Value := [.null, .null, .null, .int 0, .int 0, .int 0, .int 0, .int 0, .int 0]
theorem fz9_ok : ∀ j, j < 9 → defaultValue (tyX9 j) = vp_V fz9 j := fun j hj => match j, hj with
  | 0, _ => rfl
  | 1, _ => rfl
  | 2, _ => rfl
  | 3, _ => rfl
  | 4, _ => rfl
  | 5, _ => rfl
  | 6, _ => rfl
  | 7, _ => rfl
  | 8, _ => rfl
  | n + 9, h => absurd h (by omega)
def fz10 : List Value := [.null, .null, .null, .null, .int 0, .null, .null, .null, .null]
theorem fz10_ok : ∀ j, j < 9 → defaultValue (tyX10 j) = vp_V fz10 j := fun j hj => match j, hj with
  | 0, _ => rfl
  | 1, _ => rfl
  | 2, _ => rfl
  | 3, _ => rfl
  | 4, _ => rfl
  | 5, _ => rfl
  | 6, _ => rfl
  | 7, _ => rfl
  | 8, _ => rfl
  | n + 9, h => absurd h (by omega)
def fz11 : List Value := [.null, .null, .null, .null, .null, .null, .null, .null, .null, .null, .int 0, .int 0, .int 0, .int 0, .null, .null, .null, .int 0, .int 0, .int 0]
theorem fz11_ok : ∀ j, j < 20 → defaultValue (tyX11 j) = vp_V fz11 j := fun j hj => match j, hj with
  | 0, _ => rfl
  | 1, _ => rfl
  | 2, _ => rfl
  | 3, _ => rfl
  | 4, _ => rfl
  | 5, _ => rfl
  | 6, _ => rfl
  | 7, _ => rfl
  | 8, _ => rfl
  | 9, _ => rfl
  | 10, _ => rfl
  | 11, _ => rfl
  | 12, _ => rfl
  | 13, _ => rfl
  | 14, _ => rfl
  | 15, _ => rfl
  | 16, _ => rfl
  | 17, _ => rfl
  | 18, _ => rfl
  | 19, _ => rfl
  | n + 20, h => absurd h (by omega)
def v0_c_X8_init (cy : Nat → ClassId) (h0 : Nat) : va_W := [(h0, .inr (7, [.int 0, .int 0, .int 0, .int 0, .int 0, .int 0, .int 0, .int 0, .int 0, .int 0, .int 0, .int 0, .int 0, .int 0, .int 0, .int 0, .long 0]))]
def v1_c_X8_init (cy : Nat → ClassId) (h0 : Nat) (r : Nat → Nat) : va_W := [(h0, .inr (7, [.int 0, .int 0, .int 0, .int 0, .int 0, .int 0, .int 0, .int 0, .int 0, .int 0, .int 0, .int 0, .int 0, .int 0, .int 0, .int 0, .long 0]))]
set_option maxHeartbeats 40000000 in
set_option maxRecDepth 100000 in
/-- Run() -/
theorem c_X8_init (l : Launch) (dC : Nat → ClassId) (dI : Nat → Nat → Nat) (cy : Nat → ClassId) (h0 : Nat) (sz : Nat) : Met l yX8_init wsX8_init ({ frames := 1, cells := 0, slots := 0, locals := 12 }) (va_Pc [.ref h0] (nIn (dC, dI) cy sz (v0_c_X8_init cy h0))) (va_Qv (fun _ : Nat → Nat => True) (fun r t => nOut (dC, dI) cy (va_A (v0_c_X8_init cy h0) sz) (v1_c_X8_init cy h0 r) t) (va_A (v0_c_X8_init cy h0) sz)) 0 0 (va_A (v0_c_X8_init cy h0) sz) := by
  refine Met.ofW (cc := cX8_init) (maxL := 1) (ret := none) (by decide) rfl ?_
  intro p e s m args below meth c s₁ B hml hv
  obtain ⟨rfl, hsz, hP, hK, hD0, hG⟩ := hv
  have hx := B.exec
  have hb := B.bytes
  have hr := B.returns
  have hts := atoms_spec (ws := wsX8_init) B.pre
  have hown : s.vm.findClass RX8 = some m.cls := findClass_of_methodNamed B.named
  have hlocks := B.notSynchronized
  have hin : meth.name = "<init>" := (name_of_methodNamed B.named B.method).1
  subst hsz
  have hD := hD0.self (sz := s.heap.size)
  generalize hAe : va_A (v0_c_X8_init cy h0) s.heap.size = A at hD ⊢
  have hA : ∀ q : Nat, s.heap.size ≤ q → A q := fun q h => by rw [← hAe]; exact Or.inr h
  have hS : va_S A s.heap s.heap [] := va_S.rf
  have hP : va_P (dC, dI) nCl (v0_c_X8_init cy h0) s.heap := hP
  have hl := lv_entry ([.ref h0]) (n := 1) (Nat.le_of_ble_eq_true rfl)
  rw [lg_entry_eq]
  generalize (lg_sl ([.ref h0]) ++ List.replicate (1 - (lg_sl ([.ref h0])).length) Slot.unset).toArray = ls at hl ⊢
  have hl : lv_has ls 1 [(0, .ref h0)] := hl
  have hP : va_P (dC, dI) nCl [(h0, .inr (7, [.int 0, .int 0, .int 0, .int 0, .int 0, .int 0, .int 0, .int 0, .int 0, .int 0, .int 0, .int 0, .int 0, .int 0, .int 0, .int 0, .long 0]))] s.heap := hP
  have hD : va_D A [(h0, .inr (7, [.int 0, .int 0, .int 0, .int 0, .int 0, .int 0, .int 0, .int 0, .int 0, .int 0, .int 0, .int 0, .int 0, .int 0, .int 0, .int 0, .long 0]))] := hD
  refine lv_aload_n hx hb dX8_init_0 rfl (lv_at hl 0 rfl) ?_
  refine W.objInit hx hb hown (hts _ (List.mem_cons_of_mem _ (List.mem_of_getElem? (i := 0) rfl))) (hts _ (List.mem_cons_of_mem _ (List.mem_of_getElem? (i := 1) rfl))) (hts _ (List.mem_cons_of_mem _ (List.mem_of_getElem? (i := 2) rfl))) rfl (by rw [hml]; exact hl.1) rfl dX8_init_1 (Nat.le_of_ble_eq_true rfl) (Nat.le_of_ble_eq_true rfl) ?_
  refine W.eq (g2 := F0 m 4 ls []) rfl ?_
  have hP : va_P (dC, dI) nCl (v1_c_X8_init cy h0 (fun _ => 0)) s.heap := hP
  have hD : va_D A (v1_c_X8_init cy h0 (fun _ => 0)) := hD
  exact W.vret hx hb hr (fun t ht hW => ⟨⟨(fun _ => 0), rfl, trivial, by rw [ht]; exact hP, va_K.moved hW.alike hK, hD⟩, hS.F ht⟩) hS.2.2 dX8_init_4
theorem in_X10_init_X10 : ∀ w ∈ wsX100, w ∈ wsX10_init := fun _ h9 => (List.mem_cons_of_mem _ (List.mem_append_right _ h9))
def v0_c_X10_init (cy : Nat → ClassId) (h0 : Nat) (hH : Nat) : va_W := [(h0, .inr (9, [.null, .null, .null, .null, .int 0, .null, .null, .null, .null]))]
def v1_c_X10_init (cy : Nat → ClassId) (h0 : Nat) (hH : Nat) (r : Nat → Nat) : va_W := [(h0, .inr (9, [.ref hH, .ref (r 0), .ref (r 1), .ref (r 2), .int 0, .ref (r 3), .ref (r 4), .ref (r 5), .ref (r 6)])), ((r 0), .inl (cy 1, 72, .inl nZ)), ((r 1), .inl (cy 1, 72, .inl nZ)), ((r 2), .inl (cy 1, 72, .inl nZ)), ((r 3), .inl (cy 1, 72, .inl nZ)), ((r 4), .inl (cy 1, 72, .inl nZ)), ((r 5), .inl (cy 1, 72, .inl nZ)), ((r 6), .inl (cy 1, 40, .inl nZ))]
set_option maxHeartbeats 40000000 in
set_option maxRecDepth 100000 in
/-- Wholes(heap) -/
theorem c_X10_init (l : Launch) (dC : Nat → ClassId) (dI : Nat → Nat → Nat) (cy : Nat → ClassId) (h0 : Nat) (hH : Nat) (sz : Nat) : Met l yX10_init wsX10_init ({ frames := 1, cells := 7, slots := 472, locals := 12 }) (va_Pc [.ref h0, .ref hH] (nIn (dC, dI) cy sz (v0_c_X10_init cy h0 hH))) (va_Qv (fun _ : Nat → Nat => True) (fun r t => nOut (dC, dI) cy (va_A (v0_c_X10_init cy h0 hH) sz) (v1_c_X10_init cy h0 hH r) t) (va_A (v0_c_X10_init cy h0 hH) sz)) 7 472 (va_A (v0_c_X10_init cy h0 hH) sz) := by
  refine Met.ofW (cc := cX10_init) (maxL := 2) (ret := none) (by decide) rfl ?_
  intro p e s m args below meth c s₁ B hml hv
  obtain ⟨rfl, hsz, hP, hK, hD0, hG⟩ := hv
  have hx := B.exec
  have hb := B.bytes
  have hr := B.returns
  have hts := atoms_spec (ws := wsX10_init) B.pre
  have hown : s.vm.findClass RX10 = some m.cls := findClass_of_methodNamed B.named
  have hlocks := B.notSynchronized
  have hin : meth.name = "<init>" := (name_of_methodNamed B.named B.method).1
  subst hsz
  have hD := hD0.self (sz := s.heap.size)
  generalize hAe : va_A (v0_c_X10_init cy h0 hH) s.heap.size = A at hD ⊢
  have hA : ∀ q : Nat, s.heap.size ≤ q → A q := fun q h => by rw [← hAe]; exact Or.inr h
  have hS : va_S A s.heap s.heap [] := va_S.rf
  have hP : va_P (dC, dI) nCl (v0_c_X10_init cy h0 hH) s.heap := hP
  have hl := lv_entry ([.ref h0, .ref hH]) (n := 2) (Nat.le_of_ble_eq_true rfl)
  rw [lg_entry_eq]
  generalize (lg_sl ([.ref h0, .ref hH]) ++ List.replicate (2 - (lg_sl ([.ref h0, .ref hH])).length) Slot.unset).toArray = ls at hl ⊢
  have hl : lv_has ls 2 [(0, .ref h0), (1, .ref hH)] := hl
  have hP : va_P (dC, dI) nCl [(h0, .inr (9, [.null, .null, .null, .null, .int 0, .null, .null, .null, .null]))] s.heap := hP
  have hD : va_D A [(h0, .inr (9, [.null, .null, .null, .null, .int 0, .null, .null, .null, .null]))] := hD
  refine lv_aload_n hx hb dX10_init_0 rfl (lv_at hl 0 rfl) ?_
  refine W.objInit hx hb hown (hts _ (List.mem_cons_of_mem _ (List.mem_append_left _ (List.mem_of_getElem? (i := 0) rfl)))) (hts _ (List.mem_cons_of_mem _ (List.mem_append_left _ (List.mem_of_getElem? (i := 1) rfl)))) (hts _ (List.mem_cons_of_mem _ (List.mem_append_left _ (List.mem_of_getElem? (i := 2) rfl)))) rfl (by rw [hml]; exact hl.1) rfl dX10_init_1 (Nat.le_of_ble_eq_true rfl) (Nat.le_of_ble_eq_true rfl) ?_
  refine W.eq (g2 := F0 m 4 ls []) rfl ?_
  refine lv_aload_n hx hb dX10_init_4 rfl (lv_at hl 0 rfl) ?_
  refine lv_bipush (v := 72) hx hb dX10_init_5 (by decide) ?_
  refine nb_newa (ty := .int) (cA := cy 1) (N' := 72) (a0 := (72, .inl nZ)) hx hb (hts _ (List.mem_cons_of_mem _ (List.mem_append_left _ (List.mem_of_getElem? (i := 3) rfl)))) rfl hK hP hD hS hA 1 rfl (fun _ => rfl) (by decide) rfl (by decide) (Nat.le_of_ble_eq_true rfl) (Nat.le_of_ble_eq_true rfl) dX10_init_7 (fun q1 H hP hD hS => ?_)
  refine W.widen (k := 1) (n := 72) (Nat.le_of_ble_eq_true rfl) (Nat.le_of_ble_eq_true rfl) ?_
  have hP : va_P (dC, dI) nCl [(h0, .inr (9, [.null, .null, .null, .null, .int 0, .null, .null, .null, .null])), (q1, .inl (cy 1, 72, .inl nZ))] H := hP
  have hD : va_D A [(h0, .inr (9, [.null, .null, .null, .null, .int 0, .null, .null, .null, .null])), (q1, .inl (cy 1, 72, .inl nZ))] := hD
  refine va_putF (D := (dC, dI)) (ci := 9) (v := .ref q1) (ty := .array .int) (C := RX10) (T := TX10) (N := 9) hx hb hts in_X10_init_X10 tyX10 tyX10_ok nmX10 hown hK hP hD hS 0 rfl rfl 1 (by decide) (hts _ (List.mem_cons_of_mem _ (List.mem_append_left _ (List.mem_of_getElem? (i := 4) rfl)))) (fun _ h9 => h9) rfl hin rfl (by decide +kernel) rfl rfl (Nat.le_of_ble_eq_true rfl) dX10_init_9 (fun H locs hP hD hS => ?_)
  have hP : va_P (dC, dI) nCl [(h0, .inr (9, [.null, .ref q1, .null, .null, .int 0, .null, .null, .null, .null])), (q1, .inl (cy 1, 72, .inl nZ))] H := hP
  have hD : va_D A [(h0, .inr (9, [.null, .ref q1, .null, .null, .int 0, .null, .null, .null, .null])), (q1, .inl (cy 1, 72, .inl nZ))] := hD
  refine lv_aload_n hx hb dX10_init_12 rfl (lv_at hl 0 rfl) ?_
  refine lv_bipush (v := 72) hx hb dX10_init_13 (by decide) ?_
  refine nb_newa (ty := .int) (cA := cy 1) (N' := 72) (a0 := (72, .inl nZ)) hx hb (hts _ (List.mem_cons_of_mem _ (List.mem_append_left _ (List.mem_of_getElem? (i := 3) rfl)))) rfl hK hP hD hS hA 1 rfl (fun _ => rfl) (by decide) rfl (by decide) (Nat.le_of_ble_eq_true rfl) (Nat.le_of_ble_eq_true rfl) dX10_init_15 (fun q2 H hP hD hS => ?_)
  refine W.widen (k := 2) (n := 144) (Nat.le_of_ble_eq_true rfl) (Nat.le_of_ble_eq_true rfl) ?_
  have hP : va_P (dC, dI) nCl [(h0, .inr (9, [.null, .ref q1, .null, .null, .int 0, .null, .null, .null, .null])), (q1, .inl (cy 1, 72, .inl nZ)), (q2, .inl (cy 1, 72, .inl nZ))] H := hP
  have hD : va_D A [(h0, .inr (9, [.null, .ref q1, .null, .null, .int 0, .null, .null, .null, .null])), (q1, .inl (cy 1, 72, .inl nZ)), (q2, .inl (cy 1, 72, .inl nZ))] := hD
  refine va_putF (D := (dC, dI)) (ci := 9) (v := .ref q2) (ty := .array .int) (C := RX10) (T := TX10) (N := 9) hx hb hts in_X10_init_X10 tyX10 tyX10_ok nmX10 hown hK hP hD hS 0 rfl rfl 2 (by decide) (hts _ (List.mem_cons_of_mem _ (List.mem_append_left _ (List.mem_of_getElem? (i := 5) rfl)))) (fun _ h9 => h9) rfl hin rfl (by decide +kernel) rfl rfl (Nat.le_of_ble_eq_true rfl) dX10_init_17 (fun H locs hP hD hS => ?_)
  have hP : va_P (dC, dI) nCl [(h0, .inr (9, [.null, .ref q1, .ref q2, .null, .int 0, .null, .null, .null, .null])), (q1, .inl (cy 1, 72, .inl nZ)), (q2, .inl (cy 1, 72, .inl nZ))] H := hP
  have hD : va_D A [(h0, .inr (9, [.null, .ref q1, .ref q2, .null, .int 0, .null, .null, .null, .null])), (q1, .inl (cy 1, 72, .inl nZ)), (q2, .inl (cy 1, 72, .inl nZ))] := hD
  refine lv_aload_n hx hb dX10_init_20 rfl (lv_at hl 0 rfl) ?_
  refine lv_bipush (v := 72) hx hb dX10_init_21 (by decide) ?_
  refine nb_newa (ty := .int) (cA := cy 1) (N' := 72) (a0 := (72, .inl nZ)) hx hb (hts _ (List.mem_cons_of_mem _ (List.mem_append_left _ (List.mem_of_getElem? (i := 3) rfl)))) rfl hK hP hD hS hA 1 rfl (fun _ => rfl) (by decide) rfl (by decide) (Nat.le_of_ble_eq_true rfl) (Nat.le_of_ble_eq_true rfl) dX10_init_23 (fun q3 H hP hD hS => ?_)
  refine W.widen (k := 3) (n := 216) (Nat.le_of_ble_eq_true rfl) (Nat.le_of_ble_eq_true rfl) ?_
  have hP : va_P (dC, dI) nCl [(h0, .inr (9, [.null, .ref q1, .ref q2, .null, .int 0, .null, .null, .null, .null])), (q1, .inl (cy 1, 72, .inl nZ)), (q2, .inl (cy 1, 72, .inl nZ)), (q3, .inl (cy 1, 72, .inl nZ))] H := hP
  have hD : va_D A [(h0, .inr (9, [.null, .ref q1, .ref q2, .null, .int 0, .null, .null, .null, .null])), (q1, .inl (cy 1, 72, .inl nZ)), (q2, .inl (cy 1, 72, .inl nZ)), (q3, .inl (cy 1, 72, .inl nZ))] := hD
  refine va_putF (D := (dC, dI)) (ci := 9) (v := .ref q3) (ty := .array .int) (C := RX10) (T := TX10) (N := 9) hx hb hts in_X10_init_X10 tyX10 tyX10_ok nmX10 hown hK hP hD hS 0 rfl rfl 3 (by decide) (hts _ (List.mem_cons_of_mem _ (List.mem_append_left _ (List.mem_of_getElem? (i := 6) rfl)))) (fun _ h9 => h9) rfl hin rfl (by decide +kernel) rfl rfl (Nat.le_of_ble_eq_true rfl) dX10_init_25 (fun H locs hP hD hS => ?_)
  have hP : va_P (dC, dI) nCl [(h0, .inr (9, [.null, .ref q1, .ref q2, .ref q3, .int 0, .null, .null, .null, .null])), (q1, .inl (cy 1, 72, .inl nZ)), (q2, .inl (cy 1, 72, .inl nZ)), (q3, .inl (cy 1, 72, .inl nZ))] H := hP
  have hD : va_D A [(h0, .inr (9, [.null, .ref q1, .ref q2, .ref q3, .int 0, .null, .null, .null, .null])), (q1, .inl (cy 1, 72, .inl nZ)), (q2, .inl (cy 1, 72, .inl nZ)), (q3, .inl (cy 1, 72, .inl nZ))] := hD
  refine lv_aload_n hx hb dX10_init_28 rfl (lv_at hl 0 rfl) ?_
  refine lv_bipush (v := 72) hx hb dX10_init_29 (by decide) ?_
  refine nb_newa (ty := .int) (cA := cy 1) (N' := 72) (a0 := (72, .inl nZ)) hx hb (hts _ (List.mem_cons_of_mem _ (List.mem_append_left _ (List.mem_of_getElem? (i := 3) rfl)))) rfl hK hP hD hS hA 1 rfl (fun _ => rfl) (by decide) rfl (by decide) (Nat.le_of_ble_eq_true rfl) (Nat.le_of_ble_eq_true rfl) dX10_init_31 (fun q4 H hP hD hS => ?_)
  refine W.widen (k := 4) (n := 288) (Nat.le_of_ble_eq_true rfl) (Nat.le_of_ble_eq_true rfl) ?_
  have hP : va_P (dC, dI) nCl [(h0, .inr (9, [.null, .ref q1, .ref q2, .ref q3, .int 0, .null, .null, .null, .null])), (q1, .inl (cy 1, 72, .inl nZ)), (q2, .inl (cy 1, 72, .inl nZ)), (q3, .inl (cy 1, 72, .inl nZ)), (q4, .inl (cy 1, 72, .inl nZ))] H := hP
  have hD : va_D A [(h0, .inr (9, [.null, .ref q1, .ref q2, .ref q3, .int 0, .null, .null, .null, .null])), (q1, .inl (cy 1, 72, .inl nZ)), (q2, .inl (cy 1, 72, .inl nZ)), (q3, .inl (cy 1, 72, .inl nZ)), (q4, .inl (cy 1, 72, .inl nZ))] := hD
  refine va_putF (D := (dC, dI)) (ci := 9) (v := .ref q4) (ty := .array .int) (C := RX10) (T := TX10) (N := 9) hx hb hts in_X10_init_X10 tyX10 tyX10_ok nmX10 hown hK hP hD hS 0 rfl rfl 5 (by decide) (hts _ (List.mem_cons_of_mem _ (List.mem_append_left _ (List.mem_of_getElem? (i := 7) rfl)))) (fun _ h9 => h9) rfl hin rfl (by decide +kernel) rfl rfl (Nat.le_of_ble_eq_true rfl) dX10_init_33 (fun H locs hP hD hS => ?_)
  have hP : va_P (dC, dI) nCl [(h0, .inr (9, [.null, .ref q1, .ref q2, .ref q3, .int 0, .ref q4, .null, .null, .null])), (q1, .inl (cy 1, 72, .inl nZ)), (q2, .inl (cy 1, 72, .inl nZ)), (q3, .inl (cy 1, 72, .inl nZ)), (q4, .inl (cy 1, 72, .inl nZ))] H := hP
  have hD : va_D A [(h0, .inr (9, [.null, .ref q1, .ref q2, .ref q3, .int 0, .ref q4, .null, .null, .null])), (q1, .inl (cy 1, 72, .inl nZ)), (q2, .inl (cy 1, 72, .inl nZ)), (q3, .inl (cy 1, 72, .inl nZ)), (q4, .inl (cy 1, 72, .inl nZ))] := hD
  refine lv_aload_n hx hb dX10_init_36 rfl (lv_at hl 0 rfl) ?_
  refine lv_bipush (v := 72) hx hb dX10_init_37 (by decide) ?_
  refine nb_newa (ty := .int) (cA := cy 1) (N' := 72) (a0 := (72, .inl nZ)) hx hb (hts _ (List.mem_cons_of_mem _ (List.mem_append_left _ (List.mem_of_getElem? (i := 3) rfl)))) rfl hK hP hD hS hA 1 rfl (fun _ => rfl) (by decide) rfl (by decide) (Nat.le_of_ble_eq_true rfl) (Nat.le_of_ble_eq_true rfl) dX10_init_39 (fun q5 H hP hD hS => ?_)
  refine W.widen (k := 5) (n := 360) (Nat.le_of_ble_eq_true rfl) (Nat.le_of_ble_eq_true rfl) ?_
  have hP : va_P (dC, dI) nCl [(h0, .inr (9, [.null, .ref q1, .ref q2, .ref q3, .int 0, .ref q4, .null, .null, .null])), (q1, .inl (cy 1, 72, .inl nZ)), (q2, .inl (cy 1, 72, .inl nZ)), (q3, .inl (cy 1, 72, .inl nZ)), (q4, .inl (cy 1, 72, .inl nZ)), (q5, .inl (cy 1, 72, .inl nZ))] H := hP
  have hD : va_D A [(h0, .inr (9, [.null, .ref q1, .ref q2, .ref q3, .int 0, .ref q4, .null, .null, .null])), (q1, .inl (cy 1, 72, .inl nZ)), (q2, .inl (cy 1, 72, .inl nZ)), (q3, .inl (cy 1, 72, .inl nZ)), (q4, .inl (cy 1, 72, .inl nZ)), (q5, .inl (cy 1, 72, .inl nZ))] := hD
  refine va_putF (D := (dC, dI)) (ci := 9) (v := .ref q5) (ty := .array .int) (C := RX10) (T := TX10) (N := 9) hx hb hts in_X10_init_X10 tyX10 tyX10_ok nmX10 hown hK hP hD hS 0 rfl rfl 6 (by decide) (hts _ (List.mem_cons_of_mem _ (List.mem_append_left _ (List.mem_of_getElem? (i := 8) rfl)))) (fun _ h9 => h9) rfl hin rfl (by decide +kernel) rfl rfl (Nat.le_of_ble_eq_true rfl) dX10_init_41 (fun H locs hP hD hS => ?_)
  have hP : va_P (dC, dI) nCl [(h0, .inr (9, [.null, .ref q1, .ref q2, .ref q3, .int 0, .ref q4, .ref q5, .null, .null])), (q1, .inl (cy 1, 72, .inl nZ)), (q2, .inl (cy 1, 72, .inl nZ)), (q3, .inl (cy 1, 72, .inl nZ)), (q4, .inl (cy 1, 72, .inl nZ)), (q5, .inl (cy 1, 72, .inl nZ))] H := hP
  have hD : va_D A [(h0, .inr (9, [.null, .ref q1, .ref q2, .ref q3, .int 0, .ref q4, .ref q5, .null, .null])), (q1, .inl (cy 1, 72, .inl nZ)), (q2, .inl (cy 1, 72, .inl nZ)), (q3, .inl (cy 1, 72, .inl nZ)), (q4, .inl (cy 1, 72, .inl nZ)), (q5, .inl (cy 1, 72, .inl nZ))] := hD
  refine lv_aload_n hx hb dX10_init_44 rfl (lv_at hl 0 rfl) ?_
  refine lv_bipush (v := 72) hx hb dX10_init_45 (by decide) ?_
  refine nb_newa (ty := .int) (cA := cy 1) (N' := 72) (a0 := (72, .inl nZ)) hx hb (hts _ (List.mem_cons_of_mem _ (List.mem_append_left _ (List.mem_of_getElem? (i := 3) rfl)))) rfl hK hP hD hS hA 1 rfl (fun _ => rfl) (by decide) rfl (by decide) (Nat.le_of_ble_eq_true rfl) (Nat.le_of_ble_eq_true rfl) dX10_init_47 (fun q6 H hP hD hS => ?_)
  refine W.widen (k := 6) (n := 432) (Nat.le_of_ble_eq_true rfl) (Nat.le_of_ble_eq_true rfl) ?_
  have hP : va_P (dC, dI) nCl [(h0, .inr (9, [.null, .ref q1, .ref q2, .ref q3, .int 0, .ref q4, .ref q5, .null, .null])), (q1, .inl (cy 1, 72, .inl nZ)), (q2, .inl (cy 1, 72, .inl nZ)), (q3, .inl (cy 1, 72, .inl nZ)), (q4, .inl (cy 1, 72, .inl nZ)), (q5, .inl (cy 1, 72, .inl nZ)), (q6, .inl (cy 1, 72, .inl nZ))] H := hP
  have hD : va_D A [(h0, .inr (9, [.null, .ref q1, .ref q2, .ref q3, .int 0, .ref q4, .ref q5, .null, .null])), (q1, .inl (cy 1, 72, .inl nZ)), (q2, .inl (cy 1, 72, .inl nZ)), (q3, .inl (cy 1, 72, .inl nZ)), (q4, .inl (cy 1, 72, .inl nZ)), (q5, .inl (cy 1, 72, .inl nZ)), (q6, .inl (cy 1, 72, .inl nZ))] := hD
  refine va_putF (D := (dC, dI)) (ci := 9) (v := .ref q6) (ty := .array .int) (C := RX10) (T := TX10) (N := 9) hx hb hts in_X10_init_X10 tyX10 tyX10_ok nmX10 hown hK hP hD hS 0 rfl rfl 7 (by decide) (hts _ (List.mem_cons_of_mem _ (List.mem_append_left _ (List.mem_of_getElem? (i := 9) rfl)))) (fun _ h9 => h9) rfl hin rfl (by decide +kernel) rfl rfl (Nat.le_of_ble_eq_true rfl) dX10_init_49 (fun H locs hP hD hS => ?_)
  have hP : va_P (dC, dI) nCl [(h0, .inr (9, [.null, .ref q1, .ref q2, .ref q3, .int 0, .ref q4, .ref q5, .ref q6, .null])), (q1, .inl (cy 1, 72, .inl nZ)), (q2, .inl (cy 1, 72, .inl nZ)), (q3, .inl (cy 1, 72, .inl nZ)), (q4, .inl (cy 1, 72, .inl nZ)), (q5, .inl (cy 1, 72, .inl nZ)), (q6, .inl (cy 1, 72, .inl nZ))] H := hP
  have hD : va_D A [(h0, .inr (9, [.null, .ref q1, .ref q2, .ref q3, .int 0, .ref q4, .ref q5, .ref q6, .null])), (q1, .inl (cy 1, 72, .inl nZ)), (q2, .inl (cy 1, 72, .inl nZ)), (q3, .inl (cy 1, 72, .inl nZ)), (q4, .inl (cy 1, 72, .inl nZ)), (q5, .inl (cy 1, 72, .inl nZ)), (q6, .inl (cy 1, 72, .inl nZ))] := hD
  refine lv_aload_n hx hb dX10_init_52 rfl (lv_at hl 0 rfl) ?_
  refine lv_bipush (v := 40) hx hb dX10_init_53 (by decide) ?_
  refine nb_newa (ty := .int) (cA := cy 1) (N' := 40) (a0 := (40, .inl nZ)) hx hb (hts _ (List.mem_cons_of_mem _ (List.mem_append_left _ (List.mem_of_getElem? (i := 3) rfl)))) rfl hK hP hD hS hA 1 rfl (fun _ => rfl) (by decide) rfl (by decide) (Nat.le_of_ble_eq_true rfl) (Nat.le_of_ble_eq_true rfl) dX10_init_55 (fun q7 H hP hD hS => ?_)
  refine W.widen (k := 7) (n := 472) (Nat.le_of_ble_eq_true rfl) (Nat.le_of_ble_eq_true rfl) ?_
  have hP : va_P (dC, dI) nCl [(h0, .inr (9, [.null, .ref q1, .ref q2, .ref q3, .int 0, .ref q4, .ref q5, .ref q6, .null])), (q1, .inl (cy 1, 72, .inl nZ)), (q2, .inl (cy 1, 72, .inl nZ)), (q3, .inl (cy 1, 72, .inl nZ)), (q4, .inl (cy 1, 72, .inl nZ)), (q5, .inl (cy 1, 72, .inl nZ)), (q6, .inl (cy 1, 72, .inl nZ)), (q7, .inl (cy 1, 40, .inl nZ))] H := hP
  have hD : va_D A [(h0, .inr (9, [.null, .ref q1, .ref q2, .ref q3, .int 0, .ref q4, .ref q5, .ref q6, .null])), (q1, .inl (cy 1, 72, .inl nZ)), (q2, .inl (cy 1, 72, .inl nZ)), (q3, .inl (cy 1, 72, .inl nZ)), (q4, .inl (cy 1, 72, .inl nZ)), (q5, .inl (cy 1, 72, .inl nZ)), (q6, .inl (cy 1, 72, .inl nZ)), (q7, .inl (cy 1, 40, .inl nZ))] := hD
  refine va_putF (D := (dC, dI)) (ci := 9) (v := .ref q7) (ty := .array .int) (C := RX10) (T := TX10) (N := 9) hx hb hts in_X10_init_X10 tyX10 tyX10_ok nmX10 hown hK hP hD hS 0 rfl rfl 8 (by decide) (hts _ (List.mem_cons_of_mem _ (List.mem_append_left _ (List.mem_of_getElem? (i := 10) rfl)))) (fun _ h9 => h9) rfl hin rfl (by decide +kernel) rfl rfl (Nat.le_of_ble_eq_true rfl) dX10_init_57 (fun H locs hP hD hS => ?_)
  have hP : va_P (dC, dI) nCl [(h0, .inr (9, [.null, .ref q1, .ref q2, .ref q3, .int 0, .ref q4, .ref q5, .ref q6, .ref q7])), (q1, .inl (cy 1, 72, .inl nZ)), (q2, .inl (cy 1, 72, .inl nZ)), (q3, .inl (cy 1, 72, .inl nZ)), (q4, .inl (cy 1, 72, .inl nZ)), (q5, .inl (cy 1, 72, .inl nZ)), (q6, .inl (cy 1, 72, .inl nZ)), (q7, .inl (cy 1, 40, .inl nZ))] H := hP
  have hD : va_D A [(h0, .inr (9, [.null, .ref q1, .ref q2, .ref q3, .int 0, .ref q4, .ref q5, .ref q6, .ref q7])), (q1, .inl (cy 1, 72, .inl nZ)), (q2, .inl (cy 1, 72, .inl nZ)), (q3, .inl (cy 1, 72, .inl nZ)), (q4, .inl (cy 1, 72, .inl nZ)), (q5, .inl (cy 1, 72, .inl nZ)), (q6, .inl (cy 1, 72, .inl nZ)), (q7, .inl (cy 1, 40, .inl nZ))] := hD
  refine lv_aload_n hx hb dX10_init_60 rfl (lv_at hl 0 rfl) ?_
  refine lv_aload_n hx hb dX10_init_61 rfl (lv_at hl 1 rfl) ?_
  refine va_putF (D := (dC, dI)) (ci := 9) (v := .ref hH) (ty := .object "SetHouse$Heap") (C := RX10) (T := TX10) (N := 9) hx hb hts in_X10_init_X10 tyX10 tyX10_ok nmX10 hown hK hP hD hS 0 rfl rfl 0 (by decide) (hts _ (List.mem_cons_of_mem _ (List.mem_append_left _ (List.mem_of_getElem? (i := 11) rfl)))) (fun _ h9 => h9) rfl hin rfl (by decide +kernel) rfl rfl (Nat.le_of_ble_eq_true rfl) dX10_init_62 (fun H locs hP hD hS => ?_)
  have hP : va_P (dC, dI) nCl [(h0, .inr (9, [.ref hH, .ref q1, .ref q2, .ref q3, .int 0, .ref q4, .ref q5, .ref q6, .ref q7])), (q1, .inl (cy 1, 72, .inl nZ)), (q2, .inl (cy 1, 72, .inl nZ)), (q3, .inl (cy 1, 72, .inl nZ)), (q4, .inl (cy 1, 72, .inl nZ)), (q5, .inl (cy 1, 72, .inl nZ)), (q6, .inl (cy 1, 72, .inl nZ)), (q7, .inl (cy 1, 40, .inl nZ))] H := hP
  have hD : va_D A [(h0, .inr (9, [.ref hH, .ref q1, .ref q2, .ref q3, .int 0, .ref q4, .ref q5, .ref q6, .ref q7])), (q1, .inl (cy 1, 72, .inl nZ)), (q2, .inl (cy 1, 72, .inl nZ)), (q3, .inl (cy 1, 72, .inl nZ)), (q4, .inl (cy 1, 72, .inl nZ)), (q5, .inl (cy 1, 72, .inl nZ)), (q6, .inl (cy 1, 72, .inl nZ)), (q7, .inl (cy 1, 40, .inl nZ))] := hD
  have hP : va_P (dC, dI) nCl (v1_c_X10_init cy h0 hH (fun k => [q1, q2, q3, q4, q5, q6, q7].getD k 0)) H := hP
  have hD : va_D A (v1_c_X10_init cy h0 hH (fun k => [q1, q2, q3, q4, q5, q6, q7].getD k 0)) := hD
  exact W.vret hx hb hr (fun t ht hW => ⟨⟨(fun k => [q1, q2, q3, q4, q5, q6, q7].getD k 0), rfl, trivial, by rw [ht]; exact hP, va_K.moved hW.alike hK, hD⟩, hS.F ht⟩) hS.2.2 dX10_init_65
theorem in_X6_init_X6 : ∀ w ∈ wsX60, w ∈ wsX6_init := fun _ h9 => (List.mem_cons_of_mem _ (List.mem_append_right _ h9))
def v0_c_X6_init (cy : Nat → ClassId) (h0 : Nat) (hH : Nat) (hW : Nat) : va_W := [(h0, .inr (5, [.null, .null, .null, .int 0]))]
def v1_c_X6_init (cy : Nat → ClassId) (h0 : Nat) (hH : Nat) (hW : Nat) (r : Nat → Nat) : va_W := [(h0, .inr (5, [.ref hH, .ref hW, .ref (r 0), .int 0])), ((r 0), .inl (cy 0, 10400, .inl nZ))]
set_option maxHeartbeats 40000000 in
set_option maxRecDepth 100000 in
/-- Printer(heap, wholes) -/
theorem c_X6_init (l : Launch) (dC : Nat → ClassId) (dI : Nat → Nat → Nat) (cy : Nat → ClassId) (h0 : Nat) (hH : Nat) (hW : Nat) (sz : Nat) : Met l yX6_init wsX6_init ({ frames := 1, cells := 1, slots := 10400, locals := 12 }) (va_Pc [.ref h0, .ref hH, .ref hW] (nIn (dC, dI) cy sz (v0_c_X6_init cy h0 hH hW))) (va_Qv (fun _ : Nat → Nat => True) (fun r t => nOut (dC, dI) cy (va_A (v0_c_X6_init cy h0 hH hW) sz) (v1_c_X6_init cy h0 hH hW r) t) (va_A (v0_c_X6_init cy h0 hH hW) sz)) 1 10400 (va_A (v0_c_X6_init cy h0 hH hW) sz) := by
  refine Met.ofW (cc := cX6_init) (maxL := 3) (ret := none) (by decide) rfl ?_
  intro p e s m args below meth c s₁ B hml hv
  obtain ⟨rfl, hsz, hP, hK, hD0, hG⟩ := hv
  have hx := B.exec
  have hb := B.bytes
  have hr := B.returns
  have hts := atoms_spec (ws := wsX6_init) B.pre
  have hown : s.vm.findClass RX6 = some m.cls := findClass_of_methodNamed B.named
  have hlocks := B.notSynchronized
  have hin : meth.name = "<init>" := (name_of_methodNamed B.named B.method).1
  subst hsz
  have hD := hD0.self (sz := s.heap.size)
  generalize hAe : va_A (v0_c_X6_init cy h0 hH hW) s.heap.size = A at hD ⊢
  have hA : ∀ q : Nat, s.heap.size ≤ q → A q := fun q h => by rw [← hAe]; exact Or.inr h
  have hS : va_S A s.heap s.heap [] := va_S.rf
  have hP : va_P (dC, dI) nCl (v0_c_X6_init cy h0 hH hW) s.heap := hP
  have hl := lv_entry ([.ref h0, .ref hH, .ref hW]) (n := 3) (Nat.le_of_ble_eq_true rfl)
  rw [lg_entry_eq]
  generalize (lg_sl ([.ref h0, .ref hH, .ref hW]) ++ List.replicate (3 - (lg_sl ([.ref h0, .ref hH, .ref hW])).length) Slot.unset).toArray = ls at hl ⊢
  have hl : lv_has ls 3 [(0, .ref h0), (1, .ref hH), (2, .ref hW)] := hl
  have hP : va_P (dC, dI) nCl [(h0, .inr (5, [.null, .null, .null, .int 0]))] s.heap := hP
  have hD : va_D A [(h0, .inr (5, [.null, .null, .null, .int 0]))] := hD
  refine lv_aload_n hx hb dX6_init_0 rfl (lv_at hl 0 rfl) ?_
  refine W.objInit hx hb hown (hts _ (List.mem_cons_of_mem _ (List.mem_append_left _ (List.mem_of_getElem? (i := 0) rfl)))) (hts _ (List.mem_cons_of_mem _ (List.mem_append_left _ (List.mem_of_getElem? (i := 1) rfl)))) (hts _ (List.mem_cons_of_mem _ (List.mem_append_left _ (List.mem_of_getElem? (i := 2) rfl)))) rfl (by rw [hml]; exact hl.1) rfl dX6_init_1 (Nat.le_of_ble_eq_true rfl) (Nat.le_of_ble_eq_true rfl) ?_
  refine W.eq (g2 := F0 m 4 ls []) rfl ?_
  refine lv_aload_n hx hb dX6_init_4 rfl (lv_at hl 0 rfl) ?_
  refine lv_sipush (v := 10400) hx hb dX6_init_5 (by decide) ?_
  refine nb_newa (ty := .byte) (cA := cy 0) (N' := 10400) (a0 := (10400, .inl nZ)) hx hb (hts _ (List.mem_cons_of_mem _ (List.mem_append_left _ (List.mem_of_getElem? (i := 3) rfl)))) rfl hK hP hD hS hA 0 rfl (fun _ => rfl) (by decide) rfl (by decide) (Nat.le_of_ble_eq_true rfl) (Nat.le_of_ble_eq_true rfl) dX6_init_8 (fun q1 H hP hD hS => ?_)
  refine W.widen (k := 1) (n := 10400) (Nat.le_of_ble_eq_true rfl) (Nat.le_of_ble_eq_true rfl) ?_
  have hP : va_P (dC, dI) nCl [(h0, .inr (5, [.null, .null, .null, .int 0])), (q1, .inl (cy 0, 10400, .inl nZ))] H := hP
  have hD : va_D A [(h0, .inr (5, [.null, .null, .null, .int 0])), (q1, .inl (cy 0, 10400, .inl nZ))] := hD
  refine va_putF (D := (dC, dI)) (ci := 5) (v := .ref q1) (ty := .array .byte) (C := RX6) (T := TX6) (N := 4) hx hb hts in_X6_init_X6 tyX6 tyX6_ok nmX6 hown hK hP hD hS 0 rfl rfl 2 (by decide) (hts _ (List.mem_cons_of_mem _ (List.mem_append_left _ (List.mem_of_getElem? (i := 4) rfl)))) (fun _ h9 => h9) rfl hin rfl (by decide +kernel) rfl rfl (Nat.le_of_ble_eq_true rfl) dX6_init_10 (fun H locs hP hD hS => ?_)
  have hP : va_P (dC, dI) nCl [(h0, .inr (5, [.null, .null, .ref q1, .int 0])), (q1, .inl (cy 0, 10400, .inl nZ))] H := hP
  have hD : va_D A [(h0, .inr (5, [.null, .null, .ref q1, .int 0])), (q1, .inl (cy 0, 10400, .inl nZ))] := hD
  refine lv_aload_n hx hb dX6_init_13 rfl (lv_at hl 0 rfl) ?_
  refine lv_aload_n hx hb dX6_init_14 rfl (lv_at hl 1 rfl) ?_
  refine va_putF (D := (dC, dI)) (ci := 5) (v := .ref hH) (ty := .object "SetHouse$Heap") (C := RX6) (T := TX6) (N := 4) hx hb hts in_X6_init_X6 tyX6 tyX6_ok nmX6 hown hK hP hD hS 0 rfl rfl 0 (by decide) (hts _ (List.mem_cons_of_mem _ (List.mem_append_left _ (List.mem_of_getElem? (i := 5) rfl)))) (fun _ h9 => h9) rfl hin rfl (by decide +kernel) rfl rfl (Nat.le_of_ble_eq_true rfl) dX6_init_15 (fun H locs hP hD hS => ?_)
  have hP : va_P (dC, dI) nCl [(h0, .inr (5, [.ref hH, .null, .ref q1, .int 0])), (q1, .inl (cy 0, 10400, .inl nZ))] H := hP
  have hD : va_D A [(h0, .inr (5, [.ref hH, .null, .ref q1, .int 0])), (q1, .inl (cy 0, 10400, .inl nZ))] := hD
  refine lv_aload_n hx hb dX6_init_18 rfl (lv_at hl 0 rfl) ?_
  refine lv_aload_n hx hb dX6_init_19 rfl (lv_at hl 2 rfl) ?_
  refine va_putF (D := (dC, dI)) (ci := 5) (v := .ref hW) (ty := .object "SetHouse$Wholes") (C := RX6) (T := TX6) (N := 4) hx hb hts in_X6_init_X6 tyX6 tyX6_ok nmX6 hown hK hP hD hS 0 rfl rfl 1 (by decide) (hts _ (List.mem_cons_of_mem _ (List.mem_append_left _ (List.mem_of_getElem? (i := 6) rfl)))) (fun _ h9 => h9) rfl hin rfl (by decide +kernel) rfl rfl (Nat.le_of_ble_eq_true rfl) dX6_init_20 (fun H locs hP hD hS => ?_)
  have hP : va_P (dC, dI) nCl [(h0, .inr (5, [.ref hH, .ref hW, .ref q1, .int 0])), (q1, .inl (cy 0, 10400, .inl nZ))] H := hP
  have hD : va_D A [(h0, .inr (5, [.ref hH, .ref hW, .ref q1, .int 0])), (q1, .inl (cy 0, 10400, .inl nZ))] := hD
  have hP : va_P (dC, dI) nCl (v1_c_X6_init cy h0 hH hW (fun k => [q1].getD k 0)) H := hP
  have hD : va_D A (v1_c_X6_init cy h0 hH hW (fun k => [q1].getD k 0)) := hD
  exact W.vret hx hb hr (fun t ht hW => ⟨⟨(fun k => [q1].getD k 0), rfl, trivial, by rw [ht]; exact hP, va_K.moved hW.alike hK, hD⟩, hS.F ht⟩) hS.2.2 dX6_init_23
theorem in_X0_init_X0 : ∀ w ∈ wsX00, w ∈ wsX0_init := fun _ h9 => (List.mem_cons_of_mem _ (List.mem_append_right _ h9))
def v0_c_X0_init (cy : Nat → ClassId) (h0 : Nat) (hH : Nat) (hW : Nat) (hP0 : Nat) : va_W := [(h0, .inr (0, [.null, .null, .null, .null, .null, .null]))]
def v1_c_X0_init (cy : Nat → ClassId) (h0 : Nat) (hH : Nat) (hW : Nat) (hP0 : Nat) (r : Nat → Nat) : va_W := [(h0, .inr (0, [.ref hH, .ref hW, .ref hP0, .ref (r 0), .ref (r 1), .ref (r 2)])), ((r 0), .inl (cy 0, 8192, .inl nZ)), ((r 1), .inl (cy 1, 2048, .inl nZ)), ((r 2), .inl (cy 1, 8, .inl nZ))]
set_option maxHeartbeats 40000000 in
set_option maxRecDepth 100000 in
/-- Algebra(heap, wholes, printer) -/
theorem c_X0_init (l : Launch) (dC : Nat → ClassId) (dI : Nat → Nat → Nat) (cy : Nat → ClassId) (h0 : Nat) (hH : Nat) (hW : Nat) (hP0 : Nat) (sz : Nat) : Met l yX0_init wsX0_init ({ frames := 1, cells := 3, slots := 10248, locals := 12 }) (va_Pc [.ref h0, .ref hH, .ref hW, .ref hP0] (nIn (dC, dI) cy sz (v0_c_X0_init cy h0 hH hW hP0))) (va_Qv (fun _ : Nat → Nat => True) (fun r t => nOut (dC, dI) cy (va_A (v0_c_X0_init cy h0 hH hW hP0) sz) (v1_c_X0_init cy h0 hH hW hP0 r) t) (va_A (v0_c_X0_init cy h0 hH hW hP0) sz)) 3 10248 (va_A (v0_c_X0_init cy h0 hH hW hP0) sz) := by
  refine Met.ofW (cc := cX0_init) (maxL := 4) (ret := none) (by decide) rfl ?_
  intro p e s m args below meth c s₁ B hml hv
  obtain ⟨rfl, hsz, hP, hK, hD0, hG⟩ := hv
  have hx := B.exec
  have hb := B.bytes
  have hr := B.returns
  have hts := atoms_spec (ws := wsX0_init) B.pre
  have hown : s.vm.findClass RX0 = some m.cls := findClass_of_methodNamed B.named
  have hlocks := B.notSynchronized
  have hin : meth.name = "<init>" := (name_of_methodNamed B.named B.method).1
  subst hsz
  have hD := hD0.self (sz := s.heap.size)
  generalize hAe : va_A (v0_c_X0_init cy h0 hH hW hP0) s.heap.size = A at hD ⊢
  have hA : ∀ q : Nat, s.heap.size ≤ q → A q := fun q h => by rw [← hAe]; exact Or.inr h
  have hS : va_S A s.heap s.heap [] := va_S.rf
  have hP : va_P (dC, dI) nCl (v0_c_X0_init cy h0 hH hW hP0) s.heap := hP
  have hl := lv_entry ([.ref h0, .ref hH, .ref hW, .ref hP0]) (n := 4) (Nat.le_of_ble_eq_true rfl)
  rw [lg_entry_eq]
  generalize (lg_sl ([.ref h0, .ref hH, .ref hW, .ref hP0]) ++ List.replicate (4 - (lg_sl ([.ref h0, .ref hH, .ref hW, .ref hP0])).length) Slot.unset).toArray = ls at hl ⊢
  have hl : lv_has ls 4 [(0, .ref h0), (1, .ref hH), (2, .ref hW), (3, .ref hP0)] := hl
  have hP : va_P (dC, dI) nCl [(h0, .inr (0, [.null, .null, .null, .null, .null, .null]))] s.heap := hP
  have hD : va_D A [(h0, .inr (0, [.null, .null, .null, .null, .null, .null]))] := hD
  refine lv_aload_n hx hb dX0_init_0 rfl (lv_at hl 0 rfl) ?_
  refine W.objInit hx hb hown (hts _ (List.mem_cons_of_mem _ (List.mem_append_left _ (List.mem_of_getElem? (i := 0) rfl)))) (hts _ (List.mem_cons_of_mem _ (List.mem_append_left _ (List.mem_of_getElem? (i := 1) rfl)))) (hts _ (List.mem_cons_of_mem _ (List.mem_append_left _ (List.mem_of_getElem? (i := 2) rfl)))) rfl (by rw [hml]; exact hl.1) rfl dX0_init_1 (Nat.le_of_ble_eq_true rfl) (Nat.le_of_ble_eq_true rfl) ?_
  refine W.eq (g2 := F0 m 4 ls []) rfl ?_
  refine lv_aload_n hx hb dX0_init_4 rfl (lv_at hl 0 rfl) ?_
  refine lv_sipush (v := 8192) hx hb dX0_init_5 (by decide) ?_
  refine nb_newa (ty := .byte) (cA := cy 0) (N' := 8192) (a0 := (8192, .inl nZ)) hx hb (hts _ (List.mem_cons_of_mem _ (List.mem_append_left _ (List.mem_of_getElem? (i := 3) rfl)))) rfl hK hP hD hS hA 0 rfl (fun _ => rfl) (by decide) rfl (by decide) (Nat.le_of_ble_eq_true rfl) (Nat.le_of_ble_eq_true rfl) dX0_init_8 (fun q1 H hP hD hS => ?_)
  refine W.widen (k := 1) (n := 8192) (Nat.le_of_ble_eq_true rfl) (Nat.le_of_ble_eq_true rfl) ?_
  have hP : va_P (dC, dI) nCl [(h0, .inr (0, [.null, .null, .null, .null, .null, .null])), (q1, .inl (cy 0, 8192, .inl nZ))] H := hP
  have hD : va_D A [(h0, .inr (0, [.null, .null, .null, .null, .null, .null])), (q1, .inl (cy 0, 8192, .inl nZ))] := hD
  refine va_putF (D := (dC, dI)) (ci := 0) (v := .ref q1) (ty := .array .byte) (C := RX0) (T := TX0) (N := 6) hx hb hts in_X0_init_X0 tyX0 tyX0_ok nmX0 hown hK hP hD hS 0 rfl rfl 3 (by decide) (hts _ (List.mem_cons_of_mem _ (List.mem_append_left _ (List.mem_of_getElem? (i := 4) rfl)))) (fun _ h9 => h9) rfl hin rfl (by decide +kernel) rfl rfl (Nat.le_of_ble_eq_true rfl) dX0_init_10 (fun H locs hP hD hS => ?_)
  have hP : va_P (dC, dI) nCl [(h0, .inr (0, [.null, .null, .null, .ref q1, .null, .null])), (q1, .inl (cy 0, 8192, .inl nZ))] H := hP
  have hD : va_D A [(h0, .inr (0, [.null, .null, .null, .ref q1, .null, .null])), (q1, .inl (cy 0, 8192, .inl nZ))] := hD
  refine lv_aload_n hx hb dX0_init_13 rfl (lv_at hl 0 rfl) ?_
  refine lv_sipush (v := 2048) hx hb dX0_init_14 (by decide) ?_
  refine nb_newa (ty := .int) (cA := cy 1) (N' := 2048) (a0 := (2048, .inl nZ)) hx hb (hts _ (List.mem_cons_of_mem _ (List.mem_append_left _ (List.mem_of_getElem? (i := 5) rfl)))) rfl hK hP hD hS hA 1 rfl (fun _ => rfl) (by decide) rfl (by decide) (Nat.le_of_ble_eq_true rfl) (Nat.le_of_ble_eq_true rfl) dX0_init_17 (fun q2 H hP hD hS => ?_)
  refine W.widen (k := 2) (n := 10240) (Nat.le_of_ble_eq_true rfl) (Nat.le_of_ble_eq_true rfl) ?_
  have hP : va_P (dC, dI) nCl [(h0, .inr (0, [.null, .null, .null, .ref q1, .null, .null])), (q1, .inl (cy 0, 8192, .inl nZ)), (q2, .inl (cy 1, 2048, .inl nZ))] H := hP
  have hD : va_D A [(h0, .inr (0, [.null, .null, .null, .ref q1, .null, .null])), (q1, .inl (cy 0, 8192, .inl nZ)), (q2, .inl (cy 1, 2048, .inl nZ))] := hD
  refine va_putF (D := (dC, dI)) (ci := 0) (v := .ref q2) (ty := .array .int) (C := RX0) (T := TX0) (N := 6) hx hb hts in_X0_init_X0 tyX0 tyX0_ok nmX0 hown hK hP hD hS 0 rfl rfl 4 (by decide) (hts _ (List.mem_cons_of_mem _ (List.mem_append_left _ (List.mem_of_getElem? (i := 6) rfl)))) (fun _ h9 => h9) rfl hin rfl (by decide +kernel) rfl rfl (Nat.le_of_ble_eq_true rfl) dX0_init_19 (fun H locs hP hD hS => ?_)
  have hP : va_P (dC, dI) nCl [(h0, .inr (0, [.null, .null, .null, .ref q1, .ref q2, .null])), (q1, .inl (cy 0, 8192, .inl nZ)), (q2, .inl (cy 1, 2048, .inl nZ))] H := hP
  have hD : va_D A [(h0, .inr (0, [.null, .null, .null, .ref q1, .ref q2, .null])), (q1, .inl (cy 0, 8192, .inl nZ)), (q2, .inl (cy 1, 2048, .inl nZ))] := hD
  refine lv_aload_n hx hb dX0_init_22 rfl (lv_at hl 0 rfl) ?_
  refine lv_bipush (v := 8) hx hb dX0_init_23 (by decide) ?_
  refine nb_newa (ty := .int) (cA := cy 1) (N' := 8) (a0 := (8, .inl nZ)) hx hb (hts _ (List.mem_cons_of_mem _ (List.mem_append_left _ (List.mem_of_getElem? (i := 5) rfl)))) rfl hK hP hD hS hA 1 rfl (fun _ => rfl) (by decide) rfl (by decide) (Nat.le_of_ble_eq_true rfl) (Nat.le_of_ble_eq_true rfl) dX0_init_25 (fun q3 H hP hD hS => ?_)
  refine W.widen (k := 3) (n := 10248) (Nat.le_of_ble_eq_true rfl) (Nat.le_of_ble_eq_true rfl) ?_
  have hP : va_P (dC, dI) nCl [(h0, .inr (0, [.null, .null, .null, .ref q1, .ref q2, .null])), (q1, .inl (cy 0, 8192, .inl nZ)), (q2, .inl (cy 1, 2048, .inl nZ)), (q3, .inl (cy 1, 8, .inl nZ))] H := hP
  have hD : va_D A [(h0, .inr (0, [.null, .null, .null, .ref q1, .ref q2, .null])), (q1, .inl (cy 0, 8192, .inl nZ)), (q2, .inl (cy 1, 2048, .inl nZ)), (q3, .inl (cy 1, 8, .inl nZ))] := hD
  refine va_putF (D := (dC, dI)) (ci := 0) (v := .ref q3) (ty := .array .int) (C := RX0) (T := TX0) (N := 6) hx hb hts in_X0_init_X0 tyX0 tyX0_ok nmX0 hown hK hP hD hS 0 rfl rfl 5 (by decide) (hts _ (List.mem_cons_of_mem _ (List.mem_append_left _ (List.mem_of_getElem? (i := 7) rfl)))) (fun _ h9 => h9) rfl hin rfl (by decide +kernel) rfl rfl (Nat.le_of_ble_eq_true rfl) dX0_init_27 (fun H locs hP hD hS => ?_)
  have hP : va_P (dC, dI) nCl [(h0, .inr (0, [.null, .null, .null, .ref q1, .ref q2, .ref q3])), (q1, .inl (cy 0, 8192, .inl nZ)), (q2, .inl (cy 1, 2048, .inl nZ)), (q3, .inl (cy 1, 8, .inl nZ))] H := hP
  have hD : va_D A [(h0, .inr (0, [.null, .null, .null, .ref q1, .ref q2, .ref q3])), (q1, .inl (cy 0, 8192, .inl nZ)), (q2, .inl (cy 1, 2048, .inl nZ)), (q3, .inl (cy 1, 8, .inl nZ))] := hD
  refine lv_aload_n hx hb dX0_init_30 rfl (lv_at hl 0 rfl) ?_
  refine lv_aload_n hx hb dX0_init_31 rfl (lv_at hl 1 rfl) ?_
  refine va_putF (D := (dC, dI)) (ci := 0) (v := .ref hH) (ty := .object "SetHouse$Heap") (C := RX0) (T := TX0) (N := 6) hx hb hts in_X0_init_X0 tyX0 tyX0_ok nmX0 hown hK hP hD hS 0 rfl rfl 0 (by decide) (hts _ (List.mem_cons_of_mem _ (List.mem_append_left _ (List.mem_of_getElem? (i := 8) rfl)))) (fun _ h9 => h9) rfl hin rfl (by decide +kernel) rfl rfl (Nat.le_of_ble_eq_true rfl) dX0_init_32 (fun H locs hP hD hS => ?_)
  have hP : va_P (dC, dI) nCl [(h0, .inr (0, [.ref hH, .null, .null, .ref q1, .ref q2, .ref q3])), (q1, .inl (cy 0, 8192, .inl nZ)), (q2, .inl (cy 1, 2048, .inl nZ)), (q3, .inl (cy 1, 8, .inl nZ))] H := hP
  have hD : va_D A [(h0, .inr (0, [.ref hH, .null, .null, .ref q1, .ref q2, .ref q3])), (q1, .inl (cy 0, 8192, .inl nZ)), (q2, .inl (cy 1, 2048, .inl nZ)), (q3, .inl (cy 1, 8, .inl nZ))] := hD
  refine lv_aload_n hx hb dX0_init_35 rfl (lv_at hl 0 rfl) ?_
  refine lv_aload_n hx hb dX0_init_36 rfl (lv_at hl 2 rfl) ?_
  refine va_putF (D := (dC, dI)) (ci := 0) (v := .ref hW) (ty := .object "SetHouse$Wholes") (C := RX0) (T := TX0) (N := 6) hx hb hts in_X0_init_X0 tyX0 tyX0_ok nmX0 hown hK hP hD hS 0 rfl rfl 1 (by decide) (hts _ (List.mem_cons_of_mem _ (List.mem_append_left _ (List.mem_of_getElem? (i := 9) rfl)))) (fun _ h9 => h9) rfl hin rfl (by decide +kernel) rfl rfl (Nat.le_of_ble_eq_true rfl) dX0_init_37 (fun H locs hP hD hS => ?_)
  have hP : va_P (dC, dI) nCl [(h0, .inr (0, [.ref hH, .ref hW, .null, .ref q1, .ref q2, .ref q3])), (q1, .inl (cy 0, 8192, .inl nZ)), (q2, .inl (cy 1, 2048, .inl nZ)), (q3, .inl (cy 1, 8, .inl nZ))] H := hP
  have hD : va_D A [(h0, .inr (0, [.ref hH, .ref hW, .null, .ref q1, .ref q2, .ref q3])), (q1, .inl (cy 0, 8192, .inl nZ)), (q2, .inl (cy 1, 2048, .inl nZ)), (q3, .inl (cy 1, 8, .inl nZ))] := hD
  refine lv_aload_n hx hb dX0_init_40 rfl (lv_at hl 0 rfl) ?_
  refine lv_aload_n hx hb dX0_init_41 rfl (lv_at hl 3 rfl) ?_
  refine va_putF (D := (dC, dI)) (ci := 0) (v := .ref hP0) (ty := .object "SetHouse$Printer") (C := RX0) (T := TX0) (N := 6) hx hb hts in_X0_init_X0 tyX0 tyX0_ok nmX0 hown hK hP hD hS 0 rfl rfl 2 (by decide) (hts _ (List.mem_cons_of_mem _ (List.mem_append_left _ (List.mem_of_getElem? (i := 10) rfl)))) (fun _ h9 => h9) rfl hin rfl (by decide +kernel) rfl rfl (Nat.le_of_ble_eq_true rfl) dX0_init_42 (fun H locs hP hD hS => ?_)
  have hP : va_P (dC, dI) nCl [(h0, .inr (0, [.ref hH, .ref hW, .ref hP0, .ref q1, .ref q2, .ref q3])), (q1, .inl (cy 0, 8192, .inl nZ)), (q2, .inl (cy 1, 2048, .inl nZ)), (q3, .inl (cy 1, 8, .inl nZ))] H := hP
  have hD : va_D A [(h0, .inr (0, [.ref hH, .ref hW, .ref hP0, .ref q1, .ref q2, .ref q3])), (q1, .inl (cy 0, 8192, .inl nZ)), (q2, .inl (cy 1, 2048, .inl nZ)), (q3, .inl (cy 1, 8, .inl nZ))] := hD
  have hP : va_P (dC, dI) nCl (v1_c_X0_init cy h0 hH hW hP0 (fun k => [q1, q2, q3].getD k 0)) H := hP
  have hD : va_D A (v1_c_X0_init cy h0 hH hW hP0 (fun k => [q1, q2, q3].getD k 0)) := hD
  exact W.vret hx hb hr (fun t ht hW => ⟨⟨(fun k => [q1, q2, q3].getD k 0), rfl, trivial, by rw [ht]; exact hP, va_K.moved hW.alike hK, hD⟩, hS.F ht⟩) hS.2.2 dX0_init_45
theorem in_X5_init_X5 : ∀ w ∈ wsX50, w ∈ wsX5_init := fun _ h9 => (List.mem_cons_of_mem _ (List.mem_append_right _ h9))
def v0_c_X5_init (cy : Nat → ClassId) (h0 : Nat) (hL : Nat) (hW : Nat) : va_W := [(h0, .inr (4, [.null, .null, .null, .int 0, .int 0, .int 0, .int 0, .int 0, .int 0, .int 0, .null, .int 0, .null, .int 0, .int 0, .int 0, .int 0, .int 0, .int 0, .int 0, .int 0]))]
def v1_c_X5_init (cy : Nat → ClassId) (h0 : Nat) (hL : Nat) (hW : Nat) (r : Nat → Nat) : va_W := [(h0, .inr (4, [.ref hL, .ref hW, .null, .int 0, .int 0, .int 0, .int 0, .int 0, .int 0, .int 0, .ref (r 0), .int 0, .ref (r 1), .int 0, .int 0, .int 0, .int 0, .int 0, .int 0, .int 0, .int 0])), ((r 0), .inl (cy 1, 256, .inl nZ)), ((r 1), .inl (cy 1, 64, .inl nZ))]
set_option maxHeartbeats 40000000 in
set_option maxRecDepth 100000 in
/-- Parser(lex, wholes) -/
theorem c_X5_init (l : Launch) (dC : Nat → ClassId) (dI : Nat → Nat → Nat) (cy : Nat → ClassId) (h0 : Nat) (hL : Nat) (hW : Nat) (sz : Nat) : Met l yX5_init wsX5_init ({ frames := 1, cells := 2, slots := 320, locals := 12 }) (va_Pc [.ref h0, .ref hL, .ref hW] (nIn (dC, dI) cy sz (v0_c_X5_init cy h0 hL hW))) (va_Qv (fun _ : Nat → Nat => True) (fun r t => nOut (dC, dI) cy (va_A (v0_c_X5_init cy h0 hL hW) sz) (v1_c_X5_init cy h0 hL hW r) t) (va_A (v0_c_X5_init cy h0 hL hW) sz)) 2 320 (va_A (v0_c_X5_init cy h0 hL hW) sz) := by
  refine Met.ofW (cc := cX5_init) (maxL := 3) (ret := none) (by decide) rfl ?_
  intro p e s m args below meth c s₁ B hml hv
  obtain ⟨rfl, hsz, hP, hK, hD0, hG⟩ := hv
  have hx := B.exec
  have hb := B.bytes
  have hr := B.returns
  have hts := atoms_spec (ws := wsX5_init) B.pre
  have hown : s.vm.findClass RX5 = some m.cls := findClass_of_methodNamed B.named
  have hlocks := B.notSynchronized
  have hin : meth.name = "<init>" := (name_of_methodNamed B.named B.method).1
  subst hsz
  have hD := hD0.self (sz := s.heap.size)
  generalize hAe : va_A (v0_c_X5_init cy h0 hL hW) s.heap.size = A at hD ⊢
  have hA : ∀ q : Nat, s.heap.size ≤ q → A q := fun q h => by rw [← hAe]; exact Or.inr h
  have hS : va_S A s.heap s.heap [] := va_S.rf
  have hP : va_P (dC, dI) nCl (v0_c_X5_init cy h0 hL hW) s.heap := hP
  have hl := lv_entry ([.ref h0, .ref hL, .ref hW]) (n := 3) (Nat.le_of_ble_eq_true rfl)
  rw [lg_entry_eq]
  generalize (lg_sl ([.ref h0, .ref hL, .ref hW]) ++ List.replicate (3 - (lg_sl ([.ref h0, .ref hL, .ref hW])).length) Slot.unset).toArray = ls at hl ⊢
  have hl : lv_has ls 3 [(0, .ref h0), (1, .ref hL), (2, .ref hW)] := hl
  have hP : va_P (dC, dI) nCl [(h0, .inr (4, [.null, .null, .null, .int 0, .int 0, .int 0, .int 0, .int 0, .int 0, .int 0, .null, .int 0, .null, .int 0, .int 0, .int 0, .int 0, .int 0, .int 0, .int 0, .int 0]))] s.heap := hP
  have hD : va_D A [(h0, .inr (4, [.null, .null, .null, .int 0, .int 0, .int 0, .int 0, .int 0, .int 0, .int 0, .null, .int 0, .null, .int 0, .int 0, .int 0, .int 0, .int 0, .int 0, .int 0, .int 0]))] := hD
  refine lv_aload_n hx hb dX5_init_0 rfl (lv_at hl 0 rfl) ?_
  refine W.objInit hx hb hown (hts _ (List.mem_cons_of_mem _ (List.mem_append_left _ (List.mem_of_getElem? (i := 0) rfl)))) (hts _ (List.mem_cons_of_mem _ (List.mem_append_left _ (List.mem_of_getElem? (i := 1) rfl)))) (hts _ (List.mem_cons_of_mem _ (List.mem_append_left _ (List.mem_of_getElem? (i := 2) rfl)))) rfl (by rw [hml]; exact hl.1) rfl dX5_init_1 (Nat.le_of_ble_eq_true rfl) (Nat.le_of_ble_eq_true rfl) ?_
  refine W.eq (g2 := F0 m 4 ls []) rfl ?_
  refine lv_aload_n hx hb dX5_init_4 rfl (lv_at hl 0 rfl) ?_
  refine lv_sipush (v := 256) hx hb dX5_init_5 (by decide) ?_
  refine nb_newa (ty := .int) (cA := cy 1) (N' := 256) (a0 := (256, .inl nZ)) hx hb (hts _ (List.mem_cons_of_mem _ (List.mem_append_left _ (List.mem_of_getElem? (i := 3) rfl)))) rfl hK hP hD hS hA 1 rfl (fun _ => rfl) (by decide) rfl (by decide) (Nat.le_of_ble_eq_true rfl) (Nat.le_of_ble_eq_true rfl) dX5_init_8 (fun q1 H hP hD hS => ?_)
  refine W.widen (k := 1) (n := 256) (Nat.le_of_ble_eq_true rfl) (Nat.le_of_ble_eq_true rfl) ?_
  have hP : va_P (dC, dI) nCl [(h0, .inr (4, [.null, .null, .null, .int 0, .int 0, .int 0, .int 0, .int 0, .int 0, .int 0, .null, .int 0, .null, .int 0, .int 0, .int 0, .int 0, .int 0, .int 0, .int 0, .int 0])), (q1, .inl (cy 1, 256, .inl nZ))] H := hP
  have hD : va_D A [(h0, .inr (4, [.null, .null, .null, .int 0, .int 0, .int 0, .int 0, .int 0, .int 0, .int 0, .null, .int 0, .null, .int 0, .int 0, .int 0, .int 0, .int 0, .int 0, .int 0, .int 0])), (q1, .inl (cy 1, 256, .inl nZ))] := hD
  refine va_put (D := (dC, dI)) (ci := 4) (v := .ref q1) (ty := .array .int) (C := RX5) (T := TX5) (N := 21) hx hb hts in_X5_init_X5 tyX5 tyX5_ok nmX5 hown hK hP hD hS 0 rfl rfl 10 (by decide) (hts _ (List.mem_cons_of_mem _ (List.mem_append_left _ (List.mem_of_getElem? (i := 4) rfl)))) (fun _ h9 => h9) rfl (by decide +kernel) rfl rfl (Nat.le_of_ble_eq_true rfl) dX5_init_10 (fun H locs hP hD hS => ?_)
  have hP : va_P (dC, dI) nCl [(h0, .inr (4, [.null, .null, .null, .int 0, .int 0, .int 0, .int 0, .int 0, .int 0, .int 0, .ref q1, .int 0, .null, .int 0, .int 0, .int 0, .int 0, .int 0, .int 0, .int 0, .int 0])), (q1, .inl (cy 1, 256, .inl nZ))] H := hP
  have hD : va_D A [(h0, .inr (4, [.null, .null, .null, .int 0, .int 0, .int 0, .int 0, .int 0, .int 0, .int 0, .ref q1, .int 0, .null, .int 0, .int 0, .int 0, .int 0, .int 0, .int 0, .int 0, .int 0])), (q1, .inl (cy 1, 256, .inl nZ))] := hD
  refine lv_aload_n hx hb dX5_init_13 rfl (lv_at hl 0 rfl) ?_
  refine lv_bipush (v := 64) hx hb dX5_init_14 (by decide) ?_
  refine nb_newa (ty := .int) (cA := cy 1) (N' := 64) (a0 := (64, .inl nZ)) hx hb (hts _ (List.mem_cons_of_mem _ (List.mem_append_left _ (List.mem_of_getElem? (i := 3) rfl)))) rfl hK hP hD hS hA 1 rfl (fun _ => rfl) (by decide) rfl (by decide) (Nat.le_of_ble_eq_true rfl) (Nat.le_of_ble_eq_true rfl) dX5_init_16 (fun q2 H hP hD hS => ?_)
  refine W.widen (k := 2) (n := 320) (Nat.le_of_ble_eq_true rfl) (Nat.le_of_ble_eq_true rfl) ?_
  have hP : va_P (dC, dI) nCl [(h0, .inr (4, [.null, .null, .null, .int 0, .int 0, .int 0, .int 0, .int 0, .int 0, .int 0, .ref q1, .int 0, .null, .int 0, .int 0, .int 0, .int 0, .int 0, .int 0, .int 0, .int 0])), (q1, .inl (cy 1, 256, .inl nZ)), (q2, .inl (cy 1, 64, .inl nZ))] H := hP
  have hD : va_D A [(h0, .inr (4, [.null, .null, .null, .int 0, .int 0, .int 0, .int 0, .int 0, .int 0, .int 0, .ref q1, .int 0, .null, .int 0, .int 0, .int 0, .int 0, .int 0, .int 0, .int 0, .int 0])), (q1, .inl (cy 1, 256, .inl nZ)), (q2, .inl (cy 1, 64, .inl nZ))] := hD
  refine va_put (D := (dC, dI)) (ci := 4) (v := .ref q2) (ty := .array .int) (C := RX5) (T := TX5) (N := 21) hx hb hts in_X5_init_X5 tyX5 tyX5_ok nmX5 hown hK hP hD hS 0 rfl rfl 12 (by decide) (hts _ (List.mem_cons_of_mem _ (List.mem_append_left _ (List.mem_of_getElem? (i := 5) rfl)))) (fun _ h9 => h9) rfl (by decide +kernel) rfl rfl (Nat.le_of_ble_eq_true rfl) dX5_init_18 (fun H locs hP hD hS => ?_)
  have hP : va_P (dC, dI) nCl [(h0, .inr (4, [.null, .null, .null, .int 0, .int 0, .int 0, .int 0, .int 0, .int 0, .int 0, .ref q1, .int 0, .ref q2, .int 0, .int 0, .int 0, .int 0, .int 0, .int 0, .int 0, .int 0])), (q1, .inl (cy 1, 256, .inl nZ)), (q2, .inl (cy 1, 64, .inl nZ))] H := hP
  have hD : va_D A [(h0, .inr (4, [.null, .null, .null, .int 0, .int 0, .int 0, .int 0, .int 0, .int 0, .int 0, .ref q1, .int 0, .ref q2, .int 0, .int 0, .int 0, .int 0, .int 0, .int 0, .int 0, .int 0])), (q1, .inl (cy 1, 256, .inl nZ)), (q2, .inl (cy 1, 64, .inl nZ))] := hD
  refine lv_aload_n hx hb dX5_init_21 rfl (lv_at hl 0 rfl) ?_
  refine lv_aload_n hx hb dX5_init_22 rfl (lv_at hl 1 rfl) ?_
  refine va_putF (D := (dC, dI)) (ci := 4) (v := .ref hL) (ty := .object "SetHouse$Lexer") (C := RX5) (T := TX5) (N := 21) hx hb hts in_X5_init_X5 tyX5 tyX5_ok nmX5 hown hK hP hD hS 0 rfl rfl 0 (by decide) (hts _ (List.mem_cons_of_mem _ (List.mem_append_left _ (List.mem_of_getElem? (i := 6) rfl)))) (fun _ h9 => h9) rfl hin rfl (by decide +kernel) rfl rfl (Nat.le_of_ble_eq_true rfl) dX5_init_23 (fun H locs hP hD hS => ?_)
  have hP : va_P (dC, dI) nCl [(h0, .inr (4, [.ref hL, .null, .null, .int 0, .int 0, .int 0, .int 0, .int 0, .int 0, .int 0, .ref q1, .int 0, .ref q2, .int 0, .int 0, .int 0, .int 0, .int 0, .int 0, .int 0, .int 0])), (q1, .inl (cy 1, 256, .inl nZ)), (q2, .inl (cy 1, 64, .inl nZ))] H := hP
  have hD : va_D A [(h0, .inr (4, [.ref hL, .null, .null, .int 0, .int 0, .int 0, .int 0, .int 0, .int 0, .int 0, .ref q1, .int 0, .ref q2, .int 0, .int 0, .int 0, .int 0, .int 0, .int 0, .int 0, .int 0])), (q1, .inl (cy 1, 256, .inl nZ)), (q2, .inl (cy 1, 64, .inl nZ))] := hD
  refine lv_aload_n hx hb dX5_init_26 rfl (lv_at hl 0 rfl) ?_
  refine lv_aload_n hx hb dX5_init_27 rfl (lv_at hl 2 rfl) ?_
  refine va_putF (D := (dC, dI)) (ci := 4) (v := .ref hW) (ty := .object "SetHouse$Wholes") (C := RX5) (T := TX5) (N := 21) hx hb hts in_X5_init_X5 tyX5 tyX5_ok nmX5 hown hK hP hD hS 0 rfl rfl 1 (by decide) (hts _ (List.mem_cons_of_mem _ (List.mem_append_left _ (List.mem_of_getElem? (i := 7) rfl)))) (fun _ h9 => h9) rfl hin rfl (by decide +kernel) rfl rfl (Nat.le_of_ble_eq_true rfl) dX5_init_28 (fun H locs hP hD hS => ?_)
  have hP : va_P (dC, dI) nCl [(h0, .inr (4, [.ref hL, .ref hW, .null, .int 0, .int 0, .int 0, .int 0, .int 0, .int 0, .int 0, .ref q1, .int 0, .ref q2, .int 0, .int 0, .int 0, .int 0, .int 0, .int 0, .int 0, .int 0])), (q1, .inl (cy 1, 256, .inl nZ)), (q2, .inl (cy 1, 64, .inl nZ))] H := hP
  have hD : va_D A [(h0, .inr (4, [.ref hL, .ref hW, .null, .int 0, .int 0, .int 0, .int 0, .int 0, .int 0, .int 0, .ref q1, .int 0, .ref q2, .int 0, .int 0, .int 0, .int 0, .int 0, .int 0, .int 0, .int 0])), (q1, .inl (cy 1, 256, .inl nZ)), (q2, .inl (cy 1, 64, .inl nZ))] := hD
  have hP : va_P (dC, dI) nCl (v1_c_X5_init cy h0 hL hW (fun k => [q1, q2].getD k 0)) H := hP
  have hD : va_D A (v1_c_X5_init cy h0 hL hW (fun k => [q1, q2].getD k 0)) := hD
  exact W.vret hx hb hr (fun t ht hW => ⟨⟨(fun k => [q1, q2].getD k 0), rfl, trivial, by rw [ht]; exact hP, va_K.moved hW.alike hK, hD⟩, hS.F ht⟩) hS.2.2 dX5_init_31
theorem in_X7_init_X7 : ∀ w ∈ wsX70, w ∈ wsX7_init := fun _ h9 => (List.mem_cons_of_mem _ (List.mem_append_right _ h9))
def v0_c_X7_init (cy : Nat → ClassId) (h0 : Nat) : va_W := [(h0, .inr (6, [.null, .int 0, .int 0, .int 0, .int 0, .null, .null, .null, .null, .null, .null, .int 0, .int 0, .null, .null, .null, .null, .null, .null, .int 0]))]
def v1_c_X7_init (cy : Nat → ClassId) (h0 : Nat) (r : Nat → Nat) : va_W := [(h0, .inr (6, [.ref (r 0), .int 0, .int 0, .int 0, .int 0, .ref (r 1), .ref (r 2), .ref (r 3), .ref (r 4), .ref (r 5), .ref (r 6), .int 0, .int 0, .ref (r 7), .ref (r 8), .ref (r 9), .ref (r 10), .ref (r 11), .ref (r 12), .int 0])), ((r 0), .inl (cy 1, 1024, .inl nZ)), ((r 1), .inl (cy 2, 256, .inr (.inl (fun _ => 0)))), ((r 2), .inl (cy 2, 256, .inr (.inl (fun _ => 0)))), ((r 3), .inl (cy 1, 256, .inl nZ)), ((r 4), .inl (cy 1, 256, .inl nZ)), ((r 5), .inl (cy 1, 256, .inl nZ)), ((r 6), .inl (cy 3, 256, .inl nZ)), ((r 7), .inl (cy 1, 42, .inl nZ)), ((r 8), .inl (cy 1, 42, .inl nZ)), ((r 9), .inl (cy 1, 42, .inl nZ)), ((r 10), .inl (cy 1, 42, .inl nZ)), ((r 11), .inl (cy 1, 42, .inl nZ)), ((r 12), .inl (cy 1, 42, .inl nZ))]
set_option maxHeartbeats 40000000 in
set_option maxRecDepth 100000 in
/-- Program() -/
theorem c_X7_init (l : Launch) (dC : Nat → ClassId) (dI : Nat → Nat → Nat) (cy : Nat → ClassId) (h0 : Nat) (sz : Nat) : Met l yX7_init wsX7_init ({ frames := 1, cells := 13, slots := 2812, locals := 12 }) (va_Pc [.ref h0] (nIn (dC, dI) cy sz (v0_c_X7_init cy h0))) (va_Qv (fun _ : Nat → Nat => True) (fun r t => nOut (dC, dI) cy (va_A (v0_c_X7_init cy h0) sz) (v1_c_X7_init cy h0 r) t) (va_A (v0_c_X7_init cy h0) sz)) 13 2812 (va_A (v0_c_X7_init cy h0) sz) := by
  refine Met.ofW (cc := cX7_init) (maxL := 1) (ret := none) (by decide) rfl ?_
  intro p e s m args below meth c s₁ B hml hv
  obtain ⟨rfl, hsz, hP, hK, hD0, hG⟩ := hv
  have hx := B.exec
  have hb := B.bytes
  have hr := B.returns
  have hts := atoms_spec (ws := wsX7_init) B.pre
  have hown : s.vm.findClass RX7 = some m.cls := findClass_of_methodNamed B.named
  have hlocks := B.notSynchronized
  have hin : meth.name = "<init>" := (name_of_methodNamed B.named B.method).1
  subst hsz
  have hD := hD0.self (sz := s.heap.size)
  generalize hAe : va_A (v0_c_X7_init cy h0) s.heap.size = A at hD ⊢
  have hA : ∀ q : Nat, s.heap.size ≤ q → A q := fun q h => by rw [← hAe]; exact Or.inr h
  have hS : va_S A s.heap s.heap [] := va_S.rf
  have hP : va_P (dC, dI) nCl (v0_c_X7_init cy h0) s.heap := hP
  have hl := lv_entry ([.ref h0]) (n := 1) (Nat.le_of_ble_eq_true rfl)
  rw [lg_entry_eq]
  generalize (lg_sl ([.ref h0]) ++ List.replicate (1 - (lg_sl ([.ref h0])).length) Slot.unset).toArray = ls at hl ⊢
  have hl : lv_has ls 1 [(0, .ref h0)] := hl
  have hP : va_P (dC, dI) nCl [(h0, .inr (6, [.null, .int 0, .int 0, .int 0, .int 0, .null, .null, .null, .null, .null, .null, .int 0, .int 0, .null, .null, .null, .null, .null, .null, .int 0]))] s.heap := hP
  have hD : va_D A [(h0, .inr (6, [.null, .int 0, .int 0, .int 0, .int 0, .null, .null, .null, .null, .null, .null, .int 0, .int 0, .null, .null, .null, .null, .null, .null, .int 0]))] := hD
  refine lv_aload_n hx hb dX7_init_0 rfl (lv_at hl 0 rfl) ?_
  refine W.objInit hx hb hown (hts _ (List.mem_cons_of_mem _ (List.mem_append_left _ (List.mem_of_getElem? (i := 0) rfl)))) (hts _ (List.mem_cons_of_mem _ (List.mem_append_left _ (List.mem_of_getElem? (i := 1) rfl)))) (hts _ (List.mem_cons_of_mem _ (List.mem_append_left _ (List.mem_of_getElem? (i := 2) rfl)))) rfl (by rw [hml]; exact hl.1) rfl dX7_init_1 (Nat.le_of_ble_eq_true rfl) (Nat.le_of_ble_eq_true rfl) ?_
  refine W.eq (g2 := F0 m 4 ls []) rfl ?_
  refine lv_aload_n hx hb dX7_init_4 rfl (lv_at hl 0 rfl) ?_
  refine lv_sipush (v := 1024) hx hb dX7_init_5 (by decide) ?_
  refine nb_newa (ty := .int) (cA := cy 1) (N' := 1024) (a0 := (1024, .inl nZ)) hx hb (hts _ (List.mem_cons_of_mem _ (List.mem_append_left _ (List.mem_of_getElem? (i := 3) rfl)))) rfl hK hP hD hS hA 1 rfl (fun _ => rfl) (by decide) rfl (by decide) (Nat.le_of_ble_eq_true rfl) (Nat.le_of_ble_eq_true rfl) dX7_init_8 (fun q1 H hP hD hS => ?_)
  refine W.widen (k := 1) (n := 1024) (Nat.le_of_ble_eq_true rfl) (Nat.le_of_ble_eq_true rfl) ?_
  have hP : va_P (dC, dI) nCl [(h0, .inr (6, [.null, .int 0, .int 0, .int 0, .int 0, .null, .null, .null, .null, .null, .null, .int 0, .int 0, .null, .null, .null, .null, .null, .null, .int 0])), (q1, .inl (cy 1, 1024, .inl nZ))] H := hP
  have hD : va_D A [(h0, .inr (6, [.null, .int 0, .int 0, .int 0, .int 0, .null, .null, .null, .null, .null, .null, .int 0, .int 0, .null, .null, .null, .null, .null, .null, .int 0])), (q1, .inl (cy 1, 1024, .inl nZ))] := hD
  refine va_put (D := (dC, dI)) (ci := 6) (v := .ref q1) (ty := .array .int) (C := RX7) (T := TX7) (N := 20) hx hb hts in_X7_init_X7 tyX7 tyX7_ok nmX7 hown hK hP hD hS 0 rfl rfl 0 (by decide) (hts _ (List.mem_cons_of_mem _ (List.mem_append_left _ (List.mem_of_getElem? (i := 4) rfl)))) (fun _ h9 => h9) rfl (by decide +kernel) rfl rfl (Nat.le_of_ble_eq_true rfl) dX7_init_10 (fun H locs hP hD hS => ?_)
  have hP : va_P (dC, dI) nCl [(h0, .inr (6, [.ref q1, .int 0, .int 0, .int 0, .int 0, .null, .null, .null, .null, .null, .null, .int 0, .int 0, .null, .null, .null, .null, .null, .null, .int 0])), (q1, .inl (cy 1, 1024, .inl nZ))] H := hP
  have hD : va_D A [(h0, .inr (6, [.ref q1, .int 0, .int 0, .int 0, .int 0, .null, .null, .null, .null, .null, .null, .int 0, .int 0, .null, .null, .null, .null, .null, .null, .int 0])), (q1, .inl (cy 1, 1024, .inl nZ))] := hD
  refine lv_aload_n hx hb dX7_init_13 rfl (lv_at hl 0 rfl) ?_
  refine lv_sipush (v := 256) hx hb dX7_init_14 (by decide) ?_
  refine nb_newa (ty := .long) (cA := cy 2) (N' := 256) (a0 := (256, .inr (.inl (fun _ => 0)))) hx hb (hts _ (List.mem_cons_of_mem _ (List.mem_append_left _ (List.mem_of_getElem? (i := 5) rfl)))) rfl hK hP hD hS hA 2 rfl (fun _ => rfl) (by decide) rfl (by decide) (Nat.le_of_ble_eq_true rfl) (Nat.le_of_ble_eq_true rfl) dX7_init_17 (fun q2 H hP hD hS => ?_)
  refine W.widen (k := 2) (n := 1280) (Nat.le_of_ble_eq_true rfl) (Nat.le_of_ble_eq_true rfl) ?_
  have hP : va_P (dC, dI) nCl [(h0, .inr (6, [.ref q1, .int 0, .int 0, .int 0, .int 0, .null, .null, .null, .null, .null, .null, .int 0, .int 0, .null, .null, .null, .null, .null, .null, .int 0])), (q1, .inl (cy 1, 1024, .inl nZ)), (q2, .inl (cy 2, 256, .inr (.inl (fun _ => 0))))] H := hP
  have hD : va_D A [(h0, .inr (6, [.ref q1, .int 0, .int 0, .int 0, .int 0, .null, .null, .null, .null, .null, .null, .int 0, .int 0, .null, .null, .null, .null, .null, .null, .int 0])), (q1, .inl (cy 1, 1024, .inl nZ)), (q2, .inl (cy 2, 256, .inr (.inl (fun _ => 0))))] := hD
  refine va_putF (D := (dC, dI)) (ci := 6) (v := .ref q2) (ty := .array .long) (C := RX7) (T := TX7) (N := 20) hx hb hts in_X7_init_X7 tyX7 tyX7_ok nmX7 hown hK hP hD hS 0 rfl rfl 5 (by decide) (hts _ (List.mem_cons_of_mem _ (List.mem_append_left _ (List.mem_of_getElem? (i := 6) rfl)))) (fun _ h9 => h9) rfl hin rfl (by decide +kernel) rfl rfl (Nat.le_of_ble_eq_true rfl) dX7_init_19 (fun H locs hP hD hS => ?_)
  have hP : va_P (dC, dI) nCl [(h0, .inr (6, [.ref q1, .int 0, .int 0, .int 0, .int 0, .ref q2, .null, .null, .null, .null, .null, .int 0, .int 0, .null, .null, .null, .null, .null, .null, .int 0])), (q1, .inl (cy 1, 1024, .inl nZ)), (q2, .inl (cy 2, 256, .inr (.inl (fun _ => 0))))] H := hP
  have hD : va_D A [(h0, .inr (6, [.ref q1, .int 0, .int 0, .int 0, .int 0, .ref q2, .null, .null, .null, .null, .null, .int 0, .int 0, .null, .null, .null, .null, .null, .null, .int 0])), (q1, .inl (cy 1, 1024, .inl nZ)), (q2, .inl (cy 2, 256, .inr (.inl (fun _ => 0))))] := hD
  refine lv_aload_n hx hb dX7_init_22 rfl (lv_at hl 0 rfl) ?_
  refine lv_sipush (v := 256) hx hb dX7_init_23 (by decide) ?_
  refine nb_newa (ty := .long) (cA := cy 2) (N' := 256) (a0 := (256, .inr (.inl (fun _ => 0)))) hx hb (hts _ (List.mem_cons_of_mem _ (List.mem_append_left _ (List.mem_of_getElem? (i := 5) rfl)))) rfl hK hP hD hS hA 2 rfl (fun _ => rfl) (by decide) rfl (by decide) (Nat.le_of_ble_eq_true rfl) (Nat.le_of_ble_eq_true rfl) dX7_init_26 (fun q3 H hP hD hS => ?_)
  refine W.widen (k := 3) (n := 1536) (Nat.le_of_ble_eq_true rfl) (Nat.le_of_ble_eq_true rfl) ?_
  have hP : va_P (dC, dI) nCl [(h0, .inr (6, [.ref q1, .int 0, .int 0, .int 0, .int 0, .ref q2, .null, .null, .null, .null, .null, .int 0, .int 0, .null, .null, .null, .null, .null, .null, .int 0])), (q1, .inl (cy 1, 1024, .inl nZ)), (q2, .inl (cy 2, 256, .inr (.inl (fun _ => 0)))), (q3, .inl (cy 2, 256, .inr (.inl (fun _ => 0))))] H := hP
  have hD : va_D A [(h0, .inr (6, [.ref q1, .int 0, .int 0, .int 0, .int 0, .ref q2, .null, .null, .null, .null, .null, .int 0, .int 0, .null, .null, .null, .null, .null, .null, .int 0])), (q1, .inl (cy 1, 1024, .inl nZ)), (q2, .inl (cy 2, 256, .inr (.inl (fun _ => 0)))), (q3, .inl (cy 2, 256, .inr (.inl (fun _ => 0))))] := hD
  refine va_putF (D := (dC, dI)) (ci := 6) (v := .ref q3) (ty := .array .long) (C := RX7) (T := TX7) (N := 20) hx hb hts in_X7_init_X7 tyX7 tyX7_ok nmX7 hown hK hP hD hS 0 rfl rfl 6 (by decide) (hts _ (List.mem_cons_of_mem _ (List.mem_append_left _ (List.mem_of_getElem? (i := 7) rfl)))) (fun _ h9 => h9) rfl hin rfl (by decide +kernel) rfl rfl (Nat.le_of_ble_eq_true rfl) dX7_init_28 (fun H locs hP hD hS => ?_)
  have hP : va_P (dC, dI) nCl [(h0, .inr (6, [.ref q1, .int 0, .int 0, .int 0, .int 0, .ref q2, .ref q3, .null, .null, .null, .null, .int 0, .int 0, .null, .null, .null, .null, .null, .null, .int 0])), (q1, .inl (cy 1, 1024, .inl nZ)), (q2, .inl (cy 2, 256, .inr (.inl (fun _ => 0)))), (q3, .inl (cy 2, 256, .inr (.inl (fun _ => 0))))] H := hP
  have hD : va_D A [(h0, .inr (6, [.ref q1, .int 0, .int 0, .int 0, .int 0, .ref q2, .ref q3, .null, .null, .null, .null, .int 0, .int 0, .null, .null, .null, .null, .null, .null, .int 0])), (q1, .inl (cy 1, 1024, .inl nZ)), (q2, .inl (cy 2, 256, .inr (.inl (fun _ => 0)))), (q3, .inl (cy 2, 256, .inr (.inl (fun _ => 0))))] := hD
  refine lv_aload_n hx hb dX7_init_31 rfl (lv_at hl 0 rfl) ?_
  refine lv_sipush (v := 256) hx hb dX7_init_32 (by decide) ?_
  refine nb_newa (ty := .int) (cA := cy 1) (N' := 256) (a0 := (256, .inl nZ)) hx hb (hts _ (List.mem_cons_of_mem _ (List.mem_append_left _ (List.mem_of_getElem? (i := 3) rfl)))) rfl hK hP hD hS hA 1 rfl (fun _ => rfl) (by decide) rfl (by decide) (Nat.le_of_ble_eq_true rfl) (Nat.le_of_ble_eq_true rfl) dX7_init_35 (fun q4 H hP hD hS => ?_)
  refine W.widen (k := 4) (n := 1792) (Nat.le_of_ble_eq_true rfl) (Nat.le_of_ble_eq_true rfl) ?_
  have hP : va_P (dC, dI) nCl [(h0, .inr (6, [.ref q1, .int 0, .int 0, .int 0, .int 0, .ref q2, .ref q3, .null, .null, .null, .null, .int 0, .int 0, .null, .null, .null, .null, .null, .null, .int 0])), (q1, .inl (cy 1, 1024, .inl nZ)), (q2, .inl (cy 2, 256, .inr (.inl (fun _ => 0)))), (q3, .inl (cy 2, 256, .inr (.inl (fun _ => 0)))), (q4, .inl (cy 1, 256, .inl nZ))] H := hP
  have hD : va_D A [(h0, .inr (6, [.ref q1, .int 0, .int 0, .int 0, .int 0, .ref q2, .ref q3, .null, .null, .null, .null, .int 0, .int 0, .null, .null, .null, .null, .null, .null, .int 0])), (q1, .inl (cy 1, 1024, .inl nZ)), (q2, .inl (cy 2, 256, .inr (.inl (fun _ => 0)))), (q3, .inl (cy 2, 256, .inr (.inl (fun _ => 0)))), (q4, .inl (cy 1, 256, .inl nZ))] := hD
  refine va_putF (D := (dC, dI)) (ci := 6) (v := .ref q4) (ty := .array .int) (C := RX7) (T := TX7) (N := 20) hx hb hts in_X7_init_X7 tyX7 tyX7_ok nmX7 hown hK hP hD hS 0 rfl rfl 7 (by decide) (hts _ (List.mem_cons_of_mem _ (List.mem_append_left _ (List.mem_of_getElem? (i := 8) rfl)))) (fun _ h9 => h9) rfl hin rfl (by decide +kernel) rfl rfl (Nat.le_of_ble_eq_true rfl) dX7_init_37 (fun H locs hP hD hS => ?_)
  have hP : va_P (dC, dI) nCl [(h0, .inr (6, [.ref q1, .int 0, .int 0, .int 0, .int 0, .ref q2, .ref q3, .ref q4, .null, .null, .null, .int 0, .int 0, .null, .null, .null, .null, .null, .null, .int 0])), (q1, .inl (cy 1, 1024, .inl nZ)), (q2, .inl (cy 2, 256, .inr (.inl (fun _ => 0)))), (q3, .inl (cy 2, 256, .inr (.inl (fun _ => 0)))), (q4, .inl (cy 1, 256, .inl nZ))] H := hP
  have hD : va_D A [(h0, .inr (6, [.ref q1, .int 0, .int 0, .int 0, .int 0, .ref q2, .ref q3, .ref q4, .null, .null, .null, .int 0, .int 0, .null, .null, .null, .null, .null, .null, .int 0])), (q1, .inl (cy 1, 1024, .inl nZ)), (q2, .inl (cy 2, 256, .inr (.inl (fun _ => 0)))), (q3, .inl (cy 2, 256, .inr (.inl (fun _ => 0)))), (q4, .inl (cy 1, 256, .inl nZ))] := hD
  refine lv_aload_n hx hb dX7_init_40 rfl (lv_at hl 0 rfl) ?_
  refine lv_sipush (v := 256) hx hb dX7_init_41 (by decide) ?_
  refine nb_newa (ty := .int) (cA := cy 1) (N' := 256) (a0 := (256, .inl nZ)) hx hb (hts _ (List.mem_cons_of_mem _ (List.mem_append_left _ (List.mem_of_getElem? (i := 3) rfl)))) rfl hK hP hD hS hA 1 rfl (fun _ => rfl) (by decide) rfl (by decide) (Nat.le_of_ble_eq_true rfl) (Nat.le_of_ble_eq_true rfl) dX7_init_44 (fun q5 H hP hD hS => ?_)
  refine W.widen (k := 5) (n := 2048) (Nat.le_of_ble_eq_true rfl) (Nat.le_of_ble_eq_true rfl) ?_
  have hP : va_P (dC, dI) nCl [(h0, .inr (6, [.ref q1, .int 0, .int 0, .int 0, .int 0, .ref q2, .ref q3, .ref q4, .null, .null, .null, .int 0, .int 0, .null, .null, .null, .null, .null, .null, .int 0])), (q1, .inl (cy 1, 1024, .inl nZ)), (q2, .inl (cy 2, 256, .inr (.inl (fun _ => 0)))), (q3, .inl (cy 2, 256, .inr (.inl (fun _ => 0)))), (q4, .inl (cy 1, 256, .inl nZ)), (q5, .inl (cy 1, 256, .inl nZ))] H := hP
  have hD : va_D A [(h0, .inr (6, [.ref q1, .int 0, .int 0, .int 0, .int 0, .ref q2, .ref q3, .ref q4, .null, .null, .null, .int 0, .int 0, .null, .null, .null, .null, .null, .null, .int 0])), (q1, .inl (cy 1, 1024, .inl nZ)), (q2, .inl (cy 2, 256, .inr (.inl (fun _ => 0)))), (q3, .inl (cy 2, 256, .inr (.inl (fun _ => 0)))), (q4, .inl (cy 1, 256, .inl nZ)), (q5, .inl (cy 1, 256, .inl nZ))] := hD
  refine va_putF (D := (dC, dI)) (ci := 6) (v := .ref q5) (ty := .array .int) (C := RX7) (T := TX7) (N := 20) hx hb hts in_X7_init_X7 tyX7 tyX7_ok nmX7 hown hK hP hD hS 0 rfl rfl 8 (by decide) (hts _ (List.mem_cons_of_mem _ (List.mem_append_left _ (List.mem_of_getElem? (i := 9) rfl)))) (fun _ h9 => h9) rfl hin rfl (by decide +kernel) rfl rfl (Nat.le_of_ble_eq_true rfl) dX7_init_46 (fun H locs hP hD hS => ?_)
  have hP : va_P (dC, dI) nCl [(h0, .inr (6, [.ref q1, .int 0, .int 0, .int 0, .int 0, .ref q2, .ref q3, .ref q4, .ref q5, .null, .null, .int 0, .int 0, .null, .null, .null, .null, .null, .null, .int 0])), (q1, .inl (cy 1, 1024, .inl nZ)), (q2, .inl (cy 2, 256, .inr (.inl (fun _ => 0)))), (q3, .inl (cy 2, 256, .inr (.inl (fun _ => 0)))), (q4, .inl (cy 1, 256, .inl nZ)), (q5, .inl (cy 1, 256, .inl nZ))] H := hP
  have hD : va_D A [(h0, .inr (6, [.ref q1, .int 0, .int 0, .int 0, .int 0, .ref q2, .ref q3, .ref q4, .ref q5, .null, .null, .int 0, .int 0, .null, .null, .null, .null, .null, .null, .int 0])), (q1, .inl (cy 1, 1024, .inl nZ)), (q2, .inl (cy 2, 256, .inr (.inl (fun _ => 0)))), (q3, .inl (cy 2, 256, .inr (.inl (fun _ => 0)))), (q4, .inl (cy 1, 256, .inl nZ)), (q5, .inl (cy 1, 256, .inl nZ))] := hD
  refine lv_aload_n hx hb dX7_init_49 rfl (lv_at hl 0 rfl) ?_
  refine lv_sipush (v := 256) hx hb dX7_init_50 (by decide) ?_
  refine nb_newa (ty := .int) (cA := cy 1) (N' := 256) (a0 := (256, .inl nZ)) hx hb (hts _ (List.mem_cons_of_mem _ (List.mem_append_left _ (List.mem_of_getElem? (i := 3) rfl)))) rfl hK hP hD hS hA 1 rfl (fun _ => rfl) (by decide) rfl (by decide) (Nat.le_of_ble_eq_true rfl) (Nat.le_of_ble_eq_true rfl) dX7_init_53 (fun q6 H hP hD hS => ?_)
  refine W.widen (k := 6) (n := 2304) (Nat.le_of_ble_eq_true rfl) (Nat.le_of_ble_eq_true rfl) ?_
  have hP : va_P (dC, dI) nCl [(h0, .inr (6, [.ref q1, .int 0, .int 0, .int 0, .int 0, .ref q2, .ref q3, .ref q4, .ref q5, .null, .null, .int 0, .int 0, .null, .null, .null, .null, .null, .null, .int 0])), (q1, .inl (cy 1, 1024, .inl nZ)), (q2, .inl (cy 2, 256, .inr (.inl (fun _ => 0)))), (q3, .inl (cy 2, 256, .inr (.inl (fun _ => 0)))), (q4, .inl (cy 1, 256, .inl nZ)), (q5, .inl (cy 1, 256, .inl nZ)), (q6, .inl (cy 1, 256, .inl nZ))] H := hP
  have hD : va_D A [(h0, .inr (6, [.ref q1, .int 0, .int 0, .int 0, .int 0, .ref q2, .ref q3, .ref q4, .ref q5, .null, .null, .int 0, .int 0, .null, .null, .null, .null, .null, .null, .int 0])), (q1, .inl (cy 1, 1024, .inl nZ)), (q2, .inl (cy 2, 256, .inr (.inl (fun _ => 0)))), (q3, .inl (cy 2, 256, .inr (.inl (fun _ => 0)))), (q4, .inl (cy 1, 256, .inl nZ)), (q5, .inl (cy 1, 256, .inl nZ)), (q6, .inl (cy 1, 256, .inl nZ))] := hD
  refine va_putF (D := (dC, dI)) (ci := 6) (v := .ref q6) (ty := .array .int) (C := RX7) (T := TX7) (N := 20) hx hb hts in_X7_init_X7 tyX7 tyX7_ok nmX7 hown hK hP hD hS 0 rfl rfl 9 (by decide) (hts _ (List.mem_cons_of_mem _ (List.mem_append_left _ (List.mem_of_getElem? (i := 10) rfl)))) (fun _ h9 => h9) rfl hin rfl (by decide +kernel) rfl rfl (Nat.le_of_ble_eq_true rfl) dX7_init_55 (fun H locs hP hD hS => ?_)
  have hP : va_P (dC, dI) nCl [(h0, .inr (6, [.ref q1, .int 0, .int 0, .int 0, .int 0, .ref q2, .ref q3, .ref q4, .ref q5, .ref q6, .null, .int 0, .int 0, .null, .null, .null, .null, .null, .null, .int 0])), (q1, .inl (cy 1, 1024, .inl nZ)), (q2, .inl (cy 2, 256, .inr (.inl (fun _ => 0)))), (q3, .inl (cy 2, 256, .inr (.inl (fun _ => 0)))), (q4, .inl (cy 1, 256, .inl nZ)), (q5, .inl (cy 1, 256, .inl nZ)), (q6, .inl (cy 1, 256, .inl nZ))] H := hP
  have hD : va_D A [(h0, .inr (6, [.ref q1, .int 0, .int 0, .int 0, .int 0, .ref q2, .ref q3, .ref q4, .ref q5, .ref q6, .null, .int 0, .int 0, .null, .null, .null, .null, .null, .null, .int 0])), (q1, .inl (cy 1, 1024, .inl nZ)), (q2, .inl (cy 2, 256, .inr (.inl (fun _ => 0)))), (q3, .inl (cy 2, 256, .inr (.inl (fun _ => 0)))), (q4, .inl (cy 1, 256, .inl nZ)), (q5, .inl (cy 1, 256, .inl nZ)), (q6, .inl (cy 1, 256, .inl nZ))] := hD
  refine lv_aload_n hx hb dX7_init_58 rfl (lv_at hl 0 rfl) ?_
  refine lv_sipush (v := 256) hx hb dX7_init_59 (by decide) ?_
  refine nb_newa (ty := .boolean) (cA := cy 3) (N' := 256) (a0 := (256, .inl nZ)) hx hb (hts _ (List.mem_cons_of_mem _ (List.mem_append_left _ (List.mem_of_getElem? (i := 11) rfl)))) rfl hK hP hD hS hA 3 rfl (fun _ => rfl) (by decide) rfl (by decide) (Nat.le_of_ble_eq_true rfl) (Nat.le_of_ble_eq_true rfl) dX7_init_62 (fun q7 H hP hD hS => ?_)
  refine W.widen (k := 7) (n := 2560) (Nat.le_of_ble_eq_true rfl) (Nat.le_of_ble_eq_true rfl) ?_
  have hP : va_P (dC, dI) nCl [(h0, .inr (6, [.ref q1, .int 0, .int 0, .int 0, .int 0, .ref q2, .ref q3, .ref q4, .ref q5, .ref q6, .null, .int 0, .int 0, .null, .null, .null, .null, .null, .null, .int 0])), (q1, .inl (cy 1, 1024, .inl nZ)), (q2, .inl (cy 2, 256, .inr (.inl (fun _ => 0)))), (q3, .inl (cy 2, 256, .inr (.inl (fun _ => 0)))), (q4, .inl (cy 1, 256, .inl nZ)), (q5, .inl (cy 1, 256, .inl nZ)), (q6, .inl (cy 1, 256, .inl nZ)), (q7, .inl (cy 3, 256, .inl nZ))] H := hP
  have hD : va_D A [(h0, .inr (6, [.ref q1, .int 0, .int 0, .int 0, .int 0, .ref q2, .ref q3, .ref q4, .ref q5, .ref q6, .null, .int 0, .int 0, .null, .null, .null, .null, .null, .null, .int 0])), (q1, .inl (cy 1, 1024, .inl nZ)), (q2, .inl (cy 2, 256, .inr (.inl (fun _ => 0)))), (q3, .inl (cy 2, 256, .inr (.inl (fun _ => 0)))), (q4, .inl (cy 1, 256, .inl nZ)), (q5, .inl (cy 1, 256, .inl nZ)), (q6, .inl (cy 1, 256, .inl nZ)), (q7, .inl (cy 3, 256, .inl nZ))] := hD
  refine va_putF (D := (dC, dI)) (ci := 6) (v := .ref q7) (ty := .array .boolean) (C := RX7) (T := TX7) (N := 20) hx hb hts in_X7_init_X7 tyX7 tyX7_ok nmX7 hown hK hP hD hS 0 rfl rfl 10 (by decide) (hts _ (List.mem_cons_of_mem _ (List.mem_append_left _ (List.mem_of_getElem? (i := 12) rfl)))) (fun _ h9 => h9) rfl hin rfl (by decide +kernel) rfl rfl (Nat.le_of_ble_eq_true rfl) dX7_init_64 (fun H locs hP hD hS => ?_)
  have hP : va_P (dC, dI) nCl [(h0, .inr (6, [.ref q1, .int 0, .int 0, .int 0, .int 0, .ref q2, .ref q3, .ref q4, .ref q5, .ref q6, .ref q7, .int 0, .int 0, .null, .null, .null, .null, .null, .null, .int 0])), (q1, .inl (cy 1, 1024, .inl nZ)), (q2, .inl (cy 2, 256, .inr (.inl (fun _ => 0)))), (q3, .inl (cy 2, 256, .inr (.inl (fun _ => 0)))), (q4, .inl (cy 1, 256, .inl nZ)), (q5, .inl (cy 1, 256, .inl nZ)), (q6, .inl (cy 1, 256, .inl nZ)), (q7, .inl (cy 3, 256, .inl nZ))] H := hP
  have hD : va_D A [(h0, .inr (6, [.ref q1, .int 0, .int 0, .int 0, .int 0, .ref q2, .ref q3, .ref q4, .ref q5, .ref q6, .ref q7, .int 0, .int 0, .null, .null, .null, .null, .null, .null, .int 0])), (q1, .inl (cy 1, 1024, .inl nZ)), (q2, .inl (cy 2, 256, .inr (.inl (fun _ => 0)))), (q3, .inl (cy 2, 256, .inr (.inl (fun _ => 0)))), (q4, .inl (cy 1, 256, .inl nZ)), (q5, .inl (cy 1, 256, .inl nZ)), (q6, .inl (cy 1, 256, .inl nZ)), (q7, .inl (cy 3, 256, .inl nZ))] := hD
  refine lv_aload_n hx hb dX7_init_67 rfl (lv_at hl 0 rfl) ?_
  refine lv_bipush (v := 42) hx hb dX7_init_68 (by decide) ?_
  refine nb_newa (ty := .int) (cA := cy 1) (N' := 42) (a0 := (42, .inl nZ)) hx hb (hts _ (List.mem_cons_of_mem _ (List.mem_append_left _ (List.mem_of_getElem? (i := 3) rfl)))) rfl hK hP hD hS hA 1 rfl (fun _ => rfl) (by decide) rfl (by decide) (Nat.le_of_ble_eq_true rfl) (Nat.le_of_ble_eq_true rfl) dX7_init_70 (fun q8 H hP hD hS => ?_)
  refine W.widen (k := 8) (n := 2602) (Nat.le_of_ble_eq_true rfl) (Nat.le_of_ble_eq_true rfl) ?_
  have hP : va_P (dC, dI) nCl [(h0, .inr (6, [.ref q1, .int 0, .int 0, .int 0, .int 0, .ref q2, .ref q3, .ref q4, .ref q5, .ref q6, .ref q7, .int 0, .int 0, .null, .null, .null, .null, .null, .null, .int 0])), (q1, .inl (cy 1, 1024, .inl nZ)), (q2, .inl (cy 2, 256, .inr (.inl (fun _ => 0)))), (q3, .inl (cy 2, 256, .inr (.inl (fun _ => 0)))), (q4, .inl (cy 1, 256, .inl nZ)), (q5, .inl (cy 1, 256, .inl nZ)), (q6, .inl (cy 1, 256, .inl nZ)), (q7, .inl (cy 3, 256, .inl nZ)), (q8, .inl (cy 1, 42, .inl nZ))] H := hP
  have hD : va_D A [(h0, .inr (6, [.ref q1, .int 0, .int 0, .int 0, .int 0, .ref q2, .ref q3, .ref q4, .ref q5, .ref q6, .ref q7, .int 0, .int 0, .null, .null, .null, .null, .null, .null, .int 0])), (q1, .inl (cy 1, 1024, .inl nZ)), (q2, .inl (cy 2, 256, .inr (.inl (fun _ => 0)))), (q3, .inl (cy 2, 256, .inr (.inl (fun _ => 0)))), (q4, .inl (cy 1, 256, .inl nZ)), (q5, .inl (cy 1, 256, .inl nZ)), (q6, .inl (cy 1, 256, .inl nZ)), (q7, .inl (cy 3, 256, .inl nZ)), (q8, .inl (cy 1, 42, .inl nZ))] := hD
  refine va_putF (D := (dC, dI)) (ci := 6) (v := .ref q8) (ty := .array .int) (C := RX7) (T := TX7) (N := 20) hx hb hts in_X7_init_X7 tyX7 tyX7_ok nmX7 hown hK hP hD hS 0 rfl rfl 13 (by decide) (hts _ (List.mem_cons_of_mem _ (List.mem_append_left _ (List.mem_of_getElem? (i := 13) rfl)))) (fun _ h9 => h9) rfl hin rfl (by decide +kernel) rfl rfl (Nat.le_of_ble_eq_true rfl) dX7_init_72 (fun H locs hP hD hS => ?_)
  have hP : va_P (dC, dI) nCl [(h0, .inr (6, [.ref q1, .int 0, .int 0, .int 0, .int 0, .ref q2, .ref q3, .ref q4, .ref q5, .ref q6, .ref q7, .int 0, .int 0, .ref q8, .null, .null, .null, .null, .null, .int 0])), (q1, .inl (cy 1, 1024, .inl nZ)), (q2, .inl (cy 2, 256, .inr (.inl (fun _ => 0)))), (q3, .inl (cy 2, 256, .inr (.inl (fun _ => 0)))), (q4, .inl (cy 1, 256, .inl nZ)), (q5, .inl (cy 1, 256, .inl nZ)), (q6, .inl (cy 1, 256, .inl nZ)), (q7, .inl (cy 3, 256, .inl nZ)), (q8, .inl (cy 1, 42, .inl nZ))] H := hP
  have hD : va_D A [(h0, .inr (6, [.ref q1, .int 0, .int 0, .int 0, .int 0, .ref q2, .ref q3, .ref q4, .ref q5, .ref q6, .ref q7, .int 0, .int 0, .ref q8, .null, .null, .null, .null, .null, .int 0])), (q1, .inl (cy 1, 1024, .inl nZ)), (q2, .inl (cy 2, 256, .inr (.inl (fun _ => 0)))), (q3, .inl (cy 2, 256, .inr (.inl (fun _ => 0)))), (q4, .inl (cy 1, 256, .inl nZ)), (q5, .inl (cy 1, 256, .inl nZ)), (q6, .inl (cy 1, 256, .inl nZ)), (q7, .inl (cy 3, 256, .inl nZ)), (q8, .inl (cy 1, 42, .inl nZ))] := hD
  refine lv_aload_n hx hb dX7_init_75 rfl (lv_at hl 0 rfl) ?_
  refine lv_bipush (v := 42) hx hb dX7_init_76 (by decide) ?_
  refine nb_newa (ty := .int) (cA := cy 1) (N' := 42) (a0 := (42, .inl nZ)) hx hb (hts _ (List.mem_cons_of_mem _ (List.mem_append_left _ (List.mem_of_getElem? (i := 3) rfl)))) rfl hK hP hD hS hA 1 rfl (fun _ => rfl) (by decide) rfl (by decide) (Nat.le_of_ble_eq_true rfl) (Nat.le_of_ble_eq_true rfl) dX7_init_78 (fun q9 H hP hD hS => ?_)
  refine W.widen (k := 9) (n := 2644) (Nat.le_of_ble_eq_true rfl) (Nat.le_of_ble_eq_true rfl) ?_
  have hP : va_P (dC, dI) nCl [(h0, .inr (6, [.ref q1, .int 0, .int 0, .int 0, .int 0, .ref q2, .ref q3, .ref q4, .ref q5, .ref q6, .ref q7, .int 0, .int 0, .ref q8, .null, .null, .null, .null, .null, .int 0])), (q1, .inl (cy 1, 1024, .inl nZ)), (q2, .inl (cy 2, 256, .inr (.inl (fun _ => 0)))), (q3, .inl (cy 2, 256, .inr (.inl (fun _ => 0)))), (q4, .inl (cy 1, 256, .inl nZ)), (q5, .inl (cy 1, 256, .inl nZ)), (q6, .inl (cy 1, 256, .inl nZ)), (q7, .inl (cy 3, 256, .inl nZ)), (q8, .inl (cy 1, 42, .inl nZ)), (q9, .inl (cy 1, 42, .inl nZ))] H := hP
  have hD : va_D A [(h0, .inr (6, [.ref q1, .int 0, .int 0, .int 0, .int 0, .ref q2, .ref q3, .ref q4, .ref q5, .ref q6, .ref q7, .int 0, .int 0, .ref q8, .null, .null, .null, .null, .null, .int 0])), (q1, .inl (cy 1, 1024, .inl nZ)), (q2, .inl (cy 2, 256, .inr (.inl (fun _ => 0)))), (q3, .inl (cy 2, 256, .inr (.inl (fun _ => 0)))), (q4, .inl (cy 1, 256, .inl nZ)), (q5, .inl (cy 1, 256, .inl nZ)), (q6, .inl (cy 1, 256, .inl nZ)), (q7, .inl (cy 3, 256, .inl nZ)), (q8, .inl (cy 1, 42, .inl nZ)), (q9, .inl (cy 1, 42, .inl nZ))] := hD
  refine va_putF (D := (dC, dI)) (ci := 6) (v := .ref q9) (ty := .array .int) (C := RX7) (T := TX7) (N := 20) hx hb hts in_X7_init_X7 tyX7 tyX7_ok nmX7 hown hK hP hD hS 0 rfl rfl 14 (by decide) (hts _ (List.mem_cons_of_mem _ (List.mem_append_left _ (List.mem_of_getElem? (i := 14) rfl)))) (fun _ h9 => h9) rfl hin rfl (by decide +kernel) rfl rfl (Nat.le_of_ble_eq_true rfl) dX7_init_80 (fun H locs hP hD hS => ?_)
  have hP : va_P (dC, dI) nCl [(h0, .inr (6, [.ref q1, .int 0, .int 0, .int 0, .int 0, .ref q2, .ref q3, .ref q4, .ref q5, .ref q6, .ref q7, .int 0, .int 0, .ref q8, .ref q9, .null, .null, .null, .null, .int 0])), (q1, .inl (cy 1, 1024, .inl nZ)), (q2, .inl (cy 2, 256, .inr (.inl (fun _ => 0)))), (q3, .inl (cy 2, 256, .inr (.inl (fun _ => 0)))), (q4, .inl (cy 1, 256, .inl nZ)), (q5, .inl (cy 1, 256, .inl nZ)), (q6, .inl (cy 1, 256, .inl nZ)), (q7, .inl (cy 3, 256, .inl nZ)), (q8, .inl (cy 1, 42, .inl nZ)), (q9, .inl (cy 1, 42, .inl nZ))] H := hP
  have hD : va_D A [(h0, .inr (6, [.ref q1, .int 0, .int 0, .int 0, .int 0, .ref q2, .ref q3, .ref q4, .ref q5, .ref q6, .ref q7, .int 0, .int 0, .ref q8, .ref q9, .null, .null, .null, .null, .int 0])), (q1, .inl (cy 1, 1024, .inl nZ)), (q2, .inl (cy 2, 256, .inr (.inl (fun _ => 0)))), (q3, .inl (cy 2, 256, .inr (.inl (fun _ => 0)))), (q4, .inl (cy 1, 256, .inl nZ)), (q5, .inl (cy 1, 256, .inl nZ)), (q6, .inl (cy 1, 256, .inl nZ)), (q7, .inl (cy 3, 256, .inl nZ)), (q8, .inl (cy 1, 42, .inl nZ)), (q9, .inl (cy 1, 42, .inl nZ))] := hD
  refine lv_aload_n hx hb dX7_init_83 rfl (lv_at hl 0 rfl) ?_
  refine lv_bipush (v := 42) hx hb dX7_init_84 (by decide) ?_
  refine nb_newa (ty := .int) (cA := cy 1) (N' := 42) (a0 := (42, .inl nZ)) hx hb (hts _ (List.mem_cons_of_mem _ (List.mem_append_left _ (List.mem_of_getElem? (i := 3) rfl)))) rfl hK hP hD hS hA 1 rfl (fun _ => rfl) (by decide) rfl (by decide) (Nat.le_of_ble_eq_true rfl) (Nat.le_of_ble_eq_true rfl) dX7_init_86 (fun q10 H hP hD hS => ?_)
  refine W.widen (k := 10) (n := 2686) (Nat.le_of_ble_eq_true rfl) (Nat.le_of_ble_eq_true rfl) ?_
  have hP : va_P (dC, dI) nCl [(h0, .inr (6, [.ref q1, .int 0, .int 0, .int 0, .int 0, .ref q2, .ref q3, .ref q4, .ref q5, .ref q6, .ref q7, .int 0, .int 0, .ref q8, .ref q9, .null, .null, .null, .null, .int 0])), (q1, .inl (cy 1, 1024, .inl nZ)), (q2, .inl (cy 2, 256, .inr (.inl (fun _ => 0)))), (q3, .inl (cy 2, 256, .inr (.inl (fun _ => 0)))), (q4, .inl (cy 1, 256, .inl nZ)), (q5, .inl (cy 1, 256, .inl nZ)), (q6, .inl (cy 1, 256, .inl nZ)), (q7, .inl (cy 3, 256, .inl nZ)), (q8, .inl (cy 1, 42, .inl nZ)), (q9, .inl (cy 1, 42, .inl nZ)), (q10, .inl (cy 1, 42, .inl nZ))] H := hP
  have hD : va_D A [(h0, .inr (6, [.ref q1, .int 0, .int 0, .int 0, .int 0, .ref q2, .ref q3, .ref q4, .ref q5, .ref q6, .ref q7, .int 0, .int 0, .ref q8, .ref q9, .null, .null, .null, .null, .int 0])), (q1, .inl (cy 1, 1024, .inl nZ)), (q2, .inl (cy 2, 256, .inr (.inl (fun _ => 0)))), (q3, .inl (cy 2, 256, .inr (.inl (fun _ => 0)))), (q4, .inl (cy 1, 256, .inl nZ)), (q5, .inl (cy 1, 256, .inl nZ)), (q6, .inl (cy 1, 256, .inl nZ)), (q7, .inl (cy 3, 256, .inl nZ)), (q8, .inl (cy 1, 42, .inl nZ)), (q9, .inl (cy 1, 42, .inl nZ)), (q10, .inl (cy 1, 42, .inl nZ))] := hD
  refine va_putF (D := (dC, dI)) (ci := 6) (v := .ref q10) (ty := .array .int) (C := RX7) (T := TX7) (N := 20) hx hb hts in_X7_init_X7 tyX7 tyX7_ok nmX7 hown hK hP hD hS 0 rfl rfl 15 (by decide) (hts _ (List.mem_cons_of_mem _ (List.mem_append_left _ (List.mem_of_getElem? (i := 15) rfl)))) (fun _ h9 => h9) rfl hin rfl (by decide +kernel) rfl rfl (Nat.le_of_ble_eq_true rfl) dX7_init_88 (fun H locs hP hD hS => ?_)
  have hP : va_P (dC, dI) nCl [(h0, .inr (6, [.ref q1, .int 0, .int 0, .int 0, .int 0, .ref q2, .ref q3, .ref q4, .ref q5, .ref q6, .ref q7, .int 0, .int 0, .ref q8, .ref q9, .ref q10, .null, .null, .null, .int 0])), (q1, .inl (cy 1, 1024, .inl nZ)), (q2, .inl (cy 2, 256, .inr (.inl (fun _ => 0)))), (q3, .inl (cy 2, 256, .inr (.inl (fun _ => 0)))), (q4, .inl (cy 1, 256, .inl nZ)), (q5, .inl (cy 1, 256, .inl nZ)), (q6, .inl (cy 1, 256, .inl nZ)), (q7, .inl (cy 3, 256, .inl nZ)), (q8, .inl (cy 1, 42, .inl nZ)), (q9, .inl (cy 1, 42, .inl nZ)), (q10, .inl (cy 1, 42, .inl nZ))] H := hP
  have hD : va_D A [(h0, .inr (6, [.ref q1, .int 0, .int 0, .int 0, .int 0, .ref q2, .ref q3, .ref q4, .ref q5, .ref q6, .ref q7, .int 0, .int 0, .ref q8, .ref q9, .ref q10, .null, .null, .null, .int 0])), (q1, .inl (cy 1, 1024, .inl nZ)), (q2, .inl (cy 2, 256, .inr (.inl (fun _ => 0)))), (q3, .inl (cy 2, 256, .inr (.inl (fun _ => 0)))), (q4, .inl (cy 1, 256, .inl nZ)), (q5, .inl (cy 1, 256, .inl nZ)), (q6, .inl (cy 1, 256, .inl nZ)), (q7, .inl (cy 3, 256, .inl nZ)), (q8, .inl (cy 1, 42, .inl nZ)), (q9, .inl (cy 1, 42, .inl nZ)), (q10, .inl (cy 1, 42, .inl nZ))] := hD
  refine lv_aload_n hx hb dX7_init_91 rfl (lv_at hl 0 rfl) ?_
  refine lv_bipush (v := 42) hx hb dX7_init_92 (by decide) ?_
  refine nb_newa (ty := .int) (cA := cy 1) (N' := 42) (a0 := (42, .inl nZ)) hx hb (hts _ (List.mem_cons_of_mem _ (List.mem_append_left _ (List.mem_of_getElem? (i := 3) rfl)))) rfl hK hP hD hS hA 1 rfl (fun _ => rfl) (by decide) rfl (by decide) (Nat.le_of_ble_eq_true rfl) (Nat.le_of_ble_eq_true rfl) dX7_init_94 (fun q11 H hP hD hS => ?_)
  refine W.widen (k := 11) (n := 2728) (Nat.le_of_ble_eq_true rfl) (Nat.le_of_ble_eq_true rfl) ?_
  have hP : va_P (dC, dI) nCl [(h0, .inr (6, [.ref q1, .int 0, .int 0, .int 0, .int 0, .ref q2, .ref q3, .ref q4, .ref q5, .ref q6, .ref q7, .int 0, .int 0, .ref q8, .ref q9, .ref q10, .null, .null, .null, .int 0])), (q1, .inl (cy 1, 1024, .inl nZ)), (q2, .inl (cy 2, 256, .inr (.inl (fun _ => 0)))), (q3, .inl (cy 2, 256, .inr (.inl (fun _ => 0)))), (q4, .inl (cy 1, 256, .inl nZ)), (q5, .inl (cy 1, 256, .inl nZ)), (q6, .inl (cy 1, 256, .inl nZ)), (q7, .inl (cy 3, 256, .inl nZ)), (q8, .inl (cy 1, 42, .inl nZ)), (q9, .inl (cy 1, 42, .inl nZ)), (q10, .inl (cy 1, 42, .inl nZ)), (q11, .inl (cy 1, 42, .inl nZ))] H := hP
  have hD : va_D A [(h0, .inr (6, [.ref q1, .int 0, .int 0, .int 0, .int 0, .ref q2, .ref q3, .ref q4, .ref q5, .ref q6, .ref q7, .int 0, .int 0, .ref q8, .ref q9, .ref q10, .null, .null, .null, .int 0])), (q1, .inl (cy 1, 1024, .inl nZ)), (q2, .inl (cy 2, 256, .inr (.inl (fun _ => 0)))), (q3, .inl (cy 2, 256, .inr (.inl (fun _ => 0)))), (q4, .inl (cy 1, 256, .inl nZ)), (q5, .inl (cy 1, 256, .inl nZ)), (q6, .inl (cy 1, 256, .inl nZ)), (q7, .inl (cy 3, 256, .inl nZ)), (q8, .inl (cy 1, 42, .inl nZ)), (q9, .inl (cy 1, 42, .inl nZ)), (q10, .inl (cy 1, 42, .inl nZ)), (q11, .inl (cy 1, 42, .inl nZ))] := hD
  refine va_putF (D := (dC, dI)) (ci := 6) (v := .ref q11) (ty := .array .int) (C := RX7) (T := TX7) (N := 20) hx hb hts in_X7_init_X7 tyX7 tyX7_ok nmX7 hown hK hP hD hS 0 rfl rfl 16 (by decide) (hts _ (List.mem_cons_of_mem _ (List.mem_append_left _ (List.mem_of_getElem? (i := 16) rfl)))) (fun _ h9 => h9) rfl hin rfl (by decide +kernel) rfl rfl (Nat.le_of_ble_eq_true rfl) dX7_init_96 (fun H locs hP hD hS => ?_)
  have hP : va_P (dC, dI) nCl [(h0, .inr (6, [.ref q1, .int 0, .int 0, .int 0, .int 0, .ref q2, .ref q3, .ref q4, .ref q5, .ref q6, .ref q7, .int 0, .int 0, .ref q8, .ref q9, .ref q10, .ref q11, .null, .null, .int 0])), (q1, .inl (cy 1, 1024, .inl nZ)), (q2, .inl (cy 2, 256, .inr (.inl (fun _ => 0)))), (q3, .inl (cy 2, 256, .inr (.inl (fun _ => 0)))), (q4, .inl (cy 1, 256, .inl nZ)), (q5, .inl (cy 1, 256, .inl nZ)), (q6, .inl (cy 1, 256, .inl nZ)), (q7, .inl (cy 3, 256, .inl nZ)), (q8, .inl (cy 1, 42, .inl nZ)), (q9, .inl (cy 1, 42, .inl nZ)), (q10, .inl (cy 1, 42, .inl nZ)), (q11, .inl (cy 1, 42, .inl nZ))] H := hP
  have hD : va_D A [(h0, .inr (6, [.ref q1, .int 0, .int 0, .int 0, .int 0, .ref q2, .ref q3, .ref q4, .ref q5, .ref q6, .ref q7, .int 0, .int 0, .ref q8, .ref q9, .ref q10, .ref q11, .null, .null, .int 0])), (q1, .inl (cy 1, 1024, .inl nZ)), (q2, .inl (cy 2, 256, .inr (.inl (fun _ => 0)))), (q3, .inl (cy 2, 256, .inr (.inl (fun _ => 0)))), (q4, .inl (cy 1, 256, .inl nZ)), (q5, .inl (cy 1, 256, .inl nZ)), (q6, .inl (cy 1, 256, .inl nZ)), (q7, .inl (cy 3, 256, .inl nZ)), (q8, .inl (cy 1, 42, .inl nZ)), (q9, .inl (cy 1, 42, .inl nZ)), (q10, .inl (cy 1, 42, .inl nZ)), (q11, .inl (cy 1, 42, .inl nZ))] := hD
  refine lv_aload_n hx hb dX7_init_99 rfl (lv_at hl 0 rfl) ?_
  refine lv_bipush (v := 42) hx hb dX7_init_100 (by decide) ?_
  refine nb_newa (ty := .int) (cA := cy 1) (N' := 42) (a0 := (42, .inl nZ)) hx hb (hts _ (List.mem_cons_of_mem _ (List.mem_append_left _ (List.mem_of_getElem? (i := 3) rfl)))) rfl hK hP hD hS hA 1 rfl (fun _ => rfl) (by decide) rfl (by decide) (Nat.le_of_ble_eq_true rfl) (Nat.le_of_ble_eq_true rfl) dX7_init_102 (fun q12 H hP hD hS => ?_)
  refine W.widen (k := 12) (n := 2770) (Nat.le_of_ble_eq_true rfl) (Nat.le_of_ble_eq_true rfl) ?_
  have hP : va_P (dC, dI) nCl [(h0, .inr (6, [.ref q1, .int 0, .int 0, .int 0, .int 0, .ref q2, .ref q3, .ref q4, .ref q5, .ref q6, .ref q7, .int 0, .int 0, .ref q8, .ref q9, .ref q10, .ref q11, .null, .null, .int 0])), (q1, .inl (cy 1, 1024, .inl nZ)), (q2, .inl (cy 2, 256, .inr (.inl (fun _ => 0)))), (q3, .inl (cy 2, 256, .inr (.inl (fun _ => 0)))), (q4, .inl (cy 1, 256, .inl nZ)), (q5, .inl (cy 1, 256, .inl nZ)), (q6, .inl (cy 1, 256, .inl nZ)), (q7, .inl (cy 3, 256, .inl nZ)), (q8, .inl (cy 1, 42, .inl nZ)), (q9, .inl (cy 1, 42, .inl nZ)), (q10, .inl (cy 1, 42, .inl nZ)), (q11, .inl (cy 1, 42, .inl nZ)), (q12, .inl (cy 1, 42, .inl nZ))] H := hP
  have hD : va_D A [(h0, .inr (6, [.ref q1, .int 0, .int 0, .int 0, .int 0, .ref q2, .ref q3, .ref q4, .ref q5, .ref q6, .ref q7, .int 0, .int 0, .ref q8, .ref q9, .ref q10, .ref q11, .null, .null, .int 0])), (q1, .inl (cy 1, 1024, .inl nZ)), (q2, .inl (cy 2, 256, .inr (.inl (fun _ => 0)))), (q3, .inl (cy 2, 256, .inr (.inl (fun _ => 0)))), (q4, .inl (cy 1, 256, .inl nZ)), (q5, .inl (cy 1, 256, .inl nZ)), (q6, .inl (cy 1, 256, .inl nZ)), (q7, .inl (cy 3, 256, .inl nZ)), (q8, .inl (cy 1, 42, .inl nZ)), (q9, .inl (cy 1, 42, .inl nZ)), (q10, .inl (cy 1, 42, .inl nZ)), (q11, .inl (cy 1, 42, .inl nZ)), (q12, .inl (cy 1, 42, .inl nZ))] := hD
  refine va_putF (D := (dC, dI)) (ci := 6) (v := .ref q12) (ty := .array .int) (C := RX7) (T := TX7) (N := 20) hx hb hts in_X7_init_X7 tyX7 tyX7_ok nmX7 hown hK hP hD hS 0 rfl rfl 17 (by decide) (hts _ (List.mem_cons_of_mem _ (List.mem_append_left _ (List.mem_of_getElem? (i := 17) rfl)))) (fun _ h9 => h9) rfl hin rfl (by decide +kernel) rfl rfl (Nat.le_of_ble_eq_true rfl) dX7_init_104 (fun H locs hP hD hS => ?_)
  have hP : va_P (dC, dI) nCl [(h0, .inr (6, [.ref q1, .int 0, .int 0, .int 0, .int 0, .ref q2, .ref q3, .ref q4, .ref q5, .ref q6, .ref q7, .int 0, .int 0, .ref q8, .ref q9, .ref q10, .ref q11, .ref q12, .null, .int 0])), (q1, .inl (cy 1, 1024, .inl nZ)), (q2, .inl (cy 2, 256, .inr (.inl (fun _ => 0)))), (q3, .inl (cy 2, 256, .inr (.inl (fun _ => 0)))), (q4, .inl (cy 1, 256, .inl nZ)), (q5, .inl (cy 1, 256, .inl nZ)), (q6, .inl (cy 1, 256, .inl nZ)), (q7, .inl (cy 3, 256, .inl nZ)), (q8, .inl (cy 1, 42, .inl nZ)), (q9, .inl (cy 1, 42, .inl nZ)), (q10, .inl (cy 1, 42, .inl nZ)), (q11, .inl (cy 1, 42, .inl nZ)), (q12, .inl (cy 1, 42, .inl nZ))] H := hP
  have hD : va_D A [(h0, .inr (6, [.ref q1, .int 0, .int 0, .int 0, .int 0, .ref q2, .ref q3, .ref q4, .ref q5, .ref q6, .ref q7, .int 0, .int 0, .ref q8, .ref q9, .ref q10, .ref q11, .ref q12, .null, .int 0])), (q1, .inl (cy 1, 1024, .inl nZ)), (q2, .inl (cy 2, 256, .inr (.inl (fun _ => 0)))), (q3, .inl (cy 2, 256, .inr (.inl (fun _ => 0)))), (q4, .inl (cy 1, 256, .inl nZ)), (q5, .inl (cy 1, 256, .inl nZ)), (q6, .inl (cy 1, 256, .inl nZ)), (q7, .inl (cy 3, 256, .inl nZ)), (q8, .inl (cy 1, 42, .inl nZ)), (q9, .inl (cy 1, 42, .inl nZ)), (q10, .inl (cy 1, 42, .inl nZ)), (q11, .inl (cy 1, 42, .inl nZ)), (q12, .inl (cy 1, 42, .inl nZ))] := hD
  refine lv_aload_n hx hb dX7_init_107 rfl (lv_at hl 0 rfl) ?_
  refine lv_bipush (v := 42) hx hb dX7_init_108 (by decide) ?_
  refine nb_newa (ty := .int) (cA := cy 1) (N' := 42) (a0 := (42, .inl nZ)) hx hb (hts _ (List.mem_cons_of_mem _ (List.mem_append_left _ (List.mem_of_getElem? (i := 3) rfl)))) rfl hK hP hD hS hA 1 rfl (fun _ => rfl) (by decide) rfl (by decide) (Nat.le_of_ble_eq_true rfl) (Nat.le_of_ble_eq_true rfl) dX7_init_110 (fun q13 H hP hD hS => ?_)
  refine W.widen (k := 13) (n := 2812) (Nat.le_of_ble_eq_true rfl) (Nat.le_of_ble_eq_true rfl) ?_
  have hP : va_P (dC, dI) nCl [(h0, .inr (6, [.ref q1, .int 0, .int 0, .int 0, .int 0, .ref q2, .ref q3, .ref q4, .ref q5, .ref q6, .ref q7, .int 0, .int 0, .ref q8, .ref q9, .ref q10, .ref q11, .ref q12, .null, .int 0])), (q1, .inl (cy 1, 1024, .inl nZ)), (q2, .inl (cy 2, 256, .inr (.inl (fun _ => 0)))), (q3, .inl (cy 2, 256, .inr (.inl (fun _ => 0)))), (q4, .inl (cy 1, 256, .inl nZ)), (q5, .inl (cy 1, 256, .inl nZ)), (q6, .inl (cy 1, 256, .inl nZ)), (q7, .inl (cy 3, 256, .inl nZ)), (q8, .inl (cy 1, 42, .inl nZ)), (q9, .inl (cy 1, 42, .inl nZ)), (q10, .inl (cy 1, 42, .inl nZ)), (q11, .inl (cy 1, 42, .inl nZ)), (q12, .inl (cy 1, 42, .inl nZ)), (q13, .inl (cy 1, 42, .inl nZ))] H := hP
  have hD : va_D A [(h0, .inr (6, [.ref q1, .int 0, .int 0, .int 0, .int 0, .ref q2, .ref q3, .ref q4, .ref q5, .ref q6, .ref q7, .int 0, .int 0, .ref q8, .ref q9, .ref q10, .ref q11, .ref q12, .null, .int 0])), (q1, .inl (cy 1, 1024, .inl nZ)), (q2, .inl (cy 2, 256, .inr (.inl (fun _ => 0)))), (q3, .inl (cy 2, 256, .inr (.inl (fun _ => 0)))), (q4, .inl (cy 1, 256, .inl nZ)), (q5, .inl (cy 1, 256, .inl nZ)), (q6, .inl (cy 1, 256, .inl nZ)), (q7, .inl (cy 3, 256, .inl nZ)), (q8, .inl (cy 1, 42, .inl nZ)), (q9, .inl (cy 1, 42, .inl nZ)), (q10, .inl (cy 1, 42, .inl nZ)), (q11, .inl (cy 1, 42, .inl nZ)), (q12, .inl (cy 1, 42, .inl nZ)), (q13, .inl (cy 1, 42, .inl nZ))] := hD
  refine va_putF (D := (dC, dI)) (ci := 6) (v := .ref q13) (ty := .array .int) (C := RX7) (T := TX7) (N := 20) hx hb hts in_X7_init_X7 tyX7 tyX7_ok nmX7 hown hK hP hD hS 0 rfl rfl 18 (by decide) (hts _ (List.mem_cons_of_mem _ (List.mem_append_left _ (List.mem_of_getElem? (i := 18) rfl)))) (fun _ h9 => h9) rfl hin rfl (by decide +kernel) rfl rfl (Nat.le_of_ble_eq_true rfl) dX7_init_112 (fun H locs hP hD hS => ?_)
  have hP : va_P (dC, dI) nCl [(h0, .inr (6, [.ref q1, .int 0, .int 0, .int 0, .int 0, .ref q2, .ref q3, .ref q4, .ref q5, .ref q6, .ref q7, .int 0, .int 0, .ref q8, .ref q9, .ref q10, .ref q11, .ref q12, .ref q13, .int 0])), (q1, .inl (cy 1, 1024, .inl nZ)), (q2, .inl (cy 2, 256, .inr (.inl (fun _ => 0)))), (q3, .inl (cy 2, 256, .inr (.inl (fun _ => 0)))), (q4, .inl (cy 1, 256, .inl nZ)), (q5, .inl (cy 1, 256, .inl nZ)), (q6, .inl (cy 1, 256, .inl nZ)), (q7, .inl (cy 3, 256, .inl nZ)), (q8, .inl (cy 1, 42, .inl nZ)), (q9, .inl (cy 1, 42, .inl nZ)), (q10, .inl (cy 1, 42, .inl nZ)), (q11, .inl (cy 1, 42, .inl nZ)), (q12, .inl (cy 1, 42, .inl nZ)), (q13, .inl (cy 1, 42, .inl nZ))] H := hP
  have hD : va_D A [(h0, .inr (6, [.ref q1, .int 0, .int 0, .int 0, .int 0, .ref q2, .ref q3, .ref q4, .ref q5, .ref q6, .ref q7, .int 0, .int 0, .ref q8, .ref q9, .ref q10, .ref q11, .ref q12, .ref q13, .int 0])), (q1, .inl (cy 1, 1024, .inl nZ)), (q2, .inl (cy 2, 256, .inr (.inl (fun _ => 0)))), (q3, .inl (cy 2, 256, .inr (.inl (fun _ => 0)))), (q4, .inl (cy 1, 256, .inl nZ)), (q5, .inl (cy 1, 256, .inl nZ)), (q6, .inl (cy 1, 256, .inl nZ)), (q7, .inl (cy 3, 256, .inl nZ)), (q8, .inl (cy 1, 42, .inl nZ)), (q9, .inl (cy 1, 42, .inl nZ)), (q10, .inl (cy 1, 42, .inl nZ)), (q11, .inl (cy 1, 42, .inl nZ)), (q12, .inl (cy 1, 42, .inl nZ)), (q13, .inl (cy 1, 42, .inl nZ))] := hD
  have hP : va_P (dC, dI) nCl (v1_c_X7_init cy h0 (fun k => [q1, q2, q3, q4, q5, q6, q7, q8, q9, q10, q11, q12, q13].getD k 0)) H := hP
  have hD : va_D A (v1_c_X7_init cy h0 (fun k => [q1, q2, q3, q4, q5, q6, q7, q8, q9, q10, q11, q12, q13].getD k 0)) := hD
  exact W.vret hx hb hr (fun t ht hW => ⟨⟨(fun k => [q1, q2, q3, q4, q5, q6, q7, q8, q9, q10, q11, q12, q13].getD k 0), rfl, trivial, by rw [ht]; exact hP, va_K.moved hW.alike hK, hD⟩, hS.F ht⟩) hS.2.2 dX7_init_115
