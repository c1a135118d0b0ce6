/-! assign -/
def x_assign : Nat → Nat → (Nat → Int32) → MS → Option (Int32 × MS)
  | 0, _, _, _ => none
  | k + 1, 0, L, σ => if ((σ.1 56)) ≤ 0 then (x_assign k 1 L σ) else (some (0, σ))
  | k + 1, 1, L, σ => ob (x_valueOf k 0 (upd (fun _ => 0) 1 ((L 1))) σ) (fun r1 => ob (x_size k 0 (upd (fun _ => 0) 1 r1.1) r1.2) (fun r2 => ob (x_size k 0 (upd (fun _ => 0) 1 ((L 2))) r2.2) (fun r3 => if ((((((((r2.2.1 64)) + ((r2.2.1 65)))) - r2.1)) + r3.1)) ≤ 40000 then (x_assign k 2 (upd L 3 r2.1) r3.2) else (ob (x_fail k 0 (upd (fun _ => 0) 1 6) r3.2) (fun r5 => some (0, r5.2))))))
  | k + 1, 2, L, σ => ob (x_size k 0 (upd (fun _ => 0) 1 ((L 2))) σ) (fun r1 => x_assign k 3 L (upd r1.2.1 64 ((((σ.1 64)) + ((r1.1 - ((L 3)))))), r1.2.2.1, r1.2.2.2))
  | k + 1, 3, L, σ => ob (x_bindOne k 0 (upd (upd (fun _ => 0) 1 ((L 1))) 2 ((L 2))) σ) (fun r1 => some (0, r1.2))
  | _ + 1, _ + 4, _, _ => none
def o_x_assign : List Cond := [.fieldLink RX12 362 "SetHouseModel" "err" "I", .methodLink RX12 604 yX12_valueOf, .instanceMethod yX12_valueOf, .selects RX12 yX12_valueOf yX12_valueOf, .initialized RX12, .methodLink RX12 432 yX12_size, .instanceMethod yX12_size, .selects RX12 yX12_size yX12_size, .fieldLink RX12 852 "SetHouseModel" "total" "I", .fieldLink RX12 855 "SetHouseModel" "pointsTotal" "I", .constant RX12 858 (40000), .methodLink RX12 369 yX12_fail, .instanceMethod yX12_fail, .selects RX12 yX12_fail yX12_fail, .methodLink RX12 694 yX12_bindOne, .instanceMethod yX12_bindOne, .selects RX12 yX12_bindOne yX12_bindOne]
theorem o_x_assign_good : o_x_assign.all goodWord = true := by decide +kernel
def p_x_assign : List Cond := o_x_assign ++ ((.code yX12_valueOf cX12_valueOf 2 (some .int) :: p_x_valueOf) ++ ((.code yX12_size cX12_size 2 (some .int) :: p_x_size) ++ ((.code yX12_fail cX12_fail 2 none :: p_x_fail) ++ ((.code yX12_bindOne cX12_bindOne 3 none :: p_x_bindOne) ++ []))))
theorem p_x_assign_good : p_x_assign.all goodWord = true := nb_all2 o_x_assign_good (nb_all2 (nb_allc (by decide +kernel) p_x_valueOf_good) (nb_all2 (nb_allc (by decide +kernel) p_x_size_good) (nb_all2 (nb_allc (by decide +kernel) p_x_fail_good) (nb_all2 (nb_allc (by decide +kernel) p_x_bindOne_good) rfl))))
def w_x_assign : List Cond := .code yX12_assign cX12_assign 4 none :: (p_x_assign ++ fM)
theorem w_x_assign_good : w_x_assign.all goodWord = true := nb_allc (by decide +kernel) (nb_all2 p_x_assign_good fM_good)
theorem in_x_assign : ∀ w ∈ wsX120, w ∈ w_x_assign := fun _ h => List.mem_cons_of_mem _ (List.mem_append_right _ h)
theorem gg_x_assign_valueOf : GoodIn w_x_assign w_x_valueOf := goodIn_sub (fun w h => (List.mem_cons.mp h).elim (fun e => (List.mem_cons_of_mem _ (List.mem_append_left _ (List.mem_append_right _ (List.mem_append_left _ (List.mem_cons.mpr (Or.inl e))))))) (fun h => (List.mem_append.mp h).elim (fun h => (List.mem_cons_of_mem _ (List.mem_append_left _ (List.mem_append_right _ (List.mem_append_left _ (List.mem_cons_of_mem _ h)))))) (fun h => List.mem_cons_of_mem _ (List.mem_append_right _ h)))) w_x_valueOf_good
theorem gg_x_assign_size : GoodIn w_x_assign w_x_size := goodIn_sub (fun w h => (List.mem_cons.mp h).elim (fun e => (List.mem_cons_of_mem _ (List.mem_append_left _ (List.mem_append_right _ (List.mem_append_right _ (List.mem_append_left _ (List.mem_cons.mpr (Or.inl e)))))))) (fun h => (List.mem_append.mp h).elim (fun h => (List.mem_cons_of_mem _ (List.mem_append_left _ (List.mem_append_right _ (List.mem_append_right _ (List.mem_append_left _ (List.mem_cons_of_mem _ h))))))) (fun h => List.mem_cons_of_mem _ (List.mem_append_right _ h)))) w_x_size_good
theorem gg_x_assign_fail : GoodIn w_x_assign w_x_fail := goodIn_sub (fun w h => (List.mem_cons.mp h).elim (fun e => (List.mem_cons_of_mem _ (List.mem_append_left _ (List.mem_append_right _ (List.mem_append_right _ (List.mem_append_right _ (List.mem_append_left _ (List.mem_cons.mpr (Or.inl e))))))))) (fun h => (List.mem_append.mp h).elim (fun h => (List.mem_cons_of_mem _ (List.mem_append_left _ (List.mem_append_right _ (List.mem_append_right _ (List.mem_append_right _ (List.mem_append_left _ (List.mem_cons_of_mem _ h)))))))) (fun h => List.mem_cons_of_mem _ (List.mem_append_right _ h)))) w_x_fail_good
theorem gg_x_assign_bindOne : GoodIn w_x_assign w_x_bindOne := goodIn_sub (fun w h => (List.mem_cons.mp h).elim (fun e => (List.mem_cons_of_mem _ (List.mem_append_left _ (List.mem_append_right _ (List.mem_append_right _ (List.mem_append_right _ (List.mem_append_right _ (List.mem_append_left _ (List.mem_cons.mpr (Or.inl e)))))))))) (fun h => (List.mem_append.mp h).elim (fun h => (List.mem_cons_of_mem _ (List.mem_append_left _ (List.mem_append_right _ (List.mem_append_right _ (List.mem_append_right _ (List.mem_append_right _ (List.mem_append_left _ (List.mem_cons_of_mem _ h))))))))) (fun h => List.mem_cons_of_mem _ (List.mem_append_right _ h)))) w_x_bindOne_good
theorem g_x_assign_bindOne_694 : GoodIn w_x_assign (wsV RX12 694 RX12 yX12_bindOne w_x_bindOne) := goodIn_app (nb_g4 (List.mem_cons_of_mem _ (List.mem_append_left _ (List.mem_append_left _ (List.mem_of_getElem? (i := 14) rfl)))) (List.mem_cons_of_mem _ (List.mem_append_left _ (List.mem_append_left _ (List.mem_of_getElem? (i := 15) rfl)))) (List.mem_cons_of_mem _ (List.mem_append_left _ (List.mem_append_left _ (List.mem_of_getElem? (i := 16) rfl)))) (List.mem_cons_of_mem _ (List.mem_append_left _ (List.mem_append_left _ (List.mem_of_getElem? (i := 4) rfl)))) (by decide +kernel)) gg_x_assign_bindOne
theorem g_x_assign_fail_369 : GoodIn w_x_assign (wsV RX12 369 RX12 yX12_fail w_x_fail) := goodIn_app (nb_g4 (List.mem_cons_of_mem _ (List.mem_append_left _ (List.mem_append_left _ (List.mem_of_getElem? (i := 11) rfl)))) (List.mem_cons_of_mem _ (List.mem_append_left _ (List.mem_append_left _ (List.mem_of_getElem? (i := 12) rfl)))) (List.mem_cons_of_mem _ (List.mem_append_left _ (List.mem_append_left _ (List.mem_of_getElem? (i := 13) rfl)))) (List.mem_cons_of_mem _ (List.mem_append_left _ (List.mem_append_left _ (List.mem_of_getElem? (i := 4) rfl)))) (by decide +kernel)) gg_x_assign_fail
theorem g_x_assign_size_432 : GoodIn w_x_assign (wsV RX12 432 RX12 yX12_size w_x_size) := goodIn_app (nb_g4 (List.mem_cons_of_mem _ (List.mem_append_left _ (List.mem_append_left _ (List.mem_of_getElem? (i := 5) rfl)))) (List.mem_cons_of_mem _ (List.mem_append_left _ (List.mem_append_left _ (List.mem_of_getElem? (i := 6) rfl)))) (List.mem_cons_of_mem _ (List.mem_append_left _ (List.mem_append_left _ (List.mem_of_getElem? (i := 7) rfl)))) (List.mem_cons_of_mem _ (List.mem_append_left _ (List.mem_append_left _ (List.mem_of_getElem? (i := 4) rfl)))) (by decide +kernel)) gg_x_assign_size
theorem g_x_assign_valueOf_604 : GoodIn w_x_assign (wsV RX12 604 RX12 yX12_valueOf w_x_valueOf) := goodIn_app (nb_g4 (List.mem_cons_of_mem _ (List.mem_append_left _ (List.mem_append_left _ (List.mem_of_getElem? (i := 1) rfl)))) (List.mem_cons_of_mem _ (List.mem_append_left _ (List.mem_append_left _ (List.mem_of_getElem? (i := 2) rfl)))) (List.mem_cons_of_mem _ (List.mem_append_left _ (List.mem_append_left _ (List.mem_of_getElem? (i := 3) rfl)))) (List.mem_cons_of_mem _ (List.mem_append_left _ (List.mem_append_left _ (List.mem_of_getElem? (i := 4) rfl)))) (by decide +kernel)) gg_x_assign_valueOf
set_option maxHeartbeats 40000000 in
set_option maxRecDepth 100000 in
theorem c_x_assign (l : Launch) (dC : Nat → ClassId) (dI : Nat → Nat → Nat) (cy : Nat → ClassId) (a : Nat → Nat) (k0 : Nat) (L0 : Nat → Int32) (σ0 : MS) (r0 : Int32 × MS) (h0 : x_assign k0 0 L0 σ0 = some r0) (sz : Nat) : Met l yX12_assign w_x_assign ({ frames := 1, cells := 0, slots := 0, locals := 22 }) (va_Pc [.ref (a 0), .int (L0 1), .int (L0 2)] (nIn (dC, dI) cy sz (vM cy a σ0))) (va_Qv (fun _ : Unit => True) (fun _ t => nOut (dC, dI) cy (va_A (vM cy a σ0) sz) (vM cy a r0.2) t) (va_A (vM cy a σ0) sz)) 0 0 (va_A (vM cy a σ0) sz) := by
  refine Met.ofW (cc := cX12_assign) (maxL := 4) (ret := none) (by decide) rfl ?_
  intro p e s m args below meth c s₁ B hml hv
  obtain ⟨rfl, hsz, hP, hK, hD0, hG⟩ := hv
  have hx := B.exec
  have hb := B.bytes
  have hr := B.returns
  have hts := atoms_spec (ws := w_x_assign) B.pre
  have hown : s.vm.findClass RX12 = some m.cls := findClass_of_methodNamed B.named
  have hlocks := B.notSynchronized
  subst hsz
  have hD := hD0.self (sz := s.heap.size)
  generalize hAe : va_A (vM cy a σ0) s.heap.size = A at hD ⊢
  have hA : ∀ q : Nat, s.heap.size ≤ q → A q := fun q h => by rw [← hAe]; exact Or.inr h
  have hS : va_S A s.heap s.heap [] := va_S.rf
  have hl := lv_entry ([.ref (a 0), .int (L0 1), .int (L0 2)]) (n := 4) (Nat.le_of_ble_eq_true rfl)
  rw [lg_entry_eq]
  generalize (lg_sl ([.ref (a 0), .int (L0 1), .int (L0 2)]) ++ List.replicate (4 - (lg_sl ([.ref (a 0), .int (L0 1), .int (L0 2)])).length) Slot.unset).toArray = ls at hl ⊢
  have hl : lv_has ls 4 [(0, .ref (a 0)), (1, .int (L0 1)), (2, .int (L0 2))] := hl
  have blk : ∀ k : Nat, (∀ (L : Nat → Int32) (σ : MS) (r : Int32 × MS), x_assign k 0 L σ = some r → ∀ (H : Heap) (locs : List Loc) (ls : Array Slot), va_P (dC, dI) nCl (vM cy a σ) H → va_D A (vM cy a σ) → va_S A s.heap H locs → lv_has ls 4 [(0, .ref (a 0)), (1, .int (L 1)), (2, .int (L 2))] → W p l e (headSpec w_x_assign ({ frames := 1, cells := 0, slots := 0, locals := 22 })).room s m #[.ref (a 0), .int (L0 1), .int (L0 2)] below meth c H locs 0 0 (MQ below (va_Qv (fun _ : Unit => True) (fun _ t => nOut (dC, dI) cy A (vM cy a r.2) t) A) #[.ref (a 0), .int (L0 1), .int (L0 2)] s 0 0 A) (F0 m 0 ls [])) ∧ (∀ (L : Nat → Int32) (σ : MS) (r : Int32 × MS), x_assign k 1 L σ = some r → ∀ (H : Heap) (locs : List Loc) (ls : Array Slot), va_P (dC, dI) nCl (vM cy a σ) H → va_D A (vM cy a σ) → va_S A s.heap H locs → lv_has ls 4 [(0, .ref (a 0)), (1, .int (L 1)), (2, .int (L 2))] → W p l e (headSpec w_x_assign ({ frames := 1, cells := 0, slots := 0, locals := 22 })).room s m #[.ref (a 0), .int (L0 1), .int (L0 2)] below meth c H locs 0 0 (MQ below (va_Qv (fun _ : Unit => True) (fun _ t => nOut (dC, dI) cy A (vM cy a r.2) t) A) #[.ref (a 0), .int (L0 1), .int (L0 2)] s 0 0 A) (F0 m 8 ls [])) ∧ (∀ (L : Nat → Int32) (σ : MS) (r : Int32 × MS), x_assign k 2 L σ = some r → ∀ (H : Heap) (locs : List Loc) (ls : Array Slot), va_P (dC, dI) nCl (vM cy a σ) H → va_D A (vM cy a σ) → va_S A s.heap H locs → lv_has ls 4 [(0, .ref (a 0)), (1, .int (L 1)), (2, .int (L 2)), (3, .int (L 3))] → W p l e (headSpec w_x_assign ({ frames := 1, cells := 0, slots := 0, locals := 22 })).room s m #[.ref (a 0), .int (L0 1), .int (L0 2)] below meth c H locs 0 0 (MQ below (va_Qv (fun _ : Unit => True) (fun _ t => nOut (dC, dI) cy A (vM cy a r.2) t) A) #[.ref (a 0), .int (L0 1), .int (L0 2)] s 0 0 A) (F0 m 48 ls [])) ∧ (∀ (L : Nat → Int32) (σ : MS) (r : Int32 × MS), x_assign k 3 L σ = some r → ∀ (H : Heap) (locs : List Loc) (ls : Array Slot), va_P (dC, dI) nCl (vM cy a σ) H → va_D A (vM cy a σ) → va_S A s.heap H locs → lv_has ls 4 [(0, .ref (a 0)), (1, .int (L 1)), (2, .int (L 2)), (3, .int (L 3))] → W p l e (headSpec w_x_assign ({ frames := 1, cells := 0, slots := 0, locals := 22 })).room s m #[.ref (a 0), .int (L0 1), .int (L0 2)] below meth c H locs 0 0 (MQ below (va_Qv (fun _ : Unit => True) (fun _ t => nOut (dC, dI) cy A (vM cy a r.2) t) A) #[.ref (a 0), .int (L0 1), .int (L0 2)] s 0 0 A) (F0 m 64 ls [])) := by
    intro k
    induction k with
    | zero => exact ⟨fun L σ r h => (by cases h), fun L σ r h => (by cases h), fun L σ r h => (by cases h), fun L σ r h => (by cases h)⟩
    | succ k ih =>
      refine ⟨?_, ?_, ?_, ?_⟩
      · intro L σ r h H locs ls hP hD hS hl
        rw [x_assign] at h
        refine lv_aload_n hx hb dX12_assign_0 rfl (lv_at hl 0 rfl) ?_
        refine va_get (D := (dC, dI)) (ci := 11) (v := .int (σ.1 56)) (C := RX12) (T := TX12) (N := 121) hx hb hts in_x_assign hown hK hP 0 rfl rfl 56 (by decide) (hts _ (List.mem_cons_of_mem _ (List.mem_append_left _ (List.mem_append_left _ (List.mem_of_getElem? (i := 0) rfl))))) (fun _ h9 => h9) rfl dX12_assign_1 ?_
        refine lv_if_le (tgt := 8) hx hb dX12_assign_4 (by decide) (fun c1 => ?_) (fun c1 => ?_)
        · rw [if_pos c1] at h
          exact ih.2.1 L σ r h H locs ls hP hD hS (lv_sub hl [0, 1, 2] rfl)
        · rw [if_neg c1] at h
          cases h
          exact W.vret hx hb hr (fun t ht hW => ⟨⟨(), rfl, trivial, by rw [ht]; exact hP, va_K.moved hW.alike hK, hD⟩, hS.F ht⟩) hS.2.2 dX12_assign_7
      · intro L σ r h H locs ls hP hD hS hl
        rw [x_assign] at h
        refine lv_aload_n hx hb dX12_assign_8 rfl (lv_at hl 0 rfl) ?_
        refine lv_aload_n hx hb dX12_assign_9 rfl (lv_at hl 0 rfl) ?_
        refine lv_iload_n hx hb dX12_assign_10 rfl (lv_at hl 1 rfl) ?_
        cases hc1 : x_valueOf k 0 (upd (fun _ => 0) 1 ((L 1))) σ with
        | none => rw [hc1, ob_none] at h; cases h
        | some r1 =>
          rw [hc1, ob_some] at h
          have hFc := va_free (wc := vM cy a σ) hD hS hA [0, 1, 2, 3, 4, 5, 6, 7, 8, 9, 10, 11, 12, 13, 14, 15, 16, 17, 18, 19, 20, 21, 22, 23, 24, 25, 26, 27, 28, 29, 30, 31, 32, 33, 34, 35, 36, 37, 38, 39, 40, 41, 42, 43, 44, 45, 46, 47, 48, 49, 50, 51, 52, 53, 54, 55, 56, 57] rfl
          refine va_calli (va_runV (As := [.int (L 1)]) (rest := [.ref (a 0)]) ⟨hx, hb, hml, hown, hts⟩ (c_x_valueOf l dC dI cy a k (upd (fun _ => 0) 1 ((L 1))) σ r1 hc1 H.size) (cwV 1 hts g_x_assign_valueOf_604 rfl rfl rfl (by decide +kernel) ⟨Nat.le_of_ble_eq_true rfl, Nat.le_of_ble_eq_true rfl⟩) ⟨nb_blind, va_recv hK hP (ci := 11) (q0 := 0) rfl rfl, fun U hU hW => ⟨rfl, by rw [hU], by rw [hU]; exact hP, va_K.moved hW.alike hK, hD.weaken (fun _ _ _ _ => trivial), hG.warm hW⟩⟩ rfl rfl hl.1 rfl (lv_room (Nat.le_of_ble_eq_true rfl)) dX12_assign_11 ⟨Nat.le_of_ble_eq_true rfl, Nat.le_of_ble_eq_true rfl⟩) hS (fun q _ h => hFc q h) hFc (fun z9 _ t H1 locs ht hvm hw hB hz1 hk1 hS => ?_)
          subst hw
          obtain ⟨hP1, hK1, hD1⟩ := hB
          rw [ht] at hP1
          obtain ⟨hP, hD⟩ := va_join (wr := []) (w1 := vM cy a r1.2) hP hD [0, 1, 2, 3, 4, 5, 6, 7, 8, 9, 10, 11, 12, 13, 14, 15, 16, 17, 18, 19, 20, 21, 22, 23, 24, 25, 26, 27, 28, 29, 30, 31, 32, 33, 34, 35, 36, 37, 38, 39, 40, 41, 42, 43, 44, 45, 46, 47, 48, 49, 50, 51, 52, 53, 54, 55, 56, 57] [] rfl rfl (by decide) (by decide) hk1 hFc hP1 hD1
          generalize H1 = H at hP hS ⊢
          have hP : va_P (dC, dI) nCl (vM cy a r1.2) H := hP
          have hD : va_D A (vM cy a r1.2) := hD
          cases hc2 : x_size k 0 (upd (fun _ => 0) 1 r1.1) r1.2 with
          | none => rw [hc2, ob_none] at h; cases h
          | some r2 =>
            rw [hc2, ob_some] at h
            have hFc := va_free (wc := vM cy a r1.2) hD hS hA [0, 1, 2, 3, 4, 5, 6, 7, 8, 9, 10, 11, 12, 13, 14, 15, 16, 17, 18, 19, 20, 21, 22, 23, 24, 25, 26, 27, 28, 29, 30, 31, 32, 33, 34, 35, 36, 37, 38, 39, 40, 41, 42, 43, 44, 45, 46, 47, 48, 49, 50, 51, 52, 53, 54, 55, 56, 57] rfl
            refine va_calli (va_runV (As := [.int r1.1]) (rest := []) ⟨hx, hb, hml, hown, hts⟩ (c_x_size l dC dI cy a k (upd (fun _ => 0) 1 r1.1) r1.2 r2 hc2 H.size) (cwV 1 hts g_x_assign_size_432 rfl rfl rfl (by decide +kernel) ⟨Nat.le_of_ble_eq_true rfl, Nat.le_of_ble_eq_true rfl⟩) ⟨nb_blind, va_recv hK hP (ci := 11) (q0 := 0) rfl rfl, fun U hU hW => ⟨rfl, by rw [hU], by rw [hU]; exact hP, va_K.moved hW.alike hK, hD.weaken (fun _ _ _ _ => trivial), hG.warm hW⟩⟩ rfl rfl hl.1 rfl (lv_room (Nat.le_of_ble_eq_true rfl)) dX12_assign_14 ⟨Nat.le_of_ble_eq_true rfl, Nat.le_of_ble_eq_true rfl⟩) hS (fun q _ h => hFc q h) hFc (fun z9 _ t H1 locs ht hvm hw hB hz1 hk1 hS => ?_)
            subst hw
            obtain ⟨hP1, hK1, hD1⟩ := hB
            rw [ht] at hP1
            obtain ⟨hP, hD⟩ := va_join (wr := []) (w1 := vM cy a r2.2) hP hD [0, 1, 2, 3, 4, 5, 6, 7, 8, 9, 10, 11, 12, 13, 14, 15, 16, 17, 18, 19, 20, 21, 22, 23, 24, 25, 26, 27, 28, 29, 30, 31, 32, 33, 34, 35, 36, 37, 38, 39, 40, 41, 42, 43, 44, 45, 46, 47, 48, 49, 50, 51, 52, 53, 54, 55, 56, 57] [] rfl rfl (by decide) (by decide) hk1 hFc hP1 hD1
            generalize H1 = H at hP hS ⊢
            have hP : va_P (dC, dI) nCl (vM cy a r2.2) H := hP
            have hD : va_D A (vM cy a r2.2) := hD
            refine lv_istore_n (lv' := [(3, .int r2.1), (0, .ref (a 0)), (1, .int (L 1)), (2, .int (L 2))]) hx hb dX12_assign_17 rfl hl (by decide) rfl (fun ls hl => ?_)
            refine lv_aload_n hx hb dX12_assign_18 rfl (lv_at hl 1 rfl) ?_
            refine va_get (D := (dC, dI)) (ci := 11) (v := .int (r2.2.1 64)) (C := RX12) (T := TX12) (N := 121) hx hb hts in_x_assign hown hK hP 0 rfl rfl 64 (by decide) (hts _ (List.mem_cons_of_mem _ (List.mem_append_left _ (List.mem_append_left _ (List.mem_of_getElem? (i := 8) rfl))))) (fun _ h9 => h9) rfl dX12_assign_19 ?_
            refine lv_aload_n hx hb dX12_assign_22 rfl (lv_at hl 1 rfl) ?_
            refine va_get (D := (dC, dI)) (ci := 11) (v := .int (r2.2.1 65)) (C := RX12) (T := TX12) (N := 121) hx hb hts in_x_assign hown hK hP 0 rfl rfl 65 (by decide) (hts _ (List.mem_cons_of_mem _ (List.mem_append_left _ (List.mem_append_left _ (List.mem_of_getElem? (i := 9) rfl))))) (fun _ h9 => h9) rfl dX12_assign_23 ?_
            refine lv_iadd hx hb dX12_assign_26 ?_
            refine lv_iload_n hx hb dX12_assign_27 rfl (lv_at hl 0 rfl) ?_
            refine lv_isub hx hb dX12_assign_28 ?_
            refine lv_aload_n hx hb dX12_assign_29 rfl (lv_at hl 1 rfl) ?_
            refine lv_iload_n hx hb dX12_assign_30 rfl (lv_at hl 3 rfl) ?_
            cases hc3 : x_size k 0 (upd (fun _ => 0) 1 ((L 2))) r2.2 with
            | none => rw [hc3, ob_none] at h; cases h
            | some r3 =>
              rw [hc3, ob_some] at h
              have hFc := va_free (wc := vM cy a r2.2) hD hS hA [0, 1, 2, 3, 4, 5, 6, 7, 8, 9, 10, 11, 12, 13, 14, 15, 16, 17, 18, 19, 20, 21, 22, 23, 24, 25, 26, 27, 28, 29, 30, 31, 32, 33, 34, 35, 36, 37, 38, 39, 40, 41, 42, 43, 44, 45, 46, 47, 48, 49, 50, 51, 52, 53, 54, 55, 56, 57] rfl
              refine va_calli (va_runV (As := [.int (L 2)]) (rest := [.int (((((r2.2.1 64)) + ((r2.2.1 65)))) - r2.1)]) ⟨hx, hb, hml, hown, hts⟩ (c_x_size l dC dI cy a k (upd (fun _ => 0) 1 ((L 2))) r2.2 r3 hc3 H.size) (cwV 1 hts g_x_assign_size_432 rfl rfl rfl (by decide +kernel) ⟨Nat.le_of_ble_eq_true rfl, Nat.le_of_ble_eq_true rfl⟩) ⟨nb_blind, va_recv hK hP (ci := 11) (q0 := 0) rfl rfl, fun U hU hW => ⟨rfl, by rw [hU], by rw [hU]; exact hP, va_K.moved hW.alike hK, hD.weaken (fun _ _ _ _ => trivial), hG.warm hW⟩⟩ rfl rfl hl.1 rfl (lv_room (Nat.le_of_ble_eq_true rfl)) dX12_assign_31 ⟨Nat.le_of_ble_eq_true rfl, Nat.le_of_ble_eq_true rfl⟩) hS (fun q _ h => hFc q h) hFc (fun z9 _ t H1 locs ht hvm hw hB hz1 hk1 hS => ?_)
              subst hw
              obtain ⟨hP1, hK1, hD1⟩ := hB
              rw [ht] at hP1
              obtain ⟨hP, hD⟩ := va_join (wr := []) (w1 := vM cy a r3.2) hP hD [0, 1, 2, 3, 4, 5, 6, 7, 8, 9, 10, 11, 12, 13, 14, 15, 16, 17, 18, 19, 20, 21, 22, 23, 24, 25, 26, 27, 28, 29, 30, 31, 32, 33, 34, 35, 36, 37, 38, 39, 40, 41, 42, 43, 44, 45, 46, 47, 48, 49, 50, 51, 52, 53, 54, 55, 56, 57] [] rfl rfl (by decide) (by decide) hk1 hFc hP1 hD1
              generalize H1 = H at hP hS ⊢
              have hP : va_P (dC, dI) nCl (vM cy a r3.2) H := hP
              have hD : va_D A (vM cy a r3.2) := hD
              refine lv_iadd hx hb dX12_assign_34 ?_
              refine lv_ldcw (v := 40000) hx hb hown (hts _ (List.mem_cons_of_mem _ (List.mem_append_left _ (List.mem_append_left _ (List.mem_of_getElem? (i := 10) rfl))))) dX12_assign_35 ?_
              refine lv_icmp_le (tgt := 48) hx hb dX12_assign_38 (by decide) (fun c4 => ?_) (fun c4 => ?_)
              · rw [if_pos c4] at h
                exact ih.2.2.1 (upd L 3 r2.1) r3.2 r h H locs ls hP hD hS (lv_sub hl [1, 2, 3, 0] rfl)
              · rw [if_neg c4] at h
                refine lv_aload_n hx hb dX12_assign_41 rfl (lv_at hl 1 rfl) ?_
                refine lv_bipush (v := 6) hx hb dX12_assign_42 (by decide) ?_
                cases hc5 : x_fail k 0 (upd (fun _ => 0) 1 6) r3.2 with
                | none => rw [hc5, ob_none] at h; cases h
                | some r5 =>
                  rw [hc5, ob_some] at h
                  have hFc := va_free (wc := vM cy a r3.2) hD hS hA [0, 1, 2, 3, 4, 5, 6, 7, 8, 9, 10, 11, 12, 13, 14, 15, 16, 17, 18, 19, 20, 21, 22, 23, 24, 25, 26, 27, 28, 29, 30, 31, 32, 33, 34, 35, 36, 37, 38, 39, 40, 41, 42, 43, 44, 45, 46, 47, 48, 49, 50, 51, 52, 53, 54, 55, 56, 57] rfl
                  refine va_callv (va_runV (As := [.int 6]) (rest := []) ⟨hx, hb, hml, hown, hts⟩ (c_x_fail l dC dI cy a k (upd (fun _ => 0) 1 6) r3.2 r5 hc5 H.size) (cwV 1 hts g_x_assign_fail_369 rfl rfl rfl (by decide +kernel) ⟨Nat.le_of_ble_eq_true rfl, Nat.le_of_ble_eq_true rfl⟩) ⟨nb_blind, va_recv hK hP (ci := 11) (q0 := 0) rfl rfl, fun U hU hW => ⟨rfl, by rw [hU], by rw [hU]; exact hP, va_K.moved hW.alike hK, hD.weaken (fun _ _ _ _ => trivial), hG.warm hW⟩⟩ rfl rfl hl.1 rfl (lv_room (Nat.le_of_ble_eq_true rfl)) dX12_assign_44 ⟨Nat.le_of_ble_eq_true rfl, Nat.le_of_ble_eq_true rfl⟩) hS (fun q _ h => hFc q h) hFc (fun _ t H1 locs ht hvm hw hB hz1 hk1 hS => ?_)
                  obtain ⟨hP1, hK1, hD1⟩ := hB
                  rw [ht] at hP1
                  obtain ⟨hP, hD⟩ := va_join (wr := []) (w1 := vM cy a r5.2) hP hD [0, 1, 2, 3, 4, 5, 6, 7, 8, 9, 10, 11, 12, 13, 14, 15, 16, 17, 18, 19, 20, 21, 22, 23, 24, 25, 26, 27, 28, 29, 30, 31, 32, 33, 34, 35, 36, 37, 38, 39, 40, 41, 42, 43, 44, 45, 46, 47, 48, 49, 50, 51, 52, 53, 54, 55, 56, 57] [] rfl rfl (by decide) (by decide) hk1 hFc hP1 hD1
                  generalize H1 = H at hP hS ⊢
                  have hP : va_P (dC, dI) nCl (vM cy a r5.2) H := hP
                  have hD : va_D A (vM cy a r5.2) := hD
                  cases h
                  exact W.vret hx hb hr (fun t ht hW => ⟨⟨(), rfl, trivial, by rw [ht]; exact hP, va_K.moved hW.alike hK, hD⟩, hS.F ht⟩) hS.2.2 dX12_assign_47
      · intro L σ r h H locs ls hP hD hS hl
        rw [x_assign] at h
        refine lv_aload_n hx hb dX12_assign_48 rfl (lv_at hl 0 rfl) ?_
        refine lv_dup hx hb dX12_assign_49 rfl ?_
        refine va_get (D := (dC, dI)) (ci := 11) (v := .int (σ.1 64)) (C := RX12) (T := TX12) (N := 121) hx hb hts in_x_assign hown hK hP 0 rfl rfl 64 (by decide) (hts _ (List.mem_cons_of_mem _ (List.mem_append_left _ (List.mem_append_left _ (List.mem_of_getElem? (i := 8) rfl))))) (fun _ h9 => h9) rfl dX12_assign_50 ?_
        refine lv_aload_n hx hb dX12_assign_53 rfl (lv_at hl 0 rfl) ?_
        refine lv_iload_n hx hb dX12_assign_54 rfl (lv_at hl 2 rfl) ?_
        cases hc1 : x_size k 0 (upd (fun _ => 0) 1 ((L 2))) σ with
        | none => rw [hc1, ob_none] at h; cases h
        | some r1 =>
          rw [hc1, ob_some] at h
          have hFc := va_free (wc := vM cy a σ) hD hS hA [0, 1, 2, 3, 4, 5, 6, 7, 8, 9, 10, 11, 12, 13, 14, 15, 16, 17, 18, 19, 20, 21, 22, 23, 24, 25, 26, 27, 28, 29, 30, 31, 32, 33, 34, 35, 36, 37, 38, 39, 40, 41, 42, 43, 44, 45, 46, 47, 48, 49, 50, 51, 52, 53, 54, 55, 56, 57] rfl
          refine va_calli (va_runV (As := [.int (L 2)]) (rest := [.int (σ.1 64), .ref (a 0)]) ⟨hx, hb, hml, hown, hts⟩ (c_x_size l dC dI cy a k (upd (fun _ => 0) 1 ((L 2))) σ r1 hc1 H.size) (cwV 1 hts g_x_assign_size_432 rfl rfl rfl (by decide +kernel) ⟨Nat.le_of_ble_eq_true rfl, Nat.le_of_ble_eq_true rfl⟩) ⟨nb_blind, va_recv hK hP (ci := 11) (q0 := 0) rfl rfl, fun U hU hW => ⟨rfl, by rw [hU], by rw [hU]; exact hP, va_K.moved hW.alike hK, hD.weaken (fun _ _ _ _ => trivial), hG.warm hW⟩⟩ rfl rfl hl.1 rfl (lv_room (Nat.le_of_ble_eq_true rfl)) dX12_assign_55 ⟨Nat.le_of_ble_eq_true rfl, Nat.le_of_ble_eq_true rfl⟩) hS (fun q _ h => hFc q h) hFc (fun z9 _ t H1 locs ht hvm hw hB hz1 hk1 hS => ?_)
          subst hw
          obtain ⟨hP1, hK1, hD1⟩ := hB
          rw [ht] at hP1
          obtain ⟨hP, hD⟩ := va_join (wr := []) (w1 := vM cy a r1.2) hP hD [0, 1, 2, 3, 4, 5, 6, 7, 8, 9, 10, 11, 12, 13, 14, 15, 16, 17, 18, 19, 20, 21, 22, 23, 24, 25, 26, 27, 28, 29, 30, 31, 32, 33, 34, 35, 36, 37, 38, 39, 40, 41, 42, 43, 44, 45, 46, 47, 48, 49, 50, 51, 52, 53, 54, 55, 56, 57] [] rfl rfl (by decide) (by decide) hk1 hFc hP1 hD1
          generalize H1 = H at hP hS ⊢
          have hP : va_P (dC, dI) nCl (vM cy a r1.2) H := hP
          have hD : va_D A (vM cy a r1.2) := hD
          refine lv_iload_n hx hb dX12_assign_58 rfl (lv_at hl 3 rfl) ?_
          refine lv_isub hx hb dX12_assign_59 ?_
          refine lv_iadd hx hb dX12_assign_60 ?_
          refine va_put (D := (dC, dI)) (ci := 11) (v := .int (((σ.1 64)) + ((r1.1 - ((L 3)))))) (ty := .int) (C := RX12) (T := TX12) (N := 121) hx hb hts in_x_assign tyX12 tyX12_ok nmX12 hown hK hP hD hS 0 rfl rfl 64 (by decide) (hts _ (List.mem_cons_of_mem _ (List.mem_append_left _ (List.mem_append_left _ (List.mem_of_getElem? (i := 8) rfl))))) (fun _ h9 => h9) rfl (by decide +kernel) rfl rfl (Nat.le_of_ble_eq_true rfl) dX12_assign_61 (fun H locs hP hD hS => ?_)
          have hP : va_P (dC, dI) nCl (vM cy a (upd r1.2.1 64 ((((σ.1 64)) + ((r1.1 - ((L 3)))))), r1.2.2.1, r1.2.2.2)) H := hP
          have hD : va_D A (vM cy a (upd r1.2.1 64 ((((σ.1 64)) + ((r1.1 - ((L 3)))))), r1.2.2.1, r1.2.2.2)) := hD
          exact ih.2.2.2 L (upd r1.2.1 64 ((((σ.1 64)) + ((r1.1 - ((L 3)))))), r1.2.2.1, r1.2.2.2) r h H locs ls hP hD hS (lv_sub hl [0, 1, 2, 3] rfl)
      · intro L σ r h H locs ls hP hD hS hl
        rw [x_assign] at h
        refine lv_aload_n hx hb dX12_assign_64 rfl (lv_at hl 0 rfl) ?_
        refine lv_iload_n hx hb dX12_assign_65 rfl (lv_at hl 1 rfl) ?_
        refine lv_iload_n hx hb dX12_assign_66 rfl (lv_at hl 2 rfl) ?_
        cases hc1 : x_bindOne k 0 (upd (upd (fun _ => 0) 1 ((L 1))) 2 ((L 2))) σ with
        | none => rw [hc1, ob_none] at h; cases h
        | some r1 =>
          rw [hc1, ob_some] at h
          have hFc := va_free (wc := vM cy a σ) hD hS hA [0, 1, 2, 3, 4, 5, 6, 7, 8, 9, 10, 11, 12, 13, 14, 15, 16, 17, 18, 19, 20, 21, 22, 23, 24, 25, 26, 27, 28, 29, 30, 31, 32, 33, 34, 35, 36, 37, 38, 39, 40, 41, 42, 43, 44, 45, 46, 47, 48, 49, 50, 51, 52, 53, 54, 55, 56, 57] rfl
          refine va_callv (va_runV (As := [.int (L 1), .int (L 2)]) (rest := []) ⟨hx, hb, hml, hown, hts⟩ (c_x_bindOne l dC dI cy a k (upd (upd (fun _ => 0) 1 ((L 1))) 2 ((L 2))) σ r1 hc1 H.size) (cwV 2 hts g_x_assign_bindOne_694 rfl rfl rfl (by decide +kernel) ⟨Nat.le_of_ble_eq_true rfl, Nat.le_of_ble_eq_true rfl⟩) ⟨nb_blind, va_recv hK hP (ci := 11) (q0 := 0) rfl rfl, fun U hU hW => ⟨rfl, by rw [hU], by rw [hU]; exact hP, va_K.moved hW.alike hK, hD.weaken (fun _ _ _ _ => trivial), hG.warm hW⟩⟩ rfl rfl hl.1 rfl (lv_room (Nat.le_of_ble_eq_true rfl)) dX12_assign_67 ⟨Nat.le_of_ble_eq_true rfl, Nat.le_of_ble_eq_true rfl⟩) hS (fun q _ h => hFc q h) hFc (fun _ t H1 locs ht hvm hw hB hz1 hk1 hS => ?_)
          obtain ⟨hP1, hK1, hD1⟩ := hB
          rw [ht] at hP1
          obtain ⟨hP, hD⟩ := va_join (wr := []) (w1 := vM cy a r1.2) hP hD [0, 1, 2, 3, 4, 5, 6, 7, 8, 9, 10, 11, 12, 13, 14, 15, 16, 17, 18, 19, 20, 21, 22, 23, 24, 25, 26, 27, 28, 29, 30, 31, 32, 33, 34, 35, 36, 37, 38, 39, 40, 41, 42, 43, 44, 45, 46, 47, 48, 49, 50, 51, 52, 53, 54, 55, 56, 57] [] rfl rfl (by decide) (by decide) hk1 hFc hP1 hD1
          generalize H1 = H at hP hS ⊢
          have hP : va_P (dC, dI) nCl (vM cy a r1.2) H := hP
          have hD : va_D A (vM cy a r1.2) := hD
          cases h
          exact W.vret hx hb hr (fun t ht hW => ⟨⟨(), rfl, trivial, by rw [ht]; exact hP, va_K.moved hW.alike hK, hD⟩, hS.F ht⟩) hS.2.2 dX12_assign_70
  exact (blk k0).1 L0 σ0 r0 h0 s.heap [] ls hP hD hS hl
/-! pair -/
def x_pair : Nat → Nat → (Nat → Int32) → MS → Option (Int32 × MS)
  | 0, _, _, _ => none
  | k + 1, 0, L, σ => ob (x_push k 0 (upd (fun _ => 0) 1 ((L 1))) σ) (fun r1 => ob (x_push k 0 (upd (fun _ => 0) 1 ((L 2))) r1.2) (fun r2 => ob (x_tupleOf k 0 (upd (fun _ => 0) 1 ((σ.1 59))) r2.2) (fun r3 => some (r3.1, r3.2))))
  | _ + 1, _ + 1, _, _ => none
def o_x_pair : List Cond := [.fieldLink RX12 385 "SetHouseModel" "top" "I", .methodLink RX12 594 yX12_push, .instanceMethod yX12_push, .selects RX12 yX12_push yX12_push, .initialized RX12, .methodLink RX12 675 yX12_tupleOf, .instanceMethod yX12_tupleOf, .selects RX12 yX12_tupleOf yX12_tupleOf]
theorem o_x_pair_good : o_x_pair.all goodWord = true := by decide +kernel
def p_x_pair : List Cond := o_x_pair ++ ((.code yX12_push cX12_push 2 none :: p_x_push) ++ ((.code yX12_tupleOf cX12_tupleOf 5 (some .int) :: p_x_tupleOf) ++ []))
theorem p_x_pair_good : p_x_pair.all goodWord = true := nb_all2 o_x_pair_good (nb_all2 (nb_allc (by decide +kernel) p_x_push_good) (nb_all2 (nb_allc (by decide +kernel) p_x_tupleOf_good) rfl))
def w_x_pair : List Cond := .code yX12_pair cX12_pair 4 (some .int) :: (p_x_pair ++ fM)
theorem w_x_pair_good : w_x_pair.all goodWord = true := nb_allc (by decide +kernel) (nb_all2 p_x_pair_good fM_good)
theorem in_x_pair : ∀ w ∈ wsX120, w ∈ w_x_pair := fun _ h => List.mem_cons_of_mem _ (List.mem_append_right _ h)
theorem gg_x_pair_push : GoodIn w_x_pair w_x_push := goodIn_sub (fun w h => (List.mem_cons.mp h).elim (fun e => (List.mem_cons_of_mem _ (List.mem_append_left _ (List.mem_append_right _ (List.mem_append_left _ (List.mem_cons.mpr (Or.inl e))))))) (fun h => (List.mem_append.mp h).elim (fun h => (List.mem_cons_of_mem _ (List.mem_append_left _ (List.mem_append_right _ (List.mem_append_left _ (List.mem_cons_of_mem _ h)))))) (fun h => List.mem_cons_of_mem _ (List.mem_append_right _ h)))) w_x_push_good
theorem gg_x_pair_tupleOf : GoodIn w_x_pair w_x_tupleOf := goodIn_sub (fun w h => (List.mem_cons.mp h).elim (fun e => (List.mem_cons_of_mem _ (List.mem_append_left _ (List.mem_append_right _ (List.mem_append_right _ (List.mem_append_left _ (List.mem_cons.mpr (Or.inl e)))))))) (fun h => (List.mem_append.mp h).elim (fun h => (List.mem_cons_of_mem _ (List.mem_append_left _ (List.mem_append_right _ (List.mem_append_right _ (List.mem_append_left _ (List.mem_cons_of_mem _ h))))))) (fun h => List.mem_cons_of_mem _ (List.mem_append_right _ h)))) w_x_tupleOf_good
theorem g_x_pair_push_594 : GoodIn w_x_pair (wsV RX12 594 RX12 yX12_push w_x_push) := goodIn_app (nb_g4 (List.mem_cons_of_mem _ (List.mem_append_left _ (List.mem_append_left _ (List.mem_of_getElem? (i := 1) rfl)))) (List.mem_cons_of_mem _ (List.mem_append_left _ (List.mem_append_left _ (List.mem_of_getElem? (i := 2) rfl)))) (List.mem_cons_of_mem _ (List.mem_append_left _ (List.mem_append_left _ (List.mem_of_getElem? (i := 3) rfl)))) (List.mem_cons_of_mem _ (List.mem_append_left _ (List.mem_append_left _ (List.mem_of_getElem? (i := 4) rfl)))) (by decide +kernel)) gg_x_pair_push
theorem g_x_pair_tupleOf_675 : GoodIn w_x_pair (wsV RX12 675 RX12 yX12_tupleOf w_x_tupleOf) := goodIn_app (nb_g4 (List.mem_cons_of_mem _ (List.mem_append_left _ (List.mem_append_left _ (List.mem_of_getElem? (i := 5) rfl)))) (List.mem_cons_of_mem _ (List.mem_append_left _ (List.mem_append_left _ (List.mem_of_getElem? (i := 6) rfl)))) (List.mem_cons_of_mem _ (List.mem_append_left _ (List.mem_append_left _ (List.mem_of_getElem? (i := 7) rfl)))) (List.mem_cons_of_mem _ (List.mem_append_left _ (List.mem_append_left _ (List.mem_of_getElem? (i := 4) rfl)))) (by decide +kernel)) gg_x_pair_tupleOf
set_option maxHeartbeats 40000000 in
set_option maxRecDepth 100000 in
theorem c_x_pair (l : Launch) (dC : Nat → ClassId) (dI : Nat → Nat → Nat) (cy : Nat → ClassId) (a : Nat → Nat) (k0 : Nat) (L0 : Nat → Int32) (σ0 : MS) (r0 : Int32 × MS) (h0 : x_pair k0 0 L0 σ0 = some r0) (sz : Nat) : Met l yX12_pair w_x_pair ({ frames := 4, cells := 0, slots := 0, locals := 92 }) (va_Pc [.ref (a 0), .int (L0 1), .int (L0 2)] (nIn (dC, dI) cy sz (vM cy a σ0))) (va_Qi (fun (z : Int32) (_ : Unit) => z = r0.1) (fun _ t => nOut (dC, dI) cy (va_A (vM cy a σ0) sz) (vM cy a r0.2) t) (va_A (vM cy a σ0) sz)) 0 0 (va_A (vM cy a σ0) sz) := by
  refine Met.ofW (cc := cX12_pair) (maxL := 4) (ret := (some .int)) (by decide) rfl ?_
  intro p e s m args below meth c s₁ B hml hv
  obtain ⟨rfl, hsz, hP, hK, hD0, hG⟩ := hv
  have hx := B.exec
  have hb := B.bytes
  have hr := B.returns
  have hts := atoms_spec (ws := w_x_pair) B.pre
  have hown : s.vm.findClass RX12 = some m.cls := findClass_of_methodNamed B.named
  have hlocks := B.notSynchronized
  subst hsz
  have hD := hD0.self (sz := s.heap.size)
  generalize hAe : va_A (vM cy a σ0) s.heap.size = A at hD ⊢
  have hA : ∀ q : Nat, s.heap.size ≤ q → A q := fun q h => by rw [← hAe]; exact Or.inr h
  have hS : va_S A s.heap s.heap [] := va_S.rf
  have hl := lv_entry ([.ref (a 0), .int (L0 1), .int (L0 2)]) (n := 4) (Nat.le_of_ble_eq_true rfl)
  rw [lg_entry_eq]
  generalize (lg_sl ([.ref (a 0), .int (L0 1), .int (L0 2)]) ++ List.replicate (4 - (lg_sl ([.ref (a 0), .int (L0 1), .int (L0 2)])).length) Slot.unset).toArray = ls at hl ⊢
  have hl : lv_has ls 4 [(0, .ref (a 0)), (1, .int (L0 1)), (2, .int (L0 2))] := hl
  have blk : ∀ k : Nat, (∀ (L : Nat → Int32) (σ : MS) (r : Int32 × MS), x_pair k 0 L σ = some r → ∀ (H : Heap) (locs : List Loc) (ls : Array Slot), va_P (dC, dI) nCl (vM cy a σ) H → va_D A (vM cy a σ) → va_S A s.heap H locs → lv_has ls 4 [(0, .ref (a 0)), (1, .int (L 1)), (2, .int (L 2))] → W p l e (headSpec w_x_pair ({ frames := 4, cells := 0, slots := 0, locals := 92 })).room s m #[.ref (a 0), .int (L0 1), .int (L0 2)] below meth c H locs 0 0 (MQ below (va_Qi (fun (z : Int32) (_ : Unit) => z = r.1) (fun _ t => nOut (dC, dI) cy A (vM cy a r.2) t) A) #[.ref (a 0), .int (L0 1), .int (L0 2)] s 0 0 A) (F0 m 0 ls [])) := by
    intro k
    induction k with
    | zero => exact fun L σ r h => (by cases h)
    | succ k ih =>
      skip
      · intro L σ r h H locs ls hP hD hS hl
        rw [x_pair] at h
        refine lv_aload_n hx hb dX12_pair_0 rfl (lv_at hl 0 rfl) ?_
        refine va_get (D := (dC, dI)) (ci := 11) (v := .int (σ.1 59)) (C := RX12) (T := TX12) (N := 121) hx hb hts in_x_pair hown hK hP 0 rfl rfl 59 (by decide) (hts _ (List.mem_cons_of_mem _ (List.mem_append_left _ (List.mem_append_left _ (List.mem_of_getElem? (i := 0) rfl))))) (fun _ h9 => h9) rfl dX12_pair_1 ?_
        refine lv_istore_n (lv' := [(3, .int (σ.1 59)), (0, .ref (a 0)), (1, .int (L 1)), (2, .int (L 2))]) hx hb dX12_pair_4 rfl hl (by decide) rfl (fun ls hl => ?_)
        refine lv_aload_n hx hb dX12_pair_5 rfl (lv_at hl 1 rfl) ?_
        refine lv_iload_n hx hb dX12_pair_6 rfl (lv_at hl 2 rfl) ?_
        cases hc1 : x_push k 0 (upd (fun _ => 0) 1 ((L 1))) σ with
        | none => rw [hc1, ob_none] at h; cases h
        | some r1 =>
          rw [hc1, ob_some] at h
          have hFc := va_free (wc := vM cy a σ) hD hS hA [0, 1, 2, 3, 4, 5, 6, 7, 8, 9, 10, 11, 12, 13, 14, 15, 16, 17, 18, 19, 20, 21, 22, 23, 24, 25, 26, 27, 28, 29, 30, 31, 32, 33, 34, 35, 36, 37, 38, 39, 40, 41, 42, 43, 44, 45, 46, 47, 48, 49, 50, 51, 52, 53, 54, 55, 56, 57] rfl
          refine va_callv (va_runV (As := [.int (L 1)]) (rest := []) ⟨hx, hb, hml, hown, hts⟩ (c_x_push l dC dI cy a k (upd (fun _ => 0) 1 ((L 1))) σ r1 hc1 H.size) (cwV 1 hts g_x_pair_push_594 rfl rfl rfl (by decide +kernel) ⟨Nat.le_of_ble_eq_true rfl, Nat.le_of_ble_eq_true rfl⟩) ⟨nb_blind, va_recv hK hP (ci := 11) (q0 := 0) rfl rfl, fun U hU hW => ⟨rfl, by rw [hU], by rw [hU]; exact hP, va_K.moved hW.alike hK, hD.weaken (fun _ _ _ _ => trivial), hG.warm hW⟩⟩ rfl rfl hl.1 rfl (lv_room (Nat.le_of_ble_eq_true rfl)) dX12_pair_7 ⟨Nat.le_of_ble_eq_true rfl, Nat.le_of_ble_eq_true rfl⟩) hS (fun q _ h => hFc q h) hFc (fun _ t H1 locs ht hvm hw hB hz1 hk1 hS => ?_)
          obtain ⟨hP1, hK1, hD1⟩ := hB
          rw [ht] at hP1
          obtain ⟨hP, hD⟩ := va_join (wr := []) (w1 := vM cy a r1.2) hP hD [0, 1, 2, 3, 4, 5, 6, 7, 8, 9, 10, 11, 12, 13, 14, 15, 16, 17, 18, 19, 20, 21, 22, 23, 24, 25, 26, 27, 28, 29, 30, 31, 32, 33, 34, 35, 36, 37, 38, 39, 40, 41, 42, 43, 44, 45, 46, 47, 48, 49, 50, 51, 52, 53, 54, 55, 56, 57] [] rfl rfl (by decide) (by decide) hk1 hFc hP1 hD1
          generalize H1 = H at hP hS ⊢
          have hP : va_P (dC, dI) nCl (vM cy a r1.2) H := hP
          have hD : va_D A (vM cy a r1.2) := hD
          refine lv_aload_n hx hb dX12_pair_10 rfl (lv_at hl 1 rfl) ?_
          refine lv_iload_n hx hb dX12_pair_11 rfl (lv_at hl 3 rfl) ?_
          cases hc2 : x_push k 0 (upd (fun _ => 0) 1 ((L 2))) r1.2 with
          | none => rw [hc2, ob_none] at h; cases h
          | some r2 =>
            rw [hc2, ob_some] at h
            have hFc := va_free (wc := vM cy a r1.2) hD hS hA [0, 1, 2, 3, 4, 5, 6, 7, 8, 9, 10, 11, 12, 13, 14, 15, 16, 17, 18, 19, 20, 21, 22, 23, 24, 25, 26, 27, 28, 29, 30, 31, 32, 33, 34, 35, 36, 37, 38, 39, 40, 41, 42, 43, 44, 45, 46, 47, 48, 49, 50, 51, 52, 53, 54, 55, 56, 57] rfl
            refine va_callv (va_runV (As := [.int (L 2)]) (rest := []) ⟨hx, hb, hml, hown, hts⟩ (c_x_push l dC dI cy a k (upd (fun _ => 0) 1 ((L 2))) r1.2 r2 hc2 H.size) (cwV 1 hts g_x_pair_push_594 rfl rfl rfl (by decide +kernel) ⟨Nat.le_of_ble_eq_true rfl, Nat.le_of_ble_eq_true rfl⟩) ⟨nb_blind, va_recv hK hP (ci := 11) (q0 := 0) rfl rfl, fun U hU hW => ⟨rfl, by rw [hU], by rw [hU]; exact hP, va_K.moved hW.alike hK, hD.weaken (fun _ _ _ _ => trivial), hG.warm hW⟩⟩ rfl rfl hl.1 rfl (lv_room (Nat.le_of_ble_eq_true rfl)) dX12_pair_12 ⟨Nat.le_of_ble_eq_true rfl, Nat.le_of_ble_eq_true rfl⟩) hS (fun q _ h => hFc q h) hFc (fun _ t H1 locs ht hvm hw hB hz1 hk1 hS => ?_)
            obtain ⟨hP1, hK1, hD1⟩ := hB
            rw [ht] at hP1
            obtain ⟨hP, hD⟩ := va_join (wr := []) (w1 := vM cy a r2.2) hP hD [0, 1, 2, 3, 4, 5, 6, 7, 8, 9, 10, 11, 12, 13, 14, 15, 16, 17, 18, 19, 20, 21, 22, 23, 24, 25, 26, 27, 28, 29, 30, 31, 32, 33, 34, 35, 36, 37, 38, 39, 40, 41, 42, 43, 44, 45, 46, 47, 48, 49, 50, 51, 52, 53, 54, 55, 56, 57] [] rfl rfl (by decide) (by decide) hk1 hFc hP1 hD1
            generalize H1 = H at hP hS ⊢
            have hP : va_P (dC, dI) nCl (vM cy a r2.2) H := hP
            have hD : va_D A (vM cy a r2.2) := hD
            refine lv_aload_n hx hb dX12_pair_15 rfl (lv_at hl 1 rfl) ?_
            refine lv_iload_n hx hb dX12_pair_16 rfl (lv_at hl 0 rfl) ?_
            cases hc3 : x_tupleOf k 0 (upd (fun _ => 0) 1 ((σ.1 59))) r2.2 with
            | none => rw [hc3, ob_none] at h; cases h
            | some r3 =>
              rw [hc3, ob_some] at h
              have hFc := va_free (wc := vM cy a r2.2) hD hS hA [0, 1, 2, 3, 4, 5, 6, 7, 8, 9, 10, 11, 12, 13, 14, 15, 16, 17, 18, 19, 20, 21, 22, 23, 24, 25, 26, 27, 28, 29, 30, 31, 32, 33, 34, 35, 36, 37, 38, 39, 40, 41, 42, 43, 44, 45, 46, 47, 48, 49, 50, 51, 52, 53, 54, 55, 56, 57] rfl
              refine va_calli (va_runV (As := [.int (σ.1 59)]) (rest := []) ⟨hx, hb, hml, hown, hts⟩ (c_x_tupleOf l dC dI cy a k (upd (fun _ => 0) 1 ((σ.1 59))) r2.2 r3 hc3 H.size) (cwV 1 hts g_x_pair_tupleOf_675 rfl rfl rfl (by decide +kernel) ⟨Nat.le_of_ble_eq_true rfl, Nat.le_of_ble_eq_true rfl⟩) ⟨nb_blind, va_recv hK hP (ci := 11) (q0 := 0) rfl rfl, fun U hU hW => ⟨rfl, by rw [hU], by rw [hU]; exact hP, va_K.moved hW.alike hK, hD.weaken (fun _ _ _ _ => trivial), hG.warm hW⟩⟩ rfl rfl hl.1 rfl (lv_room (Nat.le_of_ble_eq_true rfl)) dX12_pair_17 ⟨Nat.le_of_ble_eq_true rfl, Nat.le_of_ble_eq_true rfl⟩) hS (fun q _ h => hFc q h) hFc (fun z9 _ t H1 locs ht hvm hw hB hz1 hk1 hS => ?_)
              subst hw
              obtain ⟨hP1, hK1, hD1⟩ := hB
              rw [ht] at hP1
              obtain ⟨hP, hD⟩ := va_join (wr := []) (w1 := vM cy a r3.2) hP hD [0, 1, 2, 3, 4, 5, 6, 7, 8, 9, 10, 11, 12, 13, 14, 15, 16, 17, 18, 19, 20, 21, 22, 23, 24, 25, 26, 27, 28, 29, 30, 31, 32, 33, 34, 35, 36, 37, 38, 39, 40, 41, 42, 43, 44, 45, 46, 47, 48, 49, 50, 51, 52, 53, 54, 55, 56, 57] [] rfl rfl (by decide) (by decide) hk1 hFc hP1 hD1
              generalize H1 = H at hP hS ⊢
              have hP : va_P (dC, dI) nCl (vM cy a r3.2) H := hP
              have hD : va_D A (vM cy a r3.2) := hD
              cases h
              exact W.iret (v := r3.1) hx hb hr (fun t ht hW => ⟨⟨r3.1, (), rfl, rfl, by rw [ht]; exact hP, va_K.moved hW.alike hK, hD⟩, hS.F ht⟩) hS.2.2 dX12_pair_20
  exact (blk k0) L0 σ0 r0 h0 s.heap [] ls hP hD hS hl
/-! putPlace -/
def x_putPlace : Nat → Nat → (Nat → Int32) → MS → Option (Int32 × MS)
  | 0, _, _, _ => none
  | k + 1, 0, L, σ => if ¬ (((((L 1)) + 1)) < 0 ∨ 1740000 ≤ ((((L 1)) + 1)).toNatClampNeg) then (if ((L 2)) ≤ ((σ.2.2 28 ((((L 1)) + 1)).toNatClampNeg)) then (x_putPlace k 1 (upd L 4 ((σ.2.2 28 ((((L 1)) + 1)).toNatClampNeg))) σ) else (if ((L 3)) = 0 then (some ((L 1), σ)) else (x_putPlace k 1 (upd L 4 ((σ.2.2 28 ((((L 1)) + 1)).toNatClampNeg))) σ))) else none
  | k + 1, 1, L, σ => if ((L 2)) ≤ 2000 then (x_putPlace k 2 L σ) else (ob (x_fail k 0 (upd (fun _ => 0) 1 5) σ) (fun r2 => some (0, r2.2)))
  | k + 1, 2, L, σ => x_putPlace k 3 (upd (upd L 5 ((σ.1 59))) 6 1) σ
  | k + 1, 3, L, σ => if ((L 6)) ≤ ((L 4)) then (x_putPlace k 4 L σ) else (if ((L 2)) < ((L 6)) then (x_putPlace k 8 L σ) else (x_putPlace k 4 L σ))
  | k + 1, 4, L, σ => if ((L 6)) = ((L 2)) then (x_putPlace k 7 (upd L 100 ((L 3))) σ) else (x_putPlace k 5 L σ)
  | k + 1, 5, L, σ => if ((L 4)) < ((L 6)) then (x_putPlace k 6 L σ) else (if ¬ (((((((L 1)) + 3)) + ((L 6)))) < 0 ∨ 1740000 ≤ ((((((L 1)) + 3)) + ((L 6)))).toNatClampNeg) then (x_putPlace k 7 (upd L 100 ((σ.2.2 28 ((((((L 1)) + 3)) + ((L 6)))).toNatClampNeg))) σ) else none)
  | k + 1, 6, L, σ => x_putPlace k 7 (upd L 100 0) σ
  | k + 1, 7, L, σ => ob (x_push k 0 (upd (fun _ => 0) 1 ((L 100))) σ) (fun r1 => x_putPlace k 3 (upd L 6 (((L 6)) + 1)) r1.2)
  | k + 1, 8, L, σ => ob (x_tupleOf k 0 (upd (fun _ => 0) 1 ((L 5))) σ) (fun r1 => some (r1.1, r1.2))
  | _ + 1, _ + 9, _, _ => none
def o_x_putPlace : List Cond := [.fieldLink RX12 372 "SetHouseModel" "heap" "[I", .methodLink RX12 369 yX12_fail, .instanceMethod yX12_fail, .selects RX12 yX12_fail yX12_fail, .initialized RX12, .fieldLink RX12 385 "SetHouseModel" "top" "I", .methodLink RX12 594 yX12_push, .instanceMethod yX12_push, .selects RX12 yX12_push yX12_push, .methodLink RX12 675 yX12_tupleOf, .instanceMethod yX12_tupleOf, .selects RX12 yX12_tupleOf yX12_tupleOf]
theorem o_x_putPlace_good : o_x_putPlace.all goodWord = true := by decide +kernel
def p_x_putPlace : List Cond := o_x_putPlace ++ ((.code yX12_fail cX12_fail 2 none :: p_x_fail) ++ ((.code yX12_push cX12_push 2 none :: p_x_push) ++ ((.code yX12_tupleOf cX12_tupleOf 5 (some .int) :: p_x_tupleOf) ++ [])))
theorem p_x_putPlace_good : p_x_putPlace.all goodWord = true := nb_all2 o_x_putPlace_good (nb_all2 (nb_allc (by decide +kernel) p_x_fail_good) (nb_all2 (nb_allc (by decide +kernel) p_x_push_good) (nb_all2 (nb_allc (by decide +kernel) p_x_tupleOf_good) rfl)))
def w_x_putPlace : List Cond := .code yX12_putPlace cX12_putPlace 7 (some .int) :: (p_x_putPlace ++ fM)
theorem w_x_putPlace_good : w_x_putPlace.all goodWord = true := nb_allc (by decide +kernel) (nb_all2 p_x_putPlace_good fM_good)
theorem in_x_putPlace : ∀ w ∈ wsX120, w ∈ w_x_putPlace := fun _ h => List.mem_cons_of_mem _ (List.mem_append_right _ h)
theorem gg_x_putPlace_fail : GoodIn w_x_putPlace w_x_fail := goodIn_sub (fun w h => (List.mem_cons.mp h).elim (fun e => (List.mem_cons_of_mem _ (List.mem_append_left _ (List.mem_append_right _ (List.mem_append_left _ (List.mem_cons.mpr (Or.inl e))))))) (fun h => (List.mem_append.mp h).elim (fun h => (List.mem_cons_of_mem _ (List.mem_append_left _ (List.mem_append_right _ (List.mem_append_left _ (List.mem_cons_of_mem _ h)))))) (fun h => List.mem_cons_of_mem _ (List.mem_append_right _ h)))) w_x_fail_good
theorem gg_x_putPlace_push : GoodIn w_x_putPlace w_x_push := goodIn_sub (fun w h => (List.mem_cons.mp h).elim (fun e => (List.mem_cons_of_mem _ (List.mem_append_left _ (List.mem_append_right _ (List.mem_append_right _ (List.mem_append_left _ (List.mem_cons.mpr (Or.inl e)))))))) (fun h => (List.mem_append.mp h).elim (fun h => (List.mem_cons_of_mem _ (List.mem_append_left _ (List.mem_append_right _ (List.mem_append_right _ (List.mem_append_left _ (List.mem_cons_of_mem _ h))))))) (fun h => List.mem_cons_of_mem _ (List.mem_append_right _ h)))) w_x_push_good
theorem gg_x_putPlace_tupleOf : GoodIn w_x_putPlace w_x_tupleOf := goodIn_sub (fun w h => (List.mem_cons.mp h).elim (fun e => (List.mem_cons_of_mem _ (List.mem_append_left _ (List.mem_append_right _ (List.mem_append_right _ (List.mem_append_right _ (List.mem_append_left _ (List.mem_cons.mpr (Or.inl e))))))))) (fun h => (List.mem_append.mp h).elim (fun h => (List.mem_cons_of_mem _ (List.mem_append_left _ (List.mem_append_right _ (List.mem_append_right _ (List.mem_append_right _ (List.mem_append_left _ (List.mem_cons_of_mem _ h)))))))) (fun h => List.mem_cons_of_mem _ (List.mem_append_right _ h)))) w_x_tupleOf_good
theorem g_x_putPlace_fail_369 : GoodIn w_x_putPlace (wsV RX12 369 RX12 yX12_fail w_x_fail) := goodIn_app (nb_g4 (List.mem_cons_of_mem _ (List.mem_append_left _ (List.mem_append_left _ (List.mem_of_getElem? (i := 1) rfl)))) (List.mem_cons_of_mem _ (List.mem_append_left _ (List.mem_append_left _ (List.mem_of_getElem? (i := 2) rfl)))) (List.mem_cons_of_mem _ (List.mem_append_left _ (List.mem_append_left _ (List.mem_of_getElem? (i := 3) rfl)))) (List.mem_cons_of_mem _ (List.mem_append_left _ (List.mem_append_left _ (List.mem_of_getElem? (i := 4) rfl)))) (by decide +kernel)) gg_x_putPlace_fail
theorem g_x_putPlace_push_594 : GoodIn w_x_putPlace (wsV RX12 594 RX12 yX12_push w_x_push) := goodIn_app (nb_g4 (List.mem_cons_of_mem _ (List.mem_append_left _ (List.mem_append_left _ (List.mem_of_getElem? (i := 6) rfl)))) (List.mem_cons_of_mem _ (List.mem_append_left _ (List.mem_append_left _ (List.mem_of_getElem? (i := 7) rfl)))) (List.mem_cons_of_mem _ (List.mem_append_left _ (List.mem_append_left _ (List.mem_of_getElem? (i := 8) rfl)))) (List.mem_cons_of_mem _ (List.mem_append_left _ (List.mem_append_left _ (List.mem_of_getElem? (i := 4) rfl)))) (by decide +kernel)) gg_x_putPlace_push
theorem g_x_putPlace_tupleOf_675 : GoodIn w_x_putPlace (wsV RX12 675 RX12 yX12_tupleOf w_x_tupleOf) := goodIn_app (nb_g4 (List.mem_cons_of_mem _ (List.mem_append_left _ (List.mem_append_left _ (List.mem_of_getElem? (i := 9) rfl)))) (List.mem_cons_of_mem _ (List.mem_append_left _ (List.mem_append_left _ (List.mem_of_getElem? (i := 10) rfl)))) (List.mem_cons_of_mem _ (List.mem_append_left _ (List.mem_append_left _ (List.mem_of_getElem? (i := 11) rfl)))) (List.mem_cons_of_mem _ (List.mem_append_left _ (List.mem_append_left _ (List.mem_of_getElem? (i := 4) rfl)))) (by decide +kernel)) gg_x_putPlace_tupleOf
set_option maxHeartbeats 40000000 in
set_option maxRecDepth 100000 in
theorem c_x_putPlace (l : Launch) (dC : Nat → ClassId) (dI : Nat → Nat → Nat) (cy : Nat → ClassId) (a : Nat → Nat) (k0 : Nat) (L0 : Nat → Int32) (σ0 : MS) (r0 : Int32 × MS) (h0 : x_putPlace k0 0 L0 σ0 = some r0) (sz : Nat) : Met l yX12_putPlace w_x_putPlace ({ frames := 4, cells := 0, slots := 0, locals := 92 }) (va_Pc [.ref (a 0), .int (L0 1), .int (L0 2), .int (L0 3)] (nIn (dC, dI) cy sz (vM cy a σ0))) (va_Qi (fun (z : Int32) (_ : Unit) => z = r0.1) (fun _ t => nOut (dC, dI) cy (va_A (vM cy a σ0) sz) (vM cy a r0.2) t) (va_A (vM cy a σ0) sz)) 0 0 (va_A (vM cy a σ0) sz) := by
  refine Met.ofW (cc := cX12_putPlace) (maxL := 7) (ret := (some .int)) (by decide) rfl ?_
  intro p e s m args below meth c s₁ B hml hv
  obtain ⟨rfl, hsz, hP, hK, hD0, hG⟩ := hv
  have hx := B.exec
  have hb := B.bytes
  have hr := B.returns
  have hts := atoms_spec (ws := w_x_putPlace) B.pre
  have hown : s.vm.findClass RX12 = some m.cls := findClass_of_methodNamed B.named
  have hlocks := B.notSynchronized
  subst hsz
  have hD := hD0.self (sz := s.heap.size)
  generalize hAe : va_A (vM cy a σ0) s.heap.size = A at hD ⊢
  have hA : ∀ q : Nat, s.heap.size ≤ q → A q := fun q h => by rw [← hAe]; exact Or.inr h
  have hS : va_S A s.heap s.heap [] := va_S.rf
  have hl := lv_entry ([.ref (a 0), .int (L0 1), .int (L0 2), .int (L0 3)]) (n := 7) (Nat.le_of_ble_eq_true rfl)
  rw [lg_entry_eq]
  generalize (lg_sl ([.ref (a 0), .int (L0 1), .int (L0 2), .int (L0 3)]) ++ List.replicate (7 - (lg_sl ([.ref (a 0), .int (L0 1), .int (L0 2), .int (L0 3)])).length) Slot.unset).toArray = ls at hl ⊢
  have hl : lv_has ls 7 [(0, .ref (a 0)), (1, .int (L0 1)), (2, .int (L0 2)), (3, .int (L0 3))] := hl
  have blk : ∀ k : Nat, (∀ (L : Nat → Int32) (σ : MS) (r : Int32 × MS), x_putPlace k 0 L σ = some r → ∀ (H : Heap) (locs : List Loc) (ls : Array Slot), va_P (dC, dI) nCl (vM cy a σ) H → va_D A (vM cy a σ) → va_S A s.heap H locs → lv_has ls 7 [(0, .ref (a 0)), (1, .int (L 1)), (2, .int (L 2)), (3, .int (L 3))] → W p l e (headSpec w_x_putPlace ({ frames := 4, cells := 0, slots := 0, locals := 92 })).room s m #[.ref (a 0), .int (L0 1), .int (L0 2), .int (L0 3)] below meth c H locs 0 0 (MQ below (va_Qi (fun (z : Int32) (_ : Unit) => z = r.1) (fun _ t => nOut (dC, dI) cy A (vM cy a r.2) t) A) #[.ref (a 0), .int (L0 1), .int (L0 2), .int (L0 3)] s 0 0 A) (F0 m 0 ls [])) ∧ (∀ (L : Nat → Int32) (σ : MS) (r : Int32 × MS), x_putPlace k 1 L σ = some r → ∀ (H : Heap) (locs : List Loc) (ls : Array Slot), va_P (dC, dI) nCl (vM cy a σ) H → va_D A (vM cy a σ) → va_S A s.heap H locs → lv_has ls 7 [(0, .ref (a 0)), (1, .int (L 1)), (2, .int (L 2)), (3, .int (L 3)), (4, .int (L 4))] → W p l e (headSpec w_x_putPlace ({ frames := 4, cells := 0, slots := 0, locals := 92 })).room s m #[.ref (a 0), .int (L0 1), .int (L0 2), .int (L0 3)] below meth c H locs 0 0 (MQ below (va_Qi (fun (z : Int32) (_ : Unit) => z = r.1) (fun _ t => nOut (dC, dI) cy A (vM cy a r.2) t) A) #[.ref (a 0), .int (L0 1), .int (L0 2), .int (L0 3)] s 0 0 A) (F0 m 22 ls [])) ∧ (∀ (L : Nat → Int32) (σ : MS) (r : Int32 × MS), x_putPlace k 2 L σ = some r → ∀ (H : Heap) (locs : List Loc) (ls : Array Slot), va_P (dC, dI) nCl (vM cy a σ) H → va_D A (vM cy a σ) → va_S A s.heap H locs → lv_has ls 7 [(0, .ref (a 0)), (1, .int (L 1)), (2, .int (L 2)), (3, .int (L 3)), (4, .int (L 4))] → W p l e (headSpec w_x_putPlace ({ frames := 4, cells := 0, slots := 0, locals := 92 })).room s m #[.ref (a 0), .int (L0 1), .int (L0 2), .int (L0 3)] below meth c H locs 0 0 (MQ below (va_Qi (fun (z : Int32) (_ : Unit) => z = r.1) (fun _ t => nOut (dC, dI) cy A (vM cy a r.2) t) A) #[.ref (a 0), .int (L0 1), .int (L0 2), .int (L0 3)] s 0 0 A) (F0 m 36 ls [])) ∧ (∀ (L : Nat → Int32) (σ : MS) (r : Int32 × MS), x_putPlace k 3 L σ = some r → ∀ (H : Heap) (locs : List Loc) (ls : Array Slot), va_P (dC, dI) nCl (vM cy a σ) H → va_D A (vM cy a σ) → va_S A s.heap H locs → lv_has ls 7 [(0, .ref (a 0)), (1, .int (L 1)), (2, .int (L 2)), (3, .int (L 3)), (4, .int (L 4)), (5, .int (L 5)), (6, .int (L 6))] → W p l e (headSpec w_x_putPlace ({ frames := 4, cells := 0, slots := 0, locals := 92 })).room s m #[.ref (a 0), .int (L0 1), .int (L0 2), .int (L0 3)] below meth c H locs 0 0 (MQ below (va_Qi (fun (z : Int32) (_ : Unit) => z = r.1) (fun _ t => nOut (dC, dI) cy A (vM cy a r.2) t) A) #[.ref (a 0), .int (L0 1), .int (L0 2), .int (L0 3)] s 0 0 A) (F0 m 45 ls [])) ∧ (∀ (L : Nat → Int32) (σ : MS) (r : Int32 × MS), x_putPlace k 4 L σ = some r → ∀ (H : Heap) (locs : List Loc) (ls : Array Slot), va_P (dC, dI) nCl (vM cy a σ) H → va_D A (vM cy a σ) → va_S A s.heap H locs → lv_has ls 7 [(0, .ref (a 0)), (1, .int (L 1)), (2, .int (L 2)), (3, .int (L 3)), (4, .int (L 4)), (5, .int (L 5)), (6, .int (L 6))] → W p l e (headSpec w_x_putPlace ({ frames := 4, cells := 0, slots := 0, locals := 92 })).room s m #[.ref (a 0), .int (L0 1), .int (L0 2), .int (L0 3)] below meth c H locs 0 0 (MQ below (va_Qi (fun (z : Int32) (_ : Unit) => z = r.1) (fun _ t => nOut (dC, dI) cy A (vM cy a r.2) t) A) #[.ref (a 0), .int (L0 1), .int (L0 2), .int (L0 3)] s 0 0 A) (F0 m 58 ls [])) ∧ (∀ (L : Nat → Int32) (σ : MS) (r : Int32 × MS), x_putPlace k 5 L σ = some r → ∀ (H : Heap) (locs : List Loc) (ls : Array Slot), va_P (dC, dI) nCl (vM cy a σ) H → va_D A (vM cy a σ) → va_S A s.heap H locs → lv_has ls 7 [(0, .ref (a 0)), (1, .int (L 1)), (2, .int (L 2)), (3, .int (L 3)), (4, .int (L 4)), (5, .int (L 5)), (6, .int (L 6))] → W p l e (headSpec w_x_putPlace ({ frames := 4, cells := 0, slots := 0, locals := 92 })).room s m #[.ref (a 0), .int (L0 1), .int (L0 2), .int (L0 3)] below meth c H locs 0 0 (MQ below (va_Qi (fun (z : Int32) (_ : Unit) => z = r.1) (fun _ t => nOut (dC, dI) cy A (vM cy a r.2) t) A) #[.ref (a 0), .int (L0 1), .int (L0 2), .int (L0 3)] s 0 0 A) (F0 m 69 ls [.ref (a 0)])) ∧ (∀ (L : Nat → Int32) (σ : MS) (r : Int32 × MS), x_putPlace k 6 L σ = some r → ∀ (H : Heap) (locs : List Loc) (ls : Array Slot), va_P (dC, dI) nCl (vM cy a σ) H → va_D A (vM cy a σ) → va_S A s.heap H locs → lv_has ls 7 [(0, .ref (a 0)), (1, .int (L 1)), (2, .int (L 2)), (3, .int (L 3)), (4, .int (L 4)), (5, .int (L 5)), (6, .int (L 6))] → W p l e (headSpec w_x_putPlace ({ frames := 4, cells := 0, slots := 0, locals := 92 })).room s m #[.ref (a 0), .int (L0 1), .int (L0 2), .int (L0 3)] below meth c H locs 0 0 (MQ below (va_Qi (fun (z : Int32) (_ : Unit) => z = r.1) (fun _ t => nOut (dC, dI) cy A (vM cy a r.2) t) A) #[.ref (a 0), .int (L0 1), .int (L0 2), .int (L0 3)] s 0 0 A) (F0 m 90 ls [.ref (a 0)])) ∧ (∀ (L : Nat → Int32) (σ : MS) (r : Int32 × MS), x_putPlace k 7 L σ = some r → ∀ (H : Heap) (locs : List Loc) (ls : Array Slot), va_P (dC, dI) nCl (vM cy a σ) H → va_D A (vM cy a σ) → va_S A s.heap H locs → lv_has ls 7 [(0, .ref (a 0)), (1, .int (L 1)), (2, .int (L 2)), (3, .int (L 3)), (4, .int (L 4)), (5, .int (L 5)), (6, .int (L 6))] → W p l e (headSpec w_x_putPlace ({ frames := 4, cells := 0, slots := 0, locals := 92 })).room s m #[.ref (a 0), .int (L0 1), .int (L0 2), .int (L0 3)] below meth c H locs 0 0 (MQ below (va_Qi (fun (z : Int32) (_ : Unit) => z = r.1) (fun _ t => nOut (dC, dI) cy A (vM cy a r.2) t) A) #[.ref (a 0), .int (L0 1), .int (L0 2), .int (L0 3)] s 0 0 A) (F0 m 91 ls [.int (L 100), .ref (a 0)])) ∧ (∀ (L : Nat → Int32) (σ : MS) (r : Int32 × MS), x_putPlace k 8 L σ = some r → ∀ (H : Heap) (locs : List Loc) (ls : Array Slot), va_P (dC, dI) nCl (vM cy a σ) H → va_D A (vM cy a σ) → va_S A s.heap H locs → lv_has ls 7 [(0, .ref (a 0)), (1, .int (L 1)), (2, .int (L 2)), (3, .int (L 3)), (4, .int (L 4)), (5, .int (L 5)), (6, .int (L 6))] → W p l e (headSpec w_x_putPlace ({ frames := 4, cells := 0, slots := 0, locals := 92 })).room s m #[.ref (a 0), .int (L0 1), .int (L0 2), .int (L0 3)] below meth c H locs 0 0 (MQ below (va_Qi (fun (z : Int32) (_ : Unit) => z = r.1) (fun _ t => nOut (dC, dI) cy A (vM cy a r.2) t) A) #[.ref (a 0), .int (L0 1), .int (L0 2), .int (L0 3)] s 0 0 A) (F0 m 100 ls [])) := by
    intro k
    induction k with
    | zero => exact ⟨fun L σ r h => (by cases h), fun L σ r h => (by cases h), fun L σ r h => (by cases h), fun L σ r h => (by cases h), fun L σ r h => (by cases h), fun L σ r h => (by cases h), fun L σ r h => (by cases h), fun L σ r h => (by cases h), fun L σ r h => (by cases h)⟩
    | succ k ih =>
      refine ⟨?_, ?_, ?_, ?_, ?_, ?_, ?_, ?_, ?_⟩
      · intro L σ r h H locs ls hP hD hS hl
        rw [x_putPlace] at h
        refine lv_aload_n hx hb dX12_putPlace_0 rfl (lv_at hl 0 rfl) ?_
        refine va_get (D := (dC, dI)) (ci := 11) (v := .ref (a 28)) (C := RX12) (T := TX12) (N := 121) hx hb hts in_x_putPlace hown hK hP 0 rfl rfl 53 (by decide) (hts _ (List.mem_cons_of_mem _ (List.mem_append_left _ (List.mem_append_left _ (List.mem_of_getElem? (i := 0) rfl))))) (fun _ h9 => h9) rfl dX12_putPlace_1 ?_
        refine lv_iload_n hx hb dX12_putPlace_4 rfl (lv_at hl 1 rfl) ?_
        refine lv_iconst (v := 1) hx hb dX12_putPlace_5 (by decide) ?_
        refine lv_iadd hx hb dX12_putPlace_6 ?_
        by_cases q1 : ¬ (((((L 1)) + 1)) < 0 ∨ 1740000 ≤ ((((L 1)) + 1)).toNatClampNeg)
        · rw [if_pos q1] at h
          refine va_iald hx hb hK hP 28 1 rfl rfl (nb_inp q1) dX12_putPlace_7 ?_
          refine lv_istore (lv' := [(4, .int (σ.2.2 28 ((((L 1)) + 1)).toNatClampNeg)), (0, .ref (a 0)), (1, .int (L 1)), (2, .int (L 2)), (3, .int (L 3))]) hx hb dX12_putPlace_8 hl (by decide) rfl (fun ls hl => ?_)
          refine lv_iload_n hx hb dX12_putPlace_10 rfl (lv_at hl 3 rfl) ?_
          refine lv_iload hx hb dX12_putPlace_11 (lv_at hl 0 rfl) ?_
          refine lv_icmp_le (tgt := 22) hx hb dX12_putPlace_13 (by decide) (fun c2 => ?_) (fun c2 => ?_)
          · rw [if_pos c2] at h
            exact ih.2.1 (upd L 4 ((σ.2.2 28 ((((L 1)) + 1)).toNatClampNeg))) σ r h H locs ls hP hD hS (lv_sub hl [1, 2, 3, 4, 0] rfl)
          · rw [if_neg c2] at h
            refine lv_iload_n hx hb dX12_putPlace_16 rfl (lv_at hl 4 rfl) ?_
            refine lv_if_ne (tgt := 22) hx hb dX12_putPlace_17 (by decide) (fun c3 => ?_) (fun c3 => ?_)
            · rw [if_neg c3] at h
              exact ih.2.1 (upd L 4 ((σ.2.2 28 ((((L 1)) + 1)).toNatClampNeg))) σ r h H locs ls hP hD hS (lv_sub hl [1, 2, 3, 4, 0] rfl)
            · rw [if_pos c3] at h
              refine lv_iload_n hx hb dX12_putPlace_20 rfl (lv_at hl 2 rfl) ?_
              cases h
              exact W.iret (v := (L 1)) hx hb hr (fun t ht hW => ⟨⟨(L 1), (), rfl, rfl, by rw [ht]; exact hP, va_K.moved hW.alike hK, hD⟩, hS.F ht⟩) hS.2.2 dX12_putPlace_21
        · rw [if_neg q1] at h; cases h
      · intro L σ r h H locs ls hP hD hS hl
        rw [x_putPlace] at h
        refine lv_iload_n hx hb dX12_putPlace_22 rfl (lv_at hl 2 rfl) ?_
        refine lv_sipush (v := 2000) hx hb dX12_putPlace_23 (by decide) ?_
        refine lv_icmp_le (tgt := 36) hx hb dX12_putPlace_26 (by decide) (fun c1 => ?_) (fun c1 => ?_)
        · rw [if_pos c1] at h
          exact ih.2.2.1 L σ r h H locs ls hP hD hS (lv_sub hl [0, 1, 2, 3, 4] rfl)
        · rw [if_neg c1] at h
          refine lv_aload_n hx hb dX12_putPlace_29 rfl (lv_at hl 0 rfl) ?_
          refine lv_iconst (v := 5) hx hb dX12_putPlace_30 (by decide) ?_
          cases hc2 : x_fail k 0 (upd (fun _ => 0) 1 5) σ with
          | none => rw [hc2, ob_none] at h; cases h
          | some r2 =>
            rw [hc2, ob_some] at h
            have hFc := va_free (wc := vM cy a σ) hD hS hA [0, 1, 2, 3, 4, 5, 6, 7, 8, 9, 10, 11, 12, 13, 14, 15, 16, 17, 18, 19, 20, 21, 22, 23, 24, 25, 26, 27, 28, 29, 30, 31, 32, 33, 34, 35, 36, 37, 38, 39, 40, 41, 42, 43, 44, 45, 46, 47, 48, 49, 50, 51, 52, 53, 54, 55, 56, 57] rfl
            refine va_callv (va_runV (As := [.int 5]) (rest := []) ⟨hx, hb, hml, hown, hts⟩ (c_x_fail l dC dI cy a k (upd (fun _ => 0) 1 5) σ r2 hc2 H.size) (cwV 1 hts g_x_putPlace_fail_369 rfl rfl rfl (by decide +kernel) ⟨Nat.le_of_ble_eq_true rfl, Nat.le_of_ble_eq_true rfl⟩) ⟨nb_blind, va_recv hK hP (ci := 11) (q0 := 0) rfl rfl, fun U hU hW => ⟨rfl, by rw [hU], by rw [hU]; exact hP, va_K.moved hW.alike hK, hD.weaken (fun _ _ _ _ => trivial), hG.warm hW⟩⟩ rfl rfl hl.1 rfl (lv_room (Nat.le_of_ble_eq_true rfl)) dX12_putPlace_31 ⟨Nat.le_of_ble_eq_true rfl, Nat.le_of_ble_eq_true rfl⟩) hS (fun q _ h => hFc q h) hFc (fun _ t H1 locs ht hvm hw hB hz1 hk1 hS => ?_)
            obtain ⟨hP1, hK1, hD1⟩ := hB
            rw [ht] at hP1
            obtain ⟨hP, hD⟩ := va_join (wr := []) (w1 := vM cy a r2.2) hP hD [0, 1, 2, 3, 4, 5, 6, 7, 8, 9, 10, 11, 12, 13, 14, 15, 16, 17, 18, 19, 20, 21, 22, 23, 24, 25, 26, 27, 28, 29, 30, 31, 32, 33, 34, 35, 36, 37, 38, 39, 40, 41, 42, 43, 44, 45, 46, 47, 48, 49, 50, 51, 52, 53, 54, 55, 56, 57] [] rfl rfl (by decide) (by decide) hk1 hFc hP1 hD1
            generalize H1 = H at hP hS ⊢
            have hP : va_P (dC, dI) nCl (vM cy a r2.2) H := hP
            have hD : va_D A (vM cy a r2.2) := hD
            refine lv_iconst (v := 0) hx hb dX12_putPlace_34 (by decide) ?_
            cases h
            exact W.iret (v := 0) hx hb hr (fun t ht hW => ⟨⟨0, (), rfl, rfl, by rw [ht]; exact hP, va_K.moved hW.alike hK, hD⟩, hS.F ht⟩) hS.2.2 dX12_putPlace_35
      · intro L σ r h H locs ls hP hD hS hl
        rw [x_putPlace] at h
        refine lv_aload_n hx hb dX12_putPlace_36 rfl (lv_at hl 0 rfl) ?_
        refine va_get (D := (dC, dI)) (ci := 11) (v := .int (σ.1 59)) (C := RX12) (T := TX12) (N := 121) hx hb hts in_x_putPlace hown hK hP 0 rfl rfl 59 (by decide) (hts _ (List.mem_cons_of_mem _ (List.mem_append_left _ (List.mem_append_left _ (List.mem_of_getElem? (i := 5) rfl))))) (fun _ h9 => h9) rfl dX12_putPlace_37 ?_
        refine lv_istore (lv' := [(5, .int (σ.1 59)), (0, .ref (a 0)), (1, .int (L 1)), (2, .int (L 2)), (3, .int (L 3)), (4, .int (L 4))]) hx hb dX12_putPlace_40 hl (by decide) rfl (fun ls hl => ?_)
        refine lv_iconst (v := 1) hx hb dX12_putPlace_42 (by decide) ?_
        refine lv_istore (lv' := [(6, .int 1), (5, .int (σ.1 59)), (0, .ref (a 0)), (1, .int (L 1)), (2, .int (L 2)), (3, .int (L 3)), (4, .int (L 4))]) hx hb dX12_putPlace_43 hl (by decide) rfl (fun ls hl => ?_)
        exact ih.2.2.2.1 (upd (upd L 5 ((σ.1 59))) 6 1) σ r h H locs ls hP hD hS (lv_sub hl [2, 3, 4, 5, 6, 1, 0] rfl)
      · intro L σ r h H locs ls hP hD hS hl
        rw [x_putPlace] at h
        refine lv_iload hx hb dX12_putPlace_45 (lv_at hl 6 rfl) ?_
        refine lv_iload hx hb dX12_putPlace_47 (lv_at hl 4 rfl) ?_
        refine lv_icmp_le (tgt := 58) hx hb dX12_putPlace_49 (by decide) (fun c1 => ?_) (fun c1 => ?_)
        · rw [if_pos c1] at h
          exact ih.2.2.2.2.1 L σ r h H locs ls hP hD hS (lv_sub hl [0, 1, 2, 3, 4, 5, 6] rfl)
        · rw [if_neg c1] at h
          refine lv_iload hx hb dX12_putPlace_52 (lv_at hl 6 rfl) ?_
          refine lv_iload_n hx hb dX12_putPlace_54 rfl (lv_at hl 2 rfl) ?_
          refine lv_icmp_gt (tgt := 100) hx hb dX12_putPlace_55 (by decide) (fun c2 => ?_) (fun c2 => ?_)
          · rw [if_pos c2] at h
            exact ih.2.2.2.2.2.2.2.2 L σ r h H locs ls hP hD hS (lv_sub hl [0, 1, 2, 3, 4, 5, 6] rfl)
          · rw [if_neg c2] at h
            exact ih.2.2.2.2.1 L σ r h H locs ls hP hD hS (lv_sub hl [0, 1, 2, 3, 4, 5, 6] rfl)
      · intro L σ r h H locs ls hP hD hS hl
        rw [x_putPlace] at h
        refine lv_aload_n hx hb dX12_putPlace_58 rfl (lv_at hl 0 rfl) ?_
        refine lv_iload hx hb dX12_putPlace_59 (lv_at hl 6 rfl) ?_
        refine lv_iload_n hx hb dX12_putPlace_61 rfl (lv_at hl 2 rfl) ?_
        refine lv_icmp_ne (tgt := 69) hx hb dX12_putPlace_62 (by decide) (fun c1 => ?_) (fun c1 => ?_)
        · rw [if_neg c1] at h
          exact ih.2.2.2.2.2.1 L σ r h H locs ls hP hD hS (lv_sub hl [0, 1, 2, 3, 4, 5, 6] rfl)
        · rw [if_pos c1] at h
          refine lv_iload_n hx hb dX12_putPlace_65 rfl (lv_at hl 3 rfl) ?_
          refine lv_goto (tgt := 91) hx hb dX12_putPlace_66 (by decide) ?_
          exact ih.2.2.2.2.2.2.2.1 (upd L 100 ((L 3))) σ r h H locs ls hP hD hS (lv_sub hl [0, 1, 2, 3, 4, 5, 6] rfl)
      · intro L σ r h H locs ls hP hD hS hl
        rw [x_putPlace] at h
        refine lv_iload hx hb dX12_putPlace_69 (lv_at hl 6 rfl) ?_
        refine lv_iload hx hb dX12_putPlace_71 (lv_at hl 4 rfl) ?_
        refine lv_icmp_gt (tgt := 90) hx hb dX12_putPlace_73 (by decide) (fun c1 => ?_) (fun c1 => ?_)
        · rw [if_pos c1] at h
          exact ih.2.2.2.2.2.2.1 L σ r h H locs ls hP hD hS (lv_sub hl [0, 1, 2, 3, 4, 5, 6] rfl)
        · rw [if_neg c1] at h
          refine lv_aload_n hx hb dX12_putPlace_76 rfl (lv_at hl 0 rfl) ?_
          refine va_get (D := (dC, dI)) (ci := 11) (v := .ref (a 28)) (C := RX12) (T := TX12) (N := 121) hx hb hts in_x_putPlace hown hK hP 0 rfl rfl 53 (by decide) (hts _ (List.mem_cons_of_mem _ (List.mem_append_left _ (List.mem_append_left _ (List.mem_of_getElem? (i := 0) rfl))))) (fun _ h9 => h9) rfl dX12_putPlace_77 ?_
          refine lv_iload_n hx hb dX12_putPlace_80 rfl (lv_at hl 1 rfl) ?_
          refine lv_iconst (v := 3) hx hb dX12_putPlace_81 (by decide) ?_
          refine lv_iadd hx hb dX12_putPlace_82 ?_
          refine lv_iload hx hb dX12_putPlace_83 (lv_at hl 6 rfl) ?_
          refine lv_iadd hx hb dX12_putPlace_85 ?_
          by_cases q2 : ¬ (((((((L 1)) + 3)) + ((L 6)))) < 0 ∨ 1740000 ≤ ((((((L 1)) + 3)) + ((L 6)))).toNatClampNeg)
          · rw [if_pos q2] at h
            refine va_iald hx hb hK hP 28 1 rfl rfl (nb_inp q2) dX12_putPlace_86 ?_
            refine lv_goto (tgt := 91) hx hb dX12_putPlace_87 (by decide) ?_
            exact ih.2.2.2.2.2.2.2.1 (upd L 100 ((σ.2.2 28 ((((((L 1)) + 3)) + ((L 6)))).toNatClampNeg))) σ r h H locs ls hP hD hS (lv_sub hl [0, 1, 2, 3, 4, 5, 6] rfl)
          · rw [if_neg q2] at h; cases h
      · intro L σ r h H locs ls hP hD hS hl
        rw [x_putPlace] at h
        refine lv_iconst (v := 0) hx hb dX12_putPlace_90 (by decide) ?_
        exact ih.2.2.2.2.2.2.2.1 (upd L 100 0) σ r h H locs ls hP hD hS (lv_sub hl [0, 1, 2, 3, 4, 5, 6] rfl)
      · intro L σ r h H locs ls hP hD hS hl
        rw [x_putPlace] at h
        cases hc1 : x_push k 0 (upd (fun _ => 0) 1 ((L 100))) σ with
        | none => rw [hc1, ob_none] at h; cases h
        | some r1 =>
          rw [hc1, ob_some] at h
          have hFc := va_free (wc := vM cy a σ) hD hS hA [0, 1, 2, 3, 4, 5, 6, 7, 8, 9, 10, 11, 12, 13, 14, 15, 16, 17, 18, 19, 20, 21, 22, 23, 24, 25, 26, 27, 28, 29, 30, 31, 32, 33, 34, 35, 36, 37, 38, 39, 40, 41, 42, 43, 44, 45, 46, 47, 48, 49, 50, 51, 52, 53, 54, 55, 56, 57] rfl
          refine va_callv (va_runV (As := [.int (L 100)]) (rest := []) ⟨hx, hb, hml, hown, hts⟩ (c_x_push l dC dI cy a k (upd (fun _ => 0) 1 ((L 100))) σ r1 hc1 H.size) (cwV 1 hts g_x_putPlace_push_594 rfl rfl rfl (by decide +kernel) ⟨Nat.le_of_ble_eq_true rfl, Nat.le_of_ble_eq_true rfl⟩) ⟨nb_blind, va_recv hK hP (ci := 11) (q0 := 0) rfl rfl, fun U hU hW => ⟨rfl, by rw [hU], by rw [hU]; exact hP, va_K.moved hW.alike hK, hD.weaken (fun _ _ _ _ => trivial), hG.warm hW⟩⟩ rfl rfl hl.1 rfl (lv_room (Nat.le_of_ble_eq_true rfl)) dX12_putPlace_91 ⟨Nat.le_of_ble_eq_true rfl, Nat.le_of_ble_eq_true rfl⟩) hS (fun q _ h => hFc q h) hFc (fun _ t H1 locs ht hvm hw hB hz1 hk1 hS => ?_)
          obtain ⟨hP1, hK1, hD1⟩ := hB
          rw [ht] at hP1
          obtain ⟨hP, hD⟩ := va_join (wr := []) (w1 := vM cy a r1.2) hP hD [0, 1, 2, 3, 4, 5, 6, 7, 8, 9, 10, 11, 12, 13, 14, 15, 16, 17, 18, 19, 20, 21, 22, 23, 24, 25, 26, 27, 28, 29, 30, 31, 32, 33, 34, 35, 36, 37, 38, 39, 40, 41, 42, 43, 44, 45, 46, 47, 48, 49, 50, 51, 52, 53, 54, 55, 56, 57] [] rfl rfl (by decide) (by decide) hk1 hFc hP1 hD1
          generalize H1 = H at hP hS ⊢
          have hP : va_P (dC, dI) nCl (vM cy a r1.2) H := hP
          have hD : va_D A (vM cy a r1.2) := hD
          refine lv_iinc (v := ((L 6)) + 1) (lv' := [(6, .int (((L 6)) + 1)), (0, .ref (a 0)), (1, .int (L 1)), (2, .int (L 2)), (3, .int (L 3)), (4, .int (L 4)), (5, .int (L 5))]) hx hb dX12_putPlace_94 hl (k := 6) rfl rfl (by decide) rfl (fun ls hl => ?_)
          refine lv_goto (tgt := 45) hx hb dX12_putPlace_97 (by decide) ?_
          exact ih.2.2.2.1 (upd L 6 (((L 6)) + 1)) r1.2 r h H locs ls hP hD hS (lv_sub hl [1, 2, 3, 4, 5, 6, 0] rfl)
      · intro L σ r h H locs ls hP hD hS hl
        rw [x_putPlace] at h
        refine lv_aload_n hx hb dX12_putPlace_100 rfl (lv_at hl 0 rfl) ?_
        refine lv_iload hx hb dX12_putPlace_101 (lv_at hl 5 rfl) ?_
        cases hc1 : x_tupleOf k 0 (upd (fun _ => 0) 1 ((L 5))) σ with
        | none => rw [hc1, ob_none] at h; cases h
        | some r1 =>
          rw [hc1, ob_some] at h
          have hFc := va_free (wc := vM cy a σ) hD hS hA [0, 1, 2, 3, 4, 5, 6, 7, 8, 9, 10, 11, 12, 13, 14, 15, 16, 17, 18, 19, 20, 21, 22, 23, 24, 25, 26, 27, 28, 29, 30, 31, 32, 33, 34, 35, 36, 37, 38, 39, 40, 41, 42, 43, 44, 45, 46, 47, 48, 49, 50, 51, 52, 53, 54, 55, 56, 57] rfl
          refine va_calli (va_runV (As := [.int (L 5)]) (rest := []) ⟨hx, hb, hml, hown, hts⟩ (c_x_tupleOf l dC dI cy a k (upd (fun _ => 0) 1 ((L 5))) σ r1 hc1 H.size) (cwV 1 hts g_x_putPlace_tupleOf_675 rfl rfl rfl (by decide +kernel) ⟨Nat.le_of_ble_eq_true rfl, Nat.le_of_ble_eq_true rfl⟩) ⟨nb_blind, va_recv hK hP (ci := 11) (q0 := 0) rfl rfl, fun U hU hW => ⟨rfl, by rw [hU], by rw [hU]; exact hP, va_K.moved hW.alike hK, hD.weaken (fun _ _ _ _ => trivial), hG.warm hW⟩⟩ rfl rfl hl.1 rfl (lv_room (Nat.le_of_ble_eq_true rfl)) dX12_putPlace_103 ⟨Nat.le_of_ble_eq_true rfl, Nat.le_of_ble_eq_true rfl⟩) hS (fun q _ h => hFc q h) hFc (fun z9 _ t H1 locs ht hvm hw hB hz1 hk1 hS => ?_)
          subst hw
          obtain ⟨hP1, hK1, hD1⟩ := hB
          rw [ht] at hP1
          obtain ⟨hP, hD⟩ := va_join (wr := []) (w1 := vM cy a r1.2) hP hD [0, 1, 2, 3, 4, 5, 6, 7, 8, 9, 10, 11, 12, 13, 14, 15, 16, 17, 18, 19, 20, 21, 22, 23, 24, 25, 26, 27, 28, 29, 30, 31, 32, 33, 34, 35, 36, 37, 38, 39, 40, 41, 42, 43, 44, 45, 46, 47, 48, 49, 50, 51, 52, 53, 54, 55, 56, 57] [] rfl rfl (by decide) (by decide) hk1 hFc hP1 hD1
          generalize H1 = H at hP hS ⊢
          have hP : va_P (dC, dI) nCl (vM cy a r1.2) H := hP
          have hD : va_D A (vM cy a r1.2) := hD
          cases h
          exact W.iret (v := r1.1) hx hb hr (fun t ht hW => ⟨⟨r1.1, (), rfl, rfl, by rw [ht]; exact hP, va_K.moved hW.alike hK, hD⟩, hS.F ht⟩) hS.2.2 dX12_putPlace_106
  exact (blk k0).1 L0 σ0 r0 h0 s.heap [] ls hP hD hS hl
/-! dropIter -/
def x_dropIter : Nat → Nat → (Nat → Int32) → MS → Option (Int32 × MS)
  | 0, _, _, _ => none
  | k + 1, 0, L, σ => if ¬ ((3 : Int32) < 0 ∨ 11514 ≤ (3 : Int32).toNatClampNeg) then (if ¬ ((3 : Int32) < 0 ∨ 11514 ≤ (3 : Int32).toNatClampNeg) then (x_dropIter k 1 L (σ.1, σ.2.1, updG σ.2.2 30 (upd (σ.2.2 30) (3 : Int32).toNatClampNeg ((((σ.2.2 30 (3 : Int32).toNatClampNeg)) - 1))))) else none) else none
  | k + 1, 1, L, σ => if ¬ ((3 : Int32) < 0 ∨ 11514 ≤ (3 : Int32).toNatClampNeg) then (if ¬ (((5314 + ((σ.2.2 30 (3 : Int32).toNatClampNeg)))) < 0 ∨ 11514 ≤ ((5314 + ((σ.2.2 30 (3 : Int32).toNatClampNeg)))).toNatClampNeg) then (ob (x_size k 0 (upd (fun _ => 0) 1 ((σ.2.2 30 ((5314 + ((σ.2.2 30 (3 : Int32).toNatClampNeg)))).toNatClampNeg))) σ) (fun r3 => some (0, (upd r3.2.1 64 ((((σ.1 64)) - r3.1)), r3.2.2.1, r3.2.2.2)))) else none) else none
  | _ + 1, _ + 2, _, _ => none
def o_x_dropIter : List Cond := [.fieldLink RX12 395 "SetHouseModel" "st" "[I", .fieldLink RX12 852 "SetHouseModel" "total" "I", .methodLink RX12 432 yX12_size, .instanceMethod yX12_size, .selects RX12 yX12_size yX12_size, .initialized RX12]
theorem o_x_dropIter_good : o_x_dropIter.all goodWord = true := by decide +kernel
def p_x_dropIter : List Cond := o_x_dropIter ++ ((.code yX12_size cX12_size 2 (some .int) :: p_x_size) ++ [])
theorem p_x_dropIter_good : p_x_dropIter.all goodWord = true := nb_all2 o_x_dropIter_good (nb_all2 (nb_allc (by decide +kernel) p_x_size_good) rfl)
def w_x_dropIter : List Cond := .code yX12_dropIter cX12_dropIter 1 none :: (p_x_dropIter ++ fM)
theorem w_x_dropIter_good : w_x_dropIter.all goodWord = true := nb_allc (by decide +kernel) (nb_all2 p_x_dropIter_good fM_good)
theorem in_x_dropIter : ∀ w ∈ wsX120, w ∈ w_x_dropIter := fun _ h => List.mem_cons_of_mem _ (List.mem_append_right _ h)
theorem gg_x_dropIter_size : GoodIn w_x_dropIter w_x_size := goodIn_sub (fun w h => (List.mem_cons.mp h).elim (fun e => (List.mem_cons_of_mem _ (List.mem_append_left _ (List.mem_append_right _ (List.mem_append_left _ (List.mem_cons.mpr (Or.inl e))))))) (fun h => (List.mem_append.mp h).elim (fun h => (List.mem_cons_of_mem _ (List.mem_append_left _ (List.mem_append_right _ (List.mem_append_left _ (List.mem_cons_of_mem _ h)))))) (fun h => List.mem_cons_of_mem _ (List.mem_append_right _ h)))) w_x_size_good
theorem g_x_dropIter_size_432 : GoodIn w_x_dropIter (wsV RX12 432 RX12 yX12_size w_x_size) := goodIn_app (nb_g4 (List.mem_cons_of_mem _ (List.mem_append_left _ (List.mem_append_left _ (List.mem_of_getElem? (i := 2) rfl)))) (List.mem_cons_of_mem _ (List.mem_append_left _ (List.mem_append_left _ (List.mem_of_getElem? (i := 3) rfl)))) (List.mem_cons_of_mem _ (List.mem_append_left _ (List.mem_append_left _ (List.mem_of_getElem? (i := 4) rfl)))) (List.mem_cons_of_mem _ (List.mem_append_left _ (List.mem_append_left _ (List.mem_of_getElem? (i := 5) rfl)))) (by decide +kernel)) gg_x_dropIter_size
set_option maxHeartbeats 40000000 in
set_option maxRecDepth 100000 in
theorem c_x_dropIter (l : Launch) (dC : Nat → ClassId) (dI : Nat → Nat → Nat) (cy : Nat → ClassId) (a : Nat → Nat) (k0 : Nat) (L0 : Nat → Int32) (σ0 : MS) (r0 : Int32 × MS) (h0 : x_dropIter k0 0 L0 σ0 = some r0) (sz : Nat) : Met l yX12_dropIter w_x_dropIter ({ frames := 1, cells := 0, slots := 0, locals := 21 }) (va_Pc [.ref (a 0)] (nIn (dC, dI) cy sz (vM cy a σ0))) (va_Qv (fun _ : Unit => True) (fun _ t => nOut (dC, dI) cy (va_A (vM cy a σ0) sz) (vM cy a r0.2) t) (va_A (vM cy a σ0) sz)) 0 0 (va_A (vM cy a σ0) sz) := by
  refine Met.ofW (cc := cX12_dropIter) (maxL := 1) (ret := none) (by decide) rfl ?_
  intro p e s m args below meth c s₁ B hml hv
  obtain ⟨rfl, hsz, hP, hK, hD0, hG⟩ := hv
  have hx := B.exec
  have hb := B.bytes
  have hr := B.returns
  have hts := atoms_spec (ws := w_x_dropIter) B.pre
  have hown : s.vm.findClass RX12 = some m.cls := findClass_of_methodNamed B.named
  have hlocks := B.notSynchronized
  subst hsz
  have hD := hD0.self (sz := s.heap.size)
  generalize hAe : va_A (vM cy a σ0) s.heap.size = A at hD ⊢
  have hA : ∀ q : Nat, s.heap.size ≤ q → A q := fun q h => by rw [← hAe]; exact Or.inr h
  have hS : va_S A s.heap s.heap [] := va_S.rf
  have hl := lv_entry ([.ref (a 0)]) (n := 1) (Nat.le_of_ble_eq_true rfl)
  rw [lg_entry_eq]
  generalize (lg_sl ([.ref (a 0)]) ++ List.replicate (1 - (lg_sl ([.ref (a 0)])).length) Slot.unset).toArray = ls at hl ⊢
  have hl : lv_has ls 1 [(0, .ref (a 0))] := hl
  have blk : ∀ k : Nat, (∀ (L : Nat → Int32) (σ : MS) (r : Int32 × MS), x_dropIter k 0 L σ = some r → ∀ (H : Heap) (locs : List Loc) (ls : Array Slot), va_P (dC, dI) nCl (vM cy a σ) H → va_D A (vM cy a σ) → va_S A s.heap H locs → lv_has ls 1 [(0, .ref (a 0))] → W p l e (headSpec w_x_dropIter ({ frames := 1, cells := 0, slots := 0, locals := 21 })).room s m #[.ref (a 0)] below meth c H locs 0 0 (MQ below (va_Qv (fun _ : Unit => True) (fun _ t => nOut (dC, dI) cy A (vM cy a r.2) t) A) #[.ref (a 0)] s 0 0 A) (F0 m 0 ls [])) ∧ (∀ (L : Nat → Int32) (σ : MS) (r : Int32 × MS), x_dropIter k 1 L σ = some r → ∀ (H : Heap) (locs : List Loc) (ls : Array Slot), va_P (dC, dI) nCl (vM cy a σ) H → va_D A (vM cy a σ) → va_S A s.heap H locs → lv_has ls 1 [(0, .ref (a 0))] → W p l e (headSpec w_x_dropIter ({ frames := 1, cells := 0, slots := 0, locals := 21 })).room s m #[.ref (a 0)] below meth c H locs 0 0 (MQ below (va_Qv (fun _ : Unit => True) (fun _ t => nOut (dC, dI) cy A (vM cy a r.2) t) A) #[.ref (a 0)] s 0 0 A) (F0 m 10 ls [])) := by
    intro k
    induction k with
    | zero => exact ⟨fun L σ r h => (by cases h), fun L σ r h => (by cases h)⟩
    | succ k ih =>
      refine ⟨?_, ?_⟩
      · intro L σ r h H locs ls hP hD hS hl
        rw [x_dropIter] at h
        refine lv_aload_n hx hb dX12_dropIter_0 rfl (lv_at hl 0 rfl) ?_
        refine va_get (D := (dC, dI)) (ci := 11) (v := .ref (a 30)) (C := RX12) (T := TX12) (N := 121) hx hb hts in_x_dropIter hown hK hP 0 rfl rfl 60 (by decide) (hts _ (List.mem_cons_of_mem _ (List.mem_append_left _ (List.mem_append_left _ (List.mem_of_getElem? (i := 0) rfl))))) (fun _ h9 => h9) rfl dX12_dropIter_1 ?_
        refine lv_iconst (v := 3) hx hb dX12_dropIter_4 (by decide) ?_
        refine lv_dup2_11 hx hb dX12_dropIter_5 rfl rfl ?_
        by_cases q1 : ¬ ((3 : Int32) < 0 ∨ 11514 ≤ (3 : Int32).toNatClampNeg)
        · rw [if_pos q1] at h
          refine va_iald hx hb hK hP 30 1 rfl rfl (nb_inp q1) dX12_dropIter_6 ?_
          refine lv_iconst (v := 1) hx hb dX12_dropIter_7 (by decide) ?_
          refine lv_isub hx hb dX12_dropIter_8 ?_
          by_cases q2 : ¬ ((3 : Int32) < 0 ∨ 11514 ≤ (3 : Int32).toNatClampNeg)
          · rw [if_pos q2] at h
            refine va_iast hx hb hK hP hD hS 30 1 rfl rfl (nb_inp q2) dX12_dropIter_9 (fun H locs hP hD hS => ?_)
            have hP : va_P (dC, dI) nCl (vM cy a (σ.1, σ.2.1, updG σ.2.2 30 (upd (σ.2.2 30) (3 : Int32).toNatClampNeg ((((σ.2.2 30 (3 : Int32).toNatClampNeg)) - 1))))) H := hP
            have hD : va_D A (vM cy a (σ.1, σ.2.1, updG σ.2.2 30 (upd (σ.2.2 30) (3 : Int32).toNatClampNeg ((((σ.2.2 30 (3 : Int32).toNatClampNeg)) - 1))))) := hD
            exact ih.2 L (σ.1, σ.2.1, updG σ.2.2 30 (upd (σ.2.2 30) (3 : Int32).toNatClampNeg ((((σ.2.2 30 (3 : Int32).toNatClampNeg)) - 1)))) r h H locs ls hP hD hS (lv_sub hl [0] rfl)
          · rw [if_neg q2] at h; cases h
        · rw [if_neg q1] at h; cases h
      · intro L σ r h H locs ls hP hD hS hl
        rw [x_dropIter] at h
        refine lv_aload_n hx hb dX12_dropIter_10 rfl (lv_at hl 0 rfl) ?_
        refine lv_dup hx hb dX12_dropIter_11 rfl ?_
        refine va_get (D := (dC, dI)) (ci := 11) (v := .int (σ.1 64)) (C := RX12) (T := TX12) (N := 121) hx hb hts in_x_dropIter hown hK hP 0 rfl rfl 64 (by decide) (hts _ (List.mem_cons_of_mem _ (List.mem_append_left _ (List.mem_append_left _ (List.mem_of_getElem? (i := 1) rfl))))) (fun _ h9 => h9) rfl dX12_dropIter_12 ?_
        refine lv_aload_n hx hb dX12_dropIter_15 rfl (lv_at hl 0 rfl) ?_
        refine lv_aload_n hx hb dX12_dropIter_16 rfl (lv_at hl 0 rfl) ?_
        refine va_get (D := (dC, dI)) (ci := 11) (v := .ref (a 30)) (C := RX12) (T := TX12) (N := 121) hx hb hts in_x_dropIter hown hK hP 0 rfl rfl 60 (by decide) (hts _ (List.mem_cons_of_mem _ (List.mem_append_left _ (List.mem_append_left _ (List.mem_of_getElem? (i := 0) rfl))))) (fun _ h9 => h9) rfl dX12_dropIter_17 ?_
        refine lv_sipush (v := 5314) hx hb dX12_dropIter_20 (by decide) ?_
        refine lv_aload_n hx hb dX12_dropIter_23 rfl (lv_at hl 0 rfl) ?_
        refine va_get (D := (dC, dI)) (ci := 11) (v := .ref (a 30)) (C := RX12) (T := TX12) (N := 121) hx hb hts in_x_dropIter hown hK hP 0 rfl rfl 60 (by decide) (hts _ (List.mem_cons_of_mem _ (List.mem_append_left _ (List.mem_append_left _ (List.mem_of_getElem? (i := 0) rfl))))) (fun _ h9 => h9) rfl dX12_dropIter_24 ?_
        refine lv_iconst (v := 3) hx hb dX12_dropIter_27 (by decide) ?_
        by_cases q1 : ¬ ((3 : Int32) < 0 ∨ 11514 ≤ (3 : Int32).toNatClampNeg)
        · rw [if_pos q1] at h
          refine va_iald hx hb hK hP 30 1 rfl rfl (nb_inp q1) dX12_dropIter_28 ?_
          refine lv_iadd hx hb dX12_dropIter_29 ?_
          by_cases q2 : ¬ (((5314 + ((σ.2.2 30 (3 : Int32).toNatClampNeg)))) < 0 ∨ 11514 ≤ ((5314 + ((σ.2.2 30 (3 : Int32).toNatClampNeg)))).toNatClampNeg)
          · rw [if_pos q2] at h
            refine va_iald hx hb hK hP 30 1 rfl rfl (nb_inp q2) dX12_dropIter_30 ?_
            cases hc3 : x_size k 0 (upd (fun _ => 0) 1 ((σ.2.2 30 ((5314 + ((σ.2.2 30 (3 : Int32).toNatClampNeg)))).toNatClampNeg))) σ with
            | none => rw [hc3, ob_none] at h; cases h
            | some r3 =>
              rw [hc3, ob_some] at h
              have hFc := va_free (wc := vM cy a σ) hD hS hA [0, 1, 2, 3, 4, 5, 6, 7, 8, 9, 10, 11, 12, 13, 14, 15, 16, 17, 18, 19, 20, 21, 22, 23, 24, 25, 26, 27, 28, 29, 30, 31, 32, 33, 34, 35, 36, 37, 38, 39, 40, 41, 42, 43, 44, 45, 46, 47, 48, 49, 50, 51, 52, 53, 54, 55, 56, 57] rfl
              refine va_calli (va_runV (As := [.int (σ.2.2 30 ((5314 + ((σ.2.2 30 (3 : Int32).toNatClampNeg)))).toNatClampNeg)]) (rest := [.int (σ.1 64), .ref (a 0)]) ⟨hx, hb, hml, hown, hts⟩ (c_x_size l dC dI cy a k (upd (fun _ => 0) 1 ((σ.2.2 30 ((5314 + ((σ.2.2 30 (3 : Int32).toNatClampNeg)))).toNatClampNeg))) σ r3 hc3 H.size) (cwV 1 hts g_x_dropIter_size_432 rfl rfl rfl (by decide +kernel) ⟨Nat.le_of_ble_eq_true rfl, Nat.le_of_ble_eq_true rfl⟩) ⟨nb_blind, va_recv hK hP (ci := 11) (q0 := 0) rfl rfl, fun U hU hW => ⟨rfl, by rw [hU], by rw [hU]; exact hP, va_K.moved hW.alike hK, hD.weaken (fun _ _ _ _ => trivial), hG.warm hW⟩⟩ rfl rfl hl.1 rfl (lv_room (Nat.le_of_ble_eq_true rfl)) dX12_dropIter_31 ⟨Nat.le_of_ble_eq_true rfl, Nat.le_of_ble_eq_true rfl⟩) hS (fun q _ h => hFc q h) hFc (fun z9 _ t H1 locs ht hvm hw hB hz1 hk1 hS => ?_)
              subst hw
              obtain ⟨hP1, hK1, hD1⟩ := hB
              rw [ht] at hP1
              obtain ⟨hP, hD⟩ := va_join (wr := []) (w1 := vM cy a r3.2) hP hD [0, 1, 2, 3, 4, 5, 6, 7, 8, 9, 10, 11, 12, 13, 14, 15, 16, 17, 18, 19, 20, 21, 22, 23, 24, 25, 26, 27, 28, 29, 30, 31, 32, 33, 34, 35, 36, 37, 38, 39, 40, 41, 42, 43, 44, 45, 46, 47, 48, 49, 50, 51, 52, 53, 54, 55, 56, 57] [] rfl rfl (by decide) (by decide) hk1 hFc hP1 hD1
              generalize H1 = H at hP hS ⊢
              have hP : va_P (dC, dI) nCl (vM cy a r3.2) H := hP
              have hD : va_D A (vM cy a r3.2) := hD
              refine lv_isub hx hb dX12_dropIter_34 ?_
              refine va_put (D := (dC, dI)) (ci := 11) (v := .int (((σ.1 64)) - r3.1)) (ty := .int) (C := RX12) (T := TX12) (N := 121) hx hb hts in_x_dropIter tyX12 tyX12_ok nmX12 hown hK hP hD hS 0 rfl rfl 64 (by decide) (hts _ (List.mem_cons_of_mem _ (List.mem_append_left _ (List.mem_append_left _ (List.mem_of_getElem? (i := 1) rfl))))) (fun _ h9 => h9) rfl (by decide +kernel) rfl rfl (Nat.le_of_ble_eq_true rfl) dX12_dropIter_35 (fun H locs hP hD hS => ?_)
              have hP : va_P (dC, dI) nCl (vM cy a (upd r3.2.1 64 ((((σ.1 64)) - r3.1)), r3.2.2.1, r3.2.2.2)) H := hP
              have hD : va_D A (vM cy a (upd r3.2.1 64 ((((σ.1 64)) - r3.1)), r3.2.2.1, r3.2.2.2)) := hD
              cases h
              exact W.vret hx hb hr (fun t ht hW => ⟨⟨(), rfl, trivial, by rw [ht]; exact hP, va_K.moved hW.alike hK, hD⟩, hS.F ht⟩) hS.2.2 dX12_dropIter_38
          · rw [if_neg q2] at h; cases h
        · rw [if_neg q1] at h; cases h
  exact (blk k0).1 L0 σ0 r0 h0 s.heap [] ls hP hD hS hl
/-! closeFor -/
def x_closeFor : Nat → Nat → (Nat → Int32) → MS → Option (Int32 × MS)
  | 0, _, _, _ => none
  | k + 1, 0, L, σ => if ¬ ((2 : Int32) < 0 ∨ 11514 ≤ (2 : Int32).toNatClampNeg) then (x_closeFor k 1 (upd L 1 ((3214 + ((2 * ((((σ.2.2 30 (2 : Int32).toNatClampNeg)) - 1))))))) σ) else none
  | k + 1, 1, L, σ => if ¬ ((3 : Int32) < 0 ∨ 11514 ≤ (3 : Int32).toNatClampNeg) then (if ¬ (((((L 1)) + 1)) < 0 ∨ 11514 ≤ ((((L 1)) + 1)).toNatClampNeg) then (if ((σ.2.2 30 (3 : Int32).toNatClampNeg)) ≤ ((σ.2.2 30 ((((L 1)) + 1)).toNatClampNeg)) then (x_closeFor k 2 L σ) else (ob (x_dropIter k 0 (fun _ => 0) σ) (fun r4 => x_closeFor k 1 L r4.2))) else none) else none
  | k + 1, 2, L, σ => if ¬ ((2 : Int32) < 0 ∨ 11514 ≤ (2 : Int32).toNatClampNeg) then (if ¬ ((2 : Int32) < 0 ∨ 11514 ≤ (2 : Int32).toNatClampNeg) then (x_closeFor k 3 L (σ.1, σ.2.1, updG σ.2.2 30 (upd (σ.2.2 30) (2 : Int32).toNatClampNeg ((((σ.2.2 30 (2 : Int32).toNatClampNeg)) - 1))))) else none) else none
  | k + 1, 3, L, σ => if ¬ (((L 1)) < 0 ∨ 11514 ≤ ((L 1)).toNatClampNeg) then (if ¬ (((σ.2.2 30 ((L 1)).toNatClampNeg)) < 0 ∨ 70000 ≤ ((σ.2.2 30 ((L 1)).toNatClampNeg)).toNatClampNeg) then (x_closeFor k 4 (upd L 2 ((σ.2.2 5 ((σ.2.2 30 ((L 1)).toNatClampNeg)).toNatClampNeg))) σ) else none) else none
  | k + 1, 4, L, σ => if ((L 2)) = ((-1)) then (x_closeFor k 8 L σ) else (if ¬ (((L 2)) < 0 ∨ 70000 ≤ ((L 2)).toNatClampNeg) then (x_closeFor k 5 (upd L 3 ((σ.2.2 6 ((L 2)).toNatClampNeg))) σ) else none)
  | k + 1, 5, L, σ => if ((L 3)) = ((-1)) then (x_closeFor k 7 L σ) else (ob (x_valueOf k 0 (upd (fun _ => 0) 1 ((L 3))) σ) (fun r2 => ob (x_size k 0 (upd (fun _ => 0) 1 r2.1) r2.2) (fun r3 => x_closeFor k 6 L (upd r3.2.1 64 ((((σ.1 64)) + ((1 - r3.1)))), r3.2.2.1, r3.2.2.2))))
  | k + 1, 6, L, σ => ob (x_bindOne k 0 (upd (upd (fun _ => 0) 1 ((L 3))) 2 0) σ) (fun r1 => if ¬ (((L 3)) < 0 ∨ 70000 ≤ ((L 3)).toNatClampNeg) then (x_closeFor k 5 (upd L 3 ((r1.2.2.2 9 ((L 3)).toNatClampNeg))) r1.2) else none)
  | k + 1, 7, L, σ => if ¬ (((L 2)) < 0 ∨ 70000 ≤ ((L 2)).toNatClampNeg) then (x_closeFor k 4 (upd L 2 ((σ.2.2 9 ((L 2)).toNatClampNeg))) σ) else none
  | k + 1, 8, L, σ => some (0, σ)
  | _ + 1, _ + 9, _, _ => none
def o_x_closeFor : List Cond := [.fieldLink RX12 395 "SetHouseModel" "st" "[I", .methodLink RX12 892 yX12_dropIter, .instanceMethod yX12_dropIter, .selects RX12 yX12_dropIter yX12_dropIter, .initialized RX12, .fieldLink RX12 86 "SetHouseModel" "x1" "[I", .fieldLink RX12 89 "SetHouseModel" "x2" "[I", .fieldLink RX12 852 "SetHouseModel" "total" "I", .methodLink RX12 604 yX12_valueOf, .instanceMethod yX12_valueOf, .selects RX12 yX12_valueOf yX12_valueOf, .methodLink RX12 432 yX12_size, .instanceMethod yX12_size, .selects RX12 yX12_size yX12_size, .methodLink RX12 694 yX12_bindOne, .instanceMethod yX12_bindOne, .selects RX12 yX12_bindOne yX12_bindOne, .fieldLink RX12 98 "SetHouseModel" "next" "[I"]
theorem o_x_closeFor_good : o_x_closeFor.all goodWord = true := by decide +kernel
def p_x_closeFor : List Cond := o_x_closeFor ++ ((.code yX12_dropIter cX12_dropIter 1 none :: p_x_dropIter) ++ ((.code yX12_valueOf cX12_valueOf 2 (some .int) :: p_x_valueOf) ++ ((.code yX12_size cX12_size 2 (some .int) :: p_x_size) ++ ((.code yX12_bindOne cX12_bindOne 3 none :: p_x_bindOne) ++ []))))
theorem p_x_closeFor_good : p_x_closeFor.all goodWord = true := nb_all2 o_x_closeFor_good (nb_all2 (nb_allc (by decide +kernel) p_x_dropIter_good) (nb_all2 (nb_allc (by decide +kernel) p_x_valueOf_good) (nb_all2 (nb_allc (by decide +kernel) p_x_size_good) (nb_all2 (nb_allc (by decide +kernel) p_x_bindOne_good) rfl))))
def w_x_closeFor : List Cond := .code yX12_closeFor cX12_closeFor 4 none :: (p_x_closeFor ++ fM)
theorem w_x_closeFor_good : w_x_closeFor.all goodWord = true := nb_allc (by decide +kernel) (nb_all2 p_x_closeFor_good fM_good)
theorem in_x_closeFor : ∀ w ∈ wsX120, w ∈ w_x_closeFor := fun _ h => List.mem_cons_of_mem _ (List.mem_append_right _ h)
theorem gg_x_closeFor_dropIter : GoodIn w_x_closeFor w_x_dropIter := goodIn_sub (fun w h => (List.mem_cons.mp h).elim (fun e => (List.mem_cons_of_mem _ (List.mem_append_left _ (List.mem_append_right _ (List.mem_append_left _ (List.mem_cons.mpr (Or.inl e))))))) (fun h => (List.mem_append.mp h).elim (fun h => (List.mem_cons_of_mem _ (List.mem_append_left _ (List.mem_append_right _ (List.mem_append_left _ (List.mem_cons_of_mem _ h)))))) (fun h => List.mem_cons_of_mem _ (List.mem_append_right _ h)))) w_x_dropIter_good
theorem gg_x_closeFor_valueOf : GoodIn w_x_closeFor w_x_valueOf := goodIn_sub (fun w h => (List.mem_cons.mp h).elim (fun e => (List.mem_cons_of_mem _ (List.mem_append_left _ (List.mem_append_right _ (List.mem_append_right _ (List.mem_append_left _ (List.mem_cons.mpr (Or.inl e)))))))) (fun h => (List.mem_append.mp h).elim (fun h => (List.mem_cons_of_mem _ (List.mem_append_left _ (List.mem_append_right _ (List.mem_append_right _ (List.mem_append_left _ (List.mem_cons_of_mem _ h))))))) (fun h => List.mem_cons_of_mem _ (List.mem_append_right _ h)))) w_x_valueOf_good
theorem gg_x_closeFor_size : GoodIn w_x_closeFor w_x_size := goodIn_sub (fun w h => (List.mem_cons.mp h).elim (fun e => (List.mem_cons_of_mem _ (List.mem_append_left _ (List.mem_append_right _ (List.mem_append_right _ (List.mem_append_right _ (List.mem_append_left _ (List.mem_cons.mpr (Or.inl e))))))))) (fun h => (List.mem_append.mp h).elim (fun h => (List.mem_cons_of_mem _ (List.mem_append_left _ (List.mem_append_right _ (List.mem_append_right _ (List.mem_append_right _ (List.mem_append_left _ (List.mem_cons_of_mem _ h)))))))) (fun h => List.mem_cons_of_mem _ (List.mem_append_right _ h)))) w_x_size_good
theorem gg_x_closeFor_bindOne : GoodIn w_x_closeFor w_x_bindOne := goodIn_sub (fun w h => (List.mem_cons.mp h).elim (fun e => (List.mem_cons_of_mem _ (List.mem_append_left _ (List.mem_append_right _ (List.mem_append_right _ (List.mem_append_right _ (List.mem_append_right _ (List.mem_append_left _ (List.mem_cons.mpr (Or.inl e)))))))))) (fun h => (List.mem_append.mp h).elim (fun h => (List.mem_cons_of_mem _ (List.mem_append_left _ (List.mem_append_right _ (List.mem_append_right _ (List.mem_append_right _ (List.mem_append_right _ (List.mem_append_left _ (List.mem_cons_of_mem _ h))))))))) (fun h => List.mem_cons_of_mem _ (List.mem_append_right _ h)))) w_x_bindOne_good
theorem g_x_closeFor_bindOne_694 : GoodIn w_x_closeFor (wsV RX12 694 RX12 yX12_bindOne w_x_bindOne) := goodIn_app (nb_g4 (List.mem_cons_of_mem _ (List.mem_append_left _ (List.mem_append_left _ (List.mem_of_getElem? (i := 14) rfl)))) (List.mem_cons_of_mem _ (List.mem_append_left _ (List.mem_append_left _ (List.mem_of_getElem? (i := 15) rfl)))) (List.mem_cons_of_mem _ (List.mem_append_left _ (List.mem_append_left _ (List.mem_of_getElem? (i := 16) rfl)))) (List.mem_cons_of_mem _ (List.mem_append_left _ (List.mem_append_left _ (List.mem_of_getElem? (i := 4) rfl)))) (by decide +kernel)) gg_x_closeFor_bindOne
theorem g_x_closeFor_dropIter_892 : GoodIn w_x_closeFor (wsV RX12 892 RX12 yX12_dropIter w_x_dropIter) := goodIn_app (nb_g4 (List.mem_cons_of_mem _ (List.mem_append_left _ (List.mem_append_left _ (List.mem_of_getElem? (i := 1) rfl)))) (List.mem_cons_of_mem _ (List.mem_append_left _ (List.mem_append_left _ (List.mem_of_getElem? (i := 2) rfl)))) (List.mem_cons_of_mem _ (List.mem_append_left _ (List.mem_append_left _ (List.mem_of_getElem? (i := 3) rfl)))) (List.mem_cons_of_mem _ (List.mem_append_left _ (List.mem_append_left _ (List.mem_of_getElem? (i := 4) rfl)))) (by decide +kernel)) gg_x_closeFor_dropIter
theorem g_x_closeFor_size_432 : GoodIn w_x_closeFor (wsV RX12 432 RX12 yX12_size w_x_size) := goodIn_app (nb_g4 (List.mem_cons_of_mem _ (List.mem_append_left _ (List.mem_append_left _ (List.mem_of_getElem? (i := 11) rfl)))) (List.mem_cons_of_mem _ (List.mem_append_left _ (List.mem_append_left _ (List.mem_of_getElem? (i := 12) rfl)))) (List.mem_cons_of_mem _ (List.mem_append_left _ (List.mem_append_left _ (List.mem_of_getElem? (i := 13) rfl)))) (List.mem_cons_of_mem _ (List.mem_append_left _ (List.mem_append_left _ (List.mem_of_getElem? (i := 4) rfl)))) (by decide +kernel)) gg_x_closeFor_size
theorem g_x_closeFor_valueOf_604 : GoodIn w_x_closeFor (wsV RX12 604 RX12 yX12_valueOf w_x_valueOf) := goodIn_app (nb_g4 (List.mem_cons_of_mem _ (List.mem_append_left _ (List.mem_append_left _ (List.mem_of_getElem? (i := 8) rfl)))) (List.mem_cons_of_mem _ (List.mem_append_left _ (List.mem_append_left _ (List.mem_of_getElem? (i := 9) rfl)))) (List.mem_cons_of_mem _ (List.mem_append_left _ (List.mem_append_left _ (List.mem_of_getElem? (i := 10) rfl)))) (List.mem_cons_of_mem _ (List.mem_append_left _ (List.mem_append_left _ (List.mem_of_getElem? (i := 4) rfl)))) (by decide +kernel)) gg_x_closeFor_valueOf
set_option maxHeartbeats 40000000 in
set_option maxRecDepth 100000 in
theorem c_x_closeFor (l : Launch) (dC : Nat → ClassId) (dI : Nat → Nat → Nat) (cy : Nat → ClassId) (a : Nat → Nat) (k0 : Nat) (L0 : Nat → Int32) (σ0 : MS) (r0 : Int32 × MS) (h0 : x_closeFor k0 0 L0 σ0 = some r0) (sz : Nat) : Met l yX12_closeFor w_x_closeFor ({ frames := 2, cells := 0, slots := 0, locals := 41 }) (va_Pc [.ref (a 0)] (nIn (dC, dI) cy sz (vM cy a σ0))) (va_Qv (fun _ : Unit => True) (fun _ t => nOut (dC, dI) cy (va_A (vM cy a σ0) sz) (vM cy a r0.2) t) (va_A (vM cy a σ0) sz)) 0 0 (va_A (vM cy a σ0) sz) := by
  refine Met.ofW (cc := cX12_closeFor) (maxL := 4) (ret := none) (by decide) rfl ?_
  intro p e s m args below meth c s₁ B hml hv
  obtain ⟨rfl, hsz, hP, hK, hD0, hG⟩ := hv
  have hx := B.exec
  have hb := B.bytes
  have hr := B.returns
  have hts := atoms_spec (ws := w_x_closeFor) B.pre
  have hown : s.vm.findClass RX12 = some m.cls := findClass_of_methodNamed B.named
  have hlocks := B.notSynchronized
  subst hsz
  have hD := hD0.self (sz := s.heap.size)
  generalize hAe : va_A (vM cy a σ0) s.heap.size = A at hD ⊢
  have hA : ∀ q : Nat, s.heap.size ≤ q → A q := fun q h => by rw [← hAe]; exact Or.inr h
  have hS : va_S A s.heap s.heap [] := va_S.rf
  have hl := lv_entry ([.ref (a 0)]) (n := 4) (Nat.le_of_ble_eq_true rfl)
  rw [lg_entry_eq]
  generalize (lg_sl ([.ref (a 0)]) ++ List.replicate (4 - (lg_sl ([.ref (a 0)])).length) Slot.unset).toArray = ls at hl ⊢
  have hl : lv_has ls 4 [(0, .ref (a 0))] := hl
  have blk : ∀ k : Nat, (∀ (L : Nat → Int32) (σ : MS) (r : Int32 × MS), x_closeFor k 0 L σ = some r → ∀ (H : Heap) (locs : List Loc) (ls : Array Slot), va_P (dC, dI) nCl (vM cy a σ) H → va_D A (vM cy a σ) → va_S A s.heap H locs → lv_has ls 4 [(0, .ref (a 0))] → W p l e (headSpec w_x_closeFor ({ frames := 2, cells := 0, slots := 0, locals := 41 })).room s m #[.ref (a 0)] below meth c H locs 0 0 (MQ below (va_Qv (fun _ : Unit => True) (fun _ t => nOut (dC, dI) cy A (vM cy a r.2) t) A) #[.ref (a 0)] s 0 0 A) (F0 m 0 ls [])) ∧ (∀ (L : Nat → Int32) (σ : MS) (r : Int32 × MS), x_closeFor k 1 L σ = some r → ∀ (H : Heap) (locs : List Loc) (ls : Array Slot), va_P (dC, dI) nCl (vM cy a σ) H → va_D A (vM cy a σ) → va_S A s.heap H locs → lv_has ls 4 [(0, .ref (a 0)), (1, .int (L 1))] → W p l e (headSpec w_x_closeFor ({ frames := 2, cells := 0, slots := 0, locals := 41 })).room s m #[.ref (a 0)] below meth c H locs 0 0 (MQ below (va_Qv (fun _ : Unit => True) (fun _ t => nOut (dC, dI) cy A (vM cy a r.2) t) A) #[.ref (a 0)] s 0 0 A) (F0 m 15 ls [])) ∧ (∀ (L : Nat → Int32) (σ : MS) (r : Int32 × MS), x_closeFor k 2 L σ = some r → ∀ (H : Heap) (locs : List Loc) (ls : Array Slot), va_P (dC, dI) nCl (vM cy a σ) H → va_D A (vM cy a σ) → va_S A s.heap H locs → lv_has ls 4 [(0, .ref (a 0)), (1, .int (L 1))] → W p l e (headSpec w_x_closeFor ({ frames := 2, cells := 0, slots := 0, locals := 41 })).room s m #[.ref (a 0)] below meth c H locs 0 0 (MQ below (va_Qv (fun _ : Unit => True) (fun _ t => nOut (dC, dI) cy A (vM cy a r.2) t) A) #[.ref (a 0)] s 0 0 A) (F0 m 39 ls [])) ∧ (∀ (L : Nat → Int32) (σ : MS) (r : Int32 × MS), x_closeFor k 3 L σ = some r → ∀ (H : Heap) (locs : List Loc) (ls : Array Slot), va_P (dC, dI) nCl (vM cy a σ) H → va_D A (vM cy a σ) → va_S A s.heap H locs → lv_has ls 4 [(0, .ref (a 0)), (1, .int (L 1))] → W p l e (headSpec w_x_closeFor ({ frames := 2, cells := 0, slots := 0, locals := 41 })).room s m #[.ref (a 0)] below meth c H locs 0 0 (MQ below (va_Qv (fun _ : Unit => True) (fun _ t => nOut (dC, dI) cy A (vM cy a r.2) t) A) #[.ref (a 0)] s 0 0 A) (F0 m 49 ls [])) ∧ (∀ (L : Nat → Int32) (σ : MS) (r : Int32 × MS), x_closeFor k 4 L σ = some r → ∀ (H : Heap) (locs : List Loc) (ls : Array Slot), va_P (dC, dI) nCl (vM cy a σ) H → va_D A (vM cy a σ) → va_S A s.heap H locs → lv_has ls 4 [(0, .ref (a 0)), (1, .int (L 1)), (2, .int (L 2))] → W p l e (headSpec w_x_closeFor ({ frames := 2, cells := 0, slots := 0, locals := 41 })).room s m #[.ref (a 0)] below meth c H locs 0 0 (MQ below (va_Qv (fun _ : Unit => True) (fun _ t => nOut (dC, dI) cy A (vM cy a r.2) t) A) #[.ref (a 0)] s 0 0 A) (F0 m 61 ls [])) ∧ (∀ (L : Nat → Int32) (σ : MS) (r : Int32 × MS), x_closeFor k 5 L σ = some r → ∀ (H : Heap) (locs : List Loc) (ls : Array Slot), va_P (dC, dI) nCl (vM cy a σ) H → va_D A (vM cy a σ) → va_S A s.heap H locs → lv_has ls 4 [(0, .ref (a 0)), (1, .int (L 1)), (2, .int (L 2)), (3, .int (L 3))] → W p l e (headSpec w_x_closeFor ({ frames := 2, cells := 0, slots := 0, locals := 41 })).room s m #[.ref (a 0)] below meth c H locs 0 0 (MQ below (va_Qv (fun _ : Unit => True) (fun _ t => nOut (dC, dI) cy A (vM cy a r.2) t) A) #[.ref (a 0)] s 0 0 A) (F0 m 73 ls [])) ∧ (∀ (L : Nat → Int32) (σ : MS) (r : Int32 × MS), x_closeFor k 6 L σ = some r → ∀ (H : Heap) (locs : List Loc) (ls : Array Slot), va_P (dC, dI) nCl (vM cy a σ) H → va_D A (vM cy a σ) → va_S A s.heap H locs → lv_has ls 4 [(0, .ref (a 0)), (1, .int (L 1)), (2, .int (L 2)), (3, .int (L 3))] → W p l e (headSpec w_x_closeFor ({ frames := 2, cells := 0, slots := 0, locals := 41 })).room s m #[.ref (a 0)] below meth c H locs 0 0 (MQ below (va_Qv (fun _ : Unit => True) (fun _ t => nOut (dC, dI) cy A (vM cy a r.2) t) A) #[.ref (a 0)] s 0 0 A) (F0 m 98 ls [])) ∧ (∀ (L : Nat → Int32) (σ : MS) (r : Int32 × MS), x_closeFor k 7 L σ = some r → ∀ (H : Heap) (locs : List Loc) (ls : Array Slot), va_P (dC, dI) nCl (vM cy a σ) H → va_D A (vM cy a σ) → va_S A s.heap H locs → lv_has ls 4 [(0, .ref (a 0)), (1, .int (L 1)), (2, .int (L 2)), (3, .int (L 3))] → W p l e (headSpec w_x_closeFor ({ frames := 2, cells := 0, slots := 0, locals := 41 })).room s m #[.ref (a 0)] below meth c H locs 0 0 (MQ below (va_Qv (fun _ : Unit => True) (fun _ t => nOut (dC, dI) cy A (vM cy a r.2) t) A) #[.ref (a 0)] s 0 0 A) (F0 m 114 ls [])) ∧ (∀ (L : Nat → Int32) (σ : MS) (r : Int32 × MS), x_closeFor k 8 L σ = some r → ∀ (H : Heap) (locs : List Loc) (ls : Array Slot), va_P (dC, dI) nCl (vM cy a σ) H → va_D A (vM cy a σ) → va_S A s.heap H locs → lv_has ls 4 [(0, .ref (a 0)), (1, .int (L 1)), (2, .int (L 2))] → W p l e (headSpec w_x_closeFor ({ frames := 2, cells := 0, slots := 0, locals := 41 })).room s m #[.ref (a 0)] below meth c H locs 0 0 (MQ below (va_Qv (fun _ : Unit => True) (fun _ t => nOut (dC, dI) cy A (vM cy a r.2) t) A) #[.ref (a 0)] s 0 0 A) (F0 m 124 ls [])) := by
    intro k
    induction k with
    | zero => exact ⟨fun L σ r h => (by cases h), fun L σ r h => (by cases h), fun L σ r h => (by cases h), fun L σ r h => (by cases h), fun L σ r h => (by cases h), fun L σ r h => (by cases h), fun L σ r h => (by cases h), fun L σ r h => (by cases h), fun L σ r h => (by cases h)⟩
    | succ k ih =>
      refine ⟨?_, ?_, ?_, ?_, ?_, ?_, ?_, ?_, ?_⟩
      · intro L σ r h H locs ls hP hD hS hl
        rw [x_closeFor] at h
        refine lv_sipush (v := 3214) hx hb dX12_closeFor_0 (by decide) ?_
        refine lv_iconst (v := 2) hx hb dX12_closeFor_3 (by decide) ?_
        refine lv_aload_n hx hb dX12_closeFor_4 rfl (lv_at hl 0 rfl) ?_
        refine va_get (D := (dC, dI)) (ci := 11) (v := .ref (a 30)) (C := RX12) (T := TX12) (N := 121) hx hb hts in_x_closeFor hown hK hP 0 rfl rfl 60 (by decide) (hts _ (List.mem_cons_of_mem _ (List.mem_append_left _ (List.mem_append_left _ (List.mem_of_getElem? (i := 0) rfl))))) (fun _ h9 => h9) rfl dX12_closeFor_5 ?_
        refine lv_iconst (v := 2) hx hb dX12_closeFor_8 (by decide) ?_
        by_cases q1 : ¬ ((2 : Int32) < 0 ∨ 11514 ≤ (2 : Int32).toNatClampNeg)
        · rw [if_pos q1] at h
          refine va_iald hx hb hK hP 30 1 rfl rfl (nb_inp q1) dX12_closeFor_9 ?_
          refine lv_iconst (v := 1) hx hb dX12_closeFor_10 (by decide) ?_
          refine lv_isub hx hb dX12_closeFor_11 ?_
          refine lv_imul hx hb dX12_closeFor_12 ?_
          refine lv_iadd hx hb dX12_closeFor_13 ?_
          refine lv_istore_n (lv' := [(1, .int (3214 + ((2 * ((((σ.2.2 30 (2 : Int32).toNatClampNeg)) - 1)))))), (0, .ref (a 0))]) hx hb dX12_closeFor_14 rfl hl (by decide) rfl (fun ls hl => ?_)
          exact ih.2.1 (upd L 1 ((3214 + ((2 * ((((σ.2.2 30 (2 : Int32).toNatClampNeg)) - 1))))))) σ r h H locs ls hP hD hS (lv_sub hl [1, 0] rfl)
        · rw [if_neg q1] at h; cases h
      · intro L σ r h H locs ls hP hD hS hl
        rw [x_closeFor] at h
        refine lv_aload_n hx hb dX12_closeFor_15 rfl (lv_at hl 0 rfl) ?_
        refine va_get (D := (dC, dI)) (ci := 11) (v := .ref (a 30)) (C := RX12) (T := TX12) (N := 121) hx hb hts in_x_closeFor hown hK hP 0 rfl rfl 60 (by decide) (hts _ (List.mem_cons_of_mem _ (List.mem_append_left _ (List.mem_append_left _ (List.mem_of_getElem? (i := 0) rfl))))) (fun _ h9 => h9) rfl dX12_closeFor_16 ?_
        refine lv_iconst (v := 3) hx hb dX12_closeFor_19 (by decide) ?_
        by_cases q1 : ¬ ((3 : Int32) < 0 ∨ 11514 ≤ (3 : Int32).toNatClampNeg)
        · rw [if_pos q1] at h
          refine va_iald hx hb hK hP 30 1 rfl rfl (nb_inp q1) dX12_closeFor_20 ?_
          refine lv_aload_n hx hb dX12_closeFor_21 rfl (lv_at hl 0 rfl) ?_
          refine va_get (D := (dC, dI)) (ci := 11) (v := .ref (a 30)) (C := RX12) (T := TX12) (N := 121) hx hb hts in_x_closeFor hown hK hP 0 rfl rfl 60 (by decide) (hts _ (List.mem_cons_of_mem _ (List.mem_append_left _ (List.mem_append_left _ (List.mem_of_getElem? (i := 0) rfl))))) (fun _ h9 => h9) rfl dX12_closeFor_22 ?_
          refine lv_iload_n hx hb dX12_closeFor_25 rfl (lv_at hl 1 rfl) ?_
          refine lv_iconst (v := 1) hx hb dX12_closeFor_26 (by decide) ?_
          refine lv_iadd hx hb dX12_closeFor_27 ?_
          by_cases q2 : ¬ (((((L 1)) + 1)) < 0 ∨ 11514 ≤ ((((L 1)) + 1)).toNatClampNeg)
          · rw [if_pos q2] at h
            refine va_iald hx hb hK hP 30 1 rfl rfl (nb_inp q2) dX12_closeFor_28 ?_
            refine lv_icmp_le (tgt := 39) hx hb dX12_closeFor_29 (by decide) (fun c3 => ?_) (fun c3 => ?_)
            · rw [if_pos c3] at h
              exact ih.2.2.1 L σ r h H locs ls hP hD hS (lv_sub hl [0, 1] rfl)
            · rw [if_neg c3] at h
              refine lv_aload_n hx hb dX12_closeFor_32 rfl (lv_at hl 0 rfl) ?_
              cases hc4 : x_dropIter k 0 (fun _ => 0) σ with
              | none => rw [hc4, ob_none] at h; cases h
              | some r4 =>
                rw [hc4, ob_some] at h
                have hFc := va_free (wc := vM cy a σ) hD hS hA [0, 1, 2, 3, 4, 5, 6, 7, 8, 9, 10, 11, 12, 13, 14, 15, 16, 17, 18, 19, 20, 21, 22, 23, 24, 25, 26, 27, 28, 29, 30, 31, 32, 33, 34, 35, 36, 37, 38, 39, 40, 41, 42, 43, 44, 45, 46, 47, 48, 49, 50, 51, 52, 53, 54, 55, 56, 57] rfl
                refine va_callv (va_runV (As := []) (rest := []) ⟨hx, hb, hml, hown, hts⟩ (c_x_dropIter l dC dI cy a k (fun _ => 0) σ r4 hc4 H.size) (cwV 0 hts g_x_closeFor_dropIter_892 rfl rfl rfl (by decide +kernel) ⟨Nat.le_of_ble_eq_true rfl, Nat.le_of_ble_eq_true rfl⟩) ⟨nb_blind, va_recv hK hP (ci := 11) (q0 := 0) rfl rfl, fun U hU hW => ⟨rfl, by rw [hU], by rw [hU]; exact hP, va_K.moved hW.alike hK, hD.weaken (fun _ _ _ _ => trivial), hG.warm hW⟩⟩ rfl rfl hl.1 rfl (lv_room (Nat.le_of_ble_eq_true rfl)) dX12_closeFor_33 ⟨Nat.le_of_ble_eq_true rfl, Nat.le_of_ble_eq_true rfl⟩) hS (fun q _ h => hFc q h) hFc (fun _ t H1 locs ht hvm hw hB hz1 hk1 hS => ?_)
                obtain ⟨hP1, hK1, hD1⟩ := hB
                rw [ht] at hP1
                obtain ⟨hP, hD⟩ := va_join (wr := []) (w1 := vM cy a r4.2) hP hD [0, 1, 2, 3, 4, 5, 6, 7, 8, 9, 10, 11, 12, 13, 14, 15, 16, 17, 18, 19, 20, 21, 22, 23, 24, 25, 26, 27, 28, 29, 30, 31, 32, 33, 34, 35, 36, 37, 38, 39, 40, 41, 42, 43, 44, 45, 46, 47, 48, 49, 50, 51, 52, 53, 54, 55, 56, 57] [] rfl rfl (by decide) (by decide) hk1 hFc hP1 hD1
                generalize H1 = H at hP hS ⊢
                have hP : va_P (dC, dI) nCl (vM cy a r4.2) H := hP
                have hD : va_D A (vM cy a r4.2) := hD
                refine lv_goto (tgt := 15) hx hb dX12_closeFor_36 (by decide) ?_
                exact ih.2.1 L r4.2 r h H locs ls hP hD hS (lv_sub hl [0, 1] rfl)
          · rw [if_neg q2] at h; cases h
        · rw [if_neg q1] at h; cases h
      · intro L σ r h H locs ls hP hD hS hl
        rw [x_closeFor] at h
        refine lv_aload_n hx hb dX12_closeFor_39 rfl (lv_at hl 0 rfl) ?_
        refine va_get (D := (dC, dI)) (ci := 11) (v := .ref (a 30)) (C := RX12) (T := TX12) (N := 121) hx hb hts in_x_closeFor hown hK hP 0 rfl rfl 60 (by decide) (hts _ (List.mem_cons_of_mem _ (List.mem_append_left _ (List.mem_append_left _ (List.mem_of_getElem? (i := 0) rfl))))) (fun _ h9 => h9) rfl dX12_closeFor_40 ?_
        refine lv_iconst (v := 2) hx hb dX12_closeFor_43 (by decide) ?_
        refine lv_dup2_11 hx hb dX12_closeFor_44 rfl rfl ?_
        by_cases q1 : ¬ ((2 : Int32) < 0 ∨ 11514 ≤ (2 : Int32).toNatClampNeg)
        · rw [if_pos q1] at h
          refine va_iald hx hb hK hP 30 1 rfl rfl (nb_inp q1) dX12_closeFor_45 ?_
          refine lv_iconst (v := 1) hx hb dX12_closeFor_46 (by decide) ?_
          refine lv_isub hx hb dX12_closeFor_47 ?_
          by_cases q2 : ¬ ((2 : Int32) < 0 ∨ 11514 ≤ (2 : Int32).toNatClampNeg)
          · rw [if_pos q2] at h
            refine va_iast hx hb hK hP hD hS 30 1 rfl rfl (nb_inp q2) dX12_closeFor_48 (fun H locs hP hD hS => ?_)
            have hP : va_P (dC, dI) nCl (vM cy a (σ.1, σ.2.1, updG σ.2.2 30 (upd (σ.2.2 30) (2 : Int32).toNatClampNeg ((((σ.2.2 30 (2 : Int32).toNatClampNeg)) - 1))))) H := hP
            have hD : va_D A (vM cy a (σ.1, σ.2.1, updG σ.2.2 30 (upd (σ.2.2 30) (2 : Int32).toNatClampNeg ((((σ.2.2 30 (2 : Int32).toNatClampNeg)) - 1))))) := hD
            exact ih.2.2.2.1 L (σ.1, σ.2.1, updG σ.2.2 30 (upd (σ.2.2 30) (2 : Int32).toNatClampNeg ((((σ.2.2 30 (2 : Int32).toNatClampNeg)) - 1)))) r h H locs ls hP hD hS (lv_sub hl [0, 1] rfl)
          · rw [if_neg q2] at h; cases h
        · rw [if_neg q1] at h; cases h
      · intro L σ r h H locs ls hP hD hS hl
        rw [x_closeFor] at h
        refine lv_aload_n hx hb dX12_closeFor_49 rfl (lv_at hl 0 rfl) ?_
        refine va_get (D := (dC, dI)) (ci := 11) (v := .ref (a 5)) (C := RX12) (T := TX12) (N := 121) hx hb hts in_x_closeFor hown hK hP 0 rfl rfl 15 (by decide) (hts _ (List.mem_cons_of_mem _ (List.mem_append_left _ (List.mem_append_left _ (List.mem_of_getElem? (i := 5) rfl))))) (fun _ h9 => h9) rfl dX12_closeFor_50 ?_
        refine lv_aload_n hx hb dX12_closeFor_53 rfl (lv_at hl 0 rfl) ?_
        refine va_get (D := (dC, dI)) (ci := 11) (v := .ref (a 30)) (C := RX12) (T := TX12) (N := 121) hx hb hts in_x_closeFor hown hK hP 0 rfl rfl 60 (by decide) (hts _ (List.mem_cons_of_mem _ (List.mem_append_left _ (List.mem_append_left _ (List.mem_of_getElem? (i := 0) rfl))))) (fun _ h9 => h9) rfl dX12_closeFor_54 ?_
        refine lv_iload_n hx hb dX12_closeFor_57 rfl (lv_at hl 1 rfl) ?_
        by_cases q1 : ¬ (((L 1)) < 0 ∨ 11514 ≤ ((L 1)).toNatClampNeg)
        · rw [if_pos q1] at h
          refine va_iald hx hb hK hP 30 1 rfl rfl (nb_inp q1) dX12_closeFor_58 ?_
          by_cases q2 : ¬ (((σ.2.2 30 ((L 1)).toNatClampNeg)) < 0 ∨ 70000 ≤ ((σ.2.2 30 ((L 1)).toNatClampNeg)).toNatClampNeg)
          · rw [if_pos q2] at h
            refine va_iald hx hb hK hP 5 1 rfl rfl (nb_inp q2) dX12_closeFor_59 ?_
            refine lv_istore_n (lv' := [(2, .int (σ.2.2 5 ((σ.2.2 30 ((L 1)).toNatClampNeg)).toNatClampNeg)), (0, .ref (a 0)), (1, .int (L 1))]) hx hb dX12_closeFor_60 rfl hl (by decide) rfl (fun ls hl => ?_)
            exact ih.2.2.2.2.1 (upd L 2 ((σ.2.2 5 ((σ.2.2 30 ((L 1)).toNatClampNeg)).toNatClampNeg))) σ r h H locs ls hP hD hS (lv_sub hl [1, 2, 0] rfl)
          · rw [if_neg q2] at h; cases h
        · rw [if_neg q1] at h; cases h
      · intro L σ r h H locs ls hP hD hS hl
        rw [x_closeFor] at h
        refine lv_iload_n hx hb dX12_closeFor_61 rfl (lv_at hl 2 rfl) ?_
        refine lv_iconst (v := (-1)) hx hb dX12_closeFor_62 (by decide) ?_
        refine lv_icmp_eq (tgt := 124) hx hb dX12_closeFor_63 (by decide) (fun c1 => ?_) (fun c1 => ?_)
        · rw [if_pos c1] at h
          exact ih.2.2.2.2.2.2.2.2 L σ r h H locs ls hP hD hS (lv_sub hl [0, 1, 2] rfl)
        · rw [if_neg c1] at h
          refine lv_aload_n hx hb dX12_closeFor_66 rfl (lv_at hl 0 rfl) ?_
          refine va_get (D := (dC, dI)) (ci := 11) (v := .ref (a 6)) (C := RX12) (T := TX12) (N := 121) hx hb hts in_x_closeFor hown hK hP 0 rfl rfl 16 (by decide) (hts _ (List.mem_cons_of_mem _ (List.mem_append_left _ (List.mem_append_left _ (List.mem_of_getElem? (i := 6) rfl))))) (fun _ h9 => h9) rfl dX12_closeFor_67 ?_
          refine lv_iload_n hx hb dX12_closeFor_70 rfl (lv_at hl 2 rfl) ?_
          by_cases q2 : ¬ (((L 2)) < 0 ∨ 70000 ≤ ((L 2)).toNatClampNeg)
          · rw [if_pos q2] at h
            refine va_iald hx hb hK hP 6 1 rfl rfl (nb_inp q2) dX12_closeFor_71 ?_
            refine lv_istore_n (lv' := [(3, .int (σ.2.2 6 ((L 2)).toNatClampNeg)), (0, .ref (a 0)), (1, .int (L 1)), (2, .int (L 2))]) hx hb dX12_closeFor_72 rfl hl (by decide) rfl (fun ls hl => ?_)
            exact ih.2.2.2.2.2.1 (upd L 3 ((σ.2.2 6 ((L 2)).toNatClampNeg))) σ r h H locs ls hP hD hS (lv_sub hl [1, 2, 3, 0] rfl)
          · rw [if_neg q2] at h; cases h
      · intro L σ r h H locs ls hP hD hS hl
        rw [x_closeFor] at h
        refine lv_iload_n hx hb dX12_closeFor_73 rfl (lv_at hl 3 rfl) ?_
        refine lv_iconst (v := (-1)) hx hb dX12_closeFor_74 (by decide) ?_
        refine lv_icmp_eq (tgt := 114) hx hb dX12_closeFor_75 (by decide) (fun c1 => ?_) (fun c1 => ?_)
        · rw [if_pos c1] at h
          exact ih.2.2.2.2.2.2.2.1 L σ r h H locs ls hP hD hS (lv_sub hl [0, 1, 2, 3] rfl)
        · rw [if_neg c1] at h
          refine lv_aload_n hx hb dX12_closeFor_78 rfl (lv_at hl 0 rfl) ?_
          refine lv_dup hx hb dX12_closeFor_79 rfl ?_
          refine va_get (D := (dC, dI)) (ci := 11) (v := .int (σ.1 64)) (C := RX12) (T := TX12) (N := 121) hx hb hts in_x_closeFor hown hK hP 0 rfl rfl 64 (by decide) (hts _ (List.mem_cons_of_mem _ (List.mem_append_left _ (List.mem_append_left _ (List.mem_of_getElem? (i := 7) rfl))))) (fun _ h9 => h9) rfl dX12_closeFor_80 ?_
          refine lv_iconst (v := 1) hx hb dX12_closeFor_83 (by decide) ?_
          refine lv_aload_n hx hb dX12_closeFor_84 rfl (lv_at hl 0 rfl) ?_
          refine lv_aload_n hx hb dX12_closeFor_85 rfl (lv_at hl 0 rfl) ?_
          refine lv_iload_n hx hb dX12_closeFor_86 rfl (lv_at hl 3 rfl) ?_
          cases hc2 : x_valueOf k 0 (upd (fun _ => 0) 1 ((L 3))) σ with
          | none => rw [hc2, ob_none] at h; cases h
          | some r2 =>
            rw [hc2, ob_some] at h
            have hFc := va_free (wc := vM cy a σ) hD hS hA [0, 1, 2, 3, 4, 5, 6, 7, 8, 9, 10, 11, 12, 13, 14, 15, 16, 17, 18, 19, 20, 21, 22, 23, 24, 25, 26, 27, 28, 29, 30, 31, 32, 33, 34, 35, 36, 37, 38, 39, 40, 41, 42, 43, 44, 45, 46, 47, 48, 49, 50, 51, 52, 53, 54, 55, 56, 57] rfl
            refine va_calli (va_runV (As := [.int (L 3)]) (rest := [.ref (a 0), .int 1, .int (σ.1 64), .ref (a 0)]) ⟨hx, hb, hml, hown, hts⟩ (c_x_valueOf l dC dI cy a k (upd (fun _ => 0) 1 ((L 3))) σ r2 hc2 H.size) (cwV 1 hts g_x_closeFor_valueOf_604 rfl rfl rfl (by decide +kernel) ⟨Nat.le_of_ble_eq_true rfl, Nat.le_of_ble_eq_true rfl⟩) ⟨nb_blind, va_recv hK hP (ci := 11) (q0 := 0) rfl rfl, fun U hU hW => ⟨rfl, by rw [hU], by rw [hU]; exact hP, va_K.moved hW.alike hK, hD.weaken (fun _ _ _ _ => trivial), hG.warm hW⟩⟩ rfl rfl hl.1 rfl (lv_room (Nat.le_of_ble_eq_true rfl)) dX12_closeFor_87 ⟨Nat.le_of_ble_eq_true rfl, Nat.le_of_ble_eq_true rfl⟩) hS (fun q _ h => hFc q h) hFc (fun z9 _ t H1 locs ht hvm hw hB hz1 hk1 hS => ?_)
            subst hw
            obtain ⟨hP1, hK1, hD1⟩ := hB
            rw [ht] at hP1
            obtain ⟨hP, hD⟩ := va_join (wr := []) (w1 := vM cy a r2.2) hP hD [0, 1, 2, 3, 4, 5, 6, 7, 8, 9, 10, 11, 12, 13, 14, 15, 16, 17, 18, 19, 20, 21, 22, 23, 24, 25, 26, 27, 28, 29, 30, 31, 32, 33, 34, 35, 36, 37, 38, 39, 40, 41, 42, 43, 44, 45, 46, 47, 48, 49, 50, 51, 52, 53, 54, 55, 56, 57] [] rfl rfl (by decide) (by decide) hk1 hFc hP1 hD1
            generalize H1 = H at hP hS ⊢
            have hP : va_P (dC, dI) nCl (vM cy a r2.2) H := hP
            have hD : va_D A (vM cy a r2.2) := hD
            cases hc3 : x_size k 0 (upd (fun _ => 0) 1 r2.1) r2.2 with
            | none => rw [hc3, ob_none] at h; cases h
            | some r3 =>
              rw [hc3, ob_some] at h
              have hFc := va_free (wc := vM cy a r2.2) hD hS hA [0, 1, 2, 3, 4, 5, 6, 7, 8, 9, 10, 11, 12, 13, 14, 15, 16, 17, 18, 19, 20, 21, 22, 23, 24, 25, 26, 27, 28, 29, 30, 31, 32, 33, 34, 35, 36, 37, 38, 39, 40, 41, 42, 43, 44, 45, 46, 47, 48, 49, 50, 51, 52, 53, 54, 55, 56, 57] rfl
              refine va_calli (va_runV (As := [.int r2.1]) (rest := [.int 1, .int (σ.1 64), .ref (a 0)]) ⟨hx, hb, hml, hown, hts⟩ (c_x_size l dC dI cy a k (upd (fun _ => 0) 1 r2.1) r2.2 r3 hc3 H.size) (cwV 1 hts g_x_closeFor_size_432 rfl rfl rfl (by decide +kernel) ⟨Nat.le_of_ble_eq_true rfl, Nat.le_of_ble_eq_true rfl⟩) ⟨nb_blind, va_recv hK hP (ci := 11) (q0 := 0) rfl rfl, fun U hU hW => ⟨rfl, by rw [hU], by rw [hU]; exact hP, va_K.moved hW.alike hK, hD.weaken (fun _ _ _ _ => trivial), hG.warm hW⟩⟩ rfl rfl hl.1 rfl (lv_room (Nat.le_of_ble_eq_true rfl)) dX12_closeFor_90 ⟨Nat.le_of_ble_eq_true rfl, Nat.le_of_ble_eq_true rfl⟩) hS (fun q _ h => hFc q h) hFc (fun z9 _ t H1 locs ht hvm hw hB hz1 hk1 hS => ?_)
              subst hw
              obtain ⟨hP1, hK1, hD1⟩ := hB
              rw [ht] at hP1
              obtain ⟨hP, hD⟩ := va_join (wr := []) (w1 := vM cy a r3.2) hP hD [0, 1, 2, 3, 4, 5, 6, 7, 8, 9, 10, 11, 12, 13, 14, 15, 16, 17, 18, 19, 20, 21, 22, 23, 24, 25, 26, 27, 28, 29, 30, 31, 32, 33, 34, 35, 36, 37, 38, 39, 40, 41, 42, 43, 44, 45, 46, 47, 48, 49, 50, 51, 52, 53, 54, 55, 56, 57] [] rfl rfl (by decide) (by decide) hk1 hFc hP1 hD1
              generalize H1 = H at hP hS ⊢
              have hP : va_P (dC, dI) nCl (vM cy a r3.2) H := hP
              have hD : va_D A (vM cy a r3.2) := hD
              refine lv_isub hx hb dX12_closeFor_93 ?_
              refine lv_iadd hx hb dX12_closeFor_94 ?_
              refine va_put (D := (dC, dI)) (ci := 11) (v := .int (((σ.1 64)) + ((1 - r3.1)))) (ty := .int) (C := RX12) (T := TX12) (N := 121) hx hb hts in_x_closeFor tyX12 tyX12_ok nmX12 hown hK hP hD hS 0 rfl rfl 64 (by decide) (hts _ (List.mem_cons_of_mem _ (List.mem_append_left _ (List.mem_append_left _ (List.mem_of_getElem? (i := 7) rfl))))) (fun _ h9 => h9) rfl (by decide +kernel) rfl rfl (Nat.le_of_ble_eq_true rfl) dX12_closeFor_95 (fun H locs hP hD hS => ?_)
              have hP : va_P (dC, dI) nCl (vM cy a (upd r3.2.1 64 ((((σ.1 64)) + ((1 - r3.1)))), r3.2.2.1, r3.2.2.2)) H := hP
              have hD : va_D A (vM cy a (upd r3.2.1 64 ((((σ.1 64)) + ((1 - r3.1)))), r3.2.2.1, r3.2.2.2)) := hD
              exact ih.2.2.2.2.2.2.1 L (upd r3.2.1 64 ((((σ.1 64)) + ((1 - r3.1)))), r3.2.2.1, r3.2.2.2) r h H locs ls hP hD hS (lv_sub hl [0, 1, 2, 3] rfl)
      · intro L σ r h H locs ls hP hD hS hl
        rw [x_closeFor] at h
        refine lv_aload_n hx hb dX12_closeFor_98 rfl (lv_at hl 0 rfl) ?_
        refine lv_iload_n hx hb dX12_closeFor_99 rfl (lv_at hl 3 rfl) ?_
        refine lv_iconst (v := 0) hx hb dX12_closeFor_100 (by decide) ?_
        cases hc1 : x_bindOne k 0 (upd (upd (fun _ => 0) 1 ((L 3))) 2 0) σ with
        | none => rw [hc1, ob_none] at h; cases h
        | some r1 =>
          rw [hc1, ob_some] at h
          have hFc := va_free (wc := vM cy a σ) hD hS hA [0, 1, 2, 3, 4, 5, 6, 7, 8, 9, 10, 11, 12, 13, 14, 15, 16, 17, 18, 19, 20, 21, 22, 23, 24, 25, 26, 27, 28, 29, 30, 31, 32, 33, 34, 35, 36, 37, 38, 39, 40, 41, 42, 43, 44, 45, 46, 47, 48, 49, 50, 51, 52, 53, 54, 55, 56, 57] rfl
          refine va_callv (va_runV (As := [.int (L 3), .int 0]) (rest := []) ⟨hx, hb, hml, hown, hts⟩ (c_x_bindOne l dC dI cy a k (upd (upd (fun _ => 0) 1 ((L 3))) 2 0) σ r1 hc1 H.size) (cwV 2 hts g_x_closeFor_bindOne_694 rfl rfl rfl (by decide +kernel) ⟨Nat.le_of_ble_eq_true rfl, Nat.le_of_ble_eq_true rfl⟩) ⟨nb_blind, va_recv hK hP (ci := 11) (q0 := 0) rfl rfl, fun U hU hW => ⟨rfl, by rw [hU], by rw [hU]; exact hP, va_K.moved hW.alike hK, hD.weaken (fun _ _ _ _ => trivial), hG.warm hW⟩⟩ rfl rfl hl.1 rfl (lv_room (Nat.le_of_ble_eq_true rfl)) dX12_closeFor_101 ⟨Nat.le_of_ble_eq_true rfl, Nat.le_of_ble_eq_true rfl⟩) hS (fun q _ h => hFc q h) hFc (fun _ t H1 locs ht hvm hw hB hz1 hk1 hS => ?_)
          obtain ⟨hP1, hK1, hD1⟩ := hB
          rw [ht] at hP1
          obtain ⟨hP, hD⟩ := va_join (wr := []) (w1 := vM cy a r1.2) hP hD [0, 1, 2, 3, 4, 5, 6, 7, 8, 9, 10, 11, 12, 13, 14, 15, 16, 17, 18, 19, 20, 21, 22, 23, 24, 25, 26, 27, 28, 29, 30, 31, 32, 33, 34, 35, 36, 37, 38, 39, 40, 41, 42, 43, 44, 45, 46, 47, 48, 49, 50, 51, 52, 53, 54, 55, 56, 57] [] rfl rfl (by decide) (by decide) hk1 hFc hP1 hD1
          generalize H1 = H at hP hS ⊢
          have hP : va_P (dC, dI) nCl (vM cy a r1.2) H := hP
          have hD : va_D A (vM cy a r1.2) := hD
          refine lv_aload_n hx hb dX12_closeFor_104 rfl (lv_at hl 0 rfl) ?_
          refine va_get (D := (dC, dI)) (ci := 11) (v := .ref (a 9)) (C := RX12) (T := TX12) (N := 121) hx hb hts in_x_closeFor hown hK hP 0 rfl rfl 19 (by decide) (hts _ (List.mem_cons_of_mem _ (List.mem_append_left _ (List.mem_append_left _ (List.mem_of_getElem? (i := 17) rfl))))) (fun _ h9 => h9) rfl dX12_closeFor_105 ?_
          refine lv_iload_n hx hb dX12_closeFor_108 rfl (lv_at hl 3 rfl) ?_
          by_cases q2 : ¬ (((L 3)) < 0 ∨ 70000 ≤ ((L 3)).toNatClampNeg)
          · rw [if_pos q2] at h
            refine va_iald hx hb hK hP 9 1 rfl rfl (nb_inp q2) dX12_closeFor_109 ?_
            refine lv_istore_n (lv' := [(3, .int (r1.2.2.2 9 ((L 3)).toNatClampNeg)), (0, .ref (a 0)), (1, .int (L 1)), (2, .int (L 2))]) hx hb dX12_closeFor_110 rfl hl (by decide) rfl (fun ls hl => ?_)
            refine lv_goto (tgt := 73) hx hb dX12_closeFor_111 (by decide) ?_
            exact ih.2.2.2.2.2.1 (upd L 3 ((r1.2.2.2 9 ((L 3)).toNatClampNeg))) r1.2 r h H locs ls hP hD hS (lv_sub hl [1, 2, 3, 0] rfl)
          · rw [if_neg q2] at h; cases h
      · intro L σ r h H locs ls hP hD hS hl
        rw [x_closeFor] at h
        refine lv_aload_n hx hb dX12_closeFor_114 rfl (lv_at hl 0 rfl) ?_
        refine va_get (D := (dC, dI)) (ci := 11) (v := .ref (a 9)) (C := RX12) (T := TX12) (N := 121) hx hb hts in_x_closeFor hown hK hP 0 rfl rfl 19 (by decide) (hts _ (List.mem_cons_of_mem _ (List.mem_append_left _ (List.mem_append_left _ (List.mem_of_getElem? (i := 17) rfl))))) (fun _ h9 => h9) rfl dX12_closeFor_115 ?_
        refine lv_iload_n hx hb dX12_closeFor_118 rfl (lv_at hl 2 rfl) ?_
        by_cases q1 : ¬ (((L 2)) < 0 ∨ 70000 ≤ ((L 2)).toNatClampNeg)
        · rw [if_pos q1] at h
          refine va_iald hx hb hK hP 9 1 rfl rfl (nb_inp q1) dX12_closeFor_119 ?_
          refine lv_istore_n (lv' := [(2, .int (σ.2.2 9 ((L 2)).toNatClampNeg)), (0, .ref (a 0)), (1, .int (L 1)), (3, .int (L 3))]) hx hb dX12_closeFor_120 rfl hl (by decide) rfl (fun ls hl => ?_)
          refine lv_goto (tgt := 61) hx hb dX12_closeFor_121 (by decide) ?_
          exact ih.2.2.2.2.1 (upd L 2 ((σ.2.2 9 ((L 2)).toNatClampNeg))) σ r h H locs ls hP hD hS (lv_sub hl [1, 2, 0] rfl)
        · rw [if_neg q1] at h; cases h
      · intro L σ r h H locs ls hP hD hS hl
        rw [x_closeFor] at h
        cases h
        exact W.vret hx hb hr (fun t ht hW => ⟨⟨(), rfl, trivial, by rw [ht]; exact hP, va_K.moved hW.alike hK, hD⟩, hS.F ht⟩) hS.2.2 dX12_closeFor_124
  exact (blk k0).1 L0 σ0 r0 h0 s.heap [] ls hP hD hS hl
/-! iterOf -/
def x_iterOf : Nat → Nat → (Nat → Int32) → MS → Option (Int32 × MS)
  | 0, _, _, _ => none
  | k + 1, 0, L, σ => if ¬ (((L 1)) < 0 ∨ 70000 ≤ ((L 1)).toNatClampNeg) then (x_iterOf k 1 (upd (upd L 3 ((σ.2.2 5 ((L 1)).toNatClampNeg))) 4 0) σ) else none
  | k + 1, 1, L, σ => if ((L 2)) ≤ ((L 4)) then (x_iterOf k 2 L σ) else (if ¬ (((L 3)) < 0 ∨ 70000 ≤ ((L 3)).toNatClampNeg) then (x_iterOf k 1 (upd (upd L 3 ((σ.2.2 9 ((L 3)).toNatClampNeg))) 4 (((L 4)) + 1)) σ) else none)
  | k + 1, 2, L, σ => some ((L 3), σ)
  | _ + 1, _ + 3, _, _ => none
def o_x_iterOf : List Cond := [.fieldLink RX12 86 "SetHouseModel" "x1" "[I", .fieldLink RX12 98 "SetHouseModel" "next" "[I"]
theorem o_x_iterOf_good : o_x_iterOf.all goodWord = true := by decide +kernel
def p_x_iterOf : List Cond := o_x_iterOf ++ []
theorem p_x_iterOf_good : p_x_iterOf.all goodWord = true := nb_all2 o_x_iterOf_good rfl
def w_x_iterOf : List Cond := .code yX12_iterOf cX12_iterOf 5 (some .int) :: (p_x_iterOf ++ fM)
theorem w_x_iterOf_good : w_x_iterOf.all goodWord = true := nb_allc (by decide +kernel) (nb_all2 p_x_iterOf_good fM_good)
theorem in_x_iterOf : ∀ w ∈ wsX120, w ∈ w_x_iterOf := fun _ h => List.mem_cons_of_mem _ (List.mem_append_right _ h)
set_option maxHeartbeats 40000000 in
set_option maxRecDepth 100000 in
theorem c_x_iterOf (l : Launch) (dC : Nat → ClassId) (dI : Nat → Nat → Nat) (cy : Nat → ClassId) (a : Nat → Nat) (k0 : Nat) (L0 : Nat → Int32) (σ0 : MS) (r0 : Int32 × MS) (h0 : x_iterOf k0 0 L0 σ0 = some r0) (sz : Nat) : Met l yX12_iterOf w_x_iterOf ({ frames := 0, cells := 0, slots := 0, locals := 0 }) (va_Pc [.ref (a 0), .int (L0 1), .int (L0 2)] (nIn (dC, dI) cy sz (vM cy a σ0))) (va_Qi (fun (z : Int32) (_ : Unit) => z = r0.1) (fun _ t => nOut (dC, dI) cy (va_A (vM cy a σ0) sz) (vM cy a r0.2) t) (va_A (vM cy a σ0) sz)) 0 0 (va_A (vM cy a σ0) sz) := by
  refine Met.ofW (cc := cX12_iterOf) (maxL := 5) (ret := (some .int)) (by decide) rfl ?_
  intro p e s m args below meth c s₁ B hml hv
  obtain ⟨rfl, hsz, hP, hK, hD0, hG⟩ := hv
  have hx := B.exec
  have hb := B.bytes
  have hr := B.returns
  have hts := atoms_spec (ws := w_x_iterOf) B.pre
  have hown : s.vm.findClass RX12 = some m.cls := findClass_of_methodNamed B.named
  have hlocks := B.notSynchronized
  subst hsz
  have hD := hD0.self (sz := s.heap.size)
  generalize hAe : va_A (vM cy a σ0) s.heap.size = A at hD ⊢
  have hA : ∀ q : Nat, s.heap.size ≤ q → A q := fun q h => by rw [← hAe]; exact Or.inr h
  have hS : va_S A s.heap s.heap [] := va_S.rf
  have hl := lv_entry ([.ref (a 0), .int (L0 1), .int (L0 2)]) (n := 5) (Nat.le_of_ble_eq_true rfl)
  rw [lg_entry_eq]
  generalize (lg_sl ([.ref (a 0), .int (L0 1), .int (L0 2)]) ++ List.replicate (5 - (lg_sl ([.ref (a 0), .int (L0 1), .int (L0 2)])).length) Slot.unset).toArray = ls at hl ⊢
  have hl : lv_has ls 5 [(0, .ref (a 0)), (1, .int (L0 1)), (2, .int (L0 2))] := hl
  have blk : ∀ k : Nat, (∀ (L : Nat → Int32) (σ : MS) (r : Int32 × MS), x_iterOf k 0 L σ = some r → ∀ (H : Heap) (locs : List Loc) (ls : Array Slot), va_P (dC, dI) nCl (vM cy a σ) H → va_D A (vM cy a σ) → va_S A s.heap H locs → lv_has ls 5 [(0, .ref (a 0)), (1, .int (L 1)), (2, .int (L 2))] → W p l e (headSpec w_x_iterOf ({ frames := 0, cells := 0, slots := 0, locals := 0 })).room s m #[.ref (a 0), .int (L0 1), .int (L0 2)] below meth c H locs 0 0 (MQ below (va_Qi (fun (z : Int32) (_ : Unit) => z = r.1) (fun _ t => nOut (dC, dI) cy A (vM cy a r.2) t) A) #[.ref (a 0), .int (L0 1), .int (L0 2)] s 0 0 A) (F0 m 0 ls [])) ∧ (∀ (L : Nat → Int32) (σ : MS) (r : Int32 × MS), x_iterOf k 1 L σ = some r → ∀ (H : Heap) (locs : List Loc) (ls : Array Slot), va_P (dC, dI) nCl (vM cy a σ) H → va_D A (vM cy a σ) → va_S A s.heap H locs → lv_has ls 5 [(0, .ref (a 0)), (1, .int (L 1)), (2, .int (L 2)), (3, .int (L 3)), (4, .int (L 4))] → W p l e (headSpec w_x_iterOf ({ frames := 0, cells := 0, slots := 0, locals := 0 })).room s m #[.ref (a 0), .int (L0 1), .int (L0 2)] below meth c H locs 0 0 (MQ below (va_Qi (fun (z : Int32) (_ : Unit) => z = r.1) (fun _ t => nOut (dC, dI) cy A (vM cy a r.2) t) A) #[.ref (a 0), .int (L0 1), .int (L0 2)] s 0 0 A) (F0 m 10 ls [])) ∧ (∀ (L : Nat → Int32) (σ : MS) (r : Int32 × MS), x_iterOf k 2 L σ = some r → ∀ (H : Heap) (locs : List Loc) (ls : Array Slot), va_P (dC, dI) nCl (vM cy a σ) H → va_D A (vM cy a σ) → va_S A s.heap H locs → lv_has ls 5 [(0, .ref (a 0)), (1, .int (L 1)), (2, .int (L 2)), (3, .int (L 3)), (4, .int (L 4))] → W p l e (headSpec w_x_iterOf ({ frames := 0, cells := 0, slots := 0, locals := 0 })).room s m #[.ref (a 0), .int (L0 1), .int (L0 2)] below meth c H locs 0 0 (MQ below (va_Qi (fun (z : Int32) (_ : Unit) => z = r.1) (fun _ t => nOut (dC, dI) cy A (vM cy a r.2) t) A) #[.ref (a 0), .int (L0 1), .int (L0 2)] s 0 0 A) (F0 m 29 ls [])) := by
    intro k
    induction k with
    | zero => exact ⟨fun L σ r h => (by cases h), fun L σ r h => (by cases h), fun L σ r h => (by cases h)⟩
    | succ k ih =>
      refine ⟨?_, ?_, ?_⟩
      · intro L σ r h H locs ls hP hD hS hl
        rw [x_iterOf] at h
        refine lv_aload_n hx hb dX12_iterOf_0 rfl (lv_at hl 0 rfl) ?_
        refine va_get (D := (dC, dI)) (ci := 11) (v := .ref (a 5)) (C := RX12) (T := TX12) (N := 121) hx hb hts in_x_iterOf hown hK hP 0 rfl rfl 15 (by decide) (hts _ (List.mem_cons_of_mem _ (List.mem_append_left _ (List.mem_append_left _ (List.mem_of_getElem? (i := 0) rfl))))) (fun _ h9 => h9) rfl dX12_iterOf_1 ?_
        refine lv_iload_n hx hb dX12_iterOf_4 rfl (lv_at hl 1 rfl) ?_
        by_cases q1 : ¬ (((L 1)) < 0 ∨ 70000 ≤ ((L 1)).toNatClampNeg)
        · rw [if_pos q1] at h
          refine va_iald hx hb hK hP 5 1 rfl rfl (nb_inp q1) dX12_iterOf_5 ?_
          refine lv_istore_n (lv' := [(3, .int (σ.2.2 5 ((L 1)).toNatClampNeg)), (0, .ref (a 0)), (1, .int (L 1)), (2, .int (L 2))]) hx hb dX12_iterOf_6 rfl hl (by decide) rfl (fun ls hl => ?_)
          refine lv_iconst (v := 0) hx hb dX12_iterOf_7 (by decide) ?_
          refine lv_istore (lv' := [(4, .int 0), (3, .int (σ.2.2 5 ((L 1)).toNatClampNeg)), (0, .ref (a 0)), (1, .int (L 1)), (2, .int (L 2))]) hx hb dX12_iterOf_8 hl (by decide) rfl (fun ls hl => ?_)
          exact ih.2.1 (upd (upd L 3 ((σ.2.2 5 ((L 1)).toNatClampNeg))) 4 0) σ r h H locs ls hP hD hS (lv_sub hl [2, 3, 4, 1, 0] rfl)
        · rw [if_neg q1] at h; cases h
      · intro L σ r h H locs ls hP hD hS hl
        rw [x_iterOf] at h
        refine lv_iload hx hb dX12_iterOf_10 (lv_at hl 4 rfl) ?_
        refine lv_iload_n hx hb dX12_iterOf_12 rfl (lv_at hl 2 rfl) ?_
        refine lv_icmp_ge (tgt := 29) hx hb dX12_iterOf_13 (by decide) (fun c1 => ?_) (fun c1 => ?_)
        · rw [if_pos c1] at h
          exact ih.2.2 L σ r h H locs ls hP hD hS (lv_sub hl [0, 1, 2, 3, 4] rfl)
        · rw [if_neg c1] at h
          refine lv_aload_n hx hb dX12_iterOf_16 rfl (lv_at hl 0 rfl) ?_
          refine va_get (D := (dC, dI)) (ci := 11) (v := .ref (a 9)) (C := RX12) (T := TX12) (N := 121) hx hb hts in_x_iterOf hown hK hP 0 rfl rfl 19 (by decide) (hts _ (List.mem_cons_of_mem _ (List.mem_append_left _ (List.mem_append_left _ (List.mem_of_getElem? (i := 1) rfl))))) (fun _ h9 => h9) rfl dX12_iterOf_17 ?_
          refine lv_iload_n hx hb dX12_iterOf_20 rfl (lv_at hl 3 rfl) ?_
          by_cases q2 : ¬ (((L 3)) < 0 ∨ 70000 ≤ ((L 3)).toNatClampNeg)
          · rw [if_pos q2] at h
            refine va_iald hx hb hK hP 9 1 rfl rfl (nb_inp q2) dX12_iterOf_21 ?_
            refine lv_istore_n (lv' := [(3, .int (σ.2.2 9 ((L 3)).toNatClampNeg)), (0, .ref (a 0)), (1, .int (L 1)), (2, .int (L 2)), (4, .int (L 4))]) hx hb dX12_iterOf_22 rfl hl (by decide) rfl (fun ls hl => ?_)
            refine lv_iinc (v := ((L 4)) + 1) (lv' := [(4, .int (((L 4)) + 1)), (3, .int (σ.2.2 9 ((L 3)).toNatClampNeg)), (0, .ref (a 0)), (1, .int (L 1)), (2, .int (L 2))]) hx hb dX12_iterOf_23 hl (k := 4) rfl rfl (by decide) rfl (fun ls hl => ?_)
            refine lv_goto (tgt := 10) hx hb dX12_iterOf_26 (by decide) ?_
            exact ih.2.1 (upd (upd L 3 ((σ.2.2 9 ((L 3)).toNatClampNeg))) 4 (((L 4)) + 1)) σ r h H locs ls hP hD hS (lv_sub hl [2, 3, 4, 1, 0] rfl)
          · rw [if_neg q2] at h; cases h
      · intro L σ r h H locs ls hP hD hS hl
        rw [x_iterOf] at h
        refine lv_iload_n hx hb dX12_iterOf_29 rfl (lv_at hl 3 rfl) ?_
        cases h
        exact W.iret (v := (L 3)) hx hb hr (fun t ht hW => ⟨⟨(L 3), (), rfl, rfl, by rw [ht]; exact hP, va_K.moved hW.alike hK, hD⟩, hS.F ht⟩) hS.2.2 dX12_iterOf_30
  exact (blk k0).1 L0 σ0 r0 h0 s.heap [] ls hP hD hS hl
/-! stepFor -/
def x_stepFor : Nat → Nat → (Nat → Int32) → MS → Option (Int32 × MS)
  | 0, _, _, _ => none
  | k + 1, 0, L, σ => if ¬ ((3 : Int32) < 0 ∨ 11514 ≤ (3 : Int32).toNatClampNeg) then (if ¬ (((5314 + ((((σ.2.2 30 (3 : Int32).toNatClampNeg)) - 1)))) < 0 ∨ 11514 ≤ ((5314 + ((((σ.2.2 30 (3 : Int32).toNatClampNeg)) - 1)))).toNatClampNeg) then (if ¬ (((8414 + ((((σ.2.2 30 (3 : Int32).toNatClampNeg)) - 1)))) < 0 ∨ 11514 ≤ ((8414 + ((((σ.2.2 30 (3 : Int32).toNatClampNeg)) - 1)))).toNatClampNeg) then (if ¬ (((((σ.2.2 30 ((5314 + ((((σ.2.2 30 (3 : Int32).toNatClampNeg)) - 1)))).toNatClampNeg)) + 1)) < 0 ∨ 1740000 ≤ ((((σ.2.2 30 ((5314 + ((((σ.2.2 30 (3 : Int32).toNatClampNeg)) - 1)))).toNatClampNeg)) + 1)).toNatClampNeg) then (if ((σ.2.2 30 ((8414 + ((((σ.2.2 30 (3 : Int32).toNatClampNeg)) - 1)))).toNatClampNeg)) = ((σ.2.2 28 ((((σ.2.2 30 ((5314 + ((((σ.2.2 30 (3 : Int32).toNatClampNeg)) - 1)))).toNatClampNeg)) + 1)).toNatClampNeg)) then (some (0, σ)) else (x_stepFor k 1 (upd (upd (upd L 2 ((((σ.2.2 30 (3 : Int32).toNatClampNeg)) - 1))) 3 ((σ.2.2 30 ((5314 + ((((σ.2.2 30 (3 : Int32).toNatClampNeg)) - 1)))).toNatClampNeg))) 4 ((σ.2.2 30 ((8414 + ((((σ.2.2 30 (3 : Int32).toNatClampNeg)) - 1)))).toNatClampNeg))) σ)) else none) else none) else none) else none
  | k + 1, 1, L, σ => if ¬ (((8414 + ((L 2)))) < 0 ∨ 11514 ≤ ((8414 + ((L 2)))).toNatClampNeg) then (x_stepFor k 2 L (σ.1, σ.2.1, updG σ.2.2 30 (upd (σ.2.2 30) ((8414 + ((L 2)))).toNatClampNeg ((((L 4)) + 1))))) else none
  | k + 1, 2, L, σ => ob (x_worked k 0 (upd (fun _ => 0) 1 1) σ) (fun r1 => if ((r1.2.1 56)) ≤ 0 then (x_stepFor k 3 L r1.2) else (some (0, r1.2)))
  | k + 1, 3, L, σ => ob (x_memberAt k 0 (upd (upd (fun _ => 0) 1 ((L 3))) 2 ((L 4))) σ) (fun r1 => if ¬ (((L 1)) < 0 ∨ 70000 ≤ ((L 1)).toNatClampNeg) then (if ((r1.2.2.2 5 ((L 1)).toNatClampNeg)) = 0 then (if ¬ (((L 1)) < 0 ∨ 70000 ≤ ((L 1)).toNatClampNeg) then (ob (x_assign k 0 (upd (upd (fun _ => 0) 1 ((r1.2.2.2 6 ((L 1)).toNatClampNeg))) 2 r1.1) r1.2) (fun r5 => if ((r5.2.1 56)) = 0 then (x_stepFor k 5 (upd (upd L 5 r1.1) 100 1) r5.2) else (x_stepFor k 4 (upd L 5 r1.1) r5.2))) else none) else (x_stepFor k 6 (upd L 5 r1.1) r1.2)) else none)
  | k + 1, 4, L, σ => x_stepFor k 5 (upd L 100 0) σ
  | k + 1, 5, L, σ => if ((L 100)) = 0 ∨ ((L 100)) = 1 then some ((L 100), σ) else none
  | k + 1, 6, L, σ => if ¬ (((L 1)) < 0 ∨ 70000 ≤ ((L 1)).toNatClampNeg) then (x_stepFor k 7 (upd (upd L 6 0) 7 ((σ.2.2 6 ((L 1)).toNatClampNeg))) σ) else none
  | k + 1, 7, L, σ => if ((L 7)) = ((-1)) then (x_stepFor k 8 L σ) else (if ¬ (((L 7)) < 0 ∨ 70000 ≤ ((L 7)).toNatClampNeg) then (x_stepFor k 7 (upd (upd L 6 (((L 6)) + 1)) 7 ((σ.2.2 9 ((L 7)).toNatClampNeg))) σ) else none)
  | k + 1, 8, L, σ => ob (x_kind k 0 (upd (fun _ => 0) 1 ((L 5))) σ) (fun r1 => if r1.1 = 5 then (if ¬ (((((L 5)) + 1)) < 0 ∨ 1740000 ≤ ((((L 5)) + 1)).toNatClampNeg) then (if ((r1.2.2.2 28 ((((L 5)) + 1)).toNatClampNeg)) ≤ ((L 6)) then (x_stepFor k 10 L r1.2) else (x_stepFor k 9 L r1.2)) else none) else (x_stepFor k 9 L r1.2))
  | k + 1, 9, L, σ => ob (x_fail k 0 (upd (fun _ => 0) 1 1) σ) (fun r1 => some (0, r1.2))
  | k + 1, 10, L, σ => if ¬ (((L 1)) < 0 ∨ 70000 ≤ ((L 1)).toNatClampNeg) then (x_stepFor k 11 (upd (upd L 7 0) 8 ((σ.2.2 6 ((L 1)).toNatClampNeg))) σ) else none
  | k + 1, 11, L, σ => if ((L 8)) = ((-1)) then (x_stepFor k 14 L σ) else (if ¬ (((((L 5)) + 1)) < 0 ∨ 1740000 ≤ ((((L 5)) + 1)).toNatClampNeg) then (if ((σ.2.2 28 ((((L 5)) + 1)).toNatClampNeg)) ≤ ((L 7)) then (x_stepFor k 12 (upd L 100 ((L 8))) σ) else (if ¬ (((((((L 5)) + 4)) + ((L 7)))) < 0 ∨ 1740000 ≤ ((((((L 5)) + 4)) + ((L 7)))).toNatClampNeg) then (x_stepFor k 13 (upd (upd L 100 ((σ.2.2 28 ((((((L 5)) + 4)) + ((L 7)))).toNatClampNeg))) 101 ((L 8))) σ) else none)) else none)
  | k + 1, 12, L, σ => x_stepFor k 13 (upd (upd L 100 0) 101 ((L 100))) σ
  | k + 1, 13, L, σ => ob (x_assign k 0 (upd (upd (fun _ => 0) 1 ((L 101))) 2 ((L 100))) σ) (fun r1 => if ¬ (((L 8)) < 0 ∨ 70000 ≤ ((L 8)).toNatClampNeg) then (x_stepFor k 11 (upd (upd L 7 (((L 7)) + 1)) 8 ((r1.2.2.2 9 ((L 8)).toNatClampNeg))) r1.2) else none)
  | k + 1, 14, L, σ => if ((σ.1 56)) = 0 then (x_stepFor k 16 (upd L 100 1) σ) else (x_stepFor k 15 L σ)
  | k + 1, 15, L, σ => x_stepFor k 16 (upd L 100 0) σ
  | k + 1, 16, L, σ => if ((L 100)) = 0 ∨ ((L 100)) = 1 then some ((L 100), σ) else none
  | _ + 1, _ + 17, _, _ => none
def o_x_stepFor : List Cond := [.fieldLink RX12 395 "SetHouseModel" "st" "[I", .fieldLink RX12 372 "SetHouseModel" "heap" "[I", .methodLink RX12 563 yX12_worked, .instanceMethod yX12_worked, .selects RX12 yX12_worked yX12_worked, .initialized RX12, .fieldLink RX12 362 "SetHouseModel" "err" "I", .methodLink RX12 703 yX12_memberAt, .instanceMethod yX12_memberAt, .selects RX12 yX12_memberAt yX12_memberAt, .fieldLink RX12 86 "SetHouseModel" "x1" "[I", .fieldLink RX12 89 "SetHouseModel" "x2" "[I", .methodLink RX12 840 yX12_assign, .instanceMethod yX12_assign, .selects RX12 yX12_assign yX12_assign, .fieldLink RX12 98 "SetHouseModel" "next" "[I", .methodLink RX12 545 yX12_kind, .instanceMethod yX12_kind, .selects RX12 yX12_kind yX12_kind, .methodLink RX12 369 yX12_fail, .instanceMethod yX12_fail, .selects RX12 yX12_fail yX12_fail]
theorem o_x_stepFor_good : o_x_stepFor.all goodWord = true := by decide +kernel
def p_x_stepFor : List Cond := o_x_stepFor ++ ((.code yX12_worked cX12_worked 2 none :: p_x_worked) ++ ((.code yX12_memberAt cX12_memberAt 3 (some .int) :: p_x_memberAt) ++ ((.code yX12_assign cX12_assign 4 none :: p_x_assign) ++ ((.code yX12_kind cX12_kind 2 (some .int) :: p_x_kind) ++ ((.code yX12_fail cX12_fail 2 none :: p_x_fail) ++ [])))))
theorem p_x_stepFor_good : p_x_stepFor.all goodWord = true := nb_all2 o_x_stepFor_good (nb_all2 (nb_allc (by decide +kernel) p_x_worked_good) (nb_all2 (nb_allc (by decide +kernel) p_x_memberAt_good) (nb_all2 (nb_allc (by decide +kernel) p_x_assign_good) (nb_all2 (nb_allc (by decide +kernel) p_x_kind_good) (nb_all2 (nb_allc (by decide +kernel) p_x_fail_good) rfl)))))
def w_x_stepFor : List Cond := .code yX12_stepFor cX12_stepFor 9 (some .boolean) :: (p_x_stepFor ++ fM)
theorem w_x_stepFor_good : w_x_stepFor.all goodWord = true := nb_allc (by decide +kernel) (nb_all2 p_x_stepFor_good fM_good)
theorem in_x_stepFor : ∀ w ∈ wsX120, w ∈ w_x_stepFor := fun _ h => List.mem_cons_of_mem _ (List.mem_append_right _ h)
theorem gg_x_stepFor_worked : GoodIn w_x_stepFor w_x_worked := goodIn_sub (fun w h => (List.mem_cons.mp h).elim (fun e => (List.mem_cons_of_mem _ (List.mem_append_left _ (List.mem_append_right _ (List.mem_append_left _ (List.mem_cons.mpr (Or.inl e))))))) (fun h => (List.mem_append.mp h).elim (fun h => (List.mem_cons_of_mem _ (List.mem_append_left _ (List.mem_append_right _ (List.mem_append_left _ (List.mem_cons_of_mem _ h)))))) (fun h => List.mem_cons_of_mem _ (List.mem_append_right _ h)))) w_x_worked_good
theorem gg_x_stepFor_memberAt : GoodIn w_x_stepFor w_x_memberAt := goodIn_sub (fun w h => (List.mem_cons.mp h).elim (fun e => (List.mem_cons_of_mem _ (List.mem_append_left _ (List.mem_append_right _ (List.mem_append_right _ (List.mem_append_left _ (List.mem_cons.mpr (Or.inl e)))))))) (fun h => (List.mem_append.mp h).elim (fun h => (List.mem_cons_of_mem _ (List.mem_append_left _ (List.mem_append_right _ (List.mem_append_right _ (List.mem_append_left _ (List.mem_cons_of_mem _ h))))))) (fun h => List.mem_cons_of_mem _ (List.mem_append_right _ h)))) w_x_memberAt_good
theorem gg_x_stepFor_assign : GoodIn w_x_stepFor w_x_assign := goodIn_sub (fun w h => (List.mem_cons.mp h).elim (fun e => (List.mem_cons_of_mem _ (List.mem_append_left _ (List.mem_append_right _ (List.mem_append_right _ (List.mem_append_right _ (List.mem_append_left _ (List.mem_cons.mpr (Or.inl e))))))))) (fun h => (List.mem_append.mp h).elim (fun h => (List.mem_cons_of_mem _ (List.mem_append_left _ (List.mem_append_right _ (List.mem_append_right _ (List.mem_append_right _ (List.mem_append_left _ (List.mem_cons_of_mem _ h)))))))) (fun h => List.mem_cons_of_mem _ (List.mem_append_right _ h)))) w_x_assign_good
theorem gg_x_stepFor_kind : GoodIn w_x_stepFor w_x_kind := goodIn_sub (fun w h => (List.mem_cons.mp h).elim (fun e => (List.mem_cons_of_mem _ (List.mem_append_left _ (List.mem_append_right _ (List.mem_append_right _ (List.mem_append_right _ (List.mem_append_right _ (List.mem_append_left _ (List.mem_cons.mpr (Or.inl e)))))))))) (fun h => (List.mem_append.mp h).elim (fun h => (List.mem_cons_of_mem _ (List.mem_append_left _ (List.mem_append_right _ (List.mem_append_right _ (List.mem_append_right _ (List.mem_append_right _ (List.mem_append_left _ (List.mem_cons_of_mem _ h))))))))) (fun h => List.mem_cons_of_mem _ (List.mem_append_right _ h)))) w_x_kind_good
theorem gg_x_stepFor_fail : GoodIn w_x_stepFor w_x_fail := goodIn_sub (fun w h => (List.mem_cons.mp h).elim (fun e => (List.mem_cons_of_mem _ (List.mem_append_left _ (List.mem_append_right _ (List.mem_append_right _ (List.mem_append_right _ (List.mem_append_right _ (List.mem_append_right _ (List.mem_append_left _ (List.mem_cons.mpr (Or.inl e))))))))))) (fun h => (List.mem_append.mp h).elim (fun h => (List.mem_cons_of_mem _ (List.mem_append_left _ (List.mem_append_right _ (List.mem_append_right _ (List.mem_append_right _ (List.mem_append_right _ (List.mem_append_right _ (List.mem_append_left _ (List.mem_cons_of_mem _ h)))))))))) (fun h => List.mem_cons_of_mem _ (List.mem_append_right _ h)))) w_x_fail_good
theorem g_x_stepFor_assign_840 : GoodIn w_x_stepFor (wsV RX12 840 RX12 yX12_assign w_x_assign) := goodIn_app (nb_g4 (List.mem_cons_of_mem _ (List.mem_append_left _ (List.mem_append_left _ (List.mem_of_getElem? (i := 12) rfl)))) (List.mem_cons_of_mem _ (List.mem_append_left _ (List.mem_append_left _ (List.mem_of_getElem? (i := 13) rfl)))) (List.mem_cons_of_mem _ (List.mem_append_left _ (List.mem_append_left _ (List.mem_of_getElem? (i := 14) rfl)))) (List.mem_cons_of_mem _ (List.mem_append_left _ (List.mem_append_left _ (List.mem_of_getElem? (i := 5) rfl)))) (by decide +kernel)) gg_x_stepFor_assign
theorem g_x_stepFor_fail_369 : GoodIn w_x_stepFor (wsV RX12 369 RX12 yX12_fail w_x_fail) := goodIn_app (nb_g4 (List.mem_cons_of_mem _ (List.mem_append_left _ (List.mem_append_left _ (List.mem_of_getElem? (i := 19) rfl)))) (List.mem_cons_of_mem _ (List.mem_append_left _ (List.mem_append_left _ (List.mem_of_getElem? (i := 20) rfl)))) (List.mem_cons_of_mem _ (List.mem_append_left _ (List.mem_append_left _ (List.mem_of_getElem? (i := 21) rfl)))) (List.mem_cons_of_mem _ (List.mem_append_left _ (List.mem_append_left _ (List.mem_of_getElem? (i := 5) rfl)))) (by decide +kernel)) gg_x_stepFor_fail
theorem g_x_stepFor_kind_545 : GoodIn w_x_stepFor (wsV RX12 545 RX12 yX12_kind w_x_kind) := goodIn_app (nb_g4 (List.mem_cons_of_mem _ (List.mem_append_left _ (List.mem_append_left _ (List.mem_of_getElem? (i := 16) rfl)))) (List.mem_cons_of_mem _ (List.mem_append_left _ (List.mem_append_left _ (List.mem_of_getElem? (i := 17) rfl)))) (List.mem_cons_of_mem _ (List.mem_append_left _ (List.mem_append_left _ (List.mem_of_getElem? (i := 18) rfl)))) (List.mem_cons_of_mem _ (List.mem_append_left _ (List.mem_append_left _ (List.mem_of_getElem? (i := 5) rfl)))) (by decide +kernel)) gg_x_stepFor_kind
theorem g_x_stepFor_memberAt_703 : GoodIn w_x_stepFor (wsV RX12 703 RX12 yX12_memberAt w_x_memberAt) := goodIn_app (nb_g4 (List.mem_cons_of_mem _ (List.mem_append_left _ (List.mem_append_left _ (List.mem_of_getElem? (i := 7) rfl)))) (List.mem_cons_of_mem _ (List.mem_append_left _ (List.mem_append_left _ (List.mem_of_getElem? (i := 8) rfl)))) (List.mem_cons_of_mem _ (List.mem_append_left _ (List.mem_append_left _ (List.mem_of_getElem? (i := 9) rfl)))) (List.mem_cons_of_mem _ (List.mem_append_left _ (List.mem_append_left _ (List.mem_of_getElem? (i := 5) rfl)))) (by decide +kernel)) gg_x_stepFor_memberAt
theorem g_x_stepFor_worked_563 : GoodIn w_x_stepFor (wsV RX12 563 RX12 yX12_worked w_x_worked) := goodIn_app (nb_g4 (List.mem_cons_of_mem _ (List.mem_append_left _ (List.mem_append_left _ (List.mem_of_getElem? (i := 2) rfl)))) (List.mem_cons_of_mem _ (List.mem_append_left _ (List.mem_append_left _ (List.mem_of_getElem? (i := 3) rfl)))) (List.mem_cons_of_mem _ (List.mem_append_left _ (List.mem_append_left _ (List.mem_of_getElem? (i := 4) rfl)))) (List.mem_cons_of_mem _ (List.mem_append_left _ (List.mem_append_left _ (List.mem_of_getElem? (i := 5) rfl)))) (by decide +kernel)) gg_x_stepFor_worked
set_option maxHeartbeats 40000000 in
set_option maxRecDepth 100000 in
theorem c_x_stepFor (l : Launch) (dC : Nat → ClassId) (dI : Nat → Nat → Nat) (cy : Nat → ClassId) (a : Nat → Nat) (k0 : Nat) (L0 : Nat → Int32) (σ0 : MS) (r0 : Int32 × MS) (h0 : x_stepFor k0 0 L0 σ0 = some r0) (sz : Nat) : Met l yX12_stepFor w_x_stepFor ({ frames := 4, cells := 0, slots := 0, locals := 88 }) (va_Pc [.ref (a 0), .int (L0 1)] (nIn (dC, dI) cy sz (vM cy a σ0))) (va_Qi (fun (z : Int32) (_ : Unit) => z = r0.1) (fun _ t => nOut (dC, dI) cy (va_A (vM cy a σ0) sz) (vM cy a r0.2) t) (va_A (vM cy a σ0) sz)) 0 0 (va_A (vM cy a σ0) sz) := by
  refine Met.ofW (cc := cX12_stepFor) (maxL := 9) (ret := (some .boolean)) (by decide) rfl ?_
  intro p e s m args below meth c s₁ B hml hv
  obtain ⟨rfl, hsz, hP, hK, hD0, hG⟩ := hv
  have hx := B.exec
  have hb := B.bytes
  have hr := B.returns
  have hts := atoms_spec (ws := w_x_stepFor) B.pre
  have hown : s.vm.findClass RX12 = some m.cls := findClass_of_methodNamed B.named
  have hlocks := B.notSynchronized
  subst hsz
  have hD := hD0.self (sz := s.heap.size)
  generalize hAe : va_A (vM cy a σ0) s.heap.size = A at hD ⊢
  have hA : ∀ q : Nat, s.heap.size ≤ q → A q := fun q h => by rw [← hAe]; exact Or.inr h
  have hS : va_S A s.heap s.heap [] := va_S.rf
  have hl := lv_entry ([.ref (a 0), .int (L0 1)]) (n := 9) (Nat.le_of_ble_eq_true rfl)
  rw [lg_entry_eq]
  generalize (lg_sl ([.ref (a 0), .int (L0 1)]) ++ List.replicate (9 - (lg_sl ([.ref (a 0), .int (L0 1)])).length) Slot.unset).toArray = ls at hl ⊢
  have hl : lv_has ls 9 [(0, .ref (a 0)), (1, .int (L0 1))] := hl
  have blk : ∀ k : Nat, (∀ (L : Nat → Int32) (σ : MS) (r : Int32 × MS), x_stepFor k 0 L σ = some r → ∀ (H : Heap) (locs : List Loc) (ls : Array Slot), va_P (dC, dI) nCl (vM cy a σ) H → va_D A (vM cy a σ) → va_S A s.heap H locs → lv_has ls 9 [(0, .ref (a 0)), (1, .int (L 1))] → W p l e (headSpec w_x_stepFor ({ frames := 4, cells := 0, slots := 0, locals := 88 })).room s m #[.ref (a 0), .int (L0 1)] below meth c H locs 0 0 (MQ below (va_Qi (fun (z : Int32) (_ : Unit) => z = r.1) (fun _ t => nOut (dC, dI) cy A (vM cy a r.2) t) A) #[.ref (a 0), .int (L0 1)] s 0 0 A) (F0 m 0 ls [])) ∧ (∀ (L : Nat → Int32) (σ : MS) (r : Int32 × MS), x_stepFor k 1 L σ = some r → ∀ (H : Heap) (locs : List Loc) (ls : Array Slot), va_P (dC, dI) nCl (vM cy a σ) H → va_D A (vM cy a σ) → va_S A s.heap H locs → lv_has ls 9 [(0, .ref (a 0)), (1, .int (L 1)), (2, .int (L 2)), (3, .int (L 3)), (4, .int (L 4))] → W p l e (headSpec w_x_stepFor ({ frames := 4, cells := 0, slots := 0, locals := 88 })).room s m #[.ref (a 0), .int (L0 1)] below meth c H locs 0 0 (MQ below (va_Qi (fun (z : Int32) (_ : Unit) => z = r.1) (fun _ t => nOut (dC, dI) cy A (vM cy a r.2) t) A) #[.ref (a 0), .int (L0 1)] s 0 0 A) (F0 m 47 ls [])) ∧ (∀ (L : Nat → Int32) (σ : MS) (r : Int32 × MS), x_stepFor k 2 L σ = some r → ∀ (H : Heap) (locs : List Loc) (ls : Array Slot), va_P (dC, dI) nCl (vM cy a σ) H → va_D A (vM cy a σ) → va_S A s.heap H locs → lv_has ls 9 [(0, .ref (a 0)), (1, .int (L 1)), (2, .int (L 2)), (3, .int (L 3)), (4, .int (L 4))] → W p l e (headSpec w_x_stepFor ({ frames := 4, cells := 0, slots := 0, locals := 88 })).room s m #[.ref (a 0), .int (L0 1)] below meth c H locs 0 0 (MQ below (va_Qi (fun (z : Int32) (_ : Unit) => z = r.1) (fun _ t => nOut (dC, dI) cy A (vM cy a r.2) t) A) #[.ref (a 0), .int (L0 1)] s 0 0 A) (F0 m 61 ls [])) ∧ (∀ (L : Nat → Int32) (σ : MS) (r : Int32 × MS), x_stepFor k 3 L σ = some r → ∀ (H : Heap) (locs : List Loc) (ls : Array Slot), va_P (dC, dI) nCl (vM cy a σ) H → va_D A (vM cy a σ) → va_S A s.heap H locs → lv_has ls 9 [(0, .ref (a 0)), (1, .int (L 1)), (2, .int (L 2)), (3, .int (L 3)), (4, .int (L 4))] → W p l e (headSpec w_x_stepFor ({ frames := 4, cells := 0, slots := 0, locals := 88 })).room s m #[.ref (a 0), .int (L0 1)] below meth c H locs 0 0 (MQ below (va_Qi (fun (z : Int32) (_ : Unit) => z = r.1) (fun _ t => nOut (dC, dI) cy A (vM cy a r.2) t) A) #[.ref (a 0), .int (L0 1)] s 0 0 A) (F0 m 75 ls [])) ∧ (∀ (L : Nat → Int32) (σ : MS) (r : Int32 × MS), x_stepFor k 4 L σ = some r → ∀ (H : Heap) (locs : List Loc) (ls : Array Slot), va_P (dC, dI) nCl (vM cy a σ) H → va_D A (vM cy a σ) → va_S A s.heap H locs → lv_has ls 9 [(0, .ref (a 0)), (1, .int (L 1)), (2, .int (L 2)), (3, .int (L 3)), (4, .int (L 4)), (5, .int (L 5))] → W p l e (headSpec w_x_stepFor ({ frames := 4, cells := 0, slots := 0, locals := 88 })).room s m #[.ref (a 0), .int (L0 1)] below meth c H locs 0 0 (MQ below (va_Qi (fun (z : Int32) (_ : Unit) => z = r.1) (fun _ t => nOut (dC, dI) cy A (vM cy a r.2) t) A) #[.ref (a 0), .int (L0 1)] s 0 0 A) (F0 m 116 ls [])) ∧ (∀ (L : Nat → Int32) (σ : MS) (r : Int32 × MS), x_stepFor k 5 L σ = some r → ∀ (H : Heap) (locs : List Loc) (ls : Array Slot), va_P (dC, dI) nCl (vM cy a σ) H → va_D A (vM cy a σ) → va_S A s.heap H locs → lv_has ls 9 [(0, .ref (a 0)), (1, .int (L 1)), (2, .int (L 2)), (3, .int (L 3)), (4, .int (L 4)), (5, .int (L 5))] → W p l e (headSpec w_x_stepFor ({ frames := 4, cells := 0, slots := 0, locals := 88 })).room s m #[.ref (a 0), .int (L0 1)] below meth c H locs 0 0 (MQ below (va_Qi (fun (z : Int32) (_ : Unit) => z = r.1) (fun _ t => nOut (dC, dI) cy A (vM cy a r.2) t) A) #[.ref (a 0), .int (L0 1)] s 0 0 A) (F0 m 117 ls [.int (L 100)])) ∧ (∀ (L : Nat → Int32) (σ : MS) (r : Int32 × MS), x_stepFor k 6 L σ = some r → ∀ (H : Heap) (locs : List Loc) (ls : Array Slot), va_P (dC, dI) nCl (vM cy a σ) H → va_D A (vM cy a σ) → va_S A s.heap H locs → lv_has ls 9 [(0, .ref (a 0)), (1, .int (L 1)), (2, .int (L 2)), (3, .int (L 3)), (4, .int (L 4)), (5, .int (L 5))] → W p l e (headSpec w_x_stepFor ({ frames := 4, cells := 0, slots := 0, locals := 88 })).room s m #[.ref (a 0), .int (L0 1)] below meth c H locs 0 0 (MQ below (va_Qi (fun (z : Int32) (_ : Unit) => z = r.1) (fun _ t => nOut (dC, dI) cy A (vM cy a r.2) t) A) #[.ref (a 0), .int (L0 1)] s 0 0 A) (F0 m 118 ls [])) ∧ (∀ (L : Nat → Int32) (σ : MS) (r : Int32 × MS), x_stepFor k 7 L σ = some r → ∀ (H : Heap) (locs : List Loc) (ls : Array Slot), va_P (dC, dI) nCl (vM cy a σ) H → va_D A (vM cy a σ) → va_S A s.heap H locs → lv_has ls 9 [(0, .ref (a 0)), (1, .int (L 1)), (2, .int (L 2)), (3, .int (L 3)), (4, .int (L 4)), (5, .int (L 5)), (6, .int (L 6)), (7, .int (L 7))] → W p l e (headSpec w_x_stepFor ({ frames := 4, cells := 0, slots := 0, locals := 88 })).room s m #[.ref (a 0), .int (L0 1)] below meth c H locs 0 0 (MQ below (va_Qi (fun (z : Int32) (_ : Unit) => z = r.1) (fun _ t => nOut (dC, dI) cy A (vM cy a r.2) t) A) #[.ref (a 0), .int (L0 1)] s 0 0 A) (F0 m 129 ls [])) ∧ (∀ (L : Nat → Int32) (σ : MS) (r : Int32 × MS), x_stepFor k 8 L σ = some r → ∀ (H : Heap) (locs : List Loc) (ls : Array Slot), va_P (dC, dI) nCl (vM cy a σ) H → va_D A (vM cy a σ) → va_S A s.heap H locs → lv_has ls 9 [(0, .ref (a 0)), (1, .int (L 1)), (2, .int (L 2)), (3, .int (L 3)), (4, .int (L 4)), (5, .int (L 5)), (6, .int (L 6)), (7, .int (L 7))] → W p l e (headSpec w_x_stepFor ({ frames := 4, cells := 0, slots := 0, locals := 88 })).room s m #[.ref (a 0), .int (L0 1)] below meth c H locs 0 0 (MQ below (va_Qi (fun (z : Int32) (_ : Unit) => z = r.1) (fun _ t => nOut (dC, dI) cy A (vM cy a r.2) t) A) #[.ref (a 0), .int (L0 1)] s 0 0 A) (F0 m 150 ls [])) ∧ (∀ (L : Nat → Int32) (σ : MS) (r : Int32 × MS), x_stepFor k 9 L σ = some r → ∀ (H : Heap) (locs : List Loc) (ls : Array Slot), va_P (dC, dI) nCl (vM cy a σ) H → va_D A (vM cy a σ) → va_S A s.heap H locs → lv_has ls 9 [(0, .ref (a 0)), (1, .int (L 1)), (2, .int (L 2)), (3, .int (L 3)), (4, .int (L 4)), (5, .int (L 5)), (6, .int (L 6)), (7, .int (L 7))] → W p l e (headSpec w_x_stepFor ({ frames := 4, cells := 0, slots := 0, locals := 88 })).room s m #[.ref (a 0), .int (L0 1)] below meth c H locs 0 0 (MQ below (va_Qi (fun (z : Int32) (_ : Unit) => z = r.1) (fun _ t => nOut (dC, dI) cy A (vM cy a r.2) t) A) #[.ref (a 0), .int (L0 1)] s 0 0 A) (F0 m 174 ls [])) ∧ (∀ (L : Nat → Int32) (σ : MS) (r : Int32 × MS), x_stepFor k 10 L σ = some r → ∀ (H : Heap) (locs : List Loc) (ls : Array Slot), va_P (dC, dI) nCl (vM cy a σ) H → va_D A (vM cy a σ) → va_S A s.heap H locs → lv_has ls 9 [(0, .ref (a 0)), (1, .int (L 1)), (2, .int (L 2)), (3, .int (L 3)), (4, .int (L 4)), (5, .int (L 5)), (6, .int (L 6)), (7, .int (L 7))] → W p l e (headSpec w_x_stepFor ({ frames := 4, cells := 0, slots := 0, locals := 88 })).room s m #[.ref (a 0), .int (L0 1)] below meth c H locs 0 0 (MQ below (va_Qi (fun (z : Int32) (_ : Unit) => z = r.1) (fun _ t => nOut (dC, dI) cy A (vM cy a r.2) t) A) #[.ref (a 0), .int (L0 1)] s 0 0 A) (F0 m 181 ls [])) ∧ (∀ (L : Nat → Int32) (σ : MS) (r : Int32 × MS), x_stepFor k 11 L σ = some r → ∀ (H : Heap) (locs : List Loc) (ls : Array Slot), va_P (dC, dI) nCl (vM cy a σ) H → va_D A (vM cy a σ) → va_S A s.heap H locs → lv_has ls 9 [(0, .ref (a 0)), (1, .int (L 1)), (2, .int (L 2)), (3, .int (L 3)), (4, .int (L 4)), (5, .int (L 5)), (6, .int (L 6)), (7, .int (L 7)), (8, .int (L 8))] → W p l e (headSpec w_x_stepFor ({ frames := 4, cells := 0, slots := 0, locals := 88 })).room s m #[.ref (a 0), .int (L0 1)] below meth c H locs 0 0 (MQ below (va_Qi (fun (z : Int32) (_ : Unit) => z = r.1) (fun _ t => nOut (dC, dI) cy A (vM cy a r.2) t) A) #[.ref (a 0), .int (L0 1)] s 0 0 A) (F0 m 192 ls [])) ∧ (∀ (L : Nat → Int32) (σ : MS) (r : Int32 × MS), x_stepFor k 12 L σ = some r → ∀ (H : Heap) (locs : List Loc) (ls : Array Slot), va_P (dC, dI) nCl (vM cy a σ) H → va_D A (vM cy a σ) → va_S A s.heap H locs → lv_has ls 9 [(0, .ref (a 0)), (1, .int (L 1)), (2, .int (L 2)), (3, .int (L 3)), (4, .int (L 4)), (5, .int (L 5)), (6, .int (L 6)), (7, .int (L 7)), (8, .int (L 8))] → W p l e (headSpec w_x_stepFor ({ frames := 4, cells := 0, slots := 0, locals := 88 })).room s m #[.ref (a 0), .int (L0 1)] below meth c H locs 0 0 (MQ below (va_Qi (fun (z : Int32) (_ : Unit) => z = r.1) (fun _ t => nOut (dC, dI) cy A (vM cy a r.2) t) A) #[.ref (a 0), .int (L0 1)] s 0 0 A) (F0 m 230 ls [.int (L 100), .ref (a 0)])) ∧ (∀ (L : Nat → Int32) (σ : MS) (r : Int32 × MS), x_stepFor k 13 L σ = some r → ∀ (H : Heap) (locs : List Loc) (ls : Array Slot), va_P (dC, dI) nCl (vM cy a σ) H → va_D A (vM cy a σ) → va_S A s.heap H locs → lv_has ls 9 [(0, .ref (a 0)), (1, .int (L 1)), (2, .int (L 2)), (3, .int (L 3)), (4, .int (L 4)), (5, .int (L 5)), (6, .int (L 6)), (7, .int (L 7)), (8, .int (L 8))] → W p l e (headSpec w_x_stepFor ({ frames := 4, cells := 0, slots := 0, locals := 88 })).room s m #[.ref (a 0), .int (L0 1)] below meth c H locs 0 0 (MQ below (va_Qi (fun (z : Int32) (_ : Unit) => z = r.1) (fun _ t => nOut (dC, dI) cy A (vM cy a r.2) t) A) #[.ref (a 0), .int (L0 1)] s 0 0 A) (F0 m 231 ls [.int (L 100), .int (L 101), .ref (a 0)])) ∧ (∀ (L : Nat → Int32) (σ : MS) (r : Int32 × MS), x_stepFor k 14 L σ = some r → ∀ (H : Heap) (locs : List Loc) (ls : Array Slot), va_P (dC, dI) nCl (vM cy a σ) H → va_D A (vM cy a σ) → va_S A s.heap H locs → lv_has ls 9 [(0, .ref (a 0)), (1, .int (L 1)), (2, .int (L 2)), (3, .int (L 3)), (4, .int (L 4)), (5, .int (L 5)), (6, .int (L 6)), (7, .int (L 7)), (8, .int (L 8))] → W p l e (headSpec w_x_stepFor ({ frames := 4, cells := 0, slots := 0, locals := 88 })).room s m #[.ref (a 0), .int (L0 1)] below meth c H locs 0 0 (MQ below (va_Qi (fun (z : Int32) (_ : Unit) => z = r.1) (fun _ t => nOut (dC, dI) cy A (vM cy a r.2) t) A) #[.ref (a 0), .int (L0 1)] s 0 0 A) (F0 m 249 ls [])) ∧ (∀ (L : Nat → Int32) (σ : MS) (r : Int32 × MS), x_stepFor k 15 L σ = some r → ∀ (H : Heap) (locs : List Loc) (ls : Array Slot), va_P (dC, dI) nCl (vM cy a σ) H → va_D A (vM cy a σ) → va_S A s.heap H locs → lv_has ls 9 [(0, .ref (a 0)), (1, .int (L 1)), (2, .int (L 2)), (3, .int (L 3)), (4, .int (L 4)), (5, .int (L 5)), (6, .int (L 6)), (7, .int (L 7)), (8, .int (L 8))] → W p l e (headSpec w_x_stepFor ({ frames := 4, cells := 0, slots := 0, locals := 88 })).room s m #[.ref (a 0), .int (L0 1)] below meth c H locs 0 0 (MQ below (va_Qi (fun (z : Int32) (_ : Unit) => z = r.1) (fun _ t => nOut (dC, dI) cy A (vM cy a r.2) t) A) #[.ref (a 0), .int (L0 1)] s 0 0 A) (F0 m 260 ls [])) ∧ (∀ (L : Nat → Int32) (σ : MS) (r : Int32 × MS), x_stepFor k 16 L σ = some r → ∀ (H : Heap) (locs : List Loc) (ls : Array Slot), va_P (dC, dI) nCl (vM cy a σ) H → va_D A (vM cy a σ) → va_S A s.heap H locs → lv_has ls 9 [(0, .ref (a 0)), (1, .int (L 1)), (2, .int (L 2)), (3, .int (L 3)), (4, .int (L 4)), (5, .int (L 5)), (6, .int (L 6)), (7, .int (L 7)), (8, .int (L 8))] → W p l e (headSpec w_x_stepFor ({ frames := 4, cells := 0, slots := 0, locals := 88 })).room s m #[.ref (a 0), .int (L0 1)] below meth c H locs 0 0 (MQ below (va_Qi (fun (z : Int32) (_ : Unit) => z = r.1) (fun _ t => nOut (dC, dI) cy A (vM cy a r.2) t) A) #[.ref (a 0), .int (L0 1)] s 0 0 A) (F0 m 261 ls [.int (L 100)])) := by
    intro k
    induction k with
    | zero => exact ⟨fun L σ r h => (by cases h), fun L σ r h => (by cases h), fun L σ r h => (by cases h), fun L σ r h => (by cases h), fun L σ r h => (by cases h), fun L σ r h => (by cases h), fun L σ r h => (by cases h), fun L σ r h => (by cases h), fun L σ r h => (by cases h), fun L σ r h => (by cases h), fun L σ r h => (by cases h), fun L σ r h => (by cases h), fun L σ r h => (by cases h), fun L σ r h => (by cases h), fun L σ r h => (by cases h), fun L σ r h => (by cases h), fun L σ r h => (by cases h)⟩
    | succ k ih =>
      refine ⟨?_, ?_, ?_, ?_, ?_, ?_, ?_, ?_, ?_, ?_, ?_, ?_, ?_, ?_, ?_, ?_, ?_⟩
      · intro L σ r h H locs ls hP hD hS hl
        rw [x_stepFor] at h
        refine lv_aload_n hx hb dX12_stepFor_0 rfl (lv_at hl 0 rfl) ?_
        refine va_get (D := (dC, dI)) (ci := 11) (v := .ref (a 30)) (C := RX12) (T := TX12) (N := 121) hx hb hts in_x_stepFor hown hK hP 0 rfl rfl 60 (by decide) (hts _ (List.mem_cons_of_mem _ (List.mem_append_left _ (List.mem_append_left _ (List.mem_of_getElem? (i := 0) rfl))))) (fun _ h9 => h9) rfl dX12_stepFor_1 ?_
        refine lv_iconst (v := 3) hx hb dX12_stepFor_4 (by decide) ?_
        by_cases q1 : ¬ ((3 : Int32) < 0 ∨ 11514 ≤ (3 : Int32).toNatClampNeg)
        · rw [if_pos q1] at h
          refine va_iald hx hb hK hP 30 1 rfl rfl (nb_inp q1) dX12_stepFor_5 ?_
          refine lv_iconst (v := 1) hx hb dX12_stepFor_6 (by decide) ?_
          refine lv_isub hx hb dX12_stepFor_7 ?_
          refine lv_istore_n (lv' := [(2, .int (((σ.2.2 30 (3 : Int32).toNatClampNeg)) - 1)), (0, .ref (a 0)), (1, .int (L 1))]) hx hb dX12_stepFor_8 rfl hl (by decide) rfl (fun ls hl => ?_)
          refine lv_aload_n hx hb dX12_stepFor_9 rfl (lv_at hl 1 rfl) ?_
          refine va_get (D := (dC, dI)) (ci := 11) (v := .ref (a 30)) (C := RX12) (T := TX12) (N := 121) hx hb hts in_x_stepFor hown hK hP 0 rfl rfl 60 (by decide) (hts _ (List.mem_cons_of_mem _ (List.mem_append_left _ (List.mem_append_left _ (List.mem_of_getElem? (i := 0) rfl))))) (fun _ h9 => h9) rfl dX12_stepFor_10 ?_
          refine lv_sipush (v := 5314) hx hb dX12_stepFor_13 (by decide) ?_
          refine lv_iload_n hx hb dX12_stepFor_16 rfl (lv_at hl 0 rfl) ?_
          refine lv_iadd hx hb dX12_stepFor_17 ?_
          by_cases q2 : ¬ (((5314 + ((((σ.2.2 30 (3 : Int32).toNatClampNeg)) - 1)))) < 0 ∨ 11514 ≤ ((5314 + ((((σ.2.2 30 (3 : Int32).toNatClampNeg)) - 1)))).toNatClampNeg)
          · rw [if_pos q2] at h
            refine va_iald hx hb hK hP 30 1 rfl rfl (nb_inp q2) dX12_stepFor_18 ?_
            refine lv_istore_n (lv' := [(3, .int (σ.2.2 30 ((5314 + ((((σ.2.2 30 (3 : Int32).toNatClampNeg)) - 1)))).toNatClampNeg)), (2, .int (((σ.2.2 30 (3 : Int32).toNatClampNeg)) - 1)), (0, .ref (a 0)), (1, .int (L 1))]) hx hb dX12_stepFor_19 rfl hl (by decide) rfl (fun ls hl => ?_)
            refine lv_aload_n hx hb dX12_stepFor_20 rfl (lv_at hl 2 rfl) ?_
            refine va_get (D := (dC, dI)) (ci := 11) (v := .ref (a 30)) (C := RX12) (T := TX12) (N := 121) hx hb hts in_x_stepFor hown hK hP 0 rfl rfl 60 (by decide) (hts _ (List.mem_cons_of_mem _ (List.mem_append_left _ (List.mem_append_left _ (List.mem_of_getElem? (i := 0) rfl))))) (fun _ h9 => h9) rfl dX12_stepFor_21 ?_
            refine lv_sipush (v := 8414) hx hb dX12_stepFor_24 (by decide) ?_
            refine lv_iload_n hx hb dX12_stepFor_27 rfl (lv_at hl 1 rfl) ?_
            refine lv_iadd hx hb dX12_stepFor_28 ?_
            by_cases q3 : ¬ (((8414 + ((((σ.2.2 30 (3 : Int32).toNatClampNeg)) - 1)))) < 0 ∨ 11514 ≤ ((8414 + ((((σ.2.2 30 (3 : Int32).toNatClampNeg)) - 1)))).toNatClampNeg)
            · rw [if_pos q3] at h
              refine va_iald hx hb hK hP 30 1 rfl rfl (nb_inp q3) dX12_stepFor_29 ?_
              refine lv_istore (lv' := [(4, .int (σ.2.2 30 ((8414 + ((((σ.2.2 30 (3 : Int32).toNatClampNeg)) - 1)))).toNatClampNeg)), (3, .int (σ.2.2 30 ((5314 + ((((σ.2.2 30 (3 : Int32).toNatClampNeg)) - 1)))).toNatClampNeg)), (2, .int (((σ.2.2 30 (3 : Int32).toNatClampNeg)) - 1)), (0, .ref (a 0)), (1, .int (L 1))]) hx hb dX12_stepFor_30 hl (by decide) rfl (fun ls hl => ?_)
              refine lv_iload hx hb dX12_stepFor_32 (lv_at hl 0 rfl) ?_
              refine lv_aload_n hx hb dX12_stepFor_34 rfl (lv_at hl 3 rfl) ?_
              refine va_get (D := (dC, dI)) (ci := 11) (v := .ref (a 28)) (C := RX12) (T := TX12) (N := 121) hx hb hts in_x_stepFor hown hK hP 0 rfl rfl 53 (by decide) (hts _ (List.mem_cons_of_mem _ (List.mem_append_left _ (List.mem_append_left _ (List.mem_of_getElem? (i := 1) rfl))))) (fun _ h9 => h9) rfl dX12_stepFor_35 ?_
              refine lv_iload_n hx hb dX12_stepFor_38 rfl (lv_at hl 1 rfl) ?_
              refine lv_iconst (v := 1) hx hb dX12_stepFor_39 (by decide) ?_
              refine lv_iadd hx hb dX12_stepFor_40 ?_
              by_cases q4 : ¬ (((((σ.2.2 30 ((5314 + ((((σ.2.2 30 (3 : Int32).toNatClampNeg)) - 1)))).toNatClampNeg)) + 1)) < 0 ∨ 1740000 ≤ ((((σ.2.2 30 ((5314 + ((((σ.2.2 30 (3 : Int32).toNatClampNeg)) - 1)))).toNatClampNeg)) + 1)).toNatClampNeg)
              · rw [if_pos q4] at h
                refine va_iald hx hb hK hP 28 1 rfl rfl (nb_inp q4) dX12_stepFor_41 ?_
                refine lv_icmp_ne (tgt := 47) hx hb dX12_stepFor_42 (by decide) (fun c5 => ?_) (fun c5 => ?_)
                · rw [if_neg c5] at h
                  exact ih.2.1 (upd (upd (upd L 2 ((((σ.2.2 30 (3 : Int32).toNatClampNeg)) - 1))) 3 ((σ.2.2 30 ((5314 + ((((σ.2.2 30 (3 : Int32).toNatClampNeg)) - 1)))).toNatClampNeg))) 4 ((σ.2.2 30 ((8414 + ((((σ.2.2 30 (3 : Int32).toNatClampNeg)) - 1)))).toNatClampNeg))) σ r h H locs ls hP hD hS (lv_sub hl [3, 4, 2, 1, 0] rfl)
                · rw [if_pos c5] at h
                  refine lv_iconst (v := 0) hx hb dX12_stepFor_45 (by decide) ?_
                  cases h
                  exact W.zret (v := 0) hx hb hr rfl (fun t ht hW => ⟨⟨0, (), rfl, rfl, by rw [ht]; exact hP, va_K.moved hW.alike hK, hD⟩, hS.F ht⟩) hS.2.2 dX12_stepFor_46
              · rw [if_neg q4] at h; cases h
            · rw [if_neg q3] at h; cases h
          · rw [if_neg q2] at h; cases h
        · rw [if_neg q1] at h; cases h
      · intro L σ r h H locs ls hP hD hS hl
        rw [x_stepFor] at h
        refine lv_aload_n hx hb dX12_stepFor_47 rfl (lv_at hl 0 rfl) ?_
        refine va_get (D := (dC, dI)) (ci := 11) (v := .ref (a 30)) (C := RX12) (T := TX12) (N := 121) hx hb hts in_x_stepFor hown hK hP 0 rfl rfl 60 (by decide) (hts _ (List.mem_cons_of_mem _ (List.mem_append_left _ (List.mem_append_left _ (List.mem_of_getElem? (i := 0) rfl))))) (fun _ h9 => h9) rfl dX12_stepFor_48 ?_
        refine lv_sipush (v := 8414) hx hb dX12_stepFor_51 (by decide) ?_
        refine lv_iload_n hx hb dX12_stepFor_54 rfl (lv_at hl 2 rfl) ?_
        refine lv_iadd hx hb dX12_stepFor_55 ?_
        refine lv_iload hx hb dX12_stepFor_56 (lv_at hl 4 rfl) ?_
        refine lv_iconst (v := 1) hx hb dX12_stepFor_58 (by decide) ?_
        refine lv_iadd hx hb dX12_stepFor_59 ?_
        by_cases q1 : ¬ (((8414 + ((L 2)))) < 0 ∨ 11514 ≤ ((8414 + ((L 2)))).toNatClampNeg)
        · rw [if_pos q1] at h
          refine va_iast hx hb hK hP hD hS 30 1 rfl rfl (nb_inp q1) dX12_stepFor_60 (fun H locs hP hD hS => ?_)
          have hP : va_P (dC, dI) nCl (vM cy a (σ.1, σ.2.1, updG σ.2.2 30 (upd (σ.2.2 30) ((8414 + ((L 2)))).toNatClampNeg ((((L 4)) + 1))))) H := hP
          have hD : va_D A (vM cy a (σ.1, σ.2.1, updG σ.2.2 30 (upd (σ.2.2 30) ((8414 + ((L 2)))).toNatClampNeg ((((L 4)) + 1))))) := hD
          exact ih.2.2.1 L (σ.1, σ.2.1, updG σ.2.2 30 (upd (σ.2.2 30) ((8414 + ((L 2)))).toNatClampNeg ((((L 4)) + 1)))) r h H locs ls hP hD hS (lv_sub hl [0, 1, 2, 3, 4] rfl)
        · rw [if_neg q1] at h; cases h
      · intro L σ r h H locs ls hP hD hS hl
        rw [x_stepFor] at h
        refine lv_aload_n hx hb dX12_stepFor_61 rfl (lv_at hl 0 rfl) ?_
        refine lv_iconst (v := 1) hx hb dX12_stepFor_62 (by decide) ?_
        cases hc1 : x_worked k 0 (upd (fun _ => 0) 1 1) σ with
        | none => rw [hc1, ob_none] at h; cases h
        | some r1 =>
          rw [hc1, ob_some] at h
          have hFc := va_free (wc := vM cy a σ) hD hS hA [0, 1, 2, 3, 4, 5, 6, 7, 8, 9, 10, 11, 12, 13, 14, 15, 16, 17, 18, 19, 20, 21, 22, 23, 24, 25, 26, 27, 28, 29, 30, 31, 32, 33, 34, 35, 36, 37, 38, 39, 40, 41, 42, 43, 44, 45, 46, 47, 48, 49, 50, 51, 52, 53, 54, 55, 56, 57] rfl
          refine va_callv (va_runV (As := [.int 1]) (rest := []) ⟨hx, hb, hml, hown, hts⟩ (c_x_worked l dC dI cy a k (upd (fun _ => 0) 1 1) σ r1 hc1 H.size) (cwV 1 hts g_x_stepFor_worked_563 rfl rfl rfl (by decide +kernel) ⟨Nat.le_of_ble_eq_true rfl, Nat.le_of_ble_eq_true rfl⟩) ⟨nb_blind, va_recv hK hP (ci := 11) (q0 := 0) rfl rfl, fun U hU hW => ⟨rfl, by rw [hU], by rw [hU]; exact hP, va_K.moved hW.alike hK, hD.weaken (fun _ _ _ _ => trivial), hG.warm hW⟩⟩ rfl rfl hl.1 rfl (lv_room (Nat.le_of_ble_eq_true rfl)) dX12_stepFor_63 ⟨Nat.le_of_ble_eq_true rfl, Nat.le_of_ble_eq_true rfl⟩) hS (fun q _ h => hFc q h) hFc (fun _ t H1 locs ht hvm hw hB hz1 hk1 hS => ?_)
          obtain ⟨hP1, hK1, hD1⟩ := hB
          rw [ht] at hP1
          obtain ⟨hP, hD⟩ := va_join (wr := []) (w1 := vM cy a r1.2) hP hD [0, 1, 2, 3, 4, 5, 6, 7, 8, 9, 10, 11, 12, 13, 14, 15, 16, 17, 18, 19, 20, 21, 22, 23, 24, 25, 26, 27, 28, 29, 30, 31, 32, 33, 34, 35, 36, 37, 38, 39, 40, 41, 42, 43, 44, 45, 46, 47, 48, 49, 50, 51, 52, 53, 54, 55, 56, 57] [] rfl rfl (by decide) (by decide) hk1 hFc hP1 hD1
          generalize H1 = H at hP hS ⊢
          have hP : va_P (dC, dI) nCl (vM cy a r1.2) H := hP
          have hD : va_D A (vM cy a r1.2) := hD
          refine lv_aload_n hx hb dX12_stepFor_66 rfl (lv_at hl 0 rfl) ?_
          refine va_get (D := (dC, dI)) (ci := 11) (v := .int (r1.2.1 56)) (C := RX12) (T := TX12) (N := 121) hx hb hts in_x_stepFor hown hK hP 0 rfl rfl 56 (by decide) (hts _ (List.mem_cons_of_mem _ (List.mem_append_left _ (List.mem_append_left _ (List.mem_of_getElem? (i := 6) rfl))))) (fun _ h9 => h9) rfl dX12_stepFor_67 ?_
          refine lv_if_le (tgt := 75) hx hb dX12_stepFor_70 (by decide) (fun c2 => ?_) (fun c2 => ?_)
          · rw [if_pos c2] at h
            exact ih.2.2.2.1 L r1.2 r h H locs ls hP hD hS (lv_sub hl [0, 1, 2, 3, 4] rfl)
          · rw [if_neg c2] at h
            refine lv_iconst (v := 0) hx hb dX12_stepFor_73 (by decide) ?_
            cases h
            exact W.zret (v := 0) hx hb hr rfl (fun t ht hW => ⟨⟨0, (), rfl, rfl, by rw [ht]; exact hP, va_K.moved hW.alike hK, hD⟩, hS.F ht⟩) hS.2.2 dX12_stepFor_74
      · intro L σ r h H locs ls hP hD hS hl
        rw [x_stepFor] at h
        refine lv_aload_n hx hb dX12_stepFor_75 rfl (lv_at hl 0 rfl) ?_
        refine lv_iload_n hx hb dX12_stepFor_76 rfl (lv_at hl 3 rfl) ?_
        refine lv_iload hx hb dX12_stepFor_77 (lv_at hl 4 rfl) ?_
        cases hc1 : x_memberAt k 0 (upd (upd (fun _ => 0) 1 ((L 3))) 2 ((L 4))) σ with
        | none => rw [hc1, ob_none] at h; cases h
        | some r1 =>
          rw [hc1, ob_some] at h
          have hFc := va_free (wc := vM cy a σ) hD hS hA [0, 1, 2, 3, 4, 5, 6, 7, 8, 9, 10, 11, 12, 13, 14, 15, 16, 17, 18, 19, 20, 21, 22, 23, 24, 25, 26, 27, 28, 29, 30, 31, 32, 33, 34, 35, 36, 37, 38, 39, 40, 41, 42, 43, 44, 45, 46, 47, 48, 49, 50, 51, 52, 53, 54, 55, 56, 57] rfl
          refine va_calli (va_runV (As := [.int (L 3), .int (L 4)]) (rest := []) ⟨hx, hb, hml, hown, hts⟩ (c_x_memberAt l dC dI cy a k (upd (upd (fun _ => 0) 1 ((L 3))) 2 ((L 4))) σ r1 hc1 H.size) (cwV 2 hts g_x_stepFor_memberAt_703 rfl rfl rfl (by decide +kernel) ⟨Nat.le_of_ble_eq_true rfl, Nat.le_of_ble_eq_true rfl⟩) ⟨nb_blind, va_recv hK hP (ci := 11) (q0 := 0) rfl rfl, fun U hU hW => ⟨rfl, by rw [hU], by rw [hU]; exact hP, va_K.moved hW.alike hK, hD.weaken (fun _ _ _ _ => trivial), hG.warm hW⟩⟩ rfl rfl hl.1 rfl (lv_room (Nat.le_of_ble_eq_true rfl)) dX12_stepFor_79 ⟨Nat.le_of_ble_eq_true rfl, Nat.le_of_ble_eq_true rfl⟩) hS (fun q _ h => hFc q h) hFc (fun z9 _ t H1 locs ht hvm hw hB hz1 hk1 hS => ?_)
          subst hw
          obtain ⟨hP1, hK1, hD1⟩ := hB
          rw [ht] at hP1
          obtain ⟨hP, hD⟩ := va_join (wr := []) (w1 := vM cy a r1.2) hP hD [0, 1, 2, 3, 4, 5, 6, 7, 8, 9, 10, 11, 12, 13, 14, 15, 16, 17, 18, 19, 20, 21, 22, 23, 24, 25, 26, 27, 28, 29, 30, 31, 32, 33, 34, 35, 36, 37, 38, 39, 40, 41, 42, 43, 44, 45, 46, 47, 48, 49, 50, 51, 52, 53, 54, 55, 56, 57] [] rfl rfl (by decide) (by decide) hk1 hFc hP1 hD1
          generalize H1 = H at hP hS ⊢
          have hP : va_P (dC, dI) nCl (vM cy a r1.2) H := hP
          have hD : va_D A (vM cy a r1.2) := hD
          refine lv_istore (lv' := [(5, .int r1.1), (0, .ref (a 0)), (1, .int (L 1)), (2, .int (L 2)), (3, .int (L 3)), (4, .int (L 4))]) hx hb dX12_stepFor_82 hl (by decide) rfl (fun ls hl => ?_)
          refine lv_aload_n hx hb dX12_stepFor_84 rfl (lv_at hl 1 rfl) ?_
          refine va_get (D := (dC, dI)) (ci := 11) (v := .ref (a 5)) (C := RX12) (T := TX12) (N := 121) hx hb hts in_x_stepFor hown hK hP 0 rfl rfl 15 (by decide) (hts _ (List.mem_cons_of_mem _ (List.mem_append_left _ (List.mem_append_left _ (List.mem_of_getElem? (i := 10) rfl))))) (fun _ h9 => h9) rfl dX12_stepFor_85 ?_
          refine lv_iload_n hx hb dX12_stepFor_88 rfl (lv_at hl 2 rfl) ?_
          by_cases q2 : ¬ (((L 1)) < 0 ∨ 70000 ≤ ((L 1)).toNatClampNeg)
          · rw [if_pos q2] at h
            refine va_iald hx hb hK hP 5 1 rfl rfl (nb_inp q2) dX12_stepFor_89 ?_
            refine lv_if_ne (tgt := 118) hx hb dX12_stepFor_90 (by decide) (fun c3 => ?_) (fun c3 => ?_)
            · rw [if_neg c3] at h
              exact ih.2.2.2.2.2.2.1 (upd L 5 r1.1) r1.2 r h H locs ls hP hD hS (lv_sub hl [1, 2, 3, 4, 5, 0] rfl)
            · rw [if_pos c3] at h
              refine lv_aload_n hx hb dX12_stepFor_93 rfl (lv_at hl 1 rfl) ?_
              refine lv_aload_n hx hb dX12_stepFor_94 rfl (lv_at hl 1 rfl) ?_
              refine va_get (D := (dC, dI)) (ci := 11) (v := .ref (a 6)) (C := RX12) (T := TX12) (N := 121) hx hb hts in_x_stepFor hown hK hP 0 rfl rfl 16 (by decide) (hts _ (List.mem_cons_of_mem _ (List.mem_append_left _ (List.mem_append_left _ (List.mem_of_getElem? (i := 11) rfl))))) (fun _ h9 => h9) rfl dX12_stepFor_95 ?_
              refine lv_iload_n hx hb dX12_stepFor_98 rfl (lv_at hl 2 rfl) ?_
              by_cases q4 : ¬ (((L 1)) < 0 ∨ 70000 ≤ ((L 1)).toNatClampNeg)
              · rw [if_pos q4] at h
                refine va_iald hx hb hK hP 6 1 rfl rfl (nb_inp q4) dX12_stepFor_99 ?_
                refine lv_iload hx hb dX12_stepFor_100 (lv_at hl 0 rfl) ?_
                cases hc5 : x_assign k 0 (upd (upd (fun _ => 0) 1 ((r1.2.2.2 6 ((L 1)).toNatClampNeg))) 2 r1.1) r1.2 with
                | none => rw [hc5, ob_none] at h; cases h
                | some r5 =>
                  rw [hc5, ob_some] at h
                  have hFc := va_free (wc := vM cy a r1.2) hD hS hA [0, 1, 2, 3, 4, 5, 6, 7, 8, 9, 10, 11, 12, 13, 14, 15, 16, 17, 18, 19, 20, 21, 22, 23, 24, 25, 26, 27, 28, 29, 30, 31, 32, 33, 34, 35, 36, 37, 38, 39, 40, 41, 42, 43, 44, 45, 46, 47, 48, 49, 50, 51, 52, 53, 54, 55, 56, 57] rfl
                  refine va_callv (va_runV (As := [.int (r1.2.2.2 6 ((L 1)).toNatClampNeg), .int r1.1]) (rest := []) ⟨hx, hb, hml, hown, hts⟩ (c_x_assign l dC dI cy a k (upd (upd (fun _ => 0) 1 ((r1.2.2.2 6 ((L 1)).toNatClampNeg))) 2 r1.1) r1.2 r5 hc5 H.size) (cwV 2 hts g_x_stepFor_assign_840 rfl rfl rfl (by decide +kernel) ⟨Nat.le_of_ble_eq_true rfl, Nat.le_of_ble_eq_true rfl⟩) ⟨nb_blind, va_recv hK hP (ci := 11) (q0 := 0) rfl rfl, fun U hU hW => ⟨rfl, by rw [hU], by rw [hU]; exact hP, va_K.moved hW.alike hK, hD.weaken (fun _ _ _ _ => trivial), hG.warm hW⟩⟩ rfl rfl hl.1 rfl (lv_room (Nat.le_of_ble_eq_true rfl)) dX12_stepFor_102 ⟨Nat.le_of_ble_eq_true rfl, Nat.le_of_ble_eq_true rfl⟩) hS (fun q _ h => hFc q h) hFc (fun _ t H1 locs ht hvm hw hB hz1 hk1 hS => ?_)
                  obtain ⟨hP1, hK1, hD1⟩ := hB
                  rw [ht] at hP1
                  obtain ⟨hP, hD⟩ := va_join (wr := []) (w1 := vM cy a r5.2) hP hD [0, 1, 2, 3, 4, 5, 6, 7, 8, 9, 10, 11, 12, 13, 14, 15, 16, 17, 18, 19, 20, 21, 22, 23, 24, 25, 26, 27, 28, 29, 30, 31, 32, 33, 34, 35, 36, 37, 38, 39, 40, 41, 42, 43, 44, 45, 46, 47, 48, 49, 50, 51, 52, 53, 54, 55, 56, 57] [] rfl rfl (by decide) (by decide) hk1 hFc hP1 hD1
                  generalize H1 = H at hP hS ⊢
                  have hP : va_P (dC, dI) nCl (vM cy a r5.2) H := hP
                  have hD : va_D A (vM cy a r5.2) := hD
                  refine lv_aload_n hx hb dX12_stepFor_105 rfl (lv_at hl 1 rfl) ?_
                  refine va_get (D := (dC, dI)) (ci := 11) (v := .int (r5.2.1 56)) (C := RX12) (T := TX12) (N := 121) hx hb hts in_x_stepFor hown hK hP 0 rfl rfl 56 (by decide) (hts _ (List.mem_cons_of_mem _ (List.mem_append_left _ (List.mem_append_left _ (List.mem_of_getElem? (i := 6) rfl))))) (fun _ h9 => h9) rfl dX12_stepFor_106 ?_
                  refine lv_if_ne (tgt := 116) hx hb dX12_stepFor_109 (by decide) (fun c6 => ?_) (fun c6 => ?_)
                  · rw [if_neg c6] at h
                    exact ih.2.2.2.2.1 (upd L 5 r1.1) r5.2 r h H locs ls hP hD hS (lv_sub hl [1, 2, 3, 4, 5, 0] rfl)
                  · rw [if_pos c6] at h
                    refine lv_iconst (v := 1) hx hb dX12_stepFor_112 (by decide) ?_
                    refine lv_goto (tgt := 117) hx hb dX12_stepFor_113 (by decide) ?_
                    exact ih.2.2.2.2.2.1 (upd (upd L 5 r1.1) 100 1) r5.2 r h H locs ls hP hD hS (lv_sub hl [1, 2, 3, 4, 5, 0] rfl)
              · rw [if_neg q4] at h; cases h
          · rw [if_neg q2] at h; cases h
      · intro L σ r h H locs ls hP hD hS hl
        rw [x_stepFor] at h
        refine lv_iconst (v := 0) hx hb dX12_stepFor_116 (by decide) ?_
        exact ih.2.2.2.2.2.1 (upd L 100 0) σ r h H locs ls hP hD hS (lv_sub hl [0, 1, 2, 3, 4, 5] rfl)
      · intro L σ r h H locs ls hP hD hS hl
        rw [x_stepFor] at h
        by_cases q1 : ((L 100)) = 0 ∨ ((L 100)) = 1
        · rw [if_pos q1] at h
          cases h
          exact W.zret (v := (L 100)) hx hb hr (nb_bz q1) (fun t ht hW => ⟨⟨(L 100), (), rfl, rfl, by rw [ht]; exact hP, va_K.moved hW.alike hK, hD⟩, hS.F ht⟩) hS.2.2 dX12_stepFor_117
        · rw [if_neg q1] at h; cases h
      · intro L σ r h H locs ls hP hD hS hl
        rw [x_stepFor] at h
        refine lv_iconst (v := 0) hx hb dX12_stepFor_118 (by decide) ?_
        refine lv_istore (lv' := [(6, .int 0), (0, .ref (a 0)), (1, .int (L 1)), (2, .int (L 2)), (3, .int (L 3)), (4, .int (L 4)), (5, .int (L 5))]) hx hb dX12_stepFor_119 hl (by decide) rfl (fun ls hl => ?_)
        refine lv_aload_n hx hb dX12_stepFor_121 rfl (lv_at hl 1 rfl) ?_
        refine va_get (D := (dC, dI)) (ci := 11) (v := .ref (a 6)) (C := RX12) (T := TX12) (N := 121) hx hb hts in_x_stepFor hown hK hP 0 rfl rfl 16 (by decide) (hts _ (List.mem_cons_of_mem _ (List.mem_append_left _ (List.mem_append_left _ (List.mem_of_getElem? (i := 11) rfl))))) (fun _ h9 => h9) rfl dX12_stepFor_122 ?_
        refine lv_iload_n hx hb dX12_stepFor_125 rfl (lv_at hl 2 rfl) ?_
        by_cases q1 : ¬ (((L 1)) < 0 ∨ 70000 ≤ ((L 1)).toNatClampNeg)
        · rw [if_pos q1] at h
          refine va_iald hx hb hK hP 6 1 rfl rfl (nb_inp q1) dX12_stepFor_126 ?_
          refine lv_istore (lv' := [(7, .int (σ.2.2 6 ((L 1)).toNatClampNeg)), (6, .int 0), (0, .ref (a 0)), (1, .int (L 1)), (2, .int (L 2)), (3, .int (L 3)), (4, .int (L 4)), (5, .int (L 5))]) hx hb dX12_stepFor_127 hl (by decide) rfl (fun ls hl => ?_)
          exact ih.2.2.2.2.2.2.2.1 (upd (upd L 6 0) 7 ((σ.2.2 6 ((L 1)).toNatClampNeg))) σ r h H locs ls hP hD hS (lv_sub hl [2, 3, 4, 5, 6, 7, 1, 0] rfl)
        · rw [if_neg q1] at h; cases h
      · intro L σ r h H locs ls hP hD hS hl
        rw [x_stepFor] at h
        refine lv_iload hx hb dX12_stepFor_129 (lv_at hl 7 rfl) ?_
        refine lv_iconst (v := (-1)) hx hb dX12_stepFor_131 (by decide) ?_
        refine lv_icmp_eq (tgt := 150) hx hb dX12_stepFor_132 (by decide) (fun c1 => ?_) (fun c1 => ?_)
        · rw [if_pos c1] at h
          exact ih.2.2.2.2.2.2.2.2.1 L σ r h H locs ls hP hD hS (lv_sub hl [0, 1, 2, 3, 4, 5, 6, 7] rfl)
        · rw [if_neg c1] at h
          refine lv_iinc (v := ((L 6)) + 1) (lv' := [(6, .int (((L 6)) + 1)), (0, .ref (a 0)), (1, .int (L 1)), (2, .int (L 2)), (3, .int (L 3)), (4, .int (L 4)), (5, .int (L 5)), (7, .int (L 7))]) hx hb dX12_stepFor_135 hl (k := 6) rfl rfl (by decide) rfl (fun ls hl => ?_)
          refine lv_aload_n hx hb dX12_stepFor_138 rfl (lv_at hl 1 rfl) ?_
          refine va_get (D := (dC, dI)) (ci := 11) (v := .ref (a 9)) (C := RX12) (T := TX12) (N := 121) hx hb hts in_x_stepFor hown hK hP 0 rfl rfl 19 (by decide) (hts _ (List.mem_cons_of_mem _ (List.mem_append_left _ (List.mem_append_left _ (List.mem_of_getElem? (i := 15) rfl))))) (fun _ h9 => h9) rfl dX12_stepFor_139 ?_
          refine lv_iload hx hb dX12_stepFor_142 (lv_at hl 7 rfl) ?_
          by_cases q2 : ¬ (((L 7)) < 0 ∨ 70000 ≤ ((L 7)).toNatClampNeg)
          · rw [if_pos q2] at h
            refine va_iald hx hb hK hP 9 1 rfl rfl (nb_inp q2) dX12_stepFor_144 ?_
            refine lv_istore (lv' := [(7, .int (σ.2.2 9 ((L 7)).toNatClampNeg)), (6, .int (((L 6)) + 1)), (0, .ref (a 0)), (1, .int (L 1)), (2, .int (L 2)), (3, .int (L 3)), (4, .int (L 4)), (5, .int (L 5))]) hx hb dX12_stepFor_145 hl (by decide) rfl (fun ls hl => ?_)
            refine lv_goto (tgt := 129) hx hb dX12_stepFor_147 (by decide) ?_
            exact ih.2.2.2.2.2.2.2.1 (upd (upd L 6 (((L 6)) + 1)) 7 ((σ.2.2 9 ((L 7)).toNatClampNeg))) σ r h H locs ls hP hD hS (lv_sub hl [2, 3, 4, 5, 6, 7, 1, 0] rfl)
          · rw [if_neg q2] at h; cases h
      · intro L σ r h H locs ls hP hD hS hl
        rw [x_stepFor] at h
        refine lv_aload_n hx hb dX12_stepFor_150 rfl (lv_at hl 0 rfl) ?_
        refine lv_iload hx hb dX12_stepFor_151 (lv_at hl 5 rfl) ?_
        cases hc1 : x_kind k 0 (upd (fun _ => 0) 1 ((L 5))) σ with
        | none => rw [hc1, ob_none] at h; cases h
        | some r1 =>
          rw [hc1, ob_some] at h
          have hFc := va_free (wc := vM cy a σ) hD hS hA [0, 1, 2, 3, 4, 5, 6, 7, 8, 9, 10, 11, 12, 13, 14, 15, 16, 17, 18, 19, 20, 21, 22, 23, 24, 25, 26, 27, 28, 29, 30, 31, 32, 33, 34, 35, 36, 37, 38, 39, 40, 41, 42, 43, 44, 45, 46, 47, 48, 49, 50, 51, 52, 53, 54, 55, 56, 57] rfl
          refine va_calli (va_runV (As := [.int (L 5)]) (rest := []) ⟨hx, hb, hml, hown, hts⟩ (c_x_kind l dC dI cy a k (upd (fun _ => 0) 1 ((L 5))) σ r1 hc1 H.size) (cwV 1 hts g_x_stepFor_kind_545 rfl rfl rfl (by decide +kernel) ⟨Nat.le_of_ble_eq_true rfl, Nat.le_of_ble_eq_true rfl⟩) ⟨nb_blind, va_recv hK hP (ci := 11) (q0 := 0) rfl rfl, fun U hU hW => ⟨rfl, by rw [hU], by rw [hU]; exact hP, va_K.moved hW.alike hK, hD.weaken (fun _ _ _ _ => trivial), hG.warm hW⟩⟩ rfl rfl hl.1 rfl (lv_room (Nat.le_of_ble_eq_true rfl)) dX12_stepFor_153 ⟨Nat.le_of_ble_eq_true rfl, Nat.le_of_ble_eq_true rfl⟩) hS (fun q _ h => hFc q h) hFc (fun z9 _ t H1 locs ht hvm hw hB hz1 hk1 hS => ?_)
          subst hw
          obtain ⟨hP1, hK1, hD1⟩ := hB
          rw [ht] at hP1
          obtain ⟨hP, hD⟩ := va_join (wr := []) (w1 := vM cy a r1.2) hP hD [0, 1, 2, 3, 4, 5, 6, 7, 8, 9, 10, 11, 12, 13, 14, 15, 16, 17, 18, 19, 20, 21, 22, 23, 24, 25, 26, 27, 28, 29, 30, 31, 32, 33, 34, 35, 36, 37, 38, 39, 40, 41, 42, 43, 44, 45, 46, 47, 48, 49, 50, 51, 52, 53, 54, 55, 56, 57] [] rfl rfl (by decide) (by decide) hk1 hFc hP1 hD1
          generalize H1 = H at hP hS ⊢
          have hP : va_P (dC, dI) nCl (vM cy a r1.2) H := hP
          have hD : va_D A (vM cy a r1.2) := hD
          refine lv_iconst (v := 5) hx hb dX12_stepFor_156 (by decide) ?_
          refine lv_icmp_ne (tgt := 174) hx hb dX12_stepFor_157 (by decide) (fun c2 => ?_) (fun c2 => ?_)
          · rw [if_neg c2] at h
            exact ih.2.2.2.2.2.2.2.2.2.1 L r1.2 r h H locs ls hP hD hS (lv_sub hl [0, 1, 2, 3, 4, 5, 6, 7] rfl)
          · rw [if_pos c2] at h
            refine lv_aload_n hx hb dX12_stepFor_160 rfl (lv_at hl 0 rfl) ?_
            refine va_get (D := (dC, dI)) (ci := 11) (v := .ref (a 28)) (C := RX12) (T := TX12) (N := 121) hx hb hts in_x_stepFor hown hK hP 0 rfl rfl 53 (by decide) (hts _ (List.mem_cons_of_mem _ (List.mem_append_left _ (List.mem_append_left _ (List.mem_of_getElem? (i := 1) rfl))))) (fun _ h9 => h9) rfl dX12_stepFor_161 ?_
            refine lv_iload hx hb dX12_stepFor_164 (lv_at hl 5 rfl) ?_
            refine lv_iconst (v := 1) hx hb dX12_stepFor_166 (by decide) ?_
            refine lv_iadd hx hb dX12_stepFor_167 ?_
            by_cases q3 : ¬ (((((L 5)) + 1)) < 0 ∨ 1740000 ≤ ((((L 5)) + 1)).toNatClampNeg)
            · rw [if_pos q3] at h
              refine va_iald hx hb hK hP 28 1 rfl rfl (nb_inp q3) dX12_stepFor_168 ?_
              refine lv_iload hx hb dX12_stepFor_169 (lv_at hl 6 rfl) ?_
              refine lv_icmp_le (tgt := 181) hx hb dX12_stepFor_171 (by decide) (fun c4 => ?_) (fun c4 => ?_)
              · rw [if_pos c4] at h
                exact ih.2.2.2.2.2.2.2.2.2.2.1 L r1.2 r h H locs ls hP hD hS (lv_sub hl [0, 1, 2, 3, 4, 5, 6, 7] rfl)
              · rw [if_neg c4] at h
                exact ih.2.2.2.2.2.2.2.2.2.1 L r1.2 r h H locs ls hP hD hS (lv_sub hl [0, 1, 2, 3, 4, 5, 6, 7] rfl)
            · rw [if_neg q3] at h; cases h
      · intro L σ r h H locs ls hP hD hS hl
        rw [x_stepFor] at h
        refine lv_aload_n hx hb dX12_stepFor_174 rfl (lv_at hl 0 rfl) ?_
        refine lv_iconst (v := 1) hx hb dX12_stepFor_175 (by decide) ?_
        cases hc1 : x_fail k 0 (upd (fun _ => 0) 1 1) σ with
        | none => rw [hc1, ob_none] at h; cases h
        | some r1 =>
          rw [hc1, ob_some] at h
          have hFc := va_free (wc := vM cy a σ) hD hS hA [0, 1, 2, 3, 4, 5, 6, 7, 8, 9, 10, 11, 12, 13, 14, 15, 16, 17, 18, 19, 20, 21, 22, 23, 24, 25, 26, 27, 28, 29, 30, 31, 32, 33, 34, 35, 36, 37, 38, 39, 40, 41, 42, 43, 44, 45, 46, 47, 48, 49, 50, 51, 52, 53, 54, 55, 56, 57] rfl
          refine va_callv (va_runV (As := [.int 1]) (rest := []) ⟨hx, hb, hml, hown, hts⟩ (c_x_fail l dC dI cy a k (upd (fun _ => 0) 1 1) σ r1 hc1 H.size) (cwV 1 hts g_x_stepFor_fail_369 rfl rfl rfl (by decide +kernel) ⟨Nat.le_of_ble_eq_true rfl, Nat.le_of_ble_eq_true rfl⟩) ⟨nb_blind, va_recv hK hP (ci := 11) (q0 := 0) rfl rfl, fun U hU hW => ⟨rfl, by rw [hU], by rw [hU]; exact hP, va_K.moved hW.alike hK, hD.weaken (fun _ _ _ _ => trivial), hG.warm hW⟩⟩ rfl rfl hl.1 rfl (lv_room (Nat.le_of_ble_eq_true rfl)) dX12_stepFor_176 ⟨Nat.le_of_ble_eq_true rfl, Nat.le_of_ble_eq_true rfl⟩) hS (fun q _ h => hFc q h) hFc (fun _ t H1 locs ht hvm hw hB hz1 hk1 hS => ?_)
          obtain ⟨hP1, hK1, hD1⟩ := hB
          rw [ht] at hP1
          obtain ⟨hP, hD⟩ := va_join (wr := []) (w1 := vM cy a r1.2) hP hD [0, 1, 2, 3, 4, 5, 6, 7, 8, 9, 10, 11, 12, 13, 14, 15, 16, 17, 18, 19, 20, 21, 22, 23, 24, 25, 26, 27, 28, 29, 30, 31, 32, 33, 34, 35, 36, 37, 38, 39, 40, 41, 42, 43, 44, 45, 46, 47, 48, 49, 50, 51, 52, 53, 54, 55, 56, 57] [] rfl rfl (by decide) (by decide) hk1 hFc hP1 hD1
          generalize H1 = H at hP hS ⊢
          have hP : va_P (dC, dI) nCl (vM cy a r1.2) H := hP
          have hD : va_D A (vM cy a r1.2) := hD
          refine lv_iconst (v := 0) hx hb dX12_stepFor_179 (by decide) ?_
          cases h
          exact W.zret (v := 0) hx hb hr rfl (fun t ht hW => ⟨⟨0, (), rfl, rfl, by rw [ht]; exact hP, va_K.moved hW.alike hK, hD⟩, hS.F ht⟩) hS.2.2 dX12_stepFor_180
      · intro L σ r h H locs ls hP hD hS hl
        rw [x_stepFor] at h
        refine lv_iconst (v := 0) hx hb dX12_stepFor_181 (by decide) ?_
        refine lv_istore (lv' := [(7, .int 0), (0, .ref (a 0)), (1, .int (L 1)), (2, .int (L 2)), (3, .int (L 3)), (4, .int (L 4)), (5, .int (L 5)), (6, .int (L 6))]) hx hb dX12_stepFor_182 hl (by decide) rfl (fun ls hl => ?_)
        refine lv_aload_n hx hb dX12_stepFor_184 rfl (lv_at hl 1 rfl) ?_
        refine va_get (D := (dC, dI)) (ci := 11) (v := .ref (a 6)) (C := RX12) (T := TX12) (N := 121) hx hb hts in_x_stepFor hown hK hP 0 rfl rfl 16 (by decide) (hts _ (List.mem_cons_of_mem _ (List.mem_append_left _ (List.mem_append_left _ (List.mem_of_getElem? (i := 11) rfl))))) (fun _ h9 => h9) rfl dX12_stepFor_185 ?_
        refine lv_iload_n hx hb dX12_stepFor_188 rfl (lv_at hl 2 rfl) ?_
        by_cases q1 : ¬ (((L 1)) < 0 ∨ 70000 ≤ ((L 1)).toNatClampNeg)
        · rw [if_pos q1] at h
          refine va_iald hx hb hK hP 6 1 rfl rfl (nb_inp q1) dX12_stepFor_189 ?_
          refine lv_istore (lv' := [(8, .int (σ.2.2 6 ((L 1)).toNatClampNeg)), (7, .int 0), (0, .ref (a 0)), (1, .int (L 1)), (2, .int (L 2)), (3, .int (L 3)), (4, .int (L 4)), (5, .int (L 5)), (6, .int (L 6))]) hx hb dX12_stepFor_190 hl (by decide) rfl (fun ls hl => ?_)
          exact ih.2.2.2.2.2.2.2.2.2.2.2.1 (upd (upd L 7 0) 8 ((σ.2.2 6 ((L 1)).toNatClampNeg))) σ r h H locs ls hP hD hS (lv_sub hl [2, 3, 4, 5, 6, 7, 8, 1, 0] rfl)
        · rw [if_neg q1] at h; cases h
      · intro L σ r h H locs ls hP hD hS hl
        rw [x_stepFor] at h
        refine lv_iload hx hb dX12_stepFor_192 (lv_at hl 8 rfl) ?_
        refine lv_iconst (v := (-1)) hx hb dX12_stepFor_194 (by decide) ?_
        refine lv_icmp_eq (tgt := 249) hx hb dX12_stepFor_195 (by decide) (fun c1 => ?_) (fun c1 => ?_)
        · rw [if_pos c1] at h
          exact ih.2.2.2.2.2.2.2.2.2.2.2.2.2.2.1 L σ r h H locs ls hP hD hS (lv_sub hl [0, 1, 2, 3, 4, 5, 6, 7, 8] rfl)
        · rw [if_neg c1] at h
          refine lv_aload_n hx hb dX12_stepFor_198 rfl (lv_at hl 0 rfl) ?_
          refine lv_iload hx hb dX12_stepFor_199 (lv_at hl 8 rfl) ?_
          refine lv_iload hx hb dX12_stepFor_201 (lv_at hl 7 rfl) ?_
          refine lv_aload_n hx hb dX12_stepFor_203 rfl (lv_at hl 0 rfl) ?_
          refine va_get (D := (dC, dI)) (ci := 11) (v := .ref (a 28)) (C := RX12) (T := TX12) (N := 121) hx hb hts in_x_stepFor hown hK hP 0 rfl rfl 53 (by decide) (hts _ (List.mem_cons_of_mem _ (List.mem_append_left _ (List.mem_append_left _ (List.mem_of_getElem? (i := 1) rfl))))) (fun _ h9 => h9) rfl dX12_stepFor_204 ?_
          refine lv_iload hx hb dX12_stepFor_207 (lv_at hl 5 rfl) ?_
          refine lv_iconst (v := 1) hx hb dX12_stepFor_209 (by decide) ?_
          refine lv_iadd hx hb dX12_stepFor_210 ?_
          by_cases q2 : ¬ (((((L 5)) + 1)) < 0 ∨ 1740000 ≤ ((((L 5)) + 1)).toNatClampNeg)
          · rw [if_pos q2] at h
            refine va_iald hx hb hK hP 28 1 rfl rfl (nb_inp q2) dX12_stepFor_211 ?_
            refine lv_icmp_ge (tgt := 230) hx hb dX12_stepFor_212 (by decide) (fun c3 => ?_) (fun c3 => ?_)
            · rw [if_pos c3] at h
              exact ih.2.2.2.2.2.2.2.2.2.2.2.2.1 (upd L 100 ((L 8))) σ r h H locs ls hP hD hS (lv_sub hl [0, 1, 2, 3, 4, 5, 6, 7, 8] rfl)
            · rw [if_neg c3] at h
              refine lv_aload_n hx hb dX12_stepFor_215 rfl (lv_at hl 0 rfl) ?_
              refine va_get (D := (dC, dI)) (ci := 11) (v := .ref (a 28)) (C := RX12) (T := TX12) (N := 121) hx hb hts in_x_stepFor hown hK hP 0 rfl rfl 53 (by decide) (hts _ (List.mem_cons_of_mem _ (List.mem_append_left _ (List.mem_append_left _ (List.mem_of_getElem? (i := 1) rfl))))) (fun _ h9 => h9) rfl dX12_stepFor_216 ?_
              refine lv_iload hx hb dX12_stepFor_219 (lv_at hl 5 rfl) ?_
              refine lv_iconst (v := 4) hx hb dX12_stepFor_221 (by decide) ?_
              refine lv_iadd hx hb dX12_stepFor_222 ?_
              refine lv_iload hx hb dX12_stepFor_223 (lv_at hl 7 rfl) ?_
              refine lv_iadd hx hb dX12_stepFor_225 ?_
              by_cases q4 : ¬ (((((((L 5)) + 4)) + ((L 7)))) < 0 ∨ 1740000 ≤ ((((((L 5)) + 4)) + ((L 7)))).toNatClampNeg)
              · rw [if_pos q4] at h
                refine va_iald hx hb hK hP 28 1 rfl rfl (nb_inp q4) dX12_stepFor_226 ?_
                refine lv_goto (tgt := 231) hx hb dX12_stepFor_227 (by decide) ?_
                exact ih.2.2.2.2.2.2.2.2.2.2.2.2.2.1 (upd (upd L 100 ((σ.2.2 28 ((((((L 5)) + 4)) + ((L 7)))).toNatClampNeg))) 101 ((L 8))) σ r h H locs ls hP hD hS (lv_sub hl [0, 1, 2, 3, 4, 5, 6, 7, 8] rfl)
              · rw [if_neg q4] at h; cases h
          · rw [if_neg q2] at h; cases h
      · intro L σ r h H locs ls hP hD hS hl
        rw [x_stepFor] at h
        refine lv_iconst (v := 0) hx hb dX12_stepFor_230 (by decide) ?_
        exact ih.2.2.2.2.2.2.2.2.2.2.2.2.2.1 (upd (upd L 100 0) 101 ((L 100))) σ r h H locs ls hP hD hS (lv_sub hl [0, 1, 2, 3, 4, 5, 6, 7, 8] rfl)
      · intro L σ r h H locs ls hP hD hS hl
        rw [x_stepFor] at h
        cases hc1 : x_assign k 0 (upd (upd (fun _ => 0) 1 ((L 101))) 2 ((L 100))) σ with
        | none => rw [hc1, ob_none] at h; cases h
        | some r1 =>
          rw [hc1, ob_some] at h
          have hFc := va_free (wc := vM cy a σ) hD hS hA [0, 1, 2, 3, 4, 5, 6, 7, 8, 9, 10, 11, 12, 13, 14, 15, 16, 17, 18, 19, 20, 21, 22, 23, 24, 25, 26, 27, 28, 29, 30, 31, 32, 33, 34, 35, 36, 37, 38, 39, 40, 41, 42, 43, 44, 45, 46, 47, 48, 49, 50, 51, 52, 53, 54, 55, 56, 57] rfl
          refine va_callv (va_runV (As := [.int (L 101), .int (L 100)]) (rest := []) ⟨hx, hb, hml, hown, hts⟩ (c_x_assign l dC dI cy a k (upd (upd (fun _ => 0) 1 ((L 101))) 2 ((L 100))) σ r1 hc1 H.size) (cwV 2 hts g_x_stepFor_assign_840 rfl rfl rfl (by decide +kernel) ⟨Nat.le_of_ble_eq_true rfl, Nat.le_of_ble_eq_true rfl⟩) ⟨nb_blind, va_recv hK hP (ci := 11) (q0 := 0) rfl rfl, fun U hU hW => ⟨rfl, by rw [hU], by rw [hU]; exact hP, va_K.moved hW.alike hK, hD.weaken (fun _ _ _ _ => trivial), hG.warm hW⟩⟩ rfl rfl hl.1 rfl (lv_room (Nat.le_of_ble_eq_true rfl)) dX12_stepFor_231 ⟨Nat.le_of_ble_eq_true rfl, Nat.le_of_ble_eq_true rfl⟩) hS (fun q _ h => hFc q h) hFc (fun _ t H1 locs ht hvm hw hB hz1 hk1 hS => ?_)
          obtain ⟨hP1, hK1, hD1⟩ := hB
          rw [ht] at hP1
          obtain ⟨hP, hD⟩ := va_join (wr := []) (w1 := vM cy a r1.2) hP hD [0, 1, 2, 3, 4, 5, 6, 7, 8, 9, 10, 11, 12, 13, 14, 15, 16, 17, 18, 19, 20, 21, 22, 23, 24, 25, 26, 27, 28, 29, 30, 31, 32, 33, 34, 35, 36, 37, 38, 39, 40, 41, 42, 43, 44, 45, 46, 47, 48, 49, 50, 51, 52, 53, 54, 55, 56, 57] [] rfl rfl (by decide) (by decide) hk1 hFc hP1 hD1
          generalize H1 = H at hP hS ⊢
          have hP : va_P (dC, dI) nCl (vM cy a r1.2) H := hP
          have hD : va_D A (vM cy a r1.2) := hD
          refine lv_iinc (v := ((L 7)) + 1) (lv' := [(7, .int (((L 7)) + 1)), (0, .ref (a 0)), (1, .int (L 1)), (2, .int (L 2)), (3, .int (L 3)), (4, .int (L 4)), (5, .int (L 5)), (6, .int (L 6)), (8, .int (L 8))]) hx hb dX12_stepFor_234 hl (k := 7) rfl rfl (by decide) rfl (fun ls hl => ?_)
          refine lv_aload_n hx hb dX12_stepFor_237 rfl (lv_at hl 1 rfl) ?_
          refine va_get (D := (dC, dI)) (ci := 11) (v := .ref (a 9)) (C := RX12) (T := TX12) (N := 121) hx hb hts in_x_stepFor hown hK hP 0 rfl rfl 19 (by decide) (hts _ (List.mem_cons_of_mem _ (List.mem_append_left _ (List.mem_append_left _ (List.mem_of_getElem? (i := 15) rfl))))) (fun _ h9 => h9) rfl dX12_stepFor_238 ?_
          refine lv_iload hx hb dX12_stepFor_241 (lv_at hl 8 rfl) ?_
          by_cases q2 : ¬ (((L 8)) < 0 ∨ 70000 ≤ ((L 8)).toNatClampNeg)
          · rw [if_pos q2] at h
            refine va_iald hx hb hK hP 9 1 rfl rfl (nb_inp q2) dX12_stepFor_243 ?_
            refine lv_istore (lv' := [(8, .int (r1.2.2.2 9 ((L 8)).toNatClampNeg)), (7, .int (((L 7)) + 1)), (0, .ref (a 0)), (1, .int (L 1)), (2, .int (L 2)), (3, .int (L 3)), (4, .int (L 4)), (5, .int (L 5)), (6, .int (L 6))]) hx hb dX12_stepFor_244 hl (by decide) rfl (fun ls hl => ?_)
            refine lv_goto (tgt := 192) hx hb dX12_stepFor_246 (by decide) ?_
            exact ih.2.2.2.2.2.2.2.2.2.2.2.1 (upd (upd L 7 (((L 7)) + 1)) 8 ((r1.2.2.2 9 ((L 8)).toNatClampNeg))) r1.2 r h H locs ls hP hD hS (lv_sub hl [2, 3, 4, 5, 6, 7, 8, 1, 0] rfl)
          · rw [if_neg q2] at h; cases h
      · intro L σ r h H locs ls hP hD hS hl
        rw [x_stepFor] at h
        refine lv_aload_n hx hb dX12_stepFor_249 rfl (lv_at hl 0 rfl) ?_
        refine va_get (D := (dC, dI)) (ci := 11) (v := .int (σ.1 56)) (C := RX12) (T := TX12) (N := 121) hx hb hts in_x_stepFor hown hK hP 0 rfl rfl 56 (by decide) (hts _ (List.mem_cons_of_mem _ (List.mem_append_left _ (List.mem_append_left _ (List.mem_of_getElem? (i := 6) rfl))))) (fun _ h9 => h9) rfl dX12_stepFor_250 ?_
        refine lv_if_ne (tgt := 260) hx hb dX12_stepFor_253 (by decide) (fun c1 => ?_) (fun c1 => ?_)
        · rw [if_neg c1] at h
          exact ih.2.2.2.2.2.2.2.2.2.2.2.2.2.2.2.1 L σ r h H locs ls hP hD hS (lv_sub hl [0, 1, 2, 3, 4, 5, 6, 7, 8] rfl)
        · rw [if_pos c1] at h
          refine lv_iconst (v := 1) hx hb dX12_stepFor_256 (by decide) ?_
          refine lv_goto (tgt := 261) hx hb dX12_stepFor_257 (by decide) ?_
          exact ih.2.2.2.2.2.2.2.2.2.2.2.2.2.2.2.2 (upd L 100 1) σ r h H locs ls hP hD hS (lv_sub hl [0, 1, 2, 3, 4, 5, 6, 7, 8] rfl)
      · intro L σ r h H locs ls hP hD hS hl
        rw [x_stepFor] at h
        refine lv_iconst (v := 0) hx hb dX12_stepFor_260 (by decide) ?_
        exact ih.2.2.2.2.2.2.2.2.2.2.2.2.2.2.2.2 (upd L 100 0) σ r h H locs ls hP hD hS (lv_sub hl [0, 1, 2, 3, 4, 5, 6, 7, 8] rfl)
      · intro L σ r h H locs ls hP hD hS hl
        rw [x_stepFor] at h
        by_cases q1 : ((L 100)) = 0 ∨ ((L 100)) = 1
        · rw [if_pos q1] at h
          cases h
          exact W.zret (v := (L 100)) hx hb hr (nb_bz q1) (fun t ht hW => ⟨⟨(L 100), (), rfl, rfl, by rw [ht]; exact hP, va_K.moved hW.alike hK, hD⟩, hS.F ht⟩) hS.2.2 dX12_stepFor_261
        · rw [if_neg q1] at h; cases h
  exact (blk k0).1 L0 σ0 r0 h0 s.heap [] ls hP hD hS hl
