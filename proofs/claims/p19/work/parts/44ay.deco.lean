theorem gg_x_goesOn_answer : GoodIn w_x_goesOn w_x_answer := goodIn_sub (fun w h => (List.mem_cons.mp h).elim (fun e => (List.mem_cons_of_mem _ (List.mem_append_left _ (List.mem_append_right _ (List.mem_append_right _ (List.mem_append_right _ (List.mem_append_left _ (List.mem_cons.mpr (Or.inl e))))))))) (fun h => (List.mem_append.mp h).elim (fun h => (List.mem_cons_of_mem _ (List.mem_append_left _ (List.mem_append_right _ (List.mem_append_right _ (List.mem_append_right _ (List.mem_append_left _ (List.mem_cons_of_mem _ h)))))))) (fun h => List.mem_cons_of_mem _ (List.mem_append_right _ h)))) w_x_answer_good
theorem g_x_goesOn_answer_591 : GoodIn w_x_goesOn (wsV RX12 591 RX12 yX12_answer w_x_answer) := goodIn_app (nb_g4 (List.mem_cons_of_mem _ (List.mem_append_left _ (List.mem_append_left _ (List.mem_of_getElem? (i := 25) rfl)))) (List.mem_cons_of_mem _ (List.mem_append_left _ (List.mem_append_left _ (List.mem_of_getElem? (i := 26) rfl)))) (List.mem_cons_of_mem _ (List.mem_append_left _ (List.mem_append_left _ (List.mem_of_getElem? (i := 27) rfl)))) (List.mem_cons_of_mem _ (List.mem_append_left _ (List.mem_append_left _ (List.mem_of_getElem? (i := 19) rfl)))) (by decide +kernel)) gg_x_goesOn_answer
theorem gg_x_goesOn_eval : GoodIn w_x_goesOn w_x_eval := goodIn_sub (fun w h => (List.mem_cons.mp h).elim (fun e => e ▸ (List.mem_cons_of_mem _ (List.mem_append_left _ (List.mem_append_left _ (List.mem_of_getElem? (i := 4) rfl))))) (fun h => List.mem_cons_of_mem _ h)) w_x_eval_good
theorem g_x_goesOn_eval_566 : GoodIn w_x_goesOn (wsV RX12 566 RX12 yX12_eval w_x_eval) := goodIn_app (nb_g4 (List.mem_cons_of_mem _ (List.mem_append_left _ (List.mem_append_left _ (List.mem_of_getElem? (i := 62) rfl)))) (List.mem_cons_of_mem _ (List.mem_append_left _ (List.mem_append_left _ (List.mem_of_getElem? (i := 63) rfl)))) (List.mem_cons_of_mem _ (List.mem_append_left _ (List.mem_append_left _ (List.mem_of_getElem? (i := 64) rfl)))) (List.mem_cons_of_mem _ (List.mem_append_left _ (List.mem_append_left _ (List.mem_of_getElem? (i := 19) rfl)))) (by decide +kernel)) gg_x_goesOn_eval
theorem gg_x_goesOn_image : GoodIn w_x_goesOn w_x_image := goodIn_sub (fun w h => (List.mem_cons.mp h).elim (fun e => (List.mem_cons_of_mem _ (List.mem_append_left _ (List.mem_append_right _ (List.mem_append_right _ (List.mem_append_right _ (List.mem_append_right _ (List.mem_append_right _ (List.mem_append_right _ (List.mem_append_right _ (List.mem_append_right _ (List.mem_append_right _ (List.mem_append_right _ (List.mem_append_right _ (List.mem_append_right _ (List.mem_append_right _ (List.mem_append_right _ (List.mem_append_right _ (List.mem_append_right _ (List.mem_append_right _ (List.mem_append_right _ (List.mem_append_right _ (List.mem_append_right _ (List.mem_append_right _ (List.mem_append_left _ (List.mem_cons.mpr (Or.inl e))))))))))))))))))))))))))) (fun h => (List.mem_append.mp h).elim (fun h => (List.mem_cons_of_mem _ (List.mem_append_left _ (List.mem_append_right _ (List.mem_append_right _ (List.mem_append_right _ (List.mem_append_right _ (List.mem_append_right _ (List.mem_append_right _ (List.mem_append_right _ (List.mem_append_right _ (List.mem_append_right _ (List.mem_append_right _ (List.mem_append_right _ (List.mem_append_right _ (List.mem_append_right _ (List.mem_append_right _ (List.mem_append_right _ (List.mem_append_right _ (List.mem_append_right _ (List.mem_append_right _ (List.mem_append_right _ (List.mem_append_right _ (List.mem_append_right _ (List.mem_append_left _ (List.mem_cons_of_mem _ h)))))))))))))))))))))))))) (fun h => List.mem_cons_of_mem _ (List.mem_append_right _ h)))) w_x_image_good
theorem g_x_goesOn_image_656 : GoodIn w_x_goesOn (wsV RX12 656 RX12 yX12_image w_x_image) := goodIn_app (nb_g4 (List.mem_cons_of_mem _ (List.mem_append_left _ (List.mem_append_left _ (List.mem_of_getElem? (i := 132) rfl)))) (List.mem_cons_of_mem _ (List.mem_append_left _ (List.mem_append_left _ (List.mem_of_getElem? (i := 133) rfl)))) (List.mem_cons_of_mem _ (List.mem_append_left _ (List.mem_append_left _ (List.mem_of_getElem? (i := 134) rfl)))) (List.mem_cons_of_mem _ (List.mem_append_left _ (List.mem_append_left _ (List.mem_of_getElem? (i := 19) rfl)))) (by decide +kernel)) gg_x_goesOn_image
theorem gg_x_goesOn_isTrue : GoodIn w_x_goesOn w_x_isTrue := goodIn_sub (fun w h => (List.mem_cons.mp h).elim (fun e => (List.mem_cons_of_mem _ (List.mem_append_left _ (List.mem_append_right _ (List.mem_append_right _ (List.mem_append_right _ (List.mem_append_right _ (List.mem_append_right _ (List.mem_append_right _ (List.mem_append_right _ (List.mem_append_right _ (List.mem_append_right _ (List.mem_append_right _ (List.mem_append_right _ (List.mem_append_right _ (List.mem_append_right _ (List.mem_append_right _ (List.mem_append_right _ (List.mem_append_right _ (List.mem_append_right _ (List.mem_append_left _ (List.mem_cons.mpr (Or.inl e))))))))))))))))))))))) (fun h => (List.mem_append.mp h).elim (fun h => (List.mem_cons_of_mem _ (List.mem_append_left _ (List.mem_append_right _ (List.mem_append_right _ (List.mem_append_right _ (List.mem_append_right _ (List.mem_append_right _ (List.mem_append_right _ (List.mem_append_right _ (List.mem_append_right _ (List.mem_append_right _ (List.mem_append_right _ (List.mem_append_right _ (List.mem_append_right _ (List.mem_append_right _ (List.mem_append_right _ (List.mem_append_right _ (List.mem_append_right _ (List.mem_append_right _ (List.mem_append_left _ (List.mem_cons_of_mem _ h)))))))))))))))))))))) (fun h => List.mem_cons_of_mem _ (List.mem_append_right _ h)))) w_x_isTrue_good
theorem g_x_goesOn_isTrue_569 : GoodIn w_x_goesOn (wsV RX12 569 RX12 yX12_isTrue w_x_isTrue) := goodIn_app (nb_g4 (List.mem_cons_of_mem _ (List.mem_append_left _ (List.mem_append_left _ (List.mem_of_getElem? (i := 120) rfl)))) (List.mem_cons_of_mem _ (List.mem_append_left _ (List.mem_append_left _ (List.mem_of_getElem? (i := 121) rfl)))) (List.mem_cons_of_mem _ (List.mem_append_left _ (List.mem_append_left _ (List.mem_of_getElem? (i := 122) rfl)))) (List.mem_cons_of_mem _ (List.mem_append_left _ (List.mem_append_left _ (List.mem_of_getElem? (i := 19) rfl)))) (by decide +kernel)) gg_x_goesOn_isTrue
theorem gg_x_goesOn_operate : GoodIn w_x_goesOn w_x_operate := goodIn_sub (fun w h => (List.mem_cons.mp h).elim (fun e => (List.mem_cons_of_mem _ (List.mem_append_left _ (List.mem_append_right _ (List.mem_append_right _ (List.mem_append_right _ (List.mem_append_right _ (List.mem_append_right _ (List.mem_append_right _ (List.mem_append_right _ (List.mem_append_right _ (List.mem_append_right _ (List.mem_append_right _ (List.mem_append_right _ (List.mem_append_right _ (List.mem_append_right _ (List.mem_append_right _ (List.mem_append_right _ (List.mem_append_right _ (List.mem_append_right _ (List.mem_append_right _ (List.mem_append_right _ (List.mem_append_right _ (List.mem_append_right _ (List.mem_append_right _ (List.mem_append_left _ (List.mem_cons.mpr (Or.inl e)))))))))))))))))))))))))))) (fun h => (List.mem_append.mp h).elim (fun h => (List.mem_cons_of_mem _ (List.mem_append_left _ (List.mem_append_right _ (List.mem_append_right _ (List.mem_append_right _ (List.mem_append_right _ (List.mem_append_right _ (List.mem_append_right _ (List.mem_append_right _ (List.mem_append_right _ (List.mem_append_right _ (List.mem_append_right _ (List.mem_append_right _ (List.mem_append_right _ (List.mem_append_right _ (List.mem_append_right _ (List.mem_append_right _ (List.mem_append_right _ (List.mem_append_right _ (List.mem_append_right _ (List.mem_append_right _ (List.mem_append_right _ (List.mem_append_right _ (List.mem_append_right _ (List.mem_append_left _ (List.mem_cons_of_mem _ h))))))))))))))))))))))))))) (fun h => List.mem_cons_of_mem _ (List.mem_append_right _ h)))) w_x_operate_good
theorem g_x_goesOn_operate_659 : GoodIn w_x_goesOn (wsV RX12 659 RX12 yX12_operate w_x_operate) := goodIn_app (nb_g4 (List.mem_cons_of_mem _ (List.mem_append_left _ (List.mem_append_left _ (List.mem_of_getElem? (i := 135) rfl)))) (List.mem_cons_of_mem _ (List.mem_append_left _ (List.mem_append_left _ (List.mem_of_getElem? (i := 136) rfl)))) (List.mem_cons_of_mem _ (List.mem_append_left _ (List.mem_append_left _ (List.mem_of_getElem? (i := 137) rfl)))) (List.mem_cons_of_mem _ (List.mem_append_left _ (List.mem_append_left _ (List.mem_of_getElem? (i := 19) rfl)))) (by decide +kernel)) gg_x_goesOn_operate
theorem gg_x_goesOn_partAt : GoodIn w_x_goesOn w_x_partAt := goodIn_sub (fun w h => (List.mem_cons.mp h).elim (fun e => (List.mem_cons_of_mem _ (List.mem_append_left _ (List.mem_append_right _ (List.mem_append_right _ (List.mem_append_right _ (List.mem_append_right _ (List.mem_append_right _ (List.mem_append_right _ (List.mem_append_right _ (List.mem_append_right _ (List.mem_append_right _ (List.mem_append_right _ (List.mem_append_right _ (List.mem_append_right _ (List.mem_append_right _ (List.mem_append_right _ (List.mem_append_right _ (List.mem_append_right _ (List.mem_append_right _ (List.mem_append_right _ (List.mem_append_right _ (List.mem_append_right _ (List.mem_append_left _ (List.mem_cons.mpr (Or.inl e)))))))))))))))))))))))))) (fun h => (List.mem_append.mp h).elim (fun h => (List.mem_cons_of_mem _ (List.mem_append_left _ (List.mem_append_right _ (List.mem_append_right _ (List.mem_append_right _ (List.mem_append_right _ (List.mem_append_right _ (List.mem_append_right _ (List.mem_append_right _ (List.mem_append_right _ (List.mem_append_right _ (List.mem_append_right _ (List.mem_append_right _ (List.mem_append_right _ (List.mem_append_right _ (List.mem_append_right _ (List.mem_append_right _ (List.mem_append_right _ (List.mem_append_right _ (List.mem_append_right _ (List.mem_append_right _ (List.mem_append_right _ (List.mem_append_left _ (List.mem_cons_of_mem _ h))))))))))))))))))))))))) (fun h => List.mem_cons_of_mem _ (List.mem_append_right _ h)))) w_x_partAt_good
theorem g_x_goesOn_partAt_653 : GoodIn w_x_goesOn (wsV RX12 653 RX12 yX12_partAt w_x_partAt) := goodIn_app (nb_g4 (List.mem_cons_of_mem _ (List.mem_append_left _ (List.mem_append_left _ (List.mem_of_getElem? (i := 129) rfl)))) (List.mem_cons_of_mem _ (List.mem_append_left _ (List.mem_append_left _ (List.mem_of_getElem? (i := 130) rfl)))) (List.mem_cons_of_mem _ (List.mem_append_left _ (List.mem_append_left _ (List.mem_of_getElem? (i := 131) rfl)))) (List.mem_cons_of_mem _ (List.mem_append_left _ (List.mem_append_left _ (List.mem_of_getElem? (i := 19) rfl)))) (by decide +kernel)) gg_x_goesOn_partAt
theorem gg_x_goesOn_push : GoodIn w_x_goesOn w_x_push := goodIn_sub (fun w h => (List.mem_cons.mp h).elim (fun e => (List.mem_cons_of_mem _ (List.mem_append_left _ (List.mem_append_right _ (List.mem_append_right _ (List.mem_append_right _ (List.mem_append_right _ (List.mem_append_left _ (List.mem_cons.mpr (Or.inl e)))))))))) (fun h => (List.mem_append.mp h).elim (fun h => (List.mem_cons_of_mem _ (List.mem_append_left _ (List.mem_append_right _ (List.mem_append_right _ (List.mem_append_right _ (List.mem_append_right _ (List.mem_append_left _ (List.mem_cons_of_mem _ h))))))))) (fun h => List.mem_cons_of_mem _ (List.mem_append_right _ h)))) w_x_push_good
theorem g_x_goesOn_push_594 : GoodIn w_x_goesOn (wsV RX12 594 RX12 yX12_push w_x_push) := goodIn_app (nb_g4 (List.mem_cons_of_mem _ (List.mem_append_left _ (List.mem_append_left _ (List.mem_of_getElem? (i := 28) rfl)))) (List.mem_cons_of_mem _ (List.mem_append_left _ (List.mem_append_left _ (List.mem_of_getElem? (i := 29) rfl)))) (List.mem_cons_of_mem _ (List.mem_append_left _ (List.mem_append_left _ (List.mem_of_getElem? (i := 30) rfl)))) (List.mem_cons_of_mem _ (List.mem_append_left _ (List.mem_append_left _ (List.mem_of_getElem? (i := 19) rfl)))) (by decide +kernel)) gg_x_goesOn_push
theorem gg_x_goesOn_slice : GoodIn w_x_goesOn w_x_slice := goodIn_sub (fun w h => (List.mem_cons.mp h).elim (fun e => (List.mem_cons_of_mem _ (List.mem_append_left _ (List.mem_append_right _ (List.mem_append_right _ (List.mem_append_right _ (List.mem_append_right _ (List.mem_append_right _ (List.mem_append_right _ (List.mem_append_right _ (List.mem_append_right _ (List.mem_append_right _ (List.mem_append_right _ (List.mem_append_right _ (List.mem_append_right _ (List.mem_append_right _ (List.mem_append_right _ (List.mem_append_right _ (List.mem_append_right _ (List.mem_append_right _ (List.mem_append_right _ (List.mem_append_right _ (List.mem_append_left _ (List.mem_cons.mpr (Or.inl e))))))))))))))))))))))))) (fun h => (List.mem_append.mp h).elim (fun h => (List.mem_cons_of_mem _ (List.mem_append_left _ (List.mem_append_right _ (List.mem_append_right _ (List.mem_append_right _ (List.mem_append_right _ (List.mem_append_right _ (List.mem_append_right _ (List.mem_append_right _ (List.mem_append_right _ (List.mem_append_right _ (List.mem_append_right _ (List.mem_append_right _ (List.mem_append_right _ (List.mem_append_right _ (List.mem_append_right _ (List.mem_append_right _ (List.mem_append_right _ (List.mem_append_right _ (List.mem_append_right _ (List.mem_append_right _ (List.mem_append_left _ (List.mem_cons_of_mem _ h)))))))))))))))))))))))) (fun h => List.mem_cons_of_mem _ (List.mem_append_right _ h)))) w_x_slice_good
theorem g_x_goesOn_slice_649 : GoodIn w_x_goesOn (wsV RX12 649 RX12 yX12_slice w_x_slice) := goodIn_app (nb_g4 (List.mem_cons_of_mem _ (List.mem_append_left _ (List.mem_append_left _ (List.mem_of_getElem? (i := 126) rfl)))) (List.mem_cons_of_mem _ (List.mem_append_left _ (List.mem_append_left _ (List.mem_of_getElem? (i := 127) rfl)))) (List.mem_cons_of_mem _ (List.mem_append_left _ (List.mem_append_left _ (List.mem_of_getElem? (i := 128) rfl)))) (List.mem_cons_of_mem _ (List.mem_append_left _ (List.mem_append_left _ (List.mem_of_getElem? (i := 19) rfl)))) (by decide +kernel)) gg_x_goesOn_slice
theorem gg_x_goesOn_sweep : GoodIn w_x_goesOn w_x_sweep := goodIn_sub (fun w h => (List.mem_cons.mp h).elim (fun e => (List.mem_cons_of_mem _ (List.mem_append_left _ (List.mem_append_right _ (List.mem_append_left _ (List.mem_cons.mpr (Or.inl e))))))) (fun h => (List.mem_append.mp h).elim (fun h => (List.mem_cons_of_mem _ (List.mem_append_left _ (List.mem_append_right _ (List.mem_append_left _ (List.mem_cons_of_mem _ h)))))) (fun h => List.mem_cons_of_mem _ (List.mem_append_right _ h)))) w_x_sweep_good
theorem g_x_goesOn_sweep_585 : GoodIn w_x_goesOn (wsV RX12 585 RX12 yX12_sweep w_x_sweep) := goodIn_app (nb_g4 (List.mem_cons_of_mem _ (List.mem_append_left _ (List.mem_append_left _ (List.mem_of_getElem? (i := 16) rfl)))) (List.mem_cons_of_mem _ (List.mem_append_left _ (List.mem_append_left _ (List.mem_of_getElem? (i := 17) rfl)))) (List.mem_cons_of_mem _ (List.mem_append_left _ (List.mem_append_left _ (List.mem_of_getElem? (i := 18) rfl)))) (List.mem_cons_of_mem _ (List.mem_append_left _ (List.mem_append_left _ (List.mem_of_getElem? (i := 19) rfl)))) (by decide +kernel)) gg_x_goesOn_sweep
theorem gg_x_goesOn_truth : GoodIn w_x_goesOn w_x_truth := goodIn_sub (fun w h => (List.mem_cons.mp h).elim (fun e => (List.mem_cons_of_mem _ (List.mem_append_left _ (List.mem_append_right _ (List.mem_append_right _ (List.mem_append_right _ (List.mem_append_right _ (List.mem_append_right _ (List.mem_append_right _ (List.mem_append_right _ (List.mem_append_right _ (List.mem_append_right _ (List.mem_append_right _ (List.mem_append_right _ (List.mem_append_right _ (List.mem_append_right _ (List.mem_append_right _ (List.mem_append_right _ (List.mem_append_right _ (List.mem_append_right _ (List.mem_append_right _ (List.mem_append_left _ (List.mem_cons.mpr (Or.inl e)))))))))))))))))))))))) (fun h => (List.mem_append.mp h).elim (fun h => (List.mem_cons_of_mem _ (List.mem_append_left _ (List.mem_append_right _ (List.mem_append_right _ (List.mem_append_right _ (List.mem_append_right _ (List.mem_append_right _ (List.mem_append_right _ (List.mem_append_right _ (List.mem_append_right _ (List.mem_append_right _ (List.mem_append_right _ (List.mem_append_right _ (List.mem_append_right _ (List.mem_append_right _ (List.mem_append_right _ (List.mem_append_right _ (List.mem_append_right _ (List.mem_append_right _ (List.mem_append_right _ (List.mem_append_left _ (List.mem_cons_of_mem _ h))))))))))))))))))))))) (fun h => List.mem_cons_of_mem _ (List.mem_append_right _ h)))) w_x_truth_good
theorem g_x_goesOn_truth_646 : GoodIn w_x_goesOn (wsV RX12 646 RX12 yX12_truth w_x_truth) := goodIn_app (nb_g4 (List.mem_cons_of_mem _ (List.mem_append_left _ (List.mem_append_left _ (List.mem_of_getElem? (i := 123) rfl)))) (List.mem_cons_of_mem _ (List.mem_append_left _ (List.mem_append_left _ (List.mem_of_getElem? (i := 124) rfl)))) (List.mem_cons_of_mem _ (List.mem_append_left _ (List.mem_append_left _ (List.mem_of_getElem? (i := 125) rfl)))) (List.mem_cons_of_mem _ (List.mem_append_left _ (List.mem_append_left _ (List.mem_of_getElem? (i := 19) rfl)))) (by decide +kernel)) gg_x_goesOn_truth
set_option maxHeartbeats 40000000 in
set_option maxRecDepth 100000 in
theorem c_s_goesOn (l : Launch) (dC : Nat → ClassId) (dI : Nat → Nat → Nat) (cy : Nat → ClassId) (a : Nat → Nat) (k0 : Nat) (IH : ∀ j : Nat, j < k0 → P_GV l dC dI cy a j) (d : Nat) (L0 : Nat → Int32) (σ0 : MS) (r0 : Int32 × MS) (h0 : x_GV k0 d 7 0 L0 σ0 = some r0) (sz : Nat) : Met l yX12_goesOn w_x_goesOn ({ frames := 57 + d, cells := 0, slots := 0, locals := 1375 + 27 * d }) (va_Pc [.ref (a 0), .int (L0 1)] (nIn (dC, dI) cy sz (vM cy a σ0))) (va_Qv (fun _ : Unit => True) (fun _ t => nOut (dC, dI) cy (va_A (vM cy a σ0) sz) (vM cy a r0.2) t) (va_A (vM cy a σ0) sz)) 0 0 (va_A (vM cy a σ0) sz) := by
  refine Met.ofW (cc := cX12_goesOn) (maxL := 6) (ret := none) (by decide) rfl ?_
  intro p e s m args below meth c s₁ B hml hv
  obtain ⟨rfl, hsz, hP, hK, hD0, hG⟩ := hv
  have hx := B.exec
  have hb := B.bytes
  have hr := B.returns
  have hts := atoms_spec (ws := w_x_goesOn) B.pre
  have hown : s.vm.findClass RX12 = some m.cls := findClass_of_methodNamed B.named
  have hlocks := B.notSynchronized
  subst hsz
  have hD := hD0.self (sz := s.heap.size)
  generalize hAe : va_A (vM cy a σ0) s.heap.size = A at hD ⊢
  have hA : ∀ q : Nat, s.heap.size ≤ q → A q := fun q h => by rw [← hAe]; exact Or.inr h
  have hS : va_S A s.heap s.heap [] := va_S.rf
  have hl := lv_entry ([.ref (a 0), .int (L0 1)]) (n := 6) (Nat.le_of_ble_eq_true rfl)
  rw [lg_entry_eq]
  generalize (lg_sl ([.ref (a 0), .int (L0 1)]) ++ List.replicate (6 - (lg_sl ([.ref (a 0), .int (L0 1)])).length) Slot.unset).toArray = ls at hl ⊢
  have hl : lv_has ls 6 [(0, .ref (a 0)), (1, .int (L0 1))] := hl
  have blk : ∀ k : Nat, k ≤ k0 → (bT p l e (headSpec w_x_goesOn ({ frames := 57 + d, cells := 0, slots := 0, locals := 1375 + 27 * d })).room s m #[.ref (a 0), .int (L0 1)] below meth c dC dI cy a A (qV dC dI cy a A below #[.ref (a 0), .int (L0 1)] s) 6 (x_GV k d 7 0) (fun L => [(0, .ref (a 0)), (1, .int (L 1))]) 0 (fun L => [])) ∧ (bT p l e (headSpec w_x_goesOn ({ frames := 57 + d, cells := 0, slots := 0, locals := 1375 + 27 * d })).room s m #[.ref (a 0), .int (L0 1)] below meth c dC dI cy a A (qV dC dI cy a A below #[.ref (a 0), .int (L0 1)] s) 6 (x_GV k d 7 1) (fun L => [(0, .ref (a 0)), (1, .int (L 1)), (2, .int (L 2))]) 14 (fun L => [])) ∧ (bT p l e (headSpec w_x_goesOn ({ frames := 57 + d, cells := 0, slots := 0, locals := 1375 + 27 * d })).room s m #[.ref (a 0), .int (L0 1)] below meth c dC dI cy a A (qV dC dI cy a A below #[.ref (a 0), .int (L0 1)] s) 6 (x_GV k d 7 2) (fun L => [(0, .ref (a 0)), (1, .int (L 1)), (2, .int (L 2))]) 26 (fun L => [])) ∧ (bT p l e (headSpec w_x_goesOn ({ frames := 57 + d, cells := 0, slots := 0, locals := 1375 + 27 * d })).room s m #[.ref (a 0), .int (L0 1)] below meth c dC dI cy a A (qV dC dI cy a A below #[.ref (a 0), .int (L0 1)] s) 6 (x_GV k d 7 3) (fun L => [(0, .ref (a 0)), (1, .int (L 1)), (2, .int (L 2)), (3, .int (L 3))]) 49 (fun L => [.int (L 100)])) ∧ (bT p l e (headSpec w_x_goesOn ({ frames := 57 + d, cells := 0, slots := 0, locals := 1375 + 27 * d })).room s m #[.ref (a 0), .int (L0 1)] below meth c dC dI cy a A (qV dC dI cy a A below #[.ref (a 0), .int (L0 1)] s) 6 (x_GV k d 7 4) (fun L => [(0, .ref (a 0)), (1, .int (L 1)), (2, .int (L 2)), (3, .int (L 3))]) 50 (fun L => [.int (L 100), .int (L 101)])) ∧ (bT p l e (headSpec w_x_goesOn ({ frames := 57 + d, cells := 0, slots := 0, locals := 1375 + 27 * d })).room s m #[.ref (a 0), .int (L0 1)] below meth c dC dI cy a A (qV dC dI cy a A below #[.ref (a 0), .int (L0 1)] s) 6 (x_GV k d 7 5) (fun L => [(0, .ref (a 0)), (1, .int (L 1)), (2, .int (L 2)), (3, .int (L 3))]) 81 (fun L => [])) ∧ (bT p l e (headSpec w_x_goesOn ({ frames := 57 + d, cells := 0, slots := 0, locals := 1375 + 27 * d })).room s m #[.ref (a 0), .int (L0 1)] below meth c dC dI cy a A (qV dC dI cy a A below #[.ref (a 0), .int (L0 1)] s) 6 (x_GV k d 7 6) (fun L => [(0, .ref (a 0)), (1, .int (L 1)), (2, .int (L 2)), (3, .int (L 3))]) 82 (fun L => [.int (L 100)])) ∧ (bT p l e (headSpec w_x_goesOn ({ frames := 57 + d, cells := 0, slots := 0, locals := 1375 + 27 * d })).room s m #[.ref (a 0), .int (L0 1)] below meth c dC dI cy a A (qV dC dI cy a A below #[.ref (a 0), .int (L0 1)] s) 6 (x_GV k d 7 7) (fun L => [(0, .ref (a 0)), (1, .int (L 1)), (2, .int (L 2)), (3, .int (L 3))]) 83 (fun L => [])) ∧ (bT p l e (headSpec w_x_goesOn ({ frames := 57 + d, cells := 0, slots := 0, locals := 1375 + 27 * d })).room s m #[.ref (a 0), .int (L0 1)] below meth c dC dI cy a A (qV dC dI cy a A below #[.ref (a 0), .int (L0 1)] s) 6 (x_GV k d 7 8) (fun L => [(0, .ref (a 0)), (1, .int (L 1)), (2, .int (L 2))]) 97 (fun L => [])) ∧ (bT p l e (headSpec w_x_goesOn ({ frames := 57 + d, cells := 0, slots := 0, locals := 1375 + 27 * d })).room s m #[.ref (a 0), .int (L0 1)] below meth c dC dI cy a A (qV dC dI cy a A below #[.ref (a 0), .int (L0 1)] s) 6 (x_GV k d 7 9) (fun L => [(0, .ref (a 0)), (1, .int (L 1)), (2, .int (L 2))]) 130 (fun L => [])) ∧ (bT p l e (headSpec w_x_goesOn ({ frames := 57 + d, cells := 0, slots := 0, locals := 1375 + 27 * d })).room s m #[.ref (a 0), .int (L0 1)] below meth c dC dI cy a A (qV dC dI cy a A below #[.ref (a 0), .int (L0 1)] s) 6 (x_GV k d 7 10) (fun L => [(0, .ref (a 0)), (1, .int (L 1)), (2, .int (L 2))]) 138 (fun L => [])) ∧ (bT p l e (headSpec w_x_goesOn ({ frames := 57 + d, cells := 0, slots := 0, locals := 1375 + 27 * d })).room s m #[.ref (a 0), .int (L0 1)] below meth c dC dI cy a A (qV dC dI cy a A below #[.ref (a 0), .int (L0 1)] s) 6 (x_GV k d 7 11) (fun L => [(0, .ref (a 0)), (1, .int (L 1)), (2, .int (L 2))]) 160 (fun L => [.int (L 100), .ref (a 0)])) ∧ (bT p l e (headSpec w_x_goesOn ({ frames := 57 + d, cells := 0, slots := 0, locals := 1375 + 27 * d })).room s m #[.ref (a 0), .int (L0 1)] below meth c dC dI cy a A (qV dC dI cy a A below #[.ref (a 0), .int (L0 1)] s) 6 (x_GV k d 7 12) (fun L => [(0, .ref (a 0)), (1, .int (L 1)), (2, .int (L 2))]) 161 (fun L => [.int (L 100), .int (L 101), .ref (a 0)])) ∧ (bT p l e (headSpec w_x_goesOn ({ frames := 57 + d, cells := 0, slots := 0, locals := 1375 + 27 * d })).room s m #[.ref (a 0), .int (L0 1)] below meth c dC dI cy a A (qV dC dI cy a A below #[.ref (a 0), .int (L0 1)] s) 6 (x_GV k d 7 13) (fun L => [(0, .ref (a 0)), (1, .int (L 1)), (2, .int (L 2))]) 165 (fun L => [])) ∧ (bT p l e (headSpec w_x_goesOn ({ frames := 57 + d, cells := 0, slots := 0, locals := 1375 + 27 * d })).room s m #[.ref (a 0), .int (L0 1)] below meth c dC dI cy a A (qV dC dI cy a A below #[.ref (a 0), .int (L0 1)] s) 6 (x_GV k d 7 14) (fun L => [(0, .ref (a 0)), (1, .int (L 1)), (2, .int (L 2)), (3, .int (L 3)), (4, .int (L 4)), (5, .int (L 5))]) 220 (fun L => [])) ∧ (bT p l e (headSpec w_x_goesOn ({ frames := 57 + d, cells := 0, slots := 0, locals := 1375 + 27 * d })).room s m #[.ref (a 0), .int (L0 1)] below meth c dC dI cy a A (qV dC dI cy a A below #[.ref (a 0), .int (L0 1)] s) 6 (x_GV k d 7 15) (fun L => [(0, .ref (a 0)), (1, .int (L 1)), (2, .int (L 2)), (3, .int (L 3)), (4, .int (L 4)), (5, .int (L 5))]) 243 (fun L => [])) ∧ (bT p l e (headSpec w_x_goesOn ({ frames := 57 + d, cells := 0, slots := 0, locals := 1375 + 27 * d })).room s m #[.ref (a 0), .int (L0 1)] below meth c dC dI cy a A (qV dC dI cy a A below #[.ref (a 0), .int (L0 1)] s) 6 (x_GV k d 7 16) (fun L => [(0, .ref (a 0)), (1, .int (L 1)), (2, .int (L 2)), (3, .int (L 3)), (4, .int (L 4)), (5, .int (L 5))]) 255 (fun L => [])) ∧ (bT p l e (headSpec w_x_goesOn ({ frames := 57 + d, cells := 0, slots := 0, locals := 1375 + 27 * d })).room s m #[.ref (a 0), .int (L0 1)] below meth c dC dI cy a A (qV dC dI cy a A below #[.ref (a 0), .int (L0 1)] s) 6 (x_GV k d 7 17) (fun L => [(0, .ref (a 0)), (1, .int (L 1)), (2, .int (L 2)), (3, .int (L 3)), (4, .int (L 4)), (5, .int (L 5))]) 267 (fun L => [])) ∧ (bT p l e (headSpec w_x_goesOn ({ frames := 57 + d, cells := 0, slots := 0, locals := 1375 + 27 * d })).room s m #[.ref (a 0), .int (L0 1)] below meth c dC dI cy a A (qV dC dI cy a A below #[.ref (a 0), .int (L0 1)] s) 6 (x_GV k d 7 18) (fun L => [(0, .ref (a 0)), (1, .int (L 1)), (2, .int (L 2)), (3, .int (L 3)), (4, .int (L 4)), (5, .int (L 5))]) 282 (fun L => [])) := by
    intro k
    induction k with
    | zero => exact fun _ => ⟨fun L σ r h => (by cases h), fun L σ r h => (by cases h), fun L σ r h => (by cases h), fun L σ r h => (by cases h), fun L σ r h => (by cases h), fun L σ r h => (by cases h), fun L σ r h => (by cases h), fun L σ r h => (by cases h), fun L σ r h => (by cases h), fun L σ r h => (by cases h), fun L σ r h => (by cases h), fun L σ r h => (by cases h), fun L σ r h => (by cases h), fun L σ r h => (by cases h), fun L σ r h => (by cases h), fun L σ r h => (by cases h), fun L σ r h => (by cases h), fun L σ r h => (by cases h), fun L σ r h => (by cases h)⟩
    | succ k ih =>
      intro hk
      replace ih := ih (by omega)
      refine ⟨?_, ?_, ?_, ?_, ?_, ?_, ?_, ?_, ?_, ?_, ?_, ?_, ?_, ?_, ?_, ?_, ?_, ?_, ?_⟩
      · intro L σ r h H locs ls hP hD hS hl
        rw [x_GV_7, s_goesOn_0] at h
        refine lv_aload_n hx hb dX12_goesOn_0 rfl (lv_at hl 0 rfl) ?_
        refine ng_14 hx hb hts in_x_goesOn hown hK hP (hts _ (List.mem_cons_of_mem _ (List.mem_append_left _ (List.mem_append_left _ (List.mem_of_getElem? (i := 14) rfl))))) dX12_goesOn_1 ?_
        refine lv_iload_n hx hb dX12_goesOn_4 rfl (lv_at hl 1 rfl) ?_
        obtain ⟨q1, h⟩ := nb_ite1 h
        refine nl_4 hx hb hK hP q1 dX12_goesOn_5 ?_
        refine lv_istore_n (lv' := [(2, .int (σ.2.2 4 ((L 1)).toNatClampNeg)), (0, .ref (a 0)), (1, .int (L 1))]) hx hb dX12_goesOn_6 rfl hl (by decide) rfl (fun ls hl => ?_)
        refine lv_iload_n hx hb dX12_goesOn_7 rfl (lv_at hl 0 rfl) ?_
        refine lv_bipush (v := 26) hx hb dX12_goesOn_8 (by decide) ?_
        refine lv_icmp_ne (tgt := 14) hx hb dX12_goesOn_10 (by decide) (fun c2 => ?_) (fun c2 => ?_)
        · rw [if_neg c2] at h
          exact ih.2.1 (upd L 2 ((σ.2.2 4 ((L 1)).toNatClampNeg))) σ r h H locs ls hP hD hS (lv_sub hl [1, 2, 0] rfl)
        · rw [if_pos c2] at h
          cases h
          exact W.vret hx hb hr (fun t ht hW => ⟨⟨(), rfl, trivial, by rw [ht]; exact hP, va_K.moved hW.alike hK, hD⟩, hS.F ht⟩) hS.2.2 dX12_goesOn_13
      · intro L σ r h H locs ls hP hD hS hl
        rw [x_GV_7, s_goesOn_1] at h
        refine lv_iload_n hx hb dX12_goesOn_14 rfl (lv_at hl 2 rfl) ?_
        refine lv_bipush (v := 24) hx hb dX12_goesOn_15 (by decide) ?_
        refine lv_icmp_eq (tgt := 26) hx hb dX12_goesOn_17 (by decide) (fun c1 => ?_) (fun c1 => ?_)
        · rw [if_pos c1] at h
          exact ih.2.2.1 L σ r h H locs ls hP hD hS (lv_sub hl [0, 1, 2] rfl)
        · rw [if_neg c1] at h
          refine lv_iload_n hx hb dX12_goesOn_20 rfl (lv_at hl 2 rfl) ?_
          refine lv_bipush (v := 25) hx hb dX12_goesOn_21 (by decide) ?_
          refine lv_icmp_ne (tgt := 97) hx hb dX12_goesOn_23 (by decide) (fun c2 => ?_) (fun c2 => ?_)
          · rw [if_neg c2] at h
            exact ih.2.2.2.2.2.2.2.2.1 L σ r h H locs ls hP hD hS (lv_sub hl [0, 1, 2] rfl)
          · rw [if_pos c2] at h
            exact ih.2.2.1 L σ r h H locs ls hP hD hS (lv_sub hl [0, 1, 2] rfl)
      · intro L σ r h H locs ls hP hD hS hl
        rw [x_GV_7, s_goesOn_2] at h
        refine lv_aload_n hx hb dX12_goesOn_26 rfl (lv_at hl 0 rfl) ?_
        obtain ⟨r1, hc1, h⟩ := ob_ex h
        refine nc_Vi (As := []) (rest := []) ⟨hx, hb, hml, hown, hts⟩ (c_x_isTrue l dC dI cy a k (fun _ => 0) σ r1 hc1 H.size) (cwV 0 hts g_x_goesOn_isTrue_569 rfl rfl rfl hd_x_isTrue (by show 1 + 1 ≤ 57 + d ∧ 8 + (2 + 11) + 21 ≤ 1375 + 27 * d; omega)) hK hG hA hP hD hS rfl hl.1 rfl (Nat.le_of_ble_eq_true rfl) dX12_goesOn_27 ⟨Nat.le_refl _, Nat.le_refl _⟩ (fun H locs hP hD hS => ?_)
        refine lv_istore_n (lv' := [(3, .int r1.1), (0, .ref (a 0)), (1, .int (L 1)), (2, .int (L 2))]) hx hb dX12_goesOn_30 rfl hl (by decide) rfl (fun ls hl => ?_)
        refine lv_aload_n hx hb dX12_goesOn_31 rfl (lv_at hl 1 rfl) ?_
        refine ng_56 hx hb hts in_x_goesOn hown hK hP (hts _ (List.mem_cons_of_mem _ (List.mem_append_left _ (List.mem_append_left _ (List.mem_of_getElem? (i := 13) rfl))))) dX12_goesOn_32 ?_
        refine lv_if_ne (tgt := 83) hx hb dX12_goesOn_35 (by decide) (fun c2 => ?_) (fun c2 => ?_)
        · rw [if_neg c2] at h
          exact ih.2.2.2.2.2.2.2.1 (upd L 3 r1.1) r1.2 r h H locs ls hP hD hS (lv_sub hl [1, 2, 3, 0] rfl)
        · rw [if_pos c2] at h
          refine lv_iload_n hx hb dX12_goesOn_38 rfl (lv_at hl 0 rfl) ?_
          refine lv_iload_n hx hb dX12_goesOn_39 rfl (lv_at hl 3 rfl) ?_
          refine lv_bipush (v := 24) hx hb dX12_goesOn_40 (by decide) ?_
          refine lv_icmp_ne (tgt := 49) hx hb dX12_goesOn_42 (by decide) (fun c3 => ?_) (fun c3 => ?_)
          · rw [if_neg c3] at h
            exact ih.2.2.2.1 (upd (upd L 3 r1.1) 100 r1.1) r1.2 r h H locs ls hP hD hS (lv_sub hl [1, 2, 3, 0] rfl)
          · rw [if_pos c3] at h
            refine lv_iconst (v := 1) hx hb dX12_goesOn_45 (by decide) ?_
            refine lv_goto (tgt := 50) hx hb dX12_goesOn_46 (by decide) ?_
            exact ih.2.2.2.2.1 (upd (upd (upd L 3 r1.1) 100 1) 101 r1.1) r1.2 r h H locs ls hP hD hS (lv_sub hl [1, 2, 3, 0] rfl)
      · intro L σ r h H locs ls hP hD hS hl
        rw [x_GV_7, s_goesOn_3] at h
        refine lv_iconst (v := 0) hx hb dX12_goesOn_49 (by decide) ?_
        exact ih.2.2.2.2.1 (upd (upd L 100 0) 101 ((L 100))) σ r h H locs ls hP hD hS (lv_sub hl [0, 1, 2, 3] rfl)
      · intro L σ r h H locs ls hP hD hS hl
        rw [x_GV_7, s_goesOn_4] at h
        refine lv_icmp_ne (tgt := 83) hx hb dX12_goesOn_50 (by decide) (fun c1 => ?_) (fun c1 => ?_)
        · rw [if_neg c1] at h
          exact ih.2.2.2.2.2.2.2.1 L σ r h H locs ls hP hD hS (lv_sub hl [0, 1, 2, 3] rfl)
        · rw [if_pos c1] at h
          refine lv_aload_n hx hb dX12_goesOn_53 rfl (lv_at hl 0 rfl) ?_
          refine lv_aload_n hx hb dX12_goesOn_54 rfl (lv_at hl 0 rfl) ?_
          refine ng_17 hx hb hts in_x_goesOn hown hK hP (hts _ (List.mem_cons_of_mem _ (List.mem_append_left _ (List.mem_append_left _ (List.mem_of_getElem? (i := 71) rfl))))) dX12_goesOn_55 ?_
          refine lv_iload_n hx hb dX12_goesOn_58 rfl (lv_at hl 1 rfl) ?_
          obtain ⟨q2, h⟩ := nb_ite1 h
          refine nl_7 hx hb hK hP q2 dX12_goesOn_59 ?_
          obtain ⟨e3, he3, h⟩ := od_ex h
          obtain ⟨r3, hc3, h⟩ := ob_ex h
          refine nc_Vv (As := [.int (σ.2.2 7 ((L 1)).toNatClampNeg)]) (rest := []) ⟨hx, hb, hml, hown, hts⟩ ((IH k (by omega)).2.2.2.2.1 e3 (upd (fun _ => 0) 1 ((σ.2.2 7 ((L 1)).toNatClampNeg))) σ r3 hc3 H.size) (cwV 1 hts g_x_goesOn_eval_566 rfl rfl rfl hd_x_eval (by show (57 + e3) + 1 ≤ 57 + d ∧ 8 + (3 + 11) + (1375 + 27 * e3) ≤ 1375 + 27 * d; omega)) hK hG hA hP hD hS rfl hl.1 rfl (Nat.le_of_ble_eq_true rfl) dX12_goesOn_60 ⟨Nat.le_refl _, Nat.le_refl _⟩ (fun H locs hP hD hS => ?_)
          refine lv_aload_n hx hb dX12_goesOn_63 rfl (lv_at hl 0 rfl) ?_
          refine ng_56 hx hb hts in_x_goesOn hown hK hP (hts _ (List.mem_cons_of_mem _ (List.mem_append_left _ (List.mem_append_left _ (List.mem_of_getElem? (i := 13) rfl))))) dX12_goesOn_64 ?_
          refine lv_if_ne (tgt := 81) hx hb dX12_goesOn_67 (by decide) (fun c4 => ?_) (fun c4 => ?_)
          · rw [if_neg c4] at h
            exact ih.2.2.2.2.2.1 L r3.2 r h H locs ls hP hD hS (lv_sub hl [0, 1, 2, 3] rfl)
          · rw [if_pos c4] at h
            refine lv_aload_n hx hb dX12_goesOn_70 rfl (lv_at hl 0 rfl) ?_
            obtain ⟨r5, hc5, h⟩ := ob_ex h
            refine nc_Vi (As := []) (rest := []) ⟨hx, hb, hml, hown, hts⟩ (c_x_isTrue l dC dI cy a k (fun _ => 0) r3.2 r5 hc5 H.size) (cwV 0 hts g_x_goesOn_isTrue_569 rfl rfl rfl hd_x_isTrue (by show 1 + 1 ≤ 57 + d ∧ 8 + (2 + 11) + 21 ≤ 1375 + 27 * d; omega)) hK hG hA hP hD hS rfl hl.1 rfl (Nat.le_of_ble_eq_true rfl) dX12_goesOn_71 ⟨Nat.le_refl _, Nat.le_refl _⟩ (fun H locs hP hD hS => ?_)
            refine lv_if_eq (tgt := 81) hx hb dX12_goesOn_74 (by decide) (fun c6 => ?_) (fun c6 => ?_)
            · rw [if_pos c6] at h
              exact ih.2.2.2.2.2.1 L r5.2 r h H locs ls hP hD hS (lv_sub hl [0, 1, 2, 3] rfl)
            · rw [if_neg c6] at h
              refine lv_iconst (v := 1) hx hb dX12_goesOn_77 (by decide) ?_
              refine lv_goto (tgt := 82) hx hb dX12_goesOn_78 (by decide) ?_
              exact ih.2.2.2.2.2.2.1 (upd L 100 1) r5.2 r h H locs ls hP hD hS (lv_sub hl [0, 1, 2, 3] rfl)
      · intro L σ r h H locs ls hP hD hS hl
        rw [x_GV_7, s_goesOn_5] at h
        refine lv_iconst (v := 0) hx hb dX12_goesOn_81 (by decide) ?_
        exact ih.2.2.2.2.2.2.1 (upd L 100 0) σ r h H locs ls hP hD hS (lv_sub hl [0, 1, 2, 3] rfl)
      · intro L σ r h H locs ls hP hD hS hl
        rw [x_GV_7, s_goesOn_6] at h
        refine lv_istore_n (lv' := [(3, .int (L 100)), (0, .ref (a 0)), (1, .int (L 1)), (2, .int (L 2))]) hx hb dX12_goesOn_82 rfl hl (by decide) rfl (fun ls hl => ?_)
        exact ih.2.2.2.2.2.2.2.1 (upd L 3 ((L 100))) σ r h H locs ls hP hD hS (lv_sub hl [1, 2, 3, 0] rfl)
      · intro L σ r h H locs ls hP hD hS hl
        rw [x_GV_7, s_goesOn_7] at h
        refine lv_aload_n hx hb dX12_goesOn_83 rfl (lv_at hl 0 rfl) ?_
        refine lv_aload_n hx hb dX12_goesOn_84 rfl (lv_at hl 0 rfl) ?_
        refine lv_aload_n hx hb dX12_goesOn_85 rfl (lv_at hl 0 rfl) ?_
        refine lv_iload_n hx hb dX12_goesOn_86 rfl (lv_at hl 3 rfl) ?_
        obtain ⟨r1, hc1, h⟩ := ob_ex h
        refine nc_Vi (As := [.int (L 3)]) (rest := [.ref (a 0), .ref (a 0)]) ⟨hx, hb, hml, hown, hts⟩ (c_x_truth l dC dI cy a k (upd (fun _ => 0) 1 ((L 3))) σ r1 hc1 H.size) (cwV 1 hts g_x_goesOn_truth_646 rfl rfl rfl hd_x_truth (by show 0 + 1 ≤ 57 + d ∧ 8 + (2 + 11) + 0 ≤ 1375 + 27 * d; omega)) hK hG hA hP hD hS rfl hl.1 rfl (Nat.le_of_ble_eq_true rfl) dX12_goesOn_87 ⟨Nat.le_refl _, Nat.le_refl _⟩ (fun H locs hP hD hS => ?_)
        obtain ⟨r2, hc2, h⟩ := ob_ex h
        refine nc_Vi (As := [.int r1.1]) (rest := [.ref (a 0)]) ⟨hx, hb, hml, hown, hts⟩ (c_x_answer l dC dI cy a k (upd (fun _ => 0) 1 r1.1) r1.2 r2 hc2 H.size) (cwV 1 hts g_x_goesOn_answer_591 rfl rfl rfl hd_x_answer (by show 2 + 1 ≤ 57 + d ∧ 8 + (2 + 11) + 42 ≤ 1375 + 27 * d; omega)) hK hG hA hP hD hS rfl hl.1 rfl (Nat.le_of_ble_eq_true rfl) dX12_goesOn_90 ⟨Nat.le_refl _, Nat.le_refl _⟩ (fun H locs hP hD hS => ?_)
        obtain ⟨r3, hc3, h⟩ := ob_ex h
        refine nc_Vv (As := [.int r2.1]) (rest := []) ⟨hx, hb, hml, hown, hts⟩ (c_x_push l dC dI cy a k (upd (fun _ => 0) 1 r2.1) r2.2 r3 hc3 H.size) (cwV 1 hts g_x_goesOn_push_594 rfl rfl rfl hd_x_push (by show 0 + 1 ≤ 57 + d ∧ 8 + (2 + 11) + 0 ≤ 1375 + 27 * d; omega)) hK hG hA hP hD hS rfl hl.1 rfl (Nat.le_of_ble_eq_true rfl) dX12_goesOn_93 ⟨Nat.le_refl _, Nat.le_refl _⟩ (fun H locs hP hD hS => ?_)
        cases h
        exact W.vret hx hb hr (fun t ht hW => ⟨⟨(), rfl, trivial, by rw [ht]; exact hP, va_K.moved hW.alike hK, hD⟩, hS.F ht⟩) hS.2.2 dX12_goesOn_96
      · intro L σ r h H locs ls hP hD hS hl
        rw [x_GV_7, s_goesOn_8] at h
        refine lv_aload_n hx hb dX12_goesOn_97 rfl (lv_at hl 0 rfl) ?_
        refine lv_aload_n hx hb dX12_goesOn_98 rfl (lv_at hl 0 rfl) ?_
        refine ng_17 hx hb hts in_x_goesOn hown hK hP (hts _ (List.mem_cons_of_mem _ (List.mem_append_left _ (List.mem_append_left _ (List.mem_of_getElem? (i := 71) rfl))))) dX12_goesOn_99 ?_
        refine lv_iload_n hx hb dX12_goesOn_102 rfl (lv_at hl 1 rfl) ?_
        obtain ⟨q1, h⟩ := nb_ite1 h
        refine nl_7 hx hb hK hP q1 dX12_goesOn_103 ?_
        obtain ⟨e2, he2, h⟩ := od_ex h
        obtain ⟨r2, hc2, h⟩ := ob_ex h
        refine nc_Vv (As := [.int (σ.2.2 7 ((L 1)).toNatClampNeg)]) (rest := []) ⟨hx, hb, hml, hown, hts⟩ ((IH k (by omega)).2.2.2.2.1 e2 (upd (fun _ => 0) 1 ((σ.2.2 7 ((L 1)).toNatClampNeg))) σ r2 hc2 H.size) (cwV 1 hts g_x_goesOn_eval_566 rfl rfl rfl hd_x_eval (by show (57 + e2) + 1 ≤ 57 + d ∧ 8 + (3 + 11) + (1375 + 27 * e2) ≤ 1375 + 27 * d; omega)) hK hG hA hP hD hS rfl hl.1 rfl (Nat.le_of_ble_eq_true rfl) dX12_goesOn_104 ⟨Nat.le_refl _, Nat.le_refl _⟩ (fun H locs hP hD hS => ?_)
        refine lv_iload_n hx hb dX12_goesOn_107 rfl (lv_at hl 2 rfl) ?_
        refine lv_bipush (v := 22) hx hb dX12_goesOn_108 (by decide) ?_
        refine lv_icmp_ne (tgt := 130) hx hb dX12_goesOn_110 (by decide) (fun c3 => ?_) (fun c3 => ?_)
        · rw [if_neg c3] at h
          exact ih.2.2.2.2.2.2.2.2.2.1 L r2.2 r h H locs ls hP hD hS (lv_sub hl [0, 1, 2] rfl)
        · rw [if_pos c3] at h
          refine lv_aload_n hx hb dX12_goesOn_113 rfl (lv_at hl 0 rfl) ?_
          refine ng_56 hx hb hts in_x_goesOn hown hK hP (hts _ (List.mem_cons_of_mem _ (List.mem_append_left _ (List.mem_append_left _ (List.mem_of_getElem? (i := 13) rfl))))) dX12_goesOn_114 ?_
          refine lv_if_ne (tgt := 130) hx hb dX12_goesOn_117 (by decide) (fun c4 => ?_) (fun c4 => ?_)
          · rw [if_neg c4] at h
            exact ih.2.2.2.2.2.2.2.2.2.1 L r2.2 r h H locs ls hP hD hS (lv_sub hl [0, 1, 2] rfl)
          · rw [if_pos c4] at h
            refine lv_aload_n hx hb dX12_goesOn_120 rfl (lv_at hl 0 rfl) ?_
            refine lv_aload_n hx hb dX12_goesOn_121 rfl (lv_at hl 0 rfl) ?_
            refine ng_18 hx hb hts in_x_goesOn hown hK hP (hts _ (List.mem_cons_of_mem _ (List.mem_append_left _ (List.mem_append_left _ (List.mem_of_getElem? (i := 72) rfl))))) dX12_goesOn_122 ?_
            refine lv_iload_n hx hb dX12_goesOn_125 rfl (lv_at hl 1 rfl) ?_
            obtain ⟨q5, h⟩ := nb_ite1 h
            refine nl_8 hx hb hK hP q5 dX12_goesOn_126 ?_
            obtain ⟨e6, he6, h⟩ := od_ex h
            obtain ⟨r6, hc6, h⟩ := ob_ex h
            refine nc_Vv (As := [.int (r2.2.2.2 8 ((L 1)).toNatClampNeg)]) (rest := []) ⟨hx, hb, hml, hown, hts⟩ ((IH k (by omega)).2.2.2.2.1 e6 (upd (fun _ => 0) 1 ((r2.2.2.2 8 ((L 1)).toNatClampNeg))) r2.2 r6 hc6 H.size) (cwV 1 hts g_x_goesOn_eval_566 rfl rfl rfl hd_x_eval (by show (57 + e6) + 1 ≤ 57 + d ∧ 8 + (3 + 11) + (1375 + 27 * e6) ≤ 1375 + 27 * d; omega)) hK hG hA hP hD hS rfl hl.1 rfl (Nat.le_of_ble_eq_true rfl) dX12_goesOn_127 ⟨Nat.le_refl _, Nat.le_refl _⟩ (fun H locs hP hD hS => ?_)
            exact ih.2.2.2.2.2.2.2.2.2.1 L r6.2 r h H locs ls hP hD hS (lv_sub hl [0, 1, 2] rfl)
      · intro L σ r h H locs ls hP hD hS hl
        rw [x_GV_7, s_goesOn_9] at h
        refine lv_aload_n hx hb dX12_goesOn_130 rfl (lv_at hl 0 rfl) ?_
        refine ng_56 hx hb hts in_x_goesOn hown hK hP (hts _ (List.mem_cons_of_mem _ (List.mem_append_left _ (List.mem_append_left _ (List.mem_of_getElem? (i := 13) rfl))))) dX12_goesOn_131 ?_
        refine lv_if_le (tgt := 138) hx hb dX12_goesOn_134 (by decide) (fun c1 => ?_) (fun c1 => ?_)
        · rw [if_pos c1] at h
          exact ih.2.2.2.2.2.2.2.2.2.2.1 L σ r h H locs ls hP hD hS (lv_sub hl [0, 1, 2] rfl)
        · rw [if_neg c1] at h
          cases h
          exact W.vret hx hb hr (fun t ht hW => ⟨⟨(), rfl, trivial, by rw [ht]; exact hP, va_K.moved hW.alike hK, hD⟩, hS.F ht⟩) hS.2.2 dX12_goesOn_137
      · intro L σ r h H locs ls hP hD hS hl
        rw [x_GV_7, s_goesOn_10] at h
        refine lv_aload_n hx hb dX12_goesOn_138 rfl (lv_at hl 0 rfl) ?_
        refine lv_ldcw (v := 780000) hx hb hown (hts _ (List.mem_cons_of_mem _ (List.mem_append_left _ (List.mem_append_left _ (List.mem_of_getElem? (i := 15) rfl))))) dX12_goesOn_139 ?_
        obtain ⟨r1, hc1, h⟩ := ob_ex h
        refine nc_Vv (As := [.int 780000]) (rest := []) ⟨hx, hb, hml, hown, hts⟩ (c_x_sweep l dC dI cy a k (upd (fun _ => 0) 1 780000) σ r1 hc1 H.size) (cwV 1 hts g_x_goesOn_sweep_585 rfl rfl rfl hd_x_sweep (by show 3 + 1 ≤ 57 + d ∧ 8 + (5 + 11) + 70 ≤ 1375 + 27 * d; omega)) hK hG hA hP hD hS rfl hl.1 rfl (Nat.le_of_ble_eq_true rfl) dX12_goesOn_142 ⟨Nat.le_refl _, Nat.le_refl _⟩ (fun H locs hP hD hS => ?_)
        refine lv_aload_n hx hb dX12_goesOn_145 rfl (lv_at hl 0 rfl) ?_
        refine lv_dup hx hb dX12_goesOn_146 rfl ?_
        refine ng_59 hx hb hts in_x_goesOn hown hK hP (hts _ (List.mem_cons_of_mem _ (List.mem_append_left _ (List.mem_append_left _ (List.mem_of_getElem? (i := 76) rfl))))) dX12_goesOn_147 ?_
        refine lv_iload_n hx hb dX12_goesOn_150 rfl (lv_at hl 2 rfl) ?_
        refine lv_bipush (v := 22) hx hb dX12_goesOn_151 (by decide) ?_
        refine lv_icmp_ne (tgt := 160) hx hb dX12_goesOn_153 (by decide) (fun c2 => ?_) (fun c2 => ?_)
        · rw [if_neg c2] at h
          exact ih.2.2.2.2.2.2.2.2.2.2.2.1 (upd L 100 ((r1.2.1 59))) r1.2 r h H locs ls hP hD hS (lv_sub hl [0, 1, 2] rfl)
        · rw [if_pos c2] at h
          refine lv_iconst (v := 3) hx hb dX12_goesOn_156 (by decide) ?_
          refine lv_goto (tgt := 161) hx hb dX12_goesOn_157 (by decide) ?_
          exact ih.2.2.2.2.2.2.2.2.2.2.2.2.1 (upd (upd L 100 3) 101 ((r1.2.1 59))) r1.2 r h H locs ls hP hD hS (lv_sub hl [0, 1, 2] rfl)
      · intro L σ r h H locs ls hP hD hS hl
        rw [x_GV_7, s_goesOn_11] at h
        refine lv_iconst (v := 2) hx hb dX12_goesOn_160 (by decide) ?_
        exact ih.2.2.2.2.2.2.2.2.2.2.2.2.1 (upd (upd L 100 2) 101 ((L 100))) σ r h H locs ls hP hD hS (lv_sub hl [0, 1, 2] rfl)
      · intro L σ r h H locs ls hP hD hS hl
        rw [x_GV_7, s_goesOn_12] at h
        refine lv_isub hx hb dX12_goesOn_161 ?_
        refine np_59 hx hb hts in_x_goesOn hown hK hP hD hS (hts _ (List.mem_cons_of_mem _ (List.mem_append_left _ (List.mem_append_left _ (List.mem_of_getElem? (i := 76) rfl))))) dX12_goesOn_162 (fun H locs hP hD hS => ?_)
        exact ih.2.2.2.2.2.2.2.2.2.2.2.2.2.1 L (upd σ.1 59 ((((L 101)) - ((L 100)))), σ.2.1, σ.2.2) r h H locs ls hP hD hS (lv_sub hl [0, 1, 2] rfl)
      · intro L σ r h H locs ls hP hD hS hl
        rw [x_GV_7, s_goesOn_13] at h
        refine lv_aload_n hx hb dX12_goesOn_165 rfl (lv_at hl 0 rfl) ?_
        refine ng_58 hx hb hts in_x_goesOn hown hK hP (hts _ (List.mem_cons_of_mem _ (List.mem_append_left _ (List.mem_append_left _ (List.mem_of_getElem? (i := 87) rfl))))) dX12_goesOn_166 ?_
        refine lv_aload_n hx hb dX12_goesOn_169 rfl (lv_at hl 0 rfl) ?_
        refine ng_59 hx hb hts in_x_goesOn hown hK hP (hts _ (List.mem_cons_of_mem _ (List.mem_append_left _ (List.mem_append_left _ (List.mem_of_getElem? (i := 76) rfl))))) dX12_goesOn_170 ?_
        obtain ⟨q1, h⟩ := nb_ite1 h
        refine nl_29 hx hb hK hP q1 dX12_goesOn_173 ?_
        refine lv_istore_n (lv' := [(3, .int (σ.2.2 29 ((σ.1 59)).toNatClampNeg)), (0, .ref (a 0)), (1, .int (L 1)), (2, .int (L 2))]) hx hb dX12_goesOn_174 rfl hl (by decide) rfl (fun ls hl => ?_)
        refine lv_aload_n hx hb dX12_goesOn_175 rfl (lv_at hl 1 rfl) ?_
        refine ng_58 hx hb hts in_x_goesOn hown hK hP (hts _ (List.mem_cons_of_mem _ (List.mem_append_left _ (List.mem_append_left _ (List.mem_of_getElem? (i := 87) rfl))))) dX12_goesOn_176 ?_
        refine lv_aload_n hx hb dX12_goesOn_179 rfl (lv_at hl 1 rfl) ?_
        refine ng_59 hx hb hts in_x_goesOn hown hK hP (hts _ (List.mem_cons_of_mem _ (List.mem_append_left _ (List.mem_append_left _ (List.mem_of_getElem? (i := 76) rfl))))) dX12_goesOn_180 ?_
        refine lv_iconst (v := 1) hx hb dX12_goesOn_183 (by decide) ?_
        refine lv_iadd hx hb dX12_goesOn_184 ?_
        obtain ⟨q2, h⟩ := nb_ite1 h
        refine nl_29 hx hb hK hP q2 dX12_goesOn_185 ?_
        refine lv_istore (lv' := [(4, .int (σ.2.2 29 ((((σ.1 59)) + 1)).toNatClampNeg)), (3, .int (σ.2.2 29 ((σ.1 59)).toNatClampNeg)), (0, .ref (a 0)), (1, .int (L 1)), (2, .int (L 2))]) hx hb dX12_goesOn_186 hl (by decide) rfl (fun ls hl => ?_)
        refine lv_iconst (v := 0) hx hb dX12_goesOn_188 (by decide) ?_
        refine lv_istore (lv' := [(5, .int 0), (4, .int (σ.2.2 29 ((((σ.1 59)) + 1)).toNatClampNeg)), (3, .int (σ.2.2 29 ((σ.1 59)).toNatClampNeg)), (0, .ref (a 0)), (1, .int (L 1)), (2, .int (L 2))]) hx hb dX12_goesOn_189 hl (by decide) rfl (fun ls hl => ?_)
        refine lv_iload_n hx hb dX12_goesOn_191 rfl (lv_at hl 5 rfl) ?_
        by_cases q3 : ((L 2)) = (21 : Int32)
        · rw [if_pos q3] at h
          refine lv_tableIn (off := 51) (tgt := 243) hx hb dX12_goesOn_192 (by rw [q3]; decide) (by rw [q3]; decide) (by rw [q3]; decide) (by decide) ?_
          exact ih.2.2.2.2.2.2.2.2.2.2.2.2.2.2.2.1 (upd (upd (upd L 3 ((σ.2.2 29 ((σ.1 59)).toNatClampNeg))) 4 ((σ.2.2 29 ((((σ.1 59)) + 1)).toNatClampNeg))) 5 0) σ r h H locs ls hP hD hS (lv_sub hl [3, 4, 5, 2, 1, 0] rfl)
        · rw [if_neg q3] at h
          by_cases q4 : ((L 2)) = (22 : Int32)
          · rw [if_pos q4] at h
            refine lv_tableIn (off := 28) (tgt := 220) hx hb dX12_goesOn_192 (by rw [q4]; decide) (by rw [q4]; decide) (by rw [q4]; decide) (by decide) ?_
            exact ih.2.2.2.2.2.2.2.2.2.2.2.2.2.2.1 (upd (upd (upd L 3 ((σ.2.2 29 ((σ.1 59)).toNatClampNeg))) 4 ((σ.2.2 29 ((((σ.1 59)) + 1)).toNatClampNeg))) 5 0) σ r h H locs ls hP hD hS (lv_sub hl [3, 4, 5, 2, 1, 0] rfl)
          · rw [if_neg q4] at h
            by_cases q5 : ((L 2)) = (23 : Int32)
            · rw [if_pos q5] at h
              refine lv_tableIn (off := 63) (tgt := 255) hx hb dX12_goesOn_192 (by rw [q5]; decide) (by rw [q5]; decide) (by rw [q5]; decide) (by decide) ?_
              exact ih.2.2.2.2.2.2.2.2.2.2.2.2.2.2.2.2.1 (upd (upd (upd L 3 ((σ.2.2 29 ((σ.1 59)).toNatClampNeg))) 4 ((σ.2.2 29 ((((σ.1 59)) + 1)).toNatClampNeg))) 5 0) σ r h H locs ls hP hD hS (lv_sub hl [3, 4, 5, 2, 1, 0] rfl)
            · rw [if_neg q5] at h
              have nq3 : ¬ ((L 2)).toInt = 21 := nb_ti q3 rfl
              have nq4 : ¬ ((L 2)).toInt = 22 := nb_ti q4 rfl
              have nq5 : ¬ ((L 2)).toInt = 23 := nb_ti q5 rfl
              refine lv_tableOut (tgt := 267) hx hb dX12_goesOn_192 (by omega) (by decide) ?_
              exact ih.2.2.2.2.2.2.2.2.2.2.2.2.2.2.2.2.2.1 (upd (upd (upd L 3 ((σ.2.2 29 ((σ.1 59)).toNatClampNeg))) 4 ((σ.2.2 29 ((((σ.1 59)) + 1)).toNatClampNeg))) 5 0) σ r h H locs ls hP hD hS (lv_sub hl [3, 4, 5, 2, 1, 0] rfl)
      · intro L σ r h H locs ls hP hD hS hl
        rw [x_GV_7, s_goesOn_14] at h
        refine lv_aload_n hx hb dX12_goesOn_220 rfl (lv_at hl 0 rfl) ?_
        refine lv_iload_n hx hb dX12_goesOn_221 rfl (lv_at hl 3 rfl) ?_
        refine lv_iload hx hb dX12_goesOn_222 (lv_at hl 4 rfl) ?_
        refine lv_aload_n hx hb dX12_goesOn_224 rfl (lv_at hl 0 rfl) ?_
        refine ng_58 hx hb hts in_x_goesOn hown hK hP (hts _ (List.mem_cons_of_mem _ (List.mem_append_left _ (List.mem_append_left _ (List.mem_of_getElem? (i := 87) rfl))))) dX12_goesOn_225 ?_
        refine lv_aload_n hx hb dX12_goesOn_228 rfl (lv_at hl 0 rfl) ?_
        refine ng_59 hx hb hts in_x_goesOn hown hK hP (hts _ (List.mem_cons_of_mem _ (List.mem_append_left _ (List.mem_append_left _ (List.mem_of_getElem? (i := 76) rfl))))) dX12_goesOn_229 ?_
        refine lv_iconst (v := 2) hx hb dX12_goesOn_232 (by decide) ?_
        refine lv_iadd hx hb dX12_goesOn_233 ?_
        obtain ⟨q1, h⟩ := nb_ite1 h
        refine nl_29 hx hb hK hP q1 dX12_goesOn_234 ?_
        obtain ⟨r2, hc2, h⟩ := ob_ex h
        refine nc_Vi (As := [.int (L 3), .int (L 4), .int (σ.2.2 29 ((((σ.1 59)) + 2)).toNatClampNeg)]) (rest := []) ⟨hx, hb, hml, hown, hts⟩ (c_x_slice l dC dI cy a k (upd (upd (upd (fun _ => 0) 1 ((L 3))) 2 ((L 4))) 3 ((σ.2.2 29 ((((σ.1 59)) + 2)).toNatClampNeg))) σ r2 hc2 H.size) (cwV 3 hts g_x_goesOn_slice_649 rfl rfl rfl hd_x_slice (by show 4 + 1 ≤ 57 + d ∧ 8 + (7 + 11) + 92 ≤ 1375 + 27 * d; omega)) hK hG hA hP hD hS rfl hl.1 rfl (Nat.le_of_ble_eq_true rfl) dX12_goesOn_235 ⟨Nat.le_refl _, Nat.le_refl _⟩ (fun H locs hP hD hS => ?_)
        refine lv_istore (lv' := [(5, .int r2.1), (0, .ref (a 0)), (1, .int (L 1)), (2, .int (L 2)), (3, .int (L 3)), (4, .int (L 4))]) hx hb dX12_goesOn_238 hl (by decide) rfl (fun ls hl => ?_)
        refine lv_goto (tgt := 282) hx hb dX12_goesOn_240 (by decide) ?_
        exact ih.2.2.2.2.2.2.2.2.2.2.2.2.2.2.2.2.2.2 (upd L 5 r2.1) r2.2 r h H locs ls hP hD hS (lv_sub hl [1, 2, 3, 4, 5, 0] rfl)
      · intro L σ r h H locs ls hP hD hS hl
        rw [x_GV_7, s_goesOn_15] at h
        refine lv_aload_n hx hb dX12_goesOn_243 rfl (lv_at hl 0 rfl) ?_
        refine lv_iload_n hx hb dX12_goesOn_244 rfl (lv_at hl 3 rfl) ?_
        refine lv_iload hx hb dX12_goesOn_245 (lv_at hl 4 rfl) ?_
        obtain ⟨r1, hc1, h⟩ := ob_ex h
        refine nc_Vi (As := [.int (L 3), .int (L 4)]) (rest := []) ⟨hx, hb, hml, hown, hts⟩ (c_x_partAt l dC dI cy a k (upd (upd (fun _ => 0) 1 ((L 3))) 2 ((L 4))) σ r1 hc1 H.size) (cwV 2 hts g_x_goesOn_partAt_653 rfl rfl rfl hd_x_partAt (by show 43 + 1 ≤ 57 + d ∧ 8 + (8 + 11) + 1195 ≤ 1375 + 27 * d; omega)) hK hG hA hP hD hS rfl hl.1 rfl (Nat.le_of_ble_eq_true rfl) dX12_goesOn_247 ⟨Nat.le_refl _, Nat.le_refl _⟩ (fun H locs hP hD hS => ?_)
        refine lv_istore (lv' := [(5, .int r1.1), (0, .ref (a 0)), (1, .int (L 1)), (2, .int (L 2)), (3, .int (L 3)), (4, .int (L 4))]) hx hb dX12_goesOn_250 hl (by decide) rfl (fun ls hl => ?_)
        refine lv_goto (tgt := 282) hx hb dX12_goesOn_252 (by decide) ?_
        exact ih.2.2.2.2.2.2.2.2.2.2.2.2.2.2.2.2.2.2 (upd L 5 r1.1) r1.2 r h H locs ls hP hD hS (lv_sub hl [1, 2, 3, 4, 5, 0] rfl)
      · intro L σ r h H locs ls hP hD hS hl
        rw [x_GV_7, s_goesOn_16] at h
        refine lv_aload_n hx hb dX12_goesOn_255 rfl (lv_at hl 0 rfl) ?_
        refine lv_iload_n hx hb dX12_goesOn_256 rfl (lv_at hl 3 rfl) ?_
        refine lv_iload hx hb dX12_goesOn_257 (lv_at hl 4 rfl) ?_
        obtain ⟨r1, hc1, h⟩ := ob_ex h
        refine nc_Vi (As := [.int (L 3), .int (L 4)]) (rest := []) ⟨hx, hb, hml, hown, hts⟩ (c_x_image l dC dI cy a k (upd (upd (fun _ => 0) 1 ((L 3))) 2 ((L 4))) σ r1 hc1 H.size) (cwV 2 hts g_x_goesOn_image_656 rfl rfl rfl hd_x_image (by show 46 + 1 ≤ 57 + d ∧ 8 + (6 + 11) + 1271 ≤ 1375 + 27 * d; omega)) hK hG hA hP hD hS rfl hl.1 rfl (Nat.le_of_ble_eq_true rfl) dX12_goesOn_259 ⟨Nat.le_refl _, Nat.le_refl _⟩ (fun H locs hP hD hS => ?_)
        refine lv_istore (lv' := [(5, .int r1.1), (0, .ref (a 0)), (1, .int (L 1)), (2, .int (L 2)), (3, .int (L 3)), (4, .int (L 4))]) hx hb dX12_goesOn_262 hl (by decide) rfl (fun ls hl => ?_)
        refine lv_goto (tgt := 282) hx hb dX12_goesOn_264 (by decide) ?_
        exact ih.2.2.2.2.2.2.2.2.2.2.2.2.2.2.2.2.2.2 (upd L 5 r1.1) r1.2 r h H locs ls hP hD hS (lv_sub hl [1, 2, 3, 4, 5, 0] rfl)
      · intro L σ r h H locs ls hP hD hS hl
        rw [x_GV_7, s_goesOn_17] at h
        refine lv_aload_n hx hb dX12_goesOn_267 rfl (lv_at hl 0 rfl) ?_
        refine lv_aload_n hx hb dX12_goesOn_268 rfl (lv_at hl 0 rfl) ?_
        refine ng_15 hx hb hts in_x_goesOn hown hK hP (hts _ (List.mem_cons_of_mem _ (List.mem_append_left _ (List.mem_append_left _ (List.mem_of_getElem? (i := 20) rfl))))) dX12_goesOn_269 ?_
        refine lv_iload_n hx hb dX12_goesOn_272 rfl (lv_at hl 1 rfl) ?_
        obtain ⟨q1, h⟩ := nb_ite1 h
        refine nl_5 hx hb hK hP q1 dX12_goesOn_273 ?_
        refine lv_iload_n hx hb dX12_goesOn_274 rfl (lv_at hl 3 rfl) ?_
        refine lv_iload hx hb dX12_goesOn_275 (lv_at hl 4 rfl) ?_
        obtain ⟨r2, hc2, h⟩ := ob_ex h
        refine nc_Vi (As := [.int (σ.2.2 5 ((L 1)).toNatClampNeg), .int (L 3), .int (L 4)]) (rest := []) ⟨hx, hb, hml, hown, hts⟩ (c_x_operate l dC dI cy a k (upd (upd (upd (fun _ => 0) 1 ((σ.2.2 5 ((L 1)).toNatClampNeg))) 2 ((L 3))) 3 ((L 4))) σ r2 hc2 H.size) (cwV 3 hts g_x_goesOn_operate_659 rfl rfl rfl hd_x_operate (by show 47 + 1 ≤ 57 + d ∧ 8 + (8 + 11) + 1296 ≤ 1375 + 27 * d; omega)) hK hG hA hP hD hS rfl hl.1 rfl (Nat.le_of_ble_eq_true rfl) dX12_goesOn_277 ⟨Nat.le_refl _, Nat.le_refl _⟩ (fun H locs hP hD hS => ?_)
        refine lv_istore (lv' := [(5, .int r2.1), (0, .ref (a 0)), (1, .int (L 1)), (2, .int (L 2)), (3, .int (L 3)), (4, .int (L 4))]) hx hb dX12_goesOn_280 hl (by decide) rfl (fun ls hl => ?_)
        exact ih.2.2.2.2.2.2.2.2.2.2.2.2.2.2.2.2.2.2 (upd L 5 r2.1) r2.2 r h H locs ls hP hD hS (lv_sub hl [1, 2, 3, 4, 5, 0] rfl)
      · intro L σ r h H locs ls hP hD hS hl
        rw [x_GV_7, s_goesOn_18] at h
        refine lv_aload_n hx hb dX12_goesOn_282 rfl (lv_at hl 0 rfl) ?_
        refine lv_aload_n hx hb dX12_goesOn_283 rfl (lv_at hl 0 rfl) ?_
        refine lv_iload hx hb dX12_goesOn_284 (lv_at hl 5 rfl) ?_
        obtain ⟨r1, hc1, h⟩ := ob_ex h
        refine nc_Vi (As := [.int (L 5)]) (rest := [.ref (a 0)]) ⟨hx, hb, hml, hown, hts⟩ (c_x_answer l dC dI cy a k (upd (fun _ => 0) 1 ((L 5))) σ r1 hc1 H.size) (cwV 1 hts g_x_goesOn_answer_591 rfl rfl rfl hd_x_answer (by show 2 + 1 ≤ 57 + d ∧ 8 + (2 + 11) + 42 ≤ 1375 + 27 * d; omega)) hK hG hA hP hD hS rfl hl.1 rfl (Nat.le_of_ble_eq_true rfl) dX12_goesOn_286 ⟨Nat.le_refl _, Nat.le_refl _⟩ (fun H locs hP hD hS => ?_)
        obtain ⟨r2, hc2, h⟩ := ob_ex h
        refine nc_Vv (As := [.int r1.1]) (rest := []) ⟨hx, hb, hml, hown, hts⟩ (c_x_push l dC dI cy a k (upd (fun _ => 0) 1 r1.1) r1.2 r2 hc2 H.size) (cwV 1 hts g_x_goesOn_push_594 rfl rfl rfl hd_x_push (by show 0 + 1 ≤ 57 + d ∧ 8 + (2 + 11) + 0 ≤ 1375 + 27 * d; omega)) hK hG hA hP hD hS rfl hl.1 rfl (Nat.le_of_ble_eq_true rfl) dX12_goesOn_289 ⟨Nat.le_refl _, Nat.le_refl _⟩ (fun H locs hP hD hS => ?_)
        cases h
        exact W.vret hx hb hr (fun t ht hW => ⟨⟨(), rfl, trivial, by rw [ht]; exact hP, va_K.moved hW.alike hK, hD⟩, hS.F ht⟩) hS.2.2 dX12_goesOn_292
  exact (blk k0 (Nat.le_refl _)).1 L0 σ0 r0 h0 s.heap [] ls hP hD hS hl
theorem gg_x_holds_eval : GoodIn w_x_holds w_x_eval := goodIn_sub (fun w h => (List.mem_cons.mp h).elim (fun e => e ▸ (List.mem_cons_of_mem _ (List.mem_append_left _ (List.mem_append_left _ (List.mem_of_getElem? (i := 4) rfl))))) (fun h => List.mem_cons_of_mem _ h)) w_x_eval_good
theorem g_x_holds_eval_566 : GoodIn w_x_holds (wsV RX12 566 RX12 yX12_eval w_x_eval) := goodIn_app (nb_g4 (List.mem_cons_of_mem _ (List.mem_append_left _ (List.mem_append_left _ (List.mem_of_getElem? (i := 62) rfl)))) (List.mem_cons_of_mem _ (List.mem_append_left _ (List.mem_append_left _ (List.mem_of_getElem? (i := 63) rfl)))) (List.mem_cons_of_mem _ (List.mem_append_left _ (List.mem_append_left _ (List.mem_of_getElem? (i := 64) rfl)))) (List.mem_cons_of_mem _ (List.mem_append_left _ (List.mem_append_left _ (List.mem_of_getElem? (i := 19) rfl)))) (by decide +kernel)) gg_x_holds_eval
theorem gg_x_holds_isTrue : GoodIn w_x_holds w_x_isTrue := goodIn_sub (fun w h => (List.mem_cons.mp h).elim (fun e => (List.mem_cons_of_mem _ (List.mem_append_left _ (List.mem_append_right _ (List.mem_append_right _ (List.mem_append_right _ (List.mem_append_right _ (List.mem_append_right _ (List.mem_append_right _ (List.mem_append_right _ (List.mem_append_right _ (List.mem_append_right _ (List.mem_append_right _ (List.mem_append_right _ (List.mem_append_right _ (List.mem_append_right _ (List.mem_append_right _ (List.mem_append_right _ (List.mem_append_right _ (List.mem_append_right _ (List.mem_append_left _ (List.mem_cons.mpr (Or.inl e))))))))))))))))))))))) (fun h => (List.mem_append.mp h).elim (fun h => (List.mem_cons_of_mem _ (List.mem_append_left _ (List.mem_append_right _ (List.mem_append_right _ (List.mem_append_right _ (List.mem_append_right _ (List.mem_append_right _ (List.mem_append_right _ (List.mem_append_right _ (List.mem_append_right _ (List.mem_append_right _ (List.mem_append_right _ (List.mem_append_right _ (List.mem_append_right _ (List.mem_append_right _ (List.mem_append_right _ (List.mem_append_right _ (List.mem_append_right _ (List.mem_append_right _ (List.mem_append_left _ (List.mem_cons_of_mem _ h)))))))))))))))))))))) (fun h => List.mem_cons_of_mem _ (List.mem_append_right _ h)))) w_x_isTrue_good
theorem g_x_holds_isTrue_569 : GoodIn w_x_holds (wsV RX12 569 RX12 yX12_isTrue w_x_isTrue) := goodIn_app (nb_g4 (List.mem_cons_of_mem _ (List.mem_append_left _ (List.mem_append_left _ (List.mem_of_getElem? (i := 120) rfl)))) (List.mem_cons_of_mem _ (List.mem_append_left _ (List.mem_append_left _ (List.mem_of_getElem? (i := 121) rfl)))) (List.mem_cons_of_mem _ (List.mem_append_left _ (List.mem_append_left _ (List.mem_of_getElem? (i := 122) rfl)))) (List.mem_cons_of_mem _ (List.mem_append_left _ (List.mem_append_left _ (List.mem_of_getElem? (i := 19) rfl)))) (by decide +kernel)) gg_x_holds_isTrue
set_option maxHeartbeats 40000000 in
set_option maxRecDepth 100000 in
theorem c_s_holds (l : Launch) (dC : Nat → ClassId) (dI : Nat → Nat → Nat) (cy : Nat → ClassId) (a : Nat → Nat) (k0 : Nat) (IH : ∀ j : Nat, j < k0 → P_GV l dC dI cy a j) (d : Nat) (L0 : Nat → Int32) (σ0 : MS) (r0 : Int32 × MS) (h0 : x_GV k0 d 8 0 L0 σ0 = some r0) (sz : Nat) : Met l yX12_holds w_x_holds ({ frames := 57 + d, cells := 0, slots := 0, locals := 1375 + 27 * d }) (va_Pc [.ref (a 0), .int (L0 1)] (nIn (dC, dI) cy sz (vM cy a σ0))) (va_Qi (fun (z : Int32) (_ : Unit) => z = r0.1) (fun _ t => nOut (dC, dI) cy (va_A (vM cy a σ0) sz) (vM cy a r0.2) t) (va_A (vM cy a σ0) sz)) 0 0 (va_A (vM cy a σ0) sz) := by
  refine Met.ofW (cc := cX12_holds) (maxL := 2) (ret := (some .boolean)) (by decide) rfl ?_
  intro p e s m args below meth c s₁ B hml hv
  obtain ⟨rfl, hsz, hP, hK, hD0, hG⟩ := hv
  have hx := B.exec
  have hb := B.bytes
  have hr := B.returns
  have hts := atoms_spec (ws := w_x_holds) B.pre
  have hown : s.vm.findClass RX12 = some m.cls := findClass_of_methodNamed B.named
  have hlocks := B.notSynchronized
  subst hsz
  have hD := hD0.self (sz := s.heap.size)
  generalize hAe : va_A (vM cy a σ0) s.heap.size = A at hD ⊢
  have hA : ∀ q : Nat, s.heap.size ≤ q → A q := fun q h => by rw [← hAe]; exact Or.inr h
  have hS : va_S A s.heap s.heap [] := va_S.rf
  have hl := lv_entry ([.ref (a 0), .int (L0 1)]) (n := 2) (Nat.le_of_ble_eq_true rfl)
  rw [lg_entry_eq]
  generalize (lg_sl ([.ref (a 0), .int (L0 1)]) ++ List.replicate (2 - (lg_sl ([.ref (a 0), .int (L0 1)])).length) Slot.unset).toArray = ls at hl ⊢
  have hl : lv_has ls 2 [(0, .ref (a 0)), (1, .int (L0 1))] := hl
  have blk : ∀ k : Nat, k ≤ k0 → (bT p l e (headSpec w_x_holds ({ frames := 57 + d, cells := 0, slots := 0, locals := 1375 + 27 * d })).room s m #[.ref (a 0), .int (L0 1)] below meth c dC dI cy a A (qI dC dI cy a A below #[.ref (a 0), .int (L0 1)] s) 2 (x_GV k d 8 0) (fun L => [(0, .ref (a 0)), (1, .int (L 1))]) 0 (fun L => [])) ∧ (bT p l e (headSpec w_x_holds ({ frames := 57 + d, cells := 0, slots := 0, locals := 1375 + 27 * d })).room s m #[.ref (a 0), .int (L0 1)] below meth c dC dI cy a A (qI dC dI cy a A below #[.ref (a 0), .int (L0 1)] s) 2 (x_GV k d 8 1) (fun L => [(0, .ref (a 0)), (1, .int (L 1))]) 23 (fun L => [])) ∧ (bT p l e (headSpec w_x_holds ({ frames := 57 + d, cells := 0, slots := 0, locals := 1375 + 27 * d })).room s m #[.ref (a 0), .int (L0 1)] below meth c dC dI cy a A (qI dC dI cy a A below #[.ref (a 0), .int (L0 1)] s) 2 (x_GV k d 8 2) (fun L => [(0, .ref (a 0)), (1, .int (L 1))]) 24 (fun L => [.int (L 100)])) := by
    intro k
    induction k with
    | zero => exact fun _ => ⟨fun L σ r h => (by cases h), fun L σ r h => (by cases h), fun L σ r h => (by cases h)⟩
    | succ k ih =>
      intro hk
      replace ih := ih (by omega)
      refine ⟨?_, ?_, ?_⟩
      · intro L σ r h H locs ls hP hD hS hl
        rw [x_GV_8, s_holds_0] at h
        refine lv_aload_n hx hb dX12_holds_0 rfl (lv_at hl 0 rfl) ?_
        refine lv_iload_n hx hb dX12_holds_1 rfl (lv_at hl 1 rfl) ?_
        obtain ⟨e1, he1, h⟩ := od_ex h
        obtain ⟨r1, hc1, h⟩ := ob_ex h
        refine nc_Vv (As := [.int (L 1)]) (rest := []) ⟨hx, hb, hml, hown, hts⟩ ((IH k (by omega)).2.2.2.2.1 e1 (upd (fun _ => 0) 1 ((L 1))) σ r1 hc1 H.size) (cwV 1 hts g_x_holds_eval_566 rfl rfl rfl hd_x_eval (by show (57 + e1) + 1 ≤ 57 + d ∧ 8 + (3 + 11) + (1375 + 27 * e1) ≤ 1375 + 27 * d; omega)) hK hG hA hP hD hS rfl hl.1 rfl (Nat.le_of_ble_eq_true rfl) dX12_holds_2 ⟨Nat.le_refl _, Nat.le_refl _⟩ (fun H locs hP hD hS => ?_)
        refine lv_aload_n hx hb dX12_holds_5 rfl (lv_at hl 0 rfl) ?_
        refine ng_56 hx hb hts in_x_holds hown hK hP (hts _ (List.mem_cons_of_mem _ (List.mem_append_left _ (List.mem_append_left _ (List.mem_of_getElem? (i := 13) rfl))))) dX12_holds_6 ?_
        refine lv_if_ne (tgt := 23) hx hb dX12_holds_9 (by decide) (fun c2 => ?_) (fun c2 => ?_)
        · rw [if_neg c2] at h
          exact ih.2.1 L r1.2 r h H locs ls hP hD hS (lv_sub hl [0, 1] rfl)
        · rw [if_pos c2] at h
          refine lv_aload_n hx hb dX12_holds_12 rfl (lv_at hl 0 rfl) ?_
          obtain ⟨r3, hc3, h⟩ := ob_ex h
          refine nc_Vi (As := []) (rest := []) ⟨hx, hb, hml, hown, hts⟩ (c_x_isTrue l dC dI cy a k (fun _ => 0) r1.2 r3 hc3 H.size) (cwV 0 hts g_x_holds_isTrue_569 rfl rfl rfl hd_x_isTrue (by show 1 + 1 ≤ 57 + d ∧ 8 + (2 + 11) + 21 ≤ 1375 + 27 * d; omega)) hK hG hA hP hD hS rfl hl.1 rfl (Nat.le_of_ble_eq_true rfl) dX12_holds_13 ⟨Nat.le_refl _, Nat.le_refl _⟩ (fun H locs hP hD hS => ?_)
          refine lv_if_eq (tgt := 23) hx hb dX12_holds_16 (by decide) (fun c4 => ?_) (fun c4 => ?_)
          · rw [if_pos c4] at h
            exact ih.2.1 L r3.2 r h H locs ls hP hD hS (lv_sub hl [0, 1] rfl)
          · rw [if_neg c4] at h
            refine lv_iconst (v := 1) hx hb dX12_holds_19 (by decide) ?_
            refine lv_goto (tgt := 24) hx hb dX12_holds_20 (by decide) ?_
            exact ih.2.2 (upd L 100 1) r3.2 r h H locs ls hP hD hS (lv_sub hl [0, 1] rfl)
      · intro L σ r h H locs ls hP hD hS hl
        rw [x_GV_8, s_holds_1] at h
        refine lv_iconst (v := 0) hx hb dX12_holds_23 (by decide) ?_
        exact ih.2.2 (upd L 100 0) σ r h H locs ls hP hD hS (lv_sub hl [0, 1] rfl)
      · intro L σ r h H locs ls hP hD hS hl
        rw [x_GV_8, s_holds_2] at h
        obtain ⟨q1, h⟩ := nb_ite1 h
        cases h
        exact W.zret (v := (L 100)) hx hb hr (nb_bz q1) (fun t ht hW => ⟨⟨(L 100), (), rfl, rfl, by rw [ht]; exact hP, va_K.moved hW.alike hK, hD⟩, hS.F ht⟩) hS.2.2 dX12_holds_24
  exact (blk k0 (Nat.le_refl _)).1 L0 σ0 r0 h0 s.heap [] ls hP hD hS hl
theorem gg_x_openIter_eval : GoodIn w_x_openIter w_x_eval := goodIn_sub (fun w h => (List.mem_cons.mp h).elim (fun e => e ▸ (List.mem_cons_of_mem _ (List.mem_append_left _ (List.mem_append_left _ (List.mem_of_getElem? (i := 4) rfl))))) (fun h => List.mem_cons_of_mem _ h)) w_x_eval_good
theorem g_x_openIter_eval_566 : GoodIn w_x_openIter (wsV RX12 566 RX12 yX12_eval w_x_eval) := goodIn_app (nb_g4 (List.mem_cons_of_mem _ (List.mem_append_left _ (List.mem_append_left _ (List.mem_of_getElem? (i := 62) rfl)))) (List.mem_cons_of_mem _ (List.mem_append_left _ (List.mem_append_left _ (List.mem_of_getElem? (i := 63) rfl)))) (List.mem_cons_of_mem _ (List.mem_append_left _ (List.mem_append_left _ (List.mem_of_getElem? (i := 64) rfl)))) (List.mem_cons_of_mem _ (List.mem_append_left _ (List.mem_append_left _ (List.mem_of_getElem? (i := 19) rfl)))) (by decide +kernel)) gg_x_openIter_eval
theorem gg_x_openIter_fail : GoodIn w_x_openIter w_x_fail := goodIn_sub (fun w h => (List.mem_cons.mp h).elim (fun e => (List.mem_cons_of_mem _ (List.mem_append_left _ (List.mem_append_right _ (List.mem_append_right _ (List.mem_append_right _ (List.mem_append_right _ (List.mem_append_right _ (List.mem_append_right _ (List.mem_append_right _ (List.mem_append_right _ (List.mem_append_right _ (List.mem_append_right _ (List.mem_append_right _ (List.mem_append_left _ (List.mem_cons.mpr (Or.inl e))))))))))))))))) (fun h => (List.mem_append.mp h).elim (fun h => (List.mem_cons_of_mem _ (List.mem_append_left _ (List.mem_append_right _ (List.mem_append_right _ (List.mem_append_right _ (List.mem_append_right _ (List.mem_append_right _ (List.mem_append_right _ (List.mem_append_right _ (List.mem_append_right _ (List.mem_append_right _ (List.mem_append_right _ (List.mem_append_right _ (List.mem_append_left _ (List.mem_cons_of_mem _ h)))))))))))))))) (fun h => List.mem_cons_of_mem _ (List.mem_append_right _ h)))) w_x_fail_good
theorem g_x_openIter_fail_369 : GoodIn w_x_openIter (wsV RX12 369 RX12 yX12_fail w_x_fail) := goodIn_app (nb_g4 (List.mem_cons_of_mem _ (List.mem_append_left _ (List.mem_append_left _ (List.mem_of_getElem? (i := 80) rfl)))) (List.mem_cons_of_mem _ (List.mem_append_left _ (List.mem_append_left _ (List.mem_of_getElem? (i := 81) rfl)))) (List.mem_cons_of_mem _ (List.mem_append_left _ (List.mem_append_left _ (List.mem_of_getElem? (i := 82) rfl)))) (List.mem_cons_of_mem _ (List.mem_append_left _ (List.mem_append_left _ (List.mem_of_getElem? (i := 19) rfl)))) (by decide +kernel)) gg_x_openIter_fail
theorem gg_x_openIter_isRow : GoodIn w_x_openIter w_x_isRow := goodIn_sub (fun w h => (List.mem_cons.mp h).elim (fun e => (List.mem_cons_of_mem _ (List.mem_append_left _ (List.mem_append_right _ (List.mem_append_right _ (List.mem_append_right _ (List.mem_append_right _ (List.mem_append_right _ (List.mem_append_right _ (List.mem_append_right _ (List.mem_append_right _ (List.mem_append_right _ (List.mem_append_right _ (List.mem_append_right _ (List.mem_append_right _ (List.mem_append_right _ (List.mem_append_right _ (List.mem_append_right _ (List.mem_append_right _ (List.mem_append_right _ (List.mem_append_right _ (List.mem_append_right _ (List.mem_append_right _ (List.mem_append_right _ (List.mem_append_right _ (List.mem_append_right _ (List.mem_append_left _ (List.mem_cons.mpr (Or.inl e))))))))))))))))))))))))))))) (fun h => (List.mem_append.mp h).elim (fun h => (List.mem_cons_of_mem _ (List.mem_append_left _ (List.mem_append_right _ (List.mem_append_right _ (List.mem_append_right _ (List.mem_append_right _ (List.mem_append_right _ (List.mem_append_right _ (List.mem_append_right _ (List.mem_append_right _ (List.mem_append_right _ (List.mem_append_right _ (List.mem_append_right _ (List.mem_append_right _ (List.mem_append_right _ (List.mem_append_right _ (List.mem_append_right _ (List.mem_append_right _ (List.mem_append_right _ (List.mem_append_right _ (List.mem_append_right _ (List.mem_append_right _ (List.mem_append_right _ (List.mem_append_right _ (List.mem_append_right _ (List.mem_append_left _ (List.mem_cons_of_mem _ h)))))))))))))))))))))))))))) (fun h => List.mem_cons_of_mem _ (List.mem_append_right _ h)))) w_x_isRow_good
theorem g_x_openIter_isRow_697 : GoodIn w_x_openIter (wsV RX12 697 RX12 yX12_isRow w_x_isRow) := goodIn_app (nb_g4 (List.mem_cons_of_mem _ (List.mem_append_left _ (List.mem_append_left _ (List.mem_of_getElem? (i := 138) rfl)))) (List.mem_cons_of_mem _ (List.mem_append_left _ (List.mem_append_left _ (List.mem_of_getElem? (i := 139) rfl)))) (List.mem_cons_of_mem _ (List.mem_append_left _ (List.mem_append_left _ (List.mem_of_getElem? (i := 140) rfl)))) (List.mem_cons_of_mem _ (List.mem_append_left _ (List.mem_append_left _ (List.mem_of_getElem? (i := 19) rfl)))) (by decide +kernel)) gg_x_openIter_isRow
theorem gg_x_openIter_pop : GoodIn w_x_openIter w_x_pop := goodIn_sub (fun w h => (List.mem_cons.mp h).elim (fun e => (List.mem_cons_of_mem _ (List.mem_append_left _ (List.mem_append_right _ (List.mem_append_right _ (List.mem_append_right _ (List.mem_append_right _ (List.mem_append_right _ (List.mem_append_right _ (List.mem_append_right _ (List.mem_append_right _ (List.mem_append_left _ (List.mem_cons.mpr (Or.inl e)))))))))))))) (fun h => (List.mem_append.mp h).elim (fun h => (List.mem_cons_of_mem _ (List.mem_append_left _ (List.mem_append_right _ (List.mem_append_right _ (List.mem_append_right _ (List.mem_append_right _ (List.mem_append_right _ (List.mem_append_right _ (List.mem_append_right _ (List.mem_append_right _ (List.mem_append_left _ (List.mem_cons_of_mem _ h))))))))))))) (fun h => List.mem_cons_of_mem _ (List.mem_append_right _ h)))) w_x_pop_good
theorem g_x_openIter_pop_572 : GoodIn w_x_openIter (wsV RX12 572 RX12 yX12_pop w_x_pop) := goodIn_app (nb_g4 (List.mem_cons_of_mem _ (List.mem_append_left _ (List.mem_append_left _ (List.mem_of_getElem? (i := 65) rfl)))) (List.mem_cons_of_mem _ (List.mem_append_left _ (List.mem_append_left _ (List.mem_of_getElem? (i := 66) rfl)))) (List.mem_cons_of_mem _ (List.mem_append_left _ (List.mem_append_left _ (List.mem_of_getElem? (i := 67) rfl)))) (List.mem_cons_of_mem _ (List.mem_append_left _ (List.mem_append_left _ (List.mem_of_getElem? (i := 19) rfl)))) (by decide +kernel)) gg_x_openIter_pop
set_option maxHeartbeats 40000000 in
set_option maxRecDepth 100000 in
theorem c_s_openIter (l : Launch) (dC : Nat → ClassId) (dI : Nat → Nat → Nat) (cy : Nat → ClassId) (a : Nat → Nat) (k0 : Nat) (IH : ∀ j : Nat, j < k0 → P_GV l dC dI cy a j) (d : Nat) (L0 : Nat → Int32) (σ0 : MS) (r0 : Int32 × MS) (h0 : x_GV k0 d 9 0 L0 σ0 = some r0) (sz : Nat) : Met l yX12_openIter w_x_openIter ({ frames := 57 + d, cells := 0, slots := 0, locals := 1375 + 27 * d }) (va_Pc [.ref (a 0), .int (L0 1)] (nIn (dC, dI) cy sz (vM cy a σ0))) (va_Qv (fun _ : Unit => True) (fun _ t => nOut (dC, dI) cy (va_A (vM cy a σ0) sz) (vM cy a r0.2) t) (va_A (vM cy a σ0) sz)) 0 0 (va_A (vM cy a σ0) sz) := by
  refine Met.ofW (cc := cX12_openIter) (maxL := 3) (ret := none) (by decide) rfl ?_
  intro p e s m args below meth c s₁ B hml hv
  obtain ⟨rfl, hsz, hP, hK, hD0, hG⟩ := hv
  have hx := B.exec
  have hb := B.bytes
  have hr := B.returns
  have hts := atoms_spec (ws := w_x_openIter) B.pre
  have hown : s.vm.findClass RX12 = some m.cls := findClass_of_methodNamed B.named
  have hlocks := B.notSynchronized
  subst hsz
  have hD := hD0.self (sz := s.heap.size)
  generalize hAe : va_A (vM cy a σ0) s.heap.size = A at hD ⊢
  have hA : ∀ q : Nat, s.heap.size ≤ q → A q := fun q h => by rw [← hAe]; exact Or.inr h
  have hS : va_S A s.heap s.heap [] := va_S.rf
  have hl := lv_entry ([.ref (a 0), .int (L0 1)]) (n := 3) (Nat.le_of_ble_eq_true rfl)
  rw [lg_entry_eq]
  generalize (lg_sl ([.ref (a 0), .int (L0 1)]) ++ List.replicate (3 - (lg_sl ([.ref (a 0), .int (L0 1)])).length) Slot.unset).toArray = ls at hl ⊢
  have hl : lv_has ls 3 [(0, .ref (a 0)), (1, .int (L0 1))] := hl
  have blk : ∀ k : Nat, k ≤ k0 → (bT p l e (headSpec w_x_openIter ({ frames := 57 + d, cells := 0, slots := 0, locals := 1375 + 27 * d })).room s m #[.ref (a 0), .int (L0 1)] below meth c dC dI cy a A (qV dC dI cy a A below #[.ref (a 0), .int (L0 1)] s) 3 (x_GV k d 9 0) (fun L => [(0, .ref (a 0)), (1, .int (L 1))]) 0 (fun L => [])) ∧ (bT p l e (headSpec w_x_openIter ({ frames := 57 + d, cells := 0, slots := 0, locals := 1375 + 27 * d })).room s m #[.ref (a 0), .int (L0 1)] below meth c dC dI cy a A (qV dC dI cy a A below #[.ref (a 0), .int (L0 1)] s) 3 (x_GV k d 9 1) (fun L => [(0, .ref (a 0)), (1, .int (L 1))]) 18 (fun L => [])) ∧ (bT p l e (headSpec w_x_openIter ({ frames := 57 + d, cells := 0, slots := 0, locals := 1375 + 27 * d })).room s m #[.ref (a 0), .int (L0 1)] below meth c dC dI cy a A (qV dC dI cy a A below #[.ref (a 0), .int (L0 1)] s) 3 (x_GV k d 9 2) (fun L => [(0, .ref (a 0)), (1, .int (L 1)), (2, .int (L 2))]) 37 (fun L => [])) ∧ (bT p l e (headSpec w_x_openIter ({ frames := 57 + d, cells := 0, slots := 0, locals := 1375 + 27 * d })).room s m #[.ref (a 0), .int (L0 1)] below meth c dC dI cy a A (qV dC dI cy a A below #[.ref (a 0), .int (L0 1)] s) 3 (x_GV k d 9 3) (fun L => [(0, .ref (a 0)), (1, .int (L 1)), (2, .int (L 2))]) 47 (fun L => [])) ∧ (bT p l e (headSpec w_x_openIter ({ frames := 57 + d, cells := 0, slots := 0, locals := 1375 + 27 * d })).room s m #[.ref (a 0), .int (L0 1)] below meth c dC dI cy a A (qV dC dI cy a A below #[.ref (a 0), .int (L0 1)] s) 3 (x_GV k d 9 4) (fun L => [(0, .ref (a 0)), (1, .int (L 1)), (2, .int (L 2))]) 57 (fun L => [])) := by
    intro k
    induction k with
    | zero => exact fun _ => ⟨fun L σ r h => (by cases h), fun L σ r h => (by cases h), fun L σ r h => (by cases h), fun L σ r h => (by cases h), fun L σ r h => (by cases h)⟩
    | succ k ih =>
      intro hk
      replace ih := ih (by omega)
      refine ⟨?_, ?_, ?_, ?_, ?_⟩
      · intro L σ r h H locs ls hP hD hS hl
        rw [x_GV_9, s_openIter_0] at h
        refine lv_aload_n hx hb dX12_openIter_0 rfl (lv_at hl 0 rfl) ?_
        refine lv_aload_n hx hb dX12_openIter_1 rfl (lv_at hl 0 rfl) ?_
        refine ng_17 hx hb hts in_x_openIter hown hK hP (hts _ (List.mem_cons_of_mem _ (List.mem_append_left _ (List.mem_append_left _ (List.mem_of_getElem? (i := 71) rfl))))) dX12_openIter_2 ?_
        refine lv_iload_n hx hb dX12_openIter_5 rfl (lv_at hl 1 rfl) ?_
        obtain ⟨q1, h⟩ := nb_ite1 h
        refine nl_7 hx hb hK hP q1 dX12_openIter_6 ?_
        obtain ⟨e2, he2, h⟩ := od_ex h
        obtain ⟨r2, hc2, h⟩ := ob_ex h
        refine nc_Vv (As := [.int (σ.2.2 7 ((L 1)).toNatClampNeg)]) (rest := []) ⟨hx, hb, hml, hown, hts⟩ ((IH k (by omega)).2.2.2.2.1 e2 (upd (fun _ => 0) 1 ((σ.2.2 7 ((L 1)).toNatClampNeg))) σ r2 hc2 H.size) (cwV 1 hts g_x_openIter_eval_566 rfl rfl rfl hd_x_eval (by show (57 + e2) + 1 ≤ 57 + d ∧ 8 + (3 + 11) + (1375 + 27 * e2) ≤ 1375 + 27 * d; omega)) hK hG hA hP hD hS rfl hl.1 rfl (Nat.le_of_ble_eq_true rfl) dX12_openIter_7 ⟨Nat.le_refl _, Nat.le_refl _⟩ (fun H locs hP hD hS => ?_)
        refine lv_aload_n hx hb dX12_openIter_10 rfl (lv_at hl 0 rfl) ?_
        refine ng_56 hx hb hts in_x_openIter hown hK hP (hts _ (List.mem_cons_of_mem _ (List.mem_append_left _ (List.mem_append_left _ (List.mem_of_getElem? (i := 13) rfl))))) dX12_openIter_11 ?_
        refine lv_if_le (tgt := 18) hx hb dX12_openIter_14 (by decide) (fun c3 => ?_) (fun c3 => ?_)
        · rw [if_pos c3] at h
          exact ih.2.1 L r2.2 r h H locs ls hP hD hS (lv_sub hl [0, 1] rfl)
        · rw [if_neg c3] at h
          cases h
          exact W.vret hx hb hr (fun t ht hW => ⟨⟨(), rfl, trivial, by rw [ht]; exact hP, va_K.moved hW.alike hK, hD⟩, hS.F ht⟩) hS.2.2 dX12_openIter_17
      · intro L σ r h H locs ls hP hD hS hl
        rw [x_GV_9, s_openIter_1] at h
        refine lv_aload_n hx hb dX12_openIter_18 rfl (lv_at hl 0 rfl) ?_
        obtain ⟨r1, hc1, h⟩ := ob_ex h
        refine nc_Vi (As := []) (rest := []) ⟨hx, hb, hml, hown, hts⟩ (c_x_pop l dC dI cy a k (fun _ => 0) σ r1 hc1 H.size) (cwV 0 hts g_x_openIter_pop_572 rfl rfl rfl hd_x_pop (by show 0 + 1 ≤ 57 + d ∧ 8 + (1 + 11) + 0 ≤ 1375 + 27 * d; omega)) hK hG hA hP hD hS rfl hl.1 rfl (Nat.le_of_ble_eq_true rfl) dX12_openIter_19 ⟨Nat.le_refl _, Nat.le_refl _⟩ (fun H locs hP hD hS => ?_)
        refine lv_istore_n (lv' := [(2, .int r1.1), (0, .ref (a 0)), (1, .int (L 1))]) hx hb dX12_openIter_22 rfl hl (by decide) rfl (fun ls hl => ?_)
        refine lv_aload_n hx hb dX12_openIter_23 rfl (lv_at hl 1 rfl) ?_
        refine lv_iload_n hx hb dX12_openIter_24 rfl (lv_at hl 0 rfl) ?_
        obtain ⟨r2, hc2, h⟩ := ob_ex h
        refine nc_Vi (As := [.int r1.1]) (rest := []) ⟨hx, hb, hml, hown, hts⟩ (c_x_isRow l dC dI cy a k (upd (fun _ => 0) 1 r1.1) r1.2 r2 hc2 H.size) (cwV 1 hts g_x_openIter_isRow_697 rfl rfl rfl hd_x_isRow (by show 1 + 1 ≤ 57 + d ∧ 8 + (2 + 11) + 21 ≤ 1375 + 27 * d; omega)) hK hG hA hP hD hS rfl hl.1 rfl (Nat.le_of_ble_eq_true rfl) dX12_openIter_25 ⟨Nat.le_refl _, Nat.le_refl _⟩ (fun H locs hP hD hS => ?_)
        refine lv_if_ne (tgt := 37) hx hb dX12_openIter_28 (by decide) (fun c3 => ?_) (fun c3 => ?_)
        · rw [if_neg c3] at h
          exact ih.2.2.1 (upd L 2 r1.1) r2.2 r h H locs ls hP hD hS (lv_sub hl [1, 2, 0] rfl)
        · rw [if_pos c3] at h
          refine lv_aload_n hx hb dX12_openIter_31 rfl (lv_at hl 1 rfl) ?_
          refine lv_iconst (v := 1) hx hb dX12_openIter_32 (by decide) ?_
          obtain ⟨r4, hc4, h⟩ := ob_ex h
          refine nc_Vv (As := [.int 1]) (rest := []) ⟨hx, hb, hml, hown, hts⟩ (c_x_fail l dC dI cy a k (upd (fun _ => 0) 1 1) r2.2 r4 hc4 H.size) (cwV 1 hts g_x_openIter_fail_369 rfl rfl rfl hd_x_fail (by show 0 + 1 ≤ 57 + d ∧ 8 + (2 + 11) + 0 ≤ 1375 + 27 * d; omega)) hK hG hA hP hD hS rfl hl.1 rfl (Nat.le_of_ble_eq_true rfl) dX12_openIter_33 ⟨Nat.le_refl _, Nat.le_refl _⟩ (fun H locs hP hD hS => ?_)
          cases h
          exact W.vret hx hb hr (fun t ht hW => ⟨⟨(), rfl, trivial, by rw [ht]; exact hP, va_K.moved hW.alike hK, hD⟩, hS.F ht⟩) hS.2.2 dX12_openIter_36
      · intro L σ r h H locs ls hP hD hS hl
        rw [x_GV_9, s_openIter_2] at h
        refine lv_aload_n hx hb dX12_openIter_37 rfl (lv_at hl 0 rfl) ?_
        refine ng_70 hx hb hts in_x_openIter hown hK hP (hts _ (List.mem_cons_of_mem _ (List.mem_append_left _ (List.mem_append_left _ (List.mem_of_getElem? (i := 141) rfl))))) dX12_openIter_38 ?_
        refine lv_aload_n hx hb dX12_openIter_41 rfl (lv_at hl 0 rfl) ?_
        refine ng_72 hx hb hts in_x_openIter hown hK hP (hts _ (List.mem_cons_of_mem _ (List.mem_append_left _ (List.mem_append_left _ (List.mem_of_getElem? (i := 100) rfl))))) dX12_openIter_42 ?_
        refine lv_iload_n hx hb dX12_openIter_45 rfl (lv_at hl 2 rfl) ?_
        obtain ⟨q1, h⟩ := nb_ite1 h
        refine ns_34 hx hb hK hP hD hS q1 dX12_openIter_46 (fun H locs hP hD hS => ?_)
        exact ih.2.2.2.1 L (σ.1, σ.2.1, updG σ.2.2 34 (upd (σ.2.2 34) ((σ.1 72)).toNatClampNeg ((L 2)))) r h H locs ls hP hD hS (lv_sub hl [0, 1, 2] rfl)
      · intro L σ r h H locs ls hP hD hS hl
        rw [x_GV_9, s_openIter_3] at h
        refine lv_aload_n hx hb dX12_openIter_47 rfl (lv_at hl 0 rfl) ?_
        refine ng_71 hx hb hts in_x_openIter hown hK hP (hts _ (List.mem_cons_of_mem _ (List.mem_append_left _ (List.mem_append_left _ (List.mem_of_getElem? (i := 142) rfl))))) dX12_openIter_48 ?_
        refine lv_aload_n hx hb dX12_openIter_51 rfl (lv_at hl 0 rfl) ?_
        refine ng_72 hx hb hts in_x_openIter hown hK hP (hts _ (List.mem_cons_of_mem _ (List.mem_append_left _ (List.mem_append_left _ (List.mem_of_getElem? (i := 100) rfl))))) dX12_openIter_52 ?_
        refine lv_iconst (v := 0) hx hb dX12_openIter_55 (by decide) ?_
        obtain ⟨q1, h⟩ := nb_ite1 h
        refine ns_35 hx hb hK hP hD hS q1 dX12_openIter_56 (fun H locs hP hD hS => ?_)
        exact ih.2.2.2.2 L (σ.1, σ.2.1, updG σ.2.2 35 (upd (σ.2.2 35) ((σ.1 72)).toNatClampNeg 0)) r h H locs ls hP hD hS (lv_sub hl [0, 1, 2] rfl)
      · intro L σ r h H locs ls hP hD hS hl
        rw [x_GV_9, s_openIter_4] at h
        refine lv_aload_n hx hb dX12_openIter_57 rfl (lv_at hl 0 rfl) ?_
        refine lv_dup hx hb dX12_openIter_58 rfl ?_
        refine ng_72 hx hb hts in_x_openIter hown hK hP (hts _ (List.mem_cons_of_mem _ (List.mem_append_left _ (List.mem_append_left _ (List.mem_of_getElem? (i := 100) rfl))))) dX12_openIter_59 ?_
        refine lv_iconst (v := 1) hx hb dX12_openIter_62 (by decide) ?_
        refine lv_iadd hx hb dX12_openIter_63 ?_
        refine np_72 hx hb hts in_x_openIter hown hK hP hD hS (hts _ (List.mem_cons_of_mem _ (List.mem_append_left _ (List.mem_append_left _ (List.mem_of_getElem? (i := 100) rfl))))) dX12_openIter_64 (fun H locs hP hD hS => ?_)
        cases h
        exact W.vret hx hb hr (fun t ht hW => ⟨⟨(), rfl, trivial, by rw [ht]; exact hP, va_K.moved hW.alike hK, hD⟩, hS.F ht⟩) hS.2.2 dX12_openIter_67
  exact (blk k0 (Nat.le_refl _)).1 L0 σ0 r0 h0 s.heap [] ls hP hD hS hl
theorem gg_x_quantify_answer : GoodIn w_x_quantify w_x_answer := goodIn_sub (fun w h => (List.mem_cons.mp h).elim (fun e => (List.mem_cons_of_mem _ (List.mem_append_left _ (List.mem_append_right _ (List.mem_append_right _ (List.mem_append_right _ (List.mem_append_left _ (List.mem_cons.mpr (Or.inl e))))))))) (fun h => (List.mem_append.mp h).elim (fun h => (List.mem_cons_of_mem _ (List.mem_append_left _ (List.mem_append_right _ (List.mem_append_right _ (List.mem_append_right _ (List.mem_append_left _ (List.mem_cons_of_mem _ h)))))))) (fun h => List.mem_cons_of_mem _ (List.mem_append_right _ h)))) w_x_answer_good
theorem g_x_quantify_answer_591 : GoodIn w_x_quantify (wsV RX12 591 RX12 yX12_answer w_x_answer) := goodIn_app (nb_g4 (List.mem_cons_of_mem _ (List.mem_append_left _ (List.mem_append_left _ (List.mem_of_getElem? (i := 25) rfl)))) (List.mem_cons_of_mem _ (List.mem_append_left _ (List.mem_append_left _ (List.mem_of_getElem? (i := 26) rfl)))) (List.mem_cons_of_mem _ (List.mem_append_left _ (List.mem_append_left _ (List.mem_of_getElem? (i := 27) rfl)))) (List.mem_cons_of_mem _ (List.mem_append_left _ (List.mem_append_left _ (List.mem_of_getElem? (i := 19) rfl)))) (by decide +kernel)) gg_x_quantify_answer
theorem gg_x_quantify_clear : GoodIn w_x_quantify w_x_clear := goodIn_sub (fun w h => (List.mem_cons.mp h).elim (fun e => (List.mem_cons_of_mem _ (List.mem_append_left _ (List.mem_append_right _ (List.mem_append_right _ (List.mem_append_right _ (List.mem_append_right _ (List.mem_append_right _ (List.mem_append_right _ (List.mem_append_right _ (List.mem_append_right _ (List.mem_append_right _ (List.mem_append_right _ (List.mem_append_right _ (List.mem_append_right _ (List.mem_append_right _ (List.mem_append_left _ (List.mem_cons.mpr (Or.inl e))))))))))))))))))) (fun h => (List.mem_append.mp h).elim (fun h => (List.mem_cons_of_mem _ (List.mem_append_left _ (List.mem_append_right _ (List.mem_append_right _ (List.mem_append_right _ (List.mem_append_right _ (List.mem_append_right _ (List.mem_append_right _ (List.mem_append_right _ (List.mem_append_right _ (List.mem_append_right _ (List.mem_append_right _ (List.mem_append_right _ (List.mem_append_right _ (List.mem_append_right _ (List.mem_append_left _ (List.mem_cons_of_mem _ h)))))))))))))))))) (fun h => List.mem_cons_of_mem _ (List.mem_append_right _ h)))) w_x_clear_good
theorem g_x_quantify_clear_722 : GoodIn w_x_quantify (wsV RX12 722 RX12 yX12_clear w_x_clear) := goodIn_app (nb_g4 (List.mem_cons_of_mem _ (List.mem_append_left _ (List.mem_append_left _ (List.mem_of_getElem? (i := 104) rfl)))) (List.mem_cons_of_mem _ (List.mem_append_left _ (List.mem_append_left _ (List.mem_of_getElem? (i := 105) rfl)))) (List.mem_cons_of_mem _ (List.mem_append_left _ (List.mem_append_left _ (List.mem_of_getElem? (i := 106) rfl)))) (List.mem_cons_of_mem _ (List.mem_append_left _ (List.mem_append_left _ (List.mem_of_getElem? (i := 19) rfl)))) (by decide +kernel)) gg_x_quantify_clear
theorem gg_x_quantify_goOn : GoodIn w_x_quantify w_x_goOn := goodIn_sub (fun w h => (List.mem_cons.mp h).elim (fun e => e ▸ (List.mem_cons_of_mem _ (List.mem_append_left _ (List.mem_append_left _ (List.mem_of_getElem? (i := 6) rfl))))) (fun h => List.mem_cons_of_mem _ h)) w_x_goOn_good
theorem g_x_quantify_goOn_718 : GoodIn w_x_quantify (wsV RX12 718 RX12 yX12_goOn w_x_goOn) := goodIn_app (nb_g4 (List.mem_cons_of_mem _ (List.mem_append_left _ (List.mem_append_left _ (List.mem_of_getElem? (i := 101) rfl)))) (List.mem_cons_of_mem _ (List.mem_append_left _ (List.mem_append_left _ (List.mem_of_getElem? (i := 102) rfl)))) (List.mem_cons_of_mem _ (List.mem_append_left _ (List.mem_append_left _ (List.mem_of_getElem? (i := 103) rfl)))) (List.mem_cons_of_mem _ (List.mem_append_left _ (List.mem_append_left _ (List.mem_of_getElem? (i := 19) rfl)))) (by decide +kernel)) gg_x_quantify_goOn
theorem gg_x_quantify_holds : GoodIn w_x_quantify w_x_holds := goodIn_sub (fun w h => (List.mem_cons.mp h).elim (fun e => e ▸ (List.mem_cons_of_mem _ (List.mem_append_left _ (List.mem_append_left _ (List.mem_of_getElem? (i := 8) rfl))))) (fun h => List.mem_cons_of_mem _ h)) w_x_holds_good
theorem g_x_quantify_holds_672 : GoodIn w_x_quantify (wsV RX12 672 RX12 yX12_holds w_x_holds) := goodIn_app (nb_g4 (List.mem_cons_of_mem _ (List.mem_append_left _ (List.mem_append_left _ (List.mem_of_getElem? (i := 89) rfl)))) (List.mem_cons_of_mem _ (List.mem_append_left _ (List.mem_append_left _ (List.mem_of_getElem? (i := 90) rfl)))) (List.mem_cons_of_mem _ (List.mem_append_left _ (List.mem_append_left _ (List.mem_of_getElem? (i := 91) rfl)))) (List.mem_cons_of_mem _ (List.mem_append_left _ (List.mem_append_left _ (List.mem_of_getElem? (i := 19) rfl)))) (by decide +kernel)) gg_x_quantify_holds
theorem gg_x_quantify_push : GoodIn w_x_quantify w_x_push := goodIn_sub (fun w h => (List.mem_cons.mp h).elim (fun e => (List.mem_cons_of_mem _ (List.mem_append_left _ (List.mem_append_right _ (List.mem_append_right _ (List.mem_append_right _ (List.mem_append_right _ (List.mem_append_left _ (List.mem_cons.mpr (Or.inl e)))))))))) (fun h => (List.mem_append.mp h).elim (fun h => (List.mem_cons_of_mem _ (List.mem_append_left _ (List.mem_append_right _ (List.mem_append_right _ (List.mem_append_right _ (List.mem_append_right _ (List.mem_append_left _ (List.mem_cons_of_mem _ h))))))))) (fun h => List.mem_cons_of_mem _ (List.mem_append_right _ h)))) w_x_push_good
theorem g_x_quantify_push_594 : GoodIn w_x_quantify (wsV RX12 594 RX12 yX12_push w_x_push) := goodIn_app (nb_g4 (List.mem_cons_of_mem _ (List.mem_append_left _ (List.mem_append_left _ (List.mem_of_getElem? (i := 28) rfl)))) (List.mem_cons_of_mem _ (List.mem_append_left _ (List.mem_append_left _ (List.mem_of_getElem? (i := 29) rfl)))) (List.mem_cons_of_mem _ (List.mem_append_left _ (List.mem_append_left _ (List.mem_of_getElem? (i := 30) rfl)))) (List.mem_cons_of_mem _ (List.mem_append_left _ (List.mem_append_left _ (List.mem_of_getElem? (i := 19) rfl)))) (by decide +kernel)) gg_x_quantify_push
theorem gg_x_quantify_truth : GoodIn w_x_quantify w_x_truth := goodIn_sub (fun w h => (List.mem_cons.mp h).elim (fun e => (List.mem_cons_of_mem _ (List.mem_append_left _ (List.mem_append_right _ (List.mem_append_right _ (List.mem_append_right _ (List.mem_append_right _ (List.mem_append_right _ (List.mem_append_right _ (List.mem_append_right _ (List.mem_append_right _ (List.mem_append_right _ (List.mem_append_right _ (List.mem_append_right _ (List.mem_append_right _ (List.mem_append_right _ (List.mem_append_right _ (List.mem_append_right _ (List.mem_append_right _ (List.mem_append_right _ (List.mem_append_right _ (List.mem_append_left _ (List.mem_cons.mpr (Or.inl e)))))))))))))))))))))))) (fun h => (List.mem_append.mp h).elim (fun h => (List.mem_cons_of_mem _ (List.mem_append_left _ (List.mem_append_right _ (List.mem_append_right _ (List.mem_append_right _ (List.mem_append_right _ (List.mem_append_right _ (List.mem_append_right _ (List.mem_append_right _ (List.mem_append_right _ (List.mem_append_right _ (List.mem_append_right _ (List.mem_append_right _ (List.mem_append_right _ (List.mem_append_right _ (List.mem_append_right _ (List.mem_append_right _ (List.mem_append_right _ (List.mem_append_right _ (List.mem_append_right _ (List.mem_append_left _ (List.mem_cons_of_mem _ h))))))))))))))))))))))) (fun h => List.mem_cons_of_mem _ (List.mem_append_right _ h)))) w_x_truth_good
theorem g_x_quantify_truth_646 : GoodIn w_x_quantify (wsV RX12 646 RX12 yX12_truth w_x_truth) := goodIn_app (nb_g4 (List.mem_cons_of_mem _ (List.mem_append_left _ (List.mem_append_left _ (List.mem_of_getElem? (i := 123) rfl)))) (List.mem_cons_of_mem _ (List.mem_append_left _ (List.mem_append_left _ (List.mem_of_getElem? (i := 124) rfl)))) (List.mem_cons_of_mem _ (List.mem_append_left _ (List.mem_append_left _ (List.mem_of_getElem? (i := 125) rfl)))) (List.mem_cons_of_mem _ (List.mem_append_left _ (List.mem_append_left _ (List.mem_of_getElem? (i := 19) rfl)))) (by decide +kernel)) gg_x_quantify_truth
set_option maxHeartbeats 40000000 in
set_option maxRecDepth 100000 in
theorem c_s_quantify (l : Launch) (dC : Nat → ClassId) (dI : Nat → Nat → Nat) (cy : Nat → ClassId) (a : Nat → Nat) (k0 : Nat) (IH : ∀ j : Nat, j < k0 → P_GV l dC dI cy a j) (d : Nat) (L0 : Nat → Int32) (σ0 : MS) (r0 : Int32 × MS) (h0 : x_GV k0 d 10 0 L0 σ0 = some r0) (sz : Nat) : Met l yX12_quantify w_x_quantify ({ frames := 57 + d, cells := 0, slots := 0, locals := 1375 + 27 * d }) (va_Pc [.ref (a 0), .int (L0 1)] (nIn (dC, dI) cy sz (vM cy a σ0))) (va_Qv (fun _ : Unit => True) (fun _ t => nOut (dC, dI) cy (va_A (vM cy a σ0) sz) (vM cy a r0.2) t) (va_A (vM cy a σ0) sz)) 0 0 (va_A (vM cy a σ0) sz) := by
  refine Met.ofW (cc := cX12_quantify) (maxL := 6) (ret := none) (by decide) rfl ?_
  intro p e s m args below meth c s₁ B hml hv
  obtain ⟨rfl, hsz, hP, hK, hD0, hG⟩ := hv
  have hx := B.exec
  have hb := B.bytes
  have hr := B.returns
  have hts := atoms_spec (ws := w_x_quantify) B.pre
  have hown : s.vm.findClass RX12 = some m.cls := findClass_of_methodNamed B.named
  have hlocks := B.notSynchronized
  subst hsz
  have hD := hD0.self (sz := s.heap.size)
  generalize hAe : va_A (vM cy a σ0) s.heap.size = A at hD ⊢
  have hA : ∀ q : Nat, s.heap.size ≤ q → A q := fun q h => by rw [← hAe]; exact Or.inr h
  have hS : va_S A s.heap s.heap [] := va_S.rf
  have hl := lv_entry ([.ref (a 0), .int (L0 1)]) (n := 6) (Nat.le_of_ble_eq_true rfl)
  rw [lg_entry_eq]
  generalize (lg_sl ([.ref (a 0), .int (L0 1)]) ++ List.replicate (6 - (lg_sl ([.ref (a 0), .int (L0 1)])).length) Slot.unset).toArray = ls at hl ⊢
  have hl : lv_has ls 6 [(0, .ref (a 0)), (1, .int (L0 1))] := hl
  have blk : ∀ k : Nat, k ≤ k0 → (bT p l e (headSpec w_x_quantify ({ frames := 57 + d, cells := 0, slots := 0, locals := 1375 + 27 * d })).room s m #[.ref (a 0), .int (L0 1)] below meth c dC dI cy a A (qV dC dI cy a A below #[.ref (a 0), .int (L0 1)] s) 6 (x_GV k d 10 0) (fun L => [(0, .ref (a 0)), (1, .int (L 1))]) 0 (fun L => [])) ∧ (bT p l e (headSpec w_x_quantify ({ frames := 57 + d, cells := 0, slots := 0, locals := 1375 + 27 * d })).room s m #[.ref (a 0), .int (L0 1)] below meth c dC dI cy a A (qV dC dI cy a A below #[.ref (a 0), .int (L0 1)] s) 6 (x_GV k d 10 1) (fun L => [(0, .ref (a 0)), (1, .int (L 1)), (2, .int (L 2))]) 19 (fun L => [])) ∧ (bT p l e (headSpec w_x_quantify ({ frames := 57 + d, cells := 0, slots := 0, locals := 1375 + 27 * d })).room s m #[.ref (a 0), .int (L0 1)] below meth c dC dI cy a A (qV dC dI cy a A below #[.ref (a 0), .int (L0 1)] s) 6 (x_GV k d 10 2) (fun L => [(0, .ref (a 0)), (1, .int (L 1)), (2, .int (L 2))]) 20 (fun L => [.int (L 100)])) ∧ (bT p l e (headSpec w_x_quantify ({ frames := 57 + d, cells := 0, slots := 0, locals := 1375 + 27 * d })).room s m #[.ref (a 0), .int (L0 1)] below meth c dC dI cy a A (qV dC dI cy a A below #[.ref (a 0), .int (L0 1)] s) 6 (x_GV k d 10 3) (fun L => [(0, .ref (a 0)), (1, .int (L 1)), (2, .int (L 2)), (3, .int (L 3)), (4, .int (L 4)), (5, .int (L 5))]) 38 (fun L => [])) ∧ (bT p l e (headSpec w_x_quantify ({ frames := 57 + d, cells := 0, slots := 0, locals := 1375 + 27 * d })).room s m #[.ref (a 0), .int (L0 1)] below meth c dC dI cy a A (qV dC dI cy a A below #[.ref (a 0), .int (L0 1)] s) 6 (x_GV k d 10 4) (fun L => [(0, .ref (a 0)), (1, .int (L 1)), (2, .int (L 2)), (3, .int (L 3)), (4, .int (L 4)), (5, .int (L 5))]) 75 (fun L => [])) ∧ (bT p l e (headSpec w_x_quantify ({ frames := 57 + d, cells := 0, slots := 0, locals := 1375 + 27 * d })).room s m #[.ref (a 0), .int (L0 1)] below meth c dC dI cy a A (qV dC dI cy a A below #[.ref (a 0), .int (L0 1)] s) 6 (x_GV k d 10 5) (fun L => [(0, .ref (a 0)), (1, .int (L 1)), (2, .int (L 2)), (3, .int (L 3)), (4, .int (L 4)), (5, .int (L 5))]) 76 (fun L => [.int (L 100)])) ∧ (bT p l e (headSpec w_x_quantify ({ frames := 57 + d, cells := 0, slots := 0, locals := 1375 + 27 * d })).room s m #[.ref (a 0), .int (L0 1)] below meth c dC dI cy a A (qV dC dI cy a A below #[.ref (a 0), .int (L0 1)] s) 6 (x_GV k d 10 6) (fun L => [(0, .ref (a 0)), (1, .int (L 1)), (2, .int (L 2)), (3, .int (L 3)), (4, .int (L 4)), (5, .int (L 5))]) 109 (fun L => [])) ∧ (bT p l e (headSpec w_x_quantify ({ frames := 57 + d, cells := 0, slots := 0, locals := 1375 + 27 * d })).room s m #[.ref (a 0), .int (L0 1)] below meth c dC dI cy a A (qV dC dI cy a A below #[.ref (a 0), .int (L0 1)] s) 6 (x_GV k d 10 7) (fun L => [(0, .ref (a 0)), (1, .int (L 1)), (2, .int (L 2)), (3, .int (L 3)), (4, .int (L 4)), (5, .int (L 5))]) 110 (fun L => [.int (L 100)])) ∧ (bT p l e (headSpec w_x_quantify ({ frames := 57 + d, cells := 0, slots := 0, locals := 1375 + 27 * d })).room s m #[.ref (a 0), .int (L0 1)] below meth c dC dI cy a A (qV dC dI cy a A below #[.ref (a 0), .int (L0 1)] s) 6 (x_GV k d 10 8) (fun L => [(0, .ref (a 0)), (1, .int (L 1)), (2, .int (L 2)), (3, .int (L 3)), (4, .int (L 4)), (5, .int (L 5))]) 115 (fun L => [])) ∧ (bT p l e (headSpec w_x_quantify ({ frames := 57 + d, cells := 0, slots := 0, locals := 1375 + 27 * d })).room s m #[.ref (a 0), .int (L0 1)] below meth c dC dI cy a A (qV dC dI cy a A below #[.ref (a 0), .int (L0 1)] s) 6 (x_GV k d 10 9) (fun L => [(0, .ref (a 0)), (1, .int (L 1)), (2, .int (L 2)), (3, .int (L 3)), (4, .int (L 4)), (5, .int (L 5))]) 120 (fun L => [])) ∧ (bT p l e (headSpec w_x_quantify ({ frames := 57 + d, cells := 0, slots := 0, locals := 1375 + 27 * d })).room s m #[.ref (a 0), .int (L0 1)] below meth c dC dI cy a A (qV dC dI cy a A below #[.ref (a 0), .int (L0 1)] s) 6 (x_GV k d 10 10) (fun L => [(0, .ref (a 0)), (1, .int (L 1)), (2, .int (L 2)), (3, .int (L 3)), (4, .int (L 4)), (5, .int (L 5))]) 150 (fun L => [.ref (a 0), .ref (a 0), .ref (a 0)])) ∧ (bT p l e (headSpec w_x_quantify ({ frames := 57 + d, cells := 0, slots := 0, locals := 1375 + 27 * d })).room s m #[.ref (a 0), .int (L0 1)] below meth c dC dI cy a A (qV dC dI cy a A below #[.ref (a 0), .int (L0 1)] s) 6 (x_GV k d 10 11) (fun L => [(0, .ref (a 0)), (1, .int (L 1)), (2, .int (L 2)), (3, .int (L 3)), (4, .int (L 4)), (5, .int (L 5))]) 151 (fun L => [.int (L 100), .ref (a 0), .ref (a 0), .ref (a 0)])) ∧ (bT p l e (headSpec w_x_quantify ({ frames := 57 + d, cells := 0, slots := 0, locals := 1375 + 27 * d })).room s m #[.ref (a 0), .int (L0 1)] below meth c dC dI cy a A (qV dC dI cy a A below #[.ref (a 0), .int (L0 1)] s) 6 (x_GV k d 10 12) (fun L => [(0, .ref (a 0)), (1, .int (L 1)), (2, .int (L 2)), (3, .int (L 3)), (4, .int (L 4)), (5, .int (L 5))]) 160 (fun L => [])) := by
    intro k
    induction k with
    | zero => exact fun _ => ⟨fun L σ r h => (by cases h), fun L σ r h => (by cases h), fun L σ r h => (by cases h), fun L σ r h => (by cases h), fun L σ r h => (by cases h), fun L σ r h => (by cases h), fun L σ r h => (by cases h), fun L σ r h => (by cases h), fun L σ r h => (by cases h), fun L σ r h => (by cases h), fun L σ r h => (by cases h), fun L σ r h => (by cases h), fun L σ r h => (by cases h)⟩
    | succ k ih =>
      intro hk
      replace ih := ih (by omega)
      refine ⟨?_, ?_, ?_, ?_, ?_, ?_, ?_, ?_, ?_, ?_, ?_, ?_, ?_⟩
      · intro L σ r h H locs ls hP hD hS hl
        rw [x_GV_10, s_quantify_0] at h
        refine lv_aload_n hx hb dX12_quantify_0 rfl (lv_at hl 0 rfl) ?_
        refine ng_72 hx hb hts in_x_quantify hown hK hP (hts _ (List.mem_cons_of_mem _ (List.mem_append_left _ (List.mem_append_left _ (List.mem_of_getElem? (i := 100) rfl))))) dX12_quantify_1 ?_
        refine lv_istore_n (lv' := [(2, .int (σ.1 72)), (0, .ref (a 0)), (1, .int (L 1))]) hx hb dX12_quantify_4 rfl hl (by decide) rfl (fun ls hl => ?_)
        refine lv_aload_n hx hb dX12_quantify_5 rfl (lv_at hl 1 rfl) ?_
        refine ng_15 hx hb hts in_x_quantify hown hK hP (hts _ (List.mem_cons_of_mem _ (List.mem_append_left _ (List.mem_append_left _ (List.mem_of_getElem? (i := 20) rfl))))) dX12_quantify_6 ?_
        refine lv_iload_n hx hb dX12_quantify_9 rfl (lv_at hl 2 rfl) ?_
        obtain ⟨q1, h⟩ := nb_ite1 h
        refine nl_5 hx hb hK hP q1 dX12_quantify_10 ?_
        refine lv_iconst (v := 1) hx hb dX12_quantify_11 (by decide) ?_
        refine lv_icmp_ne (tgt := 19) hx hb dX12_quantify_12 (by decide) (fun c2 => ?_) (fun c2 => ?_)
        · rw [if_neg c2] at h
          exact ih.2.1 (upd L 2 ((σ.1 72))) σ r h H locs ls hP hD hS (lv_sub hl [1, 2, 0] rfl)
        · rw [if_pos c2] at h
          refine lv_iconst (v := 1) hx hb dX12_quantify_15 (by decide) ?_
          refine lv_goto (tgt := 20) hx hb dX12_quantify_16 (by decide) ?_
          exact ih.2.2.1 (upd (upd L 2 ((σ.1 72))) 100 1) σ r h H locs ls hP hD hS (lv_sub hl [1, 2, 0] rfl)
      · intro L σ r h H locs ls hP hD hS hl
        rw [x_GV_10, s_quantify_1] at h
        refine lv_iconst (v := 0) hx hb dX12_quantify_19 (by decide) ?_
        exact ih.2.2.1 (upd L 100 0) σ r h H locs ls hP hD hS (lv_sub hl [0, 1, 2] rfl)
      · intro L σ r h H locs ls hP hD hS hl
        rw [x_GV_10, s_quantify_2] at h
        refine lv_istore_n (lv' := [(3, .int (L 100)), (0, .ref (a 0)), (1, .int (L 1)), (2, .int (L 2))]) hx hb dX12_quantify_20 rfl hl (by decide) rfl (fun ls hl => ?_)
        refine lv_iconst (v := 0) hx hb dX12_quantify_21 (by decide) ?_
        refine lv_istore (lv' := [(4, .int 0), (3, .int (L 100)), (0, .ref (a 0)), (1, .int (L 1)), (2, .int (L 2))]) hx hb dX12_quantify_22 hl (by decide) rfl (fun ls hl => ?_)
        refine lv_aload_n hx hb dX12_quantify_24 rfl (lv_at hl 2 rfl) ?_
        refine lv_iload_n hx hb dX12_quantify_25 rfl (lv_at hl 4 rfl) ?_
        refine lv_aload_n hx hb dX12_quantify_26 rfl (lv_at hl 2 rfl) ?_
        refine ng_16 hx hb hts in_x_quantify hown hK hP (hts _ (List.mem_cons_of_mem _ (List.mem_append_left _ (List.mem_append_left _ (List.mem_of_getElem? (i := 21) rfl))))) dX12_quantify_27 ?_
        refine lv_iload_n hx hb dX12_quantify_30 rfl (lv_at hl 3 rfl) ?_
        obtain ⟨q1, h⟩ := nb_ite1 h
        refine nl_6 hx hb hK hP q1 dX12_quantify_31 ?_
        refine lv_iconst (v := 1) hx hb dX12_quantify_32 (by decide) ?_
        obtain ⟨e2, he2, h⟩ := od_ex h
        obtain ⟨r2, hc2, h⟩ := ob_ex h
        refine nc_Vi (As := [.int (L 2), .int (σ.2.2 6 ((L 1)).toNatClampNeg), .int 1]) (rest := []) ⟨hx, hb, hml, hown, hts⟩ ((IH k (by omega)).2.2.2.2.2.2.1 e2 (upd (upd (upd (fun _ => 0) 1 ((L 2))) 2 ((σ.2.2 6 ((L 1)).toNatClampNeg))) 3 1) σ r2 hc2 H.size) (cwV 3 hts g_x_quantify_goOn_718 rfl rfl rfl hd_x_goOn (by show (57 + e2) + 1 ≤ 57 + d ∧ 8 + (6 + 11) + (1375 + 27 * e2) ≤ 1375 + 27 * d; omega)) hK hG hA hP hD hS rfl hl.1 rfl (Nat.le_of_ble_eq_true rfl) dX12_quantify_33 ⟨Nat.le_refl _, Nat.le_refl _⟩ (fun H locs hP hD hS => ?_)
        refine lv_istore (lv' := [(5, .int r2.1), (4, .int 0), (3, .int (L 100)), (0, .ref (a 0)), (1, .int (L 1)), (2, .int (L 2))]) hx hb dX12_quantify_36 hl (by decide) rfl (fun ls hl => ?_)
        exact ih.2.2.2.1 (upd (upd (upd L 3 ((L 100))) 4 0) 5 r2.1) r2.2 r h H locs ls hP hD hS (lv_sub hl [3, 4, 5, 2, 1, 0] rfl)
      · intro L σ r h H locs ls hP hD hS hl
        rw [x_GV_10, s_quantify_3] at h
        refine lv_iload hx hb dX12_quantify_38 (lv_at hl 5 rfl) ?_
        refine lv_if_eq (tgt := 115) hx hb dX12_quantify_40 (by decide) (fun c1 => ?_) (fun c1 => ?_)
        · rw [if_pos c1] at h
          exact ih.2.2.2.2.2.2.2.2.1 L σ r h H locs ls hP hD hS (lv_sub hl [0, 1, 2, 3, 4, 5] rfl)
        · rw [if_neg c1] at h
          refine lv_aload_n hx hb dX12_quantify_43 rfl (lv_at hl 0 rfl) ?_
          refine ng_56 hx hb hts in_x_quantify hown hK hP (hts _ (List.mem_cons_of_mem _ (List.mem_append_left _ (List.mem_append_left _ (List.mem_of_getElem? (i := 13) rfl))))) dX12_quantify_44 ?_
          refine lv_if_ne (tgt := 115) hx hb dX12_quantify_47 (by decide) (fun c2 => ?_) (fun c2 => ?_)
          · rw [if_neg c2] at h
            exact ih.2.2.2.2.2.2.2.2.1 L σ r h H locs ls hP hD hS (lv_sub hl [0, 1, 2, 3, 4, 5] rfl)
          · rw [if_pos c2] at h
            refine lv_aload_n hx hb dX12_quantify_50 rfl (lv_at hl 0 rfl) ?_
            refine lv_aload_n hx hb dX12_quantify_51 rfl (lv_at hl 0 rfl) ?_
            refine ng_17 hx hb hts in_x_quantify hown hK hP (hts _ (List.mem_cons_of_mem _ (List.mem_append_left _ (List.mem_append_left _ (List.mem_of_getElem? (i := 71) rfl))))) dX12_quantify_52 ?_
            refine lv_iload_n hx hb dX12_quantify_55 rfl (lv_at hl 1 rfl) ?_
            obtain ⟨q3, h⟩ := nb_ite1 h
            refine nl_7 hx hb hK hP q3 dX12_quantify_56 ?_
            obtain ⟨e4, he4, h⟩ := od_ex h
            obtain ⟨r4, hc4, h⟩ := ob_ex h
            refine nc_Vi (As := [.int (σ.2.2 7 ((L 1)).toNatClampNeg)]) (rest := []) ⟨hx, hb, hml, hown, hts⟩ ((IH k (by omega)).2.2.2.2.2.2.2.2.1 e4 (upd (fun _ => 0) 1 ((σ.2.2 7 ((L 1)).toNatClampNeg))) σ r4 hc4 H.size) (cwV 1 hts g_x_quantify_holds_672 rfl rfl rfl hd_x_holds (by show (57 + e4) + 1 ≤ 57 + d ∧ 8 + (2 + 11) + (1375 + 27 * e4) ≤ 1375 + 27 * d; omega)) hK hG hA hP hD hS rfl hl.1 rfl (Nat.le_of_ble_eq_true rfl) dX12_quantify_57 ⟨Nat.le_refl _, Nat.le_refl _⟩ (fun H locs hP hD hS => ?_)
            refine lv_iload_n hx hb dX12_quantify_60 rfl (lv_at hl 3 rfl) ?_
            refine lv_icmp_ne (tgt := 75) hx hb dX12_quantify_61 (by decide) (fun c5 => ?_) (fun c5 => ?_)
            · rw [if_neg c5] at h
              exact ih.2.2.2.2.1 L r4.2 r h H locs ls hP hD hS (lv_sub hl [0, 1, 2, 3, 4, 5] rfl)
            · rw [if_pos c5] at h
              refine lv_aload_n hx hb dX12_quantify_64 rfl (lv_at hl 0 rfl) ?_
              refine ng_56 hx hb hts in_x_quantify hown hK hP (hts _ (List.mem_cons_of_mem _ (List.mem_append_left _ (List.mem_append_left _ (List.mem_of_getElem? (i := 13) rfl))))) dX12_quantify_65 ?_
              refine lv_if_ne (tgt := 75) hx hb dX12_quantify_68 (by decide) (fun c6 => ?_) (fun c6 => ?_)
              · rw [if_neg c6] at h
                exact ih.2.2.2.2.1 L r4.2 r h H locs ls hP hD hS (lv_sub hl [0, 1, 2, 3, 4, 5] rfl)
              · rw [if_pos c6] at h
                refine lv_iconst (v := 1) hx hb dX12_quantify_71 (by decide) ?_
                refine lv_goto (tgt := 76) hx hb dX12_quantify_72 (by decide) ?_
                exact ih.2.2.2.2.2.1 (upd L 100 1) r4.2 r h H locs ls hP hD hS (lv_sub hl [0, 1, 2, 3, 4, 5] rfl)
      · intro L σ r h H locs ls hP hD hS hl
        rw [x_GV_10, s_quantify_4] at h
        refine lv_iconst (v := 0) hx hb dX12_quantify_75 (by decide) ?_
        exact ih.2.2.2.2.2.1 (upd L 100 0) σ r h H locs ls hP hD hS (lv_sub hl [0, 1, 2, 3, 4, 5] rfl)
      · intro L σ r h H locs ls hP hD hS hl
        rw [x_GV_10, s_quantify_5] at h
        refine lv_istore (lv' := [(4, .int (L 100)), (0, .ref (a 0)), (1, .int (L 1)), (2, .int (L 2)), (3, .int (L 3)), (5, .int (L 5))]) hx hb dX12_quantify_76 hl (by decide) rfl (fun ls hl => ?_)
        refine lv_aload_n hx hb dX12_quantify_78 rfl (lv_at hl 1 rfl) ?_
        refine ng_56 hx hb hts in_x_quantify hown hK hP (hts _ (List.mem_cons_of_mem _ (List.mem_append_left _ (List.mem_append_left _ (List.mem_of_getElem? (i := 13) rfl))))) dX12_quantify_79 ?_
        refine lv_if_ne (tgt := 109) hx hb dX12_quantify_82 (by decide) (fun c1 => ?_) (fun c1 => ?_)
        · rw [if_neg c1] at h
          exact ih.2.2.2.2.2.2.1 (upd L 4 ((L 100))) σ r h H locs ls hP hD hS (lv_sub hl [1, 2, 3, 4, 0, 5] rfl)
        · rw [if_pos c1] at h
          refine lv_iload hx hb dX12_quantify_85 (lv_at hl 0 rfl) ?_
          refine lv_if_ne (tgt := 109) hx hb dX12_quantify_87 (by decide) (fun c2 => ?_) (fun c2 => ?_)
          · rw [if_neg c2] at h
            exact ih.2.2.2.2.2.2.1 (upd L 4 ((L 100))) σ r h H locs ls hP hD hS (lv_sub hl [1, 2, 3, 4, 0, 5] rfl)
          · rw [if_pos c2] at h
            refine lv_aload_n hx hb dX12_quantify_90 rfl (lv_at hl 1 rfl) ?_
            refine lv_iload_n hx hb dX12_quantify_91 rfl (lv_at hl 3 rfl) ?_
            refine lv_aload_n hx hb dX12_quantify_92 rfl (lv_at hl 1 rfl) ?_
            refine ng_16 hx hb hts in_x_quantify hown hK hP (hts _ (List.mem_cons_of_mem _ (List.mem_append_left _ (List.mem_append_left _ (List.mem_of_getElem? (i := 21) rfl))))) dX12_quantify_93 ?_
            refine lv_iload_n hx hb dX12_quantify_96 rfl (lv_at hl 2 rfl) ?_
            obtain ⟨q3, h⟩ := nb_ite1 h
            refine nl_6 hx hb hK hP q3 dX12_quantify_97 ?_
            refine lv_iconst (v := 0) hx hb dX12_quantify_98 (by decide) ?_
            obtain ⟨e4, he4, h⟩ := od_ex h
            obtain ⟨r4, hc4, h⟩ := ob_ex h
            refine nc_Vi (As := [.int (L 2), .int (σ.2.2 6 ((L 1)).toNatClampNeg), .int 0]) (rest := []) ⟨hx, hb, hml, hown, hts⟩ ((IH k (by omega)).2.2.2.2.2.2.1 e4 (upd (upd (upd (fun _ => 0) 1 ((L 2))) 2 ((σ.2.2 6 ((L 1)).toNatClampNeg))) 3 0) σ r4 hc4 H.size) (cwV 3 hts g_x_quantify_goOn_718 rfl rfl rfl hd_x_goOn (by show (57 + e4) + 1 ≤ 57 + d ∧ 8 + (6 + 11) + (1375 + 27 * e4) ≤ 1375 + 27 * d; omega)) hK hG hA hP hD hS rfl hl.1 rfl (Nat.le_of_ble_eq_true rfl) dX12_quantify_99 ⟨Nat.le_refl _, Nat.le_refl _⟩ (fun H locs hP hD hS => ?_)
            refine lv_if_eq (tgt := 109) hx hb dX12_quantify_102 (by decide) (fun c5 => ?_) (fun c5 => ?_)
            · rw [if_pos c5] at h
              exact ih.2.2.2.2.2.2.1 (upd L 4 ((L 100))) r4.2 r h H locs ls hP hD hS (lv_sub hl [1, 2, 3, 4, 0, 5] rfl)
            · rw [if_neg c5] at h
              refine lv_iconst (v := 1) hx hb dX12_quantify_105 (by decide) ?_
              refine lv_goto (tgt := 110) hx hb dX12_quantify_106 (by decide) ?_
              exact ih.2.2.2.2.2.2.2.1 (upd (upd L 4 ((L 100))) 100 1) r4.2 r h H locs ls hP hD hS (lv_sub hl [1, 2, 3, 4, 0, 5] rfl)
      · intro L σ r h H locs ls hP hD hS hl
        rw [x_GV_10, s_quantify_6] at h
        refine lv_iconst (v := 0) hx hb dX12_quantify_109 (by decide) ?_
        exact ih.2.2.2.2.2.2.2.1 (upd L 100 0) σ r h H locs ls hP hD hS (lv_sub hl [0, 1, 2, 3, 4, 5] rfl)
      · intro L σ r h H locs ls hP hD hS hl
        rw [x_GV_10, s_quantify_7] at h
        refine lv_istore (lv' := [(5, .int (L 100)), (0, .ref (a 0)), (1, .int (L 1)), (2, .int (L 2)), (3, .int (L 3)), (4, .int (L 4))]) hx hb dX12_quantify_110 hl (by decide) rfl (fun ls hl => ?_)
        refine lv_goto (tgt := 38) hx hb dX12_quantify_112 (by decide) ?_
        exact ih.2.2.2.1 (upd L 5 ((L 100))) σ r h H locs ls hP hD hS (lv_sub hl [1, 2, 3, 4, 5, 0] rfl)
      · intro L σ r h H locs ls hP hD hS hl
        rw [x_GV_10, s_quantify_8] at h
        refine lv_aload_n hx hb dX12_quantify_115 rfl (lv_at hl 0 rfl) ?_
        refine lv_iload_n hx hb dX12_quantify_116 rfl (lv_at hl 2 rfl) ?_
        refine np_72 hx hb hts in_x_quantify hown hK hP hD hS (hts _ (List.mem_cons_of_mem _ (List.mem_append_left _ (List.mem_append_left _ (List.mem_of_getElem? (i := 100) rfl))))) dX12_quantify_117 (fun H locs hP hD hS => ?_)
        exact ih.2.2.2.2.2.2.2.2.2.1 L (upd σ.1 72 ((L 2)), σ.2.1, σ.2.2) r h H locs ls hP hD hS (lv_sub hl [0, 1, 2, 3, 4, 5] rfl)
      · intro L σ r h H locs ls hP hD hS hl
        rw [x_GV_10, s_quantify_9] at h
        refine lv_aload_n hx hb dX12_quantify_120 rfl (lv_at hl 0 rfl) ?_
        refine lv_aload_n hx hb dX12_quantify_121 rfl (lv_at hl 0 rfl) ?_
        refine ng_16 hx hb hts in_x_quantify hown hK hP (hts _ (List.mem_cons_of_mem _ (List.mem_append_left _ (List.mem_append_left _ (List.mem_of_getElem? (i := 21) rfl))))) dX12_quantify_122 ?_
        refine lv_iload_n hx hb dX12_quantify_125 rfl (lv_at hl 1 rfl) ?_
        obtain ⟨q1, h⟩ := nb_ite1 h
        refine nl_6 hx hb hK hP q1 dX12_quantify_126 ?_
        obtain ⟨r2, hc2, h⟩ := ob_ex h
        refine nc_Vv (As := [.int (σ.2.2 6 ((L 1)).toNatClampNeg)]) (rest := []) ⟨hx, hb, hml, hown, hts⟩ (c_x_clear l dC dI cy a k (upd (fun _ => 0) 1 ((σ.2.2 6 ((L 1)).toNatClampNeg))) σ r2 hc2 H.size) (cwV 1 hts g_x_quantify_clear_722 rfl rfl rfl hd_x_clear (by show 1 + 1 ≤ 57 + d ∧ 8 + (4 + 11) + 22 ≤ 1375 + 27 * d; omega)) hK hG hA hP hD hS rfl hl.1 rfl (Nat.le_of_ble_eq_true rfl) dX12_quantify_127 ⟨Nat.le_refl _, Nat.le_refl _⟩ (fun H locs hP hD hS => ?_)
        refine lv_aload_n hx hb dX12_quantify_130 rfl (lv_at hl 0 rfl) ?_
        refine ng_56 hx hb hts in_x_quantify hown hK hP (hts _ (List.mem_cons_of_mem _ (List.mem_append_left _ (List.mem_append_left _ (List.mem_of_getElem? (i := 13) rfl))))) dX12_quantify_131 ?_
        refine lv_if_ne (tgt := 160) hx hb dX12_quantify_134 (by decide) (fun c3 => ?_) (fun c3 => ?_)
        · rw [if_neg c3] at h
          exact ih.2.2.2.2.2.2.2.2.2.2.2.2 L r2.2 r h H locs ls hP hD hS (lv_sub hl [0, 1, 2, 3, 4, 5] rfl)
        · rw [if_pos c3] at h
          refine lv_aload_n hx hb dX12_quantify_137 rfl (lv_at hl 0 rfl) ?_
          refine lv_aload_n hx hb dX12_quantify_138 rfl (lv_at hl 0 rfl) ?_
          refine lv_aload_n hx hb dX12_quantify_139 rfl (lv_at hl 0 rfl) ?_
          refine lv_iload hx hb dX12_quantify_140 (lv_at hl 4 rfl) ?_
          refine lv_iload_n hx hb dX12_quantify_142 rfl (lv_at hl 3 rfl) ?_
          refine lv_icmp_ne (tgt := 150) hx hb dX12_quantify_143 (by decide) (fun c4 => ?_) (fun c4 => ?_)
          · rw [if_neg c4] at h
            exact ih.2.2.2.2.2.2.2.2.2.2.1 L r2.2 r h H locs ls hP hD hS (lv_sub hl [0, 1, 2, 3, 4, 5] rfl)
          · rw [if_pos c4] at h
            refine lv_iconst (v := 1) hx hb dX12_quantify_146 (by decide) ?_
            refine lv_goto (tgt := 151) hx hb dX12_quantify_147 (by decide) ?_
            exact ih.2.2.2.2.2.2.2.2.2.2.2.1 (upd L 100 1) r2.2 r h H locs ls hP hD hS (lv_sub hl [0, 1, 2, 3, 4, 5] rfl)
      · intro L σ r h H locs ls hP hD hS hl
        rw [x_GV_10, s_quantify_10] at h
        refine lv_iconst (v := 0) hx hb dX12_quantify_150 (by decide) ?_
        exact ih.2.2.2.2.2.2.2.2.2.2.2.1 (upd L 100 0) σ r h H locs ls hP hD hS (lv_sub hl [0, 1, 2, 3, 4, 5] rfl)
      · intro L σ r h H locs ls hP hD hS hl
        rw [x_GV_10, s_quantify_11] at h
        obtain ⟨r1, hc1, h⟩ := ob_ex h
        refine nc_Vi (As := [.int (L 100)]) (rest := [.ref (a 0), .ref (a 0)]) ⟨hx, hb, hml, hown, hts⟩ (c_x_truth l dC dI cy a k (upd (fun _ => 0) 1 ((L 100))) σ r1 hc1 H.size) (cwV 1 hts g_x_quantify_truth_646 rfl rfl rfl hd_x_truth (by show 0 + 1 ≤ 57 + d ∧ 8 + (2 + 11) + 0 ≤ 1375 + 27 * d; omega)) hK hG hA hP hD hS rfl hl.1 rfl (Nat.le_of_ble_eq_true rfl) dX12_quantify_151 ⟨Nat.le_refl _, Nat.le_refl _⟩ (fun H locs hP hD hS => ?_)
        obtain ⟨r2, hc2, h⟩ := ob_ex h
        refine nc_Vi (As := [.int r1.1]) (rest := [.ref (a 0)]) ⟨hx, hb, hml, hown, hts⟩ (c_x_answer l dC dI cy a k (upd (fun _ => 0) 1 r1.1) r1.2 r2 hc2 H.size) (cwV 1 hts g_x_quantify_answer_591 rfl rfl rfl hd_x_answer (by show 2 + 1 ≤ 57 + d ∧ 8 + (2 + 11) + 42 ≤ 1375 + 27 * d; omega)) hK hG hA hP hD hS rfl hl.1 rfl (Nat.le_of_ble_eq_true rfl) dX12_quantify_154 ⟨Nat.le_refl _, Nat.le_refl _⟩ (fun H locs hP hD hS => ?_)
        obtain ⟨r3, hc3, h⟩ := ob_ex h
        refine nc_Vv (As := [.int r2.1]) (rest := []) ⟨hx, hb, hml, hown, hts⟩ (c_x_push l dC dI cy a k (upd (fun _ => 0) 1 r2.1) r2.2 r3 hc3 H.size) (cwV 1 hts g_x_quantify_push_594 rfl rfl rfl hd_x_push (by show 0 + 1 ≤ 57 + d ∧ 8 + (2 + 11) + 0 ≤ 1375 + 27 * d; omega)) hK hG hA hP hD hS rfl hl.1 rfl (Nat.le_of_ble_eq_true rfl) dX12_quantify_157 ⟨Nat.le_refl _, Nat.le_refl _⟩ (fun H locs hP hD hS => ?_)
        exact ih.2.2.2.2.2.2.2.2.2.2.2.2 L r3.2 r h H locs ls hP hD hS (lv_sub hl [0, 1, 2, 3, 4, 5] rfl)
      · intro L σ r h H locs ls hP hD hS hl
        rw [x_GV_10, s_quantify_12] at h
        cases h
        exact W.vret hx hb hr (fun t ht hW => ⟨⟨(), rfl, trivial, by rw [ht]; exact hP, va_K.moved hW.alike hK, hD⟩, hS.F ht⟩) hS.2.2 dX12_quantify_160
  exact (blk k0 (Nat.le_refl _)).1 L0 σ0 r0 h0 s.heap [] ls hP hD hS hl
theorem gg_x_setBrackets_answer : GoodIn w_x_setBrackets w_x_answer := goodIn_sub (fun w h => (List.mem_cons.mp h).elim (fun e => (List.mem_cons_of_mem _ (List.mem_append_left _ (List.mem_append_right _ (List.mem_append_right _ (List.mem_append_right _ (List.mem_append_left _ (List.mem_cons.mpr (Or.inl e))))))))) (fun h => (List.mem_append.mp h).elim (fun h => (List.mem_cons_of_mem _ (List.mem_append_left _ (List.mem_append_right _ (List.mem_append_right _ (List.mem_append_right _ (List.mem_append_left _ (List.mem_cons_of_mem _ h)))))))) (fun h => List.mem_cons_of_mem _ (List.mem_append_right _ h)))) w_x_answer_good
theorem g_x_setBrackets_answer_591 : GoodIn w_x_setBrackets (wsV RX12 591 RX12 yX12_answer w_x_answer) := goodIn_app (nb_g4 (List.mem_cons_of_mem _ (List.mem_append_left _ (List.mem_append_left _ (List.mem_of_getElem? (i := 25) rfl)))) (List.mem_cons_of_mem _ (List.mem_append_left _ (List.mem_append_left _ (List.mem_of_getElem? (i := 26) rfl)))) (List.mem_cons_of_mem _ (List.mem_append_left _ (List.mem_append_left _ (List.mem_of_getElem? (i := 27) rfl)))) (List.mem_cons_of_mem _ (List.mem_append_left _ (List.mem_append_left _ (List.mem_of_getElem? (i := 19) rfl)))) (by decide +kernel)) gg_x_setBrackets_answer
theorem gg_x_setBrackets_distinct : GoodIn w_x_setBrackets w_x_distinct := goodIn_sub (fun w h => (List.mem_cons.mp h).elim (fun e => (List.mem_cons_of_mem _ (List.mem_append_left _ (List.mem_append_right _ (List.mem_append_right _ (List.mem_append_right _ (List.mem_append_right _ (List.mem_append_right _ (List.mem_append_right _ (List.mem_append_right _ (List.mem_append_right _ (List.mem_append_right _ (List.mem_append_right _ (List.mem_append_right _ (List.mem_append_right _ (List.mem_append_right _ (List.mem_append_right _ (List.mem_append_right _ (List.mem_append_right _ (List.mem_append_right _ (List.mem_append_right _ (List.mem_append_right _ (List.mem_append_right _ (List.mem_append_right _ (List.mem_append_right _ (List.mem_append_right _ (List.mem_append_right _ (List.mem_append_left _ (List.mem_cons.mpr (Or.inl e)))))))))))))))))))))))))))))) (fun h => (List.mem_append.mp h).elim (fun h => (List.mem_cons_of_mem _ (List.mem_append_left _ (List.mem_append_right _ (List.mem_append_right _ (List.mem_append_right _ (List.mem_append_right _ (List.mem_append_right _ (List.mem_append_right _ (List.mem_append_right _ (List.mem_append_right _ (List.mem_append_right _ (List.mem_append_right _ (List.mem_append_right _ (List.mem_append_right _ (List.mem_append_right _ (List.mem_append_right _ (List.mem_append_right _ (List.mem_append_right _ (List.mem_append_right _ (List.mem_append_right _ (List.mem_append_right _ (List.mem_append_right _ (List.mem_append_right _ (List.mem_append_right _ (List.mem_append_right _ (List.mem_append_right _ (List.mem_append_left _ (List.mem_cons_of_mem _ h))))))))))))))))))))))))))))) (fun h => List.mem_cons_of_mem _ (List.mem_append_right _ h)))) w_x_distinct_good
theorem g_x_setBrackets_distinct_454 : GoodIn w_x_setBrackets (wsV RX12 454 RX12 yX12_distinct w_x_distinct) := goodIn_app (nb_g4 (List.mem_cons_of_mem _ (List.mem_append_left _ (List.mem_append_left _ (List.mem_of_getElem? (i := 143) rfl)))) (List.mem_cons_of_mem _ (List.mem_append_left _ (List.mem_append_left _ (List.mem_of_getElem? (i := 144) rfl)))) (List.mem_cons_of_mem _ (List.mem_append_left _ (List.mem_append_left _ (List.mem_of_getElem? (i := 145) rfl)))) (List.mem_cons_of_mem _ (List.mem_append_left _ (List.mem_append_left _ (List.mem_of_getElem? (i := 19) rfl)))) (by decide +kernel)) gg_x_setBrackets_distinct
theorem gg_x_setBrackets_eval : GoodIn w_x_setBrackets w_x_eval := goodIn_sub (fun w h => (List.mem_cons.mp h).elim (fun e => e ▸ (List.mem_cons_of_mem _ (List.mem_append_left _ (List.mem_append_left _ (List.mem_of_getElem? (i := 4) rfl))))) (fun h => List.mem_cons_of_mem _ h)) w_x_eval_good
theorem g_x_setBrackets_eval_566 : GoodIn w_x_setBrackets (wsV RX12 566 RX12 yX12_eval w_x_eval) := goodIn_app (nb_g4 (List.mem_cons_of_mem _ (List.mem_append_left _ (List.mem_append_left _ (List.mem_of_getElem? (i := 62) rfl)))) (List.mem_cons_of_mem _ (List.mem_append_left _ (List.mem_append_left _ (List.mem_of_getElem? (i := 63) rfl)))) (List.mem_cons_of_mem _ (List.mem_append_left _ (List.mem_append_left _ (List.mem_of_getElem? (i := 64) rfl)))) (List.mem_cons_of_mem _ (List.mem_append_left _ (List.mem_append_left _ (List.mem_of_getElem? (i := 19) rfl)))) (by decide +kernel)) gg_x_setBrackets_eval
theorem gg_x_setBrackets_fail : GoodIn w_x_setBrackets w_x_fail := goodIn_sub (fun w h => (List.mem_cons.mp h).elim (fun e => (List.mem_cons_of_mem _ (List.mem_append_left _ (List.mem_append_right _ (List.mem_append_right _ (List.mem_append_right _ (List.mem_append_right _ (List.mem_append_right _ (List.mem_append_right _ (List.mem_append_right _ (List.mem_append_right _ (List.mem_append_right _ (List.mem_append_right _ (List.mem_append_right _ (List.mem_append_left _ (List.mem_cons.mpr (Or.inl e))))))))))))))))) (fun h => (List.mem_append.mp h).elim (fun h => (List.mem_cons_of_mem _ (List.mem_append_left _ (List.mem_append_right _ (List.mem_append_right _ (List.mem_append_right _ (List.mem_append_right _ (List.mem_append_right _ (List.mem_append_right _ (List.mem_append_right _ (List.mem_append_right _ (List.mem_append_right _ (List.mem_append_right _ (List.mem_append_right _ (List.mem_append_left _ (List.mem_cons_of_mem _ h)))))))))))))))) (fun h => List.mem_cons_of_mem _ (List.mem_append_right _ h)))) w_x_fail_good
theorem g_x_setBrackets_fail_369 : GoodIn w_x_setBrackets (wsV RX12 369 RX12 yX12_fail w_x_fail) := goodIn_app (nb_g4 (List.mem_cons_of_mem _ (List.mem_append_left _ (List.mem_append_left _ (List.mem_of_getElem? (i := 80) rfl)))) (List.mem_cons_of_mem _ (List.mem_append_left _ (List.mem_append_left _ (List.mem_of_getElem? (i := 81) rfl)))) (List.mem_cons_of_mem _ (List.mem_append_left _ (List.mem_append_left _ (List.mem_of_getElem? (i := 82) rfl)))) (List.mem_cons_of_mem _ (List.mem_append_left _ (List.mem_append_left _ (List.mem_of_getElem? (i := 19) rfl)))) (by decide +kernel)) gg_x_setBrackets_fail
theorem gg_x_setBrackets_push : GoodIn w_x_setBrackets w_x_push := goodIn_sub (fun w h => (List.mem_cons.mp h).elim (fun e => (List.mem_cons_of_mem _ (List.mem_append_left _ (List.mem_append_right _ (List.mem_append_right _ (List.mem_append_right _ (List.mem_append_right _ (List.mem_append_left _ (List.mem_cons.mpr (Or.inl e)))))))))) (fun h => (List.mem_append.mp h).elim (fun h => (List.mem_cons_of_mem _ (List.mem_append_left _ (List.mem_append_right _ (List.mem_append_right _ (List.mem_append_right _ (List.mem_append_right _ (List.mem_append_left _ (List.mem_cons_of_mem _ h))))))))) (fun h => List.mem_cons_of_mem _ (List.mem_append_right _ h)))) w_x_push_good
theorem g_x_setBrackets_push_594 : GoodIn w_x_setBrackets (wsV RX12 594 RX12 yX12_push w_x_push) := goodIn_app (nb_g4 (List.mem_cons_of_mem _ (List.mem_append_left _ (List.mem_append_left _ (List.mem_of_getElem? (i := 28) rfl)))) (List.mem_cons_of_mem _ (List.mem_append_left _ (List.mem_append_left _ (List.mem_of_getElem? (i := 29) rfl)))) (List.mem_cons_of_mem _ (List.mem_append_left _ (List.mem_append_left _ (List.mem_of_getElem? (i := 30) rfl)))) (List.mem_cons_of_mem _ (List.mem_append_left _ (List.mem_append_left _ (List.mem_of_getElem? (i := 19) rfl)))) (by decide +kernel)) gg_x_setBrackets_push
theorem gg_x_setBrackets_setOf : GoodIn w_x_setBrackets w_x_setOf := goodIn_sub (fun w h => (List.mem_cons.mp h).elim (fun e => (List.mem_cons_of_mem _ (List.mem_append_left _ (List.mem_append_right _ (List.mem_append_right _ (List.mem_append_right _ (List.mem_append_right _ (List.mem_append_right _ (List.mem_append_right _ (List.mem_append_right _ (List.mem_append_right _ (List.mem_append_right _ (List.mem_append_right _ (List.mem_append_right _ (List.mem_append_right _ (List.mem_append_right _ (List.mem_append_right _ (List.mem_append_left _ (List.mem_cons.mpr (Or.inl e)))))))))))))))))))) (fun h => (List.mem_append.mp h).elim (fun h => (List.mem_cons_of_mem _ (List.mem_append_left _ (List.mem_append_right _ (List.mem_append_right _ (List.mem_append_right _ (List.mem_append_right _ (List.mem_append_right _ (List.mem_append_right _ (List.mem_append_right _ (List.mem_append_right _ (List.mem_append_right _ (List.mem_append_right _ (List.mem_append_right _ (List.mem_append_right _ (List.mem_append_right _ (List.mem_append_right _ (List.mem_append_left _ (List.mem_cons_of_mem _ h))))))))))))))))))) (fun h => List.mem_cons_of_mem _ (List.mem_append_right _ h)))) w_x_setOf_good
theorem g_x_setBrackets_setOf_678 : GoodIn w_x_setBrackets (wsV RX12 678 RX12 yX12_setOf w_x_setOf) := goodIn_app (nb_g4 (List.mem_cons_of_mem _ (List.mem_append_left _ (List.mem_append_left _ (List.mem_of_getElem? (i := 107) rfl)))) (List.mem_cons_of_mem _ (List.mem_append_left _ (List.mem_append_left _ (List.mem_of_getElem? (i := 108) rfl)))) (List.mem_cons_of_mem _ (List.mem_append_left _ (List.mem_append_left _ (List.mem_of_getElem? (i := 109) rfl)))) (List.mem_cons_of_mem _ (List.mem_append_left _ (List.mem_append_left _ (List.mem_of_getElem? (i := 19) rfl)))) (by decide +kernel)) gg_x_setBrackets_setOf
theorem gg_x_setBrackets_size : GoodIn w_x_setBrackets w_x_size := goodIn_sub (fun w h => (List.mem_cons.mp h).elim (fun e => (List.mem_cons_of_mem _ (List.mem_append_left _ (List.mem_append_right _ (List.mem_append_right _ (List.mem_append_right _ (List.mem_append_right _ (List.mem_append_right _ (List.mem_append_right _ (List.mem_append_right _ (List.mem_append_right _ (List.mem_append_right _ (List.mem_append_right _ (List.mem_append_right _ (List.mem_append_right _ (List.mem_append_right _ (List.mem_append_right _ (List.mem_append_right _ (List.mem_append_right _ (List.mem_append_right _ (List.mem_append_right _ (List.mem_append_right _ (List.mem_append_right _ (List.mem_append_right _ (List.mem_append_right _ (List.mem_append_right _ (List.mem_append_right _ (List.mem_append_right _ (List.mem_append_left _ (List.mem_cons.mpr (Or.inl e))))))))))))))))))))))))))))))) (fun h => (List.mem_append.mp h).elim (fun h => (List.mem_cons_of_mem _ (List.mem_append_left _ (List.mem_append_right _ (List.mem_append_right _ (List.mem_append_right _ (List.mem_append_right _ (List.mem_append_right _ (List.mem_append_right _ (List.mem_append_right _ (List.mem_append_right _ (List.mem_append_right _ (List.mem_append_right _ (List.mem_append_right _ (List.mem_append_right _ (List.mem_append_right _ (List.mem_append_right _ (List.mem_append_right _ (List.mem_append_right _ (List.mem_append_right _ (List.mem_append_right _ (List.mem_append_right _ (List.mem_append_right _ (List.mem_append_right _ (List.mem_append_right _ (List.mem_append_right _ (List.mem_append_right _ (List.mem_append_right _ (List.mem_append_left _ (List.mem_cons_of_mem _ h)))))))))))))))))))))))))))))) (fun h => List.mem_cons_of_mem _ (List.mem_append_right _ h)))) w_x_size_good
theorem g_x_setBrackets_size_432 : GoodIn w_x_setBrackets (wsV RX12 432 RX12 yX12_size w_x_size) := goodIn_app (nb_g4 (List.mem_cons_of_mem _ (List.mem_append_left _ (List.mem_append_left _ (List.mem_of_getElem? (i := 146) rfl)))) (List.mem_cons_of_mem _ (List.mem_append_left _ (List.mem_append_left _ (List.mem_of_getElem? (i := 147) rfl)))) (List.mem_cons_of_mem _ (List.mem_append_left _ (List.mem_append_left _ (List.mem_of_getElem? (i := 148) rfl)))) (List.mem_cons_of_mem _ (List.mem_append_left _ (List.mem_append_left _ (List.mem_of_getElem? (i := 19) rfl)))) (by decide +kernel)) gg_x_setBrackets_size
theorem gg_x_setBrackets_sweep : GoodIn w_x_setBrackets w_x_sweep := goodIn_sub (fun w h => (List.mem_cons.mp h).elim (fun e => (List.mem_cons_of_mem _ (List.mem_append_left _ (List.mem_append_right _ (List.mem_append_left _ (List.mem_cons.mpr (Or.inl e))))))) (fun h => (List.mem_append.mp h).elim (fun h => (List.mem_cons_of_mem _ (List.mem_append_left _ (List.mem_append_right _ (List.mem_append_left _ (List.mem_cons_of_mem _ h)))))) (fun h => List.mem_cons_of_mem _ (List.mem_append_right _ h)))) w_x_sweep_good
theorem g_x_setBrackets_sweep_585 : GoodIn w_x_setBrackets (wsV RX12 585 RX12 yX12_sweep w_x_sweep) := goodIn_app (nb_g4 (List.mem_cons_of_mem _ (List.mem_append_left _ (List.mem_append_left _ (List.mem_of_getElem? (i := 16) rfl)))) (List.mem_cons_of_mem _ (List.mem_append_left _ (List.mem_append_left _ (List.mem_of_getElem? (i := 17) rfl)))) (List.mem_cons_of_mem _ (List.mem_append_left _ (List.mem_append_left _ (List.mem_of_getElem? (i := 18) rfl)))) (List.mem_cons_of_mem _ (List.mem_append_left _ (List.mem_append_left _ (List.mem_of_getElem? (i := 19) rfl)))) (by decide +kernel)) gg_x_setBrackets_sweep
set_option maxHeartbeats 40000000 in
set_option maxRecDepth 100000 in
theorem c_s_setBrackets (l : Launch) (dC : Nat → ClassId) (dI : Nat → Nat → Nat) (cy : Nat → ClassId) (a : Nat → Nat) (k0 : Nat) (IH : ∀ j : Nat, j < k0 → P_GV l dC dI cy a j) (d : Nat) (L0 : Nat → Int32) (σ0 : MS) (r0 : Int32 × MS) (h0 : x_GV k0 d 11 0 L0 σ0 = some r0) (sz : Nat) : Met l yX12_setBrackets w_x_setBrackets ({ frames := 57 + d, cells := 0, slots := 0, locals := 1375 + 27 * d }) (va_Pc [.ref (a 0), .int (L0 1)] (nIn (dC, dI) cy sz (vM cy a σ0))) (va_Qv (fun _ : Unit => True) (fun _ t => nOut (dC, dI) cy (va_A (vM cy a σ0) sz) (vM cy a r0.2) t) (va_A (vM cy a σ0) sz)) 0 0 (va_A (vM cy a σ0) sz) := by
  refine Met.ofW (cc := cX12_setBrackets) (maxL := 8) (ret := none) (by decide) rfl ?_
  intro p e s m args below meth c s₁ B hml hv
  obtain ⟨rfl, hsz, hP, hK, hD0, hG⟩ := hv
  have hx := B.exec
  have hb := B.bytes
  have hr := B.returns
  have hts := atoms_spec (ws := w_x_setBrackets) B.pre
  have hown : s.vm.findClass RX12 = some m.cls := findClass_of_methodNamed B.named
  have hlocks := B.notSynchronized
  subst hsz
  have hD := hD0.self (sz := s.heap.size)
  generalize hAe : va_A (vM cy a σ0) s.heap.size = A at hD ⊢
  have hA : ∀ q : Nat, s.heap.size ≤ q → A q := fun q h => by rw [← hAe]; exact Or.inr h
  have hS : va_S A s.heap s.heap [] := va_S.rf
  have hl := lv_entry ([.ref (a 0), .int (L0 1)]) (n := 8) (Nat.le_of_ble_eq_true rfl)
  rw [lg_entry_eq]
  generalize (lg_sl ([.ref (a 0), .int (L0 1)]) ++ List.replicate (8 - (lg_sl ([.ref (a 0), .int (L0 1)])).length) Slot.unset).toArray = ls at hl ⊢
  have hl : lv_has ls 8 [(0, .ref (a 0)), (1, .int (L0 1))] := hl
  have blk : ∀ k : Nat, k ≤ k0 → (bT p l e (headSpec w_x_setBrackets ({ frames := 57 + d, cells := 0, slots := 0, locals := 1375 + 27 * d })).room s m #[.ref (a 0), .int (L0 1)] below meth c dC dI cy a A (qV dC dI cy a A below #[.ref (a 0), .int (L0 1)] s) 8 (x_GV k d 11 0) (fun L => [(0, .ref (a 0)), (1, .int (L 1))]) 0 (fun L => [])) ∧ (bT p l e (headSpec w_x_setBrackets ({ frames := 57 + d, cells := 0, slots := 0, locals := 1375 + 27 * d })).room s m #[.ref (a 0), .int (L0 1)] below meth c dC dI cy a A (qV dC dI cy a A below #[.ref (a 0), .int (L0 1)] s) 8 (x_GV k d 11 1) (fun L => [(0, .ref (a 0)), (1, .int (L 1)), (2, .int (L 2)), (3, .int (L 3)), (4, .int (L 4)), (5, .int (L 5))]) 18 (fun L => [])) ∧ (bT p l e (headSpec w_x_setBrackets ({ frames := 57 + d, cells := 0, slots := 0, locals := 1375 + 27 * d })).room s m #[.ref (a 0), .int (L0 1)] below meth c dC dI cy a A (qV dC dI cy a A below #[.ref (a 0), .int (L0 1)] s) 8 (x_GV k d 11 2) (fun L => [(0, .ref (a 0)), (1, .int (L 1)), (2, .int (L 2)), (3, .int (L 3)), (4, .int (L 4)), (5, .int (L 5))]) 58 (fun L => [])) ∧ (bT p l e (headSpec w_x_setBrackets ({ frames := 57 + d, cells := 0, slots := 0, locals := 1375 + 27 * d })).room s m #[.ref (a 0), .int (L0 1)] below meth c dC dI cy a A (qV dC dI cy a A below #[.ref (a 0), .int (L0 1)] s) 8 (x_GV k d 11 3) (fun L => [(0, .ref (a 0)), (1, .int (L 1)), (2, .int (L 2)), (3, .int (L 3)), (4, .int (L 4)), (5, .int (L 5))]) 62 (fun L => [])) ∧ (bT p l e (headSpec w_x_setBrackets ({ frames := 57 + d, cells := 0, slots := 0, locals := 1375 + 27 * d })).room s m #[.ref (a 0), .int (L0 1)] below meth c dC dI cy a A (qV dC dI cy a A below #[.ref (a 0), .int (L0 1)] s) 8 (x_GV k d 11 4) (fun L => [(0, .ref (a 0)), (1, .int (L 1)), (2, .int (L 2)), (3, .int (L 3)), (4, .int (L 4)), (5, .int (L 5))]) 66 (fun L => [])) ∧ (bT p l e (headSpec w_x_setBrackets ({ frames := 57 + d, cells := 0, slots := 0, locals := 1375 + 27 * d })).room s m #[.ref (a 0), .int (L0 1)] below meth c dC dI cy a A (qV dC dI cy a A below #[.ref (a 0), .int (L0 1)] s) 8 (x_GV k d 11 5) (fun L => [(0, .ref (a 0)), (1, .int (L 1)), (2, .int (L 2)), (3, .int (L 3)), (4, .int (L 4)), (5, .int (L 5))]) 67 (fun L => [.int (L 100)])) ∧ (bT p l e (headSpec w_x_setBrackets ({ frames := 57 + d, cells := 0, slots := 0, locals := 1375 + 27 * d })).room s m #[.ref (a 0), .int (L0 1)] below meth c dC dI cy a A (qV dC dI cy a A below #[.ref (a 0), .int (L0 1)] s) 8 (x_GV k d 11 6) (fun L => [(0, .ref (a 0)), (1, .int (L 1)), (2, .int (L 2)), (3, .int (L 3)), (4, .int (L 4)), (5, .int (L 5))]) 84 (fun L => [])) ∧ (bT p l e (headSpec w_x_setBrackets ({ frames := 57 + d, cells := 0, slots := 0, locals := 1375 + 27 * d })).room s m #[.ref (a 0), .int (L0 1)] below meth c dC dI cy a A (qV dC dI cy a A below #[.ref (a 0), .int (L0 1)] s) 8 (x_GV k d 11 7) (fun L => [(0, .ref (a 0)), (1, .int (L 1)), (2, .int (L 2)), (3, .int (L 3)), (4, .int (L 4)), (5, .int (L 5))]) 92 (fun L => [])) ∧ (bT p l e (headSpec w_x_setBrackets ({ frames := 57 + d, cells := 0, slots := 0, locals := 1375 + 27 * d })).room s m #[.ref (a 0), .int (L0 1)] below meth c dC dI cy a A (qV dC dI cy a A below #[.ref (a 0), .int (L0 1)] s) 8 (x_GV k d 11 8) (fun L => [(0, .ref (a 0)), (1, .int (L 1)), (2, .int (L 2)), (3, .int (L 3)), (4, .int (L 4)), (5, .int (L 5)), (6, .int (L 6)), (7, .int (L 7))]) 115 (fun L => [])) ∧ (bT p l e (headSpec w_x_setBrackets ({ frames := 57 + d, cells := 0, slots := 0, locals := 1375 + 27 * d })).room s m #[.ref (a 0), .int (L0 1)] below meth c dC dI cy a A (qV dC dI cy a A below #[.ref (a 0), .int (L0 1)] s) 8 (x_GV k d 11 9) (fun L => [(0, .ref (a 0)), (1, .int (L 1)), (2, .int (L 2)), (3, .int (L 3)), (4, .int (L 4)), (5, .int (L 5)), (6, .int (L 6)), (7, .int (L 7))]) 146 (fun L => [])) ∧ (bT p l e (headSpec w_x_setBrackets ({ frames := 57 + d, cells := 0, slots := 0, locals := 1375 + 27 * d })).room s m #[.ref (a 0), .int (L0 1)] below meth c dC dI cy a A (qV dC dI cy a A below #[.ref (a 0), .int (L0 1)] s) 8 (x_GV k d 11 10) (fun L => [(0, .ref (a 0)), (1, .int (L 1)), (2, .int (L 2)), (3, .int (L 3)), (4, .int (L 4)), (5, .int (L 5)), (6, .int (L 6)), (7, .int (L 7))]) 158 (fun L => [])) ∧ (bT p l e (headSpec w_x_setBrackets ({ frames := 57 + d, cells := 0, slots := 0, locals := 1375 + 27 * d })).room s m #[.ref (a 0), .int (L0 1)] below meth c dC dI cy a A (qV dC dI cy a A below #[.ref (a 0), .int (L0 1)] s) 8 (x_GV k d 11 11) (fun L => [(0, .ref (a 0)), (1, .int (L 1)), (2, .int (L 2)), (3, .int (L 3)), (4, .int (L 4)), (5, .int (L 5)), (6, .int (L 6)), (7, .int (L 7))]) 159 (fun L => [.int (L 100)])) ∧ (bT p l e (headSpec w_x_setBrackets ({ frames := 57 + d, cells := 0, slots := 0, locals := 1375 + 27 * d })).room s m #[.ref (a 0), .int (L0 1)] below meth c dC dI cy a A (qV dC dI cy a A below #[.ref (a 0), .int (L0 1)] s) 8 (x_GV k d 11 12) (fun L => [(0, .ref (a 0)), (1, .int (L 1)), (2, .int (L 2)), (3, .int (L 3)), (4, .int (L 4)), (5, .int (L 5)), (6, .int (L 6)), (7, .int (L 7))]) 171 (fun L => [.ref (a 0)])) ∧ (bT p l e (headSpec w_x_setBrackets ({ frames := 57 + d, cells := 0, slots := 0, locals := 1375 + 27 * d })).room s m #[.ref (a 0), .int (L0 1)] below meth c dC dI cy a A (qV dC dI cy a A below #[.ref (a 0), .int (L0 1)] s) 8 (x_GV k d 11 13) (fun L => [(0, .ref (a 0)), (1, .int (L 1)), (2, .int (L 2)), (3, .int (L 3)), (4, .int (L 4)), (5, .int (L 5)), (6, .int (L 6)), (7, .int (L 7))]) 175 (fun L => [.int (L 100), .ref (a 0)])) ∧ (bT p l e (headSpec w_x_setBrackets ({ frames := 57 + d, cells := 0, slots := 0, locals := 1375 + 27 * d })).room s m #[.ref (a 0), .int (L0 1)] below meth c dC dI cy a A (qV dC dI cy a A below #[.ref (a 0), .int (L0 1)] s) 8 (x_GV k d 11 14) (fun L => [(0, .ref (a 0)), (1, .int (L 1)), (2, .int (L 2)), (3, .int (L 3)), (4, .int (L 4)), (5, .int (L 5))]) 178 (fun L => [])) ∧ (bT p l e (headSpec w_x_setBrackets ({ frames := 57 + d, cells := 0, slots := 0, locals := 1375 + 27 * d })).room s m #[.ref (a 0), .int (L0 1)] below meth c dC dI cy a A (qV dC dI cy a A below #[.ref (a 0), .int (L0 1)] s) 8 (x_GV k d 11 15) (fun L => [(0, .ref (a 0)), (1, .int (L 1)), (2, .int (L 2)), (3, .int (L 3)), (4, .int (L 4)), (5, .int (L 5))]) 190 (fun L => [])) ∧ (bT p l e (headSpec w_x_setBrackets ({ frames := 57 + d, cells := 0, slots := 0, locals := 1375 + 27 * d })).room s m #[.ref (a 0), .int (L0 1)] below meth c dC dI cy a A (qV dC dI cy a A below #[.ref (a 0), .int (L0 1)] s) 8 (x_GV k d 11 16) (fun L => [(0, .ref (a 0)), (1, .int (L 1)), (2, .int (L 2)), (3, .int (L 3)), (4, .int (L 4)), (5, .int (L 5))]) 209 (fun L => [])) ∧ (bT p l e (headSpec w_x_setBrackets ({ frames := 57 + d, cells := 0, slots := 0, locals := 1375 + 27 * d })).room s m #[.ref (a 0), .int (L0 1)] below meth c dC dI cy a A (qV dC dI cy a A below #[.ref (a 0), .int (L0 1)] s) 8 (x_GV k d 11 17) (fun L => [(0, .ref (a 0)), (1, .int (L 1)), (2, .int (L 2)), (3, .int (L 3)), (4, .int (L 4)), (5, .int (L 5))]) 226 (fun L => [])) ∧ (bT p l e (headSpec w_x_setBrackets ({ frames := 57 + d, cells := 0, slots := 0, locals := 1375 + 27 * d })).room s m #[.ref (a 0), .int (L0 1)] below meth c dC dI cy a A (qV dC dI cy a A below #[.ref (a 0), .int (L0 1)] s) 8 (x_GV k d 11 18) (fun L => [(0, .ref (a 0)), (1, .int (L 1)), (2, .int (L 2)), (3, .int (L 3)), (4, .int (L 4)), (5, .int (L 5))]) 253 (fun L => [])) := by
    intro k
    induction k with
    | zero => exact fun _ => ⟨fun L σ r h => (by cases h), fun L σ r h => (by cases h), fun L σ r h => (by cases h), fun L σ r h => (by cases h), fun L σ r h => (by cases h), fun L σ r h => (by cases h), fun L σ r h => (by cases h), fun L σ r h => (by cases h), fun L σ r h => (by cases h), fun L σ r h => (by cases h), fun L σ r h => (by cases h), fun L σ r h => (by cases h), fun L σ r h => (by cases h), fun L σ r h => (by cases h), fun L σ r h => (by cases h), fun L σ r h => (by cases h), fun L σ r h => (by cases h), fun L σ r h => (by cases h), fun L σ r h => (by cases h)⟩
    | succ k ih =>
      intro hk
      replace ih := ih (by omega)
      refine ⟨?_, ?_, ?_, ?_, ?_, ?_, ?_, ?_, ?_, ?_, ?_, ?_, ?_, ?_, ?_, ?_, ?_, ?_, ?_⟩
      · intro L σ r h H locs ls hP hD hS hl
        rw [x_GV_11, s_setBrackets_0] at h
        refine lv_aload_n hx hb dX12_setBrackets_0 rfl (lv_at hl 0 rfl) ?_
        refine ng_59 hx hb hts in_x_setBrackets hown hK hP (hts _ (List.mem_cons_of_mem _ (List.mem_append_left _ (List.mem_append_left _ (List.mem_of_getElem? (i := 76) rfl))))) dX12_setBrackets_1 ?_
        refine lv_istore_n (lv' := [(2, .int (σ.1 59)), (0, .ref (a 0)), (1, .int (L 1))]) hx hb dX12_setBrackets_4 rfl hl (by decide) rfl (fun ls hl => ?_)
        refine lv_iconst (v := 0) hx hb dX12_setBrackets_5 (by decide) ?_
        refine lv_istore_n (lv' := [(3, .int 0), (2, .int (σ.1 59)), (0, .ref (a 0)), (1, .int (L 1))]) hx hb dX12_setBrackets_6 rfl hl (by decide) rfl (fun ls hl => ?_)
        refine lv_iconst (v := 0) hx hb dX12_setBrackets_7 (by decide) ?_
        refine lv_istore (lv' := [(4, .int 0), (3, .int 0), (2, .int (σ.1 59)), (0, .ref (a 0)), (1, .int (L 1))]) hx hb dX12_setBrackets_8 hl (by decide) rfl (fun ls hl => ?_)
        refine lv_aload_n hx hb dX12_setBrackets_10 rfl (lv_at hl 3 rfl) ?_
        refine ng_16 hx hb hts in_x_setBrackets hown hK hP (hts _ (List.mem_cons_of_mem _ (List.mem_append_left _ (List.mem_append_left _ (List.mem_of_getElem? (i := 21) rfl))))) dX12_setBrackets_11 ?_
        refine lv_iload_n hx hb dX12_setBrackets_14 rfl (lv_at hl 4 rfl) ?_
        obtain ⟨q1, h⟩ := nb_ite1 h
        refine nl_6 hx hb hK hP q1 dX12_setBrackets_15 ?_
        refine lv_istore (lv' := [(5, .int (σ.2.2 6 ((L 1)).toNatClampNeg)), (4, .int 0), (3, .int 0), (2, .int (σ.1 59)), (0, .ref (a 0)), (1, .int (L 1))]) hx hb dX12_setBrackets_16 hl (by decide) rfl (fun ls hl => ?_)
        exact ih.2.1 (upd (upd (upd (upd L 2 ((σ.1 59))) 3 0) 4 0) 5 ((σ.2.2 6 ((L 1)).toNatClampNeg))) σ r h H locs ls hP hD hS (lv_sub hl [4, 5, 3, 2, 1, 0] rfl)
      · intro L σ r h H locs ls hP hD hS hl
        rw [x_GV_11, s_setBrackets_1] at h
        refine lv_iload hx hb dX12_setBrackets_18 (lv_at hl 5 rfl) ?_
        refine lv_iconst (v := (-1)) hx hb dX12_setBrackets_20 (by decide) ?_
        refine lv_icmp_eq (tgt := 190) hx hb dX12_setBrackets_21 (by decide) (fun c1 => ?_) (fun c1 => ?_)
        · rw [if_pos c1] at h
          exact ih.2.2.2.2.2.2.2.2.2.2.2.2.2.2.2.1 L σ r h H locs ls hP hD hS (lv_sub hl [0, 1, 2, 3, 4, 5] rfl)
        · rw [if_neg c1] at h
          refine lv_aload_n hx hb dX12_setBrackets_24 rfl (lv_at hl 0 rfl) ?_
          refine ng_56 hx hb hts in_x_setBrackets hown hK hP (hts _ (List.mem_cons_of_mem _ (List.mem_append_left _ (List.mem_append_left _ (List.mem_of_getElem? (i := 13) rfl))))) dX12_setBrackets_25 ?_
          refine lv_if_ne (tgt := 190) hx hb dX12_setBrackets_28 (by decide) (fun c2 => ?_) (fun c2 => ?_)
          · rw [if_neg c2] at h
            exact ih.2.2.2.2.2.2.2.2.2.2.2.2.2.2.2.1 L σ r h H locs ls hP hD hS (lv_sub hl [0, 1, 2, 3, 4, 5] rfl)
          · rw [if_pos c2] at h
            refine lv_aload_n hx hb dX12_setBrackets_31 rfl (lv_at hl 0 rfl) ?_
            refine lv_iload hx hb dX12_setBrackets_32 (lv_at hl 5 rfl) ?_
            obtain ⟨e3, he3, h⟩ := od_ex h
            obtain ⟨r3, hc3, h⟩ := ob_ex h
            refine nc_Vv (As := [.int (L 5)]) (rest := []) ⟨hx, hb, hml, hown, hts⟩ ((IH k (by omega)).2.2.2.2.1 e3 (upd (fun _ => 0) 1 ((L 5))) σ r3 hc3 H.size) (cwV 1 hts g_x_setBrackets_eval_566 rfl rfl rfl hd_x_eval (by show (57 + e3) + 1 ≤ 57 + d ∧ 8 + (3 + 11) + (1375 + 27 * e3) ≤ 1375 + 27 * d; omega)) hK hG hA hP hD hS rfl hl.1 rfl (Nat.le_of_ble_eq_true rfl) dX12_setBrackets_34 ⟨Nat.le_refl _, Nat.le_refl _⟩ (fun H locs hP hD hS => ?_)
            refine lv_aload_n hx hb dX12_setBrackets_37 rfl (lv_at hl 0 rfl) ?_
            refine ng_56 hx hb hts in_x_setBrackets hown hK hP (hts _ (List.mem_cons_of_mem _ (List.mem_append_left _ (List.mem_append_left _ (List.mem_of_getElem? (i := 13) rfl))))) dX12_setBrackets_38 ?_
            refine lv_if_ne (tgt := 58) hx hb dX12_setBrackets_41 (by decide) (fun c4 => ?_) (fun c4 => ?_)
            · rw [if_neg c4] at h
              exact ih.2.2.1 L r3.2 r h H locs ls hP hD hS (lv_sub hl [0, 1, 2, 3, 4, 5] rfl)
            · rw [if_pos c4] at h
              refine lv_aload_n hx hb dX12_setBrackets_44 rfl (lv_at hl 0 rfl) ?_
              refine ng_58 hx hb hts in_x_setBrackets hown hK hP (hts _ (List.mem_cons_of_mem _ (List.mem_append_left _ (List.mem_append_left _ (List.mem_of_getElem? (i := 87) rfl))))) dX12_setBrackets_45 ?_
              refine lv_aload_n hx hb dX12_setBrackets_48 rfl (lv_at hl 0 rfl) ?_
              refine ng_59 hx hb hts in_x_setBrackets hown hK hP (hts _ (List.mem_cons_of_mem _ (List.mem_append_left _ (List.mem_append_left _ (List.mem_of_getElem? (i := 76) rfl))))) dX12_setBrackets_49 ?_
              refine lv_iconst (v := 1) hx hb dX12_setBrackets_52 (by decide) ?_
              refine lv_isub hx hb dX12_setBrackets_53 ?_
              obtain ⟨q5, h⟩ := nb_ite1 h
              refine nl_29 hx hb hK hP q5 dX12_setBrackets_54 ?_
              refine lv_if_eq (tgt := 62) hx hb dX12_setBrackets_55 (by decide) (fun c6 => ?_) (fun c6 => ?_)
              · rw [if_pos c6] at h
                exact ih.2.2.2.1 L r3.2 r h H locs ls hP hD hS (lv_sub hl [0, 1, 2, 3, 4, 5] rfl)
              · rw [if_neg c6] at h
                exact ih.2.2.1 L r3.2 r h H locs ls hP hD hS (lv_sub hl [0, 1, 2, 3, 4, 5] rfl)
      · intro L σ r h H locs ls hP hD hS hl
        rw [x_GV_11, s_setBrackets_2] at h
        refine lv_iload_n hx hb dX12_setBrackets_58 rfl (lv_at hl 3 rfl) ?_
        refine lv_if_eq (tgt := 66) hx hb dX12_setBrackets_59 (by decide) (fun c1 => ?_) (fun c1 => ?_)
        · rw [if_pos c1] at h
          exact ih.2.2.2.2.1 L σ r h H locs ls hP hD hS (lv_sub hl [0, 1, 2, 3, 4, 5] rfl)
        · rw [if_neg c1] at h
          exact ih.2.2.2.1 L σ r h H locs ls hP hD hS (lv_sub hl [0, 1, 2, 3, 4, 5] rfl)
      · intro L σ r h H locs ls hP hD hS hl
        rw [x_GV_11, s_setBrackets_3] at h
        refine lv_iconst (v := 1) hx hb dX12_setBrackets_62 (by decide) ?_
        refine lv_goto (tgt := 67) hx hb dX12_setBrackets_63 (by decide) ?_
        exact ih.2.2.2.2.2.1 (upd L 100 1) σ r h H locs ls hP hD hS (lv_sub hl [0, 1, 2, 3, 4, 5] rfl)
      · intro L σ r h H locs ls hP hD hS hl
        rw [x_GV_11, s_setBrackets_4] at h
        refine lv_iconst (v := 0) hx hb dX12_setBrackets_66 (by decide) ?_
        exact ih.2.2.2.2.2.1 (upd L 100 0) σ r h H locs ls hP hD hS (lv_sub hl [0, 1, 2, 3, 4, 5] rfl)
      · intro L σ r h H locs ls hP hD hS hl
        rw [x_GV_11, s_setBrackets_5] at h
        refine lv_istore_n (lv' := [(3, .int (L 100)), (0, .ref (a 0)), (1, .int (L 1)), (2, .int (L 2)), (4, .int (L 4)), (5, .int (L 5))]) hx hb dX12_setBrackets_67 rfl hl (by decide) rfl (fun ls hl => ?_)
        refine lv_aload_n hx hb dX12_setBrackets_68 rfl (lv_at hl 1 rfl) ?_
        refine ng_56 hx hb hts in_x_setBrackets hown hK hP (hts _ (List.mem_cons_of_mem _ (List.mem_append_left _ (List.mem_append_left _ (List.mem_of_getElem? (i := 13) rfl))))) dX12_setBrackets_69 ?_
        refine lv_if_ne (tgt := 92) hx hb dX12_setBrackets_72 (by decide) (fun c1 => ?_) (fun c1 => ?_)
        · rw [if_neg c1] at h
          exact ih.2.2.2.2.2.2.2.1 (upd L 3 ((L 100))) σ r h H locs ls hP hD hS (lv_sub hl [1, 2, 3, 0, 4, 5] rfl)
        · rw [if_pos c1] at h
          refine lv_iload hx hb dX12_setBrackets_75 (lv_at hl 4 rfl) ?_
          refine lv_if_ne (tgt := 84) hx hb dX12_setBrackets_77 (by decide) (fun c2 => ?_) (fun c2 => ?_)
          · rw [if_neg c2] at h
            exact ih.2.2.2.2.2.2.1 (upd L 3 ((L 100))) σ r h H locs ls hP hD hS (lv_sub hl [1, 2, 3, 0, 4, 5] rfl)
          · rw [if_pos c2] at h
            refine lv_iload_n hx hb dX12_setBrackets_80 rfl (lv_at hl 0 rfl) ?_
            refine lv_if_eq (tgt := 92) hx hb dX12_setBrackets_81 (by decide) (fun c3 => ?_) (fun c3 => ?_)
            · rw [if_pos c3] at h
              exact ih.2.2.2.2.2.2.2.1 (upd L 3 ((L 100))) σ r h H locs ls hP hD hS (lv_sub hl [1, 2, 3, 0, 4, 5] rfl)
            · rw [if_neg c3] at h
              exact ih.2.2.2.2.2.2.1 (upd L 3 ((L 100))) σ r h H locs ls hP hD hS (lv_sub hl [1, 2, 3, 0, 4, 5] rfl)
      · intro L σ r h H locs ls hP hD hS hl
        rw [x_GV_11, s_setBrackets_6] at h
        refine lv_aload_n hx hb dX12_setBrackets_84 rfl (lv_at hl 0 rfl) ?_
        refine lv_iload_n hx hb dX12_setBrackets_85 rfl (lv_at hl 2 rfl) ?_
        refine np_59 hx hb hts in_x_setBrackets hown hK hP hD hS (hts _ (List.mem_cons_of_mem _ (List.mem_append_left _ (List.mem_append_left _ (List.mem_of_getElem? (i := 76) rfl))))) dX12_setBrackets_86 (fun H locs hP hD hS => ?_)
        refine lv_goto (tgt := 178) hx hb dX12_setBrackets_89 (by decide) ?_
        exact ih.2.2.2.2.2.2.2.2.2.2.2.2.2.2.1 L (upd σ.1 59 ((L 2)), σ.2.1, σ.2.2) r h H locs ls hP hD hS (lv_sub hl [0, 1, 2, 3, 4, 5] rfl)
      · intro L σ r h H locs ls hP hD hS hl
        rw [x_GV_11, s_setBrackets_7] at h
        refine lv_aload_n hx hb dX12_setBrackets_92 rfl (lv_at hl 0 rfl) ?_
        refine ng_59 hx hb hts in_x_setBrackets hown hK hP (hts _ (List.mem_cons_of_mem _ (List.mem_append_left _ (List.mem_append_left _ (List.mem_of_getElem? (i := 76) rfl))))) dX12_setBrackets_93 ?_
        refine lv_iload_n hx hb dX12_setBrackets_96 rfl (lv_at hl 2 rfl) ?_
        refine lv_isub hx hb dX12_setBrackets_97 ?_
        refine lv_sipush (v := 1200) hx hb dX12_setBrackets_98 (by decide) ?_
        refine lv_icmp_ne (tgt := 178) hx hb dX12_setBrackets_101 (by decide) (fun c1 => ?_) (fun c1 => ?_)
        · rw [if_neg c1] at h
          exact ih.2.2.2.2.2.2.2.2.2.2.2.2.2.2.1 L σ r h H locs ls hP hD hS (lv_sub hl [0, 1, 2, 3, 4, 5] rfl)
        · rw [if_pos c1] at h
          refine lv_aload_n hx hb dX12_setBrackets_104 rfl (lv_at hl 0 rfl) ?_
          refine lv_iload_n hx hb dX12_setBrackets_105 rfl (lv_at hl 2 rfl) ?_
          obtain ⟨r2, hc2, h⟩ := ob_ex h
          refine nc_Vv (As := [.int (L 2)]) (rest := []) ⟨hx, hb, hml, hown, hts⟩ (c_x_distinct l dC dI cy a k (upd (fun _ => 0) 1 ((L 2))) σ r2 hc2 H.size) (cwV 1 hts g_x_setBrackets_distinct_454 rfl rfl rfl hd_x_distinct (by show 44 + 1 ≤ 57 + d ∧ 8 + (5 + 11) + 1223 ≤ 1375 + 27 * d; omega)) hK hG hA hP hD hS rfl hl.1 rfl (Nat.le_of_ble_eq_true rfl) dX12_setBrackets_106 ⟨Nat.le_refl _, Nat.le_refl _⟩ (fun H locs hP hD hS => ?_)
          refine lv_iconst (v := 1) hx hb dX12_setBrackets_109 (by decide) ?_
          refine lv_istore (lv' := [(6, .int 1), (0, .ref (a 0)), (1, .int (L 1)), (2, .int (L 2)), (3, .int (L 3)), (4, .int (L 4)), (5, .int (L 5))]) hx hb dX12_setBrackets_110 hl (by decide) rfl (fun ls hl => ?_)
          refine lv_iload_n hx hb dX12_setBrackets_112 rfl (lv_at hl 3 rfl) ?_
          refine lv_istore (lv' := [(7, .int (L 2)), (6, .int 1), (0, .ref (a 0)), (1, .int (L 1)), (2, .int (L 2)), (3, .int (L 3)), (4, .int (L 4)), (5, .int (L 5))]) hx hb dX12_setBrackets_113 hl (by decide) rfl (fun ls hl => ?_)
          exact ih.2.2.2.2.2.2.2.2.1 (upd (upd L 6 1) 7 ((L 2))) r2.2 r h H locs ls hP hD hS (lv_sub hl [2, 3, 4, 5, 6, 7, 1, 0] rfl)
      · intro L σ r h H locs ls hP hD hS hl
        rw [x_GV_11, s_setBrackets_8] at h
        refine lv_iload hx hb dX12_setBrackets_115 (lv_at hl 7 rfl) ?_
        refine lv_aload_n hx hb dX12_setBrackets_117 rfl (lv_at hl 0 rfl) ?_
        refine ng_59 hx hb hts in_x_setBrackets hown hK hP (hts _ (List.mem_cons_of_mem _ (List.mem_append_left _ (List.mem_append_left _ (List.mem_of_getElem? (i := 76) rfl))))) dX12_setBrackets_118 ?_
        refine lv_icmp_ge (tgt := 146) hx hb dX12_setBrackets_121 (by decide) (fun c1 => ?_) (fun c1 => ?_)
        · rw [if_pos c1] at h
          exact ih.2.2.2.2.2.2.2.2.2.1 L σ r h H locs ls hP hD hS (lv_sub hl [0, 1, 2, 3, 4, 5, 6, 7] rfl)
        · rw [if_neg c1] at h
          refine lv_iload hx hb dX12_setBrackets_124 (lv_at hl 6 rfl) ?_
          refine lv_aload_n hx hb dX12_setBrackets_126 rfl (lv_at hl 0 rfl) ?_
          refine lv_aload_n hx hb dX12_setBrackets_127 rfl (lv_at hl 0 rfl) ?_
          refine ng_58 hx hb hts in_x_setBrackets hown hK hP (hts _ (List.mem_cons_of_mem _ (List.mem_append_left _ (List.mem_append_left _ (List.mem_of_getElem? (i := 87) rfl))))) dX12_setBrackets_128 ?_
          refine lv_iload hx hb dX12_setBrackets_131 (lv_at hl 7 rfl) ?_
          obtain ⟨q2, h⟩ := nb_ite1 h
          refine nl_29 hx hb hK hP q2 dX12_setBrackets_133 ?_
          obtain ⟨r3, hc3, h⟩ := ob_ex h
          refine nc_Vi (As := [.int (σ.2.2 29 ((L 7)).toNatClampNeg)]) (rest := [.int (L 6)]) ⟨hx, hb, hml, hown, hts⟩ (c_x_size l dC dI cy a k (upd (fun _ => 0) 1 ((σ.2.2 29 ((L 7)).toNatClampNeg))) σ r3 hc3 H.size) (cwV 1 hts g_x_setBrackets_size_432 rfl rfl rfl hd_x_size (by show 0 + 1 ≤ 57 + d ∧ 8 + (2 + 11) + 0 ≤ 1375 + 27 * d; omega)) hK hG hA hP hD hS rfl hl.1 rfl (Nat.le_of_ble_eq_true rfl) dX12_setBrackets_134 ⟨Nat.le_refl _, Nat.le_refl _⟩ (fun H locs hP hD hS => ?_)
          refine lv_iadd hx hb dX12_setBrackets_137 ?_
          refine lv_istore (lv' := [(6, .int (((L 6)) + r3.1)), (0, .ref (a 0)), (1, .int (L 1)), (2, .int (L 2)), (3, .int (L 3)), (4, .int (L 4)), (5, .int (L 5)), (7, .int (L 7))]) hx hb dX12_setBrackets_138 hl (by decide) rfl (fun ls hl => ?_)
          refine lv_iinc (v := ((L 7)) + 1) (lv' := [(7, .int (((L 7)) + 1)), (6, .int (((L 6)) + r3.1)), (0, .ref (a 0)), (1, .int (L 1)), (2, .int (L 2)), (3, .int (L 3)), (4, .int (L 4)), (5, .int (L 5))]) hx hb dX12_setBrackets_140 hl (k := 7) rfl rfl (by decide) rfl (fun ls hl => ?_)
          refine lv_goto (tgt := 115) hx hb dX12_setBrackets_143 (by decide) ?_
          exact ih.2.2.2.2.2.2.2.2.1 (upd (upd L 6 ((((L 6)) + r3.1))) 7 (((L 7)) + 1)) r3.2 r h H locs ls hP hD hS (lv_sub hl [2, 3, 4, 5, 6, 7, 1, 0] rfl)
      · intro L σ r h H locs ls hP hD hS hl
        rw [x_GV_11, s_setBrackets_9] at h
        refine lv_iload hx hb dX12_setBrackets_146 (lv_at hl 6 rfl) ?_
        refine lv_sipush (v := 1000) hx hb dX12_setBrackets_148 (by decide) ?_
        refine lv_icmp_le (tgt := 158) hx hb dX12_setBrackets_151 (by decide) (fun c1 => ?_) (fun c1 => ?_)
        · rw [if_pos c1] at h
          exact ih.2.2.2.2.2.2.2.2.2.2.1 L σ r h H locs ls hP hD hS (lv_sub hl [0, 1, 2, 3, 4, 5, 6, 7] rfl)
        · rw [if_neg c1] at h
          refine lv_iconst (v := 1) hx hb dX12_setBrackets_154 (by decide) ?_
          refine lv_goto (tgt := 159) hx hb dX12_setBrackets_155 (by decide) ?_
          exact ih.2.2.2.2.2.2.2.2.2.2.2.1 (upd L 100 1) σ r h H locs ls hP hD hS (lv_sub hl [0, 1, 2, 3, 4, 5, 6, 7] rfl)
      · intro L σ r h H locs ls hP hD hS hl
        rw [x_GV_11, s_setBrackets_10] at h
        refine lv_iconst (v := 0) hx hb dX12_setBrackets_158 (by decide) ?_
        exact ih.2.2.2.2.2.2.2.2.2.2.2.1 (upd L 100 0) σ r h H locs ls hP hD hS (lv_sub hl [0, 1, 2, 3, 4, 5, 6, 7] rfl)
      · intro L σ r h H locs ls hP hD hS hl
        rw [x_GV_11, s_setBrackets_11] at h
        refine lv_istore (lv' := [(4, .int (L 100)), (0, .ref (a 0)), (1, .int (L 1)), (2, .int (L 2)), (3, .int (L 3)), (5, .int (L 5)), (6, .int (L 6)), (7, .int (L 7))]) hx hb dX12_setBrackets_159 hl (by decide) rfl (fun ls hl => ?_)
        refine lv_aload_n hx hb dX12_setBrackets_161 rfl (lv_at hl 1 rfl) ?_
        refine lv_iload hx hb dX12_setBrackets_162 (lv_at hl 0 rfl) ?_
        refine lv_if_eq (tgt := 171) hx hb dX12_setBrackets_164 (by decide) (fun c1 => ?_) (fun c1 => ?_)
        · rw [if_pos c1] at h
          exact ih.2.2.2.2.2.2.2.2.2.2.2.2.1 (upd L 4 ((L 100))) σ r h H locs ls hP hD hS (lv_sub hl [1, 2, 3, 4, 0, 5, 6, 7] rfl)
        · rw [if_neg c1] at h
          refine lv_iload_n hx hb dX12_setBrackets_167 rfl (lv_at hl 3 rfl) ?_
          refine lv_goto (tgt := 175) hx hb dX12_setBrackets_168 (by decide) ?_
          exact ih.2.2.2.2.2.2.2.2.2.2.2.2.2.1 (upd (upd L 4 ((L 100))) 100 ((L 2))) σ r h H locs ls hP hD hS (lv_sub hl [1, 2, 3, 4, 0, 5, 6, 7] rfl)
      · intro L σ r h H locs ls hP hD hS hl
        rw [x_GV_11, s_setBrackets_12] at h
        refine lv_aload_n hx hb dX12_setBrackets_171 rfl (lv_at hl 0 rfl) ?_
        refine ng_59 hx hb hts in_x_setBrackets hown hK hP (hts _ (List.mem_cons_of_mem _ (List.mem_append_left _ (List.mem_append_left _ (List.mem_of_getElem? (i := 76) rfl))))) dX12_setBrackets_172 ?_
        exact ih.2.2.2.2.2.2.2.2.2.2.2.2.2.1 (upd L 100 ((σ.1 59))) σ r h H locs ls hP hD hS (lv_sub hl [0, 1, 2, 3, 4, 5, 6, 7] rfl)
      · intro L σ r h H locs ls hP hD hS hl
        rw [x_GV_11, s_setBrackets_13] at h
        refine np_59 hx hb hts in_x_setBrackets hown hK hP hD hS (hts _ (List.mem_cons_of_mem _ (List.mem_append_left _ (List.mem_append_left _ (List.mem_of_getElem? (i := 76) rfl))))) dX12_setBrackets_175 (fun H locs hP hD hS => ?_)
        exact ih.2.2.2.2.2.2.2.2.2.2.2.2.2.2.1 L (upd σ.1 59 ((L 100)), σ.2.1, σ.2.2) r h H locs ls hP hD hS (lv_sub hl [0, 1, 2, 3, 4, 5] rfl)
      · intro L σ r h H locs ls hP hD hS hl
        rw [x_GV_11, s_setBrackets_14] at h
        refine lv_aload_n hx hb dX12_setBrackets_178 rfl (lv_at hl 0 rfl) ?_
        refine ng_19 hx hb hts in_x_setBrackets hown hK hP (hts _ (List.mem_cons_of_mem _ (List.mem_append_left _ (List.mem_append_left _ (List.mem_of_getElem? (i := 77) rfl))))) dX12_setBrackets_179 ?_
        refine lv_iload hx hb dX12_setBrackets_182 (lv_at hl 5 rfl) ?_
        obtain ⟨q1, h⟩ := nb_ite1 h
        refine nl_9 hx hb hK hP q1 dX12_setBrackets_184 ?_
        refine lv_istore (lv' := [(5, .int (σ.2.2 9 ((L 5)).toNatClampNeg)), (0, .ref (a 0)), (1, .int (L 1)), (2, .int (L 2)), (3, .int (L 3)), (4, .int (L 4))]) hx hb dX12_setBrackets_185 hl (by decide) rfl (fun ls hl => ?_)
        refine lv_goto (tgt := 18) hx hb dX12_setBrackets_187 (by decide) ?_
        exact ih.2.1 (upd L 5 ((σ.2.2 9 ((L 5)).toNatClampNeg))) σ r h H locs ls hP hD hS (lv_sub hl [1, 2, 3, 4, 5, 0] rfl)
      · intro L σ r h H locs ls hP hD hS hl
        rw [x_GV_11, s_setBrackets_15] at h
        refine lv_aload_n hx hb dX12_setBrackets_190 rfl (lv_at hl 0 rfl) ?_
        refine ng_56 hx hb hts in_x_setBrackets hown hK hP (hts _ (List.mem_cons_of_mem _ (List.mem_append_left _ (List.mem_append_left _ (List.mem_of_getElem? (i := 13) rfl))))) dX12_setBrackets_191 ?_
        refine lv_if_ne (tgt := 209) hx hb dX12_setBrackets_194 (by decide) (fun c1 => ?_) (fun c1 => ?_)
        · rw [if_neg c1] at h
          exact ih.2.2.2.2.2.2.2.2.2.2.2.2.2.2.2.2.1 L σ r h H locs ls hP hD hS (lv_sub hl [0, 1, 2, 3, 4, 5] rfl)
        · rw [if_pos c1] at h
          refine lv_iload_n hx hb dX12_setBrackets_197 rfl (lv_at hl 3 rfl) ?_
          refine lv_if_eq (tgt := 209) hx hb dX12_setBrackets_198 (by decide) (fun c2 => ?_) (fun c2 => ?_)
          · rw [if_pos c2] at h
            exact ih.2.2.2.2.2.2.2.2.2.2.2.2.2.2.2.2.1 L σ r h H locs ls hP hD hS (lv_sub hl [0, 1, 2, 3, 4, 5] rfl)
          · rw [if_neg c2] at h
            refine lv_aload_n hx hb dX12_setBrackets_201 rfl (lv_at hl 0 rfl) ?_
            refine lv_iconst (v := 3) hx hb dX12_setBrackets_202 (by decide) ?_
            obtain ⟨r3, hc3, h⟩ := ob_ex h
            refine nc_Vv (As := [.int 3]) (rest := []) ⟨hx, hb, hml, hown, hts⟩ (c_x_fail l dC dI cy a k (upd (fun _ => 0) 1 3) σ r3 hc3 H.size) (cwV 1 hts g_x_setBrackets_fail_369 rfl rfl rfl hd_x_fail (by show 0 + 1 ≤ 57 + d ∧ 8 + (2 + 11) + 0 ≤ 1375 + 27 * d; omega)) hK hG hA hP hD hS rfl hl.1 rfl (Nat.le_of_ble_eq_true rfl) dX12_setBrackets_203 ⟨Nat.le_refl _, Nat.le_refl _⟩ (fun H locs hP hD hS => ?_)
            refine lv_goto (tgt := 226) hx hb dX12_setBrackets_206 (by decide) ?_
            exact ih.2.2.2.2.2.2.2.2.2.2.2.2.2.2.2.2.2.1 L r3.2 r h H locs ls hP hD hS (lv_sub hl [0, 1, 2, 3, 4, 5] rfl)
      · intro L σ r h H locs ls hP hD hS hl
        rw [x_GV_11, s_setBrackets_16] at h
        refine lv_aload_n hx hb dX12_setBrackets_209 rfl (lv_at hl 0 rfl) ?_
        refine ng_56 hx hb hts in_x_setBrackets hown hK hP (hts _ (List.mem_cons_of_mem _ (List.mem_append_left _ (List.mem_append_left _ (List.mem_of_getElem? (i := 13) rfl))))) dX12_setBrackets_210 ?_
        refine lv_if_ne (tgt := 226) hx hb dX12_setBrackets_213 (by decide) (fun c1 => ?_) (fun c1 => ?_)
        · rw [if_neg c1] at h
          exact ih.2.2.2.2.2.2.2.2.2.2.2.2.2.2.2.2.2.1 L σ r h H locs ls hP hD hS (lv_sub hl [0, 1, 2, 3, 4, 5] rfl)
        · rw [if_pos c1] at h
          refine lv_iload hx hb dX12_setBrackets_216 (lv_at hl 4 rfl) ?_
          refine lv_if_eq (tgt := 226) hx hb dX12_setBrackets_218 (by decide) (fun c2 => ?_) (fun c2 => ?_)
          · rw [if_pos c2] at h
            exact ih.2.2.2.2.2.2.2.2.2.2.2.2.2.2.2.2.2.1 L σ r h H locs ls hP hD hS (lv_sub hl [0, 1, 2, 3, 4, 5] rfl)
          · rw [if_neg c2] at h
            refine lv_aload_n hx hb dX12_setBrackets_221 rfl (lv_at hl 0 rfl) ?_
            refine lv_iconst (v := 5) hx hb dX12_setBrackets_222 (by decide) ?_
            obtain ⟨r3, hc3, h⟩ := ob_ex h
            refine nc_Vv (As := [.int 5]) (rest := []) ⟨hx, hb, hml, hown, hts⟩ (c_x_fail l dC dI cy a k (upd (fun _ => 0) 1 5) σ r3 hc3 H.size) (cwV 1 hts g_x_setBrackets_fail_369 rfl rfl rfl hd_x_fail (by show 0 + 1 ≤ 57 + d ∧ 8 + (2 + 11) + 0 ≤ 1375 + 27 * d; omega)) hK hG hA hP hD hS rfl hl.1 rfl (Nat.le_of_ble_eq_true rfl) dX12_setBrackets_223 ⟨Nat.le_refl _, Nat.le_refl _⟩ (fun H locs hP hD hS => ?_)
            exact ih.2.2.2.2.2.2.2.2.2.2.2.2.2.2.2.2.2.1 L r3.2 r h H locs ls hP hD hS (lv_sub hl [0, 1, 2, 3, 4, 5] rfl)
      · intro L σ r h H locs ls hP hD hS hl
        rw [x_GV_11, s_setBrackets_17] at h
        refine lv_aload_n hx hb dX12_setBrackets_226 rfl (lv_at hl 0 rfl) ?_
        refine ng_56 hx hb hts in_x_setBrackets hown hK hP (hts _ (List.mem_cons_of_mem _ (List.mem_append_left _ (List.mem_append_left _ (List.mem_of_getElem? (i := 13) rfl))))) dX12_setBrackets_227 ?_
        refine lv_if_ne (tgt := 253) hx hb dX12_setBrackets_230 (by decide) (fun c1 => ?_) (fun c1 => ?_)
        · rw [if_neg c1] at h
          exact ih.2.2.2.2.2.2.2.2.2.2.2.2.2.2.2.2.2.2 L σ r h H locs ls hP hD hS (lv_sub hl [0, 1, 2, 3, 4, 5] rfl)
        · rw [if_pos c1] at h
          refine lv_aload_n hx hb dX12_setBrackets_233 rfl (lv_at hl 0 rfl) ?_
          refine lv_ldcw (v := 780000) hx hb hown (hts _ (List.mem_cons_of_mem _ (List.mem_append_left _ (List.mem_append_left _ (List.mem_of_getElem? (i := 15) rfl))))) dX12_setBrackets_234 ?_
          obtain ⟨r2, hc2, h⟩ := ob_ex h
          refine nc_Vv (As := [.int 780000]) (rest := []) ⟨hx, hb, hml, hown, hts⟩ (c_x_sweep l dC dI cy a k (upd (fun _ => 0) 1 780000) σ r2 hc2 H.size) (cwV 1 hts g_x_setBrackets_sweep_585 rfl rfl rfl hd_x_sweep (by show 3 + 1 ≤ 57 + d ∧ 8 + (5 + 11) + 70 ≤ 1375 + 27 * d; omega)) hK hG hA hP hD hS rfl hl.1 rfl (Nat.le_of_ble_eq_true rfl) dX12_setBrackets_237 ⟨Nat.le_refl _, Nat.le_refl _⟩ (fun H locs hP hD hS => ?_)
          refine lv_aload_n hx hb dX12_setBrackets_240 rfl (lv_at hl 0 rfl) ?_
          refine lv_aload_n hx hb dX12_setBrackets_241 rfl (lv_at hl 0 rfl) ?_
          refine lv_aload_n hx hb dX12_setBrackets_242 rfl (lv_at hl 0 rfl) ?_
          refine lv_iload_n hx hb dX12_setBrackets_243 rfl (lv_at hl 2 rfl) ?_
          obtain ⟨r3, hc3, h⟩ := ob_ex h
          refine nc_Vi (As := [.int (L 2)]) (rest := [.ref (a 0), .ref (a 0)]) ⟨hx, hb, hml, hown, hts⟩ (c_x_setOf l dC dI cy a k (upd (fun _ => 0) 1 ((L 2))) r2.2 r3 hc3 H.size) (cwV 1 hts g_x_setBrackets_setOf_678 rfl rfl rfl hd_x_setOf (by show 45 + 1 ≤ 57 + d ∧ 8 + (5 + 11) + 1247 ≤ 1375 + 27 * d; omega)) hK hG hA hP hD hS rfl hl.1 rfl (Nat.le_of_ble_eq_true rfl) dX12_setBrackets_244 ⟨Nat.le_refl _, Nat.le_refl _⟩ (fun H locs hP hD hS => ?_)
          obtain ⟨r4, hc4, h⟩ := ob_ex h
          refine nc_Vi (As := [.int r3.1]) (rest := [.ref (a 0)]) ⟨hx, hb, hml, hown, hts⟩ (c_x_answer l dC dI cy a k (upd (fun _ => 0) 1 r3.1) r3.2 r4 hc4 H.size) (cwV 1 hts g_x_setBrackets_answer_591 rfl rfl rfl hd_x_answer (by show 2 + 1 ≤ 57 + d ∧ 8 + (2 + 11) + 42 ≤ 1375 + 27 * d; omega)) hK hG hA hP hD hS rfl hl.1 rfl (Nat.le_of_ble_eq_true rfl) dX12_setBrackets_247 ⟨Nat.le_refl _, Nat.le_refl _⟩ (fun H locs hP hD hS => ?_)
          obtain ⟨r5, hc5, h⟩ := ob_ex h
          refine nc_Vv (As := [.int r4.1]) (rest := []) ⟨hx, hb, hml, hown, hts⟩ (c_x_push l dC dI cy a k (upd (fun _ => 0) 1 r4.1) r4.2 r5 hc5 H.size) (cwV 1 hts g_x_setBrackets_push_594 rfl rfl rfl hd_x_push (by show 0 + 1 ≤ 57 + d ∧ 8 + (2 + 11) + 0 ≤ 1375 + 27 * d; omega)) hK hG hA hP hD hS rfl hl.1 rfl (Nat.le_of_ble_eq_true rfl) dX12_setBrackets_250 ⟨Nat.le_refl _, Nat.le_refl _⟩ (fun H locs hP hD hS => ?_)
          exact ih.2.2.2.2.2.2.2.2.2.2.2.2.2.2.2.2.2.2 L r5.2 r h H locs ls hP hD hS (lv_sub hl [0, 1, 2, 3, 4, 5] rfl)
      · intro L σ r h H locs ls hP hD hS hl
        rw [x_GV_11, s_setBrackets_18] at h
        cases h
        exact W.vret hx hb hr (fun t ht hW => ⟨⟨(), rfl, trivial, by rw [ht]; exact hP, va_K.moved hW.alike hK, hD⟩, hS.F ht⟩) hS.2.2 dX12_setBrackets_253
  exact (blk k0 (Nat.le_refl _)).1 L0 σ0 r0 h0 s.heap [] ls hP hD hS hl
