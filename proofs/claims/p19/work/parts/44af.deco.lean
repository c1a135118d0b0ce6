theorem gg_x_primary_brackets : GoodIn w_x_primary w_x_brackets := goodIn_sub (fun w h => (List.mem_cons.mp h).elim (fun e => e ▸ (List.mem_cons_of_mem _ (List.mem_append_left _ (List.mem_append_left _ (List.mem_of_getElem? (i := 0) rfl))))) (fun h => List.mem_cons_of_mem _ h)) w_x_brackets_good
theorem g_x_primary_brackets_215 : GoodIn w_x_primary (wsV RX12 215 RX12 yX12_brackets w_x_brackets) := goodIn_app (nb_g4 (List.mem_cons_of_mem _ (List.mem_append_left _ (List.mem_append_left _ (List.mem_of_getElem? (i := 121) rfl)))) (List.mem_cons_of_mem _ (List.mem_append_left _ (List.mem_append_left _ (List.mem_of_getElem? (i := 122) rfl)))) (List.mem_cons_of_mem _ (List.mem_append_left _ (List.mem_append_left _ (List.mem_of_getElem? (i := 123) rfl)))) (List.mem_cons_of_mem _ (List.mem_append_left _ (List.mem_append_left _ (List.mem_of_getElem? (i := 20) rfl)))) (by decide +kernel)) gg_x_primary_brackets
theorem gg_x_primary_cannot : GoodIn w_x_primary w_x_cannot := goodIn_sub (fun w h => (List.mem_cons.mp h).elim (fun e => (List.mem_cons_of_mem _ (List.mem_append_left _ (List.mem_append_right _ (List.mem_append_right _ (List.mem_append_right _ (List.mem_append_right _ (List.mem_append_right _ (List.mem_append_right _ (List.mem_append_right _ (List.mem_append_right _ (List.mem_append_right _ (List.mem_append_right _ (List.mem_append_right _ (List.mem_append_right _ (List.mem_append_right _ (List.mem_append_right _ (List.mem_append_right _ (List.mem_append_left _ (List.mem_cons.mpr (Or.inl e))))))))))))))))))))) (fun h => (List.mem_append.mp h).elim (fun h => (List.mem_cons_of_mem _ (List.mem_append_left _ (List.mem_append_right _ (List.mem_append_right _ (List.mem_append_right _ (List.mem_append_right _ (List.mem_append_right _ (List.mem_append_right _ (List.mem_append_right _ (List.mem_append_right _ (List.mem_append_right _ (List.mem_append_right _ (List.mem_append_right _ (List.mem_append_right _ (List.mem_append_right _ (List.mem_append_right _ (List.mem_append_right _ (List.mem_append_left _ (List.mem_cons_of_mem _ h)))))))))))))))))))) (fun h => List.mem_cons_of_mem _ (List.mem_append_right _ h)))) w_x_cannot_good
theorem g_x_primary_cannot_68 : GoodIn w_x_primary (wsV RX12 68 RX12 yX12_cannot w_x_cannot) := goodIn_app (nb_g4 (List.mem_cons_of_mem _ (List.mem_append_left _ (List.mem_append_left _ (List.mem_of_getElem? (i := 90) rfl)))) (List.mem_cons_of_mem _ (List.mem_append_left _ (List.mem_append_left _ (List.mem_of_getElem? (i := 91) rfl)))) (List.mem_cons_of_mem _ (List.mem_append_left _ (List.mem_append_left _ (List.mem_of_getElem? (i := 92) rfl)))) (List.mem_cons_of_mem _ (List.mem_append_left _ (List.mem_append_left _ (List.mem_of_getElem? (i := 20) rfl)))) (by decide +kernel)) gg_x_primary_cannot
theorem gg_x_primary_exp : GoodIn w_x_primary w_x_exp := goodIn_sub (fun w h => (List.mem_cons.mp h).elim (fun e => e ▸ (List.mem_cons_of_mem _ (List.mem_append_left _ (List.mem_append_left _ (List.mem_of_getElem? (i := 3) rfl))))) (fun h => List.mem_cons_of_mem _ h)) w_x_exp_good
theorem g_x_primary_exp_209 : GoodIn w_x_primary (wsV RX12 209 RX12 yX12_exp w_x_exp) := goodIn_app (nb_g4 (List.mem_cons_of_mem _ (List.mem_append_left _ (List.mem_append_left _ (List.mem_of_getElem? (i := 38) rfl)))) (List.mem_cons_of_mem _ (List.mem_append_left _ (List.mem_append_left _ (List.mem_of_getElem? (i := 39) rfl)))) (List.mem_cons_of_mem _ (List.mem_append_left _ (List.mem_append_left _ (List.mem_of_getElem? (i := 40) rfl)))) (List.mem_cons_of_mem _ (List.mem_append_left _ (List.mem_append_left _ (List.mem_of_getElem? (i := 20) rfl)))) (by decide +kernel)) gg_x_primary_exp
theorem gg_x_primary_isSign : GoodIn w_x_primary w_x_isSign := goodIn_sub (fun w h => (List.mem_cons.mp h).elim (fun e => (List.mem_cons_of_mem _ (List.mem_append_left _ (List.mem_append_right _ (List.mem_append_left _ (List.mem_cons.mpr (Or.inl e))))))) (fun h => (List.mem_append.mp h).elim (fun h => (List.mem_cons_of_mem _ (List.mem_append_left _ (List.mem_append_right _ (List.mem_append_left _ (List.mem_cons_of_mem _ h)))))) (fun h => List.mem_cons_of_mem _ (List.mem_append_right _ h)))) w_x_isSign_good
theorem g_x_primary_isSign_65 : GoodIn w_x_primary (wsV RX12 65 RX12 yX12_isSign w_x_isSign) := goodIn_app (nb_g4 (List.mem_cons_of_mem _ (List.mem_append_left _ (List.mem_append_left _ (List.mem_of_getElem? (i := 17) rfl)))) (List.mem_cons_of_mem _ (List.mem_append_left _ (List.mem_append_left _ (List.mem_of_getElem? (i := 18) rfl)))) (List.mem_cons_of_mem _ (List.mem_append_left _ (List.mem_append_left _ (List.mem_of_getElem? (i := 19) rfl)))) (List.mem_cons_of_mem _ (List.mem_append_left _ (List.mem_append_left _ (List.mem_of_getElem? (i := 20) rfl)))) (by decide +kernel)) gg_x_primary_isSign
theorem gg_x_primary_keep : GoodIn w_x_primary w_x_keep := goodIn_sub (fun w h => (List.mem_cons.mp h).elim (fun e => (List.mem_cons_of_mem _ (List.mem_append_left _ (List.mem_append_right _ (List.mem_append_right _ (List.mem_append_right _ (List.mem_append_right _ (List.mem_append_right _ (List.mem_append_right _ (List.mem_append_right _ (List.mem_append_right _ (List.mem_append_right _ (List.mem_append_right _ (List.mem_append_right _ (List.mem_append_right _ (List.mem_append_right _ (List.mem_append_right _ (List.mem_append_right _ (List.mem_append_right _ (List.mem_append_right _ (List.mem_append_left _ (List.mem_cons.mpr (Or.inl e))))))))))))))))))))))) (fun h => (List.mem_append.mp h).elim (fun h => (List.mem_cons_of_mem _ (List.mem_append_left _ (List.mem_append_right _ (List.mem_append_right _ (List.mem_append_right _ (List.mem_append_right _ (List.mem_append_right _ (List.mem_append_right _ (List.mem_append_right _ (List.mem_append_right _ (List.mem_append_right _ (List.mem_append_right _ (List.mem_append_right _ (List.mem_append_right _ (List.mem_append_right _ (List.mem_append_right _ (List.mem_append_right _ (List.mem_append_right _ (List.mem_append_right _ (List.mem_append_left _ (List.mem_cons_of_mem _ h)))))))))))))))))))))) (fun h => List.mem_cons_of_mem _ (List.mem_append_right _ h)))) w_x_keep_good
theorem g_x_primary_keep_154 : GoodIn w_x_primary (wsV RX12 154 RX12 yX12_keep w_x_keep) := goodIn_app (nb_g4 (List.mem_cons_of_mem _ (List.mem_append_left _ (List.mem_append_left _ (List.mem_of_getElem? (i := 115) rfl)))) (List.mem_cons_of_mem _ (List.mem_append_left _ (List.mem_append_left _ (List.mem_of_getElem? (i := 116) rfl)))) (List.mem_cons_of_mem _ (List.mem_append_left _ (List.mem_append_left _ (List.mem_of_getElem? (i := 117) rfl)))) (List.mem_cons_of_mem _ (List.mem_append_left _ (List.mem_append_left _ (List.mem_of_getElem? (i := 20) rfl)))) (by decide +kernel)) gg_x_primary_keep
theorem gg_x_primary_name : GoodIn w_x_primary w_x_name := goodIn_sub (fun w h => (List.mem_cons.mp h).elim (fun e => e ▸ (List.mem_cons_of_mem _ (List.mem_append_left _ (List.mem_append_left _ (List.mem_of_getElem? (i := 6) rfl))))) (fun h => List.mem_cons_of_mem _ h)) w_x_name_good
theorem g_x_primary_name_212 : GoodIn w_x_primary (wsV RX12 212 RX12 yX12_name w_x_name) := goodIn_app (nb_g4 (List.mem_cons_of_mem _ (List.mem_append_left _ (List.mem_append_left _ (List.mem_of_getElem? (i := 118) rfl)))) (List.mem_cons_of_mem _ (List.mem_append_left _ (List.mem_append_left _ (List.mem_of_getElem? (i := 119) rfl)))) (List.mem_cons_of_mem _ (List.mem_append_left _ (List.mem_append_left _ (List.mem_of_getElem? (i := 120) rfl)))) (List.mem_cons_of_mem _ (List.mem_append_left _ (List.mem_append_left _ (List.mem_of_getElem? (i := 20) rfl)))) (by decide +kernel)) gg_x_primary_name
theorem gg_x_primary_node : GoodIn w_x_primary w_x_node := goodIn_sub (fun w h => (List.mem_cons.mp h).elim (fun e => (List.mem_cons_of_mem _ (List.mem_append_left _ (List.mem_append_right _ (List.mem_append_right _ (List.mem_append_right _ (List.mem_append_right _ (List.mem_append_left _ (List.mem_cons.mpr (Or.inl e)))))))))) (fun h => (List.mem_append.mp h).elim (fun h => (List.mem_cons_of_mem _ (List.mem_append_left _ (List.mem_append_right _ (List.mem_append_right _ (List.mem_append_right _ (List.mem_append_right _ (List.mem_append_left _ (List.mem_cons_of_mem _ h))))))))) (fun h => List.mem_cons_of_mem _ (List.mem_append_right _ h)))) w_x_node_good
theorem g_x_primary_node_101 : GoodIn w_x_primary (wsV RX12 101 RX12 yX12_node w_x_node) := goodIn_app (nb_g4 (List.mem_cons_of_mem _ (List.mem_append_left _ (List.mem_append_left _ (List.mem_of_getElem? (i := 28) rfl)))) (List.mem_cons_of_mem _ (List.mem_append_left _ (List.mem_append_left _ (List.mem_of_getElem? (i := 29) rfl)))) (List.mem_cons_of_mem _ (List.mem_append_left _ (List.mem_append_left _ (List.mem_of_getElem? (i := 30) rfl)))) (List.mem_cons_of_mem _ (List.mem_append_left _ (List.mem_append_left _ (List.mem_of_getElem? (i := 20) rfl)))) (by decide +kernel)) gg_x_primary_node
theorem gg_x_primary_open : GoodIn w_x_primary w_x_open := goodIn_sub (fun w h => (List.mem_cons.mp h).elim (fun e => (List.mem_cons_of_mem _ (List.mem_append_left _ (List.mem_append_right _ (List.mem_append_right _ (List.mem_append_left _ (List.mem_cons.mpr (Or.inl e)))))))) (fun h => (List.mem_append.mp h).elim (fun h => (List.mem_cons_of_mem _ (List.mem_append_left _ (List.mem_append_right _ (List.mem_append_right _ (List.mem_append_left _ (List.mem_cons_of_mem _ h))))))) (fun h => List.mem_cons_of_mem _ (List.mem_append_right _ h)))) w_x_open_good
theorem g_x_primary_open_177 : GoodIn w_x_primary (wsV RX12 177 RX12 yX12_open w_x_open) := goodIn_app (nb_g4 (List.mem_cons_of_mem _ (List.mem_append_left _ (List.mem_append_left _ (List.mem_of_getElem? (i := 21) rfl)))) (List.mem_cons_of_mem _ (List.mem_append_left _ (List.mem_append_left _ (List.mem_of_getElem? (i := 22) rfl)))) (List.mem_cons_of_mem _ (List.mem_append_left _ (List.mem_append_left _ (List.mem_of_getElem? (i := 23) rfl)))) (List.mem_cons_of_mem _ (List.mem_append_left _ (List.mem_append_left _ (List.mem_of_getElem? (i := 20) rfl)))) (by decide +kernel)) gg_x_primary_open
theorem gg_x_primary_over : GoodIn w_x_primary w_x_over := goodIn_sub (fun w h => (List.mem_cons.mp h).elim (fun e => (List.mem_cons_of_mem _ (List.mem_append_left _ (List.mem_append_right _ (List.mem_append_right _ (List.mem_append_right _ (List.mem_append_right _ (List.mem_append_right _ (List.mem_append_right _ (List.mem_append_right _ (List.mem_append_right _ (List.mem_append_right _ (List.mem_append_left _ (List.mem_cons.mpr (Or.inl e))))))))))))))) (fun h => (List.mem_append.mp h).elim (fun h => (List.mem_cons_of_mem _ (List.mem_append_left _ (List.mem_append_right _ (List.mem_append_right _ (List.mem_append_right _ (List.mem_append_right _ (List.mem_append_right _ (List.mem_append_right _ (List.mem_append_right _ (List.mem_append_right _ (List.mem_append_right _ (List.mem_append_left _ (List.mem_cons_of_mem _ h)))))))))))))) (fun h => List.mem_cons_of_mem _ (List.mem_append_right _ h)))) w_x_over_good
theorem g_x_primary_over_168 : GoodIn w_x_primary (wsV RX12 168 RX12 yX12_over w_x_over) := goodIn_app (nb_g4 (List.mem_cons_of_mem _ (List.mem_append_left _ (List.mem_append_left _ (List.mem_of_getElem? (i := 58) rfl)))) (List.mem_cons_of_mem _ (List.mem_append_left _ (List.mem_append_left _ (List.mem_of_getElem? (i := 59) rfl)))) (List.mem_cons_of_mem _ (List.mem_append_left _ (List.mem_append_left _ (List.mem_of_getElem? (i := 60) rfl)))) (List.mem_cons_of_mem _ (List.mem_append_left _ (List.mem_append_left _ (List.mem_of_getElem? (i := 20) rfl)))) (by decide +kernel)) gg_x_primary_over
theorem gg_x_primary_take : GoodIn w_x_primary w_x_take := goodIn_sub (fun w h => (List.mem_cons.mp h).elim (fun e => (List.mem_cons_of_mem _ (List.mem_append_left _ (List.mem_append_right _ (List.mem_append_right _ (List.mem_append_right _ (List.mem_append_left _ (List.mem_cons.mpr (Or.inl e))))))))) (fun h => (List.mem_append.mp h).elim (fun h => (List.mem_cons_of_mem _ (List.mem_append_left _ (List.mem_append_right _ (List.mem_append_right _ (List.mem_append_right _ (List.mem_append_left _ (List.mem_cons_of_mem _ h)))))))) (fun h => List.mem_cons_of_mem _ (List.mem_append_right _ h)))) w_x_take_good
theorem g_x_primary_take_71 : GoodIn w_x_primary (wsV RX12 71 RX12 yX12_take w_x_take) := goodIn_app (nb_g4 (List.mem_cons_of_mem _ (List.mem_append_left _ (List.mem_append_left _ (List.mem_of_getElem? (i := 25) rfl)))) (List.mem_cons_of_mem _ (List.mem_append_left _ (List.mem_append_left _ (List.mem_of_getElem? (i := 26) rfl)))) (List.mem_cons_of_mem _ (List.mem_append_left _ (List.mem_append_left _ (List.mem_of_getElem? (i := 27) rfl)))) (List.mem_cons_of_mem _ (List.mem_append_left _ (List.mem_append_left _ (List.mem_of_getElem? (i := 20) rfl)))) (by decide +kernel)) gg_x_primary_take
theorem gg_x_primary_want : GoodIn w_x_primary w_x_want := goodIn_sub (fun w h => (List.mem_cons.mp h).elim (fun e => (List.mem_cons_of_mem _ (List.mem_append_left _ (List.mem_append_right _ (List.mem_append_right _ (List.mem_append_right _ (List.mem_append_right _ (List.mem_append_right _ (List.mem_append_right _ (List.mem_append_left _ (List.mem_cons.mpr (Or.inl e)))))))))))) (fun h => (List.mem_append.mp h).elim (fun h => (List.mem_cons_of_mem _ (List.mem_append_left _ (List.mem_append_right _ (List.mem_append_right _ (List.mem_append_right _ (List.mem_append_right _ (List.mem_append_right _ (List.mem_append_right _ (List.mem_append_left _ (List.mem_cons_of_mem _ h))))))))))) (fun h => List.mem_cons_of_mem _ (List.mem_append_right _ h)))) w_x_want_good
theorem g_x_primary_want_199 : GoodIn w_x_primary (wsV RX12 199 RX12 yX12_want w_x_want) := goodIn_app (nb_g4 (List.mem_cons_of_mem _ (List.mem_append_left _ (List.mem_append_left _ (List.mem_of_getElem? (i := 41) rfl)))) (List.mem_cons_of_mem _ (List.mem_append_left _ (List.mem_append_left _ (List.mem_of_getElem? (i := 42) rfl)))) (List.mem_cons_of_mem _ (List.mem_append_left _ (List.mem_append_left _ (List.mem_of_getElem? (i := 43) rfl)))) (List.mem_cons_of_mem _ (List.mem_append_left _ (List.mem_append_left _ (List.mem_of_getElem? (i := 20) rfl)))) (by decide +kernel)) gg_x_primary_want
theorem gg_x_primary_wordly : GoodIn w_x_primary w_x_wordly := goodIn_sub (fun w h => (List.mem_cons.mp h).elim (fun e => e ▸ (List.mem_cons_of_mem _ (List.mem_append_left _ (List.mem_append_left _ (List.mem_of_getElem? (i := 16) rfl))))) (fun h => List.mem_cons_of_mem _ h)) w_x_wordly_good
theorem g_x_primary_wordly_218 : GoodIn w_x_primary (wsV RX12 218 RX12 yX12_wordly w_x_wordly) := goodIn_app (nb_g4 (List.mem_cons_of_mem _ (List.mem_append_left _ (List.mem_append_left _ (List.mem_of_getElem? (i := 124) rfl)))) (List.mem_cons_of_mem _ (List.mem_append_left _ (List.mem_append_left _ (List.mem_of_getElem? (i := 125) rfl)))) (List.mem_cons_of_mem _ (List.mem_append_left _ (List.mem_append_left _ (List.mem_of_getElem? (i := 126) rfl)))) (List.mem_cons_of_mem _ (List.mem_append_left _ (List.mem_append_left _ (List.mem_of_getElem? (i := 20) rfl)))) (by decide +kernel)) gg_x_primary_wordly
set_option maxHeartbeats 40000000 in
set_option maxRecDepth 100000 in
theorem c_s_primary (l : Launch) (dC : Nat → ClassId) (dI : Nat → Nat → Nat) (cy : Nat → ClassId) (a : Nat → Nat) (k0 : Nat) (IH : ∀ j : Nat, j < k0 → P_GE l dC dI cy a j) (d : Nat) (L0 : Nat → Int32) (σ0 : MS) (r0 : Int32 × MS) (h0 : x_GE k0 d 11 0 L0 σ0 = some r0) (sz : Nat) : Met l yX12_primary w_x_primary ({ frames := 5 + d, cells := 0, slots := 0, locals := 113 + 31 * d }) (va_Pc [.ref (a 0)] (nIn (dC, dI) cy sz (vM cy a σ0))) (va_Qi (fun (z : Int32) (_ : Unit) => z = r0.1) (fun _ t => nOut (dC, dI) cy (va_A (vM cy a σ0) sz) (vM cy a r0.2) t) (va_A (vM cy a σ0) sz)) 0 0 (va_A (vM cy a σ0) sz) := by
  refine Met.ofW (cc := cX12_primary) (maxL := 3) (ret := (some .int)) (by decide) rfl ?_
  intro p e s m args below meth c s₁ B hml hv
  obtain ⟨rfl, hsz, hP, hK, hD0, hG⟩ := hv
  have hx := B.exec
  have hb := B.bytes
  have hr := B.returns
  have hts := atoms_spec (ws := w_x_primary) B.pre
  have hown : s.vm.findClass RX12 = some m.cls := findClass_of_methodNamed B.named
  have hlocks := B.notSynchronized
  subst hsz
  have hD := hD0.self (sz := s.heap.size)
  generalize hAe : va_A (vM cy a σ0) s.heap.size = A at hD ⊢
  have hA : ∀ q : Nat, s.heap.size ≤ q → A q := fun q h => by rw [← hAe]; exact Or.inr h
  have hS : va_S A s.heap s.heap [] := va_S.rf
  have hl := lv_entry ([.ref (a 0)]) (n := 3) (Nat.le_of_ble_eq_true rfl)
  rw [lg_entry_eq]
  generalize (lg_sl ([.ref (a 0)]) ++ List.replicate (3 - (lg_sl ([.ref (a 0)])).length) Slot.unset).toArray = ls at hl ⊢
  have hl : lv_has ls 3 [(0, .ref (a 0))] := hl
  have blk : ∀ k : Nat, k ≤ k0 → (bT p l e (headSpec w_x_primary ({ frames := 5 + d, cells := 0, slots := 0, locals := 113 + 31 * d })).room s m #[.ref (a 0)] below meth c dC dI cy a A (qI dC dI cy a A below #[.ref (a 0)] s) 3 (x_GE k d 11 0) (fun L => [(0, .ref (a 0))]) 0 (fun L => [])) ∧ (bT p l e (headSpec w_x_primary ({ frames := 5 + d, cells := 0, slots := 0, locals := 113 + 31 * d })).room s m #[.ref (a 0)] below meth c dC dI cy a A (qI dC dI cy a A below #[.ref (a 0)] s) 3 (x_GE k d 11 1) (fun L => [(0, .ref (a 0))]) 9 (fun L => [])) ∧ (bT p l e (headSpec w_x_primary ({ frames := 5 + d, cells := 0, slots := 0, locals := 113 + 31 * d })).room s m #[.ref (a 0)] below meth c dC dI cy a A (qI dC dI cy a A below #[.ref (a 0)] s) 3 (x_GE k d 11 2) (fun L => [(0, .ref (a 0))]) 25 (fun L => [])) ∧ (bT p l e (headSpec w_x_primary ({ frames := 5 + d, cells := 0, slots := 0, locals := 113 + 31 * d })).room s m #[.ref (a 0)] below meth c dC dI cy a A (qI dC dI cy a A below #[.ref (a 0)] s) 3 (x_GE k d 11 3) (fun L => [(0, .ref (a 0))]) 37 (fun L => [])) ∧ (bT p l e (headSpec w_x_primary ({ frames := 5 + d, cells := 0, slots := 0, locals := 113 + 31 * d })).room s m #[.ref (a 0)] below meth c dC dI cy a A (qI dC dI cy a A below #[.ref (a 0)] s) 3 (x_GE k d 11 4) (fun L => [(0, .ref (a 0))]) 38 (fun L => [.int (L 100)])) ∧ (bT p l e (headSpec w_x_primary ({ frames := 5 + d, cells := 0, slots := 0, locals := 113 + 31 * d })).room s m #[.ref (a 0)] below meth c dC dI cy a A (qI dC dI cy a A below #[.ref (a 0)] s) 3 (x_GE k d 11 5) (fun L => [(0, .ref (a 0)), (1, .int (L 1))]) 49 (fun L => [.ref (a 0)])) ∧ (bT p l e (headSpec w_x_primary ({ frames := 5 + d, cells := 0, slots := 0, locals := 113 + 31 * d })).room s m #[.ref (a 0)] below meth c dC dI cy a A (qI dC dI cy a A below #[.ref (a 0)] s) 3 (x_GE k d 11 6) (fun L => [(0, .ref (a 0)), (1, .int (L 1))]) 50 (fun L => [.int (L 100), .ref (a 0)])) ∧ (bT p l e (headSpec w_x_primary ({ frames := 5 + d, cells := 0, slots := 0, locals := 113 + 31 * d })).room s m #[.ref (a 0)] below meth c dC dI cy a A (qI dC dI cy a A below #[.ref (a 0)] s) 3 (x_GE k d 11 7) (fun L => [(0, .ref (a 0))]) 90 (fun L => [])) ∧ (bT p l e (headSpec w_x_primary ({ frames := 5 + d, cells := 0, slots := 0, locals := 113 + 31 * d })).room s m #[.ref (a 0)] below meth c dC dI cy a A (qI dC dI cy a A below #[.ref (a 0)] s) 3 (x_GE k d 11 8) (fun L => [(0, .ref (a 0))]) 103 (fun L => [])) ∧ (bT p l e (headSpec w_x_primary ({ frames := 5 + d, cells := 0, slots := 0, locals := 113 + 31 * d })).room s m #[.ref (a 0)] below meth c dC dI cy a A (qI dC dI cy a A below #[.ref (a 0)] s) 3 (x_GE k d 11 9) (fun L => [(0, .ref (a 0))]) 127 (fun L => [])) ∧ (bT p l e (headSpec w_x_primary ({ frames := 5 + d, cells := 0, slots := 0, locals := 113 + 31 * d })).room s m #[.ref (a 0)] below meth c dC dI cy a A (qI dC dI cy a A below #[.ref (a 0)] s) 3 (x_GE k d 11 10) (fun L => [(0, .ref (a 0)), (1, .int (L 1))]) 148 (fun L => [])) ∧ (bT p l e (headSpec w_x_primary ({ frames := 5 + d, cells := 0, slots := 0, locals := 113 + 31 * d })).room s m #[.ref (a 0)] below meth c dC dI cy a A (qI dC dI cy a A below #[.ref (a 0)] s) 3 (x_GE k d 11 11) (fun L => [(0, .ref (a 0))]) 158 (fun L => [])) ∧ (bT p l e (headSpec w_x_primary ({ frames := 5 + d, cells := 0, slots := 0, locals := 113 + 31 * d })).room s m #[.ref (a 0)] below meth c dC dI cy a A (qI dC dI cy a A below #[.ref (a 0)] s) 3 (x_GE k d 11 12) (fun L => [(0, .ref (a 0))]) 176 (fun L => [])) ∧ (bT p l e (headSpec w_x_primary ({ frames := 5 + d, cells := 0, slots := 0, locals := 113 + 31 * d })).room s m #[.ref (a 0)] below meth c dC dI cy a A (qI dC dI cy a A below #[.ref (a 0)] s) 3 (x_GE k d 11 13) (fun L => [(0, .ref (a 0))]) 181 (fun L => [])) ∧ (bT p l e (headSpec w_x_primary ({ frames := 5 + d, cells := 0, slots := 0, locals := 113 + 31 * d })).room s m #[.ref (a 0)] below meth c dC dI cy a A (qI dC dI cy a A below #[.ref (a 0)] s) 3 (x_GE k d 11 14) (fun L => [(0, .ref (a 0))]) 194 (fun L => [])) := by
    intro k
    induction k with
    | zero => exact fun _ => ⟨fun L σ r h => (by cases h), fun L σ r h => (by cases h), fun L σ r h => (by cases h), fun L σ r h => (by cases h), fun L σ r h => (by cases h), fun L σ r h => (by cases h), fun L σ r h => (by cases h), fun L σ r h => (by cases h), fun L σ r h => (by cases h), fun L σ r h => (by cases h), fun L σ r h => (by cases h), fun L σ r h => (by cases h), fun L σ r h => (by cases h), fun L σ r h => (by cases h), fun L σ r h => (by cases h)⟩
    | succ k ih =>
      intro hk
      replace ih := ih (by omega)
      refine ⟨?_, ?_, ?_, ?_, ?_, ?_, ?_, ?_, ?_, ?_, ?_, ?_, ?_, ?_, ?_⟩
      · intro L σ r h H locs ls hP hD hS hl
        rw [x_GE_11, s_primary_0] at h
        refine lv_aload_n hx hb dX12_primary_0 rfl (lv_at hl 0 rfl) ?_
        refine ng_10 hx hb hts in_x_primary hown hK hP (hts _ (List.mem_cons_of_mem _ (List.mem_append_left _ (List.mem_append_left _ (List.mem_of_getElem? (i := 24) rfl))))) dX12_primary_1 ?_
        refine lv_if_eq (tgt := 9) hx hb dX12_primary_4 (by decide) (fun c1 => ?_) (fun c1 => ?_)
        · rw [if_pos c1] at h
          exact ih.2.1 L σ r h H locs ls hP hD hS (lv_sub hl [0] rfl)
        · rw [if_neg c1] at h
          refine lv_iconst (v := 0) hx hb dX12_primary_7 (by decide) ?_
          cases h
          exact W.iret (v := 0) hx hb hr (fun t ht hW => ⟨⟨0, (), rfl, rfl, by rw [ht]; exact hP, va_K.moved hW.alike hK, hD⟩, hS.F ht⟩) hS.2.2 dX12_primary_8
      · intro L σ r h H locs ls hP hD hS hl
        rw [x_GE_11, s_primary_1] at h
        refine lv_aload_n hx hb dX12_primary_9 rfl (lv_at hl 0 rfl) ?_
        refine ng_6 hx hb hts in_x_primary hown hK hP (hts _ (List.mem_cons_of_mem _ (List.mem_append_left _ (List.mem_append_left _ (List.mem_of_getElem? (i := 113) rfl))))) dX12_primary_10 ?_
        refine lv_iconst (v := 2) hx hb dX12_primary_13 (by decide) ?_
        refine lv_icmp_eq (tgt := 25) hx hb dX12_primary_14 (by decide) (fun c1 => ?_) (fun c1 => ?_)
        · rw [if_pos c1] at h
          exact ih.2.2.1 L σ r h H locs ls hP hD hS (lv_sub hl [0] rfl)
        · rw [if_neg c1] at h
          refine lv_aload_n hx hb dX12_primary_17 rfl (lv_at hl 0 rfl) ?_
          refine ng_6 hx hb hts in_x_primary hown hK hP (hts _ (List.mem_cons_of_mem _ (List.mem_append_left _ (List.mem_append_left _ (List.mem_of_getElem? (i := 113) rfl))))) dX12_primary_18 ?_
          refine lv_iconst (v := 3) hx hb dX12_primary_21 (by decide) ?_
          refine lv_icmp_ne (tgt := 90) hx hb dX12_primary_22 (by decide) (fun c2 => ?_) (fun c2 => ?_)
          · rw [if_neg c2] at h
            exact ih.2.2.2.2.2.2.2.1 L σ r h H locs ls hP hD hS (lv_sub hl [0] rfl)
          · rw [if_pos c2] at h
            exact ih.2.2.1 L σ r h H locs ls hP hD hS (lv_sub hl [0] rfl)
      · intro L σ r h H locs ls hP hD hS hl
        rw [x_GE_11, s_primary_2] at h
        refine lv_aload_n hx hb dX12_primary_25 rfl (lv_at hl 0 rfl) ?_
        refine ng_6 hx hb hts in_x_primary hown hK hP (hts _ (List.mem_cons_of_mem _ (List.mem_append_left _ (List.mem_append_left _ (List.mem_of_getElem? (i := 113) rfl))))) dX12_primary_26 ?_
        refine lv_iconst (v := 3) hx hb dX12_primary_29 (by decide) ?_
        refine lv_icmp_ne (tgt := 37) hx hb dX12_primary_30 (by decide) (fun c1 => ?_) (fun c1 => ?_)
        · rw [if_neg c1] at h
          exact ih.2.2.2.1 L σ r h H locs ls hP hD hS (lv_sub hl [0] rfl)
        · rw [if_pos c1] at h
          refine lv_iconst (v := 1) hx hb dX12_primary_33 (by decide) ?_
          refine lv_goto (tgt := 38) hx hb dX12_primary_34 (by decide) ?_
          exact ih.2.2.2.2.1 (upd L 100 1) σ r h H locs ls hP hD hS (lv_sub hl [0] rfl)
      · intro L σ r h H locs ls hP hD hS hl
        rw [x_GE_11, s_primary_3] at h
        refine lv_iconst (v := 0) hx hb dX12_primary_37 (by decide) ?_
        exact ih.2.2.2.2.1 (upd L 100 0) σ r h H locs ls hP hD hS (lv_sub hl [0] rfl)
      · intro L σ r h H locs ls hP hD hS hl
        rw [x_GE_11, s_primary_4] at h
        refine lv_istore_n (lv' := [(1, .int (L 100)), (0, .ref (a 0))]) hx hb dX12_primary_38 rfl hl (by decide) rfl (fun ls hl => ?_)
        refine lv_aload_n hx hb dX12_primary_39 rfl (lv_at hl 1 rfl) ?_
        refine lv_iload_n hx hb dX12_primary_40 rfl (lv_at hl 0 rfl) ?_
        refine lv_iconst (v := 1) hx hb dX12_primary_41 (by decide) ?_
        refine lv_icmp_ne (tgt := 49) hx hb dX12_primary_42 (by decide) (fun c1 => ?_) (fun c1 => ?_)
        · rw [if_neg c1] at h
          exact ih.2.2.2.2.2.1 (upd L 1 ((L 100))) σ r h H locs ls hP hD hS (lv_sub hl [1, 0] rfl)
        · rw [if_pos c1] at h
          refine lv_iconst (v := 2) hx hb dX12_primary_45 (by decide) ?_
          refine lv_goto (tgt := 50) hx hb dX12_primary_46 (by decide) ?_
          exact ih.2.2.2.2.2.2.1 (upd (upd L 1 ((L 100))) 100 2) σ r h H locs ls hP hD hS (lv_sub hl [1, 0] rfl)
      · intro L σ r h H locs ls hP hD hS hl
        rw [x_GE_11, s_primary_5] at h
        refine lv_iconst (v := 1) hx hb dX12_primary_49 (by decide) ?_
        exact ih.2.2.2.2.2.2.1 (upd L 100 1) σ r h H locs ls hP hD hS (lv_sub hl [0, 1] rfl)
      · intro L σ r h H locs ls hP hD hS hl
        rw [x_GE_11, s_primary_6] at h
        refine lv_aload_n hx hb dX12_primary_50 rfl (lv_at hl 0 rfl) ?_
        refine lv_aload_n hx hb dX12_primary_51 rfl (lv_at hl 0 rfl) ?_
        refine ng_8 hx hb hts in_x_primary hown hK hP (hts _ (List.mem_cons_of_mem _ (List.mem_append_left _ (List.mem_append_left _ (List.mem_of_getElem? (i := 80) rfl))))) dX12_primary_52 ?_
        refine lv_iload_n hx hb dX12_primary_55 rfl (lv_at hl 1 rfl) ?_
        refine lv_iadd hx hb dX12_primary_56 ?_
        refine lv_aload_n hx hb dX12_primary_57 rfl (lv_at hl 0 rfl) ?_
        refine ng_9 hx hb hts in_x_primary hown hK hP (hts _ (List.mem_cons_of_mem _ (List.mem_append_left _ (List.mem_append_left _ (List.mem_of_getElem? (i := 114) rfl))))) dX12_primary_58 ?_
        refine lv_iload_n hx hb dX12_primary_61 rfl (lv_at hl 1 rfl) ?_
        refine lv_isub hx hb dX12_primary_62 ?_
        obtain ⟨r1, hc1, h⟩ := ob_ex h
        refine nc_Vi (As := [.int (((σ.1 8)) + ((L 1))), .int (((σ.1 9)) - ((L 1)))]) (rest := [.int (L 100), .ref (a 0)]) ⟨hx, hb, hml, hown, hts⟩ (c_x_keep l dC dI cy a k (upd (upd (fun _ => 0) 1 ((((σ.1 8)) + ((L 1))))) 2 ((((σ.1 9)) - ((L 1))))) σ r1 hc1 H.size) (cwV 2 hts g_x_primary_keep_154 rfl rfl rfl hd_x_keep (by show 0 + 1 ≤ 5 + d ∧ 8 + (5 + 11) + 0 ≤ 113 + 31 * d; omega)) hK hG hA hP hD hS rfl hl.1 rfl (Nat.le_of_ble_eq_true rfl) dX12_primary_63 ⟨Nat.le_refl _, Nat.le_refl _⟩ (fun H locs hP hD hS => ?_)
        refine lv_aload_n hx hb dX12_primary_66 rfl (lv_at hl 0 rfl) ?_
        refine ng_9 hx hb hts in_x_primary hown hK hP (hts _ (List.mem_cons_of_mem _ (List.mem_append_left _ (List.mem_append_left _ (List.mem_of_getElem? (i := 114) rfl))))) dX12_primary_67 ?_
        refine lv_aload_n hx hb dX12_primary_70 rfl (lv_at hl 0 rfl) ?_
        refine ng_8 hx hb hts in_x_primary hown hK hP (hts _ (List.mem_cons_of_mem _ (List.mem_append_left _ (List.mem_append_left _ (List.mem_of_getElem? (i := 80) rfl))))) dX12_primary_71 ?_
        refine lv_isub hx hb dX12_primary_74 ?_
        refine lv_iconst (v := 2) hx hb dX12_primary_75 (by decide) ?_
        refine lv_iload_n hx hb dX12_primary_76 rfl (lv_at hl 1 rfl) ?_
        refine lv_imul hx hb dX12_primary_77 ?_
        refine lv_isub hx hb dX12_primary_78 ?_
        refine lv_iconst (v := 0) hx hb dX12_primary_79 (by decide) ?_
        obtain ⟨r2, hc2, h⟩ := ob_ex h
        refine nc_Vi (As := [.int (L 100), .int r1.1, .int (((((r1.2.1 9)) - ((r1.2.1 8)))) - ((2 * ((L 1))))), .int 0]) (rest := []) ⟨hx, hb, hml, hown, hts⟩ (c_x_node l dC dI cy a k (upd (upd (upd (upd (fun _ => 0) 1 ((L 100))) 2 r1.1) 3 ((((((r1.2.1 9)) - ((r1.2.1 8)))) - ((2 * ((L 1))))))) 4 0) r1.2 r2 hc2 H.size) (cwV 4 hts g_x_primary_node_101 rfl rfl rfl hd_x_node (by show 0 + 1 ≤ 5 + d ∧ 8 + (6 + 11) + 0 ≤ 113 + 31 * d; omega)) hK hG hA hP hD hS rfl hl.1 rfl (Nat.le_of_ble_eq_true rfl) dX12_primary_80 ⟨Nat.le_refl _, Nat.le_refl _⟩ (fun H locs hP hD hS => ?_)
        refine lv_istore_n (lv' := [(2, .int r2.1), (0, .ref (a 0)), (1, .int (L 1))]) hx hb dX12_primary_83 rfl hl (by decide) rfl (fun ls hl => ?_)
        refine lv_aload_n hx hb dX12_primary_84 rfl (lv_at hl 1 rfl) ?_
        obtain ⟨r3, hc3, h⟩ := ob_ex h
        refine nc_Vv (As := []) (rest := []) ⟨hx, hb, hml, hown, hts⟩ (c_x_take l dC dI cy a k (fun _ => 0) r2.2 r3 hc3 H.size) (cwV 0 hts g_x_primary_take_71 rfl rfl rfl hd_x_take (by show 2 + 1 ≤ 5 + d ∧ 8 + (2 + 11) + 43 ≤ 113 + 31 * d; omega)) hK hG hA hP hD hS rfl hl.1 rfl (Nat.le_of_ble_eq_true rfl) dX12_primary_85 ⟨Nat.le_refl _, Nat.le_refl _⟩ (fun H locs hP hD hS => ?_)
        refine lv_iload_n hx hb dX12_primary_88 rfl (lv_at hl 0 rfl) ?_
        cases h
        exact W.iret (v := r2.1) hx hb hr (fun t ht hW => ⟨⟨r2.1, (), rfl, rfl, by rw [ht]; exact hP, va_K.moved hW.alike hK, hD⟩, hS.F ht⟩) hS.2.2 dX12_primary_89
      · intro L σ r h H locs ls hP hD hS hl
        rw [x_GE_11, s_primary_7] at h
        refine lv_aload_n hx hb dX12_primary_90 rfl (lv_at hl 0 rfl) ?_
        refine ng_6 hx hb hts in_x_primary hown hK hP (hts _ (List.mem_cons_of_mem _ (List.mem_append_left _ (List.mem_append_left _ (List.mem_of_getElem? (i := 113) rfl))))) dX12_primary_91 ?_
        refine lv_iconst (v := 1) hx hb dX12_primary_94 (by decide) ?_
        refine lv_icmp_ne (tgt := 103) hx hb dX12_primary_95 (by decide) (fun c1 => ?_) (fun c1 => ?_)
        · rw [if_neg c1] at h
          exact ih.2.2.2.2.2.2.2.2.1 L σ r h H locs ls hP hD hS (lv_sub hl [0] rfl)
        · rw [if_pos c1] at h
          refine lv_aload_n hx hb dX12_primary_98 rfl (lv_at hl 0 rfl) ?_
          obtain ⟨e2, he2, h⟩ := od_ex h
          obtain ⟨r2, hc2, h⟩ := ob_ex h
          refine nc_Vi (As := []) (rest := []) ⟨hx, hb, hml, hown, hts⟩ ((IH k (by omega)).2.2.2.2.2.2.1 e2 (fun _ => 0) σ r2 hc2 H.size) (cwV 0 hts g_x_primary_name_212 rfl rfl rfl hd_x_name (by show (5 + e2) + 1 ≤ 5 + d ∧ 8 + (10 + 11) + (113 + 31 * e2) ≤ 113 + 31 * d; omega)) hK hG hA hP hD hS rfl hl.1 rfl (Nat.le_of_ble_eq_true rfl) dX12_primary_99 ⟨Nat.le_refl _, Nat.le_refl _⟩ (fun H locs hP hD hS => ?_)
          cases h
          exact W.iret (v := r2.1) hx hb hr (fun t ht hW => ⟨⟨r2.1, (), rfl, rfl, by rw [ht]; exact hP, va_K.moved hW.alike hK, hD⟩, hS.F ht⟩) hS.2.2 dX12_primary_102
      · intro L σ r h H locs ls hP hD hS hl
        rw [x_GE_11, s_primary_8] at h
        refine lv_aload_n hx hb dX12_primary_103 rfl (lv_at hl 0 rfl) ?_
        refine lv_bipush (v := 6) hx hb dX12_primary_104 (by decide) ?_
        obtain ⟨r1, hc1, h⟩ := ob_ex h
        refine nc_Vi (As := [.int 6]) (rest := []) ⟨hx, hb, hml, hown, hts⟩ (c_x_isSign l dC dI cy a k (upd (fun _ => 0) 1 6) σ r1 hc1 H.size) (cwV 1 hts g_x_primary_isSign_65 rfl rfl rfl hd_x_isSign (by show 0 + 1 ≤ 5 + d ∧ 8 + (2 + 11) + 0 ≤ 113 + 31 * d; omega)) hK hG hA hP hD hS rfl hl.1 rfl (Nat.le_of_ble_eq_true rfl) dX12_primary_106 ⟨Nat.le_refl _, Nat.le_refl _⟩ (fun H locs hP hD hS => ?_)
        refine lv_if_eq (tgt := 158) hx hb dX12_primary_109 (by decide) (fun c2 => ?_) (fun c2 => ?_)
        · rw [if_pos c2] at h
          exact ih.2.2.2.2.2.2.2.2.2.2.2.1 L r1.2 r h H locs ls hP hD hS (lv_sub hl [0] rfl)
        · rw [if_neg c2] at h
          refine lv_aload_n hx hb dX12_primary_112 rfl (lv_at hl 0 rfl) ?_
          obtain ⟨r3, hc3, h⟩ := ob_ex h
          refine nc_Vv (As := []) (rest := []) ⟨hx, hb, hml, hown, hts⟩ (c_x_open l dC dI cy a k (fun _ => 0) r1.2 r3 hc3 H.size) (cwV 0 hts g_x_primary_open_177 rfl rfl rfl hd_x_open (by show 1 + 1 ≤ 5 + d ∧ 8 + (1 + 11) + 22 ≤ 113 + 31 * d; omega)) hK hG hA hP hD hS rfl hl.1 rfl (Nat.le_of_ble_eq_true rfl) dX12_primary_113 ⟨Nat.le_refl _, Nat.le_refl _⟩ (fun H locs hP hD hS => ?_)
          refine lv_aload_n hx hb dX12_primary_116 rfl (lv_at hl 0 rfl) ?_
          refine ng_10 hx hb hts in_x_primary hown hK hP (hts _ (List.mem_cons_of_mem _ (List.mem_append_left _ (List.mem_append_left _ (List.mem_of_getElem? (i := 24) rfl))))) dX12_primary_117 ?_
          refine lv_if_ne (tgt := 127) hx hb dX12_primary_120 (by decide) (fun c4 => ?_) (fun c4 => ?_)
          · rw [if_neg c4] at h
            exact ih.2.2.2.2.2.2.2.2.2.1 L r3.2 r h H locs ls hP hD hS (lv_sub hl [0] rfl)
          · rw [if_pos c4] at h
            refine lv_aload_n hx hb dX12_primary_123 rfl (lv_at hl 0 rfl) ?_
            obtain ⟨r5, hc5, h⟩ := ob_ex h
            refine nc_Vv (As := []) (rest := []) ⟨hx, hb, hml, hown, hts⟩ (c_x_take l dC dI cy a k (fun _ => 0) r3.2 r5 hc5 H.size) (cwV 0 hts g_x_primary_take_71 rfl rfl rfl hd_x_take (by show 2 + 1 ≤ 5 + d ∧ 8 + (2 + 11) + 43 ≤ 113 + 31 * d; omega)) hK hG hA hP hD hS rfl hl.1 rfl (Nat.le_of_ble_eq_true rfl) dX12_primary_124 ⟨Nat.le_refl _, Nat.le_refl _⟩ (fun H locs hP hD hS => ?_)
            exact ih.2.2.2.2.2.2.2.2.2.1 L r5.2 r h H locs ls hP hD hS (lv_sub hl [0] rfl)
      · intro L σ r h H locs ls hP hD hS hl
        rw [x_GE_11, s_primary_9] at h
        refine lv_aload_n hx hb dX12_primary_127 rfl (lv_at hl 0 rfl) ?_
        obtain ⟨e1, he1, h⟩ := od_ex h
        obtain ⟨r1, hc1, h⟩ := ob_ex h
        refine nc_Vi (As := []) (rest := []) ⟨hx, hb, hml, hown, hts⟩ ((IH k (by omega)).2.2.2.1 e1 (fun _ => 0) σ r1 hc1 H.size) (cwV 0 hts g_x_primary_exp_209 rfl rfl rfl hd_x_exp (by show (5 + e1) + 1 ≤ 5 + d ∧ 8 + (2 + 11) + (113 + 31 * e1) ≤ 113 + 31 * d; omega)) hK hG hA hP hD hS rfl hl.1 rfl (Nat.le_of_ble_eq_true rfl) dX12_primary_128 ⟨Nat.le_refl _, Nat.le_refl _⟩ (fun H locs hP hD hS => ?_)
        refine lv_istore_n (lv' := [(1, .int r1.1), (0, .ref (a 0))]) hx hb dX12_primary_131 rfl hl (by decide) rfl (fun ls hl => ?_)
        refine lv_aload_n hx hb dX12_primary_132 rfl (lv_at hl 1 rfl) ?_
        refine lv_bipush (v := 7) hx hb dX12_primary_133 (by decide) ?_
        obtain ⟨r2, hc2, h⟩ := ob_ex h
        refine nc_Vv (As := [.int 7]) (rest := []) ⟨hx, hb, hml, hown, hts⟩ (c_x_want l dC dI cy a k (upd (fun _ => 0) 1 7) r1.2 r2 hc2 H.size) (cwV 1 hts g_x_primary_want_199 rfl rfl rfl hd_x_want (by show 3 + 1 ≤ 5 + d ∧ 8 + (2 + 11) + 64 ≤ 113 + 31 * d; omega)) hK hG hA hP hD hS rfl hl.1 rfl (Nat.le_of_ble_eq_true rfl) dX12_primary_135 ⟨Nat.le_refl _, Nat.le_refl _⟩ (fun H locs hP hD hS => ?_)
        refine lv_aload_n hx hb dX12_primary_138 rfl (lv_at hl 1 rfl) ?_
        refine lv_dup hx hb dX12_primary_139 rfl ?_
        refine ng_13 hx hb hts in_x_primary hown hK hP (hts _ (List.mem_cons_of_mem _ (List.mem_append_left _ (List.mem_append_left _ (List.mem_of_getElem? (i := 50) rfl))))) dX12_primary_140 ?_
        refine lv_iconst (v := 1) hx hb dX12_primary_143 (by decide) ?_
        refine lv_isub hx hb dX12_primary_144 ?_
        refine np_13 hx hb hts in_x_primary hown hK hP hD hS (hts _ (List.mem_cons_of_mem _ (List.mem_append_left _ (List.mem_append_left _ (List.mem_of_getElem? (i := 50) rfl))))) dX12_primary_145 (fun H locs hP hD hS => ?_)
        exact ih.2.2.2.2.2.2.2.2.2.2.1 (upd L 1 r1.1) (upd r2.2.1 13 ((((r2.2.1 13)) - 1)), r2.2.2.1, r2.2.2.2) r h H locs ls hP hD hS (lv_sub hl [1, 0] rfl)
      · intro L σ r h H locs ls hP hD hS hl
        rw [x_GE_11, s_primary_10] at h
        refine lv_aload_n hx hb dX12_primary_148 rfl (lv_at hl 0 rfl) ?_
        refine lv_bipush (v := 26) hx hb dX12_primary_149 (by decide) ?_
        refine lv_iconst (v := 0) hx hb dX12_primary_151 (by decide) ?_
        refine lv_iload_n hx hb dX12_primary_152 rfl (lv_at hl 1 rfl) ?_
        refine lv_iconst (v := 0) hx hb dX12_primary_153 (by decide) ?_
        obtain ⟨r1, hc1, h⟩ := ob_ex h
        refine nc_Vi (As := [.int 26, .int 0, .int (L 1), .int 0]) (rest := []) ⟨hx, hb, hml, hown, hts⟩ (c_x_over l dC dI cy a k (upd (upd (upd (upd (fun _ => 0) 1 26) 2 0) 3 ((L 1))) 4 0) σ r1 hc1 H.size) (cwV 4 hts g_x_primary_over_168 rfl rfl rfl hd_x_over (by show 1 + 1 ≤ 5 + d ∧ 8 + (6 + 11) + 25 ≤ 113 + 31 * d; omega)) hK hG hA hP hD hS rfl hl.1 rfl (Nat.le_of_ble_eq_true rfl) dX12_primary_154 ⟨Nat.le_refl _, Nat.le_refl _⟩ (fun H locs hP hD hS => ?_)
        cases h
        exact W.iret (v := r1.1) hx hb hr (fun t ht hW => ⟨⟨r1.1, (), rfl, rfl, by rw [ht]; exact hP, va_K.moved hW.alike hK, hD⟩, hS.F ht⟩) hS.2.2 dX12_primary_157
      · intro L σ r h H locs ls hP hD hS hl
        rw [x_GE_11, s_primary_11] at h
        refine lv_aload_n hx hb dX12_primary_158 rfl (lv_at hl 0 rfl) ?_
        refine lv_bipush (v := 8) hx hb dX12_primary_159 (by decide) ?_
        obtain ⟨r1, hc1, h⟩ := ob_ex h
        refine nc_Vi (As := [.int 8]) (rest := []) ⟨hx, hb, hml, hown, hts⟩ (c_x_isSign l dC dI cy a k (upd (fun _ => 0) 1 8) σ r1 hc1 H.size) (cwV 1 hts g_x_primary_isSign_65 rfl rfl rfl hd_x_isSign (by show 0 + 1 ≤ 5 + d ∧ 8 + (2 + 11) + 0 ≤ 113 + 31 * d; omega)) hK hG hA hP hD hS rfl hl.1 rfl (Nat.le_of_ble_eq_true rfl) dX12_primary_161 ⟨Nat.le_refl _, Nat.le_refl _⟩ (fun H locs hP hD hS => ?_)
        refine lv_if_ne (tgt := 176) hx hb dX12_primary_164 (by decide) (fun c2 => ?_) (fun c2 => ?_)
        · rw [if_neg c2] at h
          exact ih.2.2.2.2.2.2.2.2.2.2.2.2.1 L r1.2 r h H locs ls hP hD hS (lv_sub hl [0] rfl)
        · rw [if_pos c2] at h
          refine lv_aload_n hx hb dX12_primary_167 rfl (lv_at hl 0 rfl) ?_
          refine lv_bipush (v := 10) hx hb dX12_primary_168 (by decide) ?_
          obtain ⟨r3, hc3, h⟩ := ob_ex h
          refine nc_Vi (As := [.int 10]) (rest := []) ⟨hx, hb, hml, hown, hts⟩ (c_x_isSign l dC dI cy a k (upd (fun _ => 0) 1 10) r1.2 r3 hc3 H.size) (cwV 1 hts g_x_primary_isSign_65 rfl rfl rfl hd_x_isSign (by show 0 + 1 ≤ 5 + d ∧ 8 + (2 + 11) + 0 ≤ 113 + 31 * d; omega)) hK hG hA hP hD hS rfl hl.1 rfl (Nat.le_of_ble_eq_true rfl) dX12_primary_170 ⟨Nat.le_refl _, Nat.le_refl _⟩ (fun H locs hP hD hS => ?_)
          refine lv_if_eq (tgt := 181) hx hb dX12_primary_173 (by decide) (fun c4 => ?_) (fun c4 => ?_)
          · rw [if_pos c4] at h
            exact ih.2.2.2.2.2.2.2.2.2.2.2.2.2.1 L r3.2 r h H locs ls hP hD hS (lv_sub hl [0] rfl)
          · rw [if_neg c4] at h
            exact ih.2.2.2.2.2.2.2.2.2.2.2.2.1 L r3.2 r h H locs ls hP hD hS (lv_sub hl [0] rfl)
      · intro L σ r h H locs ls hP hD hS hl
        rw [x_GE_11, s_primary_12] at h
        refine lv_aload_n hx hb dX12_primary_176 rfl (lv_at hl 0 rfl) ?_
        obtain ⟨e1, he1, h⟩ := od_ex h
        obtain ⟨r1, hc1, h⟩ := ob_ex h
        refine nc_Vi (As := []) (rest := []) ⟨hx, hb, hml, hown, hts⟩ ((IH k (by omega)).1 e1 (fun _ => 0) σ r1 hc1 H.size) (cwV 0 hts g_x_primary_brackets_215 rfl rfl rfl hd_x_brackets (by show (5 + e1) + 1 ≤ 5 + d ∧ 8 + (8 + 11) + (113 + 31 * e1) ≤ 113 + 31 * d; omega)) hK hG hA hP hD hS rfl hl.1 rfl (Nat.le_of_ble_eq_true rfl) dX12_primary_177 ⟨Nat.le_refl _, Nat.le_refl _⟩ (fun H locs hP hD hS => ?_)
        cases h
        exact W.iret (v := r1.1) hx hb hr (fun t ht hW => ⟨⟨r1.1, (), rfl, rfl, by rw [ht]; exact hP, va_K.moved hW.alike hK, hD⟩, hS.F ht⟩) hS.2.2 dX12_primary_180
      · intro L σ r h H locs ls hP hD hS hl
        rw [x_GE_11, s_primary_13] at h
        refine lv_aload_n hx hb dX12_primary_181 rfl (lv_at hl 0 rfl) ?_
        refine ng_6 hx hb hts in_x_primary hown hK hP (hts _ (List.mem_cons_of_mem _ (List.mem_append_left _ (List.mem_append_left _ (List.mem_of_getElem? (i := 113) rfl))))) dX12_primary_182 ?_
        refine lv_iconst (v := 5) hx hb dX12_primary_185 (by decide) ?_
        refine lv_icmp_ne (tgt := 194) hx hb dX12_primary_186 (by decide) (fun c1 => ?_) (fun c1 => ?_)
        · rw [if_neg c1] at h
          exact ih.2.2.2.2.2.2.2.2.2.2.2.2.2.2 L σ r h H locs ls hP hD hS (lv_sub hl [0] rfl)
        · rw [if_pos c1] at h
          refine lv_aload_n hx hb dX12_primary_189 rfl (lv_at hl 0 rfl) ?_
          obtain ⟨e2, he2, h⟩ := od_ex h
          obtain ⟨r2, hc2, h⟩ := ob_ex h
          refine nc_Vi (As := []) (rest := []) ⟨hx, hb, hml, hown, hts⟩ ((IH k (by omega)).2.2.2.2.2.2.2.2.2.2.2.2.2.2.2.2 e2 (fun _ => 0) σ r2 hc2 H.size) (cwV 0 hts g_x_primary_wordly_218 rfl rfl rfl hd_x_wordly (by show (5 + e2) + 1 ≤ 5 + d ∧ 8 + (4 + 11) + (113 + 31 * e2) ≤ 113 + 31 * d; omega)) hK hG hA hP hD hS rfl hl.1 rfl (Nat.le_of_ble_eq_true rfl) dX12_primary_190 ⟨Nat.le_refl _, Nat.le_refl _⟩ (fun H locs hP hD hS => ?_)
          cases h
          exact W.iret (v := r2.1) hx hb hr (fun t ht hW => ⟨⟨r2.1, (), rfl, rfl, by rw [ht]; exact hP, va_K.moved hW.alike hK, hD⟩, hS.F ht⟩) hS.2.2 dX12_primary_193
      · intro L σ r h H locs ls hP hD hS hl
        rw [x_GE_11, s_primary_14] at h
        refine lv_aload_n hx hb dX12_primary_194 rfl (lv_at hl 0 rfl) ?_
        obtain ⟨r1, hc1, h⟩ := ob_ex h
        refine nc_Vv (As := []) (rest := []) ⟨hx, hb, hml, hown, hts⟩ (c_x_cannot l dC dI cy a k (fun _ => 0) σ r1 hc1 H.size) (cwV 0 hts g_x_primary_cannot_68 rfl rfl rfl hd_x_cannot (by show 1 + 1 ≤ 5 + d ∧ 8 + (1 + 11) + 22 ≤ 113 + 31 * d; omega)) hK hG hA hP hD hS rfl hl.1 rfl (Nat.le_of_ble_eq_true rfl) dX12_primary_195 ⟨Nat.le_refl _, Nat.le_refl _⟩ (fun H locs hP hD hS => ?_)
        refine lv_iconst (v := 0) hx hb dX12_primary_198 (by decide) ?_
        cases h
        exact W.iret (v := 0) hx hb hr (fun t ht hW => ⟨⟨0, (), rfl, rfl, by rw [ht]; exact hP, va_K.moved hW.alike hK, hD⟩, hS.F ht⟩) hS.2.2 dX12_primary_199
  exact (blk k0 (Nat.le_refl _)).1 L0 σ0 r0 h0 s.heap [] ls hP hD hS hl
theorem gg_x_quantified_exp : GoodIn w_x_quantified w_x_exp := goodIn_sub (fun w h => (List.mem_cons.mp h).elim (fun e => e ▸ (List.mem_cons_of_mem _ (List.mem_append_left _ (List.mem_append_left _ (List.mem_of_getElem? (i := 3) rfl))))) (fun h => List.mem_cons_of_mem _ h)) w_x_exp_good
theorem g_x_quantified_exp_209 : GoodIn w_x_quantified (wsV RX12 209 RX12 yX12_exp w_x_exp) := goodIn_app (nb_g4 (List.mem_cons_of_mem _ (List.mem_append_left _ (List.mem_append_left _ (List.mem_of_getElem? (i := 38) rfl)))) (List.mem_cons_of_mem _ (List.mem_append_left _ (List.mem_append_left _ (List.mem_of_getElem? (i := 39) rfl)))) (List.mem_cons_of_mem _ (List.mem_append_left _ (List.mem_append_left _ (List.mem_of_getElem? (i := 40) rfl)))) (List.mem_cons_of_mem _ (List.mem_append_left _ (List.mem_append_left _ (List.mem_of_getElem? (i := 20) rfl)))) (by decide +kernel)) gg_x_quantified_exp
theorem gg_x_quantified_iters : GoodIn w_x_quantified w_x_iters := goodIn_sub (fun w h => (List.mem_cons.mp h).elim (fun e => e ▸ (List.mem_cons_of_mem _ (List.mem_append_left _ (List.mem_append_left _ (List.mem_of_getElem? (i := 4) rfl))))) (fun h => List.mem_cons_of_mem _ h)) w_x_iters_good
theorem g_x_quantified_iters_246 : GoodIn w_x_quantified (wsV RX12 246 RX12 yX12_iters w_x_iters) := goodIn_app (nb_g4 (List.mem_cons_of_mem _ (List.mem_append_left _ (List.mem_append_left _ (List.mem_of_getElem? (i := 35) rfl)))) (List.mem_cons_of_mem _ (List.mem_append_left _ (List.mem_append_left _ (List.mem_of_getElem? (i := 36) rfl)))) (List.mem_cons_of_mem _ (List.mem_append_left _ (List.mem_append_left _ (List.mem_of_getElem? (i := 37) rfl)))) (List.mem_cons_of_mem _ (List.mem_append_left _ (List.mem_append_left _ (List.mem_of_getElem? (i := 20) rfl)))) (by decide +kernel)) gg_x_quantified_iters
theorem gg_x_quantified_node : GoodIn w_x_quantified w_x_node := goodIn_sub (fun w h => (List.mem_cons.mp h).elim (fun e => (List.mem_cons_of_mem _ (List.mem_append_left _ (List.mem_append_right _ (List.mem_append_right _ (List.mem_append_right _ (List.mem_append_right _ (List.mem_append_left _ (List.mem_cons.mpr (Or.inl e)))))))))) (fun h => (List.mem_append.mp h).elim (fun h => (List.mem_cons_of_mem _ (List.mem_append_left _ (List.mem_append_right _ (List.mem_append_right _ (List.mem_append_right _ (List.mem_append_right _ (List.mem_append_left _ (List.mem_cons_of_mem _ h))))))))) (fun h => List.mem_cons_of_mem _ (List.mem_append_right _ h)))) w_x_node_good
theorem g_x_quantified_node_101 : GoodIn w_x_quantified (wsV RX12 101 RX12 yX12_node w_x_node) := goodIn_app (nb_g4 (List.mem_cons_of_mem _ (List.mem_append_left _ (List.mem_append_left _ (List.mem_of_getElem? (i := 28) rfl)))) (List.mem_cons_of_mem _ (List.mem_append_left _ (List.mem_append_left _ (List.mem_of_getElem? (i := 29) rfl)))) (List.mem_cons_of_mem _ (List.mem_append_left _ (List.mem_append_left _ (List.mem_of_getElem? (i := 30) rfl)))) (List.mem_cons_of_mem _ (List.mem_append_left _ (List.mem_append_left _ (List.mem_of_getElem? (i := 20) rfl)))) (by decide +kernel)) gg_x_quantified_node
theorem gg_x_quantified_open : GoodIn w_x_quantified w_x_open := goodIn_sub (fun w h => (List.mem_cons.mp h).elim (fun e => (List.mem_cons_of_mem _ (List.mem_append_left _ (List.mem_append_right _ (List.mem_append_right _ (List.mem_append_left _ (List.mem_cons.mpr (Or.inl e)))))))) (fun h => (List.mem_append.mp h).elim (fun h => (List.mem_cons_of_mem _ (List.mem_append_left _ (List.mem_append_right _ (List.mem_append_right _ (List.mem_append_left _ (List.mem_cons_of_mem _ h))))))) (fun h => List.mem_cons_of_mem _ (List.mem_append_right _ h)))) w_x_open_good
theorem g_x_quantified_open_177 : GoodIn w_x_quantified (wsV RX12 177 RX12 yX12_open w_x_open) := goodIn_app (nb_g4 (List.mem_cons_of_mem _ (List.mem_append_left _ (List.mem_append_left _ (List.mem_of_getElem? (i := 21) rfl)))) (List.mem_cons_of_mem _ (List.mem_append_left _ (List.mem_append_left _ (List.mem_of_getElem? (i := 22) rfl)))) (List.mem_cons_of_mem _ (List.mem_append_left _ (List.mem_append_left _ (List.mem_of_getElem? (i := 23) rfl)))) (List.mem_cons_of_mem _ (List.mem_append_left _ (List.mem_append_left _ (List.mem_of_getElem? (i := 20) rfl)))) (by decide +kernel)) gg_x_quantified_open
theorem gg_x_quantified_take : GoodIn w_x_quantified w_x_take := goodIn_sub (fun w h => (List.mem_cons.mp h).elim (fun e => (List.mem_cons_of_mem _ (List.mem_append_left _ (List.mem_append_right _ (List.mem_append_right _ (List.mem_append_right _ (List.mem_append_left _ (List.mem_cons.mpr (Or.inl e))))))))) (fun h => (List.mem_append.mp h).elim (fun h => (List.mem_cons_of_mem _ (List.mem_append_left _ (List.mem_append_right _ (List.mem_append_right _ (List.mem_append_right _ (List.mem_append_left _ (List.mem_cons_of_mem _ h)))))))) (fun h => List.mem_cons_of_mem _ (List.mem_append_right _ h)))) w_x_take_good
theorem g_x_quantified_take_71 : GoodIn w_x_quantified (wsV RX12 71 RX12 yX12_take w_x_take) := goodIn_app (nb_g4 (List.mem_cons_of_mem _ (List.mem_append_left _ (List.mem_append_left _ (List.mem_of_getElem? (i := 25) rfl)))) (List.mem_cons_of_mem _ (List.mem_append_left _ (List.mem_append_left _ (List.mem_of_getElem? (i := 26) rfl)))) (List.mem_cons_of_mem _ (List.mem_append_left _ (List.mem_append_left _ (List.mem_of_getElem? (i := 27) rfl)))) (List.mem_cons_of_mem _ (List.mem_append_left _ (List.mem_append_left _ (List.mem_of_getElem? (i := 20) rfl)))) (by decide +kernel)) gg_x_quantified_take
theorem gg_x_quantified_want : GoodIn w_x_quantified w_x_want := goodIn_sub (fun w h => (List.mem_cons.mp h).elim (fun e => (List.mem_cons_of_mem _ (List.mem_append_left _ (List.mem_append_right _ (List.mem_append_right _ (List.mem_append_right _ (List.mem_append_right _ (List.mem_append_right _ (List.mem_append_right _ (List.mem_append_left _ (List.mem_cons.mpr (Or.inl e)))))))))))) (fun h => (List.mem_append.mp h).elim (fun h => (List.mem_cons_of_mem _ (List.mem_append_left _ (List.mem_append_right _ (List.mem_append_right _ (List.mem_append_right _ (List.mem_append_right _ (List.mem_append_right _ (List.mem_append_right _ (List.mem_append_left _ (List.mem_cons_of_mem _ h))))))))))) (fun h => List.mem_cons_of_mem _ (List.mem_append_right _ h)))) w_x_want_good
theorem g_x_quantified_want_199 : GoodIn w_x_quantified (wsV RX12 199 RX12 yX12_want w_x_want) := goodIn_app (nb_g4 (List.mem_cons_of_mem _ (List.mem_append_left _ (List.mem_append_left _ (List.mem_of_getElem? (i := 41) rfl)))) (List.mem_cons_of_mem _ (List.mem_append_left _ (List.mem_append_left _ (List.mem_of_getElem? (i := 42) rfl)))) (List.mem_cons_of_mem _ (List.mem_append_left _ (List.mem_append_left _ (List.mem_of_getElem? (i := 43) rfl)))) (List.mem_cons_of_mem _ (List.mem_append_left _ (List.mem_append_left _ (List.mem_of_getElem? (i := 20) rfl)))) (by decide +kernel)) gg_x_quantified_want
set_option maxHeartbeats 40000000 in
set_option maxRecDepth 100000 in
theorem c_s_quantified (l : Launch) (dC : Nat → ClassId) (dI : Nat → Nat → Nat) (cy : Nat → ClassId) (a : Nat → Nat) (k0 : Nat) (IH : ∀ j : Nat, j < k0 → P_GE l dC dI cy a j) (d : Nat) (L0 : Nat → Int32) (σ0 : MS) (r0 : Int32 × MS) (h0 : x_GE k0 d 12 0 L0 σ0 = some r0) (sz : Nat) : Met l yX12_quantified w_x_quantified ({ frames := 5 + d, cells := 0, slots := 0, locals := 113 + 31 * d }) (va_Pc [.ref (a 0), .int (L0 1)] (nIn (dC, dI) cy sz (vM cy a σ0))) (va_Qi (fun (z : Int32) (_ : Unit) => z = r0.1) (fun _ t => nOut (dC, dI) cy (va_A (vM cy a σ0) sz) (vM cy a r0.2) t) (va_A (vM cy a σ0) sz)) 0 0 (va_A (vM cy a σ0) sz) := by
  refine Met.ofW (cc := cX12_quantified) (maxL := 5) (ret := (some .int)) (by decide) rfl ?_
  intro p e s m args below meth c s₁ B hml hv
  obtain ⟨rfl, hsz, hP, hK, hD0, hG⟩ := hv
  have hx := B.exec
  have hb := B.bytes
  have hr := B.returns
  have hts := atoms_spec (ws := w_x_quantified) B.pre
  have hown : s.vm.findClass RX12 = some m.cls := findClass_of_methodNamed B.named
  have hlocks := B.notSynchronized
  subst hsz
  have hD := hD0.self (sz := s.heap.size)
  generalize hAe : va_A (vM cy a σ0) s.heap.size = A at hD ⊢
  have hA : ∀ q : Nat, s.heap.size ≤ q → A q := fun q h => by rw [← hAe]; exact Or.inr h
  have hS : va_S A s.heap s.heap [] := va_S.rf
  have hl := lv_entry ([.ref (a 0), .int (L0 1)]) (n := 5) (Nat.le_of_ble_eq_true rfl)
  rw [lg_entry_eq]
  generalize (lg_sl ([.ref (a 0), .int (L0 1)]) ++ List.replicate (5 - (lg_sl ([.ref (a 0), .int (L0 1)])).length) Slot.unset).toArray = ls at hl ⊢
  have hl : lv_has ls 5 [(0, .ref (a 0)), (1, .int (L0 1))] := hl
  have blk : ∀ k : Nat, k ≤ k0 → (bT p l e (headSpec w_x_quantified ({ frames := 5 + d, cells := 0, slots := 0, locals := 113 + 31 * d })).room s m #[.ref (a 0), .int (L0 1)] below meth c dC dI cy a A (qI dC dI cy a A below #[.ref (a 0), .int (L0 1)] s) 5 (x_GE k d 12 0) (fun L => [(0, .ref (a 0)), (1, .int (L 1))]) 0 (fun L => [])) ∧ (bT p l e (headSpec w_x_quantified ({ frames := 5 + d, cells := 0, slots := 0, locals := 113 + 31 * d })).room s m #[.ref (a 0), .int (L0 1)] below meth c dC dI cy a A (qI dC dI cy a A below #[.ref (a 0), .int (L0 1)] s) 5 (x_GE k d 12 1) (fun L => [(0, .ref (a 0)), (1, .int (L 1))]) 15 (fun L => [])) ∧ (bT p l e (headSpec w_x_quantified ({ frames := 5 + d, cells := 0, slots := 0, locals := 113 + 31 * d })).room s m #[.ref (a 0), .int (L0 1)] below meth c dC dI cy a A (qI dC dI cy a A below #[.ref (a 0), .int (L0 1)] s) 5 (x_GE k d 12 2) (fun L => [(0, .ref (a 0)), (1, .int (L 1)), (2, .int (L 2)), (3, .int (L 3)), (4, .int (L 4))]) 43 (fun L => [])) ∧ (bT p l e (headSpec w_x_quantified ({ frames := 5 + d, cells := 0, slots := 0, locals := 113 + 31 * d })).room s m #[.ref (a 0), .int (L0 1)] below meth c dC dI cy a A (qI dC dI cy a A below #[.ref (a 0), .int (L0 1)] s) 5 (x_GE k d 12 3) (fun L => [(0, .ref (a 0)), (1, .int (L 1)), (2, .int (L 2)), (3, .int (L 3)), (4, .int (L 4))]) 53 (fun L => [])) := by
    intro k
    induction k with
    | zero => exact fun _ => ⟨fun L σ r h => (by cases h), fun L σ r h => (by cases h), fun L σ r h => (by cases h), fun L σ r h => (by cases h)⟩
    | succ k ih =>
      intro hk
      replace ih := ih (by omega)
      refine ⟨?_, ?_, ?_, ?_⟩
      · intro L σ r h H locs ls hP hD hS hl
        rw [x_GE_12, s_quantified_0] at h
        refine lv_aload_n hx hb dX12_quantified_0 rfl (lv_at hl 0 rfl) ?_
        obtain ⟨r1, hc1, h⟩ := ob_ex h
        refine nc_Vv (As := []) (rest := []) ⟨hx, hb, hml, hown, hts⟩ (c_x_open l dC dI cy a k (fun _ => 0) σ r1 hc1 H.size) (cwV 0 hts g_x_quantified_open_177 rfl rfl rfl hd_x_open (by show 1 + 1 ≤ 5 + d ∧ 8 + (1 + 11) + 22 ≤ 113 + 31 * d; omega)) hK hG hA hP hD hS rfl hl.1 rfl (Nat.le_of_ble_eq_true rfl) dX12_quantified_1 ⟨Nat.le_refl _, Nat.le_refl _⟩ (fun H locs hP hD hS => ?_)
        refine lv_aload_n hx hb dX12_quantified_4 rfl (lv_at hl 0 rfl) ?_
        refine ng_10 hx hb hts in_x_quantified hown hK hP (hts _ (List.mem_cons_of_mem _ (List.mem_append_left _ (List.mem_append_left _ (List.mem_of_getElem? (i := 24) rfl))))) dX12_quantified_5 ?_
        refine lv_if_ne (tgt := 15) hx hb dX12_quantified_8 (by decide) (fun c2 => ?_) (fun c2 => ?_)
        · rw [if_neg c2] at h
          exact ih.2.1 L r1.2 r h H locs ls hP hD hS (lv_sub hl [0, 1] rfl)
        · rw [if_pos c2] at h
          refine lv_aload_n hx hb dX12_quantified_11 rfl (lv_at hl 0 rfl) ?_
          obtain ⟨r3, hc3, h⟩ := ob_ex h
          refine nc_Vv (As := []) (rest := []) ⟨hx, hb, hml, hown, hts⟩ (c_x_take l dC dI cy a k (fun _ => 0) r1.2 r3 hc3 H.size) (cwV 0 hts g_x_quantified_take_71 rfl rfl rfl hd_x_take (by show 2 + 1 ≤ 5 + d ∧ 8 + (2 + 11) + 43 ≤ 113 + 31 * d; omega)) hK hG hA hP hD hS rfl hl.1 rfl (Nat.le_of_ble_eq_true rfl) dX12_quantified_12 ⟨Nat.le_refl _, Nat.le_refl _⟩ (fun H locs hP hD hS => ?_)
          exact ih.2.1 L r3.2 r h H locs ls hP hD hS (lv_sub hl [0, 1] rfl)
      · intro L σ r h H locs ls hP hD hS hl
        rw [x_GE_12, s_quantified_1] at h
        refine lv_aload_n hx hb dX12_quantified_15 rfl (lv_at hl 0 rfl) ?_
        refine ng_38 hx hb hts in_x_quantified hown hK hP (hts _ (List.mem_cons_of_mem _ (List.mem_append_left _ (List.mem_append_left _ (List.mem_of_getElem? (i := 34) rfl))))) dX12_quantified_16 ?_
        refine lv_istore_n (lv' := [(2, .int (σ.1 38)), (0, .ref (a 0)), (1, .int (L 1))]) hx hb dX12_quantified_19 rfl hl (by decide) rfl (fun ls hl => ?_)
        refine lv_aload_n hx hb dX12_quantified_20 rfl (lv_at hl 1 rfl) ?_
        refine lv_iconst (v := 0) hx hb dX12_quantified_21 (by decide) ?_
        obtain ⟨e1, he1, h⟩ := od_ex h
        obtain ⟨r1, hc1, h⟩ := ob_ex h
        refine nc_Vi (As := [.int 0]) (rest := []) ⟨hx, hb, hml, hown, hts⟩ ((IH k (by omega)).2.2.2.2.1 e1 (upd (fun _ => 0) 1 0) σ r1 hc1 H.size) (cwV 1 hts g_x_quantified_iters_246 rfl rfl rfl hd_x_iters (by show (5 + e1) + 1 ≤ 5 + d ∧ 8 + (12 + 11) + (113 + 31 * e1) ≤ 113 + 31 * d; omega)) hK hG hA hP hD hS rfl hl.1 rfl (Nat.le_of_ble_eq_true rfl) dX12_quantified_22 ⟨Nat.le_refl _, Nat.le_refl _⟩ (fun H locs hP hD hS => ?_)
        refine lv_istore_n (lv' := [(3, .int r1.1), (2, .int (σ.1 38)), (0, .ref (a 0)), (1, .int (L 1))]) hx hb dX12_quantified_25 rfl hl (by decide) rfl (fun ls hl => ?_)
        refine lv_aload_n hx hb dX12_quantified_26 rfl (lv_at hl 2 rfl) ?_
        refine lv_bipush (v := 15) hx hb dX12_quantified_27 (by decide) ?_
        obtain ⟨r2, hc2, h⟩ := ob_ex h
        refine nc_Vv (As := [.int 15]) (rest := []) ⟨hx, hb, hml, hown, hts⟩ (c_x_want l dC dI cy a k (upd (fun _ => 0) 1 15) r1.2 r2 hc2 H.size) (cwV 1 hts g_x_quantified_want_199 rfl rfl rfl hd_x_want (by show 3 + 1 ≤ 5 + d ∧ 8 + (2 + 11) + 64 ≤ 113 + 31 * d; omega)) hK hG hA hP hD hS rfl hl.1 rfl (Nat.le_of_ble_eq_true rfl) dX12_quantified_29 ⟨Nat.le_refl _, Nat.le_refl _⟩ (fun H locs hP hD hS => ?_)
        refine lv_aload_n hx hb dX12_quantified_32 rfl (lv_at hl 2 rfl) ?_
        obtain ⟨e3, he3, h⟩ := od_ex h
        obtain ⟨r3, hc3, h⟩ := ob_ex h
        refine nc_Vi (As := []) (rest := []) ⟨hx, hb, hml, hown, hts⟩ ((IH k (by omega)).2.2.2.1 e3 (fun _ => 0) r2.2 r3 hc3 H.size) (cwV 0 hts g_x_quantified_exp_209 rfl rfl rfl hd_x_exp (by show (5 + e3) + 1 ≤ 5 + d ∧ 8 + (2 + 11) + (113 + 31 * e3) ≤ 113 + 31 * d; omega)) hK hG hA hP hD hS rfl hl.1 rfl (Nat.le_of_ble_eq_true rfl) dX12_quantified_33 ⟨Nat.le_refl _, Nat.le_refl _⟩ (fun H locs hP hD hS => ?_)
        refine lv_istore (lv' := [(4, .int r3.1), (3, .int r1.1), (2, .int (σ.1 38)), (0, .ref (a 0)), (1, .int (L 1))]) hx hb dX12_quantified_36 hl (by decide) rfl (fun ls hl => ?_)
        refine lv_aload_n hx hb dX12_quantified_38 rfl (lv_at hl 3 rfl) ?_
        refine lv_iload_n hx hb dX12_quantified_39 rfl (lv_at hl 2 rfl) ?_
        refine np_38 hx hb hts in_x_quantified hown hK hP hD hS (hts _ (List.mem_cons_of_mem _ (List.mem_append_left _ (List.mem_append_left _ (List.mem_of_getElem? (i := 34) rfl))))) dX12_quantified_40 (fun H locs hP hD hS => ?_)
        exact ih.2.2.1 (upd (upd (upd L 2 ((σ.1 38))) 3 r1.1) 4 r3.1) (upd r3.2.1 38 ((σ.1 38)), r3.2.2.1, r3.2.2.2) r h H locs ls hP hD hS (lv_sub hl [3, 4, 2, 1, 0] rfl)
      · intro L σ r h H locs ls hP hD hS hl
        rw [x_GE_12, s_quantified_2] at h
        refine lv_aload_n hx hb dX12_quantified_43 rfl (lv_at hl 0 rfl) ?_
        refine lv_dup hx hb dX12_quantified_44 rfl ?_
        refine ng_13 hx hb hts in_x_quantified hown hK hP (hts _ (List.mem_cons_of_mem _ (List.mem_append_left _ (List.mem_append_left _ (List.mem_of_getElem? (i := 50) rfl))))) dX12_quantified_45 ?_
        refine lv_iconst (v := 1) hx hb dX12_quantified_48 (by decide) ?_
        refine lv_isub hx hb dX12_quantified_49 ?_
        refine np_13 hx hb hts in_x_quantified hown hK hP hD hS (hts _ (List.mem_cons_of_mem _ (List.mem_append_left _ (List.mem_append_left _ (List.mem_of_getElem? (i := 50) rfl))))) dX12_quantified_50 (fun H locs hP hD hS => ?_)
        exact ih.2.2.2 L (upd σ.1 13 ((((σ.1 13)) - 1)), σ.2.1, σ.2.2) r h H locs ls hP hD hS (lv_sub hl [0, 1, 2, 3, 4] rfl)
      · intro L σ r h H locs ls hP hD hS hl
        rw [x_GE_12, s_quantified_3] at h
        refine lv_aload_n hx hb dX12_quantified_53 rfl (lv_at hl 0 rfl) ?_
        refine lv_bipush (v := 14) hx hb dX12_quantified_54 (by decide) ?_
        refine lv_iload_n hx hb dX12_quantified_56 rfl (lv_at hl 1 rfl) ?_
        refine lv_iload_n hx hb dX12_quantified_57 rfl (lv_at hl 3 rfl) ?_
        refine lv_iload hx hb dX12_quantified_58 (lv_at hl 4 rfl) ?_
        obtain ⟨r1, hc1, h⟩ := ob_ex h
        refine nc_Vi (As := [.int 14, .int (L 1), .int (L 3), .int (L 4)]) (rest := []) ⟨hx, hb, hml, hown, hts⟩ (c_x_node l dC dI cy a k (upd (upd (upd (upd (fun _ => 0) 1 14) 2 ((L 1))) 3 ((L 3))) 4 ((L 4))) σ r1 hc1 H.size) (cwV 4 hts g_x_quantified_node_101 rfl rfl rfl hd_x_node (by show 0 + 1 ≤ 5 + d ∧ 8 + (6 + 11) + 0 ≤ 113 + 31 * d; omega)) hK hG hA hP hD hS rfl hl.1 rfl (Nat.le_of_ble_eq_true rfl) dX12_quantified_60 ⟨Nat.le_refl _, Nat.le_refl _⟩ (fun H locs hP hD hS => ?_)
        cases h
        exact W.iret (v := r1.1) hx hb hr (fun t ht hW => ⟨⟨r1.1, (), rfl, rfl, by rw [ht]; exact hP, va_K.moved hW.alike hK, hD⟩, hS.F ht⟩) hS.2.2 dX12_quantified_63
  exact (blk k0 (Nat.le_refl _)).1 L0 σ0 r0 h0 s.heap [] ls hP hD hS hl
theorem gg_x_relation_isRelation : GoodIn w_x_relation w_x_isRelation := goodIn_sub (fun w h => (List.mem_cons.mp h).elim (fun e => (List.mem_cons_of_mem _ (List.mem_append_left _ (List.mem_append_right _ (List.mem_append_right _ (List.mem_append_right _ (List.mem_append_right _ (List.mem_append_right _ (List.mem_append_right _ (List.mem_append_right _ (List.mem_append_right _ (List.mem_append_right _ (List.mem_append_right _ (List.mem_append_right _ (List.mem_append_right _ (List.mem_append_right _ (List.mem_append_right _ (List.mem_append_right _ (List.mem_append_right _ (List.mem_append_right _ (List.mem_append_right _ (List.mem_append_left _ (List.mem_cons.mpr (Or.inl e)))))))))))))))))))))))) (fun h => (List.mem_append.mp h).elim (fun h => (List.mem_cons_of_mem _ (List.mem_append_left _ (List.mem_append_right _ (List.mem_append_right _ (List.mem_append_right _ (List.mem_append_right _ (List.mem_append_right _ (List.mem_append_right _ (List.mem_append_right _ (List.mem_append_right _ (List.mem_append_right _ (List.mem_append_right _ (List.mem_append_right _ (List.mem_append_right _ (List.mem_append_right _ (List.mem_append_right _ (List.mem_append_right _ (List.mem_append_right _ (List.mem_append_right _ (List.mem_append_right _ (List.mem_append_left _ (List.mem_cons_of_mem _ h))))))))))))))))))))))) (fun h => List.mem_cons_of_mem _ (List.mem_append_right _ h)))) w_x_isRelation_good
theorem g_x_relation_isRelation_183 : GoodIn w_x_relation (wsV RX12 183 RX12 yX12_isRelation w_x_isRelation) := goodIn_app (nb_g4 (List.mem_cons_of_mem _ (List.mem_append_left _ (List.mem_append_left _ (List.mem_of_getElem? (i := 127) rfl)))) (List.mem_cons_of_mem _ (List.mem_append_left _ (List.mem_append_left _ (List.mem_of_getElem? (i := 128) rfl)))) (List.mem_cons_of_mem _ (List.mem_append_left _ (List.mem_append_left _ (List.mem_of_getElem? (i := 129) rfl)))) (List.mem_cons_of_mem _ (List.mem_append_left _ (List.mem_append_left _ (List.mem_of_getElem? (i := 20) rfl)))) (by decide +kernel)) gg_x_relation_isRelation
theorem gg_x_relation_operator : GoodIn w_x_relation w_x_operator := goodIn_sub (fun w h => (List.mem_cons.mp h).elim (fun e => (List.mem_cons_of_mem _ (List.mem_append_left _ (List.mem_append_right _ (List.mem_append_right _ (List.mem_append_right _ (List.mem_append_right _ (List.mem_append_right _ (List.mem_append_right _ (List.mem_append_right _ (List.mem_append_right _ (List.mem_append_right _ (List.mem_append_right _ (List.mem_append_right _ (List.mem_append_right _ (List.mem_append_right _ (List.mem_append_right _ (List.mem_append_right _ (List.mem_append_right _ (List.mem_append_left _ (List.mem_cons.mpr (Or.inl e)))))))))))))))))))))) (fun h => (List.mem_append.mp h).elim (fun h => (List.mem_cons_of_mem _ (List.mem_append_left _ (List.mem_append_right _ (List.mem_append_right _ (List.mem_append_right _ (List.mem_append_right _ (List.mem_append_right _ (List.mem_append_right _ (List.mem_append_right _ (List.mem_append_right _ (List.mem_append_right _ (List.mem_append_right _ (List.mem_append_right _ (List.mem_append_right _ (List.mem_append_right _ (List.mem_append_right _ (List.mem_append_right _ (List.mem_append_right _ (List.mem_append_left _ (List.mem_cons_of_mem _ h))))))))))))))))))))) (fun h => List.mem_cons_of_mem _ (List.mem_append_right _ h)))) w_x_operator_good
theorem g_x_relation_operator_187 : GoodIn w_x_relation (wsV RX12 187 RX12 yX12_operator w_x_operator) := goodIn_app (nb_g4 (List.mem_cons_of_mem _ (List.mem_append_left _ (List.mem_append_left _ (List.mem_of_getElem? (i := 104) rfl)))) (List.mem_cons_of_mem _ (List.mem_append_left _ (List.mem_append_left _ (List.mem_of_getElem? (i := 105) rfl)))) (List.mem_cons_of_mem _ (List.mem_append_left _ (List.mem_append_left _ (List.mem_of_getElem? (i := 106) rfl)))) (List.mem_cons_of_mem _ (List.mem_append_left _ (List.mem_append_left _ (List.mem_of_getElem? (i := 20) rfl)))) (by decide +kernel)) gg_x_relation_operator
theorem gg_x_relation_over : GoodIn w_x_relation w_x_over := goodIn_sub (fun w h => (List.mem_cons.mp h).elim (fun e => (List.mem_cons_of_mem _ (List.mem_append_left _ (List.mem_append_right _ (List.mem_append_right _ (List.mem_append_right _ (List.mem_append_right _ (List.mem_append_right _ (List.mem_append_right _ (List.mem_append_right _ (List.mem_append_right _ (List.mem_append_right _ (List.mem_append_left _ (List.mem_cons.mpr (Or.inl e))))))))))))))) (fun h => (List.mem_append.mp h).elim (fun h => (List.mem_cons_of_mem _ (List.mem_append_left _ (List.mem_append_right _ (List.mem_append_right _ (List.mem_append_right _ (List.mem_append_right _ (List.mem_append_right _ (List.mem_append_right _ (List.mem_append_right _ (List.mem_append_right _ (List.mem_append_right _ (List.mem_append_left _ (List.mem_cons_of_mem _ h)))))))))))))) (fun h => List.mem_cons_of_mem _ (List.mem_append_right _ h)))) w_x_over_good
theorem g_x_relation_over_168 : GoodIn w_x_relation (wsV RX12 168 RX12 yX12_over w_x_over) := goodIn_app (nb_g4 (List.mem_cons_of_mem _ (List.mem_append_left _ (List.mem_append_left _ (List.mem_of_getElem? (i := 58) rfl)))) (List.mem_cons_of_mem _ (List.mem_append_left _ (List.mem_append_left _ (List.mem_of_getElem? (i := 59) rfl)))) (List.mem_cons_of_mem _ (List.mem_append_left _ (List.mem_append_left _ (List.mem_of_getElem? (i := 60) rfl)))) (List.mem_cons_of_mem _ (List.mem_append_left _ (List.mem_append_left _ (List.mem_of_getElem? (i := 20) rfl)))) (by decide +kernel)) gg_x_relation_over
theorem gg_x_relation_sum : GoodIn w_x_relation w_x_sum := goodIn_sub (fun w h => (List.mem_cons.mp h).elim (fun e => e ▸ (List.mem_cons_of_mem _ (List.mem_append_left _ (List.mem_append_left _ (List.mem_of_getElem? (i := 14) rfl))))) (fun h => List.mem_cons_of_mem _ h)) w_x_sum_good
theorem g_x_relation_sum_180 : GoodIn w_x_relation (wsV RX12 180 RX12 yX12_sum w_x_sum) := goodIn_app (nb_g4 (List.mem_cons_of_mem _ (List.mem_append_left _ (List.mem_append_left _ (List.mem_of_getElem? (i := 71) rfl)))) (List.mem_cons_of_mem _ (List.mem_append_left _ (List.mem_append_left _ (List.mem_of_getElem? (i := 72) rfl)))) (List.mem_cons_of_mem _ (List.mem_append_left _ (List.mem_append_left _ (List.mem_of_getElem? (i := 73) rfl)))) (List.mem_cons_of_mem _ (List.mem_append_left _ (List.mem_append_left _ (List.mem_of_getElem? (i := 20) rfl)))) (by decide +kernel)) gg_x_relation_sum
theorem gg_x_relation_take : GoodIn w_x_relation w_x_take := goodIn_sub (fun w h => (List.mem_cons.mp h).elim (fun e => (List.mem_cons_of_mem _ (List.mem_append_left _ (List.mem_append_right _ (List.mem_append_right _ (List.mem_append_right _ (List.mem_append_left _ (List.mem_cons.mpr (Or.inl e))))))))) (fun h => (List.mem_append.mp h).elim (fun h => (List.mem_cons_of_mem _ (List.mem_append_left _ (List.mem_append_right _ (List.mem_append_right _ (List.mem_append_right _ (List.mem_append_left _ (List.mem_cons_of_mem _ h)))))))) (fun h => List.mem_cons_of_mem _ (List.mem_append_right _ h)))) w_x_take_good
theorem g_x_relation_take_71 : GoodIn w_x_relation (wsV RX12 71 RX12 yX12_take w_x_take) := goodIn_app (nb_g4 (List.mem_cons_of_mem _ (List.mem_append_left _ (List.mem_append_left _ (List.mem_of_getElem? (i := 25) rfl)))) (List.mem_cons_of_mem _ (List.mem_append_left _ (List.mem_append_left _ (List.mem_of_getElem? (i := 26) rfl)))) (List.mem_cons_of_mem _ (List.mem_append_left _ (List.mem_append_left _ (List.mem_of_getElem? (i := 27) rfl)))) (List.mem_cons_of_mem _ (List.mem_append_left _ (List.mem_append_left _ (List.mem_of_getElem? (i := 20) rfl)))) (by decide +kernel)) gg_x_relation_take
set_option maxHeartbeats 40000000 in
set_option maxRecDepth 100000 in
theorem c_s_relation (l : Launch) (dC : Nat → ClassId) (dI : Nat → Nat → Nat) (cy : Nat → ClassId) (a : Nat → Nat) (k0 : Nat) (IH : ∀ j : Nat, j < k0 → P_GE l dC dI cy a j) (d : Nat) (L0 : Nat → Int32) (σ0 : MS) (r0 : Int32 × MS) (h0 : x_GE k0 d 13 0 L0 σ0 = some r0) (sz : Nat) : Met l yX12_relation w_x_relation ({ frames := 5 + d, cells := 0, slots := 0, locals := 113 + 31 * d }) (va_Pc [.ref (a 0)] (nIn (dC, dI) cy sz (vM cy a σ0))) (va_Qi (fun (z : Int32) (_ : Unit) => z = r0.1) (fun _ t => nOut (dC, dI) cy (va_A (vM cy a σ0) sz) (vM cy a r0.2) t) (va_A (vM cy a σ0) sz)) 0 0 (va_A (vM cy a σ0) sz) := by
  refine Met.ofW (cc := cX12_relation) (maxL := 3) (ret := (some .int)) (by decide) rfl ?_
  intro p e s m args below meth c s₁ B hml hv
  obtain ⟨rfl, hsz, hP, hK, hD0, hG⟩ := hv
  have hx := B.exec
  have hb := B.bytes
  have hr := B.returns
  have hts := atoms_spec (ws := w_x_relation) B.pre
  have hown : s.vm.findClass RX12 = some m.cls := findClass_of_methodNamed B.named
  have hlocks := B.notSynchronized
  subst hsz
  have hD := hD0.self (sz := s.heap.size)
  generalize hAe : va_A (vM cy a σ0) s.heap.size = A at hD ⊢
  have hA : ∀ q : Nat, s.heap.size ≤ q → A q := fun q h => by rw [← hAe]; exact Or.inr h
  have hS : va_S A s.heap s.heap [] := va_S.rf
  have hl := lv_entry ([.ref (a 0)]) (n := 3) (Nat.le_of_ble_eq_true rfl)
  rw [lg_entry_eq]
  generalize (lg_sl ([.ref (a 0)]) ++ List.replicate (3 - (lg_sl ([.ref (a 0)])).length) Slot.unset).toArray = ls at hl ⊢
  have hl : lv_has ls 3 [(0, .ref (a 0))] := hl
  have blk : ∀ k : Nat, k ≤ k0 → (bT p l e (headSpec w_x_relation ({ frames := 5 + d, cells := 0, slots := 0, locals := 113 + 31 * d })).room s m #[.ref (a 0)] below meth c dC dI cy a A (qI dC dI cy a A below #[.ref (a 0)] s) 3 (x_GE k d 13 0) (fun L => [(0, .ref (a 0))]) 0 (fun L => [])) ∧ (bT p l e (headSpec w_x_relation ({ frames := 5 + d, cells := 0, slots := 0, locals := 113 + 31 * d })).room s m #[.ref (a 0)] below meth c dC dI cy a A (qI dC dI cy a A below #[.ref (a 0)] s) 3 (x_GE k d 13 1) (fun L => [(0, .ref (a 0)), (1, .int (L 1))]) 41 (fun L => [])) := by
    intro k
    induction k with
    | zero => exact fun _ => ⟨fun L σ r h => (by cases h), fun L σ r h => (by cases h)⟩
    | succ k ih =>
      intro hk
      replace ih := ih (by omega)
      refine ⟨?_, ?_⟩
      · intro L σ r h H locs ls hP hD hS hl
        rw [x_GE_13, s_relation_0] at h
        refine lv_aload_n hx hb dX12_relation_0 rfl (lv_at hl 0 rfl) ?_
        obtain ⟨e1, he1, h⟩ := od_ex h
        obtain ⟨r1, hc1, h⟩ := ob_ex h
        refine nc_Vi (As := []) (rest := []) ⟨hx, hb, hml, hown, hts⟩ ((IH k (by omega)).2.2.2.2.2.2.2.2.2.2.2.2.2.2.1 e1 (fun _ => 0) σ r1 hc1 H.size) (cwV 0 hts g_x_relation_sum_180 rfl rfl rfl hd_x_sum (by show (5 + e1) + 1 ≤ 5 + d ∧ 8 + (3 + 11) + (113 + 31 * e1) ≤ 113 + 31 * d; omega)) hK hG hA hP hD hS rfl hl.1 rfl (Nat.le_of_ble_eq_true rfl) dX12_relation_1 ⟨Nat.le_refl _, Nat.le_refl _⟩ (fun H locs hP hD hS => ?_)
        refine lv_istore_n (lv' := [(1, .int r1.1), (0, .ref (a 0))]) hx hb dX12_relation_4 rfl hl (by decide) rfl (fun ls hl => ?_)
        refine lv_aload_n hx hb dX12_relation_5 rfl (lv_at hl 1 rfl) ?_
        refine ng_10 hx hb hts in_x_relation hown hK hP (hts _ (List.mem_cons_of_mem _ (List.mem_append_left _ (List.mem_append_left _ (List.mem_of_getElem? (i := 24) rfl))))) dX12_relation_6 ?_
        refine lv_if_ne (tgt := 41) hx hb dX12_relation_9 (by decide) (fun c2 => ?_) (fun c2 => ?_)
        · rw [if_neg c2] at h
          exact ih.2 (upd L 1 r1.1) r1.2 r h H locs ls hP hD hS (lv_sub hl [1, 0] rfl)
        · rw [if_pos c2] at h
          refine lv_aload_n hx hb dX12_relation_12 rfl (lv_at hl 1 rfl) ?_
          obtain ⟨r3, hc3, h⟩ := ob_ex h
          refine nc_Vi (As := []) (rest := []) ⟨hx, hb, hml, hown, hts⟩ (c_x_isRelation l dC dI cy a k (fun _ => 0) r1.2 r3 hc3 H.size) (cwV 0 hts g_x_relation_isRelation_183 rfl rfl rfl hd_x_isRelation (by show 1 + 1 ≤ 5 + d ∧ 8 + (1 + 11) + 21 ≤ 113 + 31 * d; omega)) hK hG hA hP hD hS rfl hl.1 rfl (Nat.le_of_ble_eq_true rfl) dX12_relation_13 ⟨Nat.le_refl _, Nat.le_refl _⟩ (fun H locs hP hD hS => ?_)
          refine lv_if_eq (tgt := 41) hx hb dX12_relation_16 (by decide) (fun c4 => ?_) (fun c4 => ?_)
          · rw [if_pos c4] at h
            exact ih.2 (upd L 1 r1.1) r3.2 r h H locs ls hP hD hS (lv_sub hl [1, 0] rfl)
          · rw [if_neg c4] at h
            refine lv_aload_n hx hb dX12_relation_19 rfl (lv_at hl 1 rfl) ?_
            obtain ⟨r5, hc5, h⟩ := ob_ex h
            refine nc_Vi (As := []) (rest := []) ⟨hx, hb, hml, hown, hts⟩ (c_x_operator l dC dI cy a k (fun _ => 0) r3.2 r5 hc5 H.size) (cwV 0 hts g_x_relation_operator_187 rfl rfl rfl hd_x_operator (by show 0 + 1 ≤ 5 + d ∧ 8 + (1 + 11) + 0 ≤ 113 + 31 * d; omega)) hK hG hA hP hD hS rfl hl.1 rfl (Nat.le_of_ble_eq_true rfl) dX12_relation_20 ⟨Nat.le_refl _, Nat.le_refl _⟩ (fun H locs hP hD hS => ?_)
            refine lv_istore_n (lv' := [(2, .int r5.1), (1, .int r1.1), (0, .ref (a 0))]) hx hb dX12_relation_23 rfl hl (by decide) rfl (fun ls hl => ?_)
            refine lv_aload_n hx hb dX12_relation_24 rfl (lv_at hl 2 rfl) ?_
            obtain ⟨r6, hc6, h⟩ := ob_ex h
            refine nc_Vv (As := []) (rest := []) ⟨hx, hb, hml, hown, hts⟩ (c_x_take l dC dI cy a k (fun _ => 0) r5.2 r6 hc6 H.size) (cwV 0 hts g_x_relation_take_71 rfl rfl rfl hd_x_take (by show 2 + 1 ≤ 5 + d ∧ 8 + (2 + 11) + 43 ≤ 113 + 31 * d; omega)) hK hG hA hP hD hS rfl hl.1 rfl (Nat.le_of_ble_eq_true rfl) dX12_relation_25 ⟨Nat.le_refl _, Nat.le_refl _⟩ (fun H locs hP hD hS => ?_)
            refine lv_aload_n hx hb dX12_relation_28 rfl (lv_at hl 2 rfl) ?_
            refine lv_bipush (v := 16) hx hb dX12_relation_29 (by decide) ?_
            refine lv_iload_n hx hb dX12_relation_31 rfl (lv_at hl 0 rfl) ?_
            refine lv_iload_n hx hb dX12_relation_32 rfl (lv_at hl 1 rfl) ?_
            refine lv_aload_n hx hb dX12_relation_33 rfl (lv_at hl 2 rfl) ?_
            obtain ⟨e7, he7, h⟩ := od_ex h
            obtain ⟨r7, hc7, h⟩ := ob_ex h
            refine nc_Vi (As := []) (rest := [.int r1.1, .int r5.1, .int 16, .ref (a 0)]) ⟨hx, hb, hml, hown, hts⟩ ((IH k (by omega)).2.2.2.2.2.2.2.2.2.2.2.2.2.2.1 e7 (fun _ => 0) r6.2 r7 hc7 H.size) (cwV 0 hts g_x_relation_sum_180 rfl rfl rfl hd_x_sum (by show (5 + e7) + 1 ≤ 5 + d ∧ 8 + (3 + 11) + (113 + 31 * e7) ≤ 113 + 31 * d; omega)) hK hG hA hP hD hS rfl hl.1 rfl (Nat.le_of_ble_eq_true rfl) dX12_relation_34 ⟨Nat.le_refl _, Nat.le_refl _⟩ (fun H locs hP hD hS => ?_)
            obtain ⟨r8, hc8, h⟩ := ob_ex h
            refine nc_Vi (As := [.int 16, .int r5.1, .int r1.1, .int r7.1]) (rest := []) ⟨hx, hb, hml, hown, hts⟩ (c_x_over l dC dI cy a k (upd (upd (upd (upd (fun _ => 0) 1 16) 2 r5.1) 3 r1.1) 4 r7.1) r7.2 r8 hc8 H.size) (cwV 4 hts g_x_relation_over_168 rfl rfl rfl hd_x_over (by show 1 + 1 ≤ 5 + d ∧ 8 + (6 + 11) + 25 ≤ 113 + 31 * d; omega)) hK hG hA hP hD hS rfl hl.1 rfl (Nat.le_of_ble_eq_true rfl) dX12_relation_37 ⟨Nat.le_refl _, Nat.le_refl _⟩ (fun H locs hP hD hS => ?_)
            refine lv_istore_n (lv' := [(1, .int r8.1), (2, .int r5.1), (0, .ref (a 0))]) hx hb dX12_relation_40 rfl hl (by decide) rfl (fun ls hl => ?_)
            exact ih.2 (upd (upd L 1 r8.1) 2 r5.1) r8.2 r h H locs ls hP hD hS (lv_sub hl [2, 0] rfl)
      · intro L σ r h H locs ls hP hD hS hl
        rw [x_GE_13, s_relation_1] at h
        refine lv_iload_n hx hb dX12_relation_41 rfl (lv_at hl 1 rfl) ?_
        cases h
        exact W.iret (v := (L 1)) hx hb hr (fun t ht hW => ⟨⟨(L 1), (), rfl, rfl, by rw [ht]; exact hP, va_K.moved hW.alike hK, hD⟩, hS.F ht⟩) hS.2.2 dX12_relation_42
  exact (blk k0 (Nat.le_refl _)).1 L0 σ0 r0 h0 s.heap [] ls hP hD hS hl
theorem gg_x_sum_isSign : GoodIn w_x_sum w_x_isSign := goodIn_sub (fun w h => (List.mem_cons.mp h).elim (fun e => (List.mem_cons_of_mem _ (List.mem_append_left _ (List.mem_append_right _ (List.mem_append_left _ (List.mem_cons.mpr (Or.inl e))))))) (fun h => (List.mem_append.mp h).elim (fun h => (List.mem_cons_of_mem _ (List.mem_append_left _ (List.mem_append_right _ (List.mem_append_left _ (List.mem_cons_of_mem _ h)))))) (fun h => List.mem_cons_of_mem _ (List.mem_append_right _ h)))) w_x_isSign_good
theorem g_x_sum_isSign_65 : GoodIn w_x_sum (wsV RX12 65 RX12 yX12_isSign w_x_isSign) := goodIn_app (nb_g4 (List.mem_cons_of_mem _ (List.mem_append_left _ (List.mem_append_left _ (List.mem_of_getElem? (i := 17) rfl)))) (List.mem_cons_of_mem _ (List.mem_append_left _ (List.mem_append_left _ (List.mem_of_getElem? (i := 18) rfl)))) (List.mem_cons_of_mem _ (List.mem_append_left _ (List.mem_append_left _ (List.mem_of_getElem? (i := 19) rfl)))) (List.mem_cons_of_mem _ (List.mem_append_left _ (List.mem_append_left _ (List.mem_of_getElem? (i := 20) rfl)))) (by decide +kernel)) gg_x_sum_isSign
theorem gg_x_sum_operator : GoodIn w_x_sum w_x_operator := goodIn_sub (fun w h => (List.mem_cons.mp h).elim (fun e => (List.mem_cons_of_mem _ (List.mem_append_left _ (List.mem_append_right _ (List.mem_append_right _ (List.mem_append_right _ (List.mem_append_right _ (List.mem_append_right _ (List.mem_append_right _ (List.mem_append_right _ (List.mem_append_right _ (List.mem_append_right _ (List.mem_append_right _ (List.mem_append_right _ (List.mem_append_right _ (List.mem_append_right _ (List.mem_append_right _ (List.mem_append_right _ (List.mem_append_right _ (List.mem_append_left _ (List.mem_cons.mpr (Or.inl e)))))))))))))))))))))) (fun h => (List.mem_append.mp h).elim (fun h => (List.mem_cons_of_mem _ (List.mem_append_left _ (List.mem_append_right _ (List.mem_append_right _ (List.mem_append_right _ (List.mem_append_right _ (List.mem_append_right _ (List.mem_append_right _ (List.mem_append_right _ (List.mem_append_right _ (List.mem_append_right _ (List.mem_append_right _ (List.mem_append_right _ (List.mem_append_right _ (List.mem_append_right _ (List.mem_append_right _ (List.mem_append_right _ (List.mem_append_right _ (List.mem_append_left _ (List.mem_cons_of_mem _ h))))))))))))))))))))) (fun h => List.mem_cons_of_mem _ (List.mem_append_right _ h)))) w_x_operator_good
theorem g_x_sum_operator_187 : GoodIn w_x_sum (wsV RX12 187 RX12 yX12_operator w_x_operator) := goodIn_app (nb_g4 (List.mem_cons_of_mem _ (List.mem_append_left _ (List.mem_append_left _ (List.mem_of_getElem? (i := 104) rfl)))) (List.mem_cons_of_mem _ (List.mem_append_left _ (List.mem_append_left _ (List.mem_of_getElem? (i := 105) rfl)))) (List.mem_cons_of_mem _ (List.mem_append_left _ (List.mem_append_left _ (List.mem_of_getElem? (i := 106) rfl)))) (List.mem_cons_of_mem _ (List.mem_append_left _ (List.mem_append_left _ (List.mem_of_getElem? (i := 20) rfl)))) (by decide +kernel)) gg_x_sum_operator
theorem gg_x_sum_over : GoodIn w_x_sum w_x_over := goodIn_sub (fun w h => (List.mem_cons.mp h).elim (fun e => (List.mem_cons_of_mem _ (List.mem_append_left _ (List.mem_append_right _ (List.mem_append_right _ (List.mem_append_right _ (List.mem_append_right _ (List.mem_append_right _ (List.mem_append_right _ (List.mem_append_right _ (List.mem_append_right _ (List.mem_append_right _ (List.mem_append_left _ (List.mem_cons.mpr (Or.inl e))))))))))))))) (fun h => (List.mem_append.mp h).elim (fun h => (List.mem_cons_of_mem _ (List.mem_append_left _ (List.mem_append_right _ (List.mem_append_right _ (List.mem_append_right _ (List.mem_append_right _ (List.mem_append_right _ (List.mem_append_right _ (List.mem_append_right _ (List.mem_append_right _ (List.mem_append_right _ (List.mem_append_left _ (List.mem_cons_of_mem _ h)))))))))))))) (fun h => List.mem_cons_of_mem _ (List.mem_append_right _ h)))) w_x_over_good
theorem g_x_sum_over_168 : GoodIn w_x_sum (wsV RX12 168 RX12 yX12_over w_x_over) := goodIn_app (nb_g4 (List.mem_cons_of_mem _ (List.mem_append_left _ (List.mem_append_left _ (List.mem_of_getElem? (i := 58) rfl)))) (List.mem_cons_of_mem _ (List.mem_append_left _ (List.mem_append_left _ (List.mem_of_getElem? (i := 59) rfl)))) (List.mem_cons_of_mem _ (List.mem_append_left _ (List.mem_append_left _ (List.mem_of_getElem? (i := 60) rfl)))) (List.mem_cons_of_mem _ (List.mem_append_left _ (List.mem_append_left _ (List.mem_of_getElem? (i := 20) rfl)))) (by decide +kernel)) gg_x_sum_over
theorem gg_x_sum_take : GoodIn w_x_sum w_x_take := goodIn_sub (fun w h => (List.mem_cons.mp h).elim (fun e => (List.mem_cons_of_mem _ (List.mem_append_left _ (List.mem_append_right _ (List.mem_append_right _ (List.mem_append_right _ (List.mem_append_left _ (List.mem_cons.mpr (Or.inl e))))))))) (fun h => (List.mem_append.mp h).elim (fun h => (List.mem_cons_of_mem _ (List.mem_append_left _ (List.mem_append_right _ (List.mem_append_right _ (List.mem_append_right _ (List.mem_append_left _ (List.mem_cons_of_mem _ h)))))))) (fun h => List.mem_cons_of_mem _ (List.mem_append_right _ h)))) w_x_take_good
theorem g_x_sum_take_71 : GoodIn w_x_sum (wsV RX12 71 RX12 yX12_take w_x_take) := goodIn_app (nb_g4 (List.mem_cons_of_mem _ (List.mem_append_left _ (List.mem_append_left _ (List.mem_of_getElem? (i := 25) rfl)))) (List.mem_cons_of_mem _ (List.mem_append_left _ (List.mem_append_left _ (List.mem_of_getElem? (i := 26) rfl)))) (List.mem_cons_of_mem _ (List.mem_append_left _ (List.mem_append_left _ (List.mem_of_getElem? (i := 27) rfl)))) (List.mem_cons_of_mem _ (List.mem_append_left _ (List.mem_append_left _ (List.mem_of_getElem? (i := 20) rfl)))) (by decide +kernel)) gg_x_sum_take
theorem gg_x_sum_term : GoodIn w_x_sum w_x_term := goodIn_sub (fun w h => (List.mem_cons.mp h).elim (fun e => e ▸ (List.mem_cons_of_mem _ (List.mem_append_left _ (List.mem_append_left _ (List.mem_of_getElem? (i := 15) rfl))))) (fun h => List.mem_cons_of_mem _ h)) w_x_term_good
theorem g_x_sum_term_190 : GoodIn w_x_sum (wsV RX12 190 RX12 yX12_term w_x_term) := goodIn_app (nb_g4 (List.mem_cons_of_mem _ (List.mem_append_left _ (List.mem_append_left _ (List.mem_of_getElem? (i := 130) rfl)))) (List.mem_cons_of_mem _ (List.mem_append_left _ (List.mem_append_left _ (List.mem_of_getElem? (i := 131) rfl)))) (List.mem_cons_of_mem _ (List.mem_append_left _ (List.mem_append_left _ (List.mem_of_getElem? (i := 132) rfl)))) (List.mem_cons_of_mem _ (List.mem_append_left _ (List.mem_append_left _ (List.mem_of_getElem? (i := 20) rfl)))) (by decide +kernel)) gg_x_sum_term
set_option maxHeartbeats 40000000 in
set_option maxRecDepth 100000 in
theorem c_s_sum (l : Launch) (dC : Nat → ClassId) (dI : Nat → Nat → Nat) (cy : Nat → ClassId) (a : Nat → Nat) (k0 : Nat) (IH : ∀ j : Nat, j < k0 → P_GE l dC dI cy a j) (d : Nat) (L0 : Nat → Int32) (σ0 : MS) (r0 : Int32 × MS) (h0 : x_GE k0 d 14 0 L0 σ0 = some r0) (sz : Nat) : Met l yX12_sum w_x_sum ({ frames := 5 + d, cells := 0, slots := 0, locals := 113 + 31 * d }) (va_Pc [.ref (a 0)] (nIn (dC, dI) cy sz (vM cy a σ0))) (va_Qi (fun (z : Int32) (_ : Unit) => z = r0.1) (fun _ t => nOut (dC, dI) cy (va_A (vM cy a σ0) sz) (vM cy a r0.2) t) (va_A (vM cy a σ0) sz)) 0 0 (va_A (vM cy a σ0) sz) := by
  refine Met.ofW (cc := cX12_sum) (maxL := 3) (ret := (some .int)) (by decide) rfl ?_
  intro p e s m args below meth c s₁ B hml hv
  obtain ⟨rfl, hsz, hP, hK, hD0, hG⟩ := hv
  have hx := B.exec
  have hb := B.bytes
  have hr := B.returns
  have hts := atoms_spec (ws := w_x_sum) B.pre
  have hown : s.vm.findClass RX12 = some m.cls := findClass_of_methodNamed B.named
  have hlocks := B.notSynchronized
  subst hsz
  have hD := hD0.self (sz := s.heap.size)
  generalize hAe : va_A (vM cy a σ0) s.heap.size = A at hD ⊢
  have hA : ∀ q : Nat, s.heap.size ≤ q → A q := fun q h => by rw [← hAe]; exact Or.inr h
  have hS : va_S A s.heap s.heap [] := va_S.rf
  have hl := lv_entry ([.ref (a 0)]) (n := 3) (Nat.le_of_ble_eq_true rfl)
  rw [lg_entry_eq]
  generalize (lg_sl ([.ref (a 0)]) ++ List.replicate (3 - (lg_sl ([.ref (a 0)])).length) Slot.unset).toArray = ls at hl ⊢
  have hl : lv_has ls 3 [(0, .ref (a 0))] := hl
  have blk : ∀ k : Nat, k ≤ k0 → (bT p l e (headSpec w_x_sum ({ frames := 5 + d, cells := 0, slots := 0, locals := 113 + 31 * d })).room s m #[.ref (a 0)] below meth c dC dI cy a A (qI dC dI cy a A below #[.ref (a 0)] s) 3 (x_GE k d 14 0) (fun L => [(0, .ref (a 0))]) 0 (fun L => [])) ∧ (bT p l e (headSpec w_x_sum ({ frames := 5 + d, cells := 0, slots := 0, locals := 113 + 31 * d })).room s m #[.ref (a 0)] below meth c dC dI cy a A (qI dC dI cy a A below #[.ref (a 0)] s) 3 (x_GE k d 14 1) (fun L => [(0, .ref (a 0)), (1, .int (L 1))]) 5 (fun L => [])) ∧ (bT p l e (headSpec w_x_sum ({ frames := 5 + d, cells := 0, slots := 0, locals := 113 + 31 * d })).room s m #[.ref (a 0)] below meth c dC dI cy a A (qI dC dI cy a A below #[.ref (a 0)] s) 3 (x_GE k d 14 2) (fun L => [(0, .ref (a 0)), (1, .int (L 1))]) 28 (fun L => [])) ∧ (bT p l e (headSpec w_x_sum ({ frames := 5 + d, cells := 0, slots := 0, locals := 113 + 31 * d })).room s m #[.ref (a 0)] below meth c dC dI cy a A (qI dC dI cy a A below #[.ref (a 0)] s) 3 (x_GE k d 14 3) (fun L => [(0, .ref (a 0)), (1, .int (L 1))]) 53 (fun L => [])) := by
    intro k
    induction k with
    | zero => exact fun _ => ⟨fun L σ r h => (by cases h), fun L σ r h => (by cases h), fun L σ r h => (by cases h), fun L σ r h => (by cases h)⟩
    | succ k ih =>
      intro hk
      replace ih := ih (by omega)
      refine ⟨?_, ?_, ?_, ?_⟩
      · intro L σ r h H locs ls hP hD hS hl
        rw [x_GE_14, s_sum_0] at h
        refine lv_aload_n hx hb dX12_sum_0 rfl (lv_at hl 0 rfl) ?_
        obtain ⟨e1, he1, h⟩ := od_ex h
        obtain ⟨r1, hc1, h⟩ := ob_ex h
        refine nc_Vi (As := []) (rest := []) ⟨hx, hb, hml, hown, hts⟩ ((IH k (by omega)).2.2.2.2.2.2.2.2.2.2.2.2.2.2.2.1 e1 (fun _ => 0) σ r1 hc1 H.size) (cwV 0 hts g_x_sum_term_190 rfl rfl rfl hd_x_term (by show (5 + e1) + 1 ≤ 5 + d ∧ 8 + (3 + 11) + (113 + 31 * e1) ≤ 113 + 31 * d; omega)) hK hG hA hP hD hS rfl hl.1 rfl (Nat.le_of_ble_eq_true rfl) dX12_sum_1 ⟨Nat.le_refl _, Nat.le_refl _⟩ (fun H locs hP hD hS => ?_)
        refine lv_istore_n (lv' := [(1, .int r1.1), (0, .ref (a 0))]) hx hb dX12_sum_4 rfl hl (by decide) rfl (fun ls hl => ?_)
        exact ih.2.1 (upd L 1 r1.1) r1.2 r h H locs ls hP hD hS (lv_sub hl [1, 0] rfl)
      · intro L σ r h H locs ls hP hD hS hl
        rw [x_GE_14, s_sum_1] at h
        refine lv_aload_n hx hb dX12_sum_5 rfl (lv_at hl 0 rfl) ?_
        refine ng_10 hx hb hts in_x_sum hown hK hP (hts _ (List.mem_cons_of_mem _ (List.mem_append_left _ (List.mem_append_left _ (List.mem_of_getElem? (i := 24) rfl))))) dX12_sum_6 ?_
        refine lv_if_ne (tgt := 53) hx hb dX12_sum_9 (by decide) (fun c1 => ?_) (fun c1 => ?_)
        · rw [if_neg c1] at h
          exact ih.2.2.2 L σ r h H locs ls hP hD hS (lv_sub hl [0, 1] rfl)
        · rw [if_pos c1] at h
          refine lv_aload_n hx hb dX12_sum_12 rfl (lv_at hl 0 rfl) ?_
          refine lv_iconst (v := 2) hx hb dX12_sum_13 (by decide) ?_
          obtain ⟨r2, hc2, h⟩ := ob_ex h
          refine nc_Vi (As := [.int 2]) (rest := []) ⟨hx, hb, hml, hown, hts⟩ (c_x_isSign l dC dI cy a k (upd (fun _ => 0) 1 2) σ r2 hc2 H.size) (cwV 1 hts g_x_sum_isSign_65 rfl rfl rfl hd_x_isSign (by show 0 + 1 ≤ 5 + d ∧ 8 + (2 + 11) + 0 ≤ 113 + 31 * d; omega)) hK hG hA hP hD hS rfl hl.1 rfl (Nat.le_of_ble_eq_true rfl) dX12_sum_14 ⟨Nat.le_refl _, Nat.le_refl _⟩ (fun H locs hP hD hS => ?_)
          refine lv_if_ne (tgt := 28) hx hb dX12_sum_17 (by decide) (fun c3 => ?_) (fun c3 => ?_)
          · rw [if_neg c3] at h
            exact ih.2.2.1 L r2.2 r h H locs ls hP hD hS (lv_sub hl [0, 1] rfl)
          · rw [if_pos c3] at h
            refine lv_aload_n hx hb dX12_sum_20 rfl (lv_at hl 0 rfl) ?_
            refine lv_iconst (v := 3) hx hb dX12_sum_21 (by decide) ?_
            obtain ⟨r4, hc4, h⟩ := ob_ex h
            refine nc_Vi (As := [.int 3]) (rest := []) ⟨hx, hb, hml, hown, hts⟩ (c_x_isSign l dC dI cy a k (upd (fun _ => 0) 1 3) r2.2 r4 hc4 H.size) (cwV 1 hts g_x_sum_isSign_65 rfl rfl rfl hd_x_isSign (by show 0 + 1 ≤ 5 + d ∧ 8 + (2 + 11) + 0 ≤ 113 + 31 * d; omega)) hK hG hA hP hD hS rfl hl.1 rfl (Nat.le_of_ble_eq_true rfl) dX12_sum_22 ⟨Nat.le_refl _, Nat.le_refl _⟩ (fun H locs hP hD hS => ?_)
            refine lv_if_eq (tgt := 53) hx hb dX12_sum_25 (by decide) (fun c5 => ?_) (fun c5 => ?_)
            · rw [if_pos c5] at h
              exact ih.2.2.2 L r4.2 r h H locs ls hP hD hS (lv_sub hl [0, 1] rfl)
            · rw [if_neg c5] at h
              exact ih.2.2.1 L r4.2 r h H locs ls hP hD hS (lv_sub hl [0, 1] rfl)
      · intro L σ r h H locs ls hP hD hS hl
        rw [x_GE_14, s_sum_2] at h
        refine lv_aload_n hx hb dX12_sum_28 rfl (lv_at hl 0 rfl) ?_
        obtain ⟨r1, hc1, h⟩ := ob_ex h
        refine nc_Vi (As := []) (rest := []) ⟨hx, hb, hml, hown, hts⟩ (c_x_operator l dC dI cy a k (fun _ => 0) σ r1 hc1 H.size) (cwV 0 hts g_x_sum_operator_187 rfl rfl rfl hd_x_operator (by show 0 + 1 ≤ 5 + d ∧ 8 + (1 + 11) + 0 ≤ 113 + 31 * d; omega)) hK hG hA hP hD hS rfl hl.1 rfl (Nat.le_of_ble_eq_true rfl) dX12_sum_29 ⟨Nat.le_refl _, Nat.le_refl _⟩ (fun H locs hP hD hS => ?_)
        refine lv_istore_n (lv' := [(2, .int r1.1), (0, .ref (a 0)), (1, .int (L 1))]) hx hb dX12_sum_32 rfl hl (by decide) rfl (fun ls hl => ?_)
        refine lv_aload_n hx hb dX12_sum_33 rfl (lv_at hl 1 rfl) ?_
        obtain ⟨r2, hc2, h⟩ := ob_ex h
        refine nc_Vv (As := []) (rest := []) ⟨hx, hb, hml, hown, hts⟩ (c_x_take l dC dI cy a k (fun _ => 0) r1.2 r2 hc2 H.size) (cwV 0 hts g_x_sum_take_71 rfl rfl rfl hd_x_take (by show 2 + 1 ≤ 5 + d ∧ 8 + (2 + 11) + 43 ≤ 113 + 31 * d; omega)) hK hG hA hP hD hS rfl hl.1 rfl (Nat.le_of_ble_eq_true rfl) dX12_sum_34 ⟨Nat.le_refl _, Nat.le_refl _⟩ (fun H locs hP hD hS => ?_)
        refine lv_aload_n hx hb dX12_sum_37 rfl (lv_at hl 1 rfl) ?_
        refine lv_bipush (v := 16) hx hb dX12_sum_38 (by decide) ?_
        refine lv_iload_n hx hb dX12_sum_40 rfl (lv_at hl 0 rfl) ?_
        refine lv_iload_n hx hb dX12_sum_41 rfl (lv_at hl 2 rfl) ?_
        refine lv_aload_n hx hb dX12_sum_42 rfl (lv_at hl 1 rfl) ?_
        obtain ⟨e3, he3, h⟩ := od_ex h
        obtain ⟨r3, hc3, h⟩ := ob_ex h
        refine nc_Vi (As := []) (rest := [.int (L 1), .int r1.1, .int 16, .ref (a 0)]) ⟨hx, hb, hml, hown, hts⟩ ((IH k (by omega)).2.2.2.2.2.2.2.2.2.2.2.2.2.2.2.1 e3 (fun _ => 0) r2.2 r3 hc3 H.size) (cwV 0 hts g_x_sum_term_190 rfl rfl rfl hd_x_term (by show (5 + e3) + 1 ≤ 5 + d ∧ 8 + (3 + 11) + (113 + 31 * e3) ≤ 113 + 31 * d; omega)) hK hG hA hP hD hS rfl hl.1 rfl (Nat.le_of_ble_eq_true rfl) dX12_sum_43 ⟨Nat.le_refl _, Nat.le_refl _⟩ (fun H locs hP hD hS => ?_)
        obtain ⟨r4, hc4, h⟩ := ob_ex h
        refine nc_Vi (As := [.int 16, .int r1.1, .int (L 1), .int r3.1]) (rest := []) ⟨hx, hb, hml, hown, hts⟩ (c_x_over l dC dI cy a k (upd (upd (upd (upd (fun _ => 0) 1 16) 2 r1.1) 3 ((L 1))) 4 r3.1) r3.2 r4 hc4 H.size) (cwV 4 hts g_x_sum_over_168 rfl rfl rfl hd_x_over (by show 1 + 1 ≤ 5 + d ∧ 8 + (6 + 11) + 25 ≤ 113 + 31 * d; omega)) hK hG hA hP hD hS rfl hl.1 rfl (Nat.le_of_ble_eq_true rfl) dX12_sum_46 ⟨Nat.le_refl _, Nat.le_refl _⟩ (fun H locs hP hD hS => ?_)
        refine lv_istore_n (lv' := [(1, .int r4.1), (2, .int r1.1), (0, .ref (a 0))]) hx hb dX12_sum_49 rfl hl (by decide) rfl (fun ls hl => ?_)
        refine lv_goto (tgt := 5) hx hb dX12_sum_50 (by decide) ?_
        exact ih.2.1 (upd (upd L 2 r1.1) 1 r4.1) r4.2 r h H locs ls hP hD hS (lv_sub hl [2, 0] rfl)
      · intro L σ r h H locs ls hP hD hS hl
        rw [x_GE_14, s_sum_3] at h
        refine lv_iload_n hx hb dX12_sum_53 rfl (lv_at hl 1 rfl) ?_
        cases h
        exact W.iret (v := (L 1)) hx hb hr (fun t ht hW => ⟨⟨(L 1), (), rfl, rfl, by rw [ht]; exact hP, va_K.moved hW.alike hK, hD⟩, hS.F ht⟩) hS.2.2 dX12_sum_54
  exact (blk k0 (Nat.le_refl _)).1 L0 σ0 r0 h0 s.heap [] ls hP hD hS hl
theorem gg_x_term_isSign : GoodIn w_x_term w_x_isSign := goodIn_sub (fun w h => (List.mem_cons.mp h).elim (fun e => (List.mem_cons_of_mem _ (List.mem_append_left _ (List.mem_append_right _ (List.mem_append_left _ (List.mem_cons.mpr (Or.inl e))))))) (fun h => (List.mem_append.mp h).elim (fun h => (List.mem_cons_of_mem _ (List.mem_append_left _ (List.mem_append_right _ (List.mem_append_left _ (List.mem_cons_of_mem _ h)))))) (fun h => List.mem_cons_of_mem _ (List.mem_append_right _ h)))) w_x_isSign_good
theorem g_x_term_isSign_65 : GoodIn w_x_term (wsV RX12 65 RX12 yX12_isSign w_x_isSign) := goodIn_app (nb_g4 (List.mem_cons_of_mem _ (List.mem_append_left _ (List.mem_append_left _ (List.mem_of_getElem? (i := 17) rfl)))) (List.mem_cons_of_mem _ (List.mem_append_left _ (List.mem_append_left _ (List.mem_of_getElem? (i := 18) rfl)))) (List.mem_cons_of_mem _ (List.mem_append_left _ (List.mem_append_left _ (List.mem_of_getElem? (i := 19) rfl)))) (List.mem_cons_of_mem _ (List.mem_append_left _ (List.mem_append_left _ (List.mem_of_getElem? (i := 20) rfl)))) (by decide +kernel)) gg_x_term_isSign
theorem gg_x_term_isWord : GoodIn w_x_term w_x_isWord := goodIn_sub (fun w h => (List.mem_cons.mp h).elim (fun e => (List.mem_cons_of_mem _ (List.mem_append_left _ (List.mem_append_right _ (List.mem_append_right _ (List.mem_append_right _ (List.mem_append_right _ (List.mem_append_right _ (List.mem_append_left _ (List.mem_cons.mpr (Or.inl e))))))))))) (fun h => (List.mem_append.mp h).elim (fun h => (List.mem_cons_of_mem _ (List.mem_append_left _ (List.mem_append_right _ (List.mem_append_right _ (List.mem_append_right _ (List.mem_append_right _ (List.mem_append_right _ (List.mem_append_left _ (List.mem_cons_of_mem _ h)))))))))) (fun h => List.mem_cons_of_mem _ (List.mem_append_right _ h)))) w_x_isWord_good
theorem g_x_term_isWord_74 : GoodIn w_x_term (wsV RX12 74 RX12 yX12_isWord w_x_isWord) := goodIn_app (nb_g4 (List.mem_cons_of_mem _ (List.mem_append_left _ (List.mem_append_left _ (List.mem_of_getElem? (i := 31) rfl)))) (List.mem_cons_of_mem _ (List.mem_append_left _ (List.mem_append_left _ (List.mem_of_getElem? (i := 32) rfl)))) (List.mem_cons_of_mem _ (List.mem_append_left _ (List.mem_append_left _ (List.mem_of_getElem? (i := 33) rfl)))) (List.mem_cons_of_mem _ (List.mem_append_left _ (List.mem_append_left _ (List.mem_of_getElem? (i := 20) rfl)))) (by decide +kernel)) gg_x_term_isWord
theorem gg_x_term_operator : GoodIn w_x_term w_x_operator := goodIn_sub (fun w h => (List.mem_cons.mp h).elim (fun e => (List.mem_cons_of_mem _ (List.mem_append_left _ (List.mem_append_right _ (List.mem_append_right _ (List.mem_append_right _ (List.mem_append_right _ (List.mem_append_right _ (List.mem_append_right _ (List.mem_append_right _ (List.mem_append_right _ (List.mem_append_right _ (List.mem_append_right _ (List.mem_append_right _ (List.mem_append_right _ (List.mem_append_right _ (List.mem_append_right _ (List.mem_append_right _ (List.mem_append_right _ (List.mem_append_left _ (List.mem_cons.mpr (Or.inl e)))))))))))))))))))))) (fun h => (List.mem_append.mp h).elim (fun h => (List.mem_cons_of_mem _ (List.mem_append_left _ (List.mem_append_right _ (List.mem_append_right _ (List.mem_append_right _ (List.mem_append_right _ (List.mem_append_right _ (List.mem_append_right _ (List.mem_append_right _ (List.mem_append_right _ (List.mem_append_right _ (List.mem_append_right _ (List.mem_append_right _ (List.mem_append_right _ (List.mem_append_right _ (List.mem_append_right _ (List.mem_append_right _ (List.mem_append_right _ (List.mem_append_left _ (List.mem_cons_of_mem _ h))))))))))))))))))))) (fun h => List.mem_cons_of_mem _ (List.mem_append_right _ h)))) w_x_operator_good
theorem g_x_term_operator_187 : GoodIn w_x_term (wsV RX12 187 RX12 yX12_operator w_x_operator) := goodIn_app (nb_g4 (List.mem_cons_of_mem _ (List.mem_append_left _ (List.mem_append_left _ (List.mem_of_getElem? (i := 104) rfl)))) (List.mem_cons_of_mem _ (List.mem_append_left _ (List.mem_append_left _ (List.mem_of_getElem? (i := 105) rfl)))) (List.mem_cons_of_mem _ (List.mem_append_left _ (List.mem_append_left _ (List.mem_of_getElem? (i := 106) rfl)))) (List.mem_cons_of_mem _ (List.mem_append_left _ (List.mem_append_left _ (List.mem_of_getElem? (i := 20) rfl)))) (by decide +kernel)) gg_x_term_operator
theorem gg_x_term_over : GoodIn w_x_term w_x_over := goodIn_sub (fun w h => (List.mem_cons.mp h).elim (fun e => (List.mem_cons_of_mem _ (List.mem_append_left _ (List.mem_append_right _ (List.mem_append_right _ (List.mem_append_right _ (List.mem_append_right _ (List.mem_append_right _ (List.mem_append_right _ (List.mem_append_right _ (List.mem_append_right _ (List.mem_append_right _ (List.mem_append_left _ (List.mem_cons.mpr (Or.inl e))))))))))))))) (fun h => (List.mem_append.mp h).elim (fun h => (List.mem_cons_of_mem _ (List.mem_append_left _ (List.mem_append_right _ (List.mem_append_right _ (List.mem_append_right _ (List.mem_append_right _ (List.mem_append_right _ (List.mem_append_right _ (List.mem_append_right _ (List.mem_append_right _ (List.mem_append_right _ (List.mem_append_left _ (List.mem_cons_of_mem _ h)))))))))))))) (fun h => List.mem_cons_of_mem _ (List.mem_append_right _ h)))) w_x_over_good
theorem g_x_term_over_168 : GoodIn w_x_term (wsV RX12 168 RX12 yX12_over w_x_over) := goodIn_app (nb_g4 (List.mem_cons_of_mem _ (List.mem_append_left _ (List.mem_append_left _ (List.mem_of_getElem? (i := 58) rfl)))) (List.mem_cons_of_mem _ (List.mem_append_left _ (List.mem_append_left _ (List.mem_of_getElem? (i := 59) rfl)))) (List.mem_cons_of_mem _ (List.mem_append_left _ (List.mem_append_left _ (List.mem_of_getElem? (i := 60) rfl)))) (List.mem_cons_of_mem _ (List.mem_append_left _ (List.mem_append_left _ (List.mem_of_getElem? (i := 20) rfl)))) (by decide +kernel)) gg_x_term_over
theorem gg_x_term_power : GoodIn w_x_term w_x_power := goodIn_sub (fun w h => (List.mem_cons.mp h).elim (fun e => e ▸ (List.mem_cons_of_mem _ (List.mem_append_left _ (List.mem_append_left _ (List.mem_of_getElem? (i := 9) rfl))))) (fun h => List.mem_cons_of_mem _ h)) w_x_power_good
theorem g_x_term_power_193 : GoodIn w_x_term (wsV RX12 193 RX12 yX12_power w_x_power) := goodIn_app (nb_g4 (List.mem_cons_of_mem _ (List.mem_append_left _ (List.mem_append_left _ (List.mem_of_getElem? (i := 101) rfl)))) (List.mem_cons_of_mem _ (List.mem_append_left _ (List.mem_append_left _ (List.mem_of_getElem? (i := 102) rfl)))) (List.mem_cons_of_mem _ (List.mem_append_left _ (List.mem_append_left _ (List.mem_of_getElem? (i := 103) rfl)))) (List.mem_cons_of_mem _ (List.mem_append_left _ (List.mem_append_left _ (List.mem_of_getElem? (i := 20) rfl)))) (by decide +kernel)) gg_x_term_power
theorem gg_x_term_take : GoodIn w_x_term w_x_take := goodIn_sub (fun w h => (List.mem_cons.mp h).elim (fun e => (List.mem_cons_of_mem _ (List.mem_append_left _ (List.mem_append_right _ (List.mem_append_right _ (List.mem_append_right _ (List.mem_append_left _ (List.mem_cons.mpr (Or.inl e))))))))) (fun h => (List.mem_append.mp h).elim (fun h => (List.mem_cons_of_mem _ (List.mem_append_left _ (List.mem_append_right _ (List.mem_append_right _ (List.mem_append_right _ (List.mem_append_left _ (List.mem_cons_of_mem _ h)))))))) (fun h => List.mem_cons_of_mem _ (List.mem_append_right _ h)))) w_x_take_good
theorem g_x_term_take_71 : GoodIn w_x_term (wsV RX12 71 RX12 yX12_take w_x_take) := goodIn_app (nb_g4 (List.mem_cons_of_mem _ (List.mem_append_left _ (List.mem_append_left _ (List.mem_of_getElem? (i := 25) rfl)))) (List.mem_cons_of_mem _ (List.mem_append_left _ (List.mem_append_left _ (List.mem_of_getElem? (i := 26) rfl)))) (List.mem_cons_of_mem _ (List.mem_append_left _ (List.mem_append_left _ (List.mem_of_getElem? (i := 27) rfl)))) (List.mem_cons_of_mem _ (List.mem_append_left _ (List.mem_append_left _ (List.mem_of_getElem? (i := 20) rfl)))) (by decide +kernel)) gg_x_term_take
set_option maxHeartbeats 40000000 in
set_option maxRecDepth 100000 in
theorem c_s_term (l : Launch) (dC : Nat → ClassId) (dI : Nat → Nat → Nat) (cy : Nat → ClassId) (a : Nat → Nat) (k0 : Nat) (IH : ∀ j : Nat, j < k0 → P_GE l dC dI cy a j) (d : Nat) (L0 : Nat → Int32) (σ0 : MS) (r0 : Int32 × MS) (h0 : x_GE k0 d 15 0 L0 σ0 = some r0) (sz : Nat) : Met l yX12_term w_x_term ({ frames := 5 + d, cells := 0, slots := 0, locals := 113 + 31 * d }) (va_Pc [.ref (a 0)] (nIn (dC, dI) cy sz (vM cy a σ0))) (va_Qi (fun (z : Int32) (_ : Unit) => z = r0.1) (fun _ t => nOut (dC, dI) cy (va_A (vM cy a σ0) sz) (vM cy a r0.2) t) (va_A (vM cy a σ0) sz)) 0 0 (va_A (vM cy a σ0) sz) := by
  refine Met.ofW (cc := cX12_term) (maxL := 3) (ret := (some .int)) (by decide) rfl ?_
  intro p e s m args below meth c s₁ B hml hv
  obtain ⟨rfl, hsz, hP, hK, hD0, hG⟩ := hv
  have hx := B.exec
  have hb := B.bytes
  have hr := B.returns
  have hts := atoms_spec (ws := w_x_term) B.pre
  have hown : s.vm.findClass RX12 = some m.cls := findClass_of_methodNamed B.named
  have hlocks := B.notSynchronized
  subst hsz
  have hD := hD0.self (sz := s.heap.size)
  generalize hAe : va_A (vM cy a σ0) s.heap.size = A at hD ⊢
  have hA : ∀ q : Nat, s.heap.size ≤ q → A q := fun q h => by rw [← hAe]; exact Or.inr h
  have hS : va_S A s.heap s.heap [] := va_S.rf
  have hl := lv_entry ([.ref (a 0)]) (n := 3) (Nat.le_of_ble_eq_true rfl)
  rw [lg_entry_eq]
  generalize (lg_sl ([.ref (a 0)]) ++ List.replicate (3 - (lg_sl ([.ref (a 0)])).length) Slot.unset).toArray = ls at hl ⊢
  have hl : lv_has ls 3 [(0, .ref (a 0))] := hl
  have blk : ∀ k : Nat, k ≤ k0 → (bT p l e (headSpec w_x_term ({ frames := 5 + d, cells := 0, slots := 0, locals := 113 + 31 * d })).room s m #[.ref (a 0)] below meth c dC dI cy a A (qI dC dI cy a A below #[.ref (a 0)] s) 3 (x_GE k d 15 0) (fun L => [(0, .ref (a 0))]) 0 (fun L => [])) ∧ (bT p l e (headSpec w_x_term ({ frames := 5 + d, cells := 0, slots := 0, locals := 113 + 31 * d })).room s m #[.ref (a 0)] below meth c dC dI cy a A (qI dC dI cy a A below #[.ref (a 0)] s) 3 (x_GE k d 15 1) (fun L => [(0, .ref (a 0)), (1, .int (L 1))]) 5 (fun L => [])) ∧ (bT p l e (headSpec w_x_term ({ frames := 5 + d, cells := 0, slots := 0, locals := 113 + 31 * d })).room s m #[.ref (a 0)] below meth c dC dI cy a A (qI dC dI cy a A below #[.ref (a 0)] s) 3 (x_GE k d 15 2) (fun L => [(0, .ref (a 0)), (1, .int (L 1))]) 38 (fun L => [])) ∧ (bT p l e (headSpec w_x_term ({ frames := 5 + d, cells := 0, slots := 0, locals := 113 + 31 * d })).room s m #[.ref (a 0)] below meth c dC dI cy a A (qI dC dI cy a A below #[.ref (a 0)] s) 3 (x_GE k d 15 3) (fun L => [(0, .ref (a 0)), (1, .int (L 1))]) 63 (fun L => [])) := by
    intro k
    induction k with
    | zero => exact fun _ => ⟨fun L σ r h => (by cases h), fun L σ r h => (by cases h), fun L σ r h => (by cases h), fun L σ r h => (by cases h)⟩
    | succ k ih =>
      intro hk
      replace ih := ih (by omega)
      refine ⟨?_, ?_, ?_, ?_⟩
      · intro L σ r h H locs ls hP hD hS hl
        rw [x_GE_15, s_term_0] at h
        refine lv_aload_n hx hb dX12_term_0 rfl (lv_at hl 0 rfl) ?_
        obtain ⟨e1, he1, h⟩ := od_ex h
        obtain ⟨r1, hc1, h⟩ := ob_ex h
        refine nc_Vi (As := []) (rest := []) ⟨hx, hb, hml, hown, hts⟩ ((IH k (by omega)).2.2.2.2.2.2.2.2.2.1 e1 (fun _ => 0) σ r1 hc1 H.size) (cwV 0 hts g_x_term_power_193 rfl rfl rfl hd_x_power (by show (5 + e1) + 1 ≤ 5 + d ∧ 8 + (3 + 11) + (113 + 31 * e1) ≤ 113 + 31 * d; omega)) hK hG hA hP hD hS rfl hl.1 rfl (Nat.le_of_ble_eq_true rfl) dX12_term_1 ⟨Nat.le_refl _, Nat.le_refl _⟩ (fun H locs hP hD hS => ?_)
        refine lv_istore_n (lv' := [(1, .int r1.1), (0, .ref (a 0))]) hx hb dX12_term_4 rfl hl (by decide) rfl (fun ls hl => ?_)
        exact ih.2.1 (upd L 1 r1.1) r1.2 r h H locs ls hP hD hS (lv_sub hl [1, 0] rfl)
      · intro L σ r h H locs ls hP hD hS hl
        rw [x_GE_15, s_term_1] at h
        refine lv_aload_n hx hb dX12_term_5 rfl (lv_at hl 0 rfl) ?_
        refine ng_10 hx hb hts in_x_term hown hK hP (hts _ (List.mem_cons_of_mem _ (List.mem_append_left _ (List.mem_append_left _ (List.mem_of_getElem? (i := 24) rfl))))) dX12_term_6 ?_
        refine lv_if_ne (tgt := 63) hx hb dX12_term_9 (by decide) (fun c1 => ?_) (fun c1 => ?_)
        · rw [if_neg c1] at h
          exact ih.2.2.2 L σ r h H locs ls hP hD hS (lv_sub hl [0, 1] rfl)
        · rw [if_pos c1] at h
          refine lv_aload_n hx hb dX12_term_12 rfl (lv_at hl 0 rfl) ?_
          refine lv_iconst (v := 4) hx hb dX12_term_13 (by decide) ?_
          obtain ⟨r2, hc2, h⟩ := ob_ex h
          refine nc_Vi (As := [.int 4]) (rest := []) ⟨hx, hb, hml, hown, hts⟩ (c_x_isSign l dC dI cy a k (upd (fun _ => 0) 1 4) σ r2 hc2 H.size) (cwV 1 hts g_x_term_isSign_65 rfl rfl rfl hd_x_isSign (by show 0 + 1 ≤ 5 + d ∧ 8 + (2 + 11) + 0 ≤ 113 + 31 * d; omega)) hK hG hA hP hD hS rfl hl.1 rfl (Nat.le_of_ble_eq_true rfl) dX12_term_14 ⟨Nat.le_refl _, Nat.le_refl _⟩ (fun H locs hP hD hS => ?_)
          refine lv_if_ne (tgt := 38) hx hb dX12_term_17 (by decide) (fun c3 => ?_) (fun c3 => ?_)
          · rw [if_neg c3] at h
            exact ih.2.2.1 L r2.2 r h H locs ls hP hD hS (lv_sub hl [0, 1] rfl)
          · rw [if_pos c3] at h
            refine lv_aload_n hx hb dX12_term_20 rfl (lv_at hl 0 rfl) ?_
            refine lv_bipush (v := 35) hx hb dX12_term_21 (by decide) ?_
            obtain ⟨r4, hc4, h⟩ := ob_ex h
            refine nc_Vi (As := [.int 35]) (rest := []) ⟨hx, hb, hml, hown, hts⟩ (c_x_isWord l dC dI cy a k (upd (fun _ => 0) 1 35) r2.2 r4 hc4 H.size) (cwV 1 hts g_x_term_isWord_74 rfl rfl rfl hd_x_isWord (by show 0 + 1 ≤ 5 + d ∧ 8 + (2 + 11) + 0 ≤ 113 + 31 * d; omega)) hK hG hA hP hD hS rfl hl.1 rfl (Nat.le_of_ble_eq_true rfl) dX12_term_23 ⟨Nat.le_refl _, Nat.le_refl _⟩ (fun H locs hP hD hS => ?_)
            refine lv_if_ne (tgt := 38) hx hb dX12_term_26 (by decide) (fun c5 => ?_) (fun c5 => ?_)
            · rw [if_neg c5] at h
              exact ih.2.2.1 L r4.2 r h H locs ls hP hD hS (lv_sub hl [0, 1] rfl)
            · rw [if_pos c5] at h
              refine lv_aload_n hx hb dX12_term_29 rfl (lv_at hl 0 rfl) ?_
              refine lv_bipush (v := 36) hx hb dX12_term_30 (by decide) ?_
              obtain ⟨r6, hc6, h⟩ := ob_ex h
              refine nc_Vi (As := [.int 36]) (rest := []) ⟨hx, hb, hml, hown, hts⟩ (c_x_isWord l dC dI cy a k (upd (fun _ => 0) 1 36) r4.2 r6 hc6 H.size) (cwV 1 hts g_x_term_isWord_74 rfl rfl rfl hd_x_isWord (by show 0 + 1 ≤ 5 + d ∧ 8 + (2 + 11) + 0 ≤ 113 + 31 * d; omega)) hK hG hA hP hD hS rfl hl.1 rfl (Nat.le_of_ble_eq_true rfl) dX12_term_32 ⟨Nat.le_refl _, Nat.le_refl _⟩ (fun H locs hP hD hS => ?_)
              refine lv_if_eq (tgt := 63) hx hb dX12_term_35 (by decide) (fun c7 => ?_) (fun c7 => ?_)
              · rw [if_pos c7] at h
                exact ih.2.2.2 L r6.2 r h H locs ls hP hD hS (lv_sub hl [0, 1] rfl)
              · rw [if_neg c7] at h
                exact ih.2.2.1 L r6.2 r h H locs ls hP hD hS (lv_sub hl [0, 1] rfl)
      · intro L σ r h H locs ls hP hD hS hl
        rw [x_GE_15, s_term_2] at h
        refine lv_aload_n hx hb dX12_term_38 rfl (lv_at hl 0 rfl) ?_
        obtain ⟨r1, hc1, h⟩ := ob_ex h
        refine nc_Vi (As := []) (rest := []) ⟨hx, hb, hml, hown, hts⟩ (c_x_operator l dC dI cy a k (fun _ => 0) σ r1 hc1 H.size) (cwV 0 hts g_x_term_operator_187 rfl rfl rfl hd_x_operator (by show 0 + 1 ≤ 5 + d ∧ 8 + (1 + 11) + 0 ≤ 113 + 31 * d; omega)) hK hG hA hP hD hS rfl hl.1 rfl (Nat.le_of_ble_eq_true rfl) dX12_term_39 ⟨Nat.le_refl _, Nat.le_refl _⟩ (fun H locs hP hD hS => ?_)
        refine lv_istore_n (lv' := [(2, .int r1.1), (0, .ref (a 0)), (1, .int (L 1))]) hx hb dX12_term_42 rfl hl (by decide) rfl (fun ls hl => ?_)
        refine lv_aload_n hx hb dX12_term_43 rfl (lv_at hl 1 rfl) ?_
        obtain ⟨r2, hc2, h⟩ := ob_ex h
        refine nc_Vv (As := []) (rest := []) ⟨hx, hb, hml, hown, hts⟩ (c_x_take l dC dI cy a k (fun _ => 0) r1.2 r2 hc2 H.size) (cwV 0 hts g_x_term_take_71 rfl rfl rfl hd_x_take (by show 2 + 1 ≤ 5 + d ∧ 8 + (2 + 11) + 43 ≤ 113 + 31 * d; omega)) hK hG hA hP hD hS rfl hl.1 rfl (Nat.le_of_ble_eq_true rfl) dX12_term_44 ⟨Nat.le_refl _, Nat.le_refl _⟩ (fun H locs hP hD hS => ?_)
        refine lv_aload_n hx hb dX12_term_47 rfl (lv_at hl 1 rfl) ?_
        refine lv_bipush (v := 16) hx hb dX12_term_48 (by decide) ?_
        refine lv_iload_n hx hb dX12_term_50 rfl (lv_at hl 0 rfl) ?_
        refine lv_iload_n hx hb dX12_term_51 rfl (lv_at hl 2 rfl) ?_
        refine lv_aload_n hx hb dX12_term_52 rfl (lv_at hl 1 rfl) ?_
        obtain ⟨e3, he3, h⟩ := od_ex h
        obtain ⟨r3, hc3, h⟩ := ob_ex h
        refine nc_Vi (As := []) (rest := [.int (L 1), .int r1.1, .int 16, .ref (a 0)]) ⟨hx, hb, hml, hown, hts⟩ ((IH k (by omega)).2.2.2.2.2.2.2.2.2.1 e3 (fun _ => 0) r2.2 r3 hc3 H.size) (cwV 0 hts g_x_term_power_193 rfl rfl rfl hd_x_power (by show (5 + e3) + 1 ≤ 5 + d ∧ 8 + (3 + 11) + (113 + 31 * e3) ≤ 113 + 31 * d; omega)) hK hG hA hP hD hS rfl hl.1 rfl (Nat.le_of_ble_eq_true rfl) dX12_term_53 ⟨Nat.le_refl _, Nat.le_refl _⟩ (fun H locs hP hD hS => ?_)
        obtain ⟨r4, hc4, h⟩ := ob_ex h
        refine nc_Vi (As := [.int 16, .int r1.1, .int (L 1), .int r3.1]) (rest := []) ⟨hx, hb, hml, hown, hts⟩ (c_x_over l dC dI cy a k (upd (upd (upd (upd (fun _ => 0) 1 16) 2 r1.1) 3 ((L 1))) 4 r3.1) r3.2 r4 hc4 H.size) (cwV 4 hts g_x_term_over_168 rfl rfl rfl hd_x_over (by show 1 + 1 ≤ 5 + d ∧ 8 + (6 + 11) + 25 ≤ 113 + 31 * d; omega)) hK hG hA hP hD hS rfl hl.1 rfl (Nat.le_of_ble_eq_true rfl) dX12_term_56 ⟨Nat.le_refl _, Nat.le_refl _⟩ (fun H locs hP hD hS => ?_)
        refine lv_istore_n (lv' := [(1, .int r4.1), (2, .int r1.1), (0, .ref (a 0))]) hx hb dX12_term_59 rfl hl (by decide) rfl (fun ls hl => ?_)
        refine lv_goto (tgt := 5) hx hb dX12_term_60 (by decide) ?_
        exact ih.2.1 (upd (upd L 2 r1.1) 1 r4.1) r4.2 r h H locs ls hP hD hS (lv_sub hl [2, 0] rfl)
      · intro L σ r h H locs ls hP hD hS hl
        rw [x_GE_15, s_term_3] at h
        refine lv_iload_n hx hb dX12_term_63 rfl (lv_at hl 1 rfl) ?_
        cases h
        exact W.iret (v := (L 1)) hx hb hr (fun t ht hW => ⟨⟨(L 1), (), rfl, rfl, by rw [ht]; exact hP, va_K.moved hW.alike hK, hD⟩, hS.F ht⟩) hS.2.2 dX12_term_64
  exact (blk k0 (Nat.le_refl _)).1 L0 σ0 r0 h0 s.heap [] ls hP hD hS hl
theorem gg_x_wordly_cannot : GoodIn w_x_wordly w_x_cannot := goodIn_sub (fun w h => (List.mem_cons.mp h).elim (fun e => (List.mem_cons_of_mem _ (List.mem_append_left _ (List.mem_append_right _ (List.mem_append_right _ (List.mem_append_right _ (List.mem_append_right _ (List.mem_append_right _ (List.mem_append_right _ (List.mem_append_right _ (List.mem_append_right _ (List.mem_append_right _ (List.mem_append_right _ (List.mem_append_right _ (List.mem_append_right _ (List.mem_append_right _ (List.mem_append_right _ (List.mem_append_right _ (List.mem_append_left _ (List.mem_cons.mpr (Or.inl e))))))))))))))))))))) (fun h => (List.mem_append.mp h).elim (fun h => (List.mem_cons_of_mem _ (List.mem_append_left _ (List.mem_append_right _ (List.mem_append_right _ (List.mem_append_right _ (List.mem_append_right _ (List.mem_append_right _ (List.mem_append_right _ (List.mem_append_right _ (List.mem_append_right _ (List.mem_append_right _ (List.mem_append_right _ (List.mem_append_right _ (List.mem_append_right _ (List.mem_append_right _ (List.mem_append_right _ (List.mem_append_right _ (List.mem_append_left _ (List.mem_cons_of_mem _ h)))))))))))))))))))) (fun h => List.mem_cons_of_mem _ (List.mem_append_right _ h)))) w_x_cannot_good
theorem g_x_wordly_cannot_68 : GoodIn w_x_wordly (wsV RX12 68 RX12 yX12_cannot w_x_cannot) := goodIn_app (nb_g4 (List.mem_cons_of_mem _ (List.mem_append_left _ (List.mem_append_left _ (List.mem_of_getElem? (i := 90) rfl)))) (List.mem_cons_of_mem _ (List.mem_append_left _ (List.mem_append_left _ (List.mem_of_getElem? (i := 91) rfl)))) (List.mem_cons_of_mem _ (List.mem_append_left _ (List.mem_append_left _ (List.mem_of_getElem? (i := 92) rfl)))) (List.mem_cons_of_mem _ (List.mem_append_left _ (List.mem_append_left _ (List.mem_of_getElem? (i := 20) rfl)))) (by decide +kernel)) gg_x_wordly_cannot
theorem gg_x_wordly_choice : GoodIn w_x_wordly w_x_choice := goodIn_sub (fun w h => (List.mem_cons.mp h).elim (fun e => e ▸ (List.mem_cons_of_mem _ (List.mem_append_left _ (List.mem_append_left _ (List.mem_of_getElem? (i := 1) rfl))))) (fun h => List.mem_cons_of_mem _ h)) w_x_choice_good
theorem g_x_wordly_choice_227 : GoodIn w_x_wordly (wsV RX12 227 RX12 yX12_choice w_x_choice) := goodIn_app (nb_g4 (List.mem_cons_of_mem _ (List.mem_append_left _ (List.mem_append_left _ (List.mem_of_getElem? (i := 140) rfl)))) (List.mem_cons_of_mem _ (List.mem_append_left _ (List.mem_append_left _ (List.mem_of_getElem? (i := 141) rfl)))) (List.mem_cons_of_mem _ (List.mem_append_left _ (List.mem_append_left _ (List.mem_of_getElem? (i := 142) rfl)))) (List.mem_cons_of_mem _ (List.mem_append_left _ (List.mem_append_left _ (List.mem_of_getElem? (i := 20) rfl)))) (by decide +kernel)) gg_x_wordly_choice
theorem gg_x_wordly_exp : GoodIn w_x_wordly w_x_exp := goodIn_sub (fun w h => (List.mem_cons.mp h).elim (fun e => e ▸ (List.mem_cons_of_mem _ (List.mem_append_left _ (List.mem_append_left _ (List.mem_of_getElem? (i := 3) rfl))))) (fun h => List.mem_cons_of_mem _ h)) w_x_exp_good
theorem g_x_wordly_exp_209 : GoodIn w_x_wordly (wsV RX12 209 RX12 yX12_exp w_x_exp) := goodIn_app (nb_g4 (List.mem_cons_of_mem _ (List.mem_append_left _ (List.mem_append_left _ (List.mem_of_getElem? (i := 38) rfl)))) (List.mem_cons_of_mem _ (List.mem_append_left _ (List.mem_append_left _ (List.mem_of_getElem? (i := 39) rfl)))) (List.mem_cons_of_mem _ (List.mem_append_left _ (List.mem_append_left _ (List.mem_of_getElem? (i := 40) rfl)))) (List.mem_cons_of_mem _ (List.mem_append_left _ (List.mem_append_left _ (List.mem_of_getElem? (i := 20) rfl)))) (by decide +kernel)) gg_x_wordly_exp
theorem gg_x_wordly_isSign : GoodIn w_x_wordly w_x_isSign := goodIn_sub (fun w h => (List.mem_cons.mp h).elim (fun e => (List.mem_cons_of_mem _ (List.mem_append_left _ (List.mem_append_right _ (List.mem_append_left _ (List.mem_cons.mpr (Or.inl e))))))) (fun h => (List.mem_append.mp h).elim (fun h => (List.mem_cons_of_mem _ (List.mem_append_left _ (List.mem_append_right _ (List.mem_append_left _ (List.mem_cons_of_mem _ h)))))) (fun h => List.mem_cons_of_mem _ (List.mem_append_right _ h)))) w_x_isSign_good
theorem g_x_wordly_isSign_65 : GoodIn w_x_wordly (wsV RX12 65 RX12 yX12_isSign w_x_isSign) := goodIn_app (nb_g4 (List.mem_cons_of_mem _ (List.mem_append_left _ (List.mem_append_left _ (List.mem_of_getElem? (i := 17) rfl)))) (List.mem_cons_of_mem _ (List.mem_append_left _ (List.mem_append_left _ (List.mem_of_getElem? (i := 18) rfl)))) (List.mem_cons_of_mem _ (List.mem_append_left _ (List.mem_append_left _ (List.mem_of_getElem? (i := 19) rfl)))) (List.mem_cons_of_mem _ (List.mem_append_left _ (List.mem_append_left _ (List.mem_of_getElem? (i := 20) rfl)))) (by decide +kernel)) gg_x_wordly_isSign
theorem gg_x_wordly_named : GoodIn w_x_wordly w_x_named := goodIn_sub (fun w h => (List.mem_cons.mp h).elim (fun e => (List.mem_cons_of_mem _ (List.mem_append_left _ (List.mem_append_right _ (List.mem_append_right _ (List.mem_append_right _ (List.mem_append_right _ (List.mem_append_right _ (List.mem_append_right _ (List.mem_append_right _ (List.mem_append_right _ (List.mem_append_right _ (List.mem_append_right _ (List.mem_append_right _ (List.mem_append_right _ (List.mem_append_right _ (List.mem_append_right _ (List.mem_append_right _ (List.mem_append_right _ (List.mem_append_right _ (List.mem_append_right _ (List.mem_append_right _ (List.mem_append_left _ (List.mem_cons.mpr (Or.inl e))))))))))))))))))))))))) (fun h => (List.mem_append.mp h).elim (fun h => (List.mem_cons_of_mem _ (List.mem_append_left _ (List.mem_append_right _ (List.mem_append_right _ (List.mem_append_right _ (List.mem_append_right _ (List.mem_append_right _ (List.mem_append_right _ (List.mem_append_right _ (List.mem_append_right _ (List.mem_append_right _ (List.mem_append_right _ (List.mem_append_right _ (List.mem_append_right _ (List.mem_append_right _ (List.mem_append_right _ (List.mem_append_right _ (List.mem_append_right _ (List.mem_append_right _ (List.mem_append_right _ (List.mem_append_right _ (List.mem_append_left _ (List.mem_cons_of_mem _ h)))))))))))))))))))))))) (fun h => List.mem_cons_of_mem _ (List.mem_append_right _ h)))) w_x_named_good
theorem g_x_wordly_named_221 : GoodIn w_x_wordly (wsV RX12 221 RX12 yX12_named w_x_named) := goodIn_app (nb_g4 (List.mem_cons_of_mem _ (List.mem_append_left _ (List.mem_append_left _ (List.mem_of_getElem? (i := 134) rfl)))) (List.mem_cons_of_mem _ (List.mem_append_left _ (List.mem_append_left _ (List.mem_of_getElem? (i := 135) rfl)))) (List.mem_cons_of_mem _ (List.mem_append_left _ (List.mem_append_left _ (List.mem_of_getElem? (i := 136) rfl)))) (List.mem_cons_of_mem _ (List.mem_append_left _ (List.mem_append_left _ (List.mem_of_getElem? (i := 20) rfl)))) (by decide +kernel)) gg_x_wordly_named
theorem gg_x_wordly_node : GoodIn w_x_wordly w_x_node := goodIn_sub (fun w h => (List.mem_cons.mp h).elim (fun e => (List.mem_cons_of_mem _ (List.mem_append_left _ (List.mem_append_right _ (List.mem_append_right _ (List.mem_append_right _ (List.mem_append_right _ (List.mem_append_left _ (List.mem_cons.mpr (Or.inl e)))))))))) (fun h => (List.mem_append.mp h).elim (fun h => (List.mem_cons_of_mem _ (List.mem_append_left _ (List.mem_append_right _ (List.mem_append_right _ (List.mem_append_right _ (List.mem_append_right _ (List.mem_append_left _ (List.mem_cons_of_mem _ h))))))))) (fun h => List.mem_cons_of_mem _ (List.mem_append_right _ h)))) w_x_node_good
theorem g_x_wordly_node_101 : GoodIn w_x_wordly (wsV RX12 101 RX12 yX12_node w_x_node) := goodIn_app (nb_g4 (List.mem_cons_of_mem _ (List.mem_append_left _ (List.mem_append_left _ (List.mem_of_getElem? (i := 28) rfl)))) (List.mem_cons_of_mem _ (List.mem_append_left _ (List.mem_append_left _ (List.mem_of_getElem? (i := 29) rfl)))) (List.mem_cons_of_mem _ (List.mem_append_left _ (List.mem_append_left _ (List.mem_of_getElem? (i := 30) rfl)))) (List.mem_cons_of_mem _ (List.mem_append_left _ (List.mem_append_left _ (List.mem_of_getElem? (i := 20) rfl)))) (by decide +kernel)) gg_x_wordly_node
theorem gg_x_wordly_open : GoodIn w_x_wordly w_x_open := goodIn_sub (fun w h => (List.mem_cons.mp h).elim (fun e => (List.mem_cons_of_mem _ (List.mem_append_left _ (List.mem_append_right _ (List.mem_append_right _ (List.mem_append_left _ (List.mem_cons.mpr (Or.inl e)))))))) (fun h => (List.mem_append.mp h).elim (fun h => (List.mem_cons_of_mem _ (List.mem_append_left _ (List.mem_append_right _ (List.mem_append_right _ (List.mem_append_left _ (List.mem_cons_of_mem _ h))))))) (fun h => List.mem_cons_of_mem _ (List.mem_append_right _ h)))) w_x_open_good
theorem g_x_wordly_open_177 : GoodIn w_x_wordly (wsV RX12 177 RX12 yX12_open w_x_open) := goodIn_app (nb_g4 (List.mem_cons_of_mem _ (List.mem_append_left _ (List.mem_append_left _ (List.mem_of_getElem? (i := 21) rfl)))) (List.mem_cons_of_mem _ (List.mem_append_left _ (List.mem_append_left _ (List.mem_of_getElem? (i := 22) rfl)))) (List.mem_cons_of_mem _ (List.mem_append_left _ (List.mem_append_left _ (List.mem_of_getElem? (i := 23) rfl)))) (List.mem_cons_of_mem _ (List.mem_append_left _ (List.mem_append_left _ (List.mem_of_getElem? (i := 20) rfl)))) (by decide +kernel)) gg_x_wordly_open
theorem gg_x_wordly_quantified : GoodIn w_x_wordly w_x_quantified := goodIn_sub (fun w h => (List.mem_cons.mp h).elim (fun e => e ▸ (List.mem_cons_of_mem _ (List.mem_append_left _ (List.mem_append_left _ (List.mem_of_getElem? (i := 12) rfl))))) (fun h => List.mem_cons_of_mem _ h)) w_x_quantified_good
theorem g_x_wordly_quantified_224 : GoodIn w_x_wordly (wsV RX12 224 RX12 yX12_quantified w_x_quantified) := goodIn_app (nb_g4 (List.mem_cons_of_mem _ (List.mem_append_left _ (List.mem_append_left _ (List.mem_of_getElem? (i := 137) rfl)))) (List.mem_cons_of_mem _ (List.mem_append_left _ (List.mem_append_left _ (List.mem_of_getElem? (i := 138) rfl)))) (List.mem_cons_of_mem _ (List.mem_append_left _ (List.mem_append_left _ (List.mem_of_getElem? (i := 139) rfl)))) (List.mem_cons_of_mem _ (List.mem_append_left _ (List.mem_append_left _ (List.mem_of_getElem? (i := 20) rfl)))) (by decide +kernel)) gg_x_wordly_quantified
theorem gg_x_wordly_take : GoodIn w_x_wordly w_x_take := goodIn_sub (fun w h => (List.mem_cons.mp h).elim (fun e => (List.mem_cons_of_mem _ (List.mem_append_left _ (List.mem_append_right _ (List.mem_append_right _ (List.mem_append_right _ (List.mem_append_left _ (List.mem_cons.mpr (Or.inl e))))))))) (fun h => (List.mem_append.mp h).elim (fun h => (List.mem_cons_of_mem _ (List.mem_append_left _ (List.mem_append_right _ (List.mem_append_right _ (List.mem_append_right _ (List.mem_append_left _ (List.mem_cons_of_mem _ h)))))))) (fun h => List.mem_cons_of_mem _ (List.mem_append_right _ h)))) w_x_take_good
theorem g_x_wordly_take_71 : GoodIn w_x_wordly (wsV RX12 71 RX12 yX12_take w_x_take) := goodIn_app (nb_g4 (List.mem_cons_of_mem _ (List.mem_append_left _ (List.mem_append_left _ (List.mem_of_getElem? (i := 25) rfl)))) (List.mem_cons_of_mem _ (List.mem_append_left _ (List.mem_append_left _ (List.mem_of_getElem? (i := 26) rfl)))) (List.mem_cons_of_mem _ (List.mem_append_left _ (List.mem_append_left _ (List.mem_of_getElem? (i := 27) rfl)))) (List.mem_cons_of_mem _ (List.mem_append_left _ (List.mem_append_left _ (List.mem_of_getElem? (i := 20) rfl)))) (by decide +kernel)) gg_x_wordly_take
theorem gg_x_wordly_want : GoodIn w_x_wordly w_x_want := goodIn_sub (fun w h => (List.mem_cons.mp h).elim (fun e => (List.mem_cons_of_mem _ (List.mem_append_left _ (List.mem_append_right _ (List.mem_append_right _ (List.mem_append_right _ (List.mem_append_right _ (List.mem_append_right _ (List.mem_append_right _ (List.mem_append_left _ (List.mem_cons.mpr (Or.inl e)))))))))))) (fun h => (List.mem_append.mp h).elim (fun h => (List.mem_cons_of_mem _ (List.mem_append_left _ (List.mem_append_right _ (List.mem_append_right _ (List.mem_append_right _ (List.mem_append_right _ (List.mem_append_right _ (List.mem_append_right _ (List.mem_append_left _ (List.mem_cons_of_mem _ h))))))))))) (fun h => List.mem_cons_of_mem _ (List.mem_append_right _ h)))) w_x_want_good
theorem g_x_wordly_want_199 : GoodIn w_x_wordly (wsV RX12 199 RX12 yX12_want w_x_want) := goodIn_app (nb_g4 (List.mem_cons_of_mem _ (List.mem_append_left _ (List.mem_append_left _ (List.mem_of_getElem? (i := 41) rfl)))) (List.mem_cons_of_mem _ (List.mem_append_left _ (List.mem_append_left _ (List.mem_of_getElem? (i := 42) rfl)))) (List.mem_cons_of_mem _ (List.mem_append_left _ (List.mem_append_left _ (List.mem_of_getElem? (i := 43) rfl)))) (List.mem_cons_of_mem _ (List.mem_append_left _ (List.mem_append_left _ (List.mem_of_getElem? (i := 20) rfl)))) (by decide +kernel)) gg_x_wordly_want
set_option maxHeartbeats 40000000 in
set_option maxRecDepth 100000 in
theorem c_s_wordly (l : Launch) (dC : Nat → ClassId) (dI : Nat → Nat → Nat) (cy : Nat → ClassId) (a : Nat → Nat) (k0 : Nat) (IH : ∀ j : Nat, j < k0 → P_GE l dC dI cy a j) (d : Nat) (L0 : Nat → Int32) (σ0 : MS) (r0 : Int32 × MS) (h0 : x_GE k0 d 16 0 L0 σ0 = some r0) (sz : Nat) : Met l yX12_wordly w_x_wordly ({ frames := 5 + d, cells := 0, slots := 0, locals := 113 + 31 * d }) (va_Pc [.ref (a 0)] (nIn (dC, dI) cy sz (vM cy a σ0))) (va_Qi (fun (z : Int32) (_ : Unit) => z = r0.1) (fun _ t => nOut (dC, dI) cy (va_A (vM cy a σ0) sz) (vM cy a r0.2) t) (va_A (vM cy a σ0) sz)) 0 0 (va_A (vM cy a σ0) sz) := by
  refine Met.ofW (cc := cX12_wordly) (maxL := 4) (ret := (some .int)) (by decide) rfl ?_
  intro p e s m args below meth c s₁ B hml hv
  obtain ⟨rfl, hsz, hP, hK, hD0, hG⟩ := hv
  have hx := B.exec
  have hb := B.bytes
  have hr := B.returns
  have hts := atoms_spec (ws := w_x_wordly) B.pre
  have hown : s.vm.findClass RX12 = some m.cls := findClass_of_methodNamed B.named
  have hlocks := B.notSynchronized
  subst hsz
  have hD := hD0.self (sz := s.heap.size)
  generalize hAe : va_A (vM cy a σ0) s.heap.size = A at hD ⊢
  have hA : ∀ q : Nat, s.heap.size ≤ q → A q := fun q h => by rw [← hAe]; exact Or.inr h
  have hS : va_S A s.heap s.heap [] := va_S.rf
  have hl := lv_entry ([.ref (a 0)]) (n := 4) (Nat.le_of_ble_eq_true rfl)
  rw [lg_entry_eq]
  generalize (lg_sl ([.ref (a 0)]) ++ List.replicate (4 - (lg_sl ([.ref (a 0)])).length) Slot.unset).toArray = ls at hl ⊢
  have hl : lv_has ls 4 [(0, .ref (a 0))] := hl
  have blk : ∀ k : Nat, k ≤ k0 → (bT p l e (headSpec w_x_wordly ({ frames := 5 + d, cells := 0, slots := 0, locals := 113 + 31 * d })).room s m #[.ref (a 0)] below meth c dC dI cy a A (qI dC dI cy a A below #[.ref (a 0)] s) 4 (x_GE k d 16 0) (fun L => [(0, .ref (a 0))]) 0 (fun L => [])) ∧ (bT p l e (headSpec w_x_wordly ({ frames := 5 + d, cells := 0, slots := 0, locals := 113 + 31 * d })).room s m #[.ref (a 0)] below meth c dC dI cy a A (qI dC dI cy a A below #[.ref (a 0)] s) 4 (x_GE k d 16 1) (fun L => [(0, .ref (a 0)), (1, .int (L 1))]) 64 (fun L => [])) ∧ (bT p l e (headSpec w_x_wordly ({ frames := 5 + d, cells := 0, slots := 0, locals := 113 + 31 * d })).room s m #[.ref (a 0)] below meth c dC dI cy a A (qI dC dI cy a A below #[.ref (a 0)] s) 4 (x_GE k d 16 2) (fun L => [(0, .ref (a 0)), (1, .int (L 1))]) 70 (fun L => [])) ∧ (bT p l e (headSpec w_x_wordly ({ frames := 5 + d, cells := 0, slots := 0, locals := 113 + 31 * d })).room s m #[.ref (a 0)] below meth c dC dI cy a A (qI dC dI cy a A below #[.ref (a 0)] s) 4 (x_GE k d 16 3) (fun L => [(0, .ref (a 0)), (1, .int (L 1))]) 76 (fun L => [])) ∧ (bT p l e (headSpec w_x_wordly ({ frames := 5 + d, cells := 0, slots := 0, locals := 113 + 31 * d })).room s m #[.ref (a 0)] below meth c dC dI cy a A (qI dC dI cy a A below #[.ref (a 0)] s) 4 (x_GE k d 16 4) (fun L => [(0, .ref (a 0)), (1, .int (L 1))]) 82 (fun L => [])) ∧ (bT p l e (headSpec w_x_wordly ({ frames := 5 + d, cells := 0, slots := 0, locals := 113 + 31 * d })).room s m #[.ref (a 0)] below meth c dC dI cy a A (qI dC dI cy a A below #[.ref (a 0)] s) 4 (x_GE k d 16 5) (fun L => [(0, .ref (a 0)), (1, .int (L 1))]) 93 (fun L => [.ref (a 0)])) ∧ (bT p l e (headSpec w_x_wordly ({ frames := 5 + d, cells := 0, slots := 0, locals := 113 + 31 * d })).room s m #[.ref (a 0)] below meth c dC dI cy a A (qI dC dI cy a A below #[.ref (a 0)] s) 4 (x_GE k d 16 6) (fun L => [(0, .ref (a 0)), (1, .int (L 1))]) 94 (fun L => [.int (L 100), .ref (a 0)])) ∧ (bT p l e (headSpec w_x_wordly ({ frames := 5 + d, cells := 0, slots := 0, locals := 113 + 31 * d })).room s m #[.ref (a 0)] below meth c dC dI cy a A (qI dC dI cy a A below #[.ref (a 0)] s) 4 (x_GE k d 16 7) (fun L => [(0, .ref (a 0)), (1, .int (L 1))]) 98 (fun L => [])) ∧ (bT p l e (headSpec w_x_wordly ({ frames := 5 + d, cells := 0, slots := 0, locals := 113 + 31 * d })).room s m #[.ref (a 0)] below meth c dC dI cy a A (qI dC dI cy a A below #[.ref (a 0)] s) 4 (x_GE k d 16 8) (fun L => [(0, .ref (a 0)), (1, .int (L 1))]) 103 (fun L => [])) ∧ (bT p l e (headSpec w_x_wordly ({ frames := 5 + d, cells := 0, slots := 0, locals := 113 + 31 * d })).room s m #[.ref (a 0)] below meth c dC dI cy a A (qI dC dI cy a A below #[.ref (a 0)] s) 4 (x_GE k d 16 9) (fun L => [(0, .ref (a 0)), (1, .int (L 1))]) 123 (fun L => [])) ∧ (bT p l e (headSpec w_x_wordly ({ frames := 5 + d, cells := 0, slots := 0, locals := 113 + 31 * d })).room s m #[.ref (a 0)] below meth c dC dI cy a A (qI dC dI cy a A below #[.ref (a 0)] s) 4 (x_GE k d 16 10) (fun L => [(0, .ref (a 0)), (1, .int (L 1))]) 135 (fun L => [])) ∧ (bT p l e (headSpec w_x_wordly ({ frames := 5 + d, cells := 0, slots := 0, locals := 113 + 31 * d })).room s m #[.ref (a 0)] below meth c dC dI cy a A (qI dC dI cy a A below #[.ref (a 0)] s) 4 (x_GE k d 16 11) (fun L => [(0, .ref (a 0)), (1, .int (L 1))]) 154 (fun L => [])) ∧ (bT p l e (headSpec w_x_wordly ({ frames := 5 + d, cells := 0, slots := 0, locals := 113 + 31 * d })).room s m #[.ref (a 0)] below meth c dC dI cy a A (qI dC dI cy a A below #[.ref (a 0)] s) 4 (x_GE k d 16 12) (fun L => [(0, .ref (a 0)), (1, .int (L 1))]) 158 (fun L => [])) ∧ (bT p l e (headSpec w_x_wordly ({ frames := 5 + d, cells := 0, slots := 0, locals := 113 + 31 * d })).room s m #[.ref (a 0)] below meth c dC dI cy a A (qI dC dI cy a A below #[.ref (a 0)] s) 4 (x_GE k d 16 13) (fun L => [(0, .ref (a 0)), (1, .int (L 1))]) 159 (fun L => [.int (L 100)])) ∧ (bT p l e (headSpec w_x_wordly ({ frames := 5 + d, cells := 0, slots := 0, locals := 113 + 31 * d })).room s m #[.ref (a 0)] below meth c dC dI cy a A (qI dC dI cy a A below #[.ref (a 0)] s) 4 (x_GE k d 16 14) (fun L => [(0, .ref (a 0)), (1, .int (L 1)), (2, .int (L 2))]) 170 (fun L => [])) ∧ (bT p l e (headSpec w_x_wordly ({ frames := 5 + d, cells := 0, slots := 0, locals := 113 + 31 * d })).room s m #[.ref (a 0)] below meth c dC dI cy a A (qI dC dI cy a A below #[.ref (a 0)] s) 4 (x_GE k d 16 15) (fun L => [(0, .ref (a 0)), (1, .int (L 1)), (2, .int (L 2))]) 194 (fun L => [])) ∧ (bT p l e (headSpec w_x_wordly ({ frames := 5 + d, cells := 0, slots := 0, locals := 113 + 31 * d })).room s m #[.ref (a 0)] below meth c dC dI cy a A (qI dC dI cy a A below #[.ref (a 0)] s) 4 (x_GE k d 16 16) (fun L => [(0, .ref (a 0)), (1, .int (L 1)), (2, .int (L 2))]) 205 (fun L => [])) ∧ (bT p l e (headSpec w_x_wordly ({ frames := 5 + d, cells := 0, slots := 0, locals := 113 + 31 * d })).room s m #[.ref (a 0)] below meth c dC dI cy a A (qI dC dI cy a A below #[.ref (a 0)] s) 4 (x_GE k d 16 17) (fun L => [(0, .ref (a 0)), (1, .int (L 1)), (2, .int (L 2))]) 216 (fun L => [])) ∧ (bT p l e (headSpec w_x_wordly ({ frames := 5 + d, cells := 0, slots := 0, locals := 113 + 31 * d })).room s m #[.ref (a 0)] below meth c dC dI cy a A (qI dC dI cy a A below #[.ref (a 0)] s) 4 (x_GE k d 16 18) (fun L => [(0, .ref (a 0)), (1, .int (L 1)), (2, .int (L 2)), (3, .int (L 3))]) 237 (fun L => [])) := by
    intro k
    induction k with
    | zero => exact fun _ => ⟨fun L σ r h => (by cases h), fun L σ r h => (by cases h), fun L σ r h => (by cases h), fun L σ r h => (by cases h), fun L σ r h => (by cases h), fun L σ r h => (by cases h), fun L σ r h => (by cases h), fun L σ r h => (by cases h), fun L σ r h => (by cases h), fun L σ r h => (by cases h), fun L σ r h => (by cases h), fun L σ r h => (by cases h), fun L σ r h => (by cases h), fun L σ r h => (by cases h), fun L σ r h => (by cases h), fun L σ r h => (by cases h), fun L σ r h => (by cases h), fun L σ r h => (by cases h), fun L σ r h => (by cases h)⟩
    | succ k ih =>
      intro hk
      replace ih := ih (by omega)
      refine ⟨?_, ?_, ?_, ?_, ?_, ?_, ?_, ?_, ?_, ?_, ?_, ?_, ?_, ?_, ?_, ?_, ?_, ?_, ?_⟩
      · intro L σ r h H locs ls hP hD hS hl
        rw [x_GE_16, s_wordly_0] at h
        refine lv_aload_n hx hb dX12_wordly_0 rfl (lv_at hl 0 rfl) ?_
        refine ng_7 hx hb hts in_x_wordly hown hK hP (hts _ (List.mem_cons_of_mem _ (List.mem_append_left _ (List.mem_append_left _ (List.mem_of_getElem? (i := 133) rfl))))) dX12_wordly_1 ?_
        refine lv_istore_n (lv' := [(1, .int (σ.1 7)), (0, .ref (a 0))]) hx hb dX12_wordly_4 rfl hl (by decide) rfl (fun ls hl => ?_)
        refine lv_iload_n hx hb dX12_wordly_5 rfl (lv_at hl 0 rfl) ?_
        by_cases q1 : ((σ.1 7)) = (7 : Int32)
        · rw [if_pos q1] at h
          refine lv_lookup (off := 92) (tgt := 98) hx hb dX12_wordly_6 (by decide) (by rw [q1]; decide) (by decide) ?_
          exact ih.2.2.2.2.2.2.2.1 (upd L 1 ((σ.1 7))) σ r h H locs ls hP hD hS (lv_sub hl [1, 0] rfl)
        · rw [if_neg q1] at h
          by_cases q2 : ((σ.1 7)) = (28 : Int32)
          · rw [if_pos q2] at h
            refine lv_lookup (off := 58) (tgt := 64) hx hb dX12_wordly_6 (by decide) (by rw [q2]; decide) (by decide) ?_
            exact ih.2.1 (upd L 1 ((σ.1 7))) σ r h H locs ls hP hD hS (lv_sub hl [1, 0] rfl)
          · rw [if_neg q2] at h
            by_cases q3 : ((σ.1 7)) = (29 : Int32)
            · rw [if_pos q3] at h
              refine lv_lookup (off := 64) (tgt := 70) hx hb dX12_wordly_6 (by decide) (by rw [q3]; decide) (by decide) ?_
              exact ih.2.2.1 (upd L 1 ((σ.1 7))) σ r h H locs ls hP hD hS (lv_sub hl [1, 0] rfl)
            · rw [if_neg q3] at h
              by_cases q4 : ((σ.1 7)) = (30 : Int32)
              · rw [if_pos q4] at h
                refine lv_lookup (off := 70) (tgt := 76) hx hb dX12_wordly_6 (by decide) (by rw [q4]; decide) (by decide) ?_
                exact ih.2.2.2.1 (upd L 1 ((σ.1 7))) σ r h H locs ls hP hD hS (lv_sub hl [1, 0] rfl)
              · rw [if_neg q4] at h
                by_cases q5 : ((σ.1 7)) = (37 : Int32)
                · rw [if_pos q5] at h
                  refine lv_lookup (off := 76) (tgt := 82) hx hb dX12_wordly_6 (by decide) (by rw [q5]; decide) (by decide) ?_
                  exact ih.2.2.2.2.1 (upd L 1 ((σ.1 7))) σ r h H locs ls hP hD hS (lv_sub hl [1, 0] rfl)
                · rw [if_neg q5] at h
                  by_cases q6 : ((σ.1 7)) = (38 : Int32)
                  · rw [if_pos q6] at h
                    refine lv_lookup (off := 76) (tgt := 82) hx hb dX12_wordly_6 (by decide) (by rw [q6]; decide) (by decide) ?_
                    exact ih.2.2.2.2.1 (upd L 1 ((σ.1 7))) σ r h H locs ls hP hD hS (lv_sub hl [1, 0] rfl)
                  · rw [if_neg q6] at h
                    have nq1 : ¬ ((σ.1 7)).toInt = 7 := nb_ti q1 rfl
                    have nq2 : ¬ ((σ.1 7)).toInt = 28 := nb_ti q2 rfl
                    have nq3 : ¬ ((σ.1 7)).toInt = 29 := nb_ti q3 rfl
                    have nq4 : ¬ ((σ.1 7)).toInt = 30 := nb_ti q4 rfl
                    have nq5 : ¬ ((σ.1 7)).toInt = 37 := nb_ti q5 rfl
                    have nq6 : ¬ ((σ.1 7)).toInt = 38 := nb_ti q6 rfl
                    refine lv_lookup (off := 97) (tgt := 103) hx hb dX12_wordly_6 (by decide) (nb_lk (by simp only [List.forall_mem_cons]; exact ⟨nq1, nq2, nq3, nq4, nq5, nq6, fun _ h => absurd h List.not_mem_nil⟩)) (by decide) ?_
                    exact ih.2.2.2.2.2.2.2.2.1 (upd L 1 ((σ.1 7))) σ r h H locs ls hP hD hS (lv_sub hl [1, 0] rfl)
      · intro L σ r h H locs ls hP hD hS hl
        rw [x_GE_16, s_wordly_1] at h
        refine lv_aload_n hx hb dX12_wordly_64 rfl (lv_at hl 0 rfl) ?_
        refine lv_iconst (v := 3) hx hb dX12_wordly_65 (by decide) ?_
        obtain ⟨r1, hc1, h⟩ := ob_ex h
        refine nc_Vi (As := [.int 3]) (rest := []) ⟨hx, hb, hml, hown, hts⟩ (c_x_named l dC dI cy a k (upd (fun _ => 0) 1 3) σ r1 hc1 H.size) (cwV 1 hts g_x_wordly_named_221 rfl rfl rfl hd_x_named (by show 3 + 1 ≤ 5 + d ∧ 8 + (3 + 11) + 64 ≤ 113 + 31 * d; omega)) hK hG hA hP hD hS rfl hl.1 rfl (Nat.le_of_ble_eq_true rfl) dX12_wordly_66 ⟨Nat.le_refl _, Nat.le_refl _⟩ (fun H locs hP hD hS => ?_)
        cases h
        exact W.iret (v := r1.1) hx hb hr (fun t ht hW => ⟨⟨r1.1, (), rfl, rfl, by rw [ht]; exact hP, va_K.moved hW.alike hK, hD⟩, hS.F ht⟩) hS.2.2 dX12_wordly_69
      · intro L σ r h H locs ls hP hD hS hl
        rw [x_GE_16, s_wordly_2] at h
        refine lv_aload_n hx hb dX12_wordly_70 rfl (lv_at hl 0 rfl) ?_
        refine lv_iconst (v := 4) hx hb dX12_wordly_71 (by decide) ?_
        obtain ⟨r1, hc1, h⟩ := ob_ex h
        refine nc_Vi (As := [.int 4]) (rest := []) ⟨hx, hb, hml, hown, hts⟩ (c_x_named l dC dI cy a k (upd (fun _ => 0) 1 4) σ r1 hc1 H.size) (cwV 1 hts g_x_wordly_named_221 rfl rfl rfl hd_x_named (by show 3 + 1 ≤ 5 + d ∧ 8 + (3 + 11) + 64 ≤ 113 + 31 * d; omega)) hK hG hA hP hD hS rfl hl.1 rfl (Nat.le_of_ble_eq_true rfl) dX12_wordly_72 ⟨Nat.le_refl _, Nat.le_refl _⟩ (fun H locs hP hD hS => ?_)
        cases h
        exact W.iret (v := r1.1) hx hb hr (fun t ht hW => ⟨⟨r1.1, (), rfl, rfl, by rw [ht]; exact hP, va_K.moved hW.alike hK, hD⟩, hS.F ht⟩) hS.2.2 dX12_wordly_75
      · intro L σ r h H locs ls hP hD hS hl
        rw [x_GE_16, s_wordly_3] at h
        refine lv_aload_n hx hb dX12_wordly_76 rfl (lv_at hl 0 rfl) ?_
        refine lv_iconst (v := 5) hx hb dX12_wordly_77 (by decide) ?_
        obtain ⟨r1, hc1, h⟩ := ob_ex h
        refine nc_Vi (As := [.int 5]) (rest := []) ⟨hx, hb, hml, hown, hts⟩ (c_x_named l dC dI cy a k (upd (fun _ => 0) 1 5) σ r1 hc1 H.size) (cwV 1 hts g_x_wordly_named_221 rfl rfl rfl hd_x_named (by show 3 + 1 ≤ 5 + d ∧ 8 + (3 + 11) + 64 ≤ 113 + 31 * d; omega)) hK hG hA hP hD hS rfl hl.1 rfl (Nat.le_of_ble_eq_true rfl) dX12_wordly_78 ⟨Nat.le_refl _, Nat.le_refl _⟩ (fun H locs hP hD hS => ?_)
        cases h
        exact W.iret (v := r1.1) hx hb hr (fun t ht hW => ⟨⟨r1.1, (), rfl, rfl, by rw [ht]; exact hP, va_K.moved hW.alike hK, hD⟩, hS.F ht⟩) hS.2.2 dX12_wordly_81
      · intro L σ r h H locs ls hP hD hS hl
        rw [x_GE_16, s_wordly_4] at h
        refine lv_aload_n hx hb dX12_wordly_82 rfl (lv_at hl 0 rfl) ?_
        refine lv_iload_n hx hb dX12_wordly_83 rfl (lv_at hl 1 rfl) ?_
        refine lv_bipush (v := 37) hx hb dX12_wordly_84 (by decide) ?_
        refine lv_icmp_ne (tgt := 93) hx hb dX12_wordly_86 (by decide) (fun c1 => ?_) (fun c1 => ?_)
        · rw [if_neg c1] at h
          exact ih.2.2.2.2.2.1 L σ r h H locs ls hP hD hS (lv_sub hl [0, 1] rfl)
        · rw [if_pos c1] at h
          refine lv_iconst (v := 1) hx hb dX12_wordly_89 (by decide) ?_
          refine lv_goto (tgt := 94) hx hb dX12_wordly_90 (by decide) ?_
          exact ih.2.2.2.2.2.2.1 (upd L 100 1) σ r h H locs ls hP hD hS (lv_sub hl [0, 1] rfl)
      · intro L σ r h H locs ls hP hD hS hl
        rw [x_GE_16, s_wordly_5] at h
        refine lv_iconst (v := 0) hx hb dX12_wordly_93 (by decide) ?_
        exact ih.2.2.2.2.2.2.1 (upd L 100 0) σ r h H locs ls hP hD hS (lv_sub hl [0, 1] rfl)
      · intro L σ r h H locs ls hP hD hS hl
        rw [x_GE_16, s_wordly_6] at h
        obtain ⟨e1, he1, h⟩ := od_ex h
        obtain ⟨r1, hc1, h⟩ := ob_ex h
        refine nc_Vi (As := [.int (L 100)]) (rest := []) ⟨hx, hb, hml, hown, hts⟩ ((IH k (by omega)).2.2.2.2.2.2.2.2.2.2.2.2.1 e1 (upd (fun _ => 0) 1 ((L 100))) σ r1 hc1 H.size) (cwV 1 hts g_x_wordly_quantified_224 rfl rfl rfl hd_x_quantified (by show (5 + e1) + 1 ≤ 5 + d ∧ 8 + (5 + 11) + (113 + 31 * e1) ≤ 113 + 31 * d; omega)) hK hG hA hP hD hS rfl hl.1 rfl (Nat.le_of_ble_eq_true rfl) dX12_wordly_94 ⟨Nat.le_refl _, Nat.le_refl _⟩ (fun H locs hP hD hS => ?_)
        cases h
        exact W.iret (v := r1.1) hx hb hr (fun t ht hW => ⟨⟨r1.1, (), rfl, rfl, by rw [ht]; exact hP, va_K.moved hW.alike hK, hD⟩, hS.F ht⟩) hS.2.2 dX12_wordly_97
      · intro L σ r h H locs ls hP hD hS hl
        rw [x_GE_16, s_wordly_7] at h
        refine lv_aload_n hx hb dX12_wordly_98 rfl (lv_at hl 0 rfl) ?_
        obtain ⟨e1, he1, h⟩ := od_ex h
        obtain ⟨r1, hc1, h⟩ := ob_ex h
        refine nc_Vi (As := []) (rest := []) ⟨hx, hb, hml, hown, hts⟩ ((IH k (by omega)).2.1 e1 (fun _ => 0) σ r1 hc1 H.size) (cwV 0 hts g_x_wordly_choice_227 rfl rfl rfl hd_x_choice (by show (5 + e1) + 1 ≤ 5 + d ∧ 8 + (5 + 11) + (113 + 31 * e1) ≤ 113 + 31 * d; omega)) hK hG hA hP hD hS rfl hl.1 rfl (Nat.le_of_ble_eq_true rfl) dX12_wordly_99 ⟨Nat.le_refl _, Nat.le_refl _⟩ (fun H locs hP hD hS => ?_)
        cases h
        exact W.iret (v := r1.1) hx hb hr (fun t ht hW => ⟨⟨r1.1, (), rfl, rfl, by rw [ht]; exact hP, va_K.moved hW.alike hK, hD⟩, hS.F ht⟩) hS.2.2 dX12_wordly_102
      · intro L σ r h H locs ls hP hD hS hl
        rw [x_GE_16, s_wordly_8] at h
        refine lv_iload_n hx hb dX12_wordly_103 rfl (lv_at hl 1 rfl) ?_
        refine lv_bipush (v := 51) hx hb dX12_wordly_104 (by decide) ?_
        refine lv_icmp_ne (tgt := 123) hx hb dX12_wordly_106 (by decide) (fun c1 => ?_) (fun c1 => ?_)
        · rw [if_neg c1] at h
          exact ih.2.2.2.2.2.2.2.2.2.1 L σ r h H locs ls hP hD hS (lv_sub hl [0, 1] rfl)
        · rw [if_pos c1] at h
          refine lv_aload_n hx hb dX12_wordly_109 rfl (lv_at hl 0 rfl) ?_
          refine ng_43 hx hb hts in_x_wordly hown hK hP (hts _ (List.mem_cons_of_mem _ (List.mem_append_left _ (List.mem_append_left _ (List.mem_of_getElem? (i := 143) rfl))))) dX12_wordly_110 ?_
          refine lv_if_eq (tgt := 123) hx hb dX12_wordly_113 (by decide) (fun c2 => ?_) (fun c2 => ?_)
          · rw [if_pos c2] at h
            exact ih.2.2.2.2.2.2.2.2.2.1 L σ r h H locs ls hP hD hS (lv_sub hl [0, 1] rfl)
          · rw [if_neg c2] at h
            refine lv_aload_n hx hb dX12_wordly_116 rfl (lv_at hl 0 rfl) ?_
            refine lv_bipush (v := 6) hx hb dX12_wordly_117 (by decide) ?_
            obtain ⟨r3, hc3, h⟩ := ob_ex h
            refine nc_Vi (As := [.int 6]) (rest := []) ⟨hx, hb, hml, hown, hts⟩ (c_x_named l dC dI cy a k (upd (fun _ => 0) 1 6) σ r3 hc3 H.size) (cwV 1 hts g_x_wordly_named_221 rfl rfl rfl hd_x_named (by show 3 + 1 ≤ 5 + d ∧ 8 + (3 + 11) + 64 ≤ 113 + 31 * d; omega)) hK hG hA hP hD hS rfl hl.1 rfl (Nat.le_of_ble_eq_true rfl) dX12_wordly_119 ⟨Nat.le_refl _, Nat.le_refl _⟩ (fun H locs hP hD hS => ?_)
            cases h
            exact W.iret (v := r3.1) hx hb hr (fun t ht hW => ⟨⟨r3.1, (), rfl, rfl, by rw [ht]; exact hP, va_K.moved hW.alike hK, hD⟩, hS.F ht⟩) hS.2.2 dX12_wordly_122
      · intro L σ r h H locs ls hP hD hS hl
        rw [x_GE_16, s_wordly_9] at h
        refine lv_iload_n hx hb dX12_wordly_123 rfl (lv_at hl 1 rfl) ?_
        refine lv_bipush (v := 39) hx hb dX12_wordly_124 (by decide) ?_
        refine lv_icmp_lt (tgt := 135) hx hb dX12_wordly_126 (by decide) (fun c1 => ?_) (fun c1 => ?_)
        · rw [if_pos c1] at h
          exact ih.2.2.2.2.2.2.2.2.2.2.1 L σ r h H locs ls hP hD hS (lv_sub hl [0, 1] rfl)
        · rw [if_neg c1] at h
          refine lv_iload_n hx hb dX12_wordly_129 rfl (lv_at hl 1 rfl) ?_
          refine lv_bipush (v := 47) hx hb dX12_wordly_130 (by decide) ?_
          refine lv_icmp_le (tgt := 154) hx hb dX12_wordly_132 (by decide) (fun c2 => ?_) (fun c2 => ?_)
          · rw [if_pos c2] at h
            exact ih.2.2.2.2.2.2.2.2.2.2.2.1 L σ r h H locs ls hP hD hS (lv_sub hl [0, 1] rfl)
          · rw [if_neg c2] at h
            exact ih.2.2.2.2.2.2.2.2.2.2.1 L σ r h H locs ls hP hD hS (lv_sub hl [0, 1] rfl)
      · intro L σ r h H locs ls hP hD hS hl
        rw [x_GE_16, s_wordly_10] at h
        refine lv_iload_n hx hb dX12_wordly_135 rfl (lv_at hl 1 rfl) ?_
        refine lv_bipush (v := 50) hx hb dX12_wordly_136 (by decide) ?_
        refine lv_icmp_eq (tgt := 154) hx hb dX12_wordly_138 (by decide) (fun c1 => ?_) (fun c1 => ?_)
        · rw [if_pos c1] at h
          exact ih.2.2.2.2.2.2.2.2.2.2.2.1 L σ r h H locs ls hP hD hS (lv_sub hl [0, 1] rfl)
        · rw [if_neg c1] at h
          refine lv_iload_n hx hb dX12_wordly_141 rfl (lv_at hl 1 rfl) ?_
          refine lv_bipush (v := 52) hx hb dX12_wordly_142 (by decide) ?_
          refine lv_icmp_ne (tgt := 158) hx hb dX12_wordly_144 (by decide) (fun c2 => ?_) (fun c2 => ?_)
          · rw [if_neg c2] at h
            exact ih.2.2.2.2.2.2.2.2.2.2.2.2.1 L σ r h H locs ls hP hD hS (lv_sub hl [0, 1] rfl)
          · rw [if_pos c2] at h
            refine lv_aload_n hx hb dX12_wordly_147 rfl (lv_at hl 0 rfl) ?_
            refine ng_42 hx hb hts in_x_wordly hown hK hP (hts _ (List.mem_cons_of_mem _ (List.mem_append_left _ (List.mem_append_left _ (List.mem_of_getElem? (i := 144) rfl))))) dX12_wordly_148 ?_
            refine lv_if_eq (tgt := 158) hx hb dX12_wordly_151 (by decide) (fun c3 => ?_) (fun c3 => ?_)
            · rw [if_pos c3] at h
              exact ih.2.2.2.2.2.2.2.2.2.2.2.2.1 L σ r h H locs ls hP hD hS (lv_sub hl [0, 1] rfl)
            · rw [if_neg c3] at h
              exact ih.2.2.2.2.2.2.2.2.2.2.2.1 L σ r h H locs ls hP hD hS (lv_sub hl [0, 1] rfl)
      · intro L σ r h H locs ls hP hD hS hl
        rw [x_GE_16, s_wordly_11] at h
        refine lv_iconst (v := 1) hx hb dX12_wordly_154 (by decide) ?_
        refine lv_goto (tgt := 159) hx hb dX12_wordly_155 (by decide) ?_
        exact ih.2.2.2.2.2.2.2.2.2.2.2.2.2.1 (upd L 100 1) σ r h H locs ls hP hD hS (lv_sub hl [0, 1] rfl)
      · intro L σ r h H locs ls hP hD hS hl
        rw [x_GE_16, s_wordly_12] at h
        refine lv_iconst (v := 0) hx hb dX12_wordly_158 (by decide) ?_
        exact ih.2.2.2.2.2.2.2.2.2.2.2.2.2.1 (upd L 100 0) σ r h H locs ls hP hD hS (lv_sub hl [0, 1] rfl)
      · intro L σ r h H locs ls hP hD hS hl
        rw [x_GE_16, s_wordly_13] at h
        refine lv_istore_n (lv' := [(2, .int (L 100)), (0, .ref (a 0)), (1, .int (L 1))]) hx hb dX12_wordly_159 rfl hl (by decide) rfl (fun ls hl => ?_)
        refine lv_iload_n hx hb dX12_wordly_160 rfl (lv_at hl 0 rfl) ?_
        refine lv_if_ne (tgt := 170) hx hb dX12_wordly_161 (by decide) (fun c1 => ?_) (fun c1 => ?_)
        · rw [if_neg c1] at h
          exact ih.2.2.2.2.2.2.2.2.2.2.2.2.2.2.1 (upd L 2 ((L 100))) σ r h H locs ls hP hD hS (lv_sub hl [1, 2, 0] rfl)
        · rw [if_pos c1] at h
          refine lv_aload_n hx hb dX12_wordly_164 rfl (lv_at hl 1 rfl) ?_
          obtain ⟨r2, hc2, h⟩ := ob_ex h
          refine nc_Vv (As := []) (rest := []) ⟨hx, hb, hml, hown, hts⟩ (c_x_cannot l dC dI cy a k (fun _ => 0) σ r2 hc2 H.size) (cwV 0 hts g_x_wordly_cannot_68 rfl rfl rfl hd_x_cannot (by show 1 + 1 ≤ 5 + d ∧ 8 + (1 + 11) + 22 ≤ 113 + 31 * d; omega)) hK hG hA hP hD hS rfl hl.1 rfl (Nat.le_of_ble_eq_true rfl) dX12_wordly_165 ⟨Nat.le_refl _, Nat.le_refl _⟩ (fun H locs hP hD hS => ?_)
          refine lv_iconst (v := 0) hx hb dX12_wordly_168 (by decide) ?_
          cases h
          exact W.iret (v := 0) hx hb hr (fun t ht hW => ⟨⟨0, (), rfl, rfl, by rw [ht]; exact hP, va_K.moved hW.alike hK, hD⟩, hS.F ht⟩) hS.2.2 dX12_wordly_169
      · intro L σ r h H locs ls hP hD hS hl
        rw [x_GE_16, s_wordly_14] at h
        refine lv_aload_n hx hb dX12_wordly_170 rfl (lv_at hl 0 rfl) ?_
        obtain ⟨r1, hc1, h⟩ := ob_ex h
        refine nc_Vv (As := []) (rest := []) ⟨hx, hb, hml, hown, hts⟩ (c_x_take l dC dI cy a k (fun _ => 0) σ r1 hc1 H.size) (cwV 0 hts g_x_wordly_take_71 rfl rfl rfl hd_x_take (by show 2 + 1 ≤ 5 + d ∧ 8 + (2 + 11) + 43 ≤ 113 + 31 * d; omega)) hK hG hA hP hD hS rfl hl.1 rfl (Nat.le_of_ble_eq_true rfl) dX12_wordly_171 ⟨Nat.le_refl _, Nat.le_refl _⟩ (fun H locs hP hD hS => ?_)
        refine lv_aload_n hx hb dX12_wordly_174 rfl (lv_at hl 0 rfl) ?_
        refine ng_10 hx hb hts in_x_wordly hown hK hP (hts _ (List.mem_cons_of_mem _ (List.mem_append_left _ (List.mem_append_left _ (List.mem_of_getElem? (i := 24) rfl))))) dX12_wordly_175 ?_
        refine lv_if_ne (tgt := 194) hx hb dX12_wordly_178 (by decide) (fun c2 => ?_) (fun c2 => ?_)
        · rw [if_neg c2] at h
          exact ih.2.2.2.2.2.2.2.2.2.2.2.2.2.2.2.1 L r1.2 r h H locs ls hP hD hS (lv_sub hl [0, 1, 2] rfl)
        · rw [if_pos c2] at h
          refine lv_aload_n hx hb dX12_wordly_181 rfl (lv_at hl 0 rfl) ?_
          refine lv_bipush (v := 6) hx hb dX12_wordly_182 (by decide) ?_
          obtain ⟨r3, hc3, h⟩ := ob_ex h
          refine nc_Vi (As := [.int 6]) (rest := []) ⟨hx, hb, hml, hown, hts⟩ (c_x_isSign l dC dI cy a k (upd (fun _ => 0) 1 6) r1.2 r3 hc3 H.size) (cwV 1 hts g_x_wordly_isSign_65 rfl rfl rfl hd_x_isSign (by show 0 + 1 ≤ 5 + d ∧ 8 + (2 + 11) + 0 ≤ 113 + 31 * d; omega)) hK hG hA hP hD hS rfl hl.1 rfl (Nat.le_of_ble_eq_true rfl) dX12_wordly_184 ⟨Nat.le_refl _, Nat.le_refl _⟩ (fun H locs hP hD hS => ?_)
          refine lv_if_ne (tgt := 194) hx hb dX12_wordly_187 (by decide) (fun c4 => ?_) (fun c4 => ?_)
          · rw [if_neg c4] at h
            exact ih.2.2.2.2.2.2.2.2.2.2.2.2.2.2.2.1 L r3.2 r h H locs ls hP hD hS (lv_sub hl [0, 1, 2] rfl)
          · rw [if_pos c4] at h
            refine lv_aload_n hx hb dX12_wordly_190 rfl (lv_at hl 0 rfl) ?_
            obtain ⟨r5, hc5, h⟩ := ob_ex h
            refine nc_Vv (As := []) (rest := []) ⟨hx, hb, hml, hown, hts⟩ (c_x_cannot l dC dI cy a k (fun _ => 0) r3.2 r5 hc5 H.size) (cwV 0 hts g_x_wordly_cannot_68 rfl rfl rfl hd_x_cannot (by show 1 + 1 ≤ 5 + d ∧ 8 + (1 + 11) + 22 ≤ 113 + 31 * d; omega)) hK hG hA hP hD hS rfl hl.1 rfl (Nat.le_of_ble_eq_true rfl) dX12_wordly_191 ⟨Nat.le_refl _, Nat.le_refl _⟩ (fun H locs hP hD hS => ?_)
            exact ih.2.2.2.2.2.2.2.2.2.2.2.2.2.2.2.1 L r5.2 r h H locs ls hP hD hS (lv_sub hl [0, 1, 2] rfl)
      · intro L σ r h H locs ls hP hD hS hl
        rw [x_GE_16, s_wordly_15] at h
        refine lv_aload_n hx hb dX12_wordly_194 rfl (lv_at hl 0 rfl) ?_
        refine ng_10 hx hb hts in_x_wordly hown hK hP (hts _ (List.mem_cons_of_mem _ (List.mem_append_left _ (List.mem_append_left _ (List.mem_of_getElem? (i := 24) rfl))))) dX12_wordly_195 ?_
        refine lv_if_ne (tgt := 205) hx hb dX12_wordly_198 (by decide) (fun c1 => ?_) (fun c1 => ?_)
        · rw [if_neg c1] at h
          exact ih.2.2.2.2.2.2.2.2.2.2.2.2.2.2.2.2.1 L σ r h H locs ls hP hD hS (lv_sub hl [0, 1, 2] rfl)
        · rw [if_pos c1] at h
          refine lv_aload_n hx hb dX12_wordly_201 rfl (lv_at hl 0 rfl) ?_
          obtain ⟨r2, hc2, h⟩ := ob_ex h
          refine nc_Vv (As := []) (rest := []) ⟨hx, hb, hml, hown, hts⟩ (c_x_open l dC dI cy a k (fun _ => 0) σ r2 hc2 H.size) (cwV 0 hts g_x_wordly_open_177 rfl rfl rfl hd_x_open (by show 1 + 1 ≤ 5 + d ∧ 8 + (1 + 11) + 22 ≤ 113 + 31 * d; omega)) hK hG hA hP hD hS rfl hl.1 rfl (Nat.le_of_ble_eq_true rfl) dX12_wordly_202 ⟨Nat.le_refl _, Nat.le_refl _⟩ (fun H locs hP hD hS => ?_)
          exact ih.2.2.2.2.2.2.2.2.2.2.2.2.2.2.2.2.1 L r2.2 r h H locs ls hP hD hS (lv_sub hl [0, 1, 2] rfl)
      · intro L σ r h H locs ls hP hD hS hl
        rw [x_GE_16, s_wordly_16] at h
        refine lv_aload_n hx hb dX12_wordly_205 rfl (lv_at hl 0 rfl) ?_
        refine ng_10 hx hb hts in_x_wordly hown hK hP (hts _ (List.mem_cons_of_mem _ (List.mem_append_left _ (List.mem_append_left _ (List.mem_of_getElem? (i := 24) rfl))))) dX12_wordly_206 ?_
        refine lv_if_ne (tgt := 216) hx hb dX12_wordly_209 (by decide) (fun c1 => ?_) (fun c1 => ?_)
        · rw [if_neg c1] at h
          exact ih.2.2.2.2.2.2.2.2.2.2.2.2.2.2.2.2.2.1 L σ r h H locs ls hP hD hS (lv_sub hl [0, 1, 2] rfl)
        · rw [if_pos c1] at h
          refine lv_aload_n hx hb dX12_wordly_212 rfl (lv_at hl 0 rfl) ?_
          obtain ⟨r2, hc2, h⟩ := ob_ex h
          refine nc_Vv (As := []) (rest := []) ⟨hx, hb, hml, hown, hts⟩ (c_x_take l dC dI cy a k (fun _ => 0) σ r2 hc2 H.size) (cwV 0 hts g_x_wordly_take_71 rfl rfl rfl hd_x_take (by show 2 + 1 ≤ 5 + d ∧ 8 + (2 + 11) + 43 ≤ 113 + 31 * d; omega)) hK hG hA hP hD hS rfl hl.1 rfl (Nat.le_of_ble_eq_true rfl) dX12_wordly_213 ⟨Nat.le_refl _, Nat.le_refl _⟩ (fun H locs hP hD hS => ?_)
          exact ih.2.2.2.2.2.2.2.2.2.2.2.2.2.2.2.2.2.1 L r2.2 r h H locs ls hP hD hS (lv_sub hl [0, 1, 2] rfl)
      · intro L σ r h H locs ls hP hD hS hl
        rw [x_GE_16, s_wordly_17] at h
        refine lv_aload_n hx hb dX12_wordly_216 rfl (lv_at hl 0 rfl) ?_
        obtain ⟨e1, he1, h⟩ := od_ex h
        obtain ⟨r1, hc1, h⟩ := ob_ex h
        refine nc_Vi (As := []) (rest := []) ⟨hx, hb, hml, hown, hts⟩ ((IH k (by omega)).2.2.2.1 e1 (fun _ => 0) σ r1 hc1 H.size) (cwV 0 hts g_x_wordly_exp_209 rfl rfl rfl hd_x_exp (by show (5 + e1) + 1 ≤ 5 + d ∧ 8 + (2 + 11) + (113 + 31 * e1) ≤ 113 + 31 * d; omega)) hK hG hA hP hD hS rfl hl.1 rfl (Nat.le_of_ble_eq_true rfl) dX12_wordly_217 ⟨Nat.le_refl _, Nat.le_refl _⟩ (fun H locs hP hD hS => ?_)
        refine lv_istore_n (lv' := [(3, .int r1.1), (0, .ref (a 0)), (1, .int (L 1)), (2, .int (L 2))]) hx hb dX12_wordly_220 rfl hl (by decide) rfl (fun ls hl => ?_)
        refine lv_aload_n hx hb dX12_wordly_221 rfl (lv_at hl 1 rfl) ?_
        refine lv_bipush (v := 7) hx hb dX12_wordly_222 (by decide) ?_
        obtain ⟨r2, hc2, h⟩ := ob_ex h
        refine nc_Vv (As := [.int 7]) (rest := []) ⟨hx, hb, hml, hown, hts⟩ (c_x_want l dC dI cy a k (upd (fun _ => 0) 1 7) r1.2 r2 hc2 H.size) (cwV 1 hts g_x_wordly_want_199 rfl rfl rfl hd_x_want (by show 3 + 1 ≤ 5 + d ∧ 8 + (2 + 11) + 64 ≤ 113 + 31 * d; omega)) hK hG hA hP hD hS rfl hl.1 rfl (Nat.le_of_ble_eq_true rfl) dX12_wordly_224 ⟨Nat.le_refl _, Nat.le_refl _⟩ (fun H locs hP hD hS => ?_)
        refine lv_aload_n hx hb dX12_wordly_227 rfl (lv_at hl 1 rfl) ?_
        refine lv_dup hx hb dX12_wordly_228 rfl ?_
        refine ng_13 hx hb hts in_x_wordly hown hK hP (hts _ (List.mem_cons_of_mem _ (List.mem_append_left _ (List.mem_append_left _ (List.mem_of_getElem? (i := 50) rfl))))) dX12_wordly_229 ?_
        refine lv_iconst (v := 1) hx hb dX12_wordly_232 (by decide) ?_
        refine lv_isub hx hb dX12_wordly_233 ?_
        refine np_13 hx hb hts in_x_wordly hown hK hP hD hS (hts _ (List.mem_cons_of_mem _ (List.mem_append_left _ (List.mem_append_left _ (List.mem_of_getElem? (i := 50) rfl))))) dX12_wordly_234 (fun H locs hP hD hS => ?_)
        exact ih.2.2.2.2.2.2.2.2.2.2.2.2.2.2.2.2.2.2 (upd L 3 r1.1) (upd r2.2.1 13 ((((r2.2.1 13)) - 1)), r2.2.2.1, r2.2.2.2) r h H locs ls hP hD hS (lv_sub hl [1, 2, 3, 0] rfl)
      · intro L σ r h H locs ls hP hD hS hl
        rw [x_GE_16, s_wordly_18] at h
        refine lv_aload_n hx hb dX12_wordly_237 rfl (lv_at hl 0 rfl) ?_
        refine lv_bipush (v := 9) hx hb dX12_wordly_238 (by decide) ?_
        refine lv_iload_n hx hb dX12_wordly_240 rfl (lv_at hl 1 rfl) ?_
        refine lv_iload_n hx hb dX12_wordly_241 rfl (lv_at hl 3 rfl) ?_
        refine lv_iconst (v := 0) hx hb dX12_wordly_242 (by decide) ?_
        obtain ⟨r1, hc1, h⟩ := ob_ex h
        refine nc_Vi (As := [.int 9, .int (L 1), .int (L 3), .int 0]) (rest := []) ⟨hx, hb, hml, hown, hts⟩ (c_x_node l dC dI cy a k (upd (upd (upd (upd (fun _ => 0) 1 9) 2 ((L 1))) 3 ((L 3))) 4 0) σ r1 hc1 H.size) (cwV 4 hts g_x_wordly_node_101 rfl rfl rfl hd_x_node (by show 0 + 1 ≤ 5 + d ∧ 8 + (6 + 11) + 0 ≤ 113 + 31 * d; omega)) hK hG hA hP hD hS rfl hl.1 rfl (Nat.le_of_ble_eq_true rfl) dX12_wordly_243 ⟨Nat.le_refl _, Nat.le_refl _⟩ (fun H locs hP hD hS => ?_)
        cases h
        exact W.iret (v := r1.1) hx hb hr (fun t ht hW => ⟨⟨r1.1, (), rfl, rfl, by rw [ht]; exact hP, va_K.moved hW.alike hK, hD⟩, hS.F ht⟩) hS.2.2 dX12_wordly_246
  exact (blk k0 (Nat.le_refl _)).1 L0 σ0 r0 h0 s.heap [] ls hP hD hS hl
