/-! The law's loop: a function of the script and of both sides. -/
abbrev LT := Option (Int32 × (Nat × Nat))
def adL (c : Nat × Nat) (y : LT) : LT := match y with
  | none => none
  | some q => some (q.1, (c.1 + q.2.1, c.2 + q.2.2))
theorem adL_ex {c : Nat × Nat} {y : LT} {r : Int32 × (Nat × Nat)} (h : adL c y = some r) : ∃ q : Int32 × (Nat × Nat), y = some q ∧ r = (q.1, (c.1 + q.2.1, c.2 + q.2.2)) := by
  cases y with
  | none => cases h
  | some q => exact ⟨q, rfl, (Option.some.inj h).symm⟩
theorem kL_ite1 {P : Prop} {_ : Decidable P} {x : LT} {r : Int32 × (Nat × Nat)} (h : (if P then x else none) = some r) : P ∧ x = some r := by
  by_cases q : P
  · rw [if_pos q] at h; exact ⟨q, h⟩
  · rw [if_neg q] at h; cases h
def oR (x : Option RS) (g : RS → LT) : LT := match x with
  | none => none
  | some q => g q
theorem oR_ex {x : Option RS} {g : RS → LT} {r : Int32 × (Nat × Nat)} (h : oR x g = some r) : ∃ q : RS, x = some q ∧ g q = some r := by
  cases x with
  | none => cases h
  | some q => exact ⟨q, rfl, h⟩
def oM (x : Option (Int32 × MS)) (g : (Int32 × MS) → LT) : LT := match x with
  | none => none
  | some q => g q
theorem oM_ex {x : Option (Int32 × MS)} {g : (Int32 × MS) → LT} {r : Int32 × (Nat × Nat)} (h : oM x g = some r) : ∃ q : (Int32 × MS), x = some q ∧ g q = some r := by
  cases x with
  | none => cases h
  | some q => exact ⟨q, rfl, h⟩
def oY (x : Option (Int32 × CS)) (g : (Int32 × CS) → LT) : LT := match x with
  | none => none
  | some q => g q
theorem oY_ex {x : Option (Int32 × CS)} {g : (Int32 × CS) → LT} {r : Int32 × (Nat × Nat)} (h : oY x g = some r) : ∃ q : (Int32 × CS), x = some q ∧ g q = some r := by
  cases x with
  | none => cases h
  | some q => exact ⟨q, rfl, h⟩
def lawF (n : Nat) (f : Nat → Int32) : Nat → Int32 → (CS × (Nat → Int64) × MS) → LT
  | 0, _, _ => none
  | k + 1, i, (σ, w, τ) => if ((((nI n)) - 6)) < i then (some (1, (0, 0))) else (if ¬ (i < 0 ∨ n ≤ i.toNatClampNeg) then (if ((((f i.toNatClampNeg)) &&& 31)) = (0 : Int32) then (if ¬ (((i + 1)) < 0 ∨ n ≤ ((i + 1)).toNatClampNeg) then (if ¬ (((i + 2)) < 0 ∨ n ≤ ((i + 2)).toNatClampNeg) then (if ¬ (((i + 3)) < 0 ∨ n ≤ ((i + 3)).toNatClampNeg) then (if ¬ (((i + 4)) < 0 ∨ n ≤ ((i + 4)).toNatClampNeg) then (if ¬ (((i + 5)) < 0 ∨ n ≤ ((i + 5)).toNatClampNeg) then (oR (f_X11_feed k 0 (lI (lI (lI (lI (lI lZ 1 ((f ((i + 1)).toNatClampNeg))) 2 ((f ((i + 2)).toNatClampNeg))) 3 ((f ((i + 3)).toNatClampNeg))) 4 ((f ((i + 4)).toNatClampNeg))) 5 ((f ((i + 5)).toNatClampNeg))) σ) (fun r8 => if r8.1.1 = 0 ∨ r8.1.1 = 4 then (adL r8.2.2 (if ¬ (((i + 1)) < 0 ∨ n ≤ ((i + 1)).toNatClampNeg) then (if ¬ (((i + 2)) < 0 ∨ n ≤ ((i + 2)).toNatClampNeg) then (if ¬ (((i + 3)) < 0 ∨ n ≤ ((i + 3)).toNatClampNeg) then (if ¬ (((i + 4)) < 0 ∨ n ≤ ((i + 4)).toNatClampNeg) then (if ¬ (((i + 5)) < 0 ∨ n ≤ ((i + 5)).toNatClampNeg) then (oM (x_feed k 0 (upd (upd (upd (upd (upd (fun _ => 0) 1 ((f ((i + 1)).toNatClampNeg))) 2 ((f ((i + 2)).toNatClampNeg))) 3 ((f ((i + 3)).toNatClampNeg))) 4 ((f ((i + 4)).toNatClampNeg))) 5 ((f ((i + 5)).toNatClampNeg))) τ) (fun r14 => lawF n f k (i + 6) (r8.2.1, (wo w r8.1.1 r8.1.2), r14.2))) else none) else none) else none) else none) else none)) else none)) else none) else none) else none) else none) else none) else (if ((((f i.toNatClampNeg)) &&& 31)) = (1 : Int32) then (if ¬ (((i + 1)) < 0 ∨ n ≤ ((i + 1)).toNatClampNeg) then (oR (f_X11_end k 0 (lI lZ 1 ((f ((i + 1)).toNatClampNeg))) σ) (fun r17 => if r17.1.1 = 0 ∨ r17.1.1 = 1 then (adL r17.2.2 (if ¬ (((i + 1)) < 0 ∨ n ≤ ((i + 1)).toNatClampNeg) then (oM (x_end k 0 (upd (fun _ => 0) 1 ((f ((i + 1)).toNatClampNeg))) τ) (fun r19 => oM (x_thrown k 0 (fun _ => 0) r19.2) (fun r20 => if r20.1 = ((wv 1 1 1 r17.1.1)) then (lawF n f k (i + 6) (r17.2.1, w, r20.2)) else (some (0, (0, 0)))))) else none)) else none)) else none) else (if ((((f i.toNatClampNeg)) &&& 31)) = (2 : Int32) then (oR (f_X11_program k 0 lZ σ) (fun r23 => if r23.1.1 = 0 then (adL r23.2.2 (oM (x_program k 0 (fun _ => 0) τ) (fun r24 => lawF n f k (i + 6) (r23.2.1, w, r24.2)))) else none)) else (if ((((f i.toNatClampNeg)) &&& 31)) = (3 : Int32) then (oY (y_X11_fault k 0 lZ σ) (fun r26 => oM (x_fault_ k 0 (fun _ => 0) τ) (fun r27 => lawF n f k (i + 6) (r26.2, w, r27.2)))) else (if ((((f i.toNatClampNeg)) &&& 31)) = (4 : Int32) then (if ¬ (((i + 1)) < 0 ∨ n ≤ ((i + 1)).toNatClampNeg) then (if ¬ (((i + 2)) < 0 ∨ n ≤ ((i + 2)).toNatClampNeg) then (oR (f_X11_start k 0 (lJ lZ 1 ((((((((f ((i + 1)).toNatClampNeg)).toInt64)) <<< ((32 : Int32).toInt64 &&& 63))) ||| ((((((f ((i + 2)).toNatClampNeg)).toInt64)) &&& 4294967295))))) σ) (fun r31 => if r31.1.1 = 0 ∨ r31.1.1 = 2 then (adL r31.2.2 (if ¬ (((i + 1)) < 0 ∨ n ≤ ((i + 1)).toNatClampNeg) then (if ¬ (((i + 2)) < 0 ∨ n ≤ ((i + 2)).toNatClampNeg) then (oM (x_start k 0 (fun _ => 0) (updW (fun _ => 0) 1 ((((((((f ((i + 1)).toNatClampNeg)).toInt64)) <<< ((32 : Int32).toInt64 &&& 63))) ||| ((((((f ((i + 2)).toNatClampNeg)).toInt64)) &&& 4294967295))))) τ) (fun r34 => lawF n f k (i + 6) (r31.2.1, w, r34.2))) else none) else none)) else none)) else none) else none) else (if ((((f i.toNatClampNeg)) &&& 31)) = (5 : Int32) then (if ¬ (((i + 1)) < 0 ∨ n ≤ ((i + 1)).toNatClampNeg) then (oR (f_X11_step k 0 (lI lZ 1 ((f ((i + 1)).toNatClampNeg))) σ) (fun r37 => if r37.1.1 = 0 ∨ r37.1.1 = 2 ∨ r37.1.1 = 1 then (adL r37.2.2 (if ¬ (((i + 1)) < 0 ∨ n ≤ ((i + 1)).toNatClampNeg) then (oM (x_step k 0 (upd (fun _ => 0) 1 ((f ((i + 1)).toNatClampNeg))) τ) (fun r39 => lawF n f k (i + 6) (r37.2.1, (wo w r37.1.1 r37.1.2), r39.2))) else none)) else none)) else none) else (if ((((f i.toNatClampNeg)) &&& 31)) = (6 : Int32) then (if ¬ (((i + 1)) < 0 ∨ n ≤ ((i + 1)).toNatClampNeg) then (oR (f_X11_back k 0 (lI lZ 1 ((f ((i + 1)).toNatClampNeg))) σ) (fun r42 => if r42.1.1 = 0 ∨ r42.1.1 = 2 ∨ r42.1.1 = 1 then (adL r42.2.2 (if ¬ (((i + 1)) < 0 ∨ n ≤ ((i + 1)).toNatClampNeg) then (oM (x_back k 0 (upd (fun _ => 0) 1 ((f ((i + 1)).toNatClampNeg))) τ) (fun r44 => lawF n f k (i + 6) (r42.2.1, (wo w r42.1.1 r42.1.2), r44.2))) else none)) else none)) else none) else (if ((((f i.toNatClampNeg)) &&& 31)) = (7 : Int32) then (if ¬ (((i + 1)) < 0 ∨ n ≤ ((i + 1)).toNatClampNeg) then (oR (f_X11_state k 0 (lI lZ 1 ((f ((i + 1)).toNatClampNeg))) σ) (fun r47 => if r47.1.1 = 0 ∨ r47.1.1 = 3 ∨ r47.1.1 = 2 then (adL r47.2.2 (if ¬ (((i + 1)) < 0 ∨ n ≤ ((i + 1)).toNatClampNeg) then (oM (x_state k 0 (upd (fun _ => 0) 1 ((f ((i + 1)).toNatClampNeg))) τ) (fun r49 => lawF n f k (i + 6) (r47.2.1, (wo w r47.1.1 r47.1.2), r49.2))) else none)) else none)) else none) else (if ((((f i.toNatClampNeg)) &&& 31)) = (8 : Int32) then (if ¬ (((i + 1)) < 0 ∨ n ≤ ((i + 1)).toNatClampNeg) then (oR (f_X11_out k 0 (lI lZ 1 ((f ((i + 1)).toNatClampNeg))) σ) (fun r52 => if r52.1.1 = 0 ∨ r52.1.1 = 3 then (adL r52.2.2 (if ¬ (((i + 1)) < 0 ∨ n ≤ ((i + 1)).toNatClampNeg) then (oM (x_out k 0 (upd (fun _ => 0) 1 ((f ((i + 1)).toNatClampNeg))) τ) (fun r54 => lawF n f k (i + 6) (r52.2.1, (wo w r52.1.1 r52.1.2), r54.2))) else none)) else none)) else none) else (if ((((f i.toNatClampNeg)) &&& 31)) = (9 : Int32) then (oR (f_X11_value k 0 lZ σ) (fun r56 => if r56.1.1 = 0 ∨ r56.1.1 = 2 ∨ r56.1.1 = 1 then (adL r56.2.2 (oM (x_value k 0 (fun _ => 0) τ) (fun r57 => lawF n f k (i + 6) (r56.2.1, (wo w r56.1.1 r56.1.2), r57.2)))) else none)) else (if ((((f i.toNatClampNeg)) &&& 31)) = (10 : Int32) then (oR (f_X11_work k 0 lZ σ) (fun r59 => if r59.1.1 = 0 ∨ r59.1.1 = 2 then (adL r59.2.2 (oM (x_work k 0 (fun _ => 0) (fun _ => 0) τ) (fun r60 => lawF n f k (i + 6) (r59.2.1, (wo w r59.1.1 r59.1.2), r60.2)))) else none)) else (if ((((f i.toNatClampNeg)) &&& 31)) = (11 : Int32) then (oR (f_X11_view k 0 lZ σ) (fun r62 => if r62.1.1 = 0 ∨ r62.1.1 = 2 ∨ r62.1.1 = 4 then (adL r62.2.2 (oM (x_view k 0 (fun _ => 0) τ) (fun r63 => lawF n f k (i + 6) (r62.2.1, (wo w r62.1.1 r62.1.2), r63.2)))) else none)) else (if ((((f i.toNatClampNeg)) &&& 31)) = (12 : Int32) then (oR (f_X11_round k 0 lZ σ) (fun r65 => if r65.1.1 = 0 ∨ r65.1.1 = 2 then (adL r65.2.2 (oM (x_round k 0 (fun _ => 0) τ) (fun r66 => lawF n f k (i + 6) (r65.2.1, (wo w r65.1.1 r65.1.2), r66.2)))) else none)) else (if ((((f i.toNatClampNeg)) &&& 31)) = (13 : Int32) then (if ¬ (((i + 1)) < 0 ∨ n ≤ ((i + 1)).toNatClampNeg) then (if ¬ (((i + 2)) < 0 ∨ n ≤ ((i + 2)).toNatClampNeg) then (oR (f_X11_seen k 0 (lI (lI lZ 1 ((f ((i + 1)).toNatClampNeg))) 2 ((f ((i + 2)).toNatClampNeg))) σ) (fun r70 => if r70.1.1 = 0 ∨ r70.1.1 = 3 ∨ r70.1.1 = 2 then (adL r70.2.2 (if ¬ (((i + 1)) < 0 ∨ n ≤ ((i + 1)).toNatClampNeg) then (if ¬ (((i + 2)) < 0 ∨ n ≤ ((i + 2)).toNatClampNeg) then (oM (x_seen k 0 (upd (upd (fun _ => 0) 1 ((f ((i + 1)).toNatClampNeg))) 2 ((f ((i + 2)).toNatClampNeg))) τ) (fun r73 => lawF n f k (i + 6) (r70.2.1, (wo w r70.1.1 r70.1.2), r73.2))) else none) else none)) else none)) else none) else none) else (if ((((f i.toNatClampNeg)) &&& 31)) = (14 : Int32) then (if ¬ (((i + 1)) < 0 ∨ n ≤ ((i + 1)).toNatClampNeg) then (oR (f_X11_shown k 0 (lI lZ 1 ((f ((i + 1)).toNatClampNeg))) σ) (fun r76 => if r76.1.1 = 0 ∨ r76.1.1 = 3 then (adL r76.2.2 (if ¬ (((i + 1)) < 0 ∨ n ≤ ((i + 1)).toNatClampNeg) then (oM (x_shown k 0 (upd (fun _ => 0) 1 ((f ((i + 1)).toNatClampNeg))) τ) (fun r78 => lawF n f k (i + 6) (r76.2.1, (wo w r76.1.1 r76.1.2), r78.2))) else none)) else none)) else none) else (if ((((f i.toNatClampNeg)) &&& 31)) = (15 : Int32) then (if ¬ (((i + 1)) < 0 ∨ n ≤ ((i + 1)).toNatClampNeg) then (oR (f_X11_shape k 0 (lI lZ 1 ((f ((i + 1)).toNatClampNeg))) σ) (fun r81 => if r81.1.1 = 0 ∨ r81.1.1 = 3 then (adL r81.2.2 (if ¬ (((i + 1)) < 0 ∨ n ≤ ((i + 1)).toNatClampNeg) then (oM (x_shape k 0 (upd (fun _ => 0) 1 ((f ((i + 1)).toNatClampNeg))) τ) (fun r83 => lawF n f k (i + 6) (r81.2.1, (wo w r81.1.1 r81.1.2), r83.2))) else none)) else none)) else none) else (if ((((f i.toNatClampNeg)) &&& 31)) = (16 : Int32) then (oY (y_X11_order k 0 lZ σ) (fun r85 => oM (x_order k 0 (fun _ => 0) τ) (fun r86 => lawF n f k (i + 6) (r85.2, w, r86.2)))) else (if ((((f i.toNatClampNeg)) &&& 31)) = (17 : Int32) then (if ¬ (((i + 1)) < 0 ∨ n ≤ ((i + 1)).toNatClampNeg) then (oR (f_X11_count k 0 (lI lZ 1 ((f ((i + 1)).toNatClampNeg))) σ) (fun r89 => if r89.1.1 = 0 ∨ r89.1.1 = 3 then (adL r89.2.2 (if ¬ (((i + 1)) < 0 ∨ n ≤ ((i + 1)).toNatClampNeg) then (oM (x_count k 0 (upd (fun _ => 0) 1 ((f ((i + 1)).toNatClampNeg))) τ) (fun r91 => lawF n f k (i + 6) (r89.2.1, (wo w r89.1.1 r89.1.2), r91.2))) else none)) else none)) else none) else (lawF n f k (i + 6) (σ, w, τ)))))))))))))))))))) else none)
theorem lawF_s (n : Nat) (f : Nat → Int32) (k : Nat) (i : Int32) (σ : CS) (w : Nat → Int64) (τ : MS) : lawF n f (k + 1) i (σ, w, τ) = (if ((((nI n)) - 6)) < i then (some (1, (0, 0))) else (if ¬ (i < 0 ∨ n ≤ i.toNatClampNeg) then (if ((((f i.toNatClampNeg)) &&& 31)) = (0 : Int32) then (if ¬ (((i + 1)) < 0 ∨ n ≤ ((i + 1)).toNatClampNeg) then (if ¬ (((i + 2)) < 0 ∨ n ≤ ((i + 2)).toNatClampNeg) then (if ¬ (((i + 3)) < 0 ∨ n ≤ ((i + 3)).toNatClampNeg) then (if ¬ (((i + 4)) < 0 ∨ n ≤ ((i + 4)).toNatClampNeg) then (if ¬ (((i + 5)) < 0 ∨ n ≤ ((i + 5)).toNatClampNeg) then (oR (f_X11_feed k 0 (lI (lI (lI (lI (lI lZ 1 ((f ((i + 1)).toNatClampNeg))) 2 ((f ((i + 2)).toNatClampNeg))) 3 ((f ((i + 3)).toNatClampNeg))) 4 ((f ((i + 4)).toNatClampNeg))) 5 ((f ((i + 5)).toNatClampNeg))) σ) (fun r8 => if r8.1.1 = 0 ∨ r8.1.1 = 4 then (adL r8.2.2 (if ¬ (((i + 1)) < 0 ∨ n ≤ ((i + 1)).toNatClampNeg) then (if ¬ (((i + 2)) < 0 ∨ n ≤ ((i + 2)).toNatClampNeg) then (if ¬ (((i + 3)) < 0 ∨ n ≤ ((i + 3)).toNatClampNeg) then (if ¬ (((i + 4)) < 0 ∨ n ≤ ((i + 4)).toNatClampNeg) then (if ¬ (((i + 5)) < 0 ∨ n ≤ ((i + 5)).toNatClampNeg) then (oM (x_feed k 0 (upd (upd (upd (upd (upd (fun _ => 0) 1 ((f ((i + 1)).toNatClampNeg))) 2 ((f ((i + 2)).toNatClampNeg))) 3 ((f ((i + 3)).toNatClampNeg))) 4 ((f ((i + 4)).toNatClampNeg))) 5 ((f ((i + 5)).toNatClampNeg))) τ) (fun r14 => lawF n f k (i + 6) (r8.2.1, (wo w r8.1.1 r8.1.2), r14.2))) else none) else none) else none) else none) else none)) else none)) else none) else none) else none) else none) else none) else (if ((((f i.toNatClampNeg)) &&& 31)) = (1 : Int32) then (if ¬ (((i + 1)) < 0 ∨ n ≤ ((i + 1)).toNatClampNeg) then (oR (f_X11_end k 0 (lI lZ 1 ((f ((i + 1)).toNatClampNeg))) σ) (fun r17 => if r17.1.1 = 0 ∨ r17.1.1 = 1 then (adL r17.2.2 (if ¬ (((i + 1)) < 0 ∨ n ≤ ((i + 1)).toNatClampNeg) then (oM (x_end k 0 (upd (fun _ => 0) 1 ((f ((i + 1)).toNatClampNeg))) τ) (fun r19 => oM (x_thrown k 0 (fun _ => 0) r19.2) (fun r20 => if r20.1 = ((wv 1 1 1 r17.1.1)) then (lawF n f k (i + 6) (r17.2.1, w, r20.2)) else (some (0, (0, 0)))))) else none)) else none)) else none) else (if ((((f i.toNatClampNeg)) &&& 31)) = (2 : Int32) then (oR (f_X11_program k 0 lZ σ) (fun r23 => if r23.1.1 = 0 then (adL r23.2.2 (oM (x_program k 0 (fun _ => 0) τ) (fun r24 => lawF n f k (i + 6) (r23.2.1, w, r24.2)))) else none)) else (if ((((f i.toNatClampNeg)) &&& 31)) = (3 : Int32) then (oY (y_X11_fault k 0 lZ σ) (fun r26 => oM (x_fault_ k 0 (fun _ => 0) τ) (fun r27 => lawF n f k (i + 6) (r26.2, w, r27.2)))) else (if ((((f i.toNatClampNeg)) &&& 31)) = (4 : Int32) then (if ¬ (((i + 1)) < 0 ∨ n ≤ ((i + 1)).toNatClampNeg) then (if ¬ (((i + 2)) < 0 ∨ n ≤ ((i + 2)).toNatClampNeg) then (oR (f_X11_start k 0 (lJ lZ 1 ((((((((f ((i + 1)).toNatClampNeg)).toInt64)) <<< ((32 : Int32).toInt64 &&& 63))) ||| ((((((f ((i + 2)).toNatClampNeg)).toInt64)) &&& 4294967295))))) σ) (fun r31 => if r31.1.1 = 0 ∨ r31.1.1 = 2 then (adL r31.2.2 (if ¬ (((i + 1)) < 0 ∨ n ≤ ((i + 1)).toNatClampNeg) then (if ¬ (((i + 2)) < 0 ∨ n ≤ ((i + 2)).toNatClampNeg) then (oM (x_start k 0 (fun _ => 0) (updW (fun _ => 0) 1 ((((((((f ((i + 1)).toNatClampNeg)).toInt64)) <<< ((32 : Int32).toInt64 &&& 63))) ||| ((((((f ((i + 2)).toNatClampNeg)).toInt64)) &&& 4294967295))))) τ) (fun r34 => lawF n f k (i + 6) (r31.2.1, w, r34.2))) else none) else none)) else none)) else none) else none) else (if ((((f i.toNatClampNeg)) &&& 31)) = (5 : Int32) then (if ¬ (((i + 1)) < 0 ∨ n ≤ ((i + 1)).toNatClampNeg) then (oR (f_X11_step k 0 (lI lZ 1 ((f ((i + 1)).toNatClampNeg))) σ) (fun r37 => if r37.1.1 = 0 ∨ r37.1.1 = 2 ∨ r37.1.1 = 1 then (adL r37.2.2 (if ¬ (((i + 1)) < 0 ∨ n ≤ ((i + 1)).toNatClampNeg) then (oM (x_step k 0 (upd (fun _ => 0) 1 ((f ((i + 1)).toNatClampNeg))) τ) (fun r39 => lawF n f k (i + 6) (r37.2.1, (wo w r37.1.1 r37.1.2), r39.2))) else none)) else none)) else none) else (if ((((f i.toNatClampNeg)) &&& 31)) = (6 : Int32) then (if ¬ (((i + 1)) < 0 ∨ n ≤ ((i + 1)).toNatClampNeg) then (oR (f_X11_back k 0 (lI lZ 1 ((f ((i + 1)).toNatClampNeg))) σ) (fun r42 => if r42.1.1 = 0 ∨ r42.1.1 = 2 ∨ r42.1.1 = 1 then (adL r42.2.2 (if ¬ (((i + 1)) < 0 ∨ n ≤ ((i + 1)).toNatClampNeg) then (oM (x_back k 0 (upd (fun _ => 0) 1 ((f ((i + 1)).toNatClampNeg))) τ) (fun r44 => lawF n f k (i + 6) (r42.2.1, (wo w r42.1.1 r42.1.2), r44.2))) else none)) else none)) else none) else (if ((((f i.toNatClampNeg)) &&& 31)) = (7 : Int32) then (if ¬ (((i + 1)) < 0 ∨ n ≤ ((i + 1)).toNatClampNeg) then (oR (f_X11_state k 0 (lI lZ 1 ((f ((i + 1)).toNatClampNeg))) σ) (fun r47 => if r47.1.1 = 0 ∨ r47.1.1 = 3 ∨ r47.1.1 = 2 then (adL r47.2.2 (if ¬ (((i + 1)) < 0 ∨ n ≤ ((i + 1)).toNatClampNeg) then (oM (x_state k 0 (upd (fun _ => 0) 1 ((f ((i + 1)).toNatClampNeg))) τ) (fun r49 => lawF n f k (i + 6) (r47.2.1, (wo w r47.1.1 r47.1.2), r49.2))) else none)) else none)) else none) else (if ((((f i.toNatClampNeg)) &&& 31)) = (8 : Int32) then (if ¬ (((i + 1)) < 0 ∨ n ≤ ((i + 1)).toNatClampNeg) then (oR (f_X11_out k 0 (lI lZ 1 ((f ((i + 1)).toNatClampNeg))) σ) (fun r52 => if r52.1.1 = 0 ∨ r52.1.1 = 3 then (adL r52.2.2 (if ¬ (((i + 1)) < 0 ∨ n ≤ ((i + 1)).toNatClampNeg) then (oM (x_out k 0 (upd (fun _ => 0) 1 ((f ((i + 1)).toNatClampNeg))) τ) (fun r54 => lawF n f k (i + 6) (r52.2.1, (wo w r52.1.1 r52.1.2), r54.2))) else none)) else none)) else none) else (if ((((f i.toNatClampNeg)) &&& 31)) = (9 : Int32) then (oR (f_X11_value k 0 lZ σ) (fun r56 => if r56.1.1 = 0 ∨ r56.1.1 = 2 ∨ r56.1.1 = 1 then (adL r56.2.2 (oM (x_value k 0 (fun _ => 0) τ) (fun r57 => lawF n f k (i + 6) (r56.2.1, (wo w r56.1.1 r56.1.2), r57.2)))) else none)) else (if ((((f i.toNatClampNeg)) &&& 31)) = (10 : Int32) then (oR (f_X11_work k 0 lZ σ) (fun r59 => if r59.1.1 = 0 ∨ r59.1.1 = 2 then (adL r59.2.2 (oM (x_work k 0 (fun _ => 0) (fun _ => 0) τ) (fun r60 => lawF n f k (i + 6) (r59.2.1, (wo w r59.1.1 r59.1.2), r60.2)))) else none)) else (if ((((f i.toNatClampNeg)) &&& 31)) = (11 : Int32) then (oR (f_X11_view k 0 lZ σ) (fun r62 => if r62.1.1 = 0 ∨ r62.1.1 = 2 ∨ r62.1.1 = 4 then (adL r62.2.2 (oM (x_view k 0 (fun _ => 0) τ) (fun r63 => lawF n f k (i + 6) (r62.2.1, (wo w r62.1.1 r62.1.2), r63.2)))) else none)) else (if ((((f i.toNatClampNeg)) &&& 31)) = (12 : Int32) then (oR (f_X11_round k 0 lZ σ) (fun r65 => if r65.1.1 = 0 ∨ r65.1.1 = 2 then (adL r65.2.2 (oM (x_round k 0 (fun _ => 0) τ) (fun r66 => lawF n f k (i + 6) (r65.2.1, (wo w r65.1.1 r65.1.2), r66.2)))) else none)) else (if ((((f i.toNatClampNeg)) &&& 31)) = (13 : Int32) then (if ¬ (((i + 1)) < 0 ∨ n ≤ ((i + 1)).toNatClampNeg) then (if ¬ (((i + 2)) < 0 ∨ n ≤ ((i + 2)).toNatClampNeg) then (oR (f_X11_seen k 0 (lI (lI lZ 1 ((f ((i + 1)).toNatClampNeg))) 2 ((f ((i + 2)).toNatClampNeg))) σ) (fun r70 => if r70.1.1 = 0 ∨ r70.1.1 = 3 ∨ r70.1.1 = 2 then (adL r70.2.2 (if ¬ (((i + 1)) < 0 ∨ n ≤ ((i + 1)).toNatClampNeg) then (if ¬ (((i + 2)) < 0 ∨ n ≤ ((i + 2)).toNatClampNeg) then (oM (x_seen k 0 (upd (upd (fun _ => 0) 1 ((f ((i + 1)).toNatClampNeg))) 2 ((f ((i + 2)).toNatClampNeg))) τ) (fun r73 => lawF n f k (i + 6) (r70.2.1, (wo w r70.1.1 r70.1.2), r73.2))) else none) else none)) else none)) else none) else none) else (if ((((f i.toNatClampNeg)) &&& 31)) = (14 : Int32) then (if ¬ (((i + 1)) < 0 ∨ n ≤ ((i + 1)).toNatClampNeg) then (oR (f_X11_shown k 0 (lI lZ 1 ((f ((i + 1)).toNatClampNeg))) σ) (fun r76 => if r76.1.1 = 0 ∨ r76.1.1 = 3 then (adL r76.2.2 (if ¬ (((i + 1)) < 0 ∨ n ≤ ((i + 1)).toNatClampNeg) then (oM (x_shown k 0 (upd (fun _ => 0) 1 ((f ((i + 1)).toNatClampNeg))) τ) (fun r78 => lawF n f k (i + 6) (r76.2.1, (wo w r76.1.1 r76.1.2), r78.2))) else none)) else none)) else none) else (if ((((f i.toNatClampNeg)) &&& 31)) = (15 : Int32) then (if ¬ (((i + 1)) < 0 ∨ n ≤ ((i + 1)).toNatClampNeg) then (oR (f_X11_shape k 0 (lI lZ 1 ((f ((i + 1)).toNatClampNeg))) σ) (fun r81 => if r81.1.1 = 0 ∨ r81.1.1 = 3 then (adL r81.2.2 (if ¬ (((i + 1)) < 0 ∨ n ≤ ((i + 1)).toNatClampNeg) then (oM (x_shape k 0 (upd (fun _ => 0) 1 ((f ((i + 1)).toNatClampNeg))) τ) (fun r83 => lawF n f k (i + 6) (r81.2.1, (wo w r81.1.1 r81.1.2), r83.2))) else none)) else none)) else none) else (if ((((f i.toNatClampNeg)) &&& 31)) = (16 : Int32) then (oY (y_X11_order k 0 lZ σ) (fun r85 => oM (x_order k 0 (fun _ => 0) τ) (fun r86 => lawF n f k (i + 6) (r85.2, w, r86.2)))) else (if ((((f i.toNatClampNeg)) &&& 31)) = (17 : Int32) then (if ¬ (((i + 1)) < 0 ∨ n ≤ ((i + 1)).toNatClampNeg) then (oR (f_X11_count k 0 (lI lZ 1 ((f ((i + 1)).toNatClampNeg))) σ) (fun r89 => if r89.1.1 = 0 ∨ r89.1.1 = 3 then (adL r89.2.2 (if ¬ (((i + 1)) < 0 ∨ n ≤ ((i + 1)).toNatClampNeg) then (oM (x_count k 0 (upd (fun _ => 0) 1 ((f ((i + 1)).toNatClampNeg))) τ) (fun r91 => lawF n f k (i + 6) (r89.2.1, (wo w r89.1.1 r89.1.2), r91.2))) else none)) else none)) else none) else (lawF n f k (i + 6) (σ, w, τ)))))))))))))))))))) else none)) := rfl
set_option maxHeartbeats 40000000 in
set_option maxRecDepth 100000 in
theorem c_lawF {p : Program} {l : Launch} (hl0 : l.stackTraces = false) {e : Env} {R : Room} {s : State} {m : MethodId} {args : Array Value} {below : List Frame} {meth : Method} {c : Code} {mc ms nL : Nat} {dC : Nat → ClassId} {dI : Nat → Nat → Nat} {cy ek a b : Nat → Nat} {q0 s0 n : Nat} {f : Nat → Int32} {A : Nat → Prop} {Ts : List Cond} {Qr : Int32 → State → Prop} (hx : p.tables.exec = Jvm.exec) (hb : c.code = cL_law) (hml : c.maxLocals = 7) (hown : s.vm.findClass RL = some m.cls) (hts : ∀ w ∈ Ts, w.before args s = true) (hK : va_K (dC, dI) nCl (nTy cy) s) (hG : nG s) (hE : nE ek A s s.heap) (hT : nT A s s.heap) (hX : nX s) (hA : ∀ q : Nat, s.heap.size ≤ q → A q) (hXs : va_X s0 n f s s.heap) (hbl : s0 < s.heap.size) (hbA : ¬ A s0) (hRf : 1800 ≤ R.frames) (hRl : 80000 ≤ R.locals) (hRc : mc = R.cells) (hRs : ms = R.slots) (hg_M_feed : GoodIn Ts (wsV RL 77 RX12 yX12_feed w_x_feed)) (hg_L_feed : GoodIn Ts (va_wsS RL 72 yL_feed w_w_feed)) (hg_M_thrown : GoodIn Ts (wsV RL 82 RX12 yX12_thrown w_x_thrown)) (hg_M_end : GoodIn Ts (wsV RL 81 RX12 yX12_end w_x_end)) (hg_L_end : GoodIn Ts (va_wsS RL 78 yL_end w_w_end)) (hg_M_program : GoodIn Ts (wsV RL 88 RX12 yX12_program w_x_program)) (hg_F_program : GoodIn Ts (wsV RL 85 RX11 yX11_program w_f_X11_program)) (hg_M_fault_ : GoodIn Ts (wsV RL 92 RX12 yX12_fault_ w_x_fault_)) (hg_Y_fault : GoodIn Ts (wsV RL 89 RX11 yX11_fault w_y_X11_fault)) (hk_93 : (.constantLong RL 93 (4294967295) : Cond).before args s = true) (hg_M_start : GoodIn Ts (wsV RL 98 RX12 yX12_start w_x_start)) (hg_L_start : GoodIn Ts (va_wsS RL 95 yL_start w_w_start)) (hg_M_step : GoodIn Ts (wsV RL 102 RX12 yX12_step w_x_step)) (hg_L_step : GoodIn Ts (va_wsS RL 99 yL_step w_w_step)) (hg_M_back : GoodIn Ts (wsV RL 105 RX12 yX12_back w_x_back)) (hg_L_back : GoodIn Ts (va_wsS RL 103 yL_back w_w_back)) (hg_M_state : GoodIn Ts (wsV RL 108 RX12 yX12_state w_x_state)) (hg_L_state : GoodIn Ts (va_wsS RL 106 yL_state w_w_state)) (hg_M_out : GoodIn Ts (wsV RL 111 RX12 yX12_out w_x_out)) (hg_L_out : GoodIn Ts (va_wsS RL 109 yL_out w_w_out)) (hg_M_value : GoodIn Ts (wsV RL 115 RX12 yX12_value w_x_value)) (hg_L_value : GoodIn Ts (va_wsS RL 112 yL_value w_w_value)) (hg_M_work : GoodIn Ts (wsV RL 118 RX12 yX12_work w_x_work)) (hg_L_work : GoodIn Ts (va_wsS RL 116 yL_work w_w_work)) (hg_M_view : GoodIn Ts (wsV RL 121 RX12 yX12_view w_x_view)) (hg_L_view : GoodIn Ts (va_wsS RL 119 yL_view w_w_view)) (hg_M_round : GoodIn Ts (wsV RL 124 RX12 yX12_round w_x_round)) (hg_L_round : GoodIn Ts (va_wsS RL 122 yL_round w_w_round)) (hg_M_seen : GoodIn Ts (wsV RL 128 RX12 yX12_seen w_x_seen)) (hg_L_seen : GoodIn Ts (va_wsS RL 125 yL_seen w_w_seen)) (hg_M_shown : GoodIn Ts (wsV RL 131 RX12 yX12_shown w_x_shown)) (hg_L_shown : GoodIn Ts (va_wsS RL 129 yL_shown w_w_shown)) (hg_M_shape : GoodIn Ts (wsV RL 134 RX12 yX12_shape w_x_shape)) (hg_L_shape : GoodIn Ts (va_wsS RL 132 yL_shape w_w_shape)) (hg_M_order : GoodIn Ts (wsV RL 138 RX12 yX12_order w_x_order)) (hg_Y_order : GoodIn Ts (wsV RL 135 RX11 yX11_order w_y_X11_order)) (hg_M_count : GoodIn Ts (wsV RL 141 RX12 yX12_count w_x_count)) (hg_L_count : GoodIn Ts (va_wsS RL 139 yL_count w_w_count))
    (hret643 : ∀ (z : Nat → Nat) (cells slots : Nat) (σ : CS) (w : Nat → Int64) (τ : MS) (H : Heap) (locs : List Loc) (ls : Array Slot), cells + 0 = mc → slots + 0 = ms → va_P (dC, dI) nCl (vB cy a z σ q0 w b τ) H → va_D A (vB cy a z σ q0 w b τ) → va_S A s.heap H locs → W p l e R s m args below meth c H locs cells slots (Qr 1) (F0 m 643 ls [.int 1])) (hret236 : ∀ (z : Nat → Nat) (cells slots : Nat) (σ : CS) (w : Nat → Int64) (τ : MS) (H : Heap) (locs : List Loc) (ls : Array Slot), cells + 0 = mc → slots + 0 = ms → va_P (dC, dI) nCl (vB cy a z σ q0 w b τ) H → va_D A (vB cy a z σ q0 w b τ) → va_S A s.heap H locs → W p l e R s m args below meth c H locs cells slots (Qr 0) (F0 m 236 ls [.int 0])) : ∀ (k : Nat) (i : Int32) (z : Nat → Nat) (cells slots : Nat) (σ : CS) (w : Nat → Int64) (τ : MS) (r : Int32 × (Nat × Nat)), lawF n f k i (σ, w, τ) = some r → cells + r.2.1 = mc → slots + r.2.2 = ms → ∀ (H : Heap) (locs : List Loc) (ls : Array Slot), va_P (dC, dI) nCl (vB cy a z σ q0 w b τ) H → va_D A (vB cy a z σ q0 w b τ) → va_S A s.heap H locs → lv_has ls 7 [(0, .ref s0), (1, .ref (a 75)), (2, .ref (b 0)), (3, .ref q0), (4, .int i)] → W p l e R s m args below meth c H locs cells slots (Qr r.1) (F0 m 23 ls []) := by
  subst hRc
  subst hRs
  intro k
  induction k with
  | zero => intro i z cells slots σ w τ r h; cases h
  | succ k ih =>
    intro i z cells slots σ w τ r h hc hs H locs ls hP hD hS hl
    rw [lawF_s] at h
    refine lv_iload hx hb dL_law_23 (lv_at hl 4 rfl) ?_
    refine lv_aload_n hx hb dL_law_25 rfl (lv_at hl 0 rfl) ?_
    refine kl_sn hx hb hXs hbl hbA hS dL_law_26 ?_
    refine lv_bipush (v := 6) hx hb dL_law_27 (by decide) ?_
    refine lv_isub hx hb dL_law_29 ?_
    refine lv_icmp_gt (tgt := 642) hx hb dL_law_30 (by decide) (fun c1 => ?_) (fun c1 => ?_)
    · rw [if_pos c1] at h
      refine lv_iconst (v := 1) hx hb dL_law_642 (by decide) ?_
      obtain rfl := Option.some.inj h
      exact hret643 z _ _ σ w τ H locs ls hc hs hP hD hS
    · rw [if_neg c1] at h
      refine lv_aload_n hx hb dL_law_33 rfl (lv_at hl 0 rfl) ?_
      refine lv_iload hx hb dL_law_34 (lv_at hl 4 rfl) ?_
      obtain ⟨q2, h⟩ := kL_ite1 h
      refine kl_sc hx hb hXs hbl hbA hS q2 dL_law_36 ?_
      refine lv_bipush (v := 31) hx hb dL_law_37 (by decide) ?_
      refine lv_iand hx hb dL_law_39 ?_
      by_cases q15 : ((((f i.toNatClampNeg)) &&& 31)) = (0 : Int32)
      · rw [if_pos q15] at h
        refine lv_tableIn (off := 88) (tgt := 128) hx hb dL_law_40 (by rw [q15]; decide) (by rw [q15]; decide) (by rw [q15]; decide) (by decide) ?_
        refine lv_aload_n hx hb dL_law_128 rfl (lv_at hl 1 rfl) ?_
        refine lv_aload_n hx hb dL_law_129 rfl (lv_at hl 0 rfl) ?_
        refine lv_iload hx hb dL_law_130 (lv_at hl 4 rfl) ?_
        refine lv_iconst (v := 1) hx hb dL_law_132 (by decide) ?_
        refine lv_iadd hx hb dL_law_133 ?_
        obtain ⟨q3, h⟩ := kL_ite1 h
        refine kl_sc hx hb hXs hbl hbA hS q3 dL_law_134 ?_
        refine lv_aload_n hx hb dL_law_135 rfl (lv_at hl 0 rfl) ?_
        refine lv_iload hx hb dL_law_136 (lv_at hl 4 rfl) ?_
        refine lv_iconst (v := 2) hx hb dL_law_138 (by decide) ?_
        refine lv_iadd hx hb dL_law_139 ?_
        obtain ⟨q4, h⟩ := kL_ite1 h
        refine kl_sc hx hb hXs hbl hbA hS q4 dL_law_140 ?_
        refine lv_aload_n hx hb dL_law_141 rfl (lv_at hl 0 rfl) ?_
        refine lv_iload hx hb dL_law_142 (lv_at hl 4 rfl) ?_
        refine lv_iconst (v := 3) hx hb dL_law_144 (by decide) ?_
        refine lv_iadd hx hb dL_law_145 ?_
        obtain ⟨q5, h⟩ := kL_ite1 h
        refine kl_sc hx hb hXs hbl hbA hS q5 dL_law_146 ?_
        refine lv_aload_n hx hb dL_law_147 rfl (lv_at hl 0 rfl) ?_
        refine lv_iload hx hb dL_law_148 (lv_at hl 4 rfl) ?_
        refine lv_iconst (v := 4) hx hb dL_law_150 (by decide) ?_
        refine lv_iadd hx hb dL_law_151 ?_
        obtain ⟨q6, h⟩ := kL_ite1 h
        refine kl_sc hx hb hXs hbl hbA hS q6 dL_law_152 ?_
        refine lv_aload_n hx hb dL_law_153 rfl (lv_at hl 0 rfl) ?_
        refine lv_iload hx hb dL_law_154 (lv_at hl 4 rfl) ?_
        refine lv_iconst (v := 5) hx hb dL_law_156 (by decide) ?_
        refine lv_iadd hx hb dL_law_157 ?_
        obtain ⟨q7, h⟩ := kL_ite1 h
        refine kl_sc hx hb hXs hbl hbA hS q7 dL_law_158 ?_
        refine lv_aload_n hx hb dL_law_159 rfl (lv_at hl 3 rfl) ?_
        obtain ⟨r8, hr8, h⟩ := oR_ex h
        obtain ⟨q8, h⟩ := kL_ite1 h
        obtain ⟨y8, hny8, hy⟩ := adL_ex h
        subst hy
        have h := hny8
        refine kl_W (vx_runSW (As := [.ref (a 75), .int (f ((i + 1)).toNatClampNeg), .int (f ((i + 2)).toNatClampNeg), .int (f ((i + 3)).toNatClampNeg), .int (f ((i + 4)).toNatClampNeg), .int (f ((i + 5)).toNatClampNeg), .ref q0]) (rest := []) ⟨hx, hb, hml, hown, hts⟩ (c_w_feed l hl0 dC dI cy ek a k ((f ((i + 1)).toNatClampNeg)) ((f ((i + 2)).toNatClampNeg)) ((f ((i + 3)).toNatClampNeg)) ((f ((i + 4)).toNatClampNeg)) ((f ((i + 5)).toNatClampNeg)) σ q0 w r8 hr8 q8 z H.size) (vx_cwSW 7 hts hg_L_feed rfl rfl rfl (by decide +kernel) ⟨Nat.le_trans (by decide : 7 + 1 ≤ 1800) hRf, Nat.le_trans (by decide : 8 + (8 + 11) + 182 ≤ 80000) hRl⟩) ⟨nb_blindX, kl_preW hK hG hE hT hX hA hP hD hS⟩ rfl rfl hl.1 rfl (lv_room (Nat.le_of_ble_eq_true rfl)) dL_law_160 ⟨Nat.le_trans (Nat.add_le_add_left (Nat.le_add_right _ _) _) (Nat.le_of_eq hc), Nat.le_trans (Nat.add_le_add_left (Nat.le_add_right _ _) _) (Nat.le_of_eq hs)⟩) hA hP hD hS (fun z H locs _ hP hD hS => ?_)
        replace hc := (Nat.add_assoc _ _ _).trans hc
        replace hs := (Nat.add_assoc _ _ _).trans hs
        refine lv_istore (lv' := [(5, .int (wv 4 1 1 r8.1.1)), (0, .ref s0), (1, .ref (a 75)), (2, .ref (b 0)), (3, .ref q0), (4, .int i)]) hx hb dL_law_163 hl (by decide) rfl (fun ls hl => ?_)
        refine lv_aload_n hx hb dL_law_165 rfl (lv_at hl 3 rfl) ?_
        refine lv_aload_n hx hb dL_law_166 rfl (lv_at hl 1 rfl) ?_
        refine lv_iload hx hb dL_law_167 (lv_at hl 5 rfl) ?_
        refine lv_iconst (v := 1) hx hb dL_law_169 (by decide) ?_
        refine lv_iadd hx hb dL_law_170 ?_
        obtain ⟨q9, h⟩ := kL_ite1 h
        refine kl_sc hx hb hXs hbl hbA hS q9 dL_law_171 ?_
        refine lv_aload_n hx hb dL_law_172 rfl (lv_at hl 1 rfl) ?_
        refine lv_iload hx hb dL_law_173 (lv_at hl 5 rfl) ?_
        refine lv_iconst (v := 2) hx hb dL_law_175 (by decide) ?_
        refine lv_iadd hx hb dL_law_176 ?_
        obtain ⟨q10, h⟩ := kL_ite1 h
        refine kl_sc hx hb hXs hbl hbA hS q10 dL_law_177 ?_
        refine lv_aload_n hx hb dL_law_178 rfl (lv_at hl 1 rfl) ?_
        refine lv_iload hx hb dL_law_179 (lv_at hl 5 rfl) ?_
        refine lv_iconst (v := 3) hx hb dL_law_181 (by decide) ?_
        refine lv_iadd hx hb dL_law_182 ?_
        obtain ⟨q11, h⟩ := kL_ite1 h
        refine kl_sc hx hb hXs hbl hbA hS q11 dL_law_183 ?_
        refine lv_aload_n hx hb dL_law_184 rfl (lv_at hl 1 rfl) ?_
        refine lv_iload hx hb dL_law_185 (lv_at hl 5 rfl) ?_
        refine lv_iconst (v := 4) hx hb dL_law_187 (by decide) ?_
        refine lv_iadd hx hb dL_law_188 ?_
        obtain ⟨q12, h⟩ := kL_ite1 h
        refine kl_sc hx hb hXs hbl hbA hS q12 dL_law_189 ?_
        refine lv_aload_n hx hb dL_law_190 rfl (lv_at hl 1 rfl) ?_
        refine lv_iload hx hb dL_law_191 (lv_at hl 5 rfl) ?_
        refine lv_iconst (v := 5) hx hb dL_law_193 (by decide) ?_
        refine lv_iadd hx hb dL_law_194 ?_
        obtain ⟨q13, h⟩ := kL_ite1 h
        refine kl_sc hx hb hXs hbl hbA hS q13 dL_law_195 ?_
        obtain ⟨r14, hr14, h⟩ := oM_ex h
        refine kl_Mi (va_runV (As := [.int (f ((i + 1)).toNatClampNeg), .int (f ((i + 2)).toNatClampNeg), .int (f ((i + 3)).toNatClampNeg), .int (f ((i + 4)).toNatClampNeg), .int (f ((i + 5)).toNatClampNeg)]) (rest := []) ⟨hx, hb, hml, hown, hts⟩ (c_x_feed l dC dI cy b k (upd (upd (upd (upd (upd (fun _ => 0) 1 ((f ((i + 1)).toNatClampNeg))) 2 ((f ((i + 2)).toNatClampNeg))) 3 ((f ((i + 3)).toNatClampNeg))) 4 ((f ((i + 4)).toNatClampNeg))) 5 ((f ((i + 5)).toNatClampNeg))) τ r14 hr14 H.size) (cwV 5 hts hg_M_feed rfl rfl rfl hd_x_feed ⟨Nat.le_trans (by decide : 1 + 1 ≤ 1800) hRf, Nat.le_trans (by decide : 8 + (8 + 11) + 21 ≤ 80000) hRl⟩) ⟨nb_blind, kl_rcM hK hP, kl_preM (ek := ek) hK hG hA hP hD hS⟩ rfl rfl hl.1 rfl (lv_room (Nat.le_of_ble_eq_true rfl)) dL_law_196 ⟨Nat.le_trans (Nat.le_add_right _ _) (Nat.le_of_eq hc), Nat.le_trans (Nat.le_add_right _ _) (Nat.le_of_eq hs)⟩) hA hP hD hS (fun H locs hP hD hS => ?_)
        refine lv_istore (lv' := [(6, .int r14.1), (5, .int (wv 4 1 1 r8.1.1)), (0, .ref s0), (1, .ref (a 75)), (2, .ref (b 0)), (3, .ref q0), (4, .int i)]) hx hb dL_law_199 hl (by decide) rfl (fun ls hl => ?_)
        refine lv_goto (tgt := 636) hx hb dL_law_201 (by decide) ?_
        refine lv_iinc (v := i + 6) (lv' := [(4, .int (i + 6)), (6, .int r14.1), (5, .int (wv 4 1 1 r8.1.1)), (0, .ref s0), (1, .ref (a 75)), (2, .ref (b 0)), (3, .ref q0)]) hx hb dL_law_636 hl (k := 6) rfl rfl (by decide) rfl (fun ls hl => ?_)
        refine lv_goto (tgt := 23) hx hb dL_law_639 (by decide) ?_
        exact ih (i + 6) z _ _ r8.2.1 (wo w r8.1.1 r8.1.2) r14.2 _ h hc hs H locs ls hP hD hS (lv_sub hl [3, 4, 5, 6, 0] rfl)
      · rw [if_neg q15] at h
        by_cases q22 : ((((f i.toNatClampNeg)) &&& 31)) = (1 : Int32)
        · rw [if_pos q22] at h
          refine lv_tableIn (off := 164) (tgt := 204) hx hb dL_law_40 (by rw [q22]; decide) (by rw [q22]; decide) (by rw [q22]; decide) (by decide) ?_
          refine lv_aload_n hx hb dL_law_204 rfl (lv_at hl 1 rfl) ?_
          refine lv_aload_n hx hb dL_law_205 rfl (lv_at hl 0 rfl) ?_
          refine lv_iload hx hb dL_law_206 (lv_at hl 4 rfl) ?_
          refine lv_iconst (v := 1) hx hb dL_law_208 (by decide) ?_
          refine lv_iadd hx hb dL_law_209 ?_
          obtain ⟨q16, h⟩ := kL_ite1 h
          refine kl_sc hx hb hXs hbl hbA hS q16 dL_law_210 ?_
          obtain ⟨r17, hr17, h⟩ := oR_ex h
          obtain ⟨q17, h⟩ := kL_ite1 h
          obtain ⟨y17, hny17, hy⟩ := adL_ex h
          subst hy
          have h := hny17
          refine kl_C (vx_runSW (As := [.ref (a 75), .int (f ((i + 1)).toNatClampNeg)]) (rest := []) ⟨hx, hb, hml, hown, hts⟩ (c_w_end l hl0 dC dI cy ek a k ((f ((i + 1)).toNatClampNeg)) σ r17 hr17 q17 z H.size) (vx_cwSW 2 hts hg_L_end rfl rfl rfl (by decide +kernel) ⟨Nat.le_trans (by decide : 7 + 1 ≤ 1800) hRf, Nat.le_trans (by decide : 8 + (3 + 11) + 121 ≤ 80000) hRl⟩) ⟨nb_blindX, kl_preC hK hG hE hT hX hA hP hD hS⟩ rfl rfl hl.1 rfl (lv_room (Nat.le_of_ble_eq_true rfl)) dL_law_211 ⟨Nat.le_trans (Nat.add_le_add_left (Nat.le_add_right _ _) _) (Nat.le_of_eq hc), Nat.le_trans (Nat.add_le_add_left (Nat.le_add_right _ _) _) (Nat.le_of_eq hs)⟩) hA hP hD hS (fun z H locs _ hP hD hS => ?_)
          replace hc := (Nat.add_assoc _ _ _).trans hc
          replace hs := (Nat.add_assoc _ _ _).trans hs
          refine lv_istore (lv' := [(5, .int (wv 1 1 1 r17.1.1)), (0, .ref s0), (1, .ref (a 75)), (2, .ref (b 0)), (3, .ref q0), (4, .int i)]) hx hb dL_law_214 hl (by decide) rfl (fun ls hl => ?_)
          refine lv_aload_n hx hb dL_law_216 rfl (lv_at hl 3 rfl) ?_
          refine lv_aload_n hx hb dL_law_217 rfl (lv_at hl 1 rfl) ?_
          refine lv_iload hx hb dL_law_218 (lv_at hl 5 rfl) ?_
          refine lv_iconst (v := 1) hx hb dL_law_220 (by decide) ?_
          refine lv_iadd hx hb dL_law_221 ?_
          obtain ⟨q18, h⟩ := kL_ite1 h
          refine kl_sc hx hb hXs hbl hbA hS q18 dL_law_222 ?_
          obtain ⟨r19, hr19, h⟩ := oM_ex h
          refine kl_Mv (va_runV (As := [.int (f ((i + 1)).toNatClampNeg)]) (rest := []) ⟨hx, hb, hml, hown, hts⟩ (c_x_end l dC dI cy b k (upd (fun _ => 0) 1 ((f ((i + 1)).toNatClampNeg))) τ r19 hr19 H.size) (cwV 1 hts hg_M_end rfl rfl rfl hd_x_end ⟨Nat.le_trans (by decide : 1 + 1 ≤ 1800) hRf, Nat.le_trans (by decide : 8 + (2 + 11) + 21 ≤ 80000) hRl⟩) ⟨nb_blind, kl_rcM hK hP, kl_preM (ek := ek) hK hG hA hP hD hS⟩ rfl rfl hl.1 rfl (lv_room (Nat.le_of_ble_eq_true rfl)) dL_law_223 ⟨Nat.le_trans (Nat.le_add_right _ _) (Nat.le_of_eq hc), Nat.le_trans (Nat.le_add_right _ _) (Nat.le_of_eq hs)⟩) hA hP hD hS (fun H locs hP hD hS => ?_)
          refine lv_aload_n hx hb dL_law_226 rfl (lv_at hl 3 rfl) ?_
          obtain ⟨r20, hr20, h⟩ := oM_ex h
          refine kl_Mi (va_runV (As := []) (rest := []) ⟨hx, hb, hml, hown, hts⟩ (c_x_thrown l dC dI cy b k (fun _ => 0) r19.2 r20 hr20 H.size) (cwV 0 hts hg_M_thrown rfl rfl rfl hd_x_thrown ⟨Nat.le_trans (by decide : 0 + 1 ≤ 1800) hRf, Nat.le_trans (by decide : 8 + (1 + 11) + 0 ≤ 80000) hRl⟩) ⟨nb_blind, kl_rcM hK hP, kl_preM (ek := ek) hK hG hA hP hD hS⟩ rfl rfl hl.1 rfl (lv_room (Nat.le_of_ble_eq_true rfl)) dL_law_227 ⟨Nat.le_trans (Nat.le_add_right _ _) (Nat.le_of_eq hc), Nat.le_trans (Nat.le_add_right _ _) (Nat.le_of_eq hs)⟩) hA hP hD hS (fun H locs hP hD hS => ?_)
          refine lv_iload hx hb dL_law_230 (lv_at hl 0 rfl) ?_
          refine lv_icmp_eq (tgt := 237) hx hb dL_law_232 (by decide) (fun c21 => ?_) (fun c21 => ?_)
          · rw [if_pos c21] at h
            refine lv_goto (tgt := 636) hx hb dL_law_237 (by decide) ?_
            refine lv_iinc (v := i + 6) (lv' := [(4, .int (i + 6)), (5, .int (wv 1 1 1 r17.1.1)), (0, .ref s0), (1, .ref (a 75)), (2, .ref (b 0)), (3, .ref q0)]) hx hb dL_law_636 hl (k := 5) rfl rfl (by decide) rfl (fun ls hl => ?_)
            refine lv_goto (tgt := 23) hx hb dL_law_639 (by decide) ?_
            exact ih (i + 6) z _ _ r17.2.1 w r20.2 _ h hc hs H locs ls hP hD hS (lv_sub hl [2, 3, 4, 5, 0] rfl)
          · rw [if_neg c21] at h
            refine lv_iconst (v := 0) hx hb dL_law_235 (by decide) ?_
            obtain rfl := Option.some.inj h
            exact hret236 z _ _ r17.2.1 w r20.2 H locs ls hc hs hP hD hS
        · rw [if_neg q22] at h
          by_cases q25 : ((((f i.toNatClampNeg)) &&& 31)) = (2 : Int32)
          · rw [if_pos q25] at h
            refine lv_tableIn (off := 200) (tgt := 240) hx hb dL_law_40 (by rw [q25]; decide) (by rw [q25]; decide) (by rw [q25]; decide) (by decide) ?_
            refine lv_aload_n hx hb dL_law_240 rfl (lv_at hl 1 rfl) ?_
            obtain ⟨r23, hr23, h⟩ := oR_ex h
            obtain ⟨q23, h⟩ := kL_ite1 h
            obtain ⟨y23, hny23, hy⟩ := adL_ex h
            subst hy
            have h := hny23
            refine kl_P q23 (vx_runV (As := []) (rest := []) ⟨hx, hb, hml, hown, hts⟩ (c_f_X11_program l hl0 dC dI cy ek a k lZ σ r23 hr23 z H.size) (cwV 0 hts hg_F_program rfl rfl rfl hd_f_X11_program ⟨Nat.le_trans (by decide : 535 + 1 ≤ 1800) hRf, Nat.le_trans (by decide : 8 + (3 + 11) + 16881 ≤ 80000) hRl⟩) ⟨nb_blindF, kl_rcC hK hP, kl_preF hK hG hE hT hA hP hD hS⟩ rfl rfl hl.1 rfl (lv_room (Nat.le_of_ble_eq_true rfl)) dL_law_241 ⟨Nat.le_trans (Nat.add_le_add_left (Nat.le_add_right _ _) _) (Nat.le_of_eq hc), Nat.le_trans (Nat.add_le_add_left (Nat.le_add_right _ _) _) (Nat.le_of_eq hs)⟩) hA hP hD hS (fun z H locs _ hP hD hS => ?_)
            replace hc := (Nat.add_assoc _ _ _).trans hc
            replace hs := (Nat.add_assoc _ _ _).trans hs
            refine lv_pop hx hb dL_law_244 rfl ?_
            refine lv_aload_n hx hb dL_law_245 rfl (lv_at hl 2 rfl) ?_
            obtain ⟨r24, hr24, h⟩ := oM_ex h
            refine kl_Mi (va_runV (As := []) (rest := []) ⟨hx, hb, hml, hown, hts⟩ (c_x_program l dC dI cy b k (fun _ => 0) τ r24 hr24 H.size) (cwV 0 hts hg_M_program rfl rfl rfl hd_x_program ⟨Nat.le_trans (by decide : 432 + 1 ≤ 1800) hRf, Nat.le_trans (by decide : 8 + (4 + 11) + 12793 ≤ 80000) hRl⟩) ⟨nb_blind, kl_rcM hK hP, kl_preM (ek := ek) hK hG hA hP hD hS⟩ rfl rfl hl.1 rfl (lv_room (Nat.le_of_ble_eq_true rfl)) dL_law_246 ⟨Nat.le_trans (Nat.le_add_right _ _) (Nat.le_of_eq hc), Nat.le_trans (Nat.le_add_right _ _) (Nat.le_of_eq hs)⟩) hA hP hD hS (fun H locs hP hD hS => ?_)
            refine lv_pop hx hb dL_law_249 rfl ?_
            refine lv_goto (tgt := 636) hx hb dL_law_250 (by decide) ?_
            refine lv_iinc (v := i + 6) (lv' := [(4, .int (i + 6)), (0, .ref s0), (1, .ref (a 75)), (2, .ref (b 0)), (3, .ref q0)]) hx hb dL_law_636 hl (k := 4) rfl rfl (by decide) rfl (fun ls hl => ?_)
            refine lv_goto (tgt := 23) hx hb dL_law_639 (by decide) ?_
            exact ih (i + 6) z _ _ r23.2.1 w r24.2 _ h hc hs H locs ls hP hD hS (lv_sub hl [1, 2, 3, 4, 0] rfl)
          · rw [if_neg q25] at h
            by_cases q28 : ((((f i.toNatClampNeg)) &&& 31)) = (3 : Int32)
            · rw [if_pos q28] at h
              refine lv_tableIn (off := 213) (tgt := 253) hx hb dL_law_40 (by rw [q28]; decide) (by rw [q28]; decide) (by rw [q28]; decide) (by decide) ?_
              refine lv_aload_n hx hb dL_law_253 rfl (lv_at hl 1 rfl) ?_
              obtain ⟨r26, hr26, h⟩ := oY_ex h
              refine kl_Y (va_runV (As := []) (rest := []) ⟨hx, hb, hml, hown, hts⟩ (c_y_X11_fault l dC dI cy a z k lZ σ r26 hr26 H.size) (cwV 0 hts hg_Y_fault rfl rfl rfl hd_y_X11_fault ⟨Nat.le_trans (by decide : 0 + 1 ≤ 1800) hRf, Nat.le_trans (by decide : 8 + (1 + 11) + 0 ≤ 80000) hRl⟩) ⟨nb_blind, kl_rcC hK hP, kl_preY (ek := ek) hK hG hA hP hD hS⟩ rfl rfl hl.1 rfl (lv_room (Nat.le_of_ble_eq_true rfl)) dL_law_254 ⟨Nat.le_trans (Nat.le_add_right _ _) (Nat.le_of_eq hc), Nat.le_trans (Nat.le_add_right _ _) (Nat.le_of_eq hs)⟩) hA hP hD hS (fun H locs hP hD hS => ?_)
              refine lv_pop hx hb dL_law_257 rfl ?_
              refine lv_aload_n hx hb dL_law_258 rfl (lv_at hl 2 rfl) ?_
              obtain ⟨r27, hr27, h⟩ := oM_ex h
              refine kl_Mi (va_runV (As := []) (rest := []) ⟨hx, hb, hml, hown, hts⟩ (c_x_fault_ l dC dI cy b k (fun _ => 0) τ r27 hr27 H.size) (cwV 0 hts hg_M_fault_ rfl rfl rfl hd_x_fault_ ⟨Nat.le_trans (by decide : 0 + 1 ≤ 1800) hRf, Nat.le_trans (by decide : 8 + (1 + 11) + 0 ≤ 80000) hRl⟩) ⟨nb_blind, kl_rcM hK hP, kl_preM (ek := ek) hK hG hA hP hD hS⟩ rfl rfl hl.1 rfl (lv_room (Nat.le_of_ble_eq_true rfl)) dL_law_259 ⟨Nat.le_trans (Nat.le_add_right _ _) (Nat.le_of_eq hc), Nat.le_trans (Nat.le_add_right _ _) (Nat.le_of_eq hs)⟩) hA hP hD hS (fun H locs hP hD hS => ?_)
              refine lv_pop hx hb dL_law_262 rfl ?_
              refine lv_goto (tgt := 636) hx hb dL_law_263 (by decide) ?_
              refine lv_iinc (v := i + 6) (lv' := [(4, .int (i + 6)), (0, .ref s0), (1, .ref (a 75)), (2, .ref (b 0)), (3, .ref q0)]) hx hb dL_law_636 hl (k := 4) rfl rfl (by decide) rfl (fun ls hl => ?_)
              refine lv_goto (tgt := 23) hx hb dL_law_639 (by decide) ?_
              exact ih (i + 6) z _ _ r26.2 w r27.2 _ h hc hs H locs ls hP hD hS (lv_sub hl [1, 2, 3, 4, 0] rfl)
            · rw [if_neg q28] at h
              by_cases q35 : ((((f i.toNatClampNeg)) &&& 31)) = (4 : Int32)
              · rw [if_pos q35] at h
                refine lv_tableIn (off := 226) (tgt := 266) hx hb dL_law_40 (by rw [q35]; decide) (by rw [q35]; decide) (by rw [q35]; decide) (by decide) ?_
                refine lv_aload_n hx hb dL_law_266 rfl (lv_at hl 1 rfl) ?_
                refine lv_aload_n hx hb dL_law_267 rfl (lv_at hl 0 rfl) ?_
                refine lv_iload hx hb dL_law_268 (lv_at hl 4 rfl) ?_
                refine lv_iconst (v := 1) hx hb dL_law_270 (by decide) ?_
                refine lv_iadd hx hb dL_law_271 ?_
                obtain ⟨q29, h⟩ := kL_ite1 h
                refine kl_sc hx hb hXs hbl hbA hS q29 dL_law_272 ?_
                refine lv_i2l (v := ((f ((i + 1)).toNatClampNeg)).toInt64) hx hb dL_law_273 rfl ?_
                refine lv_bipush (v := 32) hx hb dL_law_274 (by decide) ?_
                refine lv_lshl (v := ((((f ((i + 1)).toNatClampNeg)).toInt64)) <<< ((32 : Int32).toInt64 &&& 63)) hx hb dL_law_276 rfl ?_
                refine lv_aload_n hx hb dL_law_277 rfl (lv_at hl 0 rfl) ?_
                refine lv_iload hx hb dL_law_278 (lv_at hl 4 rfl) ?_
                refine lv_iconst (v := 2) hx hb dL_law_280 (by decide) ?_
                refine lv_iadd hx hb dL_law_281 ?_
                obtain ⟨q30, h⟩ := kL_ite1 h
                refine kl_sc hx hb hXs hbl hbA hS q30 dL_law_282 ?_
                refine lv_i2l (v := ((f ((i + 2)).toNatClampNeg)).toInt64) hx hb dL_law_283 rfl ?_
                refine lv_ldc2 (v := 4294967295) hx hb hown (hk_93) dL_law_284 ?_
                refine lv_land hx hb dL_law_287 ?_
                refine lv_lor hx hb dL_law_288 ?_
                obtain ⟨r31, hr31, h⟩ := oR_ex h
                obtain ⟨q31, h⟩ := kL_ite1 h
                obtain ⟨y31, hny31, hy⟩ := adL_ex h
                subst hy
                have h := hny31
                refine kl_C (vx_runSW (As := [.ref (a 75), .long (((((((f ((i + 1)).toNatClampNeg)).toInt64)) <<< ((32 : Int32).toInt64 &&& 63))) ||| ((((((f ((i + 2)).toNatClampNeg)).toInt64)) &&& 4294967295)))]) (rest := []) ⟨hx, hb, hml, hown, hts⟩ (c_w_start l hl0 dC dI cy ek a k ((((((((f ((i + 1)).toNatClampNeg)).toInt64)) <<< ((32 : Int32).toInt64 &&& 63))) ||| ((((((f ((i + 2)).toNatClampNeg)).toInt64)) &&& 4294967295)))) σ r31 hr31 q31 z H.size) (vx_cwSW 2 hts hg_L_start rfl rfl rfl (by decide +kernel) ⟨Nat.le_trans (by decide : 91 + 1 ≤ 1800) hRf, Nat.le_trans (by decide : 8 + (4 + 11) + 2244 ≤ 80000) hRl⟩) ⟨nb_blindX, kl_preC hK hG hE hT hX hA hP hD hS⟩ rfl rfl hl.1 rfl (lv_room (Nat.le_of_ble_eq_true rfl)) dL_law_289 ⟨Nat.le_trans (Nat.add_le_add_left (Nat.le_add_right _ _) _) (Nat.le_of_eq hc), Nat.le_trans (Nat.add_le_add_left (Nat.le_add_right _ _) _) (Nat.le_of_eq hs)⟩) hA hP hD hS (fun z H locs _ hP hD hS => ?_)
                replace hc := (Nat.add_assoc _ _ _).trans hc
                replace hs := (Nat.add_assoc _ _ _).trans hs
                refine lv_istore (lv' := [(5, .int (wv 2 1 1 r31.1.1)), (0, .ref s0), (1, .ref (a 75)), (2, .ref (b 0)), (3, .ref q0), (4, .int i)]) hx hb dL_law_292 hl (by decide) rfl (fun ls hl => ?_)
                refine lv_aload_n hx hb dL_law_294 rfl (lv_at hl 3 rfl) ?_
                refine lv_aload_n hx hb dL_law_295 rfl (lv_at hl 1 rfl) ?_
                refine lv_iload hx hb dL_law_296 (lv_at hl 5 rfl) ?_
                refine lv_iconst (v := 1) hx hb dL_law_298 (by decide) ?_
                refine lv_iadd hx hb dL_law_299 ?_
                obtain ⟨q32, h⟩ := kL_ite1 h
                refine kl_sc hx hb hXs hbl hbA hS q32 dL_law_300 ?_
                refine lv_i2l (v := ((f ((i + 1)).toNatClampNeg)).toInt64) hx hb dL_law_301 rfl ?_
                refine lv_bipush (v := 32) hx hb dL_law_302 (by decide) ?_
                refine lv_lshl (v := ((((f ((i + 1)).toNatClampNeg)).toInt64)) <<< ((32 : Int32).toInt64 &&& 63)) hx hb dL_law_304 rfl ?_
                refine lv_aload_n hx hb dL_law_305 rfl (lv_at hl 1 rfl) ?_
                refine lv_iload hx hb dL_law_306 (lv_at hl 5 rfl) ?_
                refine lv_iconst (v := 2) hx hb dL_law_308 (by decide) ?_
                refine lv_iadd hx hb dL_law_309 ?_
                obtain ⟨q33, h⟩ := kL_ite1 h
                refine kl_sc hx hb hXs hbl hbA hS q33 dL_law_310 ?_
                refine lv_i2l (v := ((f ((i + 2)).toNatClampNeg)).toInt64) hx hb dL_law_311 rfl ?_
                refine lv_ldc2 (v := 4294967295) hx hb hown (hk_93) dL_law_312 ?_
                refine lv_land hx hb dL_law_315 ?_
                refine lv_lor hx hb dL_law_316 ?_
                obtain ⟨r34, hr34, h⟩ := oM_ex h
                refine kl_Mv (va_runV (As := [.long (((((((f ((i + 1)).toNatClampNeg)).toInt64)) <<< ((32 : Int32).toInt64 &&& 63))) ||| ((((((f ((i + 2)).toNatClampNeg)).toInt64)) &&& 4294967295)))]) (rest := []) ⟨hx, hb, hml, hown, hts⟩ (c_x_start l dC dI cy b k (fun _ => 0) (updW (fun _ => 0) 1 ((((((((f ((i + 1)).toNatClampNeg)).toInt64)) <<< ((32 : Int32).toInt64 &&& 63))) ||| ((((((f ((i + 2)).toNatClampNeg)).toInt64)) &&& 4294967295))))) τ r34 hr34 H.size) (cwV 1 hts hg_M_start rfl rfl rfl hd_x_start ⟨Nat.le_trans (by decide : 1365 + 1 ≤ 1800) hRf, Nat.le_trans (by decide : 8 + (3 + 11) + 36658 ≤ 80000) hRl⟩) ⟨nb_blind, kl_rcM hK hP, kl_preM (ek := ek) hK hG hA hP hD hS⟩ rfl rfl hl.1 rfl (lv_room (Nat.le_of_ble_eq_true rfl)) dL_law_317 ⟨Nat.le_trans (Nat.le_add_right _ _) (Nat.le_of_eq hc), Nat.le_trans (Nat.le_add_right _ _) (Nat.le_of_eq hs)⟩) hA hP hD hS (fun H locs hP hD hS => ?_)
                refine lv_goto (tgt := 636) hx hb dL_law_320 (by decide) ?_
                refine lv_iinc (v := i + 6) (lv' := [(4, .int (i + 6)), (5, .int (wv 2 1 1 r31.1.1)), (0, .ref s0), (1, .ref (a 75)), (2, .ref (b 0)), (3, .ref q0)]) hx hb dL_law_636 hl (k := 5) rfl rfl (by decide) rfl (fun ls hl => ?_)
                refine lv_goto (tgt := 23) hx hb dL_law_639 (by decide) ?_
                exact ih (i + 6) z _ _ r31.2.1 w r34.2 _ h hc hs H locs ls hP hD hS (lv_sub hl [2, 3, 4, 5, 0] rfl)
              · rw [if_neg q35] at h
                by_cases q40 : ((((f i.toNatClampNeg)) &&& 31)) = (5 : Int32)
                · rw [if_pos q40] at h
                  refine lv_tableIn (off := 283) (tgt := 323) hx hb dL_law_40 (by rw [q40]; decide) (by rw [q40]; decide) (by rw [q40]; decide) (by decide) ?_
                  refine lv_aload_n hx hb dL_law_323 rfl (lv_at hl 1 rfl) ?_
                  refine lv_aload_n hx hb dL_law_324 rfl (lv_at hl 0 rfl) ?_
                  refine lv_iload hx hb dL_law_325 (lv_at hl 4 rfl) ?_
                  refine lv_iconst (v := 1) hx hb dL_law_327 (by decide) ?_
                  refine lv_iadd hx hb dL_law_328 ?_
                  obtain ⟨q36, h⟩ := kL_ite1 h
                  refine kl_sc hx hb hXs hbl hbA hS q36 dL_law_329 ?_
                  refine lv_aload_n hx hb dL_law_330 rfl (lv_at hl 3 rfl) ?_
                  obtain ⟨r37, hr37, h⟩ := oR_ex h
                  obtain ⟨q37, h⟩ := kL_ite1 h
                  obtain ⟨y37, hny37, hy⟩ := adL_ex h
                  subst hy
                  have h := hny37
                  refine kl_W (vx_runSW (As := [.ref (a 75), .int (f ((i + 1)).toNatClampNeg), .ref q0]) (rest := []) ⟨hx, hb, hml, hown, hts⟩ (c_w_step l hl0 dC dI cy ek a k ((f ((i + 1)).toNatClampNeg)) σ q0 w r37 hr37 q37 z H.size) (vx_cwSW 3 hts hg_L_step rfl rfl rfl (by decide +kernel) ⟨Nat.le_trans (by decide : 91 + 1 ≤ 1800) hRf, Nat.le_trans (by decide : 8 + (4 + 11) + 2243 ≤ 80000) hRl⟩) ⟨nb_blindX, kl_preW hK hG hE hT hX hA hP hD hS⟩ rfl rfl hl.1 rfl (lv_room (Nat.le_of_ble_eq_true rfl)) dL_law_331 ⟨Nat.le_trans (Nat.add_le_add_left (Nat.le_add_right _ _) _) (Nat.le_of_eq hc), Nat.le_trans (Nat.add_le_add_left (Nat.le_add_right _ _) _) (Nat.le_of_eq hs)⟩) hA hP hD hS (fun z H locs _ hP hD hS => ?_)
                  replace hc := (Nat.add_assoc _ _ _).trans hc
                  replace hs := (Nat.add_assoc _ _ _).trans hs
                  refine lv_istore (lv' := [(5, .int (wv 2 1 2 r37.1.1)), (0, .ref s0), (1, .ref (a 75)), (2, .ref (b 0)), (3, .ref q0), (4, .int i)]) hx hb dL_law_334 hl (by decide) rfl (fun ls hl => ?_)
                  refine lv_aload_n hx hb dL_law_336 rfl (lv_at hl 3 rfl) ?_
                  refine lv_aload_n hx hb dL_law_337 rfl (lv_at hl 1 rfl) ?_
                  refine lv_iload hx hb dL_law_338 (lv_at hl 5 rfl) ?_
                  refine lv_iconst (v := 1) hx hb dL_law_340 (by decide) ?_
                  refine lv_iadd hx hb dL_law_341 ?_
                  obtain ⟨q38, h⟩ := kL_ite1 h
                  refine kl_sc hx hb hXs hbl hbA hS q38 dL_law_342 ?_
                  obtain ⟨r39, hr39, h⟩ := oM_ex h
                  refine kl_Mi (va_runV (As := [.int (f ((i + 1)).toNatClampNeg)]) (rest := []) ⟨hx, hb, hml, hown, hts⟩ (c_x_step l dC dI cy b k (upd (fun _ => 0) 1 ((f ((i + 1)).toNatClampNeg))) τ r39 hr39 H.size) (cwV 1 hts hg_M_step rfl rfl rfl hd_x_step ⟨Nat.le_trans (by decide : 1368 + 1 ≤ 1800) hRf, Nat.le_trans (by decide : 8 + (3 + 11) + 36723 ≤ 80000) hRl⟩) ⟨nb_blind, kl_rcM hK hP, kl_preM (ek := ek) hK hG hA hP hD hS⟩ rfl rfl hl.1 rfl (lv_room (Nat.le_of_ble_eq_true rfl)) dL_law_343 ⟨Nat.le_trans (Nat.le_add_right _ _) (Nat.le_of_eq hc), Nat.le_trans (Nat.le_add_right _ _) (Nat.le_of_eq hs)⟩) hA hP hD hS (fun H locs hP hD hS => ?_)
                  refine lv_istore (lv' := [(6, .int r39.1), (5, .int (wv 2 1 2 r37.1.1)), (0, .ref s0), (1, .ref (a 75)), (2, .ref (b 0)), (3, .ref q0), (4, .int i)]) hx hb dL_law_346 hl (by decide) rfl (fun ls hl => ?_)
                  refine lv_goto (tgt := 636) hx hb dL_law_348 (by decide) ?_
                  refine lv_iinc (v := i + 6) (lv' := [(4, .int (i + 6)), (6, .int r39.1), (5, .int (wv 2 1 2 r37.1.1)), (0, .ref s0), (1, .ref (a 75)), (2, .ref (b 0)), (3, .ref q0)]) hx hb dL_law_636 hl (k := 6) rfl rfl (by decide) rfl (fun ls hl => ?_)
                  refine lv_goto (tgt := 23) hx hb dL_law_639 (by decide) ?_
                  exact ih (i + 6) z _ _ r37.2.1 (wo w r37.1.1 r37.1.2) r39.2 _ h hc hs H locs ls hP hD hS (lv_sub hl [3, 4, 5, 6, 0] rfl)
                · rw [if_neg q40] at h
                  by_cases q45 : ((((f i.toNatClampNeg)) &&& 31)) = (6 : Int32)
                  · rw [if_pos q45] at h
                    refine lv_tableIn (off := 311) (tgt := 351) hx hb dL_law_40 (by rw [q45]; decide) (by rw [q45]; decide) (by rw [q45]; decide) (by decide) ?_
                    refine lv_aload_n hx hb dL_law_351 rfl (lv_at hl 1 rfl) ?_
                    refine lv_aload_n hx hb dL_law_352 rfl (lv_at hl 0 rfl) ?_
                    refine lv_iload hx hb dL_law_353 (lv_at hl 4 rfl) ?_
                    refine lv_iconst (v := 1) hx hb dL_law_355 (by decide) ?_
                    refine lv_iadd hx hb dL_law_356 ?_
                    obtain ⟨q41, h⟩ := kL_ite1 h
                    refine kl_sc hx hb hXs hbl hbA hS q41 dL_law_357 ?_
                    refine lv_aload_n hx hb dL_law_358 rfl (lv_at hl 3 rfl) ?_
                    obtain ⟨r42, hr42, h⟩ := oR_ex h
                    obtain ⟨q42, h⟩ := kL_ite1 h
                    obtain ⟨y42, hny42, hy⟩ := adL_ex h
                    subst hy
                    have h := hny42
                    refine kl_W (vx_runSW (As := [.ref (a 75), .int (f ((i + 1)).toNatClampNeg), .ref q0]) (rest := []) ⟨hx, hb, hml, hown, hts⟩ (c_w_back l hl0 dC dI cy ek a k ((f ((i + 1)).toNatClampNeg)) σ q0 w r42 hr42 q42 z H.size) (vx_cwSW 3 hts hg_L_back rfl rfl rfl (by decide +kernel) ⟨Nat.le_trans (by decide : 91 + 1 ≤ 1800) hRf, Nat.le_trans (by decide : 8 + (4 + 11) + 2243 ≤ 80000) hRl⟩) ⟨nb_blindX, kl_preW hK hG hE hT hX hA hP hD hS⟩ rfl rfl hl.1 rfl (lv_room (Nat.le_of_ble_eq_true rfl)) dL_law_359 ⟨Nat.le_trans (Nat.add_le_add_left (Nat.le_add_right _ _) _) (Nat.le_of_eq hc), Nat.le_trans (Nat.add_le_add_left (Nat.le_add_right _ _) _) (Nat.le_of_eq hs)⟩) hA hP hD hS (fun z H locs _ hP hD hS => ?_)
                    replace hc := (Nat.add_assoc _ _ _).trans hc
                    replace hs := (Nat.add_assoc _ _ _).trans hs
                    refine lv_istore (lv' := [(5, .int (wv 2 1 2 r42.1.1)), (0, .ref s0), (1, .ref (a 75)), (2, .ref (b 0)), (3, .ref q0), (4, .int i)]) hx hb dL_law_362 hl (by decide) rfl (fun ls hl => ?_)
                    refine lv_aload_n hx hb dL_law_364 rfl (lv_at hl 3 rfl) ?_
                    refine lv_aload_n hx hb dL_law_365 rfl (lv_at hl 1 rfl) ?_
                    refine lv_iload hx hb dL_law_366 (lv_at hl 5 rfl) ?_
                    refine lv_iconst (v := 1) hx hb dL_law_368 (by decide) ?_
                    refine lv_iadd hx hb dL_law_369 ?_
                    obtain ⟨q43, h⟩ := kL_ite1 h
                    refine kl_sc hx hb hXs hbl hbA hS q43 dL_law_370 ?_
                    obtain ⟨r44, hr44, h⟩ := oM_ex h
                    refine kl_Mi (va_runV (As := [.int (f ((i + 1)).toNatClampNeg)]) (rest := []) ⟨hx, hb, hml, hown, hts⟩ (c_x_back l dC dI cy b k (upd (fun _ => 0) 1 ((f ((i + 1)).toNatClampNeg))) τ r44 hr44 H.size) (cwV 1 hts hg_M_back rfl rfl rfl hd_x_back ⟨Nat.le_trans (by decide : 1368 + 1 ≤ 1800) hRf, Nat.le_trans (by decide : 8 + (3 + 11) + 36723 ≤ 80000) hRl⟩) ⟨nb_blind, kl_rcM hK hP, kl_preM (ek := ek) hK hG hA hP hD hS⟩ rfl rfl hl.1 rfl (lv_room (Nat.le_of_ble_eq_true rfl)) dL_law_371 ⟨Nat.le_trans (Nat.le_add_right _ _) (Nat.le_of_eq hc), Nat.le_trans (Nat.le_add_right _ _) (Nat.le_of_eq hs)⟩) hA hP hD hS (fun H locs hP hD hS => ?_)
                    refine lv_istore (lv' := [(6, .int r44.1), (5, .int (wv 2 1 2 r42.1.1)), (0, .ref s0), (1, .ref (a 75)), (2, .ref (b 0)), (3, .ref q0), (4, .int i)]) hx hb dL_law_374 hl (by decide) rfl (fun ls hl => ?_)
                    refine lv_goto (tgt := 636) hx hb dL_law_376 (by decide) ?_
                    refine lv_iinc (v := i + 6) (lv' := [(4, .int (i + 6)), (6, .int r44.1), (5, .int (wv 2 1 2 r42.1.1)), (0, .ref s0), (1, .ref (a 75)), (2, .ref (b 0)), (3, .ref q0)]) hx hb dL_law_636 hl (k := 6) rfl rfl (by decide) rfl (fun ls hl => ?_)
                    refine lv_goto (tgt := 23) hx hb dL_law_639 (by decide) ?_
                    exact ih (i + 6) z _ _ r42.2.1 (wo w r42.1.1 r42.1.2) r44.2 _ h hc hs H locs ls hP hD hS (lv_sub hl [3, 4, 5, 6, 0] rfl)
                  · rw [if_neg q45] at h
                    by_cases q50 : ((((f i.toNatClampNeg)) &&& 31)) = (7 : Int32)
                    · rw [if_pos q50] at h
                      refine lv_tableIn (off := 339) (tgt := 379) hx hb dL_law_40 (by rw [q50]; decide) (by rw [q50]; decide) (by rw [q50]; decide) (by decide) ?_
                      refine lv_aload_n hx hb dL_law_379 rfl (lv_at hl 1 rfl) ?_
                      refine lv_aload_n hx hb dL_law_380 rfl (lv_at hl 0 rfl) ?_
                      refine lv_iload hx hb dL_law_381 (lv_at hl 4 rfl) ?_
                      refine lv_iconst (v := 1) hx hb dL_law_383 (by decide) ?_
                      refine lv_iadd hx hb dL_law_384 ?_
                      obtain ⟨q46, h⟩ := kL_ite1 h
                      refine kl_sc hx hb hXs hbl hbA hS q46 dL_law_385 ?_
                      refine lv_aload_n hx hb dL_law_386 rfl (lv_at hl 3 rfl) ?_
                      obtain ⟨r47, hr47, h⟩ := oR_ex h
                      obtain ⟨q47, h⟩ := kL_ite1 h
                      obtain ⟨y47, hny47, hy⟩ := adL_ex h
                      subst hy
                      have h := hny47
                      refine kl_W (vx_runSW (As := [.ref (a 75), .int (f ((i + 1)).toNatClampNeg), .ref q0]) (rest := []) ⟨hx, hb, hml, hown, hts⟩ (c_w_state l hl0 dC dI cy ek a k ((f ((i + 1)).toNatClampNeg)) σ q0 w r47 hr47 q47 z H.size) (vx_cwSW 3 hts hg_L_state rfl rfl rfl (by decide +kernel) ⟨Nat.le_trans (by decide : 8 + 1 ≤ 1800) hRf, Nat.le_trans (by decide : 8 + (4 + 11) + 142 ≤ 80000) hRl⟩) ⟨nb_blindX, kl_preW hK hG hE hT hX hA hP hD hS⟩ rfl rfl hl.1 rfl (lv_room (Nat.le_of_ble_eq_true rfl)) dL_law_387 ⟨Nat.le_trans (Nat.add_le_add_left (Nat.le_add_right _ _) _) (Nat.le_of_eq hc), Nat.le_trans (Nat.add_le_add_left (Nat.le_add_right _ _) _) (Nat.le_of_eq hs)⟩) hA hP hD hS (fun z H locs _ hP hD hS => ?_)
                      replace hc := (Nat.add_assoc _ _ _).trans hc
                      replace hs := (Nat.add_assoc _ _ _).trans hs
                      refine lv_istore (lv' := [(5, .int (wv 3 1 2 r47.1.1)), (0, .ref s0), (1, .ref (a 75)), (2, .ref (b 0)), (3, .ref q0), (4, .int i)]) hx hb dL_law_390 hl (by decide) rfl (fun ls hl => ?_)
                      refine lv_aload_n hx hb dL_law_392 rfl (lv_at hl 3 rfl) ?_
                      refine lv_aload_n hx hb dL_law_393 rfl (lv_at hl 1 rfl) ?_
                      refine lv_iload hx hb dL_law_394 (lv_at hl 5 rfl) ?_
                      refine lv_iconst (v := 1) hx hb dL_law_396 (by decide) ?_
                      refine lv_iadd hx hb dL_law_397 ?_
                      obtain ⟨q48, h⟩ := kL_ite1 h
                      refine kl_sc hx hb hXs hbl hbA hS q48 dL_law_398 ?_
                      obtain ⟨r49, hr49, h⟩ := oM_ex h
                      refine kl_Mi (va_runV (As := [.int (f ((i + 1)).toNatClampNeg)]) (rest := []) ⟨hx, hb, hml, hown, hts⟩ (c_x_state l dC dI cy b k (upd (fun _ => 0) 1 ((f ((i + 1)).toNatClampNeg))) τ r49 hr49 H.size) (cwV 1 hts hg_M_state rfl rfl rfl hd_x_state ⟨Nat.le_trans (by decide : 1 + 1 ≤ 1800) hRf, Nat.le_trans (by decide : 8 + (2 + 11) + 21 ≤ 80000) hRl⟩) ⟨nb_blind, kl_rcM hK hP, kl_preM (ek := ek) hK hG hA hP hD hS⟩ rfl rfl hl.1 rfl (lv_room (Nat.le_of_ble_eq_true rfl)) dL_law_399 ⟨Nat.le_trans (Nat.le_add_right _ _) (Nat.le_of_eq hc), Nat.le_trans (Nat.le_add_right _ _) (Nat.le_of_eq hs)⟩) hA hP hD hS (fun H locs hP hD hS => ?_)
                      refine lv_istore (lv' := [(6, .int r49.1), (5, .int (wv 3 1 2 r47.1.1)), (0, .ref s0), (1, .ref (a 75)), (2, .ref (b 0)), (3, .ref q0), (4, .int i)]) hx hb dL_law_402 hl (by decide) rfl (fun ls hl => ?_)
                      refine lv_goto (tgt := 636) hx hb dL_law_404 (by decide) ?_
                      refine lv_iinc (v := i + 6) (lv' := [(4, .int (i + 6)), (6, .int r49.1), (5, .int (wv 3 1 2 r47.1.1)), (0, .ref s0), (1, .ref (a 75)), (2, .ref (b 0)), (3, .ref q0)]) hx hb dL_law_636 hl (k := 6) rfl rfl (by decide) rfl (fun ls hl => ?_)
                      refine lv_goto (tgt := 23) hx hb dL_law_639 (by decide) ?_
                      exact ih (i + 6) z _ _ r47.2.1 (wo w r47.1.1 r47.1.2) r49.2 _ h hc hs H locs ls hP hD hS (lv_sub hl [3, 4, 5, 6, 0] rfl)
                    · rw [if_neg q50] at h
                      by_cases q55 : ((((f i.toNatClampNeg)) &&& 31)) = (8 : Int32)
                      · rw [if_pos q55] at h
                        refine lv_tableIn (off := 367) (tgt := 407) hx hb dL_law_40 (by rw [q55]; decide) (by rw [q55]; decide) (by rw [q55]; decide) (by decide) ?_
                        refine lv_aload_n hx hb dL_law_407 rfl (lv_at hl 1 rfl) ?_
                        refine lv_aload_n hx hb dL_law_408 rfl (lv_at hl 0 rfl) ?_
                        refine lv_iload hx hb dL_law_409 (lv_at hl 4 rfl) ?_
                        refine lv_iconst (v := 1) hx hb dL_law_411 (by decide) ?_
                        refine lv_iadd hx hb dL_law_412 ?_
                        obtain ⟨q51, h⟩ := kL_ite1 h
                        refine kl_sc hx hb hXs hbl hbA hS q51 dL_law_413 ?_
                        refine lv_aload_n hx hb dL_law_414 rfl (lv_at hl 3 rfl) ?_
                        obtain ⟨r52, hr52, h⟩ := oR_ex h
                        obtain ⟨q52, h⟩ := kL_ite1 h
                        obtain ⟨y52, hny52, hy⟩ := adL_ex h
                        subst hy
                        have h := hny52
                        refine kl_W (vx_runSW (As := [.ref (a 75), .int (f ((i + 1)).toNatClampNeg), .ref q0]) (rest := []) ⟨hx, hb, hml, hown, hts⟩ (c_w_out l hl0 dC dI cy ek a k ((f ((i + 1)).toNatClampNeg)) σ q0 w r52 hr52 q52 z H.size) (vx_cwSW 3 hts hg_L_out rfl rfl rfl (by decide +kernel) ⟨Nat.le_trans (by decide : 7 + 1 ≤ 1800) hRf, Nat.le_trans (by decide : 8 + (4 + 11) + 121 ≤ 80000) hRl⟩) ⟨nb_blindX, kl_preW hK hG hE hT hX hA hP hD hS⟩ rfl rfl hl.1 rfl (lv_room (Nat.le_of_ble_eq_true rfl)) dL_law_415 ⟨Nat.le_trans (Nat.add_le_add_left (Nat.le_add_right _ _) _) (Nat.le_of_eq hc), Nat.le_trans (Nat.add_le_add_left (Nat.le_add_right _ _) _) (Nat.le_of_eq hs)⟩) hA hP hD hS (fun z H locs _ hP hD hS => ?_)
                        replace hc := (Nat.add_assoc _ _ _).trans hc
                        replace hs := (Nat.add_assoc _ _ _).trans hs
                        refine lv_istore (lv' := [(5, .int (wv 3 1 1 r52.1.1)), (0, .ref s0), (1, .ref (a 75)), (2, .ref (b 0)), (3, .ref q0), (4, .int i)]) hx hb dL_law_418 hl (by decide) rfl (fun ls hl => ?_)
                        refine lv_aload_n hx hb dL_law_420 rfl (lv_at hl 3 rfl) ?_
                        refine lv_aload_n hx hb dL_law_421 rfl (lv_at hl 1 rfl) ?_
                        refine lv_iload hx hb dL_law_422 (lv_at hl 5 rfl) ?_
                        refine lv_iconst (v := 1) hx hb dL_law_424 (by decide) ?_
                        refine lv_iadd hx hb dL_law_425 ?_
                        obtain ⟨q53, h⟩ := kL_ite1 h
                        refine kl_sc hx hb hXs hbl hbA hS q53 dL_law_426 ?_
                        obtain ⟨r54, hr54, h⟩ := oM_ex h
                        refine kl_Mi (va_runV (As := [.int (f ((i + 1)).toNatClampNeg)]) (rest := []) ⟨hx, hb, hml, hown, hts⟩ (c_x_out l dC dI cy b k (upd (fun _ => 0) 1 ((f ((i + 1)).toNatClampNeg))) τ r54 hr54 H.size) (cwV 1 hts hg_M_out rfl rfl rfl hd_x_out ⟨Nat.le_trans (by decide : 1 + 1 ≤ 1800) hRf, Nat.le_trans (by decide : 8 + (2 + 11) + 21 ≤ 80000) hRl⟩) ⟨nb_blind, kl_rcM hK hP, kl_preM (ek := ek) hK hG hA hP hD hS⟩ rfl rfl hl.1 rfl (lv_room (Nat.le_of_ble_eq_true rfl)) dL_law_427 ⟨Nat.le_trans (Nat.le_add_right _ _) (Nat.le_of_eq hc), Nat.le_trans (Nat.le_add_right _ _) (Nat.le_of_eq hs)⟩) hA hP hD hS (fun H locs hP hD hS => ?_)
                        refine lv_istore (lv' := [(6, .int r54.1), (5, .int (wv 3 1 1 r52.1.1)), (0, .ref s0), (1, .ref (a 75)), (2, .ref (b 0)), (3, .ref q0), (4, .int i)]) hx hb dL_law_430 hl (by decide) rfl (fun ls hl => ?_)
                        refine lv_goto (tgt := 636) hx hb dL_law_432 (by decide) ?_
                        refine lv_iinc (v := i + 6) (lv' := [(4, .int (i + 6)), (6, .int r54.1), (5, .int (wv 3 1 1 r52.1.1)), (0, .ref s0), (1, .ref (a 75)), (2, .ref (b 0)), (3, .ref q0)]) hx hb dL_law_636 hl (k := 6) rfl rfl (by decide) rfl (fun ls hl => ?_)
                        refine lv_goto (tgt := 23) hx hb dL_law_639 (by decide) ?_
                        exact ih (i + 6) z _ _ r52.2.1 (wo w r52.1.1 r52.1.2) r54.2 _ h hc hs H locs ls hP hD hS (lv_sub hl [3, 4, 5, 6, 0] rfl)
                      · rw [if_neg q55] at h
                        by_cases q58 : ((((f i.toNatClampNeg)) &&& 31)) = (9 : Int32)
                        · rw [if_pos q58] at h
                          refine lv_tableIn (off := 395) (tgt := 435) hx hb dL_law_40 (by rw [q58]; decide) (by rw [q58]; decide) (by rw [q58]; decide) (by decide) ?_
                          refine lv_aload_n hx hb dL_law_435 rfl (lv_at hl 1 rfl) ?_
                          refine lv_aload_n hx hb dL_law_436 rfl (lv_at hl 3 rfl) ?_
                          obtain ⟨r56, hr56, h⟩ := oR_ex h
                          obtain ⟨q56, h⟩ := kL_ite1 h
                          obtain ⟨y56, hny56, hy⟩ := adL_ex h
                          subst hy
                          have h := hny56
                          refine kl_W (vx_runSW (As := [.ref (a 75), .ref q0]) (rest := []) ⟨hx, hb, hml, hown, hts⟩ (c_w_value l hl0 dC dI cy ek a k  σ q0 w r56 hr56 q56 z H.size) (vx_cwSW 2 hts hg_L_value rfl rfl rfl (by decide +kernel) ⟨Nat.le_trans (by decide : 89 + 1 ≤ 1800) hRf, Nat.le_trans (by decide : 8 + (3 + 11) + 2195 ≤ 80000) hRl⟩) ⟨nb_blindX, kl_preW hK hG hE hT hX hA hP hD hS⟩ rfl rfl hl.1 rfl (lv_room (Nat.le_of_ble_eq_true rfl)) dL_law_437 ⟨Nat.le_trans (Nat.add_le_add_left (Nat.le_add_right _ _) _) (Nat.le_of_eq hc), Nat.le_trans (Nat.add_le_add_left (Nat.le_add_right _ _) _) (Nat.le_of_eq hs)⟩) hA hP hD hS (fun z H locs _ hP hD hS => ?_)
                          replace hc := (Nat.add_assoc _ _ _).trans hc
                          replace hs := (Nat.add_assoc _ _ _).trans hs
                          refine lv_istore (lv' := [(5, .int (wv 2 1 2 r56.1.1)), (0, .ref s0), (1, .ref (a 75)), (2, .ref (b 0)), (3, .ref q0), (4, .int i)]) hx hb dL_law_440 hl (by decide) rfl (fun ls hl => ?_)
                          refine lv_aload_n hx hb dL_law_442 rfl (lv_at hl 3 rfl) ?_
                          obtain ⟨r57, hr57, h⟩ := oM_ex h
                          refine kl_Mi (va_runV (As := []) (rest := []) ⟨hx, hb, hml, hown, hts⟩ (c_x_value l dC dI cy b k (fun _ => 0) τ r57 hr57 H.size) (cwV 0 hts hg_M_value rfl rfl rfl hd_x_value ⟨Nat.le_trans (by decide : 56 + 1 ≤ 1800) hRf, Nat.le_trans (by decide : 8 + (2 + 11) + 1300 ≤ 80000) hRl⟩) ⟨nb_blind, kl_rcM hK hP, kl_preM (ek := ek) hK hG hA hP hD hS⟩ rfl rfl hl.1 rfl (lv_room (Nat.le_of_ble_eq_true rfl)) dL_law_443 ⟨Nat.le_trans (Nat.le_add_right _ _) (Nat.le_of_eq hc), Nat.le_trans (Nat.le_add_right _ _) (Nat.le_of_eq hs)⟩) hA hP hD hS (fun H locs hP hD hS => ?_)
                          refine lv_istore (lv' := [(6, .int r57.1), (5, .int (wv 2 1 2 r56.1.1)), (0, .ref s0), (1, .ref (a 75)), (2, .ref (b 0)), (3, .ref q0), (4, .int i)]) hx hb dL_law_446 hl (by decide) rfl (fun ls hl => ?_)
                          refine lv_goto (tgt := 636) hx hb dL_law_448 (by decide) ?_
                          refine lv_iinc (v := i + 6) (lv' := [(4, .int (i + 6)), (6, .int r57.1), (5, .int (wv 2 1 2 r56.1.1)), (0, .ref s0), (1, .ref (a 75)), (2, .ref (b 0)), (3, .ref q0)]) hx hb dL_law_636 hl (k := 6) rfl rfl (by decide) rfl (fun ls hl => ?_)
                          refine lv_goto (tgt := 23) hx hb dL_law_639 (by decide) ?_
                          exact ih (i + 6) z _ _ r56.2.1 (wo w r56.1.1 r56.1.2) r57.2 _ h hc hs H locs ls hP hD hS (lv_sub hl [3, 4, 5, 6, 0] rfl)
                        · rw [if_neg q58] at h
                          by_cases q61 : ((((f i.toNatClampNeg)) &&& 31)) = (10 : Int32)
                          · rw [if_pos q61] at h
                            refine lv_tableIn (off := 411) (tgt := 451) hx hb dL_law_40 (by rw [q61]; decide) (by rw [q61]; decide) (by rw [q61]; decide) (by decide) ?_
                            refine lv_aload_n hx hb dL_law_451 rfl (lv_at hl 1 rfl) ?_
                            refine lv_aload_n hx hb dL_law_452 rfl (lv_at hl 3 rfl) ?_
                            obtain ⟨r59, hr59, h⟩ := oR_ex h
                            obtain ⟨q59, h⟩ := kL_ite1 h
                            obtain ⟨y59, hny59, hy⟩ := adL_ex h
                            subst hy
                            have h := hny59
                            refine kl_W (vx_runSW (As := [.ref (a 75), .ref q0]) (rest := []) ⟨hx, hb, hml, hown, hts⟩ (c_w_work l hl0 dC dI cy ek a k  σ q0 w r59 hr59 q59 z H.size) (vx_cwSW 2 hts hg_L_work rfl rfl rfl (by decide +kernel) ⟨Nat.le_trans (by decide : 412 + 1 ≤ 1800) hRf, Nat.le_trans (by decide : 8 + (3 + 11) + 13448 ≤ 80000) hRl⟩) ⟨nb_blindX, kl_preW hK hG hE hT hX hA hP hD hS⟩ rfl rfl hl.1 rfl (lv_room (Nat.le_of_ble_eq_true rfl)) dL_law_453 ⟨Nat.le_trans (Nat.add_le_add_left (Nat.le_add_right _ _) _) (Nat.le_of_eq hc), Nat.le_trans (Nat.add_le_add_left (Nat.le_add_right _ _) _) (Nat.le_of_eq hs)⟩) hA hP hD hS (fun z H locs _ hP hD hS => ?_)
                            replace hc := (Nat.add_assoc _ _ _).trans hc
                            replace hs := (Nat.add_assoc _ _ _).trans hs
                            refine lv_istore (lv' := [(5, .int (wv 2 1 1 r59.1.1)), (0, .ref s0), (1, .ref (a 75)), (2, .ref (b 0)), (3, .ref q0), (4, .int i)]) hx hb dL_law_456 hl (by decide) rfl (fun ls hl => ?_)
                            refine lv_aload_n hx hb dL_law_458 rfl (lv_at hl 3 rfl) ?_
                            obtain ⟨r60, hr60, h⟩ := oM_ex h
                            refine kl_Mi (va_runV (As := []) (rest := []) ⟨hx, hb, hml, hown, hts⟩ (c_x_work l dC dI cy b k (fun _ => 0) (fun _ => 0) τ r60 hr60 H.size) (cwV 0 hts hg_M_work rfl rfl rfl hd_x_work ⟨Nat.le_trans (by decide : 1359 + 1 ≤ 1800) hRf, Nat.le_trans (by decide : 8 + (7 + 11) + 36518 ≤ 80000) hRl⟩) ⟨nb_blind, kl_rcM hK hP, kl_preM (ek := ek) hK hG hA hP hD hS⟩ rfl rfl hl.1 rfl (lv_room (Nat.le_of_ble_eq_true rfl)) dL_law_459 ⟨Nat.le_trans (Nat.le_add_right _ _) (Nat.le_of_eq hc), Nat.le_trans (Nat.le_add_right _ _) (Nat.le_of_eq hs)⟩) hA hP hD hS (fun H locs hP hD hS => ?_)
                            refine lv_istore (lv' := [(6, .int r60.1), (5, .int (wv 2 1 1 r59.1.1)), (0, .ref s0), (1, .ref (a 75)), (2, .ref (b 0)), (3, .ref q0), (4, .int i)]) hx hb dL_law_462 hl (by decide) rfl (fun ls hl => ?_)
                            refine lv_goto (tgt := 636) hx hb dL_law_464 (by decide) ?_
                            refine lv_iinc (v := i + 6) (lv' := [(4, .int (i + 6)), (6, .int r60.1), (5, .int (wv 2 1 1 r59.1.1)), (0, .ref s0), (1, .ref (a 75)), (2, .ref (b 0)), (3, .ref q0)]) hx hb dL_law_636 hl (k := 6) rfl rfl (by decide) rfl (fun ls hl => ?_)
                            refine lv_goto (tgt := 23) hx hb dL_law_639 (by decide) ?_
                            exact ih (i + 6) z _ _ r59.2.1 (wo w r59.1.1 r59.1.2) r60.2 _ h hc hs H locs ls hP hD hS (lv_sub hl [3, 4, 5, 6, 0] rfl)
                          · rw [if_neg q61] at h
                            by_cases q64 : ((((f i.toNatClampNeg)) &&& 31)) = (11 : Int32)
                            · rw [if_pos q64] at h
                              refine lv_tableIn (off := 427) (tgt := 467) hx hb dL_law_40 (by rw [q64]; decide) (by rw [q64]; decide) (by rw [q64]; decide) (by decide) ?_
                              refine lv_aload_n hx hb dL_law_467 rfl (lv_at hl 1 rfl) ?_
                              refine lv_aload_n hx hb dL_law_468 rfl (lv_at hl 3 rfl) ?_
                              obtain ⟨r62, hr62, h⟩ := oR_ex h
                              obtain ⟨q62, h⟩ := kL_ite1 h
                              obtain ⟨y62, hny62, hy⟩ := adL_ex h
                              subst hy
                              have h := hny62
                              refine kl_W (vx_runSW (As := [.ref (a 75), .ref q0]) (rest := []) ⟨hx, hb, hml, hown, hts⟩ (c_w_view l hl0 dC dI cy ek a k  σ q0 w r62 hr62 q62 z H.size) (vx_cwSW 2 hts hg_L_view rfl rfl rfl (by decide +kernel) ⟨Nat.le_trans (by decide : 412 + 1 ≤ 1800) hRf, Nat.le_trans (by decide : 8 + (3 + 11) + 13448 ≤ 80000) hRl⟩) ⟨nb_blindX, kl_preW hK hG hE hT hX hA hP hD hS⟩ rfl rfl hl.1 rfl (lv_room (Nat.le_of_ble_eq_true rfl)) dL_law_469 ⟨Nat.le_trans (Nat.add_le_add_left (Nat.le_add_right _ _) _) (Nat.le_of_eq hc), Nat.le_trans (Nat.add_le_add_left (Nat.le_add_right _ _) _) (Nat.le_of_eq hs)⟩) hA hP hD hS (fun z H locs _ hP hD hS => ?_)
                              replace hc := (Nat.add_assoc _ _ _).trans hc
                              replace hs := (Nat.add_assoc _ _ _).trans hs
                              refine lv_istore (lv' := [(5, .int (wv 2 1 2 r62.1.1)), (0, .ref s0), (1, .ref (a 75)), (2, .ref (b 0)), (3, .ref q0), (4, .int i)]) hx hb dL_law_472 hl (by decide) rfl (fun ls hl => ?_)
                              refine lv_aload_n hx hb dL_law_474 rfl (lv_at hl 3 rfl) ?_
                              obtain ⟨r63, hr63, h⟩ := oM_ex h
                              refine kl_Mi (va_runV (As := []) (rest := []) ⟨hx, hb, hml, hown, hts⟩ (c_x_view l dC dI cy b k (fun _ => 0) τ r63 hr63 H.size) (cwV 0 hts hg_M_view rfl rfl rfl hd_x_view ⟨Nat.le_trans (by decide : 327 + 1 ≤ 1800) hRf, Nat.le_trans (by decide : 8 + (5 + 11) + 10076 ≤ 80000) hRl⟩) ⟨nb_blind, kl_rcM hK hP, kl_preM (ek := ek) hK hG hA hP hD hS⟩ rfl rfl hl.1 rfl (lv_room (Nat.le_of_ble_eq_true rfl)) dL_law_475 ⟨Nat.le_trans (Nat.le_add_right _ _) (Nat.le_of_eq hc), Nat.le_trans (Nat.le_add_right _ _) (Nat.le_of_eq hs)⟩) hA hP hD hS (fun H locs hP hD hS => ?_)
                              refine lv_istore (lv' := [(6, .int r63.1), (5, .int (wv 2 1 2 r62.1.1)), (0, .ref s0), (1, .ref (a 75)), (2, .ref (b 0)), (3, .ref q0), (4, .int i)]) hx hb dL_law_478 hl (by decide) rfl (fun ls hl => ?_)
                              refine lv_goto (tgt := 636) hx hb dL_law_480 (by decide) ?_
                              refine lv_iinc (v := i + 6) (lv' := [(4, .int (i + 6)), (6, .int r63.1), (5, .int (wv 2 1 2 r62.1.1)), (0, .ref s0), (1, .ref (a 75)), (2, .ref (b 0)), (3, .ref q0)]) hx hb dL_law_636 hl (k := 6) rfl rfl (by decide) rfl (fun ls hl => ?_)
                              refine lv_goto (tgt := 23) hx hb dL_law_639 (by decide) ?_
                              exact ih (i + 6) z _ _ r62.2.1 (wo w r62.1.1 r62.1.2) r63.2 _ h hc hs H locs ls hP hD hS (lv_sub hl [3, 4, 5, 6, 0] rfl)
                            · rw [if_neg q64] at h
                              by_cases q67 : ((((f i.toNatClampNeg)) &&& 31)) = (12 : Int32)
                              · rw [if_pos q67] at h
                                refine lv_tableIn (off := 443) (tgt := 483) hx hb dL_law_40 (by rw [q67]; decide) (by rw [q67]; decide) (by rw [q67]; decide) (by decide) ?_
                                refine lv_aload_n hx hb dL_law_483 rfl (lv_at hl 1 rfl) ?_
                                refine lv_aload_n hx hb dL_law_484 rfl (lv_at hl 3 rfl) ?_
                                obtain ⟨r65, hr65, h⟩ := oR_ex h
                                obtain ⟨q65, h⟩ := kL_ite1 h
                                obtain ⟨y65, hny65, hy⟩ := adL_ex h
                                subst hy
                                have h := hny65
                                refine kl_W (vx_runSW (As := [.ref (a 75), .ref q0]) (rest := []) ⟨hx, hb, hml, hown, hts⟩ (c_w_round l hl0 dC dI cy ek a k  σ q0 w r65 hr65 q65 z H.size) (vx_cwSW 2 hts hg_L_round rfl rfl rfl (by decide +kernel) ⟨Nat.le_trans (by decide : 91 + 1 ≤ 1800) hRf, Nat.le_trans (by decide : 8 + (3 + 11) + 2252 ≤ 80000) hRl⟩) ⟨nb_blindX, kl_preW hK hG hE hT hX hA hP hD hS⟩ rfl rfl hl.1 rfl (lv_room (Nat.le_of_ble_eq_true rfl)) dL_law_485 ⟨Nat.le_trans (Nat.add_le_add_left (Nat.le_add_right _ _) _) (Nat.le_of_eq hc), Nat.le_trans (Nat.add_le_add_left (Nat.le_add_right _ _) _) (Nat.le_of_eq hs)⟩) hA hP hD hS (fun z H locs _ hP hD hS => ?_)
                                replace hc := (Nat.add_assoc _ _ _).trans hc
                                replace hs := (Nat.add_assoc _ _ _).trans hs
                                refine lv_istore (lv' := [(5, .int (wv 2 1 1 r65.1.1)), (0, .ref s0), (1, .ref (a 75)), (2, .ref (b 0)), (3, .ref q0), (4, .int i)]) hx hb dL_law_488 hl (by decide) rfl (fun ls hl => ?_)
                                refine lv_aload_n hx hb dL_law_490 rfl (lv_at hl 3 rfl) ?_
                                obtain ⟨r66, hr66, h⟩ := oM_ex h
                                refine kl_Mi (va_runV (As := []) (rest := []) ⟨hx, hb, hml, hown, hts⟩ (c_x_round l dC dI cy b k (fun _ => 0) τ r66 hr66 H.size) (cwV 0 hts hg_M_round rfl rfl rfl hd_x_round ⟨Nat.le_trans (by decide : 1359 + 1 ≤ 1800) hRf, Nat.le_trans (by decide : 8 + (13 + 11) + 36518 ≤ 80000) hRl⟩) ⟨nb_blind, kl_rcM hK hP, kl_preM (ek := ek) hK hG hA hP hD hS⟩ rfl rfl hl.1 rfl (lv_room (Nat.le_of_ble_eq_true rfl)) dL_law_491 ⟨Nat.le_trans (Nat.le_add_right _ _) (Nat.le_of_eq hc), Nat.le_trans (Nat.le_add_right _ _) (Nat.le_of_eq hs)⟩) hA hP hD hS (fun H locs hP hD hS => ?_)
                                refine lv_istore (lv' := [(6, .int r66.1), (5, .int (wv 2 1 1 r65.1.1)), (0, .ref s0), (1, .ref (a 75)), (2, .ref (b 0)), (3, .ref q0), (4, .int i)]) hx hb dL_law_494 hl (by decide) rfl (fun ls hl => ?_)
                                refine lv_goto (tgt := 636) hx hb dL_law_496 (by decide) ?_
                                refine lv_iinc (v := i + 6) (lv' := [(4, .int (i + 6)), (6, .int r66.1), (5, .int (wv 2 1 1 r65.1.1)), (0, .ref s0), (1, .ref (a 75)), (2, .ref (b 0)), (3, .ref q0)]) hx hb dL_law_636 hl (k := 6) rfl rfl (by decide) rfl (fun ls hl => ?_)
                                refine lv_goto (tgt := 23) hx hb dL_law_639 (by decide) ?_
                                exact ih (i + 6) z _ _ r65.2.1 (wo w r65.1.1 r65.1.2) r66.2 _ h hc hs H locs ls hP hD hS (lv_sub hl [3, 4, 5, 6, 0] rfl)
                              · rw [if_neg q67] at h
                                by_cases q74 : ((((f i.toNatClampNeg)) &&& 31)) = (13 : Int32)
                                · rw [if_pos q74] at h
                                  refine lv_tableIn (off := 459) (tgt := 499) hx hb dL_law_40 (by rw [q74]; decide) (by rw [q74]; decide) (by rw [q74]; decide) (by decide) ?_
                                  refine lv_aload_n hx hb dL_law_499 rfl (lv_at hl 1 rfl) ?_
                                  refine lv_aload_n hx hb dL_law_500 rfl (lv_at hl 0 rfl) ?_
                                  refine lv_iload hx hb dL_law_501 (lv_at hl 4 rfl) ?_
                                  refine lv_iconst (v := 1) hx hb dL_law_503 (by decide) ?_
                                  refine lv_iadd hx hb dL_law_504 ?_
                                  obtain ⟨q68, h⟩ := kL_ite1 h
                                  refine kl_sc hx hb hXs hbl hbA hS q68 dL_law_505 ?_
                                  refine lv_aload_n hx hb dL_law_506 rfl (lv_at hl 0 rfl) ?_
                                  refine lv_iload hx hb dL_law_507 (lv_at hl 4 rfl) ?_
                                  refine lv_iconst (v := 2) hx hb dL_law_509 (by decide) ?_
                                  refine lv_iadd hx hb dL_law_510 ?_
                                  obtain ⟨q69, h⟩ := kL_ite1 h
                                  refine kl_sc hx hb hXs hbl hbA hS q69 dL_law_511 ?_
                                  refine lv_aload_n hx hb dL_law_512 rfl (lv_at hl 3 rfl) ?_
                                  obtain ⟨r70, hr70, h⟩ := oR_ex h
                                  obtain ⟨q70, h⟩ := kL_ite1 h
                                  obtain ⟨y70, hny70, hy⟩ := adL_ex h
                                  subst hy
                                  have h := hny70
                                  refine kl_W (vx_runSW (As := [.ref (a 75), .int (f ((i + 1)).toNatClampNeg), .int (f ((i + 2)).toNatClampNeg), .ref q0]) (rest := []) ⟨hx, hb, hml, hown, hts⟩ (c_w_seen l hl0 dC dI cy ek a k ((f ((i + 1)).toNatClampNeg)) ((f ((i + 2)).toNatClampNeg)) σ q0 w r70 hr70 q70 z H.size) (vx_cwSW 4 hts hg_L_seen rfl rfl rfl (by decide +kernel) ⟨Nat.le_trans (by decide : 89 + 1 ≤ 1800) hRf, Nat.le_trans (by decide : 8 + (5 + 11) + 2195 ≤ 80000) hRl⟩) ⟨nb_blindX, kl_preW hK hG hE hT hX hA hP hD hS⟩ rfl rfl hl.1 rfl (lv_room (Nat.le_of_ble_eq_true rfl)) dL_law_513 ⟨Nat.le_trans (Nat.add_le_add_left (Nat.le_add_right _ _) _) (Nat.le_of_eq hc), Nat.le_trans (Nat.add_le_add_left (Nat.le_add_right _ _) _) (Nat.le_of_eq hs)⟩) hA hP hD hS (fun z H locs _ hP hD hS => ?_)
                                  replace hc := (Nat.add_assoc _ _ _).trans hc
                                  replace hs := (Nat.add_assoc _ _ _).trans hs
                                  refine lv_istore (lv' := [(5, .int (wv 3 1 2 r70.1.1)), (0, .ref s0), (1, .ref (a 75)), (2, .ref (b 0)), (3, .ref q0), (4, .int i)]) hx hb dL_law_516 hl (by decide) rfl (fun ls hl => ?_)
                                  refine lv_aload_n hx hb dL_law_518 rfl (lv_at hl 3 rfl) ?_
                                  refine lv_aload_n hx hb dL_law_519 rfl (lv_at hl 1 rfl) ?_
                                  refine lv_iload hx hb dL_law_520 (lv_at hl 5 rfl) ?_
                                  refine lv_iconst (v := 1) hx hb dL_law_522 (by decide) ?_
                                  refine lv_iadd hx hb dL_law_523 ?_
                                  obtain ⟨q71, h⟩ := kL_ite1 h
                                  refine kl_sc hx hb hXs hbl hbA hS q71 dL_law_524 ?_
                                  refine lv_aload_n hx hb dL_law_525 rfl (lv_at hl 1 rfl) ?_
                                  refine lv_iload hx hb dL_law_526 (lv_at hl 5 rfl) ?_
                                  refine lv_iconst (v := 2) hx hb dL_law_528 (by decide) ?_
                                  refine lv_iadd hx hb dL_law_529 ?_
                                  obtain ⟨q72, h⟩ := kL_ite1 h
                                  refine kl_sc hx hb hXs hbl hbA hS q72 dL_law_530 ?_
                                  obtain ⟨r73, hr73, h⟩ := oM_ex h
                                  refine kl_Mi (va_runV (As := [.int (f ((i + 1)).toNatClampNeg), .int (f ((i + 2)).toNatClampNeg)]) (rest := []) ⟨hx, hb, hml, hown, hts⟩ (c_x_seen l dC dI cy b k (upd (upd (fun _ => 0) 1 ((f ((i + 1)).toNatClampNeg))) 2 ((f ((i + 2)).toNatClampNeg))) τ r73 hr73 H.size) (cwV 2 hts hg_M_seen rfl rfl rfl hd_x_seen ⟨Nat.le_trans (by decide : 56 + 1 ≤ 1800) hRf, Nat.le_trans (by decide : 8 + (3 + 11) + 1300 ≤ 80000) hRl⟩) ⟨nb_blind, kl_rcM hK hP, kl_preM (ek := ek) hK hG hA hP hD hS⟩ rfl rfl hl.1 rfl (lv_room (Nat.le_of_ble_eq_true rfl)) dL_law_531 ⟨Nat.le_trans (Nat.le_add_right _ _) (Nat.le_of_eq hc), Nat.le_trans (Nat.le_add_right _ _) (Nat.le_of_eq hs)⟩) hA hP hD hS (fun H locs hP hD hS => ?_)
                                  refine lv_istore (lv' := [(6, .int r73.1), (5, .int (wv 3 1 2 r70.1.1)), (0, .ref s0), (1, .ref (a 75)), (2, .ref (b 0)), (3, .ref q0), (4, .int i)]) hx hb dL_law_534 hl (by decide) rfl (fun ls hl => ?_)
                                  refine lv_goto (tgt := 636) hx hb dL_law_536 (by decide) ?_
                                  refine lv_iinc (v := i + 6) (lv' := [(4, .int (i + 6)), (6, .int r73.1), (5, .int (wv 3 1 2 r70.1.1)), (0, .ref s0), (1, .ref (a 75)), (2, .ref (b 0)), (3, .ref q0)]) hx hb dL_law_636 hl (k := 6) rfl rfl (by decide) rfl (fun ls hl => ?_)
                                  refine lv_goto (tgt := 23) hx hb dL_law_639 (by decide) ?_
                                  exact ih (i + 6) z _ _ r70.2.1 (wo w r70.1.1 r70.1.2) r73.2 _ h hc hs H locs ls hP hD hS (lv_sub hl [3, 4, 5, 6, 0] rfl)
                                · rw [if_neg q74] at h
                                  by_cases q79 : ((((f i.toNatClampNeg)) &&& 31)) = (14 : Int32)
                                  · rw [if_pos q79] at h
                                    refine lv_tableIn (off := 499) (tgt := 539) hx hb dL_law_40 (by rw [q79]; decide) (by rw [q79]; decide) (by rw [q79]; decide) (by decide) ?_
                                    refine lv_aload_n hx hb dL_law_539 rfl (lv_at hl 1 rfl) ?_
                                    refine lv_aload_n hx hb dL_law_540 rfl (lv_at hl 0 rfl) ?_
                                    refine lv_iload hx hb dL_law_541 (lv_at hl 4 rfl) ?_
                                    refine lv_iconst (v := 1) hx hb dL_law_543 (by decide) ?_
                                    refine lv_iadd hx hb dL_law_544 ?_
                                    obtain ⟨q75, h⟩ := kL_ite1 h
                                    refine kl_sc hx hb hXs hbl hbA hS q75 dL_law_545 ?_
                                    refine lv_aload_n hx hb dL_law_546 rfl (lv_at hl 3 rfl) ?_
                                    obtain ⟨r76, hr76, h⟩ := oR_ex h
                                    obtain ⟨q76, h⟩ := kL_ite1 h
                                    obtain ⟨y76, hny76, hy⟩ := adL_ex h
                                    subst hy
                                    have h := hny76
                                    refine kl_W (vx_runSW (As := [.ref (a 75), .int (f ((i + 1)).toNatClampNeg), .ref q0]) (rest := []) ⟨hx, hb, hml, hown, hts⟩ (c_w_shown l hl0 dC dI cy ek a k ((f ((i + 1)).toNatClampNeg)) σ q0 w r76 hr76 q76 z H.size) (vx_cwSW 3 hts hg_L_shown rfl rfl rfl (by decide +kernel) ⟨Nat.le_trans (by decide : 7 + 1 ≤ 1800) hRf, Nat.le_trans (by decide : 8 + (4 + 11) + 121 ≤ 80000) hRl⟩) ⟨nb_blindX, kl_preW hK hG hE hT hX hA hP hD hS⟩ rfl rfl hl.1 rfl (lv_room (Nat.le_of_ble_eq_true rfl)) dL_law_547 ⟨Nat.le_trans (Nat.add_le_add_left (Nat.le_add_right _ _) _) (Nat.le_of_eq hc), Nat.le_trans (Nat.add_le_add_left (Nat.le_add_right _ _) _) (Nat.le_of_eq hs)⟩) hA hP hD hS (fun z H locs _ hP hD hS => ?_)
                                    replace hc := (Nat.add_assoc _ _ _).trans hc
                                    replace hs := (Nat.add_assoc _ _ _).trans hs
                                    refine lv_istore (lv' := [(5, .int (wv 3 1 1 r76.1.1)), (0, .ref s0), (1, .ref (a 75)), (2, .ref (b 0)), (3, .ref q0), (4, .int i)]) hx hb dL_law_550 hl (by decide) rfl (fun ls hl => ?_)
                                    refine lv_aload_n hx hb dL_law_552 rfl (lv_at hl 3 rfl) ?_
                                    refine lv_aload_n hx hb dL_law_553 rfl (lv_at hl 1 rfl) ?_
                                    refine lv_iload hx hb dL_law_554 (lv_at hl 5 rfl) ?_
                                    refine lv_iconst (v := 1) hx hb dL_law_556 (by decide) ?_
                                    refine lv_iadd hx hb dL_law_557 ?_
                                    obtain ⟨q77, h⟩ := kL_ite1 h
                                    refine kl_sc hx hb hXs hbl hbA hS q77 dL_law_558 ?_
                                    obtain ⟨r78, hr78, h⟩ := oM_ex h
                                    refine kl_Mi (va_runV (As := [.int (f ((i + 1)).toNatClampNeg)]) (rest := []) ⟨hx, hb, hml, hown, hts⟩ (c_x_shown l dC dI cy b k (upd (fun _ => 0) 1 ((f ((i + 1)).toNatClampNeg))) τ r78 hr78 H.size) (cwV 1 hts hg_M_shown rfl rfl rfl hd_x_shown ⟨Nat.le_trans (by decide : 1 + 1 ≤ 1800) hRf, Nat.le_trans (by decide : 8 + (2 + 11) + 21 ≤ 80000) hRl⟩) ⟨nb_blind, kl_rcM hK hP, kl_preM (ek := ek) hK hG hA hP hD hS⟩ rfl rfl hl.1 rfl (lv_room (Nat.le_of_ble_eq_true rfl)) dL_law_559 ⟨Nat.le_trans (Nat.le_add_right _ _) (Nat.le_of_eq hc), Nat.le_trans (Nat.le_add_right _ _) (Nat.le_of_eq hs)⟩) hA hP hD hS (fun H locs hP hD hS => ?_)
                                    refine lv_istore (lv' := [(6, .int r78.1), (5, .int (wv 3 1 1 r76.1.1)), (0, .ref s0), (1, .ref (a 75)), (2, .ref (b 0)), (3, .ref q0), (4, .int i)]) hx hb dL_law_562 hl (by decide) rfl (fun ls hl => ?_)
                                    refine lv_goto (tgt := 636) hx hb dL_law_564 (by decide) ?_
                                    refine lv_iinc (v := i + 6) (lv' := [(4, .int (i + 6)), (6, .int r78.1), (5, .int (wv 3 1 1 r76.1.1)), (0, .ref s0), (1, .ref (a 75)), (2, .ref (b 0)), (3, .ref q0)]) hx hb dL_law_636 hl (k := 6) rfl rfl (by decide) rfl (fun ls hl => ?_)
                                    refine lv_goto (tgt := 23) hx hb dL_law_639 (by decide) ?_
                                    exact ih (i + 6) z _ _ r76.2.1 (wo w r76.1.1 r76.1.2) r78.2 _ h hc hs H locs ls hP hD hS (lv_sub hl [3, 4, 5, 6, 0] rfl)
                                  · rw [if_neg q79] at h
                                    by_cases q84 : ((((f i.toNatClampNeg)) &&& 31)) = (15 : Int32)
                                    · rw [if_pos q84] at h
                                      refine lv_tableIn (off := 527) (tgt := 567) hx hb dL_law_40 (by rw [q84]; decide) (by rw [q84]; decide) (by rw [q84]; decide) (by decide) ?_
                                      refine lv_aload_n hx hb dL_law_567 rfl (lv_at hl 1 rfl) ?_
                                      refine lv_aload_n hx hb dL_law_568 rfl (lv_at hl 0 rfl) ?_
                                      refine lv_iload hx hb dL_law_569 (lv_at hl 4 rfl) ?_
                                      refine lv_iconst (v := 1) hx hb dL_law_571 (by decide) ?_
                                      refine lv_iadd hx hb dL_law_572 ?_
                                      obtain ⟨q80, h⟩ := kL_ite1 h
                                      refine kl_sc hx hb hXs hbl hbA hS q80 dL_law_573 ?_
                                      refine lv_aload_n hx hb dL_law_574 rfl (lv_at hl 3 rfl) ?_
                                      obtain ⟨r81, hr81, h⟩ := oR_ex h
                                      obtain ⟨q81, h⟩ := kL_ite1 h
                                      obtain ⟨y81, hny81, hy⟩ := adL_ex h
                                      subst hy
                                      have h := hny81
                                      refine kl_W (vx_runSW (As := [.ref (a 75), .int (f ((i + 1)).toNatClampNeg), .ref q0]) (rest := []) ⟨hx, hb, hml, hown, hts⟩ (c_w_shape l hl0 dC dI cy ek a k ((f ((i + 1)).toNatClampNeg)) σ q0 w r81 hr81 q81 z H.size) (vx_cwSW 3 hts hg_L_shape rfl rfl rfl (by decide +kernel) ⟨Nat.le_trans (by decide : 7 + 1 ≤ 1800) hRf, Nat.le_trans (by decide : 8 + (4 + 11) + 123 ≤ 80000) hRl⟩) ⟨nb_blindX, kl_preW hK hG hE hT hX hA hP hD hS⟩ rfl rfl hl.1 rfl (lv_room (Nat.le_of_ble_eq_true rfl)) dL_law_575 ⟨Nat.le_trans (Nat.add_le_add_left (Nat.le_add_right _ _) _) (Nat.le_of_eq hc), Nat.le_trans (Nat.add_le_add_left (Nat.le_add_right _ _) _) (Nat.le_of_eq hs)⟩) hA hP hD hS (fun z H locs _ hP hD hS => ?_)
                                      replace hc := (Nat.add_assoc _ _ _).trans hc
                                      replace hs := (Nat.add_assoc _ _ _).trans hs
                                      refine lv_istore (lv' := [(5, .int (wv 3 1 1 r81.1.1)), (0, .ref s0), (1, .ref (a 75)), (2, .ref (b 0)), (3, .ref q0), (4, .int i)]) hx hb dL_law_578 hl (by decide) rfl (fun ls hl => ?_)
                                      refine lv_aload_n hx hb dL_law_580 rfl (lv_at hl 3 rfl) ?_
                                      refine lv_aload_n hx hb dL_law_581 rfl (lv_at hl 1 rfl) ?_
                                      refine lv_iload hx hb dL_law_582 (lv_at hl 5 rfl) ?_
                                      refine lv_iconst (v := 1) hx hb dL_law_584 (by decide) ?_
                                      refine lv_iadd hx hb dL_law_585 ?_
                                      obtain ⟨q82, h⟩ := kL_ite1 h
                                      refine kl_sc hx hb hXs hbl hbA hS q82 dL_law_586 ?_
                                      obtain ⟨r83, hr83, h⟩ := oM_ex h
                                      refine kl_Mi (va_runV (As := [.int (f ((i + 1)).toNatClampNeg)]) (rest := []) ⟨hx, hb, hml, hown, hts⟩ (c_x_shape l dC dI cy b k (upd (fun _ => 0) 1 ((f ((i + 1)).toNatClampNeg))) τ r83 hr83 H.size) (cwV 1 hts hg_M_shape rfl rfl rfl hd_x_shape ⟨Nat.le_trans (by decide : 1 + 1 ≤ 1800) hRf, Nat.le_trans (by decide : 8 + (4 + 11) + 21 ≤ 80000) hRl⟩) ⟨nb_blind, kl_rcM hK hP, kl_preM (ek := ek) hK hG hA hP hD hS⟩ rfl rfl hl.1 rfl (lv_room (Nat.le_of_ble_eq_true rfl)) dL_law_587 ⟨Nat.le_trans (Nat.le_add_right _ _) (Nat.le_of_eq hc), Nat.le_trans (Nat.le_add_right _ _) (Nat.le_of_eq hs)⟩) hA hP hD hS (fun H locs hP hD hS => ?_)
                                      refine lv_istore (lv' := [(6, .int r83.1), (5, .int (wv 3 1 1 r81.1.1)), (0, .ref s0), (1, .ref (a 75)), (2, .ref (b 0)), (3, .ref q0), (4, .int i)]) hx hb dL_law_590 hl (by decide) rfl (fun ls hl => ?_)
                                      refine lv_goto (tgt := 636) hx hb dL_law_592 (by decide) ?_
                                      refine lv_iinc (v := i + 6) (lv' := [(4, .int (i + 6)), (6, .int r83.1), (5, .int (wv 3 1 1 r81.1.1)), (0, .ref s0), (1, .ref (a 75)), (2, .ref (b 0)), (3, .ref q0)]) hx hb dL_law_636 hl (k := 6) rfl rfl (by decide) rfl (fun ls hl => ?_)
                                      refine lv_goto (tgt := 23) hx hb dL_law_639 (by decide) ?_
                                      exact ih (i + 6) z _ _ r81.2.1 (wo w r81.1.1 r81.1.2) r83.2 _ h hc hs H locs ls hP hD hS (lv_sub hl [3, 4, 5, 6, 0] rfl)
                                    · rw [if_neg q84] at h
                                      by_cases q87 : ((((f i.toNatClampNeg)) &&& 31)) = (16 : Int32)
                                      · rw [if_pos q87] at h
                                        refine lv_tableIn (off := 555) (tgt := 595) hx hb dL_law_40 (by rw [q87]; decide) (by rw [q87]; decide) (by rw [q87]; decide) (by decide) ?_
                                        refine lv_aload_n hx hb dL_law_595 rfl (lv_at hl 1 rfl) ?_
                                        obtain ⟨r85, hr85, h⟩ := oY_ex h
                                        refine kl_Y (va_runV (As := []) (rest := []) ⟨hx, hb, hml, hown, hts⟩ (c_y_X11_order l dC dI cy a z k lZ σ r85 hr85 H.size) (cwV 0 hts hg_Y_order rfl rfl rfl hd_y_X11_order ⟨Nat.le_trans (by decide : 62 + 1 ≤ 1800) hRf, Nat.le_trans (by decide : 8 + (1 + 11) + 1738 ≤ 80000) hRl⟩) ⟨nb_blind, kl_rcC hK hP, kl_preY (ek := ek) hK hG hA hP hD hS⟩ rfl rfl hl.1 rfl (lv_room (Nat.le_of_ble_eq_true rfl)) dL_law_596 ⟨Nat.le_trans (Nat.le_add_right _ _) (Nat.le_of_eq hc), Nat.le_trans (Nat.le_add_right _ _) (Nat.le_of_eq hs)⟩) hA hP hD hS (fun H locs hP hD hS => ?_)
                                        refine lv_pop hx hb dL_law_599 rfl ?_
                                        refine lv_aload_n hx hb dL_law_600 rfl (lv_at hl 2 rfl) ?_
                                        obtain ⟨r86, hr86, h⟩ := oM_ex h
                                        refine kl_Mi (va_runV (As := []) (rest := []) ⟨hx, hb, hml, hown, hts⟩ (c_x_order l dC dI cy b k (fun _ => 0) τ r86 hr86 H.size) (cwV 0 hts hg_M_order rfl rfl rfl hd_x_order ⟨Nat.le_trans (by decide : 43 + 1 ≤ 1800) hRf, Nat.le_trans (by decide : 8 + (2 + 11) + 1195 ≤ 80000) hRl⟩) ⟨nb_blind, kl_rcM hK hP, kl_preM (ek := ek) hK hG hA hP hD hS⟩ rfl rfl hl.1 rfl (lv_room (Nat.le_of_ble_eq_true rfl)) dL_law_601 ⟨Nat.le_trans (Nat.le_add_right _ _) (Nat.le_of_eq hc), Nat.le_trans (Nat.le_add_right _ _) (Nat.le_of_eq hs)⟩) hA hP hD hS (fun H locs hP hD hS => ?_)
                                        refine lv_pop hx hb dL_law_604 rfl ?_
                                        refine lv_goto (tgt := 636) hx hb dL_law_605 (by decide) ?_
                                        refine lv_iinc (v := i + 6) (lv' := [(4, .int (i + 6)), (0, .ref s0), (1, .ref (a 75)), (2, .ref (b 0)), (3, .ref q0)]) hx hb dL_law_636 hl (k := 4) rfl rfl (by decide) rfl (fun ls hl => ?_)
                                        refine lv_goto (tgt := 23) hx hb dL_law_639 (by decide) ?_
                                        exact ih (i + 6) z _ _ r85.2 w r86.2 _ h hc hs H locs ls hP hD hS (lv_sub hl [1, 2, 3, 4, 0] rfl)
                                      · rw [if_neg q87] at h
                                        by_cases q92 : ((((f i.toNatClampNeg)) &&& 31)) = (17 : Int32)
                                        · rw [if_pos q92] at h
                                          refine lv_tableIn (off := 568) (tgt := 608) hx hb dL_law_40 (by rw [q92]; decide) (by rw [q92]; decide) (by rw [q92]; decide) (by decide) ?_
                                          refine lv_aload_n hx hb dL_law_608 rfl (lv_at hl 1 rfl) ?_
                                          refine lv_aload_n hx hb dL_law_609 rfl (lv_at hl 0 rfl) ?_
                                          refine lv_iload hx hb dL_law_610 (lv_at hl 4 rfl) ?_
                                          refine lv_iconst (v := 1) hx hb dL_law_612 (by decide) ?_
                                          refine lv_iadd hx hb dL_law_613 ?_
                                          obtain ⟨q88, h⟩ := kL_ite1 h
                                          refine kl_sc hx hb hXs hbl hbA hS q88 dL_law_614 ?_
                                          refine lv_aload_n hx hb dL_law_615 rfl (lv_at hl 3 rfl) ?_
                                          obtain ⟨r89, hr89, h⟩ := oR_ex h
                                          obtain ⟨q89, h⟩ := kL_ite1 h
                                          obtain ⟨y89, hny89, hy⟩ := adL_ex h
                                          subst hy
                                          have h := hny89
                                          refine kl_W (vx_runSW (As := [.ref (a 75), .int (f ((i + 1)).toNatClampNeg), .ref q0]) (rest := []) ⟨hx, hb, hml, hown, hts⟩ (c_w_count l hl0 dC dI cy ek a k ((f ((i + 1)).toNatClampNeg)) σ q0 w r89 hr89 q89 z H.size) (vx_cwSW 3 hts hg_L_count rfl rfl rfl (by decide +kernel) ⟨Nat.le_trans (by decide : 7 + 1 ≤ 1800) hRf, Nat.le_trans (by decide : 8 + (4 + 11) + 121 ≤ 80000) hRl⟩) ⟨nb_blindX, kl_preW hK hG hE hT hX hA hP hD hS⟩ rfl rfl hl.1 rfl (lv_room (Nat.le_of_ble_eq_true rfl)) dL_law_616 ⟨Nat.le_trans (Nat.add_le_add_left (Nat.le_add_right _ _) _) (Nat.le_of_eq hc), Nat.le_trans (Nat.add_le_add_left (Nat.le_add_right _ _) _) (Nat.le_of_eq hs)⟩) hA hP hD hS (fun z H locs _ hP hD hS => ?_)
                                          replace hc := (Nat.add_assoc _ _ _).trans hc
                                          replace hs := (Nat.add_assoc _ _ _).trans hs
                                          refine lv_istore (lv' := [(5, .int (wv 3 1 1 r89.1.1)), (0, .ref s0), (1, .ref (a 75)), (2, .ref (b 0)), (3, .ref q0), (4, .int i)]) hx hb dL_law_619 hl (by decide) rfl (fun ls hl => ?_)
                                          refine lv_aload_n hx hb dL_law_621 rfl (lv_at hl 3 rfl) ?_
                                          refine lv_aload_n hx hb dL_law_622 rfl (lv_at hl 1 rfl) ?_
                                          refine lv_iload hx hb dL_law_623 (lv_at hl 5 rfl) ?_
                                          refine lv_iconst (v := 1) hx hb dL_law_625 (by decide) ?_
                                          refine lv_iadd hx hb dL_law_626 ?_
                                          obtain ⟨q90, h⟩ := kL_ite1 h
                                          refine kl_sc hx hb hXs hbl hbA hS q90 dL_law_627 ?_
                                          obtain ⟨r91, hr91, h⟩ := oM_ex h
                                          refine kl_Mi (va_runV (As := [.int (f ((i + 1)).toNatClampNeg)]) (rest := []) ⟨hx, hb, hml, hown, hts⟩ (c_x_count l dC dI cy b k (upd (fun _ => 0) 1 ((f ((i + 1)).toNatClampNeg))) τ r91 hr91 H.size) (cwV 1 hts hg_M_count rfl rfl rfl hd_x_count ⟨Nat.le_trans (by decide : 1 + 1 ≤ 1800) hRf, Nat.le_trans (by decide : 8 + (2 + 11) + 21 ≤ 80000) hRl⟩) ⟨nb_blind, kl_rcM hK hP, kl_preM (ek := ek) hK hG hA hP hD hS⟩ rfl rfl hl.1 rfl (lv_room (Nat.le_of_ble_eq_true rfl)) dL_law_628 ⟨Nat.le_trans (Nat.le_add_right _ _) (Nat.le_of_eq hc), Nat.le_trans (Nat.le_add_right _ _) (Nat.le_of_eq hs)⟩) hA hP hD hS (fun H locs hP hD hS => ?_)
                                          refine lv_istore (lv' := [(6, .int r91.1), (5, .int (wv 3 1 1 r89.1.1)), (0, .ref s0), (1, .ref (a 75)), (2, .ref (b 0)), (3, .ref q0), (4, .int i)]) hx hb dL_law_631 hl (by decide) rfl (fun ls hl => ?_)
                                          refine lv_goto (tgt := 636) hx hb dL_law_633 (by decide) ?_
                                          refine lv_iinc (v := i + 6) (lv' := [(4, .int (i + 6)), (6, .int r91.1), (5, .int (wv 3 1 1 r89.1.1)), (0, .ref s0), (1, .ref (a 75)), (2, .ref (b 0)), (3, .ref q0)]) hx hb dL_law_636 hl (k := 6) rfl rfl (by decide) rfl (fun ls hl => ?_)
                                          refine lv_goto (tgt := 23) hx hb dL_law_639 (by decide) ?_
                                          exact ih (i + 6) z _ _ r89.2.1 (wo w r89.1.1 r89.1.2) r91.2 _ h hc hs H locs ls hP hD hS (lv_sub hl [3, 4, 5, 6, 0] rfl)
                                        · rw [if_neg q92] at h
                                          have nq15 : ¬ ((((f i.toNatClampNeg)) &&& 31)).toInt = 0 := nb_ti q15 rfl
                                          have nq22 : ¬ ((((f i.toNatClampNeg)) &&& 31)).toInt = 1 := nb_ti q22 rfl
                                          have nq25 : ¬ ((((f i.toNatClampNeg)) &&& 31)).toInt = 2 := nb_ti q25 rfl
                                          have nq28 : ¬ ((((f i.toNatClampNeg)) &&& 31)).toInt = 3 := nb_ti q28 rfl
                                          have nq35 : ¬ ((((f i.toNatClampNeg)) &&& 31)).toInt = 4 := nb_ti q35 rfl
                                          have nq40 : ¬ ((((f i.toNatClampNeg)) &&& 31)).toInt = 5 := nb_ti q40 rfl
                                          have nq45 : ¬ ((((f i.toNatClampNeg)) &&& 31)).toInt = 6 := nb_ti q45 rfl
                                          have nq50 : ¬ ((((f i.toNatClampNeg)) &&& 31)).toInt = 7 := nb_ti q50 rfl
                                          have nq55 : ¬ ((((f i.toNatClampNeg)) &&& 31)).toInt = 8 := nb_ti q55 rfl
                                          have nq58 : ¬ ((((f i.toNatClampNeg)) &&& 31)).toInt = 9 := nb_ti q58 rfl
                                          have nq61 : ¬ ((((f i.toNatClampNeg)) &&& 31)).toInt = 10 := nb_ti q61 rfl
                                          have nq64 : ¬ ((((f i.toNatClampNeg)) &&& 31)).toInt = 11 := nb_ti q64 rfl
                                          have nq67 : ¬ ((((f i.toNatClampNeg)) &&& 31)).toInt = 12 := nb_ti q67 rfl
                                          have nq74 : ¬ ((((f i.toNatClampNeg)) &&& 31)).toInt = 13 := nb_ti q74 rfl
                                          have nq79 : ¬ ((((f i.toNatClampNeg)) &&& 31)).toInt = 14 := nb_ti q79 rfl
                                          have nq84 : ¬ ((((f i.toNatClampNeg)) &&& 31)).toInt = 15 := nb_ti q84 rfl
                                          have nq87 : ¬ ((((f i.toNatClampNeg)) &&& 31)).toInt = 16 := nb_ti q87 rfl
                                          have nq92 : ¬ ((((f i.toNatClampNeg)) &&& 31)).toInt = 17 := nb_ti q92 rfl
                                          refine lv_tableOut (tgt := 636) hx hb dL_law_40 (by omega) (by decide) ?_
                                          refine lv_iinc (v := i + 6) (lv' := [(4, .int (i + 6)), (0, .ref s0), (1, .ref (a 75)), (2, .ref (b 0)), (3, .ref q0)]) hx hb dL_law_636 hl (k := 4) rfl rfl (by decide) rfl (fun ls hl => ?_)
                                          refine lv_goto (tgt := 23) hx hb dL_law_639 (by decide) ?_
                                          exact ih (i + 6) z _ _ σ w τ _ h hc hs H locs ls hP hD hS (lv_sub hl [1, 2, 3, 4, 0] rfl)
