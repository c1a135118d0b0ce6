/-! The law's loop: a function of the script and of both sides. -/
abbrev LT := Option (Int32 × (Nat × Nat))
def adL (c : Nat × Nat) (y : LT) : LT := match y with
  | none => none
  | some q => some (q.1, (c.1 + q.2.1, c.2 + q.2.2))
theorem adL_ex {c : Nat × Nat} {y : LT} {r : Int32 × (Nat × Nat)} (h : adL c y = some r) : ∃ q : Int32 × (Nat × Nat), y = some q ∧ r = (q.1, (c.1 + q.2.1, c.2 + q.2.2)) := by
  cases y with
  | none => cases h
  | some q => exact ⟨q, rfl, (Option.some.inj h).symm⟩
theorem kL_ite1 {P : Prop} {_ : Decidable P} {x : LT} {r : Int32 × (Nat × Nat)} (h : (if P then x else none) = some r) : P ∧ x = some r := by
  by_cases q : P
  · rw [if_pos q] at h; exact ⟨q, h⟩
  · rw [if_neg q] at h; cases h
def oR (x : Option RS) (g : RS → LT) : LT := match x with
  | none => none
  | some q => g q
theorem oR_ex {x : Option RS} {g : RS → LT} {r : Int32 × (Nat × Nat)} (h : oR x g = some r) : ∃ q : RS, x = some q ∧ g q = some r := by
  cases x with
  | none => cases h
  | some q => exact ⟨q, rfl, h⟩
def oM (x : Option (Int32 × MS)) (g : (Int32 × MS) → LT) : LT := match x with
  | none => none
  | some q => g q
theorem oM_ex {x : Option (Int32 × MS)} {g : (Int32 × MS) → LT} {r : Int32 × (Nat × Nat)} (h : oM x g = some r) : ∃ q : (Int32 × MS), x = some q ∧ g q = some r := by
  cases x with
  | none => cases h
  | some q => exact ⟨q, rfl, h⟩
def oY (x : Option (Int32 × CS)) (g : (Int32 × CS) → LT) : LT := match x with
  | none => none
  | some q => g q
theorem oY_ex {x : Option (Int32 × CS)} {g : (Int32 × CS) → LT} {r : Int32 × (Nat × Nat)} (h : oY x g = some r) : ∃ q : (Int32 × CS), x = some q ∧ g q = some r := by
  cases x with
  | none => cases h
  | some q => exact ⟨q, rfl, h⟩
def lawF (n : Nat) (f : Nat → Int32) : Nat → Int32 → (CS × (Nat → Int64) × MS) → LT
  | 0, _, _ => none
  | k + 1, i, (σ, w, τ) => if ((((nI n)) - 6)) < i then (some (1, (0, 0))) else (if ¬ (i < 0 ∨ n ≤ i.toNatClampNeg) then (if ((((f i.toNatClampNeg)) &&& 31)) = (0 : Int32) then (if ¬ (((i + 1)) < 0 ∨ n ≤ ((i + 1)).toNatClampNeg) then (if ¬ (((i + 2)) < 0 ∨ n ≤ ((i + 2)).toNatClampNeg) then (if ¬ (((i + 3)) < 0 ∨ n ≤ ((i + 3)).toNatClampNeg) then (if ¬ (((i + 4)) < 0 ∨ n ≤ ((i + 4)).toNatClampNeg) then (if ¬ (((i + 5)) < 0 ∨ n ≤ ((i + 5)).toNatClampNeg) then (oR (f_X11_feed k 0 (lI (lI (lI (lI (lI lZ 1 ((f ((i + 1)).toNatClampNeg))) 2 ((f ((i + 2)).toNatClampNeg))) 3 ((f ((i + 3)).toNatClampNeg))) 4 ((f ((i + 4)).toNatClampNeg))) 5 ((f ((i + 5)).toNatClampNeg))) σ) (fun r8 => if r8.1.1 = 0 ∨ r8.1.1 = 4 then (adL r8.2.2 (if ¬ (((i + 1)) < 0 ∨ n ≤ ((i + 1)).toNatClampNeg) then (if ¬ (((i + 2)) < 0 ∨ n ≤ ((i + 2)).toNatClampNeg) then (if ¬ (((i + 3)) < 0 ∨ n ≤ ((i + 3)).toNatClampNeg) then (if ¬ (((i + 4)) < 0 ∨ n ≤ ((i + 4)).toNatClampNeg) then (if ¬ (((i + 5)) < 0 ∨ n ≤ ((i + 5)).toNatClampNeg) then (oM (x_feed k 0 (upd (upd (upd (upd (upd (fun _ => 0) 1 ((f ((i + 1)).toNatClampNeg))) 2 ((f ((i + 2)).toNatClampNeg))) 3 ((f ((i + 3)).toNatClampNeg))) 4 ((f ((i + 4)).toNatClampNeg))) 5 ((f ((i + 5)).toNatClampNeg))) τ) (fun r14 => lawF n f k (i + 6) (r8.2.1, (wo w r8.1.1 r8.1.2), r14.2))) else none) else none) else none) else none) else none)) else none)) else none) else none) else none) else none) else none) else (if ((((f i.toNatClampNeg)) &&& 31)) = (1 : Int32) then (if ¬ (((i + 1)) < 0 ∨ n ≤ ((i + 1)).toNatClampNeg) then (oR (f_X11_end k 0 (lI lZ 1 ((f ((i + 1)).toNatClampNeg))) σ) (fun r17 => if r17.1.1 = 0 ∨ r17.1.1 = 1 then (adL r17.2.2 (if ¬ (((i + 1)) < 0 ∨ n ≤ ((i + 1)).toNatClampNeg) then (oM (x_end k 0 (upd (fun _ => 0) 1 ((f ((i + 1)).toNatClampNeg))) τ) (fun r19 => lawF n f k (i + 6) (r17.2.1, w, r19.2))) else none)) else none)) else none) else (if ((((f i.toNatClampNeg)) &&& 31)) = (2 : Int32) then (oR (f_X11_program k 0 lZ σ) (fun r21 => if r21.1.1 = 0 then (adL r21.2.2 (oM (x_program k 0 (fun _ => 0) τ) (fun r22 => lawF n f k (i + 6) (r21.2.1, w, r22.2)))) else none)) else (if ((((f i.toNatClampNeg)) &&& 31)) = (3 : Int32) then (oY (y_X11_fault k 0 lZ σ) (fun r24 => oM (x_fault_ k 0 (fun _ => 0) τ) (fun r25 => lawF n f k (i + 6) (r24.2, w, r25.2)))) else (if ((((f i.toNatClampNeg)) &&& 31)) = (4 : Int32) then (if ¬ (((i + 1)) < 0 ∨ n ≤ ((i + 1)).toNatClampNeg) then (if ¬ (((i + 2)) < 0 ∨ n ≤ ((i + 2)).toNatClampNeg) then (oR (f_X11_start k 0 (lJ lZ 1 ((((((((f ((i + 1)).toNatClampNeg)).toInt64)) <<< ((32 : Int32).toInt64 &&& 63))) ||| ((((((f ((i + 2)).toNatClampNeg)).toInt64)) &&& 4294967295))))) σ) (fun r29 => if r29.1.1 = 0 ∨ r29.1.1 = 2 then (adL r29.2.2 (if ¬ (((i + 1)) < 0 ∨ n ≤ ((i + 1)).toNatClampNeg) then (if ¬ (((i + 2)) < 0 ∨ n ≤ ((i + 2)).toNatClampNeg) then (oM (x_start k 0 (fun _ => 0) (updW (fun _ => 0) 1 ((((((((f ((i + 1)).toNatClampNeg)).toInt64)) <<< ((32 : Int32).toInt64 &&& 63))) ||| ((((((f ((i + 2)).toNatClampNeg)).toInt64)) &&& 4294967295))))) τ) (fun r32 => lawF n f k (i + 6) (r29.2.1, w, r32.2))) else none) else none)) else none)) else none) else none) else (if ((((f i.toNatClampNeg)) &&& 31)) = (5 : Int32) then (if ¬ (((i + 1)) < 0 ∨ n ≤ ((i + 1)).toNatClampNeg) then (oR (f_X11_step k 0 (lI lZ 1 ((f ((i + 1)).toNatClampNeg))) σ) (fun r35 => if r35.1.1 = 0 ∨ r35.1.1 = 2 ∨ r35.1.1 = 1 then (adL r35.2.2 (if ¬ (((i + 1)) < 0 ∨ n ≤ ((i + 1)).toNatClampNeg) then (oM (x_step k 0 (upd (fun _ => 0) 1 ((f ((i + 1)).toNatClampNeg))) τ) (fun r37 => lawF n f k (i + 6) (r35.2.1, (wo w r35.1.1 r35.1.2), r37.2))) else none)) else none)) else none) else (if ((((f i.toNatClampNeg)) &&& 31)) = (6 : Int32) then (if ¬ (((i + 1)) < 0 ∨ n ≤ ((i + 1)).toNatClampNeg) then (oR (f_X11_back k 0 (lI lZ 1 ((f ((i + 1)).toNatClampNeg))) σ) (fun r40 => if r40.1.1 = 0 ∨ r40.1.1 = 2 ∨ r40.1.1 = 1 then (adL r40.2.2 (if ¬ (((i + 1)) < 0 ∨ n ≤ ((i + 1)).toNatClampNeg) then (oM (x_back k 0 (upd (fun _ => 0) 1 ((f ((i + 1)).toNatClampNeg))) τ) (fun r42 => lawF n f k (i + 6) (r40.2.1, (wo w r40.1.1 r40.1.2), r42.2))) else none)) else none)) else none) else (if ((((f i.toNatClampNeg)) &&& 31)) = (7 : Int32) then (if ¬ (((i + 1)) < 0 ∨ n ≤ ((i + 1)).toNatClampNeg) then (oR (f_X11_state k 0 (lI lZ 1 ((f ((i + 1)).toNatClampNeg))) σ) (fun r45 => if r45.1.1 = 0 ∨ r45.1.1 = 3 ∨ r45.1.1 = 2 then (adL r45.2.2 (if ¬ (((i + 1)) < 0 ∨ n ≤ ((i + 1)).toNatClampNeg) then (oM (x_state k 0 (upd (fun _ => 0) 1 ((f ((i + 1)).toNatClampNeg))) τ) (fun r47 => lawF n f k (i + 6) (r45.2.1, (wo w r45.1.1 r45.1.2), r47.2))) else none)) else none)) else none) else (if ((((f i.toNatClampNeg)) &&& 31)) = (8 : Int32) then (if ¬ (((i + 1)) < 0 ∨ n ≤ ((i + 1)).toNatClampNeg) then (oR (f_X11_out k 0 (lI lZ 1 ((f ((i + 1)).toNatClampNeg))) σ) (fun r50 => if r50.1.1 = 0 ∨ r50.1.1 = 3 then (adL r50.2.2 (if ¬ (((i + 1)) < 0 ∨ n ≤ ((i + 1)).toNatClampNeg) then (oM (x_out k 0 (upd (fun _ => 0) 1 ((f ((i + 1)).toNatClampNeg))) τ) (fun r52 => lawF n f k (i + 6) (r50.2.1, (wo w r50.1.1 r50.1.2), r52.2))) else none)) else none)) else none) else (if ((((f i.toNatClampNeg)) &&& 31)) = (9 : Int32) then (oR (f_X11_value k 0 lZ σ) (fun r54 => if r54.1.1 = 0 ∨ r54.1.1 = 2 ∨ r54.1.1 = 1 then (adL r54.2.2 (oM (x_value k 0 (fun _ => 0) τ) (fun r55 => lawF n f k (i + 6) (r54.2.1, (wo w r54.1.1 r54.1.2), r55.2)))) else none)) else (if ((((f i.toNatClampNeg)) &&& 31)) = (10 : Int32) then (oR (f_X11_work k 0 lZ σ) (fun r57 => if r57.1.1 = 0 ∨ r57.1.1 = 2 then (adL r57.2.2 (oM (x_work k 0 (fun _ => 0) (fun _ => 0) τ) (fun r58 => lawF n f k (i + 6) (r57.2.1, (wo w r57.1.1 r57.1.2), r58.2)))) else none)) else (if ((((f i.toNatClampNeg)) &&& 31)) = (11 : Int32) then (oR (f_X11_view k 0 lZ σ) (fun r60 => if r60.1.1 = 0 ∨ r60.1.1 = 2 ∨ r60.1.1 = 4 then (adL r60.2.2 (oM (x_view k 0 (fun _ => 0) τ) (fun r61 => lawF n f k (i + 6) (r60.2.1, (wo w r60.1.1 r60.1.2), r61.2)))) else none)) else (if ((((f i.toNatClampNeg)) &&& 31)) = (12 : Int32) then (oR (f_X11_round k 0 lZ σ) (fun r63 => if r63.1.1 = 0 ∨ r63.1.1 = 2 then (adL r63.2.2 (oM (x_round k 0 (fun _ => 0) τ) (fun r64 => lawF n f k (i + 6) (r63.2.1, (wo w r63.1.1 r63.1.2), r64.2)))) else none)) else (if ((((f i.toNatClampNeg)) &&& 31)) = (13 : Int32) then (if ¬ (((i + 1)) < 0 ∨ n ≤ ((i + 1)).toNatClampNeg) then (if ¬ (((i + 2)) < 0 ∨ n ≤ ((i + 2)).toNatClampNeg) then (oR (f_X11_seen k 0 (lI (lI lZ 1 ((f ((i + 1)).toNatClampNeg))) 2 ((f ((i + 2)).toNatClampNeg))) σ) (fun r68 => if r68.1.1 = 0 ∨ r68.1.1 = 3 ∨ r68.1.1 = 2 then (adL r68.2.2 (if ¬ (((i + 1)) < 0 ∨ n ≤ ((i + 1)).toNatClampNeg) then (if ¬ (((i + 2)) < 0 ∨ n ≤ ((i + 2)).toNatClampNeg) then (oM (x_seen k 0 (upd (upd (fun _ => 0) 1 ((f ((i + 1)).toNatClampNeg))) 2 ((f ((i + 2)).toNatClampNeg))) τ) (fun r71 => lawF n f k (i + 6) (r68.2.1, (wo w r68.1.1 r68.1.2), r71.2))) else none) else none)) else none)) else none) else none) else (if ((((f i.toNatClampNeg)) &&& 31)) = (14 : Int32) then (if ¬ (((i + 1)) < 0 ∨ n ≤ ((i + 1)).toNatClampNeg) then (oR (f_X11_shown k 0 (lI lZ 1 ((f ((i + 1)).toNatClampNeg))) σ) (fun r74 => if r74.1.1 = 0 ∨ r74.1.1 = 3 then (adL r74.2.2 (if ¬ (((i + 1)) < 0 ∨ n ≤ ((i + 1)).toNatClampNeg) then (oM (x_shown k 0 (upd (fun _ => 0) 1 ((f ((i + 1)).toNatClampNeg))) τ) (fun r76 => lawF n f k (i + 6) (r74.2.1, (wo w r74.1.1 r74.1.2), r76.2))) else none)) else none)) else none) else (if ((((f i.toNatClampNeg)) &&& 31)) = (15 : Int32) then (if ¬ (((i + 1)) < 0 ∨ n ≤ ((i + 1)).toNatClampNeg) then (oR (f_X11_shape k 0 (lI lZ 1 ((f ((i + 1)).toNatClampNeg))) σ) (fun r79 => if r79.1.1 = 0 ∨ r79.1.1 = 3 then (adL r79.2.2 (if ¬ (((i + 1)) < 0 ∨ n ≤ ((i + 1)).toNatClampNeg) then (oM (x_shape k 0 (upd (fun _ => 0) 1 ((f ((i + 1)).toNatClampNeg))) τ) (fun r81 => lawF n f k (i + 6) (r79.2.1, (wo w r79.1.1 r79.1.2), r81.2))) else none)) else none)) else none) else (if ((((f i.toNatClampNeg)) &&& 31)) = (16 : Int32) then (oY (y_X11_order k 0 lZ σ) (fun r83 => oM (x_order k 0 (fun _ => 0) τ) (fun r84 => lawF n f k (i + 6) (r83.2, w, r84.2)))) else (if ((((f i.toNatClampNeg)) &&& 31)) = (17 : Int32) then (if ¬ (((i + 1)) < 0 ∨ n ≤ ((i + 1)).toNatClampNeg) then (oR (f_X11_count k 0 (lI lZ 1 ((f ((i + 1)).toNatClampNeg))) σ) (fun r87 => if r87.1.1 = 0 ∨ r87.1.1 = 3 then (adL r87.2.2 (if ¬ (((i + 1)) < 0 ∨ n ≤ ((i + 1)).toNatClampNeg) then (oM (x_count k 0 (upd (fun _ => 0) 1 ((f ((i + 1)).toNatClampNeg))) τ) (fun r89 => oM (x_thrown k 0 (fun _ => 0) r89.2) (fun r90 => if r90.1 = ((wv 3 1 1 r87.1.1)) then (if ((wv 3 1 1 r87.1.1)) = 0 then (if ((nbCmp ((((wo w r87.1.1 r87.1.2)) (0 : Int32).toNatClampNeg)) ((r89.1.toInt64)))) = 0 then (lawF n f k (i + 6) (r87.2.1, (wo w r87.1.1 r87.1.2), r90.2)) else (some (0, (0, 0)))) else (lawF n f k (i + 6) (r87.2.1, (wo w r87.1.1 r87.1.2), r90.2))) else (some (0, (0, 0)))))) else none)) else none)) else none) else (lawF n f k (i + 6) (σ, w, τ)))))))))))))))))))) else none)
theorem lawF_s (n : Nat) (f : Nat → Int32) (k : Nat) (i : Int32) (σ : CS) (w : Nat → Int64) (τ : MS) : lawF n f (k + 1) i (σ, w, τ) = (if ((((nI n)) - 6)) < i then (some (1, (0, 0))) else (if ¬ (i < 0 ∨ n ≤ i.toNatClampNeg) then (if ((((f i.toNatClampNeg)) &&& 31)) = (0 : Int32) then (if ¬ (((i + 1)) < 0 ∨ n ≤ ((i + 1)).toNatClampNeg) then (if ¬ (((i + 2)) < 0 ∨ n ≤ ((i + 2)).toNatClampNeg) then (if ¬ (((i + 3)) < 0 ∨ n ≤ ((i + 3)).toNatClampNeg) then (if ¬ (((i + 4)) < 0 ∨ n ≤ ((i + 4)).toNatClampNeg) then (if ¬ (((i + 5)) < 0 ∨ n ≤ ((i + 5)).toNatClampNeg) then (oR (f_X11_feed k 0 (lI (lI (lI (lI (lI lZ 1 ((f ((i + 1)).toNatClampNeg))) 2 ((f ((i + 2)).toNatClampNeg))) 3 ((f ((i + 3)).toNatClampNeg))) 4 ((f ((i + 4)).toNatClampNeg))) 5 ((f ((i + 5)).toNatClampNeg))) σ) (fun r8 => if r8.1.1 = 0 ∨ r8.1.1 = 4 then (adL r8.2.2 (if ¬ (((i + 1)) < 0 ∨ n ≤ ((i + 1)).toNatClampNeg) then (if ¬ (((i + 2)) < 0 ∨ n ≤ ((i + 2)).toNatClampNeg) then (if ¬ (((i + 3)) < 0 ∨ n ≤ ((i + 3)).toNatClampNeg) then (if ¬ (((i + 4)) < 0 ∨ n ≤ ((i + 4)).toNatClampNeg) then (if ¬ (((i + 5)) < 0 ∨ n ≤ ((i + 5)).toNatClampNeg) then (oM (x_feed k 0 (upd (upd (upd (upd (upd (fun _ => 0) 1 ((f ((i + 1)).toNatClampNeg))) 2 ((f ((i + 2)).toNatClampNeg))) 3 ((f ((i + 3)).toNatClampNeg))) 4 ((f ((i + 4)).toNatClampNeg))) 5 ((f ((i + 5)).toNatClampNeg))) τ) (fun r14 => lawF n f k (i + 6) (r8.2.1, (wo w r8.1.1 r8.1.2), r14.2))) else none) else none) else none) else none) else none)) else none)) else none) else none) else none) else none) else none) else (if ((((f i.toNatClampNeg)) &&& 31)) = (1 : Int32) then (if ¬ (((i + 1)) < 0 ∨ n ≤ ((i + 1)).toNatClampNeg) then (oR (f_X11_end k 0 (lI lZ 1 ((f ((i + 1)).toNatClampNeg))) σ) (fun r17 => if r17.1.1 = 0 ∨ r17.1.1 = 1 then (adL r17.2.2 (if ¬ (((i + 1)) < 0 ∨ n ≤ ((i + 1)).toNatClampNeg) then (oM (x_end k 0 (upd (fun _ => 0) 1 ((f ((i + 1)).toNatClampNeg))) τ) (fun r19 => lawF n f k (i + 6) (r17.2.1, w, r19.2))) else none)) else none)) else none) else (if ((((f i.toNatClampNeg)) &&& 31)) = (2 : Int32) then (oR (f_X11_program k 0 lZ σ) (fun r21 => if r21.1.1 = 0 then (adL r21.2.2 (oM (x_program k 0 (fun _ => 0) τ) (fun r22 => lawF n f k (i + 6) (r21.2.1, w, r22.2)))) else none)) else (if ((((f i.toNatClampNeg)) &&& 31)) = (3 : Int32) then (oY (y_X11_fault k 0 lZ σ) (fun r24 => oM (x_fault_ k 0 (fun _ => 0) τ) (fun r25 => lawF n f k (i + 6) (r24.2, w, r25.2)))) else (if ((((f i.toNatClampNeg)) &&& 31)) = (4 : Int32) then (if ¬ (((i + 1)) < 0 ∨ n ≤ ((i + 1)).toNatClampNeg) then (if ¬ (((i + 2)) < 0 ∨ n ≤ ((i + 2)).toNatClampNeg) then (oR (f_X11_start k 0 (lJ lZ 1 ((((((((f ((i + 1)).toNatClampNeg)).toInt64)) <<< ((32 : Int32).toInt64 &&& 63))) ||| ((((((f ((i + 2)).toNatClampNeg)).toInt64)) &&& 4294967295))))) σ) (fun r29 => if r29.1.1 = 0 ∨ r29.1.1 = 2 then (adL r29.2.2 (if ¬ (((i + 1)) < 0 ∨ n ≤ ((i + 1)).toNatClampNeg) then (if ¬ (((i + 2)) < 0 ∨ n ≤ ((i + 2)).toNatClampNeg) then (oM (x_start k 0 (fun _ => 0) (updW (fun _ => 0) 1 ((((((((f ((i + 1)).toNatClampNeg)).toInt64)) <<< ((32 : Int32).toInt64 &&& 63))) ||| ((((((f ((i + 2)).toNatClampNeg)).toInt64)) &&& 4294967295))))) τ) (fun r32 => lawF n f k (i + 6) (r29.2.1, w, r32.2))) else none) else none)) else none)) else none) else none) else (if ((((f i.toNatClampNeg)) &&& 31)) = (5 : Int32) then (if ¬ (((i + 1)) < 0 ∨ n ≤ ((i + 1)).toNatClampNeg) then (oR (f_X11_step k 0 (lI lZ 1 ((f ((i + 1)).toNatClampNeg))) σ) (fun r35 => if r35.1.1 = 0 ∨ r35.1.1 = 2 ∨ r35.1.1 = 1 then (adL r35.2.2 (if ¬ (((i + 1)) < 0 ∨ n ≤ ((i + 1)).toNatClampNeg) then (oM (x_step k 0 (upd (fun _ => 0) 1 ((f ((i + 1)).toNatClampNeg))) τ) (fun r37 => lawF n f k (i + 6) (r35.2.1, (wo w r35.1.1 r35.1.2), r37.2))) else none)) else none)) else none) else (if ((((f i.toNatClampNeg)) &&& 31)) = (6 : Int32) then (if ¬ (((i + 1)) < 0 ∨ n ≤ ((i + 1)).toNatClampNeg) then (oR (f_X11_back k 0 (lI lZ 1 ((f ((i + 1)).toNatClampNeg))) σ) (fun r40 => if r40.1.1 = 0 ∨ r40.1.1 = 2 ∨ r40.1.1 = 1 then (adL r40.2.2 (if ¬ (((i + 1)) < 0 ∨ n ≤ ((i + 1)).toNatClampNeg) then (oM (x_back k 0 (upd (fun _ => 0) 1 ((f ((i + 1)).toNatClampNeg))) τ) (fun r42 => lawF n f k (i + 6) (r40.2.1, (wo w r40.1.1 r40.1.2), r42.2))) else none)) else none)) else none) else (if ((((f i.toNatClampNeg)) &&& 31)) = (7 : Int32) then (if ¬ (((i + 1)) < 0 ∨ n ≤ ((i + 1)).toNatClampNeg) then (oR (f_X11_state k 0 (lI lZ 1 ((f ((i + 1)).toNatClampNeg))) σ) (fun r45 => if r45.1.1 = 0 ∨ r45.1.1 = 3 ∨ r45.1.1 = 2 then (adL r45.2.2 (if ¬ (((i + 1)) < 0 ∨ n ≤ ((i + 1)).toNatClampNeg) then (oM (x_state k 0 (upd (fun _ => 0) 1 ((f ((i + 1)).toNatClampNeg))) τ) (fun r47 => lawF n f k (i + 6) (r45.2.1, (wo w r45.1.1 r45.1.2), r47.2))) else none)) else none)) else none) else (if ((((f i.toNatClampNeg)) &&& 31)) = (8 : Int32) then (if ¬ (((i + 1)) < 0 ∨ n ≤ ((i + 1)).toNatClampNeg) then (oR (f_X11_out k 0 (lI lZ 1 ((f ((i + 1)).toNatClampNeg))) σ) (fun r50 => if r50.1.1 = 0 ∨ r50.1.1 = 3 then (adL r50.2.2 (if ¬ (((i + 1)) < 0 ∨ n ≤ ((i + 1)).toNatClampNeg) then (oM (x_out k 0 (upd (fun _ => 0) 1 ((f ((i + 1)).toNatClampNeg))) τ) (fun r52 => lawF n f k (i + 6) (r50.2.1, (wo w r50.1.1 r50.1.2), r52.2))) else none)) else none)) else none) else (if ((((f i.toNatClampNeg)) &&& 31)) = (9 : Int32) then (oR (f_X11_value k 0 lZ σ) (fun r54 => if r54.1.1 = 0 ∨ r54.1.1 = 2 ∨ r54.1.1 = 1 then (adL r54.2.2 (oM (x_value k 0 (fun _ => 0) τ) (fun r55 => lawF n f k (i + 6) (r54.2.1, (wo w r54.1.1 r54.1.2), r55.2)))) else none)) else (if ((((f i.toNatClampNeg)) &&& 31)) = (10 : Int32) then (oR (f_X11_work k 0 lZ σ) (fun r57 => if r57.1.1 = 0 ∨ r57.1.1 = 2 then (adL r57.2.2 (oM (x_work k 0 (fun _ => 0) (fun _ => 0) τ) (fun r58 => lawF n f k (i + 6) (r57.2.1, (wo w r57.1.1 r57.1.2), r58.2)))) else none)) else (if ((((f i.toNatClampNeg)) &&& 31)) = (11 : Int32) then (oR (f_X11_view k 0 lZ σ) (fun r60 => if r60.1.1 = 0 ∨ r60.1.1 = 2 ∨ r60.1.1 = 4 then (adL r60.2.2 (oM (x_view k 0 (fun _ => 0) τ) (fun r61 => lawF n f k (i + 6) (r60.2.1, (wo w r60.1.1 r60.1.2), r61.2)))) else none)) else (if ((((f i.toNatClampNeg)) &&& 31)) = (12 : Int32) then (oR (f_X11_round k 0 lZ σ) (fun r63 => if r63.1.1 = 0 ∨ r63.1.1 = 2 then (adL r63.2.2 (oM (x_round k 0 (fun _ => 0) τ) (fun r64 => lawF n f k (i + 6) (r63.2.1, (wo w r63.1.1 r63.1.2), r64.2)))) else none)) else (if ((((f i.toNatClampNeg)) &&& 31)) = (13 : Int32) then (if ¬ (((i + 1)) < 0 ∨ n ≤ ((i + 1)).toNatClampNeg) then (if ¬ (((i + 2)) < 0 ∨ n ≤ ((i + 2)).toNatClampNeg) then (oR (f_X11_seen k 0 (lI (lI lZ 1 ((f ((i + 1)).toNatClampNeg))) 2 ((f ((i + 2)).toNatClampNeg))) σ) (fun r68 => if r68.1.1 = 0 ∨ r68.1.1 = 3 ∨ r68.1.1 = 2 then (adL r68.2.2 (if ¬ (((i + 1)) < 0 ∨ n ≤ ((i + 1)).toNatClampNeg) then (if ¬ (((i + 2)) < 0 ∨ n ≤ ((i + 2)).toNatClampNeg) then (oM (x_seen k 0 (upd (upd (fun _ => 0) 1 ((f ((i + 1)).toNatClampNeg))) 2 ((f ((i + 2)).toNatClampNeg))) τ) (fun r71 => lawF n f k (i + 6) (r68.2.1, (wo w r68.1.1 r68.1.2), r71.2))) else none) else none)) else none)) else none) else none) else (if ((((f i.toNatClampNeg)) &&& 31)) = (14 : Int32) then (if ¬ (((i + 1)) < 0 ∨ n ≤ ((i + 1)).toNatClampNeg) then (oR (f_X11_shown k 0 (lI lZ 1 ((f ((i + 1)).toNatClampNeg))) σ) (fun r74 => if r74.1.1 = 0 ∨ r74.1.1 = 3 then (adL r74.2.2 (if ¬ (((i + 1)) < 0 ∨ n ≤ ((i + 1)).toNatClampNeg) then (oM (x_shown k 0 (upd (fun _ => 0) 1 ((f ((i + 1)).toNatClampNeg))) τ) (fun r76 => lawF n f k (i + 6) (r74.2.1, (wo w r74.1.1 r74.1.2), r76.2))) else none)) else none)) else none) else (if ((((f i.toNatClampNeg)) &&& 31)) = (15 : Int32) then (if ¬ (((i + 1)) < 0 ∨ n ≤ ((i + 1)).toNatClampNeg) then (oR (f_X11_shape k 0 (lI lZ 1 ((f ((i + 1)).toNatClampNeg))) σ) (fun r79 => if r79.1.1 = 0 ∨ r79.1.1 = 3 then (adL r79.2.2 (if ¬ (((i + 1)) < 0 ∨ n ≤ ((i + 1)).toNatClampNeg) then (oM (x_shape k 0 (upd (fun _ => 0) 1 ((f ((i + 1)).toNatClampNeg))) τ) (fun r81 => lawF n f k (i + 6) (r79.2.1, (wo w r79.1.1 r79.1.2), r81.2))) else none)) else none)) else none) else (if ((((f i.toNatClampNeg)) &&& 31)) = (16 : Int32) then (oY (y_X11_order k 0 lZ σ) (fun r83 => oM (x_order k 0 (fun _ => 0) τ) (fun r84 => lawF n f k (i + 6) (r83.2, w, r84.2)))) else (if ((((f i.toNatClampNeg)) &&& 31)) = (17 : Int32) then (if ¬ (((i + 1)) < 0 ∨ n ≤ ((i + 1)).toNatClampNeg) then (oR (f_X11_count k 0 (lI lZ 1 ((f ((i + 1)).toNatClampNeg))) σ) (fun r87 => if r87.1.1 = 0 ∨ r87.1.1 = 3 then (adL r87.2.2 (if ¬ (((i + 1)) < 0 ∨ n ≤ ((i + 1)).toNatClampNeg) then (oM (x_count k 0 (upd (fun _ => 0) 1 ((f ((i + 1)).toNatClampNeg))) τ) (fun r89 => oM (x_thrown k 0 (fun _ => 0) r89.2) (fun r90 => if r90.1 = ((wv 3 1 1 r87.1.1)) then (if ((wv 3 1 1 r87.1.1)) = 0 then (if ((nbCmp ((((wo w r87.1.1 r87.1.2)) (0 : Int32).toNatClampNeg)) ((r89.1.toInt64)))) = 0 then (lawF n f k (i + 6) (r87.2.1, (wo w r87.1.1 r87.1.2), r90.2)) else (some (0, (0, 0)))) else (lawF n f k (i + 6) (r87.2.1, (wo w r87.1.1 r87.1.2), r90.2))) else (some (0, (0, 0)))))) else none)) else none)) else none) else (lawF n f k (i + 6) (σ, w, τ)))))))))))))))))))) else none)) := rfl
set_option maxHeartbeats 40000000 in
set_option maxRecDepth 100000 in
theorem c_lawF {p : Program} {l : Launch} (hl0 : l.stackTraces = false) {e : Env} {R : Room} {s : State} {m : MethodId} {args : Array Value} {below : List Frame} {meth : Method} {c : Code} {mc ms nL : Nat} {dC : Nat → ClassId} {dI : Nat → Nat → Nat} {cy ek a b : Nat → Nat} {q0 s0 n : Nat} {f : Nat → Int32} {A : Nat → Prop} {Ts : List Cond} {Qr : Int32 → State → Prop} (hx : p.tables.exec = Jvm.exec) (hb : c.code = cL_law) (hml : c.maxLocals = 7) (hown : s.vm.findClass RL = some m.cls) (hts : ∀ w ∈ Ts, w.before args s = true) (hK : va_K (dC, dI) nCl (nTy cy) s) (hG : nG s) (hE : nE ek A s s.heap) (hT : nT A s s.heap) (hX : nX s) (hA : ∀ q : Nat, s.heap.size ≤ q → A q) (hXs : va_X s0 n f s s.heap) (hbl : s0 < s.heap.size) (hbA : ¬ A s0) (hRf : 1800 ≤ R.frames) (hRl : 80000 ≤ R.locals) (hRc : mc = R.cells) (hRs : ms = R.slots) (hg_M_feed : GoodIn Ts (wsV RL 77 RX12 yX12_feed w_x_feed)) (hg_L_feed : GoodIn Ts (va_wsS RL 72 yL_feed w_w_feed)) (hg_M_end : GoodIn Ts (wsV RL 81 RX12 yX12_end w_x_end)) (hg_L_end : GoodIn Ts (va_wsS RL 78 yL_end w_w_end)) (hg_M_program : GoodIn Ts (wsV RL 85 RX12 yX12_program w_x_program)) (hg_F_program : GoodIn Ts (wsV RL 82 RX11 yX11_program w_f_X11_program)) (hg_M_fault_ : GoodIn Ts (wsV RL 89 RX12 yX12_fault_ w_x_fault_)) (hg_Y_fault : GoodIn Ts (wsV RL 86 RX11 yX11_fault w_y_X11_fault)) (hk_90 : (.constantLong RL 90 (4294967295) : Cond).before args s = true) (hg_M_start : GoodIn Ts (wsV RL 95 RX12 yX12_start w_x_start)) (hg_L_start : GoodIn Ts (va_wsS RL 92 yL_start w_w_start)) (hg_M_step : GoodIn Ts (wsV RL 99 RX12 yX12_step w_x_step)) (hg_L_step : GoodIn Ts (va_wsS RL 96 yL_step w_w_step)) (hg_M_back : GoodIn Ts (wsV RL 102 RX12 yX12_back w_x_back)) (hg_L_back : GoodIn Ts (va_wsS RL 100 yL_back w_w_back)) (hg_M_state : GoodIn Ts (wsV RL 105 RX12 yX12_state w_x_state)) (hg_L_state : GoodIn Ts (va_wsS RL 103 yL_state w_w_state)) (hg_M_out : GoodIn Ts (wsV RL 108 RX12 yX12_out w_x_out)) (hg_L_out : GoodIn Ts (va_wsS RL 106 yL_out w_w_out)) (hg_M_value : GoodIn Ts (wsV RL 112 RX12 yX12_value w_x_value)) (hg_L_value : GoodIn Ts (va_wsS RL 109 yL_value w_w_value)) (hg_M_work : GoodIn Ts (wsV RL 115 RX12 yX12_work w_x_work)) (hg_L_work : GoodIn Ts (va_wsS RL 113 yL_work w_w_work)) (hg_M_view : GoodIn Ts (wsV RL 118 RX12 yX12_view w_x_view)) (hg_L_view : GoodIn Ts (va_wsS RL 116 yL_view w_w_view)) (hg_M_round : GoodIn Ts (wsV RL 121 RX12 yX12_round w_x_round)) (hg_L_round : GoodIn Ts (va_wsS RL 119 yL_round w_w_round)) (hg_M_seen : GoodIn Ts (wsV RL 125 RX12 yX12_seen w_x_seen)) (hg_L_seen : GoodIn Ts (va_wsS RL 122 yL_seen w_w_seen)) (hg_M_shown : GoodIn Ts (wsV RL 128 RX12 yX12_shown w_x_shown)) (hg_L_shown : GoodIn Ts (va_wsS RL 126 yL_shown w_w_shown)) (hg_M_shape : GoodIn Ts (wsV RL 131 RX12 yX12_shape w_x_shape)) (hg_L_shape : GoodIn Ts (va_wsS RL 129 yL_shape w_w_shape)) (hg_M_order : GoodIn Ts (wsV RL 135 RX12 yX12_order w_x_order)) (hg_Y_order : GoodIn Ts (wsV RL 132 RX11 yX11_order w_y_X11_order)) (hg_M_thrown : GoodIn Ts (wsV RL 139 RX12 yX12_thrown w_x_thrown)) (hg_M_count : GoodIn Ts (wsV RL 138 RX12 yX12_count w_x_count)) (hg_L_count : GoodIn Ts (va_wsS RL 136 yL_count w_w_count))
    (hret660 : ∀ (z : Nat → Nat) (cells slots : Nat) (σ : CS) (w : Nat → Int64) (τ : MS) (H : Heap) (locs : List Loc) (ls : Array Slot), cells + 0 = mc → slots + 0 = ms → va_P (dC, dI) nCl (vB cy a z σ q0 w b τ) H → va_D A (vB cy a z σ q0 w b τ) → va_S A s.heap H locs → W p l e R s m args below meth c H locs cells slots (Qr 1) (F0 m 660 ls [.int 1])) (hret632 : ∀ (z : Nat → Nat) (cells slots : Nat) (σ : CS) (w : Nat → Int64) (τ : MS) (H : Heap) (locs : List Loc) (ls : Array Slot), cells + 0 = mc → slots + 0 = ms → va_P (dC, dI) nCl (vB cy a z σ q0 w b τ) H → va_D A (vB cy a z σ q0 w b τ) → va_S A s.heap H locs → W p l e R s m args below meth c H locs cells slots (Qr 0) (F0 m 632 ls [.int 0])) (hret649 : ∀ (z : Nat → Nat) (cells slots : Nat) (σ : CS) (w : Nat → Int64) (τ : MS) (H : Heap) (locs : List Loc) (ls : Array Slot), cells + 0 = mc → slots + 0 = ms → va_P (dC, dI) nCl (vB cy a z σ q0 w b τ) H → va_D A (vB cy a z σ q0 w b τ) → va_S A s.heap H locs → W p l e R s m args below meth c H locs cells slots (Qr 0) (F0 m 649 ls [.int 0])) : ∀ (k : Nat) (i : Int32) (z : Nat → Nat) (cells slots : Nat) (σ : CS) (w : Nat → Int64) (τ : MS) (r : Int32 × (Nat × Nat)), lawF n f k i (σ, w, τ) = some r → cells + r.2.1 = mc → slots + r.2.2 = ms → ∀ (H : Heap) (locs : List Loc) (ls : Array Slot), va_P (dC, dI) nCl (vB cy a z σ q0 w b τ) H → va_D A (vB cy a z σ q0 w b τ) → va_S A s.heap H locs → lv_has ls 7 [(0, .ref s0), (1, .ref (a 75)), (2, .ref (b 0)), (3, .ref q0), (4, .int i)] → W p l e R s m args below meth c H locs cells slots (Qr r.1) (F0 m 23 ls []) := by
  subst hRc
  subst hRs
  intro k
  induction k with
  | zero => intro i z cells slots σ w τ r h; cases h
  | succ k ih =>
    intro i z cells slots σ w τ r h hc hs H locs ls hP hD hS hl
    rw [lawF_s] at h
    refine lv_iload hx hb dL_law_23 (lv_at hl 4 rfl) ?_
    refine lv_aload_n hx hb dL_law_25 rfl (lv_at hl 0 rfl) ?_
    refine kl_sn hx hb hXs hbl hbA hS dL_law_26 ?_
    refine lv_bipush (v := 6) hx hb dL_law_27 (by decide) ?_
    refine lv_isub hx hb dL_law_29 ?_
    refine lv_icmp_gt (tgt := 659) hx hb dL_law_30 (by decide) (fun c1 => ?_) (fun c1 => ?_)
    · rw [if_pos c1] at h
      refine lv_iconst (v := 1) hx hb dL_law_659 (by decide) ?_
      obtain rfl := Option.some.inj h
      exact hret660 z _ _ σ w τ H locs ls hc hs hP hD hS
    · rw [if_neg c1] at h
      refine lv_aload_n hx hb dL_law_33 rfl (lv_at hl 0 rfl) ?_
      refine lv_iload hx hb dL_law_34 (lv_at hl 4 rfl) ?_
      obtain ⟨q2, h⟩ := kL_ite1 h
      refine kl_sc hx hb hXs hbl hbA hS q2 dL_law_36 ?_
      refine lv_bipush (v := 31) hx hb dL_law_37 (by decide) ?_
      refine lv_iand hx hb dL_law_39 ?_
      by_cases q15 : ((((f i.toNatClampNeg)) &&& 31)) = (0 : Int32)
      · rw [if_pos q15] at h
        refine lv_tableIn (off := 88) (tgt := 128) hx hb dL_law_40 (by rw [q15]; decide) (by rw [q15]; decide) (by rw [q15]; decide) (by decide) ?_
        refine lv_aload_n hx hb dL_law_128 rfl (lv_at hl 1 rfl) ?_
        refine lv_aload_n hx hb dL_law_129 rfl (lv_at hl 0 rfl) ?_
        refine lv_iload hx hb dL_law_130 (lv_at hl 4 rfl) ?_
        refine lv_iconst (v := 1) hx hb dL_law_132 (by decide) ?_
        refine lv_iadd hx hb dL_law_133 ?_
        obtain ⟨q3, h⟩ := kL_ite1 h
        refine kl_sc hx hb hXs hbl hbA hS q3 dL_law_134 ?_
        refine lv_aload_n hx hb dL_law_135 rfl (lv_at hl 0 rfl) ?_
        refine lv_iload hx hb dL_law_136 (lv_at hl 4 rfl) ?_
        refine lv_iconst (v := 2) hx hb dL_law_138 (by decide) ?_
        refine lv_iadd hx hb dL_law_139 ?_
        obtain ⟨q4, h⟩ := kL_ite1 h
        refine kl_sc hx hb hXs hbl hbA hS q4 dL_law_140 ?_
        refine lv_aload_n hx hb dL_law_141 rfl (lv_at hl 0 rfl) ?_
        refine lv_iload hx hb dL_law_142 (lv_at hl 4 rfl) ?_
        refine lv_iconst (v := 3) hx hb dL_law_144 (by decide) ?_
        refine lv_iadd hx hb dL_law_145 ?_
        obtain ⟨q5, h⟩ := kL_ite1 h
        refine kl_sc hx hb hXs hbl hbA hS q5 dL_law_146 ?_
        refine lv_aload_n hx hb dL_law_147 rfl (lv_at hl 0 rfl) ?_
        refine lv_iload hx hb dL_law_148 (lv_at hl 4 rfl) ?_
        refine lv_iconst (v := 4) hx hb dL_law_150 (by decide) ?_
        refine lv_iadd hx hb dL_law_151 ?_
        obtain ⟨q6, h⟩ := kL_ite1 h
        refine kl_sc hx hb hXs hbl hbA hS q6 dL_law_152 ?_
        refine lv_aload_n hx hb dL_law_153 rfl (lv_at hl 0 rfl) ?_
        refine lv_iload hx hb dL_law_154 (lv_at hl 4 rfl) ?_
        refine lv_iconst (v := 5) hx hb dL_law_156 (by decide) ?_
        refine lv_iadd hx hb dL_law_157 ?_
        obtain ⟨q7, h⟩ := kL_ite1 h
        refine kl_sc hx hb hXs hbl hbA hS q7 dL_law_158 ?_
        refine lv_aload_n hx hb dL_law_159 rfl (lv_at hl 3 rfl) ?_
        obtain ⟨r8, hr8, h⟩ := oR_ex h
        obtain ⟨q8, h⟩ := kL_ite1 h
        obtain ⟨y8, hny8, hy⟩ := adL_ex h
        subst hy
        have h := hny8
        refine kl_W (vx_runSW (As := [.ref (a 75), .int (f ((i + 1)).toNatClampNeg), .int (f ((i + 2)).toNatClampNeg), .int (f ((i + 3)).toNatClampNeg), .int (f ((i + 4)).toNatClampNeg), .int (f ((i + 5)).toNatClampNeg), .ref q0]) (rest := []) ⟨hx, hb, hml, hown, hts⟩ (c_w_feed l hl0 dC dI cy ek a k ((f ((i + 1)).toNatClampNeg)) ((f ((i + 2)).toNatClampNeg)) ((f ((i + 3)).toNatClampNeg)) ((f ((i + 4)).toNatClampNeg)) ((f ((i + 5)).toNatClampNeg)) σ q0 w r8 hr8 q8 z H.size) (vx_cwSW 7 hts hg_L_feed rfl rfl rfl (by decide +kernel) ⟨Nat.le_trans (by decide : 7 + 1 ≤ 1800) hRf, Nat.le_trans (by decide : 8 + (8 + 11) + 182 ≤ 80000) hRl⟩) ⟨nb_blindX, kl_preW hK hG hE hT hX hA hP hD hS⟩ rfl rfl hl.1 rfl (lv_room (Nat.le_of_ble_eq_true rfl)) dL_law_160 ⟨Nat.le_trans (Nat.add_le_add_left (Nat.le_add_right _ _) _) (Nat.le_of_eq hc), Nat.le_trans (Nat.add_le_add_left (Nat.le_add_right _ _) _) (Nat.le_of_eq hs)⟩) hA hP hD hS (fun z H locs _ hP hD hS => ?_)
        replace hc := (Nat.add_assoc _ _ _).trans hc
        replace hs := (Nat.add_assoc _ _ _).trans hs
        refine lv_istore (lv' := [(5, .int (wv 4 1 1 r8.1.1)), (0, .ref s0), (1, .ref (a 75)), (2, .ref (b 0)), (3, .ref q0), (4, .int i)]) hx hb dL_law_163 hl (by decide) rfl (fun ls hl => ?_)
        refine lv_aload_n hx hb dL_law_165 rfl (lv_at hl 3 rfl) ?_
        refine lv_aload_n hx hb dL_law_166 rfl (lv_at hl 1 rfl) ?_
        refine lv_iload hx hb dL_law_167 (lv_at hl 5 rfl) ?_
        refine lv_iconst (v := 1) hx hb dL_law_169 (by decide) ?_
        refine lv_iadd hx hb dL_law_170 ?_
        obtain ⟨q9, h⟩ := kL_ite1 h
        refine kl_sc hx hb hXs hbl hbA hS q9 dL_law_171 ?_
        refine lv_aload_n hx hb dL_law_172 rfl (lv_at hl 1 rfl) ?_
        refine lv_iload hx hb dL_law_173 (lv_at hl 5 rfl) ?_
        refine lv_iconst (v := 2) hx hb dL_law_175 (by decide) ?_
        refine lv_iadd hx hb dL_law_176 ?_
        obtain ⟨q10, h⟩ := kL_ite1 h
        refine kl_sc hx hb hXs hbl hbA hS q10 dL_law_177 ?_
        refine lv_aload_n hx hb dL_law_178 rfl (lv_at hl 1 rfl) ?_
        refine lv_iload hx hb dL_law_179 (lv_at hl 5 rfl) ?_
        refine lv_iconst (v := 3) hx hb dL_law_181 (by decide) ?_
        refine lv_iadd hx hb dL_law_182 ?_
        obtain ⟨q11, h⟩ := kL_ite1 h
        refine kl_sc hx hb hXs hbl hbA hS q11 dL_law_183 ?_
        refine lv_aload_n hx hb dL_law_184 rfl (lv_at hl 1 rfl) ?_
        refine lv_iload hx hb dL_law_185 (lv_at hl 5 rfl) ?_
        refine lv_iconst (v := 4) hx hb dL_law_187 (by decide) ?_
        refine lv_iadd hx hb dL_law_188 ?_
        obtain ⟨q12, h⟩ := kL_ite1 h
        refine kl_sc hx hb hXs hbl hbA hS q12 dL_law_189 ?_
        refine lv_aload_n hx hb dL_law_190 rfl (lv_at hl 1 rfl) ?_
        refine lv_iload hx hb dL_law_191 (lv_at hl 5 rfl) ?_
        refine lv_iconst (v := 5) hx hb dL_law_193 (by decide) ?_
        refine lv_iadd hx hb dL_law_194 ?_
        obtain ⟨q13, h⟩ := kL_ite1 h
        refine kl_sc hx hb hXs hbl hbA hS q13 dL_law_195 ?_
        obtain ⟨r14, hr14, h⟩ := oM_ex h
        refine kl_Mi (va_runV (As := [.int (f ((i + 1)).toNatClampNeg), .int (f ((i + 2)).toNatClampNeg), .int (f ((i + 3)).toNatClampNeg), .int (f ((i + 4)).toNatClampNeg), .int (f ((i + 5)).toNatClampNeg)]) (rest := []) ⟨hx, hb, hml, hown, hts⟩ (c_x_feed l dC dI cy b k (upd (upd (upd (upd (upd (fun _ => 0) 1 ((f ((i + 1)).toNatClampNeg))) 2 ((f ((i + 2)).toNatClampNeg))) 3 ((f ((i + 3)).toNatClampNeg))) 4 ((f ((i + 4)).toNatClampNeg))) 5 ((f ((i + 5)).toNatClampNeg))) τ r14 hr14 H.size) (cwV 5 hts hg_M_feed rfl rfl rfl hd_x_feed ⟨Nat.le_trans (by decide : 1 + 1 ≤ 1800) hRf, Nat.le_trans (by decide : 8 + (8 + 11) + 21 ≤ 80000) hRl⟩) ⟨nb_blind, kl_rcM hK hP, kl_preM (ek := ek) hK hG hA hP hD hS⟩ rfl rfl hl.1 rfl (lv_room (Nat.le_of_ble_eq_true rfl)) dL_law_196 ⟨Nat.le_trans (Nat.le_add_right _ _) (Nat.le_of_eq hc), Nat.le_trans (Nat.le_add_right _ _) (Nat.le_of_eq hs)⟩) hA hP hD hS (fun H locs hP hD hS => ?_)
        refine lv_istore (lv' := [(6, .int r14.1), (5, .int (wv 4 1 1 r8.1.1)), (0, .ref s0), (1, .ref (a 75)), (2, .ref (b 0)), (3, .ref q0), (4, .int i)]) hx hb dL_law_199 hl (by decide) rfl (fun ls hl => ?_)
        refine lv_goto (tgt := 653) hx hb dL_law_201 (by decide) ?_
        refine lv_iinc (v := i + 6) (lv' := [(4, .int (i + 6)), (6, .int r14.1), (5, .int (wv 4 1 1 r8.1.1)), (0, .ref s0), (1, .ref (a 75)), (2, .ref (b 0)), (3, .ref q0)]) hx hb dL_law_653 hl (k := 6) rfl rfl (by decide) rfl (fun ls hl => ?_)
        refine lv_goto (tgt := 23) hx hb dL_law_656 (by decide) ?_
        exact ih (i + 6) z _ _ r8.2.1 (wo w r8.1.1 r8.1.2) r14.2 _ h hc hs H locs ls hP hD hS (lv_sub hl [3, 4, 5, 6, 0] rfl)
      · rw [if_neg q15] at h
        by_cases q20 : ((((f i.toNatClampNeg)) &&& 31)) = (1 : Int32)
        · rw [if_pos q20] at h
          refine lv_tableIn (off := 164) (tgt := 204) hx hb dL_law_40 (by rw [q20]; decide) (by rw [q20]; decide) (by rw [q20]; decide) (by decide) ?_
          refine lv_aload_n hx hb dL_law_204 rfl (lv_at hl 1 rfl) ?_
          refine lv_aload_n hx hb dL_law_205 rfl (lv_at hl 0 rfl) ?_
          refine lv_iload hx hb dL_law_206 (lv_at hl 4 rfl) ?_
          refine lv_iconst (v := 1) hx hb dL_law_208 (by decide) ?_
          refine lv_iadd hx hb dL_law_209 ?_
          obtain ⟨q16, h⟩ := kL_ite1 h
          refine kl_sc hx hb hXs hbl hbA hS q16 dL_law_210 ?_
          obtain ⟨r17, hr17, h⟩ := oR_ex h
          obtain ⟨q17, h⟩ := kL_ite1 h
          obtain ⟨y17, hny17, hy⟩ := adL_ex h
          subst hy
          have h := hny17
          refine kl_C (vx_runSW (As := [.ref (a 75), .int (f ((i + 1)).toNatClampNeg)]) (rest := []) ⟨hx, hb, hml, hown, hts⟩ (c_w_end l hl0 dC dI cy ek a k ((f ((i + 1)).toNatClampNeg)) σ r17 hr17 q17 z H.size) (vx_cwSW 2 hts hg_L_end rfl rfl rfl (by decide +kernel) ⟨Nat.le_trans (by decide : 7 + 1 ≤ 1800) hRf, Nat.le_trans (by decide : 8 + (3 + 11) + 121 ≤ 80000) hRl⟩) ⟨nb_blindX, kl_preC hK hG hE hT hX hA hP hD hS⟩ rfl rfl hl.1 rfl (lv_room (Nat.le_of_ble_eq_true rfl)) dL_law_211 ⟨Nat.le_trans (Nat.add_le_add_left (Nat.le_add_right _ _) _) (Nat.le_of_eq hc), Nat.le_trans (Nat.add_le_add_left (Nat.le_add_right _ _) _) (Nat.le_of_eq hs)⟩) hA hP hD hS (fun z H locs _ hP hD hS => ?_)
          replace hc := (Nat.add_assoc _ _ _).trans hc
          replace hs := (Nat.add_assoc _ _ _).trans hs
          refine lv_istore (lv' := [(5, .int (wv 1 1 1 r17.1.1)), (0, .ref s0), (1, .ref (a 75)), (2, .ref (b 0)), (3, .ref q0), (4, .int i)]) hx hb dL_law_214 hl (by decide) rfl (fun ls hl => ?_)
          refine lv_aload_n hx hb dL_law_216 rfl (lv_at hl 3 rfl) ?_
          refine lv_aload_n hx hb dL_law_217 rfl (lv_at hl 1 rfl) ?_
          refine lv_iload hx hb dL_law_218 (lv_at hl 5 rfl) ?_
          refine lv_iconst (v := 1) hx hb dL_law_220 (by decide) ?_
          refine lv_iadd hx hb dL_law_221 ?_
          obtain ⟨q18, h⟩ := kL_ite1 h
          refine kl_sc hx hb hXs hbl hbA hS q18 dL_law_222 ?_
          obtain ⟨r19, hr19, h⟩ := oM_ex h
          refine kl_Mv (va_runV (As := [.int (f ((i + 1)).toNatClampNeg)]) (rest := []) ⟨hx, hb, hml, hown, hts⟩ (c_x_end l dC dI cy b k (upd (fun _ => 0) 1 ((f ((i + 1)).toNatClampNeg))) τ r19 hr19 H.size) (cwV 1 hts hg_M_end rfl rfl rfl hd_x_end ⟨Nat.le_trans (by decide : 1 + 1 ≤ 1800) hRf, Nat.le_trans (by decide : 8 + (2 + 11) + 21 ≤ 80000) hRl⟩) ⟨nb_blind, kl_rcM hK hP, kl_preM (ek := ek) hK hG hA hP hD hS⟩ rfl rfl hl.1 rfl (lv_room (Nat.le_of_ble_eq_true rfl)) dL_law_223 ⟨Nat.le_trans (Nat.le_add_right _ _) (Nat.le_of_eq hc), Nat.le_trans (Nat.le_add_right _ _) (Nat.le_of_eq hs)⟩) hA hP hD hS (fun H locs hP hD hS => ?_)
          refine lv_goto (tgt := 653) hx hb dL_law_226 (by decide) ?_
          refine lv_iinc (v := i + 6) (lv' := [(4, .int (i + 6)), (5, .int (wv 1 1 1 r17.1.1)), (0, .ref s0), (1, .ref (a 75)), (2, .ref (b 0)), (3, .ref q0)]) hx hb dL_law_653 hl (k := 5) rfl rfl (by decide) rfl (fun ls hl => ?_)
          refine lv_goto (tgt := 23) hx hb dL_law_656 (by decide) ?_
          exact ih (i + 6) z _ _ r17.2.1 w r19.2 _ h hc hs H locs ls hP hD hS (lv_sub hl [2, 3, 4, 5, 0] rfl)
        · rw [if_neg q20] at h
          by_cases q23 : ((((f i.toNatClampNeg)) &&& 31)) = (2 : Int32)
          · rw [if_pos q23] at h
            refine lv_tableIn (off := 189) (tgt := 229) hx hb dL_law_40 (by rw [q23]; decide) (by rw [q23]; decide) (by rw [q23]; decide) (by decide) ?_
            refine lv_aload_n hx hb dL_law_229 rfl (lv_at hl 1 rfl) ?_
            obtain ⟨r21, hr21, h⟩ := oR_ex h
            obtain ⟨q21, h⟩ := kL_ite1 h
            obtain ⟨y21, hny21, hy⟩ := adL_ex h
            subst hy
            have h := hny21
            refine kl_P q21 (vx_runV (As := []) (rest := []) ⟨hx, hb, hml, hown, hts⟩ (c_f_X11_program l hl0 dC dI cy ek a k lZ σ r21 hr21 z H.size) (cwV 0 hts hg_F_program rfl rfl rfl hd_f_X11_program ⟨Nat.le_trans (by decide : 535 + 1 ≤ 1800) hRf, Nat.le_trans (by decide : 8 + (3 + 11) + 16881 ≤ 80000) hRl⟩) ⟨nb_blindF, kl_rcC hK hP, kl_preF hK hG hE hT hA hP hD hS⟩ rfl rfl hl.1 rfl (lv_room (Nat.le_of_ble_eq_true rfl)) dL_law_230 ⟨Nat.le_trans (Nat.add_le_add_left (Nat.le_add_right _ _) _) (Nat.le_of_eq hc), Nat.le_trans (Nat.add_le_add_left (Nat.le_add_right _ _) _) (Nat.le_of_eq hs)⟩) hA hP hD hS (fun z H locs _ hP hD hS => ?_)
            replace hc := (Nat.add_assoc _ _ _).trans hc
            replace hs := (Nat.add_assoc _ _ _).trans hs
            refine lv_pop hx hb dL_law_233 rfl ?_
            refine lv_aload_n hx hb dL_law_234 rfl (lv_at hl 2 rfl) ?_
            obtain ⟨r22, hr22, h⟩ := oM_ex h
            refine kl_Mi (va_runV (As := []) (rest := []) ⟨hx, hb, hml, hown, hts⟩ (c_x_program l dC dI cy b k (fun _ => 0) τ r22 hr22 H.size) (cwV 0 hts hg_M_program rfl rfl rfl hd_x_program ⟨Nat.le_trans (by decide : 432 + 1 ≤ 1800) hRf, Nat.le_trans (by decide : 8 + (4 + 11) + 12793 ≤ 80000) hRl⟩) ⟨nb_blind, kl_rcM hK hP, kl_preM (ek := ek) hK hG hA hP hD hS⟩ rfl rfl hl.1 rfl (lv_room (Nat.le_of_ble_eq_true rfl)) dL_law_235 ⟨Nat.le_trans (Nat.le_add_right _ _) (Nat.le_of_eq hc), Nat.le_trans (Nat.le_add_right _ _) (Nat.le_of_eq hs)⟩) hA hP hD hS (fun H locs hP hD hS => ?_)
            refine lv_pop hx hb dL_law_238 rfl ?_
            refine lv_goto (tgt := 653) hx hb dL_law_239 (by decide) ?_
            refine lv_iinc (v := i + 6) (lv' := [(4, .int (i + 6)), (0, .ref s0), (1, .ref (a 75)), (2, .ref (b 0)), (3, .ref q0)]) hx hb dL_law_653 hl (k := 4) rfl rfl (by decide) rfl (fun ls hl => ?_)
            refine lv_goto (tgt := 23) hx hb dL_law_656 (by decide) ?_
            exact ih (i + 6) z _ _ r21.2.1 w r22.2 _ h hc hs H locs ls hP hD hS (lv_sub hl [1, 2, 3, 4, 0] rfl)
          · rw [if_neg q23] at h
            by_cases q26 : ((((f i.toNatClampNeg)) &&& 31)) = (3 : Int32)
            · rw [if_pos q26] at h
              refine lv_tableIn (off := 202) (tgt := 242) hx hb dL_law_40 (by rw [q26]; decide) (by rw [q26]; decide) (by rw [q26]; decide) (by decide) ?_
              refine lv_aload_n hx hb dL_law_242 rfl (lv_at hl 1 rfl) ?_
              obtain ⟨r24, hr24, h⟩ := oY_ex h
              refine kl_Y (va_runV (As := []) (rest := []) ⟨hx, hb, hml, hown, hts⟩ (c_y_X11_fault l dC dI cy a z k lZ σ r24 hr24 H.size) (cwV 0 hts hg_Y_fault rfl rfl rfl hd_y_X11_fault ⟨Nat.le_trans (by decide : 0 + 1 ≤ 1800) hRf, Nat.le_trans (by decide : 8 + (1 + 11) + 0 ≤ 80000) hRl⟩) ⟨nb_blind, kl_rcC hK hP, kl_preY (ek := ek) hK hG hA hP hD hS⟩ rfl rfl hl.1 rfl (lv_room (Nat.le_of_ble_eq_true rfl)) dL_law_243 ⟨Nat.le_trans (Nat.le_add_right _ _) (Nat.le_of_eq hc), Nat.le_trans (Nat.le_add_right _ _) (Nat.le_of_eq hs)⟩) hA hP hD hS (fun H locs hP hD hS => ?_)
              refine lv_pop hx hb dL_law_246 rfl ?_
              refine lv_aload_n hx hb dL_law_247 rfl (lv_at hl 2 rfl) ?_
              obtain ⟨r25, hr25, h⟩ := oM_ex h
              refine kl_Mi (va_runV (As := []) (rest := []) ⟨hx, hb, hml, hown, hts⟩ (c_x_fault_ l dC dI cy b k (fun _ => 0) τ r25 hr25 H.size) (cwV 0 hts hg_M_fault_ rfl rfl rfl hd_x_fault_ ⟨Nat.le_trans (by decide : 0 + 1 ≤ 1800) hRf, Nat.le_trans (by decide : 8 + (1 + 11) + 0 ≤ 80000) hRl⟩) ⟨nb_blind, kl_rcM hK hP, kl_preM (ek := ek) hK hG hA hP hD hS⟩ rfl rfl hl.1 rfl (lv_room (Nat.le_of_ble_eq_true rfl)) dL_law_248 ⟨Nat.le_trans (Nat.le_add_right _ _) (Nat.le_of_eq hc), Nat.le_trans (Nat.le_add_right _ _) (Nat.le_of_eq hs)⟩) hA hP hD hS (fun H locs hP hD hS => ?_)
              refine lv_pop hx hb dL_law_251 rfl ?_
              refine lv_goto (tgt := 653) hx hb dL_law_252 (by decide) ?_
              refine lv_iinc (v := i + 6) (lv' := [(4, .int (i + 6)), (0, .ref s0), (1, .ref (a 75)), (2, .ref (b 0)), (3, .ref q0)]) hx hb dL_law_653 hl (k := 4) rfl rfl (by decide) rfl (fun ls hl => ?_)
              refine lv_goto (tgt := 23) hx hb dL_law_656 (by decide) ?_
              exact ih (i + 6) z _ _ r24.2 w r25.2 _ h hc hs H locs ls hP hD hS (lv_sub hl [1, 2, 3, 4, 0] rfl)
            · rw [if_neg q26] at h
              by_cases q33 : ((((f i.toNatClampNeg)) &&& 31)) = (4 : Int32)
              · rw [if_pos q33] at h
                refine lv_tableIn (off := 215) (tgt := 255) hx hb dL_law_40 (by rw [q33]; decide) (by rw [q33]; decide) (by rw [q33]; decide) (by decide) ?_
                refine lv_aload_n hx hb dL_law_255 rfl (lv_at hl 1 rfl) ?_
                refine lv_aload_n hx hb dL_law_256 rfl (lv_at hl 0 rfl) ?_
                refine lv_iload hx hb dL_law_257 (lv_at hl 4 rfl) ?_
                refine lv_iconst (v := 1) hx hb dL_law_259 (by decide) ?_
                refine lv_iadd hx hb dL_law_260 ?_
                obtain ⟨q27, h⟩ := kL_ite1 h
                refine kl_sc hx hb hXs hbl hbA hS q27 dL_law_261 ?_
                refine lv_i2l (v := ((f ((i + 1)).toNatClampNeg)).toInt64) hx hb dL_law_262 rfl ?_
                refine lv_bipush (v := 32) hx hb dL_law_263 (by decide) ?_
                refine lv_lshl (v := ((((f ((i + 1)).toNatClampNeg)).toInt64)) <<< ((32 : Int32).toInt64 &&& 63)) hx hb dL_law_265 rfl ?_
                refine lv_aload_n hx hb dL_law_266 rfl (lv_at hl 0 rfl) ?_
                refine lv_iload hx hb dL_law_267 (lv_at hl 4 rfl) ?_
                refine lv_iconst (v := 2) hx hb dL_law_269 (by decide) ?_
                refine lv_iadd hx hb dL_law_270 ?_
                obtain ⟨q28, h⟩ := kL_ite1 h
                refine kl_sc hx hb hXs hbl hbA hS q28 dL_law_271 ?_
                refine lv_i2l (v := ((f ((i + 2)).toNatClampNeg)).toInt64) hx hb dL_law_272 rfl ?_
                refine lv_ldc2 (v := 4294967295) hx hb hown (hk_90) dL_law_273 ?_
                refine lv_land hx hb dL_law_276 ?_
                refine lv_lor hx hb dL_law_277 ?_
                obtain ⟨r29, hr29, h⟩ := oR_ex h
                obtain ⟨q29, h⟩ := kL_ite1 h
                obtain ⟨y29, hny29, hy⟩ := adL_ex h
                subst hy
                have h := hny29
                refine kl_C (vx_runSW (As := [.ref (a 75), .long (((((((f ((i + 1)).toNatClampNeg)).toInt64)) <<< ((32 : Int32).toInt64 &&& 63))) ||| ((((((f ((i + 2)).toNatClampNeg)).toInt64)) &&& 4294967295)))]) (rest := []) ⟨hx, hb, hml, hown, hts⟩ (c_w_start l hl0 dC dI cy ek a k ((((((((f ((i + 1)).toNatClampNeg)).toInt64)) <<< ((32 : Int32).toInt64 &&& 63))) ||| ((((((f ((i + 2)).toNatClampNeg)).toInt64)) &&& 4294967295)))) σ r29 hr29 q29 z H.size) (vx_cwSW 2 hts hg_L_start rfl rfl rfl (by decide +kernel) ⟨Nat.le_trans (by decide : 91 + 1 ≤ 1800) hRf, Nat.le_trans (by decide : 8 + (4 + 11) + 2244 ≤ 80000) hRl⟩) ⟨nb_blindX, kl_preC hK hG hE hT hX hA hP hD hS⟩ rfl rfl hl.1 rfl (lv_room (Nat.le_of_ble_eq_true rfl)) dL_law_278 ⟨Nat.le_trans (Nat.add_le_add_left (Nat.le_add_right _ _) _) (Nat.le_of_eq hc), Nat.le_trans (Nat.add_le_add_left (Nat.le_add_right _ _) _) (Nat.le_of_eq hs)⟩) hA hP hD hS (fun z H locs _ hP hD hS => ?_)
                replace hc := (Nat.add_assoc _ _ _).trans hc
                replace hs := (Nat.add_assoc _ _ _).trans hs
                refine lv_istore (lv' := [(5, .int (wv 2 1 1 r29.1.1)), (0, .ref s0), (1, .ref (a 75)), (2, .ref (b 0)), (3, .ref q0), (4, .int i)]) hx hb dL_law_281 hl (by decide) rfl (fun ls hl => ?_)
                refine lv_aload_n hx hb dL_law_283 rfl (lv_at hl 3 rfl) ?_
                refine lv_aload_n hx hb dL_law_284 rfl (lv_at hl 1 rfl) ?_
                refine lv_iload hx hb dL_law_285 (lv_at hl 5 rfl) ?_
                refine lv_iconst (v := 1) hx hb dL_law_287 (by decide) ?_
                refine lv_iadd hx hb dL_law_288 ?_
                obtain ⟨q30, h⟩ := kL_ite1 h
                refine kl_sc hx hb hXs hbl hbA hS q30 dL_law_289 ?_
                refine lv_i2l (v := ((f ((i + 1)).toNatClampNeg)).toInt64) hx hb dL_law_290 rfl ?_
                refine lv_bipush (v := 32) hx hb dL_law_291 (by decide) ?_
                refine lv_lshl (v := ((((f ((i + 1)).toNatClampNeg)).toInt64)) <<< ((32 : Int32).toInt64 &&& 63)) hx hb dL_law_293 rfl ?_
                refine lv_aload_n hx hb dL_law_294 rfl (lv_at hl 1 rfl) ?_
                refine lv_iload hx hb dL_law_295 (lv_at hl 5 rfl) ?_
                refine lv_iconst (v := 2) hx hb dL_law_297 (by decide) ?_
                refine lv_iadd hx hb dL_law_298 ?_
                obtain ⟨q31, h⟩ := kL_ite1 h
                refine kl_sc hx hb hXs hbl hbA hS q31 dL_law_299 ?_
                refine lv_i2l (v := ((f ((i + 2)).toNatClampNeg)).toInt64) hx hb dL_law_300 rfl ?_
                refine lv_ldc2 (v := 4294967295) hx hb hown (hk_90) dL_law_301 ?_
                refine lv_land hx hb dL_law_304 ?_
                refine lv_lor hx hb dL_law_305 ?_
                obtain ⟨r32, hr32, h⟩ := oM_ex h
                refine kl_Mv (va_runV (As := [.long (((((((f ((i + 1)).toNatClampNeg)).toInt64)) <<< ((32 : Int32).toInt64 &&& 63))) ||| ((((((f ((i + 2)).toNatClampNeg)).toInt64)) &&& 4294967295)))]) (rest := []) ⟨hx, hb, hml, hown, hts⟩ (c_x_start l dC dI cy b k (fun _ => 0) (updW (fun _ => 0) 1 ((((((((f ((i + 1)).toNatClampNeg)).toInt64)) <<< ((32 : Int32).toInt64 &&& 63))) ||| ((((((f ((i + 2)).toNatClampNeg)).toInt64)) &&& 4294967295))))) τ r32 hr32 H.size) (cwV 1 hts hg_M_start rfl rfl rfl hd_x_start ⟨Nat.le_trans (by decide : 1365 + 1 ≤ 1800) hRf, Nat.le_trans (by decide : 8 + (3 + 11) + 36658 ≤ 80000) hRl⟩) ⟨nb_blind, kl_rcM hK hP, kl_preM (ek := ek) hK hG hA hP hD hS⟩ rfl rfl hl.1 rfl (lv_room (Nat.le_of_ble_eq_true rfl)) dL_law_306 ⟨Nat.le_trans (Nat.le_add_right _ _) (Nat.le_of_eq hc), Nat.le_trans (Nat.le_add_right _ _) (Nat.le_of_eq hs)⟩) hA hP hD hS (fun H locs hP hD hS => ?_)
                refine lv_goto (tgt := 653) hx hb dL_law_309 (by decide) ?_
                refine lv_iinc (v := i + 6) (lv' := [(4, .int (i + 6)), (5, .int (wv 2 1 1 r29.1.1)), (0, .ref s0), (1, .ref (a 75)), (2, .ref (b 0)), (3, .ref q0)]) hx hb dL_law_653 hl (k := 5) rfl rfl (by decide) rfl (fun ls hl => ?_)
                refine lv_goto (tgt := 23) hx hb dL_law_656 (by decide) ?_
                exact ih (i + 6) z _ _ r29.2.1 w r32.2 _ h hc hs H locs ls hP hD hS (lv_sub hl [2, 3, 4, 5, 0] rfl)
              · rw [if_neg q33] at h
                by_cases q38 : ((((f i.toNatClampNeg)) &&& 31)) = (5 : Int32)
                · rw [if_pos q38] at h
                  refine lv_tableIn (off := 272) (tgt := 312) hx hb dL_law_40 (by rw [q38]; decide) (by rw [q38]; decide) (by rw [q38]; decide) (by decide) ?_
                  refine lv_aload_n hx hb dL_law_312 rfl (lv_at hl 1 rfl) ?_
                  refine lv_aload_n hx hb dL_law_313 rfl (lv_at hl 0 rfl) ?_
                  refine lv_iload hx hb dL_law_314 (lv_at hl 4 rfl) ?_
                  refine lv_iconst (v := 1) hx hb dL_law_316 (by decide) ?_
                  refine lv_iadd hx hb dL_law_317 ?_
                  obtain ⟨q34, h⟩ := kL_ite1 h
                  refine kl_sc hx hb hXs hbl hbA hS q34 dL_law_318 ?_
                  refine lv_aload_n hx hb dL_law_319 rfl (lv_at hl 3 rfl) ?_
                  obtain ⟨r35, hr35, h⟩ := oR_ex h
                  obtain ⟨q35, h⟩ := kL_ite1 h
                  obtain ⟨y35, hny35, hy⟩ := adL_ex h
                  subst hy
                  have h := hny35
                  refine kl_W (vx_runSW (As := [.ref (a 75), .int (f ((i + 1)).toNatClampNeg), .ref q0]) (rest := []) ⟨hx, hb, hml, hown, hts⟩ (c_w_step l hl0 dC dI cy ek a k ((f ((i + 1)).toNatClampNeg)) σ q0 w r35 hr35 q35 z H.size) (vx_cwSW 3 hts hg_L_step rfl rfl rfl (by decide +kernel) ⟨Nat.le_trans (by decide : 91 + 1 ≤ 1800) hRf, Nat.le_trans (by decide : 8 + (4 + 11) + 2243 ≤ 80000) hRl⟩) ⟨nb_blindX, kl_preW hK hG hE hT hX hA hP hD hS⟩ rfl rfl hl.1 rfl (lv_room (Nat.le_of_ble_eq_true rfl)) dL_law_320 ⟨Nat.le_trans (Nat.add_le_add_left (Nat.le_add_right _ _) _) (Nat.le_of_eq hc), Nat.le_trans (Nat.add_le_add_left (Nat.le_add_right _ _) _) (Nat.le_of_eq hs)⟩) hA hP hD hS (fun z H locs _ hP hD hS => ?_)
                  replace hc := (Nat.add_assoc _ _ _).trans hc
                  replace hs := (Nat.add_assoc _ _ _).trans hs
                  refine lv_istore (lv' := [(5, .int (wv 2 1 2 r35.1.1)), (0, .ref s0), (1, .ref (a 75)), (2, .ref (b 0)), (3, .ref q0), (4, .int i)]) hx hb dL_law_323 hl (by decide) rfl (fun ls hl => ?_)
                  refine lv_aload_n hx hb dL_law_325 rfl (lv_at hl 3 rfl) ?_
                  refine lv_aload_n hx hb dL_law_326 rfl (lv_at hl 1 rfl) ?_
                  refine lv_iload hx hb dL_law_327 (lv_at hl 5 rfl) ?_
                  refine lv_iconst (v := 1) hx hb dL_law_329 (by decide) ?_
                  refine lv_iadd hx hb dL_law_330 ?_
                  obtain ⟨q36, h⟩ := kL_ite1 h
                  refine kl_sc hx hb hXs hbl hbA hS q36 dL_law_331 ?_
                  obtain ⟨r37, hr37, h⟩ := oM_ex h
                  refine kl_Mi (va_runV (As := [.int (f ((i + 1)).toNatClampNeg)]) (rest := []) ⟨hx, hb, hml, hown, hts⟩ (c_x_step l dC dI cy b k (upd (fun _ => 0) 1 ((f ((i + 1)).toNatClampNeg))) τ r37 hr37 H.size) (cwV 1 hts hg_M_step rfl rfl rfl hd_x_step ⟨Nat.le_trans (by decide : 1368 + 1 ≤ 1800) hRf, Nat.le_trans (by decide : 8 + (3 + 11) + 36723 ≤ 80000) hRl⟩) ⟨nb_blind, kl_rcM hK hP, kl_preM (ek := ek) hK hG hA hP hD hS⟩ rfl rfl hl.1 rfl (lv_room (Nat.le_of_ble_eq_true rfl)) dL_law_332 ⟨Nat.le_trans (Nat.le_add_right _ _) (Nat.le_of_eq hc), Nat.le_trans (Nat.le_add_right _ _) (Nat.le_of_eq hs)⟩) hA hP hD hS (fun H locs hP hD hS => ?_)
                  refine lv_istore (lv' := [(6, .int r37.1), (5, .int (wv 2 1 2 r35.1.1)), (0, .ref s0), (1, .ref (a 75)), (2, .ref (b 0)), (3, .ref q0), (4, .int i)]) hx hb dL_law_335 hl (by decide) rfl (fun ls hl => ?_)
                  refine lv_goto (tgt := 653) hx hb dL_law_337 (by decide) ?_
                  refine lv_iinc (v := i + 6) (lv' := [(4, .int (i + 6)), (6, .int r37.1), (5, .int (wv 2 1 2 r35.1.1)), (0, .ref s0), (1, .ref (a 75)), (2, .ref (b 0)), (3, .ref q0)]) hx hb dL_law_653 hl (k := 6) rfl rfl (by decide) rfl (fun ls hl => ?_)
                  refine lv_goto (tgt := 23) hx hb dL_law_656 (by decide) ?_
                  exact ih (i + 6) z _ _ r35.2.1 (wo w r35.1.1 r35.1.2) r37.2 _ h hc hs H locs ls hP hD hS (lv_sub hl [3, 4, 5, 6, 0] rfl)
                · rw [if_neg q38] at h
                  by_cases q43 : ((((f i.toNatClampNeg)) &&& 31)) = (6 : Int32)
                  · rw [if_pos q43] at h
                    refine lv_tableIn (off := 300) (tgt := 340) hx hb dL_law_40 (by rw [q43]; decide) (by rw [q43]; decide) (by rw [q43]; decide) (by decide) ?_
                    refine lv_aload_n hx hb dL_law_340 rfl (lv_at hl 1 rfl) ?_
                    refine lv_aload_n hx hb dL_law_341 rfl (lv_at hl 0 rfl) ?_
                    refine lv_iload hx hb dL_law_342 (lv_at hl 4 rfl) ?_
                    refine lv_iconst (v := 1) hx hb dL_law_344 (by decide) ?_
                    refine lv_iadd hx hb dL_law_345 ?_
                    obtain ⟨q39, h⟩ := kL_ite1 h
                    refine kl_sc hx hb hXs hbl hbA hS q39 dL_law_346 ?_
                    refine lv_aload_n hx hb dL_law_347 rfl (lv_at hl 3 rfl) ?_
                    obtain ⟨r40, hr40, h⟩ := oR_ex h
                    obtain ⟨q40, h⟩ := kL_ite1 h
                    obtain ⟨y40, hny40, hy⟩ := adL_ex h
                    subst hy
                    have h := hny40
                    refine kl_W (vx_runSW (As := [.ref (a 75), .int (f ((i + 1)).toNatClampNeg), .ref q0]) (rest := []) ⟨hx, hb, hml, hown, hts⟩ (c_w_back l hl0 dC dI cy ek a k ((f ((i + 1)).toNatClampNeg)) σ q0 w r40 hr40 q40 z H.size) (vx_cwSW 3 hts hg_L_back rfl rfl rfl (by decide +kernel) ⟨Nat.le_trans (by decide : 91 + 1 ≤ 1800) hRf, Nat.le_trans (by decide : 8 + (4 + 11) + 2243 ≤ 80000) hRl⟩) ⟨nb_blindX, kl_preW hK hG hE hT hX hA hP hD hS⟩ rfl rfl hl.1 rfl (lv_room (Nat.le_of_ble_eq_true rfl)) dL_law_348 ⟨Nat.le_trans (Nat.add_le_add_left (Nat.le_add_right _ _) _) (Nat.le_of_eq hc), Nat.le_trans (Nat.add_le_add_left (Nat.le_add_right _ _) _) (Nat.le_of_eq hs)⟩) hA hP hD hS (fun z H locs _ hP hD hS => ?_)
                    replace hc := (Nat.add_assoc _ _ _).trans hc
                    replace hs := (Nat.add_assoc _ _ _).trans hs
                    refine lv_istore (lv' := [(5, .int (wv 2 1 2 r40.1.1)), (0, .ref s0), (1, .ref (a 75)), (2, .ref (b 0)), (3, .ref q0), (4, .int i)]) hx hb dL_law_351 hl (by decide) rfl (fun ls hl => ?_)
                    refine lv_aload_n hx hb dL_law_353 rfl (lv_at hl 3 rfl) ?_
                    refine lv_aload_n hx hb dL_law_354 rfl (lv_at hl 1 rfl) ?_
                    refine lv_iload hx hb dL_law_355 (lv_at hl 5 rfl) ?_
                    refine lv_iconst (v := 1) hx hb dL_law_357 (by decide) ?_
                    refine lv_iadd hx hb dL_law_358 ?_
                    obtain ⟨q41, h⟩ := kL_ite1 h
                    refine kl_sc hx hb hXs hbl hbA hS q41 dL_law_359 ?_
                    obtain ⟨r42, hr42, h⟩ := oM_ex h
                    refine kl_Mi (va_runV (As := [.int (f ((i + 1)).toNatClampNeg)]) (rest := []) ⟨hx, hb, hml, hown, hts⟩ (c_x_back l dC dI cy b k (upd (fun _ => 0) 1 ((f ((i + 1)).toNatClampNeg))) τ r42 hr42 H.size) (cwV 1 hts hg_M_back rfl rfl rfl hd_x_back ⟨Nat.le_trans (by decide : 1368 + 1 ≤ 1800) hRf, Nat.le_trans (by decide : 8 + (3 + 11) + 36723 ≤ 80000) hRl⟩) ⟨nb_blind, kl_rcM hK hP, kl_preM (ek := ek) hK hG hA hP hD hS⟩ rfl rfl hl.1 rfl (lv_room (Nat.le_of_ble_eq_true rfl)) dL_law_360 ⟨Nat.le_trans (Nat.le_add_right _ _) (Nat.le_of_eq hc), Nat.le_trans (Nat.le_add_right _ _) (Nat.le_of_eq hs)⟩) hA hP hD hS (fun H locs hP hD hS => ?_)
                    refine lv_istore (lv' := [(6, .int r42.1), (5, .int (wv 2 1 2 r40.1.1)), (0, .ref s0), (1, .ref (a 75)), (2, .ref (b 0)), (3, .ref q0), (4, .int i)]) hx hb dL_law_363 hl (by decide) rfl (fun ls hl => ?_)
                    refine lv_goto (tgt := 653) hx hb dL_law_365 (by decide) ?_
                    refine lv_iinc (v := i + 6) (lv' := [(4, .int (i + 6)), (6, .int r42.1), (5, .int (wv 2 1 2 r40.1.1)), (0, .ref s0), (1, .ref (a 75)), (2, .ref (b 0)), (3, .ref q0)]) hx hb dL_law_653 hl (k := 6) rfl rfl (by decide) rfl (fun ls hl => ?_)
                    refine lv_goto (tgt := 23) hx hb dL_law_656 (by decide) ?_
                    exact ih (i + 6) z _ _ r40.2.1 (wo w r40.1.1 r40.1.2) r42.2 _ h hc hs H locs ls hP hD hS (lv_sub hl [3, 4, 5, 6, 0] rfl)
                  · rw [if_neg q43] at h
                    by_cases q48 : ((((f i.toNatClampNeg)) &&& 31)) = (7 : Int32)
                    · rw [if_pos q48] at h
                      refine lv_tableIn (off := 328) (tgt := 368) hx hb dL_law_40 (by rw [q48]; decide) (by rw [q48]; decide) (by rw [q48]; decide) (by decide) ?_
                      refine lv_aload_n hx hb dL_law_368 rfl (lv_at hl 1 rfl) ?_
                      refine lv_aload_n hx hb dL_law_369 rfl (lv_at hl 0 rfl) ?_
                      refine lv_iload hx hb dL_law_370 (lv_at hl 4 rfl) ?_
                      refine lv_iconst (v := 1) hx hb dL_law_372 (by decide) ?_
                      refine lv_iadd hx hb dL_law_373 ?_
                      obtain ⟨q44, h⟩ := kL_ite1 h
                      refine kl_sc hx hb hXs hbl hbA hS q44 dL_law_374 ?_
                      refine lv_aload_n hx hb dL_law_375 rfl (lv_at hl 3 rfl) ?_
                      obtain ⟨r45, hr45, h⟩ := oR_ex h
                      obtain ⟨q45, h⟩ := kL_ite1 h
                      obtain ⟨y45, hny45, hy⟩ := adL_ex h
                      subst hy
                      have h := hny45
                      refine kl_W (vx_runSW (As := [.ref (a 75), .int (f ((i + 1)).toNatClampNeg), .ref q0]) (rest := []) ⟨hx, hb, hml, hown, hts⟩ (c_w_state l hl0 dC dI cy ek a k ((f ((i + 1)).toNatClampNeg)) σ q0 w r45 hr45 q45 z H.size) (vx_cwSW 3 hts hg_L_state rfl rfl rfl (by decide +kernel) ⟨Nat.le_trans (by decide : 8 + 1 ≤ 1800) hRf, Nat.le_trans (by decide : 8 + (4 + 11) + 142 ≤ 80000) hRl⟩) ⟨nb_blindX, kl_preW hK hG hE hT hX hA hP hD hS⟩ rfl rfl hl.1 rfl (lv_room (Nat.le_of_ble_eq_true rfl)) dL_law_376 ⟨Nat.le_trans (Nat.add_le_add_left (Nat.le_add_right _ _) _) (Nat.le_of_eq hc), Nat.le_trans (Nat.add_le_add_left (Nat.le_add_right _ _) _) (Nat.le_of_eq hs)⟩) hA hP hD hS (fun z H locs _ hP hD hS => ?_)
                      replace hc := (Nat.add_assoc _ _ _).trans hc
                      replace hs := (Nat.add_assoc _ _ _).trans hs
                      refine lv_istore (lv' := [(5, .int (wv 3 1 2 r45.1.1)), (0, .ref s0), (1, .ref (a 75)), (2, .ref (b 0)), (3, .ref q0), (4, .int i)]) hx hb dL_law_379 hl (by decide) rfl (fun ls hl => ?_)
                      refine lv_aload_n hx hb dL_law_381 rfl (lv_at hl 3 rfl) ?_
                      refine lv_aload_n hx hb dL_law_382 rfl (lv_at hl 1 rfl) ?_
                      refine lv_iload hx hb dL_law_383 (lv_at hl 5 rfl) ?_
                      refine lv_iconst (v := 1) hx hb dL_law_385 (by decide) ?_
                      refine lv_iadd hx hb dL_law_386 ?_
                      obtain ⟨q46, h⟩ := kL_ite1 h
                      refine kl_sc hx hb hXs hbl hbA hS q46 dL_law_387 ?_
                      obtain ⟨r47, hr47, h⟩ := oM_ex h
                      refine kl_Mi (va_runV (As := [.int (f ((i + 1)).toNatClampNeg)]) (rest := []) ⟨hx, hb, hml, hown, hts⟩ (c_x_state l dC dI cy b k (upd (fun _ => 0) 1 ((f ((i + 1)).toNatClampNeg))) τ r47 hr47 H.size) (cwV 1 hts hg_M_state rfl rfl rfl hd_x_state ⟨Nat.le_trans (by decide : 1 + 1 ≤ 1800) hRf, Nat.le_trans (by decide : 8 + (2 + 11) + 21 ≤ 80000) hRl⟩) ⟨nb_blind, kl_rcM hK hP, kl_preM (ek := ek) hK hG hA hP hD hS⟩ rfl rfl hl.1 rfl (lv_room (Nat.le_of_ble_eq_true rfl)) dL_law_388 ⟨Nat.le_trans (Nat.le_add_right _ _) (Nat.le_of_eq hc), Nat.le_trans (Nat.le_add_right _ _) (Nat.le_of_eq hs)⟩) hA hP hD hS (fun H locs hP hD hS => ?_)
                      refine lv_istore (lv' := [(6, .int r47.1), (5, .int (wv 3 1 2 r45.1.1)), (0, .ref s0), (1, .ref (a 75)), (2, .ref (b 0)), (3, .ref q0), (4, .int i)]) hx hb dL_law_391 hl (by decide) rfl (fun ls hl => ?_)
                      refine lv_goto (tgt := 653) hx hb dL_law_393 (by decide) ?_
                      refine lv_iinc (v := i + 6) (lv' := [(4, .int (i + 6)), (6, .int r47.1), (5, .int (wv 3 1 2 r45.1.1)), (0, .ref s0), (1, .ref (a 75)), (2, .ref (b 0)), (3, .ref q0)]) hx hb dL_law_653 hl (k := 6) rfl rfl (by decide) rfl (fun ls hl => ?_)
                      refine lv_goto (tgt := 23) hx hb dL_law_656 (by decide) ?_
                      exact ih (i + 6) z _ _ r45.2.1 (wo w r45.1.1 r45.1.2) r47.2 _ h hc hs H locs ls hP hD hS (lv_sub hl [3, 4, 5, 6, 0] rfl)
                    · rw [if_neg q48] at h
                      by_cases q53 : ((((f i.toNatClampNeg)) &&& 31)) = (8 : Int32)
                      · rw [if_pos q53] at h
                        refine lv_tableIn (off := 356) (tgt := 396) hx hb dL_law_40 (by rw [q53]; decide) (by rw [q53]; decide) (by rw [q53]; decide) (by decide) ?_
                        refine lv_aload_n hx hb dL_law_396 rfl (lv_at hl 1 rfl) ?_
                        refine lv_aload_n hx hb dL_law_397 rfl (lv_at hl 0 rfl) ?_
                        refine lv_iload hx hb dL_law_398 (lv_at hl 4 rfl) ?_
                        refine lv_iconst (v := 1) hx hb dL_law_400 (by decide) ?_
                        refine lv_iadd hx hb dL_law_401 ?_
                        obtain ⟨q49, h⟩ := kL_ite1 h
                        refine kl_sc hx hb hXs hbl hbA hS q49 dL_law_402 ?_
                        refine lv_aload_n hx hb dL_law_403 rfl (lv_at hl 3 rfl) ?_
                        obtain ⟨r50, hr50, h⟩ := oR_ex h
                        obtain ⟨q50, h⟩ := kL_ite1 h
                        obtain ⟨y50, hny50, hy⟩ := adL_ex h
                        subst hy
                        have h := hny50
                        refine kl_W (vx_runSW (As := [.ref (a 75), .int (f ((i + 1)).toNatClampNeg), .ref q0]) (rest := []) ⟨hx, hb, hml, hown, hts⟩ (c_w_out l hl0 dC dI cy ek a k ((f ((i + 1)).toNatClampNeg)) σ q0 w r50 hr50 q50 z H.size) (vx_cwSW 3 hts hg_L_out rfl rfl rfl (by decide +kernel) ⟨Nat.le_trans (by decide : 7 + 1 ≤ 1800) hRf, Nat.le_trans (by decide : 8 + (4 + 11) + 121 ≤ 80000) hRl⟩) ⟨nb_blindX, kl_preW hK hG hE hT hX hA hP hD hS⟩ rfl rfl hl.1 rfl (lv_room (Nat.le_of_ble_eq_true rfl)) dL_law_404 ⟨Nat.le_trans (Nat.add_le_add_left (Nat.le_add_right _ _) _) (Nat.le_of_eq hc), Nat.le_trans (Nat.add_le_add_left (Nat.le_add_right _ _) _) (Nat.le_of_eq hs)⟩) hA hP hD hS (fun z H locs _ hP hD hS => ?_)
                        replace hc := (Nat.add_assoc _ _ _).trans hc
                        replace hs := (Nat.add_assoc _ _ _).trans hs
                        refine lv_istore (lv' := [(5, .int (wv 3 1 1 r50.1.1)), (0, .ref s0), (1, .ref (a 75)), (2, .ref (b 0)), (3, .ref q0), (4, .int i)]) hx hb dL_law_407 hl (by decide) rfl (fun ls hl => ?_)
                        refine lv_aload_n hx hb dL_law_409 rfl (lv_at hl 3 rfl) ?_
                        refine lv_aload_n hx hb dL_law_410 rfl (lv_at hl 1 rfl) ?_
                        refine lv_iload hx hb dL_law_411 (lv_at hl 5 rfl) ?_
                        refine lv_iconst (v := 1) hx hb dL_law_413 (by decide) ?_
                        refine lv_iadd hx hb dL_law_414 ?_
                        obtain ⟨q51, h⟩ := kL_ite1 h
                        refine kl_sc hx hb hXs hbl hbA hS q51 dL_law_415 ?_
                        obtain ⟨r52, hr52, h⟩ := oM_ex h
                        refine kl_Mi (va_runV (As := [.int (f ((i + 1)).toNatClampNeg)]) (rest := []) ⟨hx, hb, hml, hown, hts⟩ (c_x_out l dC dI cy b k (upd (fun _ => 0) 1 ((f ((i + 1)).toNatClampNeg))) τ r52 hr52 H.size) (cwV 1 hts hg_M_out rfl rfl rfl hd_x_out ⟨Nat.le_trans (by decide : 1 + 1 ≤ 1800) hRf, Nat.le_trans (by decide : 8 + (2 + 11) + 21 ≤ 80000) hRl⟩) ⟨nb_blind, kl_rcM hK hP, kl_preM (ek := ek) hK hG hA hP hD hS⟩ rfl rfl hl.1 rfl (lv_room (Nat.le_of_ble_eq_true rfl)) dL_law_416 ⟨Nat.le_trans (Nat.le_add_right _ _) (Nat.le_of_eq hc), Nat.le_trans (Nat.le_add_right _ _) (Nat.le_of_eq hs)⟩) hA hP hD hS (fun H locs hP hD hS => ?_)
                        refine lv_istore (lv' := [(6, .int r52.1), (5, .int (wv 3 1 1 r50.1.1)), (0, .ref s0), (1, .ref (a 75)), (2, .ref (b 0)), (3, .ref q0), (4, .int i)]) hx hb dL_law_419 hl (by decide) rfl (fun ls hl => ?_)
                        refine lv_goto (tgt := 653) hx hb dL_law_421 (by decide) ?_
                        refine lv_iinc (v := i + 6) (lv' := [(4, .int (i + 6)), (6, .int r52.1), (5, .int (wv 3 1 1 r50.1.1)), (0, .ref s0), (1, .ref (a 75)), (2, .ref (b 0)), (3, .ref q0)]) hx hb dL_law_653 hl (k := 6) rfl rfl (by decide) rfl (fun ls hl => ?_)
                        refine lv_goto (tgt := 23) hx hb dL_law_656 (by decide) ?_
                        exact ih (i + 6) z _ _ r50.2.1 (wo w r50.1.1 r50.1.2) r52.2 _ h hc hs H locs ls hP hD hS (lv_sub hl [3, 4, 5, 6, 0] rfl)
                      · rw [if_neg q53] at h
                        by_cases q56 : ((((f i.toNatClampNeg)) &&& 31)) = (9 : Int32)
                        · rw [if_pos q56] at h
                          refine lv_tableIn (off := 384) (tgt := 424) hx hb dL_law_40 (by rw [q56]; decide) (by rw [q56]; decide) (by rw [q56]; decide) (by decide) ?_
                          refine lv_aload_n hx hb dL_law_424 rfl (lv_at hl 1 rfl) ?_
                          refine lv_aload_n hx hb dL_law_425 rfl (lv_at hl 3 rfl) ?_
                          obtain ⟨r54, hr54, h⟩ := oR_ex h
                          obtain ⟨q54, h⟩ := kL_ite1 h
                          obtain ⟨y54, hny54, hy⟩ := adL_ex h
                          subst hy
                          have h := hny54
                          refine kl_W (vx_runSW (As := [.ref (a 75), .ref q0]) (rest := []) ⟨hx, hb, hml, hown, hts⟩ (c_w_value l hl0 dC dI cy ek a k  σ q0 w r54 hr54 q54 z H.size) (vx_cwSW 2 hts hg_L_value rfl rfl rfl (by decide +kernel) ⟨Nat.le_trans (by decide : 89 + 1 ≤ 1800) hRf, Nat.le_trans (by decide : 8 + (3 + 11) + 2195 ≤ 80000) hRl⟩) ⟨nb_blindX, kl_preW hK hG hE hT hX hA hP hD hS⟩ rfl rfl hl.1 rfl (lv_room (Nat.le_of_ble_eq_true rfl)) dL_law_426 ⟨Nat.le_trans (Nat.add_le_add_left (Nat.le_add_right _ _) _) (Nat.le_of_eq hc), Nat.le_trans (Nat.add_le_add_left (Nat.le_add_right _ _) _) (Nat.le_of_eq hs)⟩) hA hP hD hS (fun z H locs _ hP hD hS => ?_)
                          replace hc := (Nat.add_assoc _ _ _).trans hc
                          replace hs := (Nat.add_assoc _ _ _).trans hs
                          refine lv_istore (lv' := [(5, .int (wv 2 1 2 r54.1.1)), (0, .ref s0), (1, .ref (a 75)), (2, .ref (b 0)), (3, .ref q0), (4, .int i)]) hx hb dL_law_429 hl (by decide) rfl (fun ls hl => ?_)
                          refine lv_aload_n hx hb dL_law_431 rfl (lv_at hl 3 rfl) ?_
                          obtain ⟨r55, hr55, h⟩ := oM_ex h
                          refine kl_Mi (va_runV (As := []) (rest := []) ⟨hx, hb, hml, hown, hts⟩ (c_x_value l dC dI cy b k (fun _ => 0) τ r55 hr55 H.size) (cwV 0 hts hg_M_value rfl rfl rfl hd_x_value ⟨Nat.le_trans (by decide : 56 + 1 ≤ 1800) hRf, Nat.le_trans (by decide : 8 + (2 + 11) + 1300 ≤ 80000) hRl⟩) ⟨nb_blind, kl_rcM hK hP, kl_preM (ek := ek) hK hG hA hP hD hS⟩ rfl rfl hl.1 rfl (lv_room (Nat.le_of_ble_eq_true rfl)) dL_law_432 ⟨Nat.le_trans (Nat.le_add_right _ _) (Nat.le_of_eq hc), Nat.le_trans (Nat.le_add_right _ _) (Nat.le_of_eq hs)⟩) hA hP hD hS (fun H locs hP hD hS => ?_)
                          refine lv_istore (lv' := [(6, .int r55.1), (5, .int (wv 2 1 2 r54.1.1)), (0, .ref s0), (1, .ref (a 75)), (2, .ref (b 0)), (3, .ref q0), (4, .int i)]) hx hb dL_law_435 hl (by decide) rfl (fun ls hl => ?_)
                          refine lv_goto (tgt := 653) hx hb dL_law_437 (by decide) ?_
                          refine lv_iinc (v := i + 6) (lv' := [(4, .int (i + 6)), (6, .int r55.1), (5, .int (wv 2 1 2 r54.1.1)), (0, .ref s0), (1, .ref (a 75)), (2, .ref (b 0)), (3, .ref q0)]) hx hb dL_law_653 hl (k := 6) rfl rfl (by decide) rfl (fun ls hl => ?_)
                          refine lv_goto (tgt := 23) hx hb dL_law_656 (by decide) ?_
                          exact ih (i + 6) z _ _ r54.2.1 (wo w r54.1.1 r54.1.2) r55.2 _ h hc hs H locs ls hP hD hS (lv_sub hl [3, 4, 5, 6, 0] rfl)
                        · rw [if_neg q56] at h
                          by_cases q59 : ((((f i.toNatClampNeg)) &&& 31)) = (10 : Int32)
                          · rw [if_pos q59] at h
                            refine lv_tableIn (off := 400) (tgt := 440) hx hb dL_law_40 (by rw [q59]; decide) (by rw [q59]; decide) (by rw [q59]; decide) (by decide) ?_
                            refine lv_aload_n hx hb dL_law_440 rfl (lv_at hl 1 rfl) ?_
                            refine lv_aload_n hx hb dL_law_441 rfl (lv_at hl 3 rfl) ?_
                            obtain ⟨r57, hr57, h⟩ := oR_ex h
                            obtain ⟨q57, h⟩ := kL_ite1 h
                            obtain ⟨y57, hny57, hy⟩ := adL_ex h
                            subst hy
                            have h := hny57
                            refine kl_W (vx_runSW (As := [.ref (a 75), .ref q0]) (rest := []) ⟨hx, hb, hml, hown, hts⟩ (c_w_work l hl0 dC dI cy ek a k  σ q0 w r57 hr57 q57 z H.size) (vx_cwSW 2 hts hg_L_work rfl rfl rfl (by decide +kernel) ⟨Nat.le_trans (by decide : 412 + 1 ≤ 1800) hRf, Nat.le_trans (by decide : 8 + (3 + 11) + 13448 ≤ 80000) hRl⟩) ⟨nb_blindX, kl_preW hK hG hE hT hX hA hP hD hS⟩ rfl rfl hl.1 rfl (lv_room (Nat.le_of_ble_eq_true rfl)) dL_law_442 ⟨Nat.le_trans (Nat.add_le_add_left (Nat.le_add_right _ _) _) (Nat.le_of_eq hc), Nat.le_trans (Nat.add_le_add_left (Nat.le_add_right _ _) _) (Nat.le_of_eq hs)⟩) hA hP hD hS (fun z H locs _ hP hD hS => ?_)
                            replace hc := (Nat.add_assoc _ _ _).trans hc
                            replace hs := (Nat.add_assoc _ _ _).trans hs
                            refine lv_istore (lv' := [(5, .int (wv 2 1 1 r57.1.1)), (0, .ref s0), (1, .ref (a 75)), (2, .ref (b 0)), (3, .ref q0), (4, .int i)]) hx hb dL_law_445 hl (by decide) rfl (fun ls hl => ?_)
                            refine lv_aload_n hx hb dL_law_447 rfl (lv_at hl 3 rfl) ?_
                            obtain ⟨r58, hr58, h⟩ := oM_ex h
                            refine kl_Mi (va_runV (As := []) (rest := []) ⟨hx, hb, hml, hown, hts⟩ (c_x_work l dC dI cy b k (fun _ => 0) (fun _ => 0) τ r58 hr58 H.size) (cwV 0 hts hg_M_work rfl rfl rfl hd_x_work ⟨Nat.le_trans (by decide : 1359 + 1 ≤ 1800) hRf, Nat.le_trans (by decide : 8 + (7 + 11) + 36518 ≤ 80000) hRl⟩) ⟨nb_blind, kl_rcM hK hP, kl_preM (ek := ek) hK hG hA hP hD hS⟩ rfl rfl hl.1 rfl (lv_room (Nat.le_of_ble_eq_true rfl)) dL_law_448 ⟨Nat.le_trans (Nat.le_add_right _ _) (Nat.le_of_eq hc), Nat.le_trans (Nat.le_add_right _ _) (Nat.le_of_eq hs)⟩) hA hP hD hS (fun H locs hP hD hS => ?_)
                            refine lv_istore (lv' := [(6, .int r58.1), (5, .int (wv 2 1 1 r57.1.1)), (0, .ref s0), (1, .ref (a 75)), (2, .ref (b 0)), (3, .ref q0), (4, .int i)]) hx hb dL_law_451 hl (by decide) rfl (fun ls hl => ?_)
                            refine lv_goto (tgt := 653) hx hb dL_law_453 (by decide) ?_
                            refine lv_iinc (v := i + 6) (lv' := [(4, .int (i + 6)), (6, .int r58.1), (5, .int (wv 2 1 1 r57.1.1)), (0, .ref s0), (1, .ref (a 75)), (2, .ref (b 0)), (3, .ref q0)]) hx hb dL_law_653 hl (k := 6) rfl rfl (by decide) rfl (fun ls hl => ?_)
                            refine lv_goto (tgt := 23) hx hb dL_law_656 (by decide) ?_
                            exact ih (i + 6) z _ _ r57.2.1 (wo w r57.1.1 r57.1.2) r58.2 _ h hc hs H locs ls hP hD hS (lv_sub hl [3, 4, 5, 6, 0] rfl)
                          · rw [if_neg q59] at h
                            by_cases q62 : ((((f i.toNatClampNeg)) &&& 31)) = (11 : Int32)
                            · rw [if_pos q62] at h
                              refine lv_tableIn (off := 416) (tgt := 456) hx hb dL_law_40 (by rw [q62]; decide) (by rw [q62]; decide) (by rw [q62]; decide) (by decide) ?_
                              refine lv_aload_n hx hb dL_law_456 rfl (lv_at hl 1 rfl) ?_
                              refine lv_aload_n hx hb dL_law_457 rfl (lv_at hl 3 rfl) ?_
                              obtain ⟨r60, hr60, h⟩ := oR_ex h
                              obtain ⟨q60, h⟩ := kL_ite1 h
                              obtain ⟨y60, hny60, hy⟩ := adL_ex h
                              subst hy
                              have h := hny60
                              refine kl_W (vx_runSW (As := [.ref (a 75), .ref q0]) (rest := []) ⟨hx, hb, hml, hown, hts⟩ (c_w_view l hl0 dC dI cy ek a k  σ q0 w r60 hr60 q60 z H.size) (vx_cwSW 2 hts hg_L_view rfl rfl rfl (by decide +kernel) ⟨Nat.le_trans (by decide : 412 + 1 ≤ 1800) hRf, Nat.le_trans (by decide : 8 + (3 + 11) + 13448 ≤ 80000) hRl⟩) ⟨nb_blindX, kl_preW hK hG hE hT hX hA hP hD hS⟩ rfl rfl hl.1 rfl (lv_room (Nat.le_of_ble_eq_true rfl)) dL_law_458 ⟨Nat.le_trans (Nat.add_le_add_left (Nat.le_add_right _ _) _) (Nat.le_of_eq hc), Nat.le_trans (Nat.add_le_add_left (Nat.le_add_right _ _) _) (Nat.le_of_eq hs)⟩) hA hP hD hS (fun z H locs _ hP hD hS => ?_)
                              replace hc := (Nat.add_assoc _ _ _).trans hc
                              replace hs := (Nat.add_assoc _ _ _).trans hs
                              refine lv_istore (lv' := [(5, .int (wv 2 1 2 r60.1.1)), (0, .ref s0), (1, .ref (a 75)), (2, .ref (b 0)), (3, .ref q0), (4, .int i)]) hx hb dL_law_461 hl (by decide) rfl (fun ls hl => ?_)
                              refine lv_aload_n hx hb dL_law_463 rfl (lv_at hl 3 rfl) ?_
                              obtain ⟨r61, hr61, h⟩ := oM_ex h
                              refine kl_Mi (va_runV (As := []) (rest := []) ⟨hx, hb, hml, hown, hts⟩ (c_x_view l dC dI cy b k (fun _ => 0) τ r61 hr61 H.size) (cwV 0 hts hg_M_view rfl rfl rfl hd_x_view ⟨Nat.le_trans (by decide : 327 + 1 ≤ 1800) hRf, Nat.le_trans (by decide : 8 + (5 + 11) + 10076 ≤ 80000) hRl⟩) ⟨nb_blind, kl_rcM hK hP, kl_preM (ek := ek) hK hG hA hP hD hS⟩ rfl rfl hl.1 rfl (lv_room (Nat.le_of_ble_eq_true rfl)) dL_law_464 ⟨Nat.le_trans (Nat.le_add_right _ _) (Nat.le_of_eq hc), Nat.le_trans (Nat.le_add_right _ _) (Nat.le_of_eq hs)⟩) hA hP hD hS (fun H locs hP hD hS => ?_)
                              refine lv_istore (lv' := [(6, .int r61.1), (5, .int (wv 2 1 2 r60.1.1)), (0, .ref s0), (1, .ref (a 75)), (2, .ref (b 0)), (3, .ref q0), (4, .int i)]) hx hb dL_law_467 hl (by decide) rfl (fun ls hl => ?_)
                              refine lv_goto (tgt := 653) hx hb dL_law_469 (by decide) ?_
                              refine lv_iinc (v := i + 6) (lv' := [(4, .int (i + 6)), (6, .int r61.1), (5, .int (wv 2 1 2 r60.1.1)), (0, .ref s0), (1, .ref (a 75)), (2, .ref (b 0)), (3, .ref q0)]) hx hb dL_law_653 hl (k := 6) rfl rfl (by decide) rfl (fun ls hl => ?_)
                              refine lv_goto (tgt := 23) hx hb dL_law_656 (by decide) ?_
                              exact ih (i + 6) z _ _ r60.2.1 (wo w r60.1.1 r60.1.2) r61.2 _ h hc hs H locs ls hP hD hS (lv_sub hl [3, 4, 5, 6, 0] rfl)
                            · rw [if_neg q62] at h
                              by_cases q65 : ((((f i.toNatClampNeg)) &&& 31)) = (12 : Int32)
                              · rw [if_pos q65] at h
                                refine lv_tableIn (off := 432) (tgt := 472) hx hb dL_law_40 (by rw [q65]; decide) (by rw [q65]; decide) (by rw [q65]; decide) (by decide) ?_
                                refine lv_aload_n hx hb dL_law_472 rfl (lv_at hl 1 rfl) ?_
                                refine lv_aload_n hx hb dL_law_473 rfl (lv_at hl 3 rfl) ?_
                                obtain ⟨r63, hr63, h⟩ := oR_ex h
                                obtain ⟨q63, h⟩ := kL_ite1 h
                                obtain ⟨y63, hny63, hy⟩ := adL_ex h
                                subst hy
                                have h := hny63
                                refine kl_W (vx_runSW (As := [.ref (a 75), .ref q0]) (rest := []) ⟨hx, hb, hml, hown, hts⟩ (c_w_round l hl0 dC dI cy ek a k  σ q0 w r63 hr63 q63 z H.size) (vx_cwSW 2 hts hg_L_round rfl rfl rfl (by decide +kernel) ⟨Nat.le_trans (by decide : 91 + 1 ≤ 1800) hRf, Nat.le_trans (by decide : 8 + (3 + 11) + 2252 ≤ 80000) hRl⟩) ⟨nb_blindX, kl_preW hK hG hE hT hX hA hP hD hS⟩ rfl rfl hl.1 rfl (lv_room (Nat.le_of_ble_eq_true rfl)) dL_law_474 ⟨Nat.le_trans (Nat.add_le_add_left (Nat.le_add_right _ _) _) (Nat.le_of_eq hc), Nat.le_trans (Nat.add_le_add_left (Nat.le_add_right _ _) _) (Nat.le_of_eq hs)⟩) hA hP hD hS (fun z H locs _ hP hD hS => ?_)
                                replace hc := (Nat.add_assoc _ _ _).trans hc
                                replace hs := (Nat.add_assoc _ _ _).trans hs
                                refine lv_istore (lv' := [(5, .int (wv 2 1 1 r63.1.1)), (0, .ref s0), (1, .ref (a 75)), (2, .ref (b 0)), (3, .ref q0), (4, .int i)]) hx hb dL_law_477 hl (by decide) rfl (fun ls hl => ?_)
                                refine lv_aload_n hx hb dL_law_479 rfl (lv_at hl 3 rfl) ?_
                                obtain ⟨r64, hr64, h⟩ := oM_ex h
                                refine kl_Mi (va_runV (As := []) (rest := []) ⟨hx, hb, hml, hown, hts⟩ (c_x_round l dC dI cy b k (fun _ => 0) τ r64 hr64 H.size) (cwV 0 hts hg_M_round rfl rfl rfl hd_x_round ⟨Nat.le_trans (by decide : 1359 + 1 ≤ 1800) hRf, Nat.le_trans (by decide : 8 + (13 + 11) + 36518 ≤ 80000) hRl⟩) ⟨nb_blind, kl_rcM hK hP, kl_preM (ek := ek) hK hG hA hP hD hS⟩ rfl rfl hl.1 rfl (lv_room (Nat.le_of_ble_eq_true rfl)) dL_law_480 ⟨Nat.le_trans (Nat.le_add_right _ _) (Nat.le_of_eq hc), Nat.le_trans (Nat.le_add_right _ _) (Nat.le_of_eq hs)⟩) hA hP hD hS (fun H locs hP hD hS => ?_)
                                refine lv_istore (lv' := [(6, .int r64.1), (5, .int (wv 2 1 1 r63.1.1)), (0, .ref s0), (1, .ref (a 75)), (2, .ref (b 0)), (3, .ref q0), (4, .int i)]) hx hb dL_law_483 hl (by decide) rfl (fun ls hl => ?_)
                                refine lv_goto (tgt := 653) hx hb dL_law_485 (by decide) ?_
                                refine lv_iinc (v := i + 6) (lv' := [(4, .int (i + 6)), (6, .int r64.1), (5, .int (wv 2 1 1 r63.1.1)), (0, .ref s0), (1, .ref (a 75)), (2, .ref (b 0)), (3, .ref q0)]) hx hb dL_law_653 hl (k := 6) rfl rfl (by decide) rfl (fun ls hl => ?_)
                                refine lv_goto (tgt := 23) hx hb dL_law_656 (by decide) ?_
                                exact ih (i + 6) z _ _ r63.2.1 (wo w r63.1.1 r63.1.2) r64.2 _ h hc hs H locs ls hP hD hS (lv_sub hl [3, 4, 5, 6, 0] rfl)
                              · rw [if_neg q65] at h
                                by_cases q72 : ((((f i.toNatClampNeg)) &&& 31)) = (13 : Int32)
                                · rw [if_pos q72] at h
                                  refine lv_tableIn (off := 448) (tgt := 488) hx hb dL_law_40 (by rw [q72]; decide) (by rw [q72]; decide) (by rw [q72]; decide) (by decide) ?_
                                  refine lv_aload_n hx hb dL_law_488 rfl (lv_at hl 1 rfl) ?_
                                  refine lv_aload_n hx hb dL_law_489 rfl (lv_at hl 0 rfl) ?_
                                  refine lv_iload hx hb dL_law_490 (lv_at hl 4 rfl) ?_
                                  refine lv_iconst (v := 1) hx hb dL_law_492 (by decide) ?_
                                  refine lv_iadd hx hb dL_law_493 ?_
                                  obtain ⟨q66, h⟩ := kL_ite1 h
                                  refine kl_sc hx hb hXs hbl hbA hS q66 dL_law_494 ?_
                                  refine lv_aload_n hx hb dL_law_495 rfl (lv_at hl 0 rfl) ?_
                                  refine lv_iload hx hb dL_law_496 (lv_at hl 4 rfl) ?_
                                  refine lv_iconst (v := 2) hx hb dL_law_498 (by decide) ?_
                                  refine lv_iadd hx hb dL_law_499 ?_
                                  obtain ⟨q67, h⟩ := kL_ite1 h
                                  refine kl_sc hx hb hXs hbl hbA hS q67 dL_law_500 ?_
                                  refine lv_aload_n hx hb dL_law_501 rfl (lv_at hl 3 rfl) ?_
                                  obtain ⟨r68, hr68, h⟩ := oR_ex h
                                  obtain ⟨q68, h⟩ := kL_ite1 h
                                  obtain ⟨y68, hny68, hy⟩ := adL_ex h
                                  subst hy
                                  have h := hny68
                                  refine kl_W (vx_runSW (As := [.ref (a 75), .int (f ((i + 1)).toNatClampNeg), .int (f ((i + 2)).toNatClampNeg), .ref q0]) (rest := []) ⟨hx, hb, hml, hown, hts⟩ (c_w_seen l hl0 dC dI cy ek a k ((f ((i + 1)).toNatClampNeg)) ((f ((i + 2)).toNatClampNeg)) σ q0 w r68 hr68 q68 z H.size) (vx_cwSW 4 hts hg_L_seen rfl rfl rfl (by decide +kernel) ⟨Nat.le_trans (by decide : 89 + 1 ≤ 1800) hRf, Nat.le_trans (by decide : 8 + (5 + 11) + 2195 ≤ 80000) hRl⟩) ⟨nb_blindX, kl_preW hK hG hE hT hX hA hP hD hS⟩ rfl rfl hl.1 rfl (lv_room (Nat.le_of_ble_eq_true rfl)) dL_law_502 ⟨Nat.le_trans (Nat.add_le_add_left (Nat.le_add_right _ _) _) (Nat.le_of_eq hc), Nat.le_trans (Nat.add_le_add_left (Nat.le_add_right _ _) _) (Nat.le_of_eq hs)⟩) hA hP hD hS (fun z H locs _ hP hD hS => ?_)
                                  replace hc := (Nat.add_assoc _ _ _).trans hc
                                  replace hs := (Nat.add_assoc _ _ _).trans hs
                                  refine lv_istore (lv' := [(5, .int (wv 3 1 2 r68.1.1)), (0, .ref s0), (1, .ref (a 75)), (2, .ref (b 0)), (3, .ref q0), (4, .int i)]) hx hb dL_law_505 hl (by decide) rfl (fun ls hl => ?_)
                                  refine lv_aload_n hx hb dL_law_507 rfl (lv_at hl 3 rfl) ?_
                                  refine lv_aload_n hx hb dL_law_508 rfl (lv_at hl 1 rfl) ?_
                                  refine lv_iload hx hb dL_law_509 (lv_at hl 5 rfl) ?_
                                  refine lv_iconst (v := 1) hx hb dL_law_511 (by decide) ?_
                                  refine lv_iadd hx hb dL_law_512 ?_
                                  obtain ⟨q69, h⟩ := kL_ite1 h
                                  refine kl_sc hx hb hXs hbl hbA hS q69 dL_law_513 ?_
                                  refine lv_aload_n hx hb dL_law_514 rfl (lv_at hl 1 rfl) ?_
                                  refine lv_iload hx hb dL_law_515 (lv_at hl 5 rfl) ?_
                                  refine lv_iconst (v := 2) hx hb dL_law_517 (by decide) ?_
                                  refine lv_iadd hx hb dL_law_518 ?_
                                  obtain ⟨q70, h⟩ := kL_ite1 h
                                  refine kl_sc hx hb hXs hbl hbA hS q70 dL_law_519 ?_
                                  obtain ⟨r71, hr71, h⟩ := oM_ex h
                                  refine kl_Mi (va_runV (As := [.int (f ((i + 1)).toNatClampNeg), .int (f ((i + 2)).toNatClampNeg)]) (rest := []) ⟨hx, hb, hml, hown, hts⟩ (c_x_seen l dC dI cy b k (upd (upd (fun _ => 0) 1 ((f ((i + 1)).toNatClampNeg))) 2 ((f ((i + 2)).toNatClampNeg))) τ r71 hr71 H.size) (cwV 2 hts hg_M_seen rfl rfl rfl hd_x_seen ⟨Nat.le_trans (by decide : 56 + 1 ≤ 1800) hRf, Nat.le_trans (by decide : 8 + (3 + 11) + 1300 ≤ 80000) hRl⟩) ⟨nb_blind, kl_rcM hK hP, kl_preM (ek := ek) hK hG hA hP hD hS⟩ rfl rfl hl.1 rfl (lv_room (Nat.le_of_ble_eq_true rfl)) dL_law_520 ⟨Nat.le_trans (Nat.le_add_right _ _) (Nat.le_of_eq hc), Nat.le_trans (Nat.le_add_right _ _) (Nat.le_of_eq hs)⟩) hA hP hD hS (fun H locs hP hD hS => ?_)
                                  refine lv_istore (lv' := [(6, .int r71.1), (5, .int (wv 3 1 2 r68.1.1)), (0, .ref s0), (1, .ref (a 75)), (2, .ref (b 0)), (3, .ref q0), (4, .int i)]) hx hb dL_law_523 hl (by decide) rfl (fun ls hl => ?_)
                                  refine lv_goto (tgt := 653) hx hb dL_law_525 (by decide) ?_
                                  refine lv_iinc (v := i + 6) (lv' := [(4, .int (i + 6)), (6, .int r71.1), (5, .int (wv 3 1 2 r68.1.1)), (0, .ref s0), (1, .ref (a 75)), (2, .ref (b 0)), (3, .ref q0)]) hx hb dL_law_653 hl (k := 6) rfl rfl (by decide) rfl (fun ls hl => ?_)
                                  refine lv_goto (tgt := 23) hx hb dL_law_656 (by decide) ?_
                                  exact ih (i + 6) z _ _ r68.2.1 (wo w r68.1.1 r68.1.2) r71.2 _ h hc hs H locs ls hP hD hS (lv_sub hl [3, 4, 5, 6, 0] rfl)
                                · rw [if_neg q72] at h
                                  by_cases q77 : ((((f i.toNatClampNeg)) &&& 31)) = (14 : Int32)
                                  · rw [if_pos q77] at h
                                    refine lv_tableIn (off := 488) (tgt := 528) hx hb dL_law_40 (by rw [q77]; decide) (by rw [q77]; decide) (by rw [q77]; decide) (by decide) ?_
                                    refine lv_aload_n hx hb dL_law_528 rfl (lv_at hl 1 rfl) ?_
                                    refine lv_aload_n hx hb dL_law_529 rfl (lv_at hl 0 rfl) ?_
                                    refine lv_iload hx hb dL_law_530 (lv_at hl 4 rfl) ?_
                                    refine lv_iconst (v := 1) hx hb dL_law_532 (by decide) ?_
                                    refine lv_iadd hx hb dL_law_533 ?_
                                    obtain ⟨q73, h⟩ := kL_ite1 h
                                    refine kl_sc hx hb hXs hbl hbA hS q73 dL_law_534 ?_
                                    refine lv_aload_n hx hb dL_law_535 rfl (lv_at hl 3 rfl) ?_
                                    obtain ⟨r74, hr74, h⟩ := oR_ex h
                                    obtain ⟨q74, h⟩ := kL_ite1 h
                                    obtain ⟨y74, hny74, hy⟩ := adL_ex h
                                    subst hy
                                    have h := hny74
                                    refine kl_W (vx_runSW (As := [.ref (a 75), .int (f ((i + 1)).toNatClampNeg), .ref q0]) (rest := []) ⟨hx, hb, hml, hown, hts⟩ (c_w_shown l hl0 dC dI cy ek a k ((f ((i + 1)).toNatClampNeg)) σ q0 w r74 hr74 q74 z H.size) (vx_cwSW 3 hts hg_L_shown rfl rfl rfl (by decide +kernel) ⟨Nat.le_trans (by decide : 7 + 1 ≤ 1800) hRf, Nat.le_trans (by decide : 8 + (4 + 11) + 121 ≤ 80000) hRl⟩) ⟨nb_blindX, kl_preW hK hG hE hT hX hA hP hD hS⟩ rfl rfl hl.1 rfl (lv_room (Nat.le_of_ble_eq_true rfl)) dL_law_536 ⟨Nat.le_trans (Nat.add_le_add_left (Nat.le_add_right _ _) _) (Nat.le_of_eq hc), Nat.le_trans (Nat.add_le_add_left (Nat.le_add_right _ _) _) (Nat.le_of_eq hs)⟩) hA hP hD hS (fun z H locs _ hP hD hS => ?_)
                                    replace hc := (Nat.add_assoc _ _ _).trans hc
                                    replace hs := (Nat.add_assoc _ _ _).trans hs
                                    refine lv_istore (lv' := [(5, .int (wv 3 1 1 r74.1.1)), (0, .ref s0), (1, .ref (a 75)), (2, .ref (b 0)), (3, .ref q0), (4, .int i)]) hx hb dL_law_539 hl (by decide) rfl (fun ls hl => ?_)
                                    refine lv_aload_n hx hb dL_law_541 rfl (lv_at hl 3 rfl) ?_
                                    refine lv_aload_n hx hb dL_law_542 rfl (lv_at hl 1 rfl) ?_
                                    refine lv_iload hx hb dL_law_543 (lv_at hl 5 rfl) ?_
                                    refine lv_iconst (v := 1) hx hb dL_law_545 (by decide) ?_
                                    refine lv_iadd hx hb dL_law_546 ?_
                                    obtain ⟨q75, h⟩ := kL_ite1 h
                                    refine kl_sc hx hb hXs hbl hbA hS q75 dL_law_547 ?_
                                    obtain ⟨r76, hr76, h⟩ := oM_ex h
                                    refine kl_Mi (va_runV (As := [.int (f ((i + 1)).toNatClampNeg)]) (rest := []) ⟨hx, hb, hml, hown, hts⟩ (c_x_shown l dC dI cy b k (upd (fun _ => 0) 1 ((f ((i + 1)).toNatClampNeg))) τ r76 hr76 H.size) (cwV 1 hts hg_M_shown rfl rfl rfl hd_x_shown ⟨Nat.le_trans (by decide : 1 + 1 ≤ 1800) hRf, Nat.le_trans (by decide : 8 + (2 + 11) + 21 ≤ 80000) hRl⟩) ⟨nb_blind, kl_rcM hK hP, kl_preM (ek := ek) hK hG hA hP hD hS⟩ rfl rfl hl.1 rfl (lv_room (Nat.le_of_ble_eq_true rfl)) dL_law_548 ⟨Nat.le_trans (Nat.le_add_right _ _) (Nat.le_of_eq hc), Nat.le_trans (Nat.le_add_right _ _) (Nat.le_of_eq hs)⟩) hA hP hD hS (fun H locs hP hD hS => ?_)
                                    refine lv_istore (lv' := [(6, .int r76.1), (5, .int (wv 3 1 1 r74.1.1)), (0, .ref s0), (1, .ref (a 75)), (2, .ref (b 0)), (3, .ref q0), (4, .int i)]) hx hb dL_law_551 hl (by decide) rfl (fun ls hl => ?_)
                                    refine lv_goto (tgt := 653) hx hb dL_law_553 (by decide) ?_
                                    refine lv_iinc (v := i + 6) (lv' := [(4, .int (i + 6)), (6, .int r76.1), (5, .int (wv 3 1 1 r74.1.1)), (0, .ref s0), (1, .ref (a 75)), (2, .ref (b 0)), (3, .ref q0)]) hx hb dL_law_653 hl (k := 6) rfl rfl (by decide) rfl (fun ls hl => ?_)
                                    refine lv_goto (tgt := 23) hx hb dL_law_656 (by decide) ?_
                                    exact ih (i + 6) z _ _ r74.2.1 (wo w r74.1.1 r74.1.2) r76.2 _ h hc hs H locs ls hP hD hS (lv_sub hl [3, 4, 5, 6, 0] rfl)
                                  · rw [if_neg q77] at h
                                    by_cases q82 : ((((f i.toNatClampNeg)) &&& 31)) = (15 : Int32)
                                    · rw [if_pos q82] at h
                                      refine lv_tableIn (off := 516) (tgt := 556) hx hb dL_law_40 (by rw [q82]; decide) (by rw [q82]; decide) (by rw [q82]; decide) (by decide) ?_
                                      refine lv_aload_n hx hb dL_law_556 rfl (lv_at hl 1 rfl) ?_
                                      refine lv_aload_n hx hb dL_law_557 rfl (lv_at hl 0 rfl) ?_
                                      refine lv_iload hx hb dL_law_558 (lv_at hl 4 rfl) ?_
                                      refine lv_iconst (v := 1) hx hb dL_law_560 (by decide) ?_
                                      refine lv_iadd hx hb dL_law_561 ?_
                                      obtain ⟨q78, h⟩ := kL_ite1 h
                                      refine kl_sc hx hb hXs hbl hbA hS q78 dL_law_562 ?_
                                      refine lv_aload_n hx hb dL_law_563 rfl (lv_at hl 3 rfl) ?_
                                      obtain ⟨r79, hr79, h⟩ := oR_ex h
                                      obtain ⟨q79, h⟩ := kL_ite1 h
                                      obtain ⟨y79, hny79, hy⟩ := adL_ex h
                                      subst hy
                                      have h := hny79
                                      refine kl_W (vx_runSW (As := [.ref (a 75), .int (f ((i + 1)).toNatClampNeg), .ref q0]) (rest := []) ⟨hx, hb, hml, hown, hts⟩ (c_w_shape l hl0 dC dI cy ek a k ((f ((i + 1)).toNatClampNeg)) σ q0 w r79 hr79 q79 z H.size) (vx_cwSW 3 hts hg_L_shape rfl rfl rfl (by decide +kernel) ⟨Nat.le_trans (by decide : 7 + 1 ≤ 1800) hRf, Nat.le_trans (by decide : 8 + (4 + 11) + 123 ≤ 80000) hRl⟩) ⟨nb_blindX, kl_preW hK hG hE hT hX hA hP hD hS⟩ rfl rfl hl.1 rfl (lv_room (Nat.le_of_ble_eq_true rfl)) dL_law_564 ⟨Nat.le_trans (Nat.add_le_add_left (Nat.le_add_right _ _) _) (Nat.le_of_eq hc), Nat.le_trans (Nat.add_le_add_left (Nat.le_add_right _ _) _) (Nat.le_of_eq hs)⟩) hA hP hD hS (fun z H locs _ hP hD hS => ?_)
                                      replace hc := (Nat.add_assoc _ _ _).trans hc
                                      replace hs := (Nat.add_assoc _ _ _).trans hs
                                      refine lv_istore (lv' := [(5, .int (wv 3 1 1 r79.1.1)), (0, .ref s0), (1, .ref (a 75)), (2, .ref (b 0)), (3, .ref q0), (4, .int i)]) hx hb dL_law_567 hl (by decide) rfl (fun ls hl => ?_)
                                      refine lv_aload_n hx hb dL_law_569 rfl (lv_at hl 3 rfl) ?_
                                      refine lv_aload_n hx hb dL_law_570 rfl (lv_at hl 1 rfl) ?_
                                      refine lv_iload hx hb dL_law_571 (lv_at hl 5 rfl) ?_
                                      refine lv_iconst (v := 1) hx hb dL_law_573 (by decide) ?_
                                      refine lv_iadd hx hb dL_law_574 ?_
                                      obtain ⟨q80, h⟩ := kL_ite1 h
                                      refine kl_sc hx hb hXs hbl hbA hS q80 dL_law_575 ?_
                                      obtain ⟨r81, hr81, h⟩ := oM_ex h
                                      refine kl_Mi (va_runV (As := [.int (f ((i + 1)).toNatClampNeg)]) (rest := []) ⟨hx, hb, hml, hown, hts⟩ (c_x_shape l dC dI cy b k (upd (fun _ => 0) 1 ((f ((i + 1)).toNatClampNeg))) τ r81 hr81 H.size) (cwV 1 hts hg_M_shape rfl rfl rfl hd_x_shape ⟨Nat.le_trans (by decide : 1 + 1 ≤ 1800) hRf, Nat.le_trans (by decide : 8 + (4 + 11) + 21 ≤ 80000) hRl⟩) ⟨nb_blind, kl_rcM hK hP, kl_preM (ek := ek) hK hG hA hP hD hS⟩ rfl rfl hl.1 rfl (lv_room (Nat.le_of_ble_eq_true rfl)) dL_law_576 ⟨Nat.le_trans (Nat.le_add_right _ _) (Nat.le_of_eq hc), Nat.le_trans (Nat.le_add_right _ _) (Nat.le_of_eq hs)⟩) hA hP hD hS (fun H locs hP hD hS => ?_)
                                      refine lv_istore (lv' := [(6, .int r81.1), (5, .int (wv 3 1 1 r79.1.1)), (0, .ref s0), (1, .ref (a 75)), (2, .ref (b 0)), (3, .ref q0), (4, .int i)]) hx hb dL_law_579 hl (by decide) rfl (fun ls hl => ?_)
                                      refine lv_goto (tgt := 653) hx hb dL_law_581 (by decide) ?_
                                      refine lv_iinc (v := i + 6) (lv' := [(4, .int (i + 6)), (6, .int r81.1), (5, .int (wv 3 1 1 r79.1.1)), (0, .ref s0), (1, .ref (a 75)), (2, .ref (b 0)), (3, .ref q0)]) hx hb dL_law_653 hl (k := 6) rfl rfl (by decide) rfl (fun ls hl => ?_)
                                      refine lv_goto (tgt := 23) hx hb dL_law_656 (by decide) ?_
                                      exact ih (i + 6) z _ _ r79.2.1 (wo w r79.1.1 r79.1.2) r81.2 _ h hc hs H locs ls hP hD hS (lv_sub hl [3, 4, 5, 6, 0] rfl)
                                    · rw [if_neg q82] at h
                                      by_cases q85 : ((((f i.toNatClampNeg)) &&& 31)) = (16 : Int32)
                                      · rw [if_pos q85] at h
                                        refine lv_tableIn (off := 544) (tgt := 584) hx hb dL_law_40 (by rw [q85]; decide) (by rw [q85]; decide) (by rw [q85]; decide) (by decide) ?_
                                        refine lv_aload_n hx hb dL_law_584 rfl (lv_at hl 1 rfl) ?_
                                        obtain ⟨r83, hr83, h⟩ := oY_ex h
                                        refine kl_Y (va_runV (As := []) (rest := []) ⟨hx, hb, hml, hown, hts⟩ (c_y_X11_order l dC dI cy a z k lZ σ r83 hr83 H.size) (cwV 0 hts hg_Y_order rfl rfl rfl hd_y_X11_order ⟨Nat.le_trans (by decide : 62 + 1 ≤ 1800) hRf, Nat.le_trans (by decide : 8 + (1 + 11) + 1738 ≤ 80000) hRl⟩) ⟨nb_blind, kl_rcC hK hP, kl_preY (ek := ek) hK hG hA hP hD hS⟩ rfl rfl hl.1 rfl (lv_room (Nat.le_of_ble_eq_true rfl)) dL_law_585 ⟨Nat.le_trans (Nat.le_add_right _ _) (Nat.le_of_eq hc), Nat.le_trans (Nat.le_add_right _ _) (Nat.le_of_eq hs)⟩) hA hP hD hS (fun H locs hP hD hS => ?_)
                                        refine lv_pop hx hb dL_law_588 rfl ?_
                                        refine lv_aload_n hx hb dL_law_589 rfl (lv_at hl 2 rfl) ?_
                                        obtain ⟨r84, hr84, h⟩ := oM_ex h
                                        refine kl_Mi (va_runV (As := []) (rest := []) ⟨hx, hb, hml, hown, hts⟩ (c_x_order l dC dI cy b k (fun _ => 0) τ r84 hr84 H.size) (cwV 0 hts hg_M_order rfl rfl rfl hd_x_order ⟨Nat.le_trans (by decide : 43 + 1 ≤ 1800) hRf, Nat.le_trans (by decide : 8 + (2 + 11) + 1195 ≤ 80000) hRl⟩) ⟨nb_blind, kl_rcM hK hP, kl_preM (ek := ek) hK hG hA hP hD hS⟩ rfl rfl hl.1 rfl (lv_room (Nat.le_of_ble_eq_true rfl)) dL_law_590 ⟨Nat.le_trans (Nat.le_add_right _ _) (Nat.le_of_eq hc), Nat.le_trans (Nat.le_add_right _ _) (Nat.le_of_eq hs)⟩) hA hP hD hS (fun H locs hP hD hS => ?_)
                                        refine lv_pop hx hb dL_law_593 rfl ?_
                                        refine lv_goto (tgt := 653) hx hb dL_law_594 (by decide) ?_
                                        refine lv_iinc (v := i + 6) (lv' := [(4, .int (i + 6)), (0, .ref s0), (1, .ref (a 75)), (2, .ref (b 0)), (3, .ref q0)]) hx hb dL_law_653 hl (k := 4) rfl rfl (by decide) rfl (fun ls hl => ?_)
                                        refine lv_goto (tgt := 23) hx hb dL_law_656 (by decide) ?_
                                        exact ih (i + 6) z _ _ r83.2 w r84.2 _ h hc hs H locs ls hP hD hS (lv_sub hl [1, 2, 3, 4, 0] rfl)
                                      · rw [if_neg q85] at h
                                        by_cases q94 : ((((f i.toNatClampNeg)) &&& 31)) = (17 : Int32)
                                        · rw [if_pos q94] at h
                                          refine lv_tableIn (off := 557) (tgt := 597) hx hb dL_law_40 (by rw [q94]; decide) (by rw [q94]; decide) (by rw [q94]; decide) (by decide) ?_
                                          refine lv_aload_n hx hb dL_law_597 rfl (lv_at hl 1 rfl) ?_
                                          refine lv_aload_n hx hb dL_law_598 rfl (lv_at hl 0 rfl) ?_
                                          refine lv_iload hx hb dL_law_599 (lv_at hl 4 rfl) ?_
                                          refine lv_iconst (v := 1) hx hb dL_law_601 (by decide) ?_
                                          refine lv_iadd hx hb dL_law_602 ?_
                                          obtain ⟨q86, h⟩ := kL_ite1 h
                                          refine kl_sc hx hb hXs hbl hbA hS q86 dL_law_603 ?_
                                          refine lv_aload_n hx hb dL_law_604 rfl (lv_at hl 3 rfl) ?_
                                          obtain ⟨r87, hr87, h⟩ := oR_ex h
                                          obtain ⟨q87, h⟩ := kL_ite1 h
                                          obtain ⟨y87, hny87, hy⟩ := adL_ex h
                                          subst hy
                                          have h := hny87
                                          refine kl_W (vx_runSW (As := [.ref (a 75), .int (f ((i + 1)).toNatClampNeg), .ref q0]) (rest := []) ⟨hx, hb, hml, hown, hts⟩ (c_w_count l hl0 dC dI cy ek a k ((f ((i + 1)).toNatClampNeg)) σ q0 w r87 hr87 q87 z H.size) (vx_cwSW 3 hts hg_L_count rfl rfl rfl (by decide +kernel) ⟨Nat.le_trans (by decide : 7 + 1 ≤ 1800) hRf, Nat.le_trans (by decide : 8 + (4 + 11) + 121 ≤ 80000) hRl⟩) ⟨nb_blindX, kl_preW hK hG hE hT hX hA hP hD hS⟩ rfl rfl hl.1 rfl (lv_room (Nat.le_of_ble_eq_true rfl)) dL_law_605 ⟨Nat.le_trans (Nat.add_le_add_left (Nat.le_add_right _ _) _) (Nat.le_of_eq hc), Nat.le_trans (Nat.add_le_add_left (Nat.le_add_right _ _) _) (Nat.le_of_eq hs)⟩) hA hP hD hS (fun z H locs _ hP hD hS => ?_)
                                          replace hc := (Nat.add_assoc _ _ _).trans hc
                                          replace hs := (Nat.add_assoc _ _ _).trans hs
                                          refine lv_istore (lv' := [(5, .int (wv 3 1 1 r87.1.1)), (0, .ref s0), (1, .ref (a 75)), (2, .ref (b 0)), (3, .ref q0), (4, .int i)]) hx hb dL_law_608 hl (by decide) rfl (fun ls hl => ?_)
                                          refine lv_aload_n hx hb dL_law_610 rfl (lv_at hl 3 rfl) ?_
                                          refine lv_aload_n hx hb dL_law_611 rfl (lv_at hl 1 rfl) ?_
                                          refine lv_iload hx hb dL_law_612 (lv_at hl 5 rfl) ?_
                                          refine lv_iconst (v := 1) hx hb dL_law_614 (by decide) ?_
                                          refine lv_iadd hx hb dL_law_615 ?_
                                          obtain ⟨q88, h⟩ := kL_ite1 h
                                          refine kl_sc hx hb hXs hbl hbA hS q88 dL_law_616 ?_
                                          obtain ⟨r89, hr89, h⟩ := oM_ex h
                                          refine kl_Mi (va_runV (As := [.int (f ((i + 1)).toNatClampNeg)]) (rest := []) ⟨hx, hb, hml, hown, hts⟩ (c_x_count l dC dI cy b k (upd (fun _ => 0) 1 ((f ((i + 1)).toNatClampNeg))) τ r89 hr89 H.size) (cwV 1 hts hg_M_count rfl rfl rfl hd_x_count ⟨Nat.le_trans (by decide : 1 + 1 ≤ 1800) hRf, Nat.le_trans (by decide : 8 + (2 + 11) + 21 ≤ 80000) hRl⟩) ⟨nb_blind, kl_rcM hK hP, kl_preM (ek := ek) hK hG hA hP hD hS⟩ rfl rfl hl.1 rfl (lv_room (Nat.le_of_ble_eq_true rfl)) dL_law_617 ⟨Nat.le_trans (Nat.le_add_right _ _) (Nat.le_of_eq hc), Nat.le_trans (Nat.le_add_right _ _) (Nat.le_of_eq hs)⟩) hA hP hD hS (fun H locs hP hD hS => ?_)
                                          refine lv_istore (lv' := [(6, .int r89.1), (5, .int (wv 3 1 1 r87.1.1)), (0, .ref s0), (1, .ref (a 75)), (2, .ref (b 0)), (3, .ref q0), (4, .int i)]) hx hb dL_law_620 hl (by decide) rfl (fun ls hl => ?_)
                                          refine lv_aload_n hx hb dL_law_622 rfl (lv_at hl 4 rfl) ?_
                                          obtain ⟨r90, hr90, h⟩ := oM_ex h
                                          refine kl_Mi (va_runV (As := []) (rest := []) ⟨hx, hb, hml, hown, hts⟩ (c_x_thrown l dC dI cy b k (fun _ => 0) r89.2 r90 hr90 H.size) (cwV 0 hts hg_M_thrown rfl rfl rfl hd_x_thrown ⟨Nat.le_trans (by decide : 0 + 1 ≤ 1800) hRf, Nat.le_trans (by decide : 8 + (1 + 11) + 0 ≤ 80000) hRl⟩) ⟨nb_blind, kl_rcM hK hP, kl_preM (ek := ek) hK hG hA hP hD hS⟩ rfl rfl hl.1 rfl (lv_room (Nat.le_of_ble_eq_true rfl)) dL_law_623 ⟨Nat.le_trans (Nat.le_add_right _ _) (Nat.le_of_eq hc), Nat.le_trans (Nat.le_add_right _ _) (Nat.le_of_eq hs)⟩) hA hP hD hS (fun H locs hP hD hS => ?_)
                                          refine lv_iload hx hb dL_law_626 (lv_at hl 1 rfl) ?_
                                          refine lv_icmp_eq (tgt := 633) hx hb dL_law_628 (by decide) (fun c91 => ?_) (fun c91 => ?_)
                                          · rw [if_pos c91] at h
                                            refine lv_iload hx hb dL_law_633 (lv_at hl 1 rfl) ?_
                                            refine lv_if_ne (tgt := 650) hx hb dL_law_635 (by decide) (fun c92 => ?_) (fun c92 => ?_)
                                            · rw [if_neg c92] at h
                                              refine lv_goto (tgt := 653) hx hb dL_law_650 (by decide) ?_
                                              refine lv_iinc (v := i + 6) (lv' := [(4, .int (i + 6)), (6, .int r89.1), (5, .int (wv 3 1 1 r87.1.1)), (0, .ref s0), (1, .ref (a 75)), (2, .ref (b 0)), (3, .ref q0)]) hx hb dL_law_653 hl (k := 6) rfl rfl (by decide) rfl (fun ls hl => ?_)
                                              refine lv_goto (tgt := 23) hx hb dL_law_656 (by decide) ?_
                                              exact ih (i + 6) z _ _ r87.2.1 (wo w r87.1.1 r87.1.2) r90.2 _ h hc hs H locs ls hP hD hS (lv_sub hl [3, 4, 5, 6, 0] rfl)
                                            · rw [if_pos c92] at h
                                              refine lv_aload_n hx hb dL_law_638 rfl (lv_at hl 5 rfl) ?_
                                              refine lv_iconst (v := 0) hx hb dL_law_639 (by decide) ?_
                                              refine va_lald hx hb hK hP 58 2 rfl rfl (nb_in (by decide)) dL_law_640 ?_
                                              refine lv_iload hx hb dL_law_641 (lv_at hl 0 rfl) ?_
                                              refine lv_i2l (v := r89.1.toInt64) hx hb dL_law_643 rfl ?_
                                              refine nb_lcmp hx hb dL_law_644 ?_
                                              refine lv_if_eq (tgt := 650) hx hb dL_law_645 (by decide) (fun c93 => ?_) (fun c93 => ?_)
                                              · rw [if_pos c93] at h
                                                refine lv_goto (tgt := 653) hx hb dL_law_650 (by decide) ?_
                                                refine lv_iinc (v := i + 6) (lv' := [(4, .int (i + 6)), (6, .int r89.1), (5, .int (wv 3 1 1 r87.1.1)), (0, .ref s0), (1, .ref (a 75)), (2, .ref (b 0)), (3, .ref q0)]) hx hb dL_law_653 hl (k := 6) rfl rfl (by decide) rfl (fun ls hl => ?_)
                                                refine lv_goto (tgt := 23) hx hb dL_law_656 (by decide) ?_
                                                exact ih (i + 6) z _ _ r87.2.1 (wo w r87.1.1 r87.1.2) r90.2 _ h hc hs H locs ls hP hD hS (lv_sub hl [3, 4, 5, 6, 0] rfl)
                                              · rw [if_neg c93] at h
                                                refine lv_iconst (v := 0) hx hb dL_law_648 (by decide) ?_
                                                obtain rfl := Option.some.inj h
                                                exact hret649 z _ _ r87.2.1 (wo w r87.1.1 r87.1.2) r90.2 H locs ls hc hs hP hD hS
                                          · rw [if_neg c91] at h
                                            refine lv_iconst (v := 0) hx hb dL_law_631 (by decide) ?_
                                            obtain rfl := Option.some.inj h
                                            exact hret632 z _ _ r87.2.1 (wo w r87.1.1 r87.1.2) r90.2 H locs ls hc hs hP hD hS
                                        · rw [if_neg q94] at h
                                          have nq15 : ¬ ((((f i.toNatClampNeg)) &&& 31)).toInt = 0 := nb_ti q15 rfl
                                          have nq20 : ¬ ((((f i.toNatClampNeg)) &&& 31)).toInt = 1 := nb_ti q20 rfl
                                          have nq23 : ¬ ((((f i.toNatClampNeg)) &&& 31)).toInt = 2 := nb_ti q23 rfl
                                          have nq26 : ¬ ((((f i.toNatClampNeg)) &&& 31)).toInt = 3 := nb_ti q26 rfl
                                          have nq33 : ¬ ((((f i.toNatClampNeg)) &&& 31)).toInt = 4 := nb_ti q33 rfl
                                          have nq38 : ¬ ((((f i.toNatClampNeg)) &&& 31)).toInt = 5 := nb_ti q38 rfl
                                          have nq43 : ¬ ((((f i.toNatClampNeg)) &&& 31)).toInt = 6 := nb_ti q43 rfl
                                          have nq48 : ¬ ((((f i.toNatClampNeg)) &&& 31)).toInt = 7 := nb_ti q48 rfl
                                          have nq53 : ¬ ((((f i.toNatClampNeg)) &&& 31)).toInt = 8 := nb_ti q53 rfl
                                          have nq56 : ¬ ((((f i.toNatClampNeg)) &&& 31)).toInt = 9 := nb_ti q56 rfl
                                          have nq59 : ¬ ((((f i.toNatClampNeg)) &&& 31)).toInt = 10 := nb_ti q59 rfl
                                          have nq62 : ¬ ((((f i.toNatClampNeg)) &&& 31)).toInt = 11 := nb_ti q62 rfl
                                          have nq65 : ¬ ((((f i.toNatClampNeg)) &&& 31)).toInt = 12 := nb_ti q65 rfl
                                          have nq72 : ¬ ((((f i.toNatClampNeg)) &&& 31)).toInt = 13 := nb_ti q72 rfl
                                          have nq77 : ¬ ((((f i.toNatClampNeg)) &&& 31)).toInt = 14 := nb_ti q77 rfl
                                          have nq82 : ¬ ((((f i.toNatClampNeg)) &&& 31)).toInt = 15 := nb_ti q82 rfl
                                          have nq85 : ¬ ((((f i.toNatClampNeg)) &&& 31)).toInt = 16 := nb_ti q85 rfl
                                          have nq94 : ¬ ((((f i.toNatClampNeg)) &&& 31)).toInt = 17 := nb_ti q94 rfl
                                          refine lv_tableOut (tgt := 653) hx hb dL_law_40 (by omega) (by decide) ?_
                                          refine lv_iinc (v := i + 6) (lv' := [(4, .int (i + 6)), (0, .ref s0), (1, .ref (a 75)), (2, .ref (b 0)), (3, .ref q0)]) hx hb dL_law_653 hl (k := 4) rfl rfl (by decide) rfl (fun ls hl => ?_)
                                          refine lv_goto (tgt := 23) hx hb dL_law_656 (by decide) ?_
                                          exact ih (i + 6) z _ _ σ w τ _ h hc hs H locs ls hP hD hS (lv_sub hl [1, 2, 3, 4, 0] rfl)
