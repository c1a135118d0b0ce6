/-! The class: levels of operators; operators before an operand. -/
section CWC
variable {σ σ' σ0 τ τ' : CS} {L : LV} {b : Bool} {T : Nat → Int32} {n q q' u al o v mk p sz szB nc0 sz0 mk0 a1 a2 m kk f e t o0 ls h : Nat} {y w : Int32} {l l' cs cs' : List Int32} {tb : List Ent} {α : Type} {S : α → Int32 → CS → Prop} {C : Prop} {E : En} {gl : Nat × (Nat → Nat → Prop)} {Vm : Nat → Prop} {bt : BT} {x : Option α} {s : List Wt}
/-- one more than the level of an operator; 0: it is none -/
def kl (k : Nat) : Nat := if k = 65 then 1 else if k = 64 then 2 else if isRl k then 4 else if k = 2 ∨ k = 3 then 5 else if k = 4 ∨ k = 67 ∨ k = 68 then 6 else if k = 5 then 7 else 0
def levP (x : Int32) : Int32 := if x = 6 then 4 else if x = 7 then 4 else if x = 8 then 5 else if x = 9 then 6 else if x = 10 then (-1) else if x = 11 then (-1) else if x = 12 then (-1) else if x = 13 then (-1) else if x = 14 then (-1) else if x = 15 then (-1) else if x = 16 then (-1) else if x = 17 then (-1) else if x = 18 then (-1) else if x = 19 then (-1) else if x = 20 then 3 else if x = 21 then 3 else if x = 22 then 3 else if x = 23 then 3 else if x = 24 then 3 else if x = 25 then 3 else if x = 26 then (-1) else if x = 27 then (-1) else if x = 28 then (-1) else if x = 29 then (-1) else if x = 30 then (-1) else if x = 31 then (-1) else if x = 32 then (-1) else if x = 33 then (-1) else if x = 34 then (-1) else if x = 35 then (-1) else if x = 36 then (-1) else if x = 37 then (-1) else if x = 38 then (-1) else if x = 39 then (-1) else if x = 40 then (-1) else if x = 41 then (-1) else if x = 42 then (-1) else if x = 43 then (-1) else if x = 44 then (-1) else if x = 45 then (-1) else if x = 46 then 3 else if x = 47 then 3 else if x = 48 then 3 else if x = 49 then (-1) else if x = 50 then (-1) else if x = 51 then (-1) else if x = 52 then (-1) else if x = 53 then (-1) else if x = 54 then (-1) else if x = 55 then (-1) else if x = 56 then (-1) else if x = 57 then (-1) else if x = 58 then (-1) else if x = 59 then (-1) else if x = 60 then (-1) else if x = 61 then (-1) else if x = 62 then (-1) else if x = 63 then (-1) else if x = 64 then 1 else if x = 65 then 0 else if x = 66 then (-1) else if x = 67 then 5 else if x = 68 then 5 else (-1)
def binP (x : Int32) : Int32 := if x = 6 then 128 else if x = 7 then 129 else if x = 8 then 130 else if x = 9 then 133 else if x = 46 then 140 else if x = 47 then 141 else if x = 48 then 142 else if x = 67 then 131 else if x = 68 then 132 else 134 + x - 20
theorem c_level (L : LV) (σ : CS) : Tm (fun k => y_X5_level k 0 L σ) (fun r => r = (levP (L.1 0), σ)) := by
  refine Tm_suc (fun k => by rw [y_X5_level]) ?_
  unfold levP
  by_cases h6 : L.1 0 = 6
  · rw [if_pos h6]; refine Tm_yes h6 ?_; refine Tm_suc (fun k => by rw [y_X5_level]) ?_; exact Tm_some rfl
  rw [if_neg h6]; refine Tm_no h6 ?_
  by_cases h7 : L.1 0 = 7
  · rw [if_pos h7]; refine Tm_yes h7 ?_; refine Tm_suc (fun k => by rw [y_X5_level]) ?_; exact Tm_some rfl
  rw [if_neg h7]; refine Tm_no h7 ?_
  by_cases h8 : L.1 0 = 8
  · rw [if_pos h8]; refine Tm_yes h8 ?_; refine Tm_suc (fun k => by rw [y_X5_level]) ?_; exact Tm_some rfl
  rw [if_neg h8]; refine Tm_no h8 ?_
  by_cases h9 : L.1 0 = 9
  · rw [if_pos h9]; refine Tm_yes h9 ?_; refine Tm_suc (fun k => by rw [y_X5_level]) ?_; exact Tm_some rfl
  rw [if_neg h9]; refine Tm_no h9 ?_
  by_cases h10 : L.1 0 = 10
  · rw [if_pos h10]; refine Tm_yes h10 ?_; refine Tm_suc (fun k => by rw [y_X5_level]) ?_; exact Tm_some rfl
  rw [if_neg h10]; refine Tm_no h10 ?_
  by_cases h11 : L.1 0 = 11
  · rw [if_pos h11]; refine Tm_yes h11 ?_; refine Tm_suc (fun k => by rw [y_X5_level]) ?_; exact Tm_some rfl
  rw [if_neg h11]; refine Tm_no h11 ?_
  by_cases h12 : L.1 0 = 12
  · rw [if_pos h12]; refine Tm_yes h12 ?_; refine Tm_suc (fun k => by rw [y_X5_level]) ?_; exact Tm_some rfl
  rw [if_neg h12]; refine Tm_no h12 ?_
  by_cases h13 : L.1 0 = 13
  · rw [if_pos h13]; refine Tm_yes h13 ?_; refine Tm_suc (fun k => by rw [y_X5_level]) ?_; exact Tm_some rfl
  rw [if_neg h13]; refine Tm_no h13 ?_
  by_cases h14 : L.1 0 = 14
  · rw [if_pos h14]; refine Tm_yes h14 ?_; refine Tm_suc (fun k => by rw [y_X5_level]) ?_; exact Tm_some rfl
  rw [if_neg h14]; refine Tm_no h14 ?_
  by_cases h15 : L.1 0 = 15
  · rw [if_pos h15]; refine Tm_yes h15 ?_; refine Tm_suc (fun k => by rw [y_X5_level]) ?_; exact Tm_some rfl
  rw [if_neg h15]; refine Tm_no h15 ?_
  by_cases h16 : L.1 0 = 16
  · rw [if_pos h16]; refine Tm_yes h16 ?_; refine Tm_suc (fun k => by rw [y_X5_level]) ?_; exact Tm_some rfl
  rw [if_neg h16]; refine Tm_no h16 ?_
  by_cases h17 : L.1 0 = 17
  · rw [if_pos h17]; refine Tm_yes h17 ?_; refine Tm_suc (fun k => by rw [y_X5_level]) ?_; exact Tm_some rfl
  rw [if_neg h17]; refine Tm_no h17 ?_
  by_cases h18 : L.1 0 = 18
  · rw [if_pos h18]; refine Tm_yes h18 ?_; refine Tm_suc (fun k => by rw [y_X5_level]) ?_; exact Tm_some rfl
  rw [if_neg h18]; refine Tm_no h18 ?_
  by_cases h19 : L.1 0 = 19
  · rw [if_pos h19]; refine Tm_yes h19 ?_; refine Tm_suc (fun k => by rw [y_X5_level]) ?_; exact Tm_some rfl
  rw [if_neg h19]; refine Tm_no h19 ?_
  by_cases h20 : L.1 0 = 20
  · rw [if_pos h20]; refine Tm_yes h20 ?_; refine Tm_suc (fun k => by rw [y_X5_level]) ?_; exact Tm_some rfl
  rw [if_neg h20]; refine Tm_no h20 ?_
  by_cases h21 : L.1 0 = 21
  · rw [if_pos h21]; refine Tm_yes h21 ?_; refine Tm_suc (fun k => by rw [y_X5_level]) ?_; exact Tm_some rfl
  rw [if_neg h21]; refine Tm_no h21 ?_
  by_cases h22 : L.1 0 = 22
  · rw [if_pos h22]; refine Tm_yes h22 ?_; refine Tm_suc (fun k => by rw [y_X5_level]) ?_; exact Tm_some rfl
  rw [if_neg h22]; refine Tm_no h22 ?_
  by_cases h23 : L.1 0 = 23
  · rw [if_pos h23]; refine Tm_yes h23 ?_; refine Tm_suc (fun k => by rw [y_X5_level]) ?_; exact Tm_some rfl
  rw [if_neg h23]; refine Tm_no h23 ?_
  by_cases h24 : L.1 0 = 24
  · rw [if_pos h24]; refine Tm_yes h24 ?_; refine Tm_suc (fun k => by rw [y_X5_level]) ?_; exact Tm_some rfl
  rw [if_neg h24]; refine Tm_no h24 ?_
  by_cases h25 : L.1 0 = 25
  · rw [if_pos h25]; refine Tm_yes h25 ?_; refine Tm_suc (fun k => by rw [y_X5_level]) ?_; exact Tm_some rfl
  rw [if_neg h25]; refine Tm_no h25 ?_
  by_cases h26 : L.1 0 = 26
  · rw [if_pos h26]; refine Tm_yes h26 ?_; refine Tm_suc (fun k => by rw [y_X5_level]) ?_; exact Tm_some rfl
  rw [if_neg h26]; refine Tm_no h26 ?_
  by_cases h27 : L.1 0 = 27
  · rw [if_pos h27]; refine Tm_yes h27 ?_; refine Tm_suc (fun k => by rw [y_X5_level]) ?_; exact Tm_some rfl
  rw [if_neg h27]; refine Tm_no h27 ?_
  by_cases h28 : L.1 0 = 28
  · rw [if_pos h28]; refine Tm_yes h28 ?_; refine Tm_suc (fun k => by rw [y_X5_level]) ?_; exact Tm_some rfl
  rw [if_neg h28]; refine Tm_no h28 ?_
  by_cases h29 : L.1 0 = 29
  · rw [if_pos h29]; refine Tm_yes h29 ?_; refine Tm_suc (fun k => by rw [y_X5_level]) ?_; exact Tm_some rfl
  rw [if_neg h29]; refine Tm_no h29 ?_
  by_cases h30 : L.1 0 = 30
  · rw [if_pos h30]; refine Tm_yes h30 ?_; refine Tm_suc (fun k => by rw [y_X5_level]) ?_; exact Tm_some rfl
  rw [if_neg h30]; refine Tm_no h30 ?_
  by_cases h31 : L.1 0 = 31
  · rw [if_pos h31]; refine Tm_yes h31 ?_; refine Tm_suc (fun k => by rw [y_X5_level]) ?_; exact Tm_some rfl
  rw [if_neg h31]; refine Tm_no h31 ?_
  by_cases h32 : L.1 0 = 32
  · rw [if_pos h32]; refine Tm_yes h32 ?_; refine Tm_suc (fun k => by rw [y_X5_level]) ?_; exact Tm_some rfl
  rw [if_neg h32]; refine Tm_no h32 ?_
  by_cases h33 : L.1 0 = 33
  · rw [if_pos h33]; refine Tm_yes h33 ?_; refine Tm_suc (fun k => by rw [y_X5_level]) ?_; exact Tm_some rfl
  rw [if_neg h33]; refine Tm_no h33 ?_
  by_cases h34 : L.1 0 = 34
  · rw [if_pos h34]; refine Tm_yes h34 ?_; refine Tm_suc (fun k => by rw [y_X5_level]) ?_; exact Tm_some rfl
  rw [if_neg h34]; refine Tm_no h34 ?_
  by_cases h35 : L.1 0 = 35
  · rw [if_pos h35]; refine Tm_yes h35 ?_; refine Tm_suc (fun k => by rw [y_X5_level]) ?_; exact Tm_some rfl
  rw [if_neg h35]; refine Tm_no h35 ?_
  by_cases h36 : L.1 0 = 36
  · rw [if_pos h36]; refine Tm_yes h36 ?_; refine Tm_suc (fun k => by rw [y_X5_level]) ?_; exact Tm_some rfl
  rw [if_neg h36]; refine Tm_no h36 ?_
  by_cases h37 : L.1 0 = 37
  · rw [if_pos h37]; refine Tm_yes h37 ?_; refine Tm_suc (fun k => by rw [y_X5_level]) ?_; exact Tm_some rfl
  rw [if_neg h37]; refine Tm_no h37 ?_
  by_cases h38 : L.1 0 = 38
  · rw [if_pos h38]; refine Tm_yes h38 ?_; refine Tm_suc (fun k => by rw [y_X5_level]) ?_; exact Tm_some rfl
  rw [if_neg h38]; refine Tm_no h38 ?_
  by_cases h39 : L.1 0 = 39
  · rw [if_pos h39]; refine Tm_yes h39 ?_; refine Tm_suc (fun k => by rw [y_X5_level]) ?_; exact Tm_some rfl
  rw [if_neg h39]; refine Tm_no h39 ?_
  by_cases h40 : L.1 0 = 40
  · rw [if_pos h40]; refine Tm_yes h40 ?_; refine Tm_suc (fun k => by rw [y_X5_level]) ?_; exact Tm_some rfl
  rw [if_neg h40]; refine Tm_no h40 ?_
  by_cases h41 : L.1 0 = 41
  · rw [if_pos h41]; refine Tm_yes h41 ?_; refine Tm_suc (fun k => by rw [y_X5_level]) ?_; exact Tm_some rfl
  rw [if_neg h41]; refine Tm_no h41 ?_
  by_cases h42 : L.1 0 = 42
  · rw [if_pos h42]; refine Tm_yes h42 ?_; refine Tm_suc (fun k => by rw [y_X5_level]) ?_; exact Tm_some rfl
  rw [if_neg h42]; refine Tm_no h42 ?_
  by_cases h43 : L.1 0 = 43
  · rw [if_pos h43]; refine Tm_yes h43 ?_; refine Tm_suc (fun k => by rw [y_X5_level]) ?_; exact Tm_some rfl
  rw [if_neg h43]; refine Tm_no h43 ?_
  by_cases h44 : L.1 0 = 44
  · rw [if_pos h44]; refine Tm_yes h44 ?_; refine Tm_suc (fun k => by rw [y_X5_level]) ?_; exact Tm_some rfl
  rw [if_neg h44]; refine Tm_no h44 ?_
  by_cases h45 : L.1 0 = 45
  · rw [if_pos h45]; refine Tm_yes h45 ?_; refine Tm_suc (fun k => by rw [y_X5_level]) ?_; exact Tm_some rfl
  rw [if_neg h45]; refine Tm_no h45 ?_
  by_cases h46 : L.1 0 = 46
  · rw [if_pos h46]; refine Tm_yes h46 ?_; refine Tm_suc (fun k => by rw [y_X5_level]) ?_; exact Tm_some rfl
  rw [if_neg h46]; refine Tm_no h46 ?_
  by_cases h47 : L.1 0 = 47
  · rw [if_pos h47]; refine Tm_yes h47 ?_; refine Tm_suc (fun k => by rw [y_X5_level]) ?_; exact Tm_some rfl
  rw [if_neg h47]; refine Tm_no h47 ?_
  by_cases h48 : L.1 0 = 48
  · rw [if_pos h48]; refine Tm_yes h48 ?_; refine Tm_suc (fun k => by rw [y_X5_level]) ?_; exact Tm_some rfl
  rw [if_neg h48]; refine Tm_no h48 ?_
  by_cases h49 : L.1 0 = 49
  · rw [if_pos h49]; refine Tm_yes h49 ?_; refine Tm_suc (fun k => by rw [y_X5_level]) ?_; exact Tm_some rfl
  rw [if_neg h49]; refine Tm_no h49 ?_
  by_cases h50 : L.1 0 = 50
  · rw [if_pos h50]; refine Tm_yes h50 ?_; refine Tm_suc (fun k => by rw [y_X5_level]) ?_; exact Tm_some rfl
  rw [if_neg h50]; refine Tm_no h50 ?_
  by_cases h51 : L.1 0 = 51
  · rw [if_pos h51]; refine Tm_yes h51 ?_; refine Tm_suc (fun k => by rw [y_X5_level]) ?_; exact Tm_some rfl
  rw [if_neg h51]; refine Tm_no h51 ?_
  by_cases h52 : L.1 0 = 52
  · rw [if_pos h52]; refine Tm_yes h52 ?_; refine Tm_suc (fun k => by rw [y_X5_level]) ?_; exact Tm_some rfl
  rw [if_neg h52]; refine Tm_no h52 ?_
  by_cases h53 : L.1 0 = 53
  · rw [if_pos h53]; refine Tm_yes h53 ?_; refine Tm_suc (fun k => by rw [y_X5_level]) ?_; exact Tm_some rfl
  rw [if_neg h53]; refine Tm_no h53 ?_
  by_cases h54 : L.1 0 = 54
  · rw [if_pos h54]; refine Tm_yes h54 ?_; refine Tm_suc (fun k => by rw [y_X5_level]) ?_; exact Tm_some rfl
  rw [if_neg h54]; refine Tm_no h54 ?_
  by_cases h55 : L.1 0 = 55
  · rw [if_pos h55]; refine Tm_yes h55 ?_; refine Tm_suc (fun k => by rw [y_X5_level]) ?_; exact Tm_some rfl
  rw [if_neg h55]; refine Tm_no h55 ?_
  by_cases h56 : L.1 0 = 56
  · rw [if_pos h56]; refine Tm_yes h56 ?_; refine Tm_suc (fun k => by rw [y_X5_level]) ?_; exact Tm_some rfl
  rw [if_neg h56]; refine Tm_no h56 ?_
  by_cases h57 : L.1 0 = 57
  · rw [if_pos h57]; refine Tm_yes h57 ?_; refine Tm_suc (fun k => by rw [y_X5_level]) ?_; exact Tm_some rfl
  rw [if_neg h57]; refine Tm_no h57 ?_
  by_cases h58 : L.1 0 = 58
  · rw [if_pos h58]; refine Tm_yes h58 ?_; refine Tm_suc (fun k => by rw [y_X5_level]) ?_; exact Tm_some rfl
  rw [if_neg h58]; refine Tm_no h58 ?_
  by_cases h59 : L.1 0 = 59
  · rw [if_pos h59]; refine Tm_yes h59 ?_; refine Tm_suc (fun k => by rw [y_X5_level]) ?_; exact Tm_some rfl
  rw [if_neg h59]; refine Tm_no h59 ?_
  by_cases h60 : L.1 0 = 60
  · rw [if_pos h60]; refine Tm_yes h60 ?_; refine Tm_suc (fun k => by rw [y_X5_level]) ?_; exact Tm_some rfl
  rw [if_neg h60]; refine Tm_no h60 ?_
  by_cases h61 : L.1 0 = 61
  · rw [if_pos h61]; refine Tm_yes h61 ?_; refine Tm_suc (fun k => by rw [y_X5_level]) ?_; exact Tm_some rfl
  rw [if_neg h61]; refine Tm_no h61 ?_
  by_cases h62 : L.1 0 = 62
  · rw [if_pos h62]; refine Tm_yes h62 ?_; refine Tm_suc (fun k => by rw [y_X5_level]) ?_; exact Tm_some rfl
  rw [if_neg h62]; refine Tm_no h62 ?_
  by_cases h63 : L.1 0 = 63
  · rw [if_pos h63]; refine Tm_yes h63 ?_; refine Tm_suc (fun k => by rw [y_X5_level]) ?_; exact Tm_some rfl
  rw [if_neg h63]; refine Tm_no h63 ?_
  by_cases h64 : L.1 0 = 64
  · rw [if_pos h64]; refine Tm_yes h64 ?_; refine Tm_suc (fun k => by rw [y_X5_level]) ?_; exact Tm_some rfl
  rw [if_neg h64]; refine Tm_no h64 ?_
  by_cases h65 : L.1 0 = 65
  · rw [if_pos h65]; refine Tm_yes h65 ?_; refine Tm_suc (fun k => by rw [y_X5_level]) ?_; exact Tm_some rfl
  rw [if_neg h65]; refine Tm_no h65 ?_
  by_cases h66 : L.1 0 = 66
  · rw [if_pos h66]; refine Tm_yes h66 ?_; refine Tm_suc (fun k => by rw [y_X5_level]) ?_; exact Tm_some rfl
  rw [if_neg h66]; refine Tm_no h66 ?_
  by_cases h67 : L.1 0 = 67
  · rw [if_pos h67]; refine Tm_yes h67 ?_; refine Tm_suc (fun k => by rw [y_X5_level]) ?_; exact Tm_some rfl
  rw [if_neg h67]; refine Tm_no h67 ?_
  by_cases h68 : L.1 0 = 68
  · rw [if_pos h68]; refine Tm_yes h68 ?_; refine Tm_suc (fun k => by rw [y_X5_level]) ?_; exact Tm_some rfl
  rw [if_neg h68]; refine Tm_no h68 ?_
  refine Tm_suc (fun k => by rw [y_X5_level]) ?_
  exact Tm_some rfl
theorem c_binOp (L : LV) (σ : CS) : Tm (fun k => y_X5_binaryOp k 0 L σ) (fun r => r = (binP (L.1 0), σ)) := by
  refine Tm_suc (fun k => by rw [y_X5_binaryOp]) ?_
  unfold binP
  by_cases h6 : L.1 0 = 6
  · rw [if_pos h6]; refine Tm_yes h6 ?_; refine Tm_suc (fun k => by rw [y_X5_binaryOp]) ?_; exact Tm_some rfl
  rw [if_neg h6]; refine Tm_no h6 ?_
  by_cases h7 : L.1 0 = 7
  · rw [if_pos h7]; refine Tm_yes h7 ?_; refine Tm_suc (fun k => by rw [y_X5_binaryOp]) ?_; exact Tm_some rfl
  rw [if_neg h7]; refine Tm_no h7 ?_
  by_cases h8 : L.1 0 = 8
  · rw [if_pos h8]; refine Tm_yes h8 ?_; refine Tm_suc (fun k => by rw [y_X5_binaryOp]) ?_; exact Tm_some rfl
  rw [if_neg h8]; refine Tm_no h8 ?_
  by_cases h9 : L.1 0 = 9
  · rw [if_pos h9]; refine Tm_yes h9 ?_; refine Tm_suc (fun k => by rw [y_X5_binaryOp]) ?_; exact Tm_some rfl
  rw [if_neg h9]; refine Tm_no h9 ?_
  by_cases h46 : L.1 0 = 46
  · rw [if_pos h46]; refine Tm_yes h46 ?_; refine Tm_suc (fun k => by rw [y_X5_binaryOp]) ?_; exact Tm_some rfl
  rw [if_neg h46]; refine Tm_no h46 ?_
  by_cases h47 : L.1 0 = 47
  · rw [if_pos h47]; refine Tm_yes h47 ?_; refine Tm_suc (fun k => by rw [y_X5_binaryOp]) ?_; exact Tm_some rfl
  rw [if_neg h47]; refine Tm_no h47 ?_
  by_cases h48 : L.1 0 = 48
  · rw [if_pos h48]; refine Tm_yes h48 ?_; refine Tm_suc (fun k => by rw [y_X5_binaryOp]) ?_; exact Tm_some rfl
  rw [if_neg h48]; refine Tm_no h48 ?_
  by_cases h67 : L.1 0 = 67
  · rw [if_pos h67]; refine Tm_yes h67 ?_; refine Tm_suc (fun k => by rw [y_X5_binaryOp]) ?_; exact Tm_some rfl
  rw [if_neg h67]; refine Tm_no h67 ?_
  by_cases h68 : L.1 0 = 68
  · rw [if_pos h68]; refine Tm_yes h68 ?_; refine Tm_suc (fun k => by rw [y_X5_binaryOp]) ?_; exact Tm_some rfl
  rw [if_neg h68]; refine Tm_no h68 ?_
  refine Tm_suc (fun k => by rw [y_X5_binaryOp]) ?_
  exact Tm_some rfl
def lvB (k : Nat) : Bool := !(decide (tkV k)) || (decide (levP (cKd k) = nI (kl k) - 1) && (!(decide (4 ≤ kl k)) || (decide (128 ≤ uN (binP (cKd k))) && decide (uN (binP (cKd k)) < 144))))
theorem lv_ck : ∀ k : Nat, k < 85 → lvB k = true := by decide +kernel
theorem lvx_all {k : Nat} (hk : tkV k) : levP (cKd k) = nI (kl k) - 1 ∧ (4 ≤ kl k → 128 ≤ uN (binP (cKd k)) ∧ uN (binP (cKd k)) < 144) := by
  have z := lv_ck k (by omega)
  unfold lvB at z
  rw [decide_eq_true hk] at z
  have z' : (decide (levP (cKd k) = nI (kl k) - 1) && (!(decide (4 ≤ kl k)) || (decide (128 ≤ uN (binP (cKd k))) && decide (uN (binP (cKd k)) < 144)))) = true := z
  rw [Bool.and_eq_true, decide_eq_true_eq] at z'
  refine ⟨z'.1, fun h4 => ?_⟩
  have y := z'.2
  rw [decide_eq_true h4] at y
  have y' : (decide (128 ≤ uN (binP (cKd k))) && decide (uN (binP (cKd k)) < 144)) = true := y
  rw [Bool.and_eq_true, decide_eq_true_eq, decide_eq_true_eq] at y'
  exact y'
theorem kl_b (k : Nat) : kl k ≤ 7 ∧ ¬ kl k = 3 := by
  unfold kl
  by_cases c1 : k = 65
  · rw [if_pos c1]; decide
  rw [if_neg c1]
  by_cases c2 : k = 64
  · rw [if_pos c2]; decide
  rw [if_neg c2]
  by_cases c3 : isRl k
  · rw [if_pos c3]; decide
  rw [if_neg c3]
  by_cases c4 : k = 2 ∨ k = 3
  · rw [if_pos c4]; decide
  rw [if_neg c4]
  by_cases c5 : k = 4 ∨ k = 67 ∨ k = 68
  · rw [if_pos c5]; decide
  rw [if_neg c5]
  by_cases c6 : k = 5
  · rw [if_pos c6]; decide
  rw [if_neg c6]; decide
/-- the level above which a not may not stand -/
def topL (ls : Nat) : List Wt → Nat
  | [] => ls
  | e :: _ => e.1
theorem c_ppl (wa : WA T n b u al σ0 tb gl Vm o0 mk p sz a1 a2 s q v cs t τ) (l1 : L.1 1 = nI mk) : Tm (fun k => y_X5_postponedLevel k 0 L τ) (fun r => r.2 = τ ∧ (s = [] → r.1 = -1) ∧ ∀ e s', s = e :: s' → r.1 = nI e.1) := by
  have e11 := wa.1.1.1.2.2.1.1
  have m41 := wa.1.1.1.2.2.1.2
  refine Tm_suc (fun k => by rw [y_X5_postponedLevel]) ?_
  rw [l1, e11]
  rcases s with _ | ⟨e, s1⟩
  · refine Tm_yes ?_ ?_
    · rw [n_le (by show mk + 0 < _; omega) (by omega)]; exact Nat.le_refl _
    refine Tm_suc (fun k => by rw [y_X5_postponedLevel]) ?_
    refine Tm_suc (fun k => by rw [y_X5_postponedLevel]) ?_
    exact Tm_some ⟨rfl, fun _ => rfl, fun e s' z => by cases z⟩
  · have el : (e :: s1).length = s1.length + 1 := rfl
    rw [el] at e11 m41 ⊢
    refine Tm_no ?_ ?_
    · rw [n_le (by omega) (by omega)]; omega
    have e3 : nI (mk + 3 * (s1.length + 1)) - 3 = nI (mk + 3 * s1.length) := by
      rw [show (3 : Int32) = nI 3 from rfl, n_sub (by omega) (by omega)]
      exact congrArg nI (by omega)
    rw [e3]
    refine Tm_chk (u_in (by rw [u_n (by omega)]; omega) (by omega)) ?_
    rw [n_cl (by omega), wa.2.1.1.1]
    refine Tm_suc (fun k => by rw [y_X5_postponedLevel]) ?_
    exact Tm_some ⟨rfl, fun z => (by cases z), fun e' s' z => by cases z; rfl⟩
def wayI (k : Nat) : Int32 := if k = 2 then 0 else if k = 4 then 1 else if k = 81 then 2 else if k = 80 then 3 else -1
theorem pf_4 {k0 : Nat} {Q : RS → Prop} (hk : tkV k0) (l3 : L.1 3 = cKd k0) (cont : ∀ L2 : LV, L2.1 3 = cKd k0 → L2.1 4 = L.1 100 → L2.1 100 = wayI k0 → Tm (fun k => f_X5_prefix k 6 L2 τ) Q) : Tm (fun k => f_X5_prefix k 4 L τ) Q := by
  have kn : ∀ j, tkV j → ¬ k0 = j → ¬ L.1 3 = cKd j := fun j hj z w => z ((ck_e hk hj).1 (l3.symm.trans w))
  have ky : ∀ j, k0 = j → L.1 3 = cKd j := fun j z => by rw [l3, z]
  unfold wayI at cont
  refine Tm_suc (fun k => by rw [f_X5_prefix]) ?_
  by_cases k2 : k0 = 2
  · rw [if_pos k2] at cont
    refine Tm_yes (ky 2 k2) ?_
    exact cont _ l3 rfl rfl
  rw [if_neg k2] at cont
  refine Tm_no (kn 2 (by decide) k2) ?_
  refine Tm_suc (fun k => by rw [f_X5_prefix]) ?_
  by_cases k4 : k0 = 4
  · rw [if_pos k4] at cont
    refine Tm_yes (ky 4 k4) ?_
    exact cont _ l3 rfl rfl
  rw [if_neg k4] at cont
  refine Tm_no (kn 4 (by decide) k4) ?_
  refine Tm_suc (fun k => by rw [f_X5_prefix]) ?_
  by_cases k81 : k0 = 81
  · rw [if_pos k81] at cont
    refine Tm_yes (ky 81 k81) ?_
    exact cont _ l3 rfl rfl
  rw [if_neg k81] at cont
  refine Tm_no (kn 81 (by decide) k81) ?_
  refine Tm_suc (fun k => by rw [f_X5_prefix]) ?_
  by_cases k80 : k0 = 80
  · rw [if_pos k80] at cont
    refine Tm_yes (ky 80 k80) ?_
    exact cont _ l3 rfl rfl
  rw [if_neg k80] at cont
  refine Tm_no (kn 80 (by decide) k80) ?_
  refine Tm_suc (fun k => by rw [f_X5_prefix]) ?_
  exact cont _ l3 rfl rfl
theorem pf_0 {Q : RS → Prop} (wa : WA T n b u al σ0 tb gl Vm o0 mk p sz a1 a2 s q v cs t τ) (hls : ls ≤ 7) (hml : mk ≤ 21504) (l1 : L.1 1 = nI mk) (l2 : L.1 2 = nI ls) (cont : ∀ L2 : LV, L2.1 3 = cKd (tkK T n q) → L2.1 100 = (if tkK T n q = 66 ∧ topL ls s ≤ 2 then 1 else 0) → Tm (fun k => f_X5_prefix k 4 L2 τ) Q) : Tm (fun k => f_X5_prefix k 0 L τ) Q := by
  have e11 := wa.1.1.1.2.2.1.1
  have m41 := wa.1.1.1.2.2.1.2
  have ek : τ.1 3702 = cKd (tkK T n q) := wa.1.1.1.1.2.2.2.2.2.1
  have b1 : ∀ L2 : LV, L2.1 3 = cKd (tkK T n q) → ¬ (tkK T n q = 66 ∧ topL ls s ≤ 2) → Tm (fun k => f_X5_prefix k 1 L2 τ) Q := by
    intro L2 g3 nc
    refine Tm_suc (fun k => by rw [f_X5_prefix]) ?_
    exact cont _ g3 (by rw [if_neg nc]; rfl)
  have b3 : ∀ L2 : LV, L2.1 3 = cKd (tkK T n q) → tkK T n q = 66 → L2.1 100 = nI (topL ls s) → topL ls s ≤ 7 → Tm (fun k => f_X5_prefix k 3 L2 τ) Q := by
    intro L2 g3 k66 g100 t7
    refine Tm_suc (fun k => by rw [f_X5_prefix]) ?_
    rw [g100]
    by_cases c : topL ls s ≤ 2
    · refine Tm_no ?_ ?_
      · show ¬ nI 2 < nI (topL ls s)
        rw [n_lt (by decide) (by omega)]; omega
      · exact cont _ g3 (by rw [if_pos ⟨k66, c⟩]; rfl)
    · refine Tm_yes ?_ ?_
      · show nI 2 < nI (topL ls s)
        rw [n_lt (by decide) (by omega)]; omega
      · exact b1 L2 g3 (fun z => c z.2)
  refine Tm_suc (fun k => by rw [f_X5_prefix]) ?_
  by_cases k66 : tkK T n q = 66
  · refine Tm_yes ((lx_k (kk := 66) wa.1.1.1 (by decide)).2 k66) ?_
    rcases s with _ | ⟨e, s1⟩
    · refine Tm_yes ?_ ?_
      · rw [e11, l1]; rfl
      · exact b3 _ ek k66 l2 hls
    · have el : (e :: s1).length = s1.length + 1 := rfl
      have e7 : e.1 ≤ 7 := by rcases wa.2.2.1.1 with z | z | z | z <;> omega
      refine Tm_no ?_ ?_
      · rw [e11, l1, n_eq (by omega) (by omega)]; omega
      · refine Tm_suc (fun k => by rw [f_X5_prefix]) ?_
        refine Tm_op (c_ppl wa l1) (fun r z => ?_)
        rw [z.1]
        exact b3 _ ek k66 (z.2.2 e s1 rfl) e7
  · refine Tm_no (fun z => k66 ((lx_k (kk := 66) wa.1.1.1 (by decide)).1 z)) ?_
    exact b1 _ ek (fun z => k66 z.1)
/-- the next token; marks stay -/
theorem st_advX {f' : Nat → RS → Option RS} (h : Sy T n b u al σ0 nc0 sz0 mk0 a1 a2 tb o q v mk p szB cs τ) (hx : (tkK T n (tkN T n q) = 0 ∧ x = none) ∨ (¬ tkK T n (tkN T n q) = 0 ∧ C)) (cont : ∀ (τ' : CS) (ret : Int32) (n1 n2 : Nat), C → Sy T n b u al σ0 nc0 sz0 mk0 (a1 + n1) (a2 + n2) tb o (tkN T n q) v mk p szB cs τ' → (∀ i, i < mk → τ'.2.2.1 41 i = τ.2.2.1 41 i) → Tm (fun k => f' k ((0, ret), τ', (n1, n2))) (QPo b u nc0 sz0 mk0 x S σ0 (a1 + n1) (a2 + n2))) : Tm (fun k => ox (f_X2_advance k 0 L τ) (f' k)) (QPo b u nc0 sz0 mk0 x S σ0 a1 a2) := by
  have adv := c_advQ (L := L) h.1.1
  rcases hx with ⟨w1, w2⟩ | ⟨w1, w2⟩
  · rw [w2]
    exact st_advY (C := False) h (Or.inl ⟨w1, rfl⟩) (fun _ _ _ c => c.elim)
  · refine st_call (C := True) (z := some ()) (R := fun _ _ τ2 => QS T n b u al tb o (tkN T n q) v mk p (szB + cs.length) τ2) h.1 (Tm_mono adv (fun r y => ?_)) (Or.inr ⟨(), rfl, trivial, fun τ2 ret n1 n2 hq xk hc2 => ?_⟩)
    · have y1 := y.2.1 w1
      refine ⟨fun _ _ => ⟨y1.1, y1.2⟩, fun y => (by cases y), fun y0 => ?_, fun y0 => absurd y1.1 y0, y.2.2.2⟩
      have y2 := y.2.2.1.1 y0
      exact ⟨by have := y2.1; omega, by have := y2.2; omega⟩
    · exact cont τ2 ret n1 n2 w2 (Sy_c0 h hq xk hc2 h.1.2.2.2.1 h.1.2.2.2.2.2) xk.2.2.2.2.2.2.1
theorem st_expX {f' : Nat → RS → Option RS} (h : Sy T n b u al σ0 nc0 sz0 mk0 a1 a2 tb o q v mk p szB cs τ) (hk : tkV kk) (h1 : L.1 1 = cKd kk) (hx : (¬ (tkK T n q = kk ∧ ¬ tkK T n (tkN T n q) = 0) ∧ x = none) ∨ ((tkK T n q = kk ∧ ¬ tkK T n (tkN T n q) = 0) ∧ C)) (cont : ∀ (τ' : CS) (ret : Int32) (n1 n2 : Nat), C → Sy T n b u al σ0 nc0 sz0 mk0 (a1 + n1) (a2 + n2) tb o (tkN T n q) v mk p szB cs τ' → (∀ i, i < mk → τ'.2.2.1 41 i = τ.2.2.1 41 i) → Tm (fun k => f' k ((0, ret), τ', (n1, n2))) (QPo b u nc0 sz0 mk0 x S σ0 (a1 + n1) (a2 + n2))) : Tm (fun k => ox (f_X5_expect k 0 L τ) (f' k)) (QPo b u nc0 sz0 mk0 x S σ0 a1 a2) := by
  rcases hx with ⟨w1, w2⟩ | ⟨w1, c⟩
  · exact st_call (C := True) h.1 (c_expectQ h.1.1 hk h1 (Or.inl ⟨w1, rfl⟩)) (Or.inl ⟨rfl, w2⟩)
  · exact st_call (C := C) h.1 (c_expectQ h.1.1 hk h1 (Or.inr ⟨w1, rfl⟩)) (Or.inr ⟨_, rfl, c, fun τ' ret n1 n2 hq xk hc => cont τ' ret n1 n2 c (Sy_c0 h hq xk hc h.1.2.2.2.1 h.1.2.2.2.2.2) xk.2.2.2.2.2.2.1⟩)
theorem st_opX {f' : Nat → RS → Option RS} (h : Sy T n b u al σ0 nc0 sz0 mk0 a1 a2 tb o q v mk p szB cs τ) (hx : (¬ (¬ o = 20 ∧ ¬ tkK T n (tkN T n q) = 0) ∧ x = none) ∨ ((¬ o = 20 ∧ ¬ tkK T n (tkN T n q) = 0) ∧ C)) (cont : ∀ (τ' : CS) (ret : Int32) (n1 n2 : Nat), C → Sy T n b u al σ0 nc0 sz0 mk0 (a1 + n1) (a2 + n2) tb (o + 1) (tkN T n q) v mk p szB cs τ' → (∀ i, i < mk → τ'.2.2.1 41 i = τ.2.2.1 41 i) → Tm (fun k => f' k ((0, ret), τ', (n1, n2))) (QPo b u nc0 sz0 mk0 x S σ0 (a1 + n1) (a2 + n2))) : Tm (fun k => ox (f_X5_opens k 0 L τ) (f' k)) (QPo b u nc0 sz0 mk0 x S σ0 a1 a2) := by
  rcases hx with ⟨w1, w2⟩ | ⟨w1, c⟩
  · exact st_call (C := True) h.1 (c_opensQ h.1.1 (Or.inl ⟨w1, rfl⟩)) (Or.inl ⟨rfl, w2⟩)
  · exact st_call (C := C) h.1 (c_opensQ h.1.1 (Or.inr ⟨w1, rfl⟩)) (Or.inr ⟨_, rfl, c, fun τ' ret n1 n2 hq xk hc => cont τ' ret n1 n2 c (Sy_c0 h hq xk hc h.1.2.2.2.1 h.1.2.2.2.2.2) xk.2.2.2.2.2.2.1⟩)
theorem WA_push {e : Wt} (wa : WA T n b u al σ0 tb gl Vm o0 mk p sz a1 a2 s q v cs 0 τ) (he : (e.1 = 2 ∧ e.2.1 = 9) ∨ (e.1 = 7 ∧ (e.2.1 = 160 ∨ e.2.1 = 161 ∨ e.2.1 = 112))) (sy : Sy T n b u al σ0 tb.length sz mk sz0 mk0 tb (o0 + wO s + 1) q' v (mk + 3 * s.length + 3) p sz cs τ') (hk : ∀ i, i < mk + 3 * s.length → τ'.2.2.1 41 i = τ.2.2.1 41 i) (hm : τ'.2.2.1 41 (mk + 3 * s.length) = nI e.1 ∧ τ'.2.2.1 41 (mk + 3 * s.length + 1) = nI e.2.1 ∧ τ'.2.2.1 41 (mk + 3 * s.length + 2) = nI e.2.2) : WQ T n b u al tb gl Vm o0 mk p sz (e :: s) q' v cs 0 τ' := by
  have el : (e :: s).length = s.length + 1 := rfl
  refine ⟨⟨?_, sy.2⟩, ⟨hm, MkW_k s mk hk wa.2.1⟩, ⟨Or.inr ?_, wa.2.2.1⟩, ?_⟩
  · rw [wO_y (by omega), el, show mk + 3 * (s.length + 1) = mk + 3 * s.length + 3 by omega]
    exact sy.1.1
  · rcases he with z | z
    · exact Or.inl z
    · exact Or.inr (Or.inr z)
  · rw [wH_no (by omega), wT_n (by omega)]
    exact wa.2.2.2
theorem c_pf8 {e : Wt} {z : Option Nat} (wa : WA T n b u al σ0 tb gl Vm o0 mk p sz a1 a2 s q v cs 0 τ) (hm : mk + 3 * s.length + 3 ≤ 21504) (hc : (L.1 4 = 1 ∧ e = (2, 9, 0)) ∨ (L.1 4 = 0 ∧ L.1 5 = -1 ∧ ((L.1 3 = cKd 3 ∧ e = (7, 160, 0)) ∨ (L.1 3 = cKd 23 ∧ e = (7, 161, 0))))) (hx : (¬ (¬ o0 + wO s = 20 ∧ ¬ tkK T n (tkN T n q) = 0) ∧ z = none) ∨ ((¬ o0 + wO s = 20 ∧ ¬ tkK T n (tkN T n q) = 0) ∧ z = some (tkN T n q))) : Tm (fun k => f_X5_prefix k 8 L τ) (QPo b u tb.length sz mk z (fun q' ret τ' => ret = 1 ∧ WQ T n b u al tb gl Vm o0 mk p sz (e :: s) q' v cs 0 τ') σ0 a1 a2) := by
  have e5 := wa.1.1.1.2.2.2.2.2.1.1
  have o20 := wa.1.1.1.2.2.2.2.2.1.2
  have b16 : ∀ (L2 : LV) (τ2 : CS) (n1 n2 : Nat), z = some (tkN T n q) → L2.1 101 = nI e.1 → L2.1 100 = nI e.2.1 → e.2.2 = 0 → ((e.1 = 2 ∧ e.2.1 = 9) ∨ (e.1 = 7 ∧ (e.2.1 = 160 ∨ e.2.1 = 161 ∨ e.2.1 = 112))) → Sy T n b u al σ0 tb.length sz mk n1 n2 tb (o0 + wO s + 1) (tkN T n q) v (mk + 3 * s.length) p sz cs τ2 → (∀ i, i < mk + 3 * s.length → τ2.2.2.1 41 i = τ.2.2.1 41 i) → Tm (fun k => f_X5_prefix k 16 L2 τ2) (QPo b u tb.length sz mk z (fun q' ret τ' => ret = 1 ∧ WQ T n b u al tb gl Vm o0 mk p sz (e :: s) q' v cs 0 τ') σ0 n1 n2) := by
    intro L2 τ2 n1 n2 hz g1 g2 g3 he s2 k2
    refine Tm_suc (fun k => by rw [f_X5_prefix]) ?_
    refine st_post s2 hm (fun τ3 x1 x2 s3 k3 w3 _ => ?_)
    refine Tm_suc (fun k => by rw [f_X5_prefix]) ?_
    rw [hz]
    refine Tm_some (Qfin s3.1 ⟨rfl, WA_push wa he s3 (fun i hi => (k3 i hi).trans (k2 i hi)) ⟨?_, ?_, ?_⟩⟩)
    · exact w3.1.trans g1
    · exact w3.2.1.trans g2
    · rw [g3]; exact w3.2.2
  refine Tm_suc (fun k => by rw [f_X5_prefix]) ?_
  rw [e5]
  refine Tm_ite (fun c => ?_) (fun c => ?_)
  · have c' : nI (o0 + wO s) < nI 20 := c
    rw [n_lt (by omega) (by decide)] at c'
    refine Tm_suc (fun k => by rw [f_X5_prefix]) ?_
    rw [e5, n_add1]
    have s1 := Sy_o (o' := o0 + wO s + 1) wa.1 (by omega)
    rcases hx with ⟨w1, w2⟩ | ⟨w1, w2⟩
    · rw [w2]
      exact st_advX (C := False) s1 (Or.inl ⟨Classical.byContradiction (fun y => w1 ⟨by omega, y⟩), rfl⟩) (fun _ _ _ _ c => c.elim)
    · refine st_advX (C := True) s1 (Or.inr ⟨w1.2, trivial⟩) (fun τ2 ret n1 n2 _ s2 k2 => ?_)
      · have xr : ∀ i, i < mk + 3 * s.length → τ2.2.2.1 41 i = τ.2.2.1 41 i := k2
        rcases hc with ⟨h4, he⟩ | ⟨h4, h5, hc⟩
        · refine Tm_no (by rw [h4]; decide) ?_
          refine st_post s2 hm (fun τ3 x1 x2 s3 k3 w3 _ => ?_)
          refine Tm_suc (fun k => by rw [f_X5_prefix]) ?_
          rw [w2]
          refine Tm_some (Qfin s3.1 ⟨rfl, WA_push wa (by rw [he]; exact Or.inl ⟨rfl, rfl⟩) s3 (fun i hi => (k3 i hi).trans (xr i hi)) ?_⟩)
          rw [he]; exact w3
        · refine Tm_yes h4 ?_
          refine Tm_suc (fun k => by rw [f_X5_prefix]) ?_
          refine Tm_yes h5 ?_
          rcases hc with ⟨h3, he⟩ | ⟨h3, he⟩
          · refine Tm_yes h3 ?_
            exact b16 _ τ2 _ _ w2 (by rw [he]; rfl) (by rw [he]; rfl) (by rw [he]) (by rw [he]; exact Or.inr ⟨rfl, Or.inl rfl⟩) s2 xr
          · refine Tm_no (by rw [h3]; decide) ?_
            refine Tm_suc (fun k => by rw [f_X5_prefix]) ?_
            exact b16 _ τ2 _ _ w2 (by rw [he]; rfl) (by rw [he]; rfl) (by rw [he]) (by rw [he]; exact Or.inr ⟨rfl, Or.inr (Or.inl rfl)⟩) s2 xr
  · have c' : ¬ nI (o0 + wO s) < nI 20 := c
    rw [n_lt (by omega) (by decide)] at c'
    rcases hx with ⟨w1, w2⟩ | ⟨w1, w2⟩
    · rw [w2]; exact st_ref wa.1.1
    · exact absurd (show o0 + wO s = 20 by omega) w1.1
theorem c_pf8F {wy : Nat} {z : Option Nat} (wa : WA T n b u al σ0 tb gl Vm o0 mk p sz a1 a2 s q v cs 0 τ) (hm : mk + 3 * s.length + 3 ≤ 21504) (h4 : L.1 4 = 0) (h5 : L.1 5 = nI wy) (hw : wy ≤ 3) (hx : (¬ ((¬ o0 + wO s = 20 ∧ ¬ tkK T n (tkN T n q) = 0) ∧ (tkK T n (tkN T n q) = 24 ∧ ¬ tkK T n (tkN T n (tkN T n q)) = 0)) ∧ z = none) ∨ (((¬ o0 + wO s = 20 ∧ ¬ tkK T n (tkN T n q) = 0) ∧ (tkK T n (tkN T n q) = 24 ∧ ¬ tkK T n (tkN T n (tkN T n q)) = 0)) ∧ z = some (tkN T n (tkN T n q)))) : Tm (fun k => f_X5_prefix k 8 L τ) (QPo b u tb.length sz mk z (fun q' ret τ' => ret = 1 ∧ WQ T n b u al tb gl Vm o0 mk p sz ((7, 112, wy) :: s) q' v cs 0 τ') σ0 a1 a2) := by
  have e5 := wa.1.1.1.2.2.2.2.2.1.1
  have o20 := wa.1.1.1.2.2.2.2.2.1.2
  refine Tm_suc (fun k => by rw [f_X5_prefix]) ?_
  rw [e5]
  refine Tm_ite (fun c => ?_) (fun c => ?_)
  · have c' : nI (o0 + wO s) < nI 20 := c
    rw [n_lt (by omega) (by decide)] at c'
    refine Tm_suc (fun k => by rw [f_X5_prefix]) ?_
    rw [e5, n_add1]
    have s1 := Sy_o (o' := o0 + wO s + 1) wa.1 (by omega)
    by_cases k1 : tkK T n (tkN T n q) = 0
    · rcases hx with ⟨w1, w2⟩ | ⟨w1, w2⟩
      · rw [w2]
        exact st_advX (C := False) s1 (Or.inl ⟨k1, rfl⟩) (fun _ _ _ _ c => c.elim)
      · exact absurd k1 w1.1.2
    · refine st_advX (C := True) s1 (Or.inr ⟨k1, trivial⟩) (fun τ2 ret n1 n2 _ s2 k2 => ?_)
      refine Tm_yes h4 ?_
      refine Tm_suc (fun k => by rw [f_X5_prefix]) ?_
      refine Tm_no (by rw [h5]; exact n_mn (by omega)) ?_
      refine Tm_suc (fun k => by rw [f_X5_prefix]) ?_
      have hx2 : (¬ (tkK T n (tkN T n q) = 24 ∧ ¬ tkK T n (tkN T n (tkN T n q)) = 0) ∧ z = none) ∨ ((tkK T n (tkN T n q) = 24 ∧ ¬ tkK T n (tkN T n (tkN T n q)) = 0) ∧ z = some (tkN T n (tkN T n q))) := by
        rcases hx with ⟨w1, w2⟩ | ⟨w1, w2⟩
        · exact Or.inl ⟨fun y => w1 ⟨⟨by omega, k1⟩, y⟩, w2⟩
        · exact Or.inr ⟨w1.2, w2⟩
      refine st_expX (kk := 24) s2 (by decide) rfl hx2 (fun τ3 ret3 n3 n4 hz s3 k3 => ?_)
      rw [h5]
      refine st_post s3 hm (fun τ4 x1 x2 s4 k4 w4 _ => ?_)
      refine Tm_suc (fun k => by rw [f_X5_prefix]) ?_
      rw [hz]
      exact Tm_some (Qfin s4.1 ⟨rfl, WA_push wa (Or.inr ⟨rfl, Or.inr (Or.inr rfl)⟩) s4 (fun i hi => (k4 i hi).trans ((k3 i hi).trans (k2 i hi))) w4⟩)
  · have c' : ¬ nI (o0 + wO s) < nI 20 := c
    rw [n_lt (by omega) (by decide)] at c'
    rcases hx with ⟨w1, w2⟩ | ⟨w1, w2⟩
    · rw [w2]; exact st_ref wa.1.1
    · exact absurd (show o0 + wO s = 20 by omega) w1.1.1
/-- not -/
theorem c_pfNot {z : Option Nat} (wa : WA T n b u al σ0 tb gl Vm o0 mk p sz a1 a2 s q v cs 0 τ) (hm : mk + 3 * s.length + 3 ≤ 21504) (hls : ls ≤ 7) (l1 : L.1 1 = nI mk) (l2 : L.1 2 = nI ls) (hk : tkK T n q = 66) (ht : topL ls s ≤ 2) (hx : (¬ (¬ o0 + wO s = 20 ∧ ¬ tkK T n (tkN T n q) = 0) ∧ z = none) ∨ ((¬ o0 + wO s = 20 ∧ ¬ tkK T n (tkN T n q) = 0) ∧ z = some (tkN T n q))) : Tm (fun k => f_X5_prefix k 0 L τ) (QPo b u tb.length sz mk z (fun q' ret τ' => ret = 1 ∧ WQ T n b u al tb gl Vm o0 mk p sz ((2, 9, 0) :: s) q' v cs 0 τ') σ0 a1 a2) := by
  refine pf_0 wa hls (by omega) l1 l2 (fun L2 g3 g100 => ?_)
  refine pf_4 (by rw [hk]; decide) g3 (fun L3 h3 h4 h100 => ?_)
  rw [if_pos ⟨hk, ht⟩] at g100
  rw [g100] at h4
  refine Tm_suc (fun k => by rw [f_X5_prefix]) ?_
  refine Tm_no (by rw [h4]; decide) ?_
  exact c_pf8 wa hm (Or.inl ⟨h4, rfl⟩) hx
/-- - and # -/
theorem c_pfUn {z : Option Nat} {e : Wt} (wa : WA T n b u al σ0 tb gl Vm o0 mk p sz a1 a2 s q v cs 0 τ) (hm : mk + 3 * s.length + 3 ≤ 21504) (hls : ls ≤ 7) (l1 : L.1 1 = nI mk) (l2 : L.1 2 = nI ls) (hk : (tkK T n q = 3 ∧ e = (7, 160, 0)) ∨ (tkK T n q = 23 ∧ e = (7, 161, 0))) (hx : (¬ (¬ o0 + wO s = 20 ∧ ¬ tkK T n (tkN T n q) = 0) ∧ z = none) ∨ ((¬ o0 + wO s = 20 ∧ ¬ tkK T n (tkN T n q) = 0) ∧ z = some (tkN T n q))) : Tm (fun k => f_X5_prefix k 0 L τ) (QPo b u tb.length sz mk z (fun q' ret τ' => ret = 1 ∧ WQ T n b u al tb gl Vm o0 mk p sz (e :: s) q' v cs 0 τ') σ0 a1 a2) := by
  refine pf_0 wa hls (by omega) l1 l2 (fun L2 g3 g100 => ?_)
  refine pf_4 (tk_v wa.1.1.1.1.2.2.2.1 wa.1.1.1.1.2.2.2.2.1) g3 (fun L3 h3 h4 h100 => ?_)
  rw [if_neg (fun z => by omega)] at g100
  rw [g100] at h4
  have hw : L3.1 100 = -1 := by
    rw [h100]; unfold wayI
    rw [if_neg (by omega), if_neg (by omega), if_neg (by omega), if_neg (by omega)]
  refine Tm_suc (fun k => by rw [f_X5_prefix]) ?_
  refine Tm_yes h4 (Tm_yes hw ?_)
  rcases hk with ⟨k3, he⟩ | ⟨k3, he⟩
  · rw [k3] at h3
    refine Tm_yes h3 ?_
    exact c_pf8 wa hm (Or.inr ⟨h4, hw, Or.inl ⟨h3, he⟩⟩) hx
  · rw [k3] at h3
    refine Tm_no (by rw [h3]; decide) (Tm_yes h3 ?_)
    exact c_pf8 wa hm (Or.inr ⟨h4, hw, Or.inr ⟨h3, he⟩⟩) hx
/-- + / and its like -/
theorem c_pfFo {z : Option Nat} (wa : WA T n b u al σ0 tb gl Vm o0 mk p sz a1 a2 s q v cs 0 τ) (hm : mk + 3 * s.length + 3 ≤ 21504) (hls : ls ≤ 7) (l1 : L.1 1 = nI mk) (l2 : L.1 2 = nI ls) (hk : tkK T n q = 2 ∨ tkK T n q = 4 ∨ tkK T n q = 81 ∨ tkK T n q = 80) (hx : (¬ ((¬ o0 + wO s = 20 ∧ ¬ tkK T n (tkN T n q) = 0) ∧ (tkK T n (tkN T n q) = 24 ∧ ¬ tkK T n (tkN T n (tkN T n q)) = 0)) ∧ z = none) ∨ (((¬ o0 + wO s = 20 ∧ ¬ tkK T n (tkN T n q) = 0) ∧ (tkK T n (tkN T n q) = 24 ∧ ¬ tkK T n (tkN T n (tkN T n q)) = 0)) ∧ z = some (tkN T n (tkN T n q)))) : ∃ wy, Tm (fun k => f_X5_prefix k 0 L τ) (QPo b u tb.length sz mk z (fun q' ret τ' => ret = 1 ∧ WQ T n b u al tb gl Vm o0 mk p sz ((7, 112, wy) :: s) q' v cs 0 τ') σ0 a1 a2) := by
  have hw : ∃ wy, wy ≤ 3 ∧ wayI (tkK T n q) = nI wy := by
    unfold wayI
    rcases hk with k | k | k | k
    · rw [k]; exact ⟨0, by decide, rfl⟩
    · rw [k]; exact ⟨1, by decide, rfl⟩
    · rw [k]; exact ⟨2, by decide, rfl⟩
    · rw [k]; exact ⟨3, by decide, rfl⟩
  obtain ⟨wy, w3, hw⟩ := hw
  refine ⟨wy, pf_0 wa hls (by omega) l1 l2 (fun L2 g3 g100 => ?_)⟩
  refine pf_4 (tk_v wa.1.1.1.1.2.2.2.1 wa.1.1.1.1.2.2.2.2.1) g3 (fun L3 h3 h4 h100 => ?_)
  rw [if_neg (fun z => by omega)] at g100
  rw [g100] at h4
  rw [hw] at h100
  refine Tm_suc (fun k => by rw [f_X5_prefix]) ?_
  refine Tm_yes h4 (Tm_no (by rw [h100]; exact n_mn (by omega)) ?_)
  exact c_pf8F wa hm h4 h100 w3 hx
/-- none stands here -/
theorem c_pfNo (wa : WA T n b u al σ0 tb gl Vm o0 mk p sz a1 a2 s q v cs 0 τ) (hm : mk ≤ 21504) (hls : ls ≤ 7) (l1 : L.1 1 = nI mk) (l2 : L.1 2 = nI ls) (h66 : tkK T n q = 66 → ¬ topL ls s ≤ 2) (hk : ¬ (tkK T n q = 2 ∨ tkK T n q = 3 ∨ tkK T n q = 4 ∨ tkK T n q = 23 ∨ tkK T n q = 80 ∨ tkK T n q = 81)) : Tm (fun k => f_X5_prefix k 0 L τ) (fun r => r = ((0, 0), τ, (0, 0))) := by
  refine pf_0 wa hls hm l1 l2 (fun L2 g3 g100 => ?_)
  have kv := tk_v wa.1.1.1.1.2.2.2.1 wa.1.1.1.1.2.2.2.2.1
  refine pf_4 kv g3 (fun L3 h3 h4 h100 => ?_)
  rw [if_neg (fun z => h66 z.1 z.2)] at g100
  rw [g100] at h4
  have hw : L3.1 100 = -1 := by
    rw [h100]; unfold wayI
    rw [if_neg (by omega), if_neg (by omega), if_neg (by omega), if_neg (by omega)]
  refine Tm_suc (fun k => by rw [f_X5_prefix]) ?_
  refine Tm_yes h4 (Tm_yes hw ?_)
  refine Tm_no (fun z => hk (Or.inr (Or.inl ((ck_e (j := 3) kv (by decide)).1 (h3.symm.trans z))))) ?_
  refine Tm_no (fun z => hk (Or.inr (Or.inr (Or.inr (Or.inl ((ck_e (j := 23) kv (by decide)).1 (h3.symm.trans z))))))) ?_
  exact Tm_some rfl
end CWC
