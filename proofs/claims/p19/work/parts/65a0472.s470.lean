section JnS470
/-! The class: levels of operators; operators before an operand. -/
section CWC
variable {σ σ' σ0 τ τ' : CS} {L : LV} {b : Bool} {T : Nat → Int32} {n q q' u al o v mk p sz szB nc0 sz0 mk0 a1 a2 m kk f e t o0 ls h : Nat} {y w : Int32} {l l' cs cs' : List Int32} {tb : List Ent} {α : Type} {S : α → Int32 → CS → Prop} {C : Prop} {E : En} {gl : Nat × (Nat → Nat → Prop)} {Vm : Nat → Prop} {bt : BT} {x : Fl α} {s : List Wt}
/-- one more than the level of an operator; 0: it is none -/
def kl (k : Nat) : Nat := if k = 65 then 1 else if k = 64 then 2 else if isRl k then 4 else if k = 2 ∨ k = 3 then 5 else if k = 4 ∨ k = 67 ∨ k = 68 then 6 else if k = 5 then 7 else 0
def levP (x : Int32) : Int32 := if x = 6 then 4 else if x = 7 then 4 else if x = 8 then 5 else if x = 9 then 6 else if x = 10 then (-1) else if x = 11 then (-1) else if x = 12 then (-1) else if x = 13 then (-1) else if x = 14 then (-1) else if x = 15 then (-1) else if x = 16 then (-1) else if x = 17 then (-1) else if x = 18 then (-1) else if x = 19 then (-1) else if x = 20 then 3 else if x = 21 then 3 else if x = 22 then 3 else if x = 23 then 3 else if x = 24 then 3 else if x = 25 then 3 else if x = 26 then (-1) else if x = 27 then (-1) else if x = 28 then (-1) else if x = 29 then (-1) else if x = 30 then (-1) else if x = 31 then (-1) else if x = 32 then (-1) else if x = 33 then (-1) else if x = 34 then (-1) else if x = 35 then (-1) else if x = 36 then (-1) else if x = 37 then (-1) else if x = 38 then (-1) else if x = 39 then (-1) else if x = 40 then (-1) else if x = 41 then (-1) else if x = 42 then (-1) else if x = 43 then (-1) else if x = 44 then (-1) else if x = 45 then (-1) else if x = 46 then 3 else if x = 47 then 3 else if x = 48 then 3 else if x = 49 then (-1) else if x = 50 then (-1) else if x = 51 then (-1) else if x = 52 then (-1) else if x = 53 then (-1) else if x = 54 then (-1) else if x = 55 then (-1) else if x = 56 then (-1) else if x = 57 then (-1) else if x = 58 then (-1) else if x = 59 then (-1) else if x = 60 then (-1) else if x = 61 then (-1) else if x = 62 then (-1) else if x = 63 then (-1) else if x = 64 then 1 else if x = 65 then 0 else if x = 66 then (-1) else if x = 67 then 5 else if x = 68 then 5 else (-1)
def binP (x : Int32) : Int32 := if x = 6 then 128 else if x = 7 then 129 else if x = 8 then 130 else if x = 9 then 133 else if x = 46 then 140 else if x = 47 then 141 else if x = 48 then 142 else if x = 67 then 131 else if x = 68 then 132 else 134 + x - 20
theorem c_level (L : LV) (σ : CS) : Tm (fun k => y_X5_level k 0 L σ) (fun r => r = (levP (L.1 0), σ)) := by
  refine Tm_suc (fun k => by rw [y_X5_level]) ?_
  unfold levP
  by_cases h6 : L.1 0 = 6
  · rw [if_pos h6]; refine Tm_yes h6 ?_; refine Tm_suc (fun k => by rw [y_X5_level]) ?_; exact Tm_some rfl
  rw [if_neg h6]; refine Tm_no h6 ?_
  by_cases h7 : L.1 0 = 7
  · rw [if_pos h7]; refine Tm_yes h7 ?_; refine Tm_suc (fun k => by rw [y_X5_level]) ?_; exact Tm_some rfl
  rw [if_neg h7]; refine Tm_no h7 ?_
  by_cases h8 : L.1 0 = 8
  · rw [if_pos h8]; refine Tm_yes h8 ?_; refine Tm_suc (fun k => by rw [y_X5_level]) ?_; exact Tm_some rfl
  rw [if_neg h8]; refine Tm_no h8 ?_
  by_cases h9 : L.1 0 = 9
  · rw [if_pos h9]; refine Tm_yes h9 ?_; refine Tm_suc (fun k => by rw [y_X5_level]) ?_; exact Tm_some rfl
  rw [if_neg h9]; refine Tm_no h9 ?_
  by_cases h10 : L.1 0 = 10
  · rw [if_pos h10]; refine Tm_yes h10 ?_; refine Tm_suc (fun k => by rw [y_X5_level]) ?_; exact Tm_some rfl
  rw [if_neg h10]; refine Tm_no h10 ?_
  by_cases h11 : L.1 0 = 11
  · rw [if_pos h11]; refine Tm_yes h11 ?_; refine Tm_suc (fun k => by rw [y_X5_level]) ?_; exact Tm_some rfl
  rw [if_neg h11]; refine Tm_no h11 ?_
  by_cases h12 : L.1 0 = 12
  · rw [if_pos h12]; refine Tm_yes h12 ?_; refine Tm_suc (fun k => by rw [y_X5_level]) ?_; exact Tm_some rfl
  rw [if_neg h12]; refine Tm_no h12 ?_
  by_cases h13 : L.1 0 = 13
  · rw [if_pos h13]; refine Tm_yes h13 ?_; refine Tm_suc (fun k => by rw [y_X5_level]) ?_; exact Tm_some rfl
  rw [if_neg h13]; refine Tm_no h13 ?_
  by_cases h14 : L.1 0 = 14
  · rw [if_pos h14]; refine Tm_yes h14 ?_; refine Tm_suc (fun k => by rw [y_X5_level]) ?_; exact Tm_some rfl
  rw [if_neg h14]; refine Tm_no h14 ?_
  by_cases h15 : L.1 0 = 15
  · rw [if_pos h15]; refine Tm_yes h15 ?_; refine Tm_suc (fun k => by rw [y_X5_level]) ?_; exact Tm_some rfl
  rw [if_neg h15]; refine Tm_no h15 ?_
  by_cases h16 : L.1 0 = 16
  · rw [if_pos h16]; refine Tm_yes h16 ?_; refine Tm_suc (fun k => by rw [y_X5_level]) ?_; exact Tm_some rfl
  rw [if_neg h16]; refine Tm_no h16 ?_
  by_cases h17 : L.1 0 = 17
  · rw [if_pos h17]; refine Tm_yes h17 ?_; refine Tm_suc (fun k => by rw [y_X5_level]) ?_; exact Tm_some rfl
  rw [if_neg h17]; refine Tm_no h17 ?_
  by_cases h18 : L.1 0 = 18
  · rw [if_pos h18]; refine Tm_yes h18 ?_; refine Tm_suc (fun k => by rw [y_X5_level]) ?_; exact Tm_some rfl
  rw [if_neg h18]; refine Tm_no h18 ?_
  by_cases h19 : L.1 0 = 19
  · rw [if_pos h19]; refine Tm_yes h19 ?_; refine Tm_suc (fun k => by rw [y_X5_level]) ?_; exact Tm_some rfl
  rw [if_neg h19]; refine Tm_no h19 ?_
  by_cases h20 : L.1 0 = 20
  · rw [if_pos h20]; refine Tm_yes h20 ?_; refine Tm_suc (fun k => by rw [y_X5_level]) ?_; exact Tm_some rfl
  rw [if_neg h20]; refine Tm_no h20 ?_
  by_cases h21 : L.1 0 = 21
  · rw [if_pos h21]; refine Tm_yes h21 ?_; refine Tm_suc (fun k => by rw [y_X5_level]) ?_; exact Tm_some rfl
  rw [if_neg h21]; refine Tm_no h21 ?_
  by_cases h22 : L.1 0 = 22
  · rw [if_pos h22]; refine Tm_yes h22 ?_; refine Tm_suc (fun k => by rw [y_X5_level]) ?_; exact Tm_some rfl
  rw [if_neg h22]; refine Tm_no h22 ?_
  by_cases h23 : L.1 0 = 23
  · rw [if_pos h23]; refine Tm_yes h23 ?_; refine Tm_suc (fun k => by rw [y_X5_level]) ?_; exact Tm_some rfl
  rw [if_neg h23]; refine Tm_no h23 ?_
  by_cases h24 : L.1 0 = 24
  · rw [if_pos h24]; refine Tm_yes h24 ?_; refine Tm_suc (fun k => by rw [y_X5_level]) ?_; exact Tm_some rfl
  rw [if_neg h24]; refine Tm_no h24 ?_
  by_cases h25 : L.1 0 = 25
  · rw [if_pos h25]; refine Tm_yes h25 ?_; refine Tm_suc (fun k => by rw [y_X5_level]) ?_; exact Tm_some rfl
  rw [if_neg h25]; refine Tm_no h25 ?_
  by_cases h26 : L.1 0 = 26
  · rw [if_pos h26]; refine Tm_yes h26 ?_; refine Tm_suc (fun k => by rw [y_X5_level]) ?_; exact Tm_some rfl
  rw [if_neg h26]; refine Tm_no h26 ?_
  by_cases h27 : L.1 0 = 27
  · rw [if_pos h27]; refine Tm_yes h27 ?_; refine Tm_suc (fun k => by rw [y_X5_level]) ?_; exact Tm_some rfl
  rw [if_neg h27]; refine Tm_no h27 ?_
  by_cases h28 : L.1 0 = 28
  · rw [if_pos h28]; refine Tm_yes h28 ?_; refine Tm_suc (fun k => by rw [y_X5_level]) ?_; exact Tm_some rfl
  rw [if_neg h28]; refine Tm_no h28 ?_
  by_cases h29 : L.1 0 = 29
  · rw [if_pos h29]; refine Tm_yes h29 ?_; refine Tm_suc (fun k => by rw [y_X5_level]) ?_; exact Tm_some rfl
  rw [if_neg h29]; refine Tm_no h29 ?_
  by_cases h30 : L.1 0 = 30
  · rw [if_pos h30]; refine Tm_yes h30 ?_; refine Tm_suc (fun k => by rw [y_X5_level]) ?_; exact Tm_some rfl
  rw [if_neg h30]; refine Tm_no h30 ?_
  by_cases h31 : L.1 0 = 31
  · rw [if_pos h31]; refine Tm_yes h31 ?_; refine Tm_suc (fun k => by rw [y_X5_level]) ?_; exact Tm_some rfl
  rw [if_neg h31]; refine Tm_no h31 ?_
  by_cases h32 : L.1 0 = 32
  · rw [if_pos h32]; refine Tm_yes h32 ?_; refine Tm_suc (fun k => by rw [y_X5_level]) ?_; exact Tm_some rfl
  rw [if_neg h32]; refine Tm_no h32 ?_
  by_cases h33 : L.1 0 = 33
  · rw [if_pos h33]; refine Tm_yes h33 ?_; refine Tm_suc (fun k => by rw [y_X5_level]) ?_; exact Tm_some rfl
  rw [if_neg h33]; refine Tm_no h33 ?_
  by_cases h34 : L.1 0 = 34
  · rw [if_pos h34]; refine Tm_yes h34 ?_; refine Tm_suc (fun k => by rw [y_X5_level]) ?_; exact Tm_some rfl
  rw [if_neg h34]; refine Tm_no h34 ?_
  by_cases h35 : L.1 0 = 35
  · rw [if_pos h35]; refine Tm_yes h35 ?_; refine Tm_suc (fun k => by rw [y_X5_level]) ?_; exact Tm_some rfl
  rw [if_neg h35]; refine Tm_no h35 ?_
  by_cases h36 : L.1 0 = 36
  · rw [if_pos h36]; refine Tm_yes h36 ?_; refine Tm_suc (fun k => by rw [y_X5_level]) ?_; exact Tm_some rfl
  rw [if_neg h36]; refine Tm_no h36 ?_
  by_cases h37 : L.1 0 = 37
  · rw [if_pos h37]; refine Tm_yes h37 ?_; refine Tm_suc (fun k => by rw [y_X5_level]) ?_; exact Tm_some rfl
  rw [if_neg h37]; refine Tm_no h37 ?_
  by_cases h38 : L.1 0 = 38
  · rw [if_pos h38]; refine Tm_yes h38 ?_; refine Tm_suc (fun k => by rw [y_X5_level]) ?_; exact Tm_some rfl
  rw [if_neg h38]; refine Tm_no h38 ?_
  by_cases h39 : L.1 0 = 39
  · rw [if_pos h39]; refine Tm_yes h39 ?_; refine Tm_suc (fun k => by rw [y_X5_level]) ?_; exact Tm_some rfl
  rw [if_neg h39]; refine Tm_no h39 ?_
  by_cases h40 : L.1 0 = 40
  · rw [if_pos h40]; refine Tm_yes h40 ?_; refine Tm_suc (fun k => by rw [y_X5_level]) ?_; exact Tm_some rfl
  rw [if_neg h40]; refine Tm_no h40 ?_
  by_cases h41 : L.1 0 = 41
  · rw [if_pos h41]; refine Tm_yes h41 ?_; refine Tm_suc (fun k => by rw [y_X5_level]) ?_; exact Tm_some rfl
  rw [if_neg h41]; refine Tm_no h41 ?_
  by_cases h42 : L.1 0 = 42
  · rw [if_pos h42]; refine Tm_yes h42 ?_; refine Tm_suc (fun k => by rw [y_X5_level]) ?_; exact Tm_some rfl
  rw [if_neg h42]; refine Tm_no h42 ?_
  by_cases h43 : L.1 0 = 43
  · rw [if_pos h43]; refine Tm_yes h43 ?_; refine Tm_suc (fun k => by rw [y_X5_level]) ?_; exact Tm_some rfl
  rw [if_neg h43]; refine Tm_no h43 ?_
  by_cases h44 : L.1 0 = 44
  · rw [if_pos h44]; refine Tm_yes h44 ?_; refine Tm_suc (fun k => by rw [y_X5_level]) ?_; exact Tm_some rfl
  rw [if_neg h44]; refine Tm_no h44 ?_
  by_cases h45 : L.1 0 = 45
  · rw [if_pos h45]; refine Tm_yes h45 ?_; refine Tm_suc (fun k => by rw [y_X5_level]) ?_; exact Tm_some rfl
  rw [if_neg h45]; refine Tm_no h45 ?_
  by_cases h46 : L.1 0 = 46
  · rw [if_pos h46]; refine Tm_yes h46 ?_; refine Tm_suc (fun k => by rw [y_X5_level]) ?_; exact Tm_some rfl
  rw [if_neg h46]; refine Tm_no h46 ?_
  by_cases h47 : L.1 0 = 47
  · rw [if_pos h47]; refine Tm_yes h47 ?_; refine Tm_suc (fun k => by rw [y_X5_level]) ?_; exact Tm_some rfl
  rw [if_neg h47]; refine Tm_no h47 ?_
  by_cases h48 : L.1 0 = 48
  · rw [if_pos h48]; refine Tm_yes h48 ?_; refine Tm_suc (fun k => by rw [y_X5_level]) ?_; exact Tm_some rfl
  rw [if_neg h48]; refine Tm_no h48 ?_
  by_cases h49 : L.1 0 = 49
  · rw [if_pos h49]; refine Tm_yes h49 ?_; refine Tm_suc (fun k => by rw [y_X5_level]) ?_; exact Tm_some rfl
  rw [if_neg h49]; refine Tm_no h49 ?_
  by_cases h50 : L.1 0 = 50
  · rw [if_pos h50]; refine Tm_yes h50 ?_; refine Tm_suc (fun k => by rw [y_X5_level]) ?_; exact Tm_some rfl
  rw [if_neg h50]; refine Tm_no h50 ?_
  by_cases h51 : L.1 0 = 51
  · rw [if_pos h51]; refine Tm_yes h51 ?_; refine Tm_suc (fun k => by rw [y_X5_level]) ?_; exact Tm_some rfl
  rw [if_neg h51]; refine Tm_no h51 ?_
  by_cases h52 : L.1 0 = 52
  · rw [if_pos h52]; refine Tm_yes h52 ?_; refine Tm_suc (fun k => by rw [y_X5_level]) ?_; exact Tm_some rfl
  rw [if_neg h52]; refine Tm_no h52 ?_
  by_cases h53 : L.1 0 = 53
  · rw [if_pos h53]; refine Tm_yes h53 ?_; refine Tm_suc (fun k => by rw [y_X5_level]) ?_; exact Tm_some rfl
  rw [if_neg h53]; refine Tm_no h53 ?_
  by_cases h54 : L.1 0 = 54
  · rw [if_pos h54]; refine Tm_yes h54 ?_; refine Tm_suc (fun k => by rw [y_X5_level]) ?_; exact Tm_some rfl
  rw [if_neg h54]; refine Tm_no h54 ?_
  by_cases h55 : L.1 0 = 55
  · rw [if_pos h55]; refine Tm_yes h55 ?_; refine Tm_suc (fun k => by rw [y_X5_level]) ?_; exact Tm_some rfl
  rw [if_neg h55]; refine Tm_no h55 ?_
  by_cases h56 : L.1 0 = 56
  · rw [if_pos h56]; refine Tm_yes h56 ?_; refine Tm_suc (fun k => by rw [y_X5_level]) ?_; exact Tm_some rfl
  rw [if_neg h56]; refine Tm_no h56 ?_
  by_cases h57 : L.1 0 = 57
  · rw [if_pos h57]; refine Tm_yes h57 ?_; refine Tm_suc (fun k => by rw [y_X5_level]) ?_; exact Tm_some rfl
  rw [if_neg h57]; refine Tm_no h57 ?_
  by_cases h58 : L.1 0 = 58
  · rw [if_pos h58]; refine Tm_yes h58 ?_; refine Tm_suc (fun k => by rw [y_X5_level]) ?_; exact Tm_some rfl
  rw [if_neg h58]; refine Tm_no h58 ?_
  by_cases h59 : L.1 0 = 59
  · rw [if_pos h59]; refine Tm_yes h59 ?_; refine Tm_suc (fun k => by rw [y_X5_level]) ?_; exact Tm_some rfl
  rw [if_neg h59]; refine Tm_no h59 ?_
  by_cases h60 : L.1 0 = 60
  · rw [if_pos h60]; refine Tm_yes h60 ?_; refine Tm_suc (fun k => by rw [y_X5_level]) ?_; exact Tm_some rfl
  rw [if_neg h60]; refine Tm_no h60 ?_
  by_cases h61 : L.1 0 = 61
  · rw [if_pos h61]; refine Tm_yes h61 ?_; refine Tm_suc (fun k => by rw [y_X5_level]) ?_; exact Tm_some rfl
  rw [if_neg h61]; refine Tm_no h61 ?_
  by_cases h62 : L.1 0 = 62
  · rw [if_pos h62]; refine Tm_yes h62 ?_; refine Tm_suc (fun k => by rw [y_X5_level]) ?_; exact Tm_some rfl
  rw [if_neg h62]; refine Tm_no h62 ?_
  by_cases h63 : L.1 0 = 63
  · rw [if_pos h63]; refine Tm_yes h63 ?_; refine Tm_suc (fun k => by rw [y_X5_level]) ?_; exact Tm_some rfl
  rw [if_neg h63]; refine Tm_no h63 ?_
  by_cases h64 : L.1 0 = 64
  · rw [if_pos h64]; refine Tm_yes h64 ?_; refine Tm_suc (fun k => by rw [y_X5_level]) ?_; exact Tm_some rfl
  rw [if_neg h64]; refine Tm_no h64 ?_
  by_cases h65 : L.1 0 = 65
  · rw [if_pos h65]; refine Tm_yes h65 ?_; refine Tm_suc (fun k => by rw [y_X5_level]) ?_; exact Tm_some rfl
  rw [if_neg h65]; refine Tm_no h65 ?_
  by_cases h66 : L.1 0 = 66
  · rw [if_pos h66]; refine Tm_yes h66 ?_; refine Tm_suc (fun k => by rw [y_X5_level]) ?_; exact Tm_some rfl
  rw [if_neg h66]; refine Tm_no h66 ?_
  by_cases h67 : L.1 0 = 67
  · rw [if_pos h67]; refine Tm_yes h67 ?_; refine Tm_suc (fun k => by rw [y_X5_level]) ?_; exact Tm_some rfl
  rw [if_neg h67]; refine Tm_no h67 ?_
  by_cases h68 : L.1 0 = 68
  · rw [if_pos h68]; refine Tm_yes h68 ?_; refine Tm_suc (fun k => by rw [y_X5_level]) ?_; exact Tm_some rfl
  rw [if_neg h68]; refine Tm_no h68 ?_
  refine Tm_suc (fun k => by rw [y_X5_level]) ?_
  exact Tm_some rfl
theorem c_binOp (L : LV) (σ : CS) : Tm (fun k => y_X5_binaryOp k 0 L σ) (fun r => r = (binP (L.1 0), σ)) := by
  refine Tm_suc (fun k => by rw [y_X5_binaryOp]) ?_
  unfold binP
  by_cases h6 : L.1 0 = 6
  · rw [if_pos h6]; refine Tm_yes h6 ?_; refine Tm_suc (fun k => by rw [y_X5_binaryOp]) ?_; exact Tm_some rfl
  rw [if_neg h6]; refine Tm_no h6 ?_
  by_cases h7 : L.1 0 = 7
  · rw [if_pos h7]; refine Tm_yes h7 ?_; refine Tm_suc (fun k => by rw [y_X5_binaryOp]) ?_; exact Tm_some rfl
  rw [if_neg h7]; refine Tm_no h7 ?_
  by_cases h8 : L.1 0 = 8
  · rw [if_pos h8]; refine Tm_yes h8 ?_; refine Tm_suc (fun k => by rw [y_X5_binaryOp]) ?_; exact Tm_some rfl
  rw [if_neg h8]; refine Tm_no h8 ?_
  by_cases h9 : L.1 0 = 9
  · rw [if_pos h9]; refine Tm_yes h9 ?_; refine Tm_suc (fun k => by rw [y_X5_binaryOp]) ?_; exact Tm_some rfl
  rw [if_neg h9]; refine Tm_no h9 ?_
  by_cases h46 : L.1 0 = 46
  · rw [if_pos h46]; refine Tm_yes h46 ?_; refine Tm_suc (fun k => by rw [y_X5_binaryOp]) ?_; exact Tm_some rfl
  rw [if_neg h46]; refine Tm_no h46 ?_
  by_cases h47 : L.1 0 = 47
  · rw [if_pos h47]; refine Tm_yes h47 ?_; refine Tm_suc (fun k => by rw [y_X5_binaryOp]) ?_; exact Tm_some rfl
  rw [if_neg h47]; refine Tm_no h47 ?_
  by_cases h48 : L.1 0 = 48
  · rw [if_pos h48]; refine Tm_yes h48 ?_; refine Tm_suc (fun k => by rw [y_X5_binaryOp]) ?_; exact Tm_some rfl
  rw [if_neg h48]; refine Tm_no h48 ?_
  by_cases h67 : L.1 0 = 67
  · rw [if_pos h67]; refine Tm_yes h67 ?_; refine Tm_suc (fun k => by rw [y_X5_binaryOp]) ?_; exact Tm_some rfl
  rw [if_neg h67]; refine Tm_no h67 ?_
  by_cases h68 : L.1 0 = 68
  · rw [if_pos h68]; refine Tm_yes h68 ?_; refine Tm_suc (fun k => by rw [y_X5_binaryOp]) ?_; exact Tm_some rfl
  rw [if_neg h68]; refine Tm_no h68 ?_
  refine Tm_suc (fun k => by rw [y_X5_binaryOp]) ?_
  exact Tm_some rfl
def lvB (k : Nat) : Bool := !(decide (tkV k)) || (decide (levP (cKd k) = nI (kl k) - 1) && (!(decide (4 ≤ kl k)) || (decide (128 ≤ uN (binP (cKd k))) && decide (uN (binP (cKd k)) < 144))))
theorem lv_ck : ∀ k : Nat, k < 85 → lvB k = true := by decide +kernel
theorem lvx_all {k : Nat} (hk : tkV k) : levP (cKd k) = nI (kl k) - 1 ∧ (4 ≤ kl k → 128 ≤ uN (binP (cKd k)) ∧ uN (binP (cKd k)) < 144) := by
  have z := lv_ck k (by omega)
  unfold lvB at z
  rw [decide_eq_true hk] at z
  have z' : (decide (levP (cKd k) = nI (kl k) - 1) && (!(decide (4 ≤ kl k)) || (decide (128 ≤ uN (binP (cKd k))) && decide (uN (binP (cKd k)) < 144)))) = true := z
  rw [Bool.and_eq_true, decide_eq_true_eq] at z'
  refine ⟨z'.1, fun h4 => ?_⟩
  have y := z'.2
  rw [decide_eq_true h4] at y
  have y' : (decide (128 ≤ uN (binP (cKd k))) && decide (uN (binP (cKd k)) < 144)) = true := y
  rw [Bool.and_eq_true, decide_eq_true_eq, decide_eq_true_eq] at y'
  exact y'
theorem kl_b (k : Nat) : kl k ≤ 7 ∧ ¬ kl k = 3 := by
  unfold kl
  by_cases c1 : k = 65
  · rw [if_pos c1]; decide
  rw [if_neg c1]
  by_cases c2 : k = 64
  · rw [if_pos c2]; decide
  rw [if_neg c2]
  by_cases c3 : isRl k
  · rw [if_pos c3]; decide
  rw [if_neg c3]
  by_cases c4 : k = 2 ∨ k = 3
  · rw [if_pos c4]; decide
  rw [if_neg c4]
  by_cases c5 : k = 4 ∨ k = 67 ∨ k = 68
  · rw [if_pos c5]; decide
  rw [if_neg c5]
  by_cases c6 : k = 5
  · rw [if_pos c6]; decide
  rw [if_neg c6]; decide
/-- the level above which a not may not stand -/
def topL (ls : Nat) : List Wt → Nat
  | [] => ls
  | e :: _ => e.1
theorem c_ppl (wa : WA T n b u al σ0 tb gl Vm o0 mk p sz a1 a2 s q v cs t τ) (l1 : L.1 1 = nI mk) : Tm (fun k => y_X5_postponedLevel k 0 L τ) (fun r => r.2 = τ ∧ (s = [] → r.1 = -1) ∧ ∀ e s', s = e :: s' → r.1 = nI e.1) := by
  have e11 := wa.1.1.1.2.2.1.1
  have m41 := wa.1.1.1.2.2.1.2
  refine Tm_suc (fun k => by rw [y_X5_postponedLevel]) ?_
  rw [l1, e11]
  rcases s with _ | ⟨e, s1⟩
  · refine Tm_yes ?_ ?_
    · rw [n_le (by show mk + 0 < _; omega) (by omega)]; exact Nat.le_refl _
    refine Tm_suc (fun k => by rw [y_X5_postponedLevel]) ?_
    refine Tm_suc (fun k => by rw [y_X5_postponedLevel]) ?_
    exact Tm_some ⟨rfl, fun _ => rfl, fun e s' z => by cases z⟩
  · have el : (e :: s1).length = s1.length + 1 := rfl
    rw [el] at e11 m41 ⊢
    refine Tm_no ?_ ?_
    · rw [n_le (by omega) (by omega)]; omega
    have e3 : nI (mk + 3 * (s1.length + 1)) - 3 = nI (mk + 3 * s1.length) := by
      rw [show (3 : Int32) = nI 3 from rfl, n_sub (by omega) (by omega)]
      exact congrArg nI (by omega)
    rw [e3]
    refine Tm_chk (u_in (by rw [u_n (by omega)]; omega) (by omega)) ?_
    rw [n_cl (by omega), wa.2.1.1.1]
    refine Tm_suc (fun k => by rw [y_X5_postponedLevel]) ?_
    exact Tm_some ⟨rfl, fun z => (by cases z), fun e' s' z => by cases z; rfl⟩
def wayI (k : Nat) : Int32 := if k = 2 then 0 else if k = 4 then 1 else if k = 81 then 2 else if k = 80 then 3 else -1
theorem pf_4 {k0 : Nat} {Q : RS → Prop} (hk : tkV k0) (l3 : L.1 3 = cKd k0) (cont : ∀ L2 : LV, L2.1 3 = cKd k0 → L2.1 4 = L.1 100 → L2.1 100 = wayI k0 → Tm (fun k => f_X5_prefix k 6 L2 τ) Q) : Tm (fun k => f_X5_prefix k 4 L τ) Q := by
  have kn : ∀ j, tkV j → ¬ k0 = j → ¬ L.1 3 = cKd j := fun j hj z w => z ((ck_e hk hj).1 (l3.symm.trans w))
  have ky : ∀ j, k0 = j → L.1 3 = cKd j := fun j z => by rw [l3, z]
  unfold wayI at cont
  refine Tm_suc (fun k => by rw [f_X5_prefix]) ?_
  by_cases k2 : k0 = 2
  · rw [if_pos k2] at cont
    refine Tm_yes (ky 2 k2) ?_
    exact cont _ l3 rfl rfl
  rw [if_neg k2] at cont
  refine Tm_no (kn 2 (by decide) k2) ?_
  refine Tm_suc (fun k => by rw [f_X5_prefix]) ?_
  by_cases k4 : k0 = 4
  · rw [if_pos k4] at cont
    refine Tm_yes (ky 4 k4) ?_
    exact cont _ l3 rfl rfl
  rw [if_neg k4] at cont
  refine Tm_no (kn 4 (by decide) k4) ?_
  refine Tm_suc (fun k => by rw [f_X5_prefix]) ?_
  by_cases k81 : k0 = 81
  · rw [if_pos k81] at cont
    refine Tm_yes (ky 81 k81) ?_
    exact cont _ l3 rfl rfl
  rw [if_neg k81] at cont
  refine Tm_no (kn 81 (by decide) k81) ?_
  refine Tm_suc (fun k => by rw [f_X5_prefix]) ?_
  by_cases k80 : k0 = 80
  · rw [if_pos k80] at cont
    refine Tm_yes (ky 80 k80) ?_
    exact cont _ l3 rfl rfl
  rw [if_neg k80] at cont
  refine Tm_no (kn 80 (by decide) k80) ?_
  refine Tm_suc (fun k => by rw [f_X5_prefix]) ?_
  exact cont _ l3 rfl rfl
theorem pf_0 {Q : RS → Prop} (wa : WA T n b u al σ0 tb gl Vm o0 mk p sz a1 a2 s q v cs t τ) (hls : ls ≤ 7) (hml : mk ≤ 21504) (l1 : L.1 1 = nI mk) (l2 : L.1 2 = nI ls) (cont : ∀ L2 : LV, L2.1 3 = cKd (tkK T n q) → L2.1 100 = (if tkK T n q = 66 ∧ topL ls s ≤ 2 then 1 else 0) → Tm (fun k => f_X5_prefix k 4 L2 τ) Q) : Tm (fun k => f_X5_prefix k 0 L τ) Q := by
  have e11 := wa.1.1.1.2.2.1.1
  have m41 := wa.1.1.1.2.2.1.2
  have ek : τ.1 3702 = cKd (tkK T n q) := wa.1.1.1.1.2.2.2.2.2.1
  have b1 : ∀ L2 : LV, L2.1 3 = cKd (tkK T n q) → ¬ (tkK T n q = 66 ∧ topL ls s ≤ 2) → Tm (fun k => f_X5_prefix k 1 L2 τ) Q := by
    intro L2 g3 nc
    refine Tm_suc (fun k => by rw [f_X5_prefix]) ?_
    exact cont _ g3 (by rw [if_neg nc]; rfl)
  have b3 : ∀ L2 : LV, L2.1 3 = cKd (tkK T n q) → tkK T n q = 66 → L2.1 100 = nI (topL ls s) → topL ls s ≤ 7 → Tm (fun k => f_X5_prefix k 3 L2 τ) Q := by
    intro L2 g3 k66 g100 t7
    refine Tm_suc (fun k => by rw [f_X5_prefix]) ?_
    rw [g100]
    by_cases c : topL ls s ≤ 2
    · refine Tm_no ?_ ?_
      · show ¬ nI 2 < nI (topL ls s)
        rw [n_lt (by decide) (by omega)]; omega
      · exact cont _ g3 (by rw [if_pos ⟨k66, c⟩]; rfl)
    · refine Tm_yes ?_ ?_
      · show nI 2 < nI (topL ls s)
        rw [n_lt (by decide) (by omega)]; omega
      · exact b1 L2 g3 (fun z => c z.2)
  refine Tm_suc (fun k => by rw [f_X5_prefix]) ?_
  by_cases k66 : tkK T n q = 66
  · refine Tm_yes ((lx_k (kk := 66) wa.1.1.1 (by decide)).2 k66) ?_
    rcases s with _ | ⟨e, s1⟩
    · refine Tm_yes ?_ ?_
      · rw [e11, l1]; rfl
      · exact b3 _ ek k66 l2 hls
    · have el : (e :: s1).length = s1.length + 1 := rfl
      have e7 : e.1 ≤ 7 := by rcases wa.2.2.1.1 with z | z | z | z <;> omega
      refine Tm_no ?_ ?_
      · rw [e11, l1, n_eq (by omega) (by omega)]; omega
      · refine Tm_suc (fun k => by rw [f_X5_prefix]) ?_
        refine Tm_op (c_ppl wa l1) (fun r z => ?_)
        rw [z.1]
        exact b3 _ ek k66 (z.2.2 e s1 rfl) e7
  · refine Tm_no (fun z => k66 ((lx_k (kk := 66) wa.1.1.1 (by decide)).1 z)) ?_
    exact b1 _ ek (fun z => k66 z.1)
/-- the next token; marks stay -/
theorem st_advX {f' : Nat → RS → Option RS} (h : Sy T n b u al σ0 nc0 sz0 mk0 a1 a2 tb o q v mk p szB cs τ) (hx : (tkK T n (tkN T n q) = 0 ∧ x = Sum.inl (1, tkN T n q)) ∨ (¬ tkK T n (tkN T n q) = 0 ∧ C)) (cont : ∀ (τ' : CS) (ret : Int32) (n1 n2 : Nat), C → Sy T n b u al σ0 nc0 sz0 mk0 (a1 + n1) (a2 + n2) tb o (tkN T n q) v mk p szB cs τ' → (∀ i, i < mk → τ'.2.2.1 41 i = τ.2.2.1 41 i) → Tm (fun k => f' k ((0, ret), τ', (n1, n2))) (QPo b u nc0 sz0 mk0 x S σ0 (a1 + n1) (a2 + n2))) : Tm (fun k => ox (f_X2_advance k 0 L τ) (f' k)) (QPo b u nc0 sz0 mk0 x S σ0 a1 a2) := by
  have adv := c_advQ (L := L) h.1.1
  rcases hx with ⟨w1, w2⟩ | ⟨w1, w2⟩
  · rw [w2]
    exact st_advY (C := False) h (Or.inl ⟨w1, rfl⟩) (fun _ _ _ c => c.elim)
  · refine st_call (C := True) (z := Sum.inr ()) (R := fun _ _ τ2 => QS T n b u al tb o (tkN T n q) v mk p (szB + cs.length) τ2) h.1 (Tm_mono adv (fun r y => ?_)) (Or.inr ⟨(), rfl, trivial, fun τ2 ret n1 n2 hq xk hc2 => ?_⟩)
    · have y1 := y.2.1 w1
      refine ⟨fun _ _ => ⟨y1.1, y1.2⟩, fun _ e => (by cases e), fun y0 => ?_, fun y0 => absurd y1.1 y0, y.2.2.2⟩
      have y2 := y.2.2.1.1 y0
      exact ⟨by have := y2.1; omega, by have := y2.2; omega⟩
    · exact cont τ2 ret n1 n2 w2 (Sy_c0 h hq xk hc2 h.1.2.2.2.1 h.1.2.2.2.2.2) xk.2.2.2.2.2.2.1
theorem st_expX {f' : Nat → RS → Option RS} (h : Sy T n b u al σ0 nc0 sz0 mk0 a1 a2 tb o q v mk p szB cs τ) (hk : tkV kk) (h1 : L.1 1 = cKd kk) (hx : (¬ (tkK T n q = kk ∧ ¬ tkK T n (tkN T n q) = 0) ∧ x = Sum.inl (wF T n kk q)) ∨ ((tkK T n q = kk ∧ ¬ tkK T n (tkN T n q) = 0) ∧ C)) (cont : ∀ (τ' : CS) (ret : Int32) (n1 n2 : Nat), C → Sy T n b u al σ0 nc0 sz0 mk0 (a1 + n1) (a2 + n2) tb o (tkN T n q) v mk p szB cs τ' → (∀ i, i < mk → τ'.2.2.1 41 i = τ.2.2.1 41 i) → Tm (fun k => f' k ((0, ret), τ', (n1, n2))) (QPo b u nc0 sz0 mk0 x S σ0 (a1 + n1) (a2 + n2))) : Tm (fun k => ox (f_X5_expect k 0 L τ) (f' k)) (QPo b u nc0 sz0 mk0 x S σ0 a1 a2) := by
  rcases hx with ⟨w1, w2⟩ | ⟨w1, c⟩
  · exact st_call (C := True) h.1 (c_expectQ h.1.1 hk h1 (Or.inl ⟨w1, rfl⟩)) (Or.inl ⟨_, rfl, w2⟩)
  · exact st_call (C := C) h.1 (c_expectQ h.1.1 hk h1 (Or.inr ⟨w1, rfl⟩)) (Or.inr ⟨_, rfl, c, fun τ' ret n1 n2 hq xk hc => cont τ' ret n1 n2 c (Sy_c0 h hq xk hc h.1.2.2.2.1 h.1.2.2.2.2.2) xk.2.2.2.2.2.2.1⟩)
theorem st_opX {f' : Nat → RS → Option RS} (h : Sy T n b u al σ0 nc0 sz0 mk0 a1 a2 tb o q v mk p szB cs τ) (hx : (¬ (¬ o = 20 ∧ ¬ tkK T n (tkN T n q) = 0) ∧ x = Sum.inl (oF T n o q)) ∨ ((¬ o = 20 ∧ ¬ tkK T n (tkN T n q) = 0) ∧ C)) (cont : ∀ (τ' : CS) (ret : Int32) (n1 n2 : Nat), C → Sy T n b u al σ0 nc0 sz0 mk0 (a1 + n1) (a2 + n2) tb (o + 1) (tkN T n q) v mk p szB cs τ' → (∀ i, i < mk → τ'.2.2.1 41 i = τ.2.2.1 41 i) → Tm (fun k => f' k ((0, ret), τ', (n1, n2))) (QPo b u nc0 sz0 mk0 x S σ0 (a1 + n1) (a2 + n2))) : Tm (fun k => ox (f_X5_opens k 0 L τ) (f' k)) (QPo b u nc0 sz0 mk0 x S σ0 a1 a2) := by
  rcases hx with ⟨w1, w2⟩ | ⟨w1, c⟩
  · exact st_call (C := True) h.1 (c_opensQ h.1.1 (Or.inl ⟨w1, rfl⟩)) (Or.inl ⟨_, rfl, w2⟩)
  · exact st_call (C := C) h.1 (c_opensQ h.1.1 (Or.inr ⟨w1, rfl⟩)) (Or.inr ⟨_, rfl, c, fun τ' ret n1 n2 hq xk hc => cont τ' ret n1 n2 c (Sy_c0 h hq xk hc h.1.2.2.2.1 h.1.2.2.2.2.2) xk.2.2.2.2.2.2.1⟩)
theorem WA_push {e : Wt} (wa : WA T n b u al σ0 tb gl Vm o0 mk p sz a1 a2 s q v cs 0 τ) (he : (e.1 = 2 ∧ e.2.1 = 9) ∨ (e.1 = 7 ∧ (e.2.1 = 160 ∨ e.2.1 = 161 ∨ e.2.1 = 112))) (sy : Sy T n b u al σ0 tb.length sz mk sz0 mk0 tb (o0 + wO s + 1) q' v (mk + 3 * s.length + 3) p sz cs τ') (hk : ∀ i, i < mk + 3 * s.length → τ'.2.2.1 41 i = τ.2.2.1 41 i) (hm : τ'.2.2.1 41 (mk + 3 * s.length) = nI e.1 ∧ τ'.2.2.1 41 (mk + 3 * s.length + 1) = nI e.2.1 ∧ τ'.2.2.1 41 (mk + 3 * s.length + 2) = nI e.2.2) : WQ T n b u al tb gl Vm o0 mk p sz (e :: s) q' v cs 0 τ' := by
  have el : (e :: s).length = s.length + 1 := rfl
  refine ⟨⟨?_, sy.2⟩, ⟨hm, MkW_k s mk hk wa.2.1⟩, ⟨Or.inr ?_, wa.2.2.1⟩, ?_⟩
  · rw [wO_y (by omega), el, show mk + 3 * (s.length + 1) = mk + 3 * s.length + 3 by omega]
    exact sy.1.1
  · rcases he with z | z
    · exact Or.inl z
    · exact Or.inr (Or.inr z)
  · rw [wH_no (by omega), wT_n (by omega)]
    exact wa.2.2.2
/-- the fault of + / and its like -/
def fF (T : Nat → Int32) (n o q : Nat) : Nat × Nat := if o = 20 then (3, q) else if tkK T n (tkN T n q) = 0 then (1, tkN T n q) else wF T n 24 (tkN T n q)
theorem fF_3 (h : o = 20) : fF T n o q = (3, q) := if_pos h
theorem fF_1 (h : ¬ o = 20) (h2 : tkK T n (tkN T n q) = 0) : fF T n o q = (1, tkN T n q) := (if_neg h).trans (if_pos h2)
theorem fF_w (h : ¬ o = 20) (h2 : ¬ tkK T n (tkN T n q) = 0) : fF T n o q = wF T n 24 (tkN T n q) := (if_neg h).trans (if_neg h2)
theorem fF_o (w : ¬ (¬ o = 20 ∧ ¬ tkK T n (tkN T n q) = 0)) : oF T n o q = fF T n o q := by
  by_cases c : o = 20
  · rw [oF_y c, fF_3 c]
  · rw [oF_n c, fF_1 c (Classical.byContradiction (fun z => w ⟨c, z⟩))]
theorem c_pf8 {e : Wt} {z : Fl Nat} (wa : WA T n b u al σ0 tb gl Vm o0 mk p sz a1 a2 s q v cs 0 τ) (hm : mk + 3 * s.length + 3 ≤ 21504) (hc : (L.1 4 = 1 ∧ e = (2, 9, 0)) ∨ (L.1 4 = 0 ∧ L.1 5 = -1 ∧ ((L.1 3 = cKd 3 ∧ e = (7, 160, 0)) ∨ (L.1 3 = cKd 23 ∧ e = (7, 161, 0))))) (hx : (¬ (¬ o0 + wO s = 20 ∧ ¬ tkK T n (tkN T n q) = 0) ∧ z = Sum.inl (oF T n (o0 + wO s) q)) ∨ ((¬ o0 + wO s = 20 ∧ ¬ tkK T n (tkN T n q) = 0) ∧ z = Sum.inr (tkN T n q))) : Tm (fun k => f_X5_prefix k 8 L τ) (QPo b u tb.length sz mk z (fun q' ret τ' => ret = 1 ∧ WQ T n b u al tb gl Vm o0 mk p sz (e :: s) q' v cs 0 τ') σ0 a1 a2) := by
  have e5 := wa.1.1.1.2.2.2.2.2.1.1
  have o20 := wa.1.1.1.2.2.2.2.2.1.2
  have b16 : ∀ (L2 : LV) (τ2 : CS) (n1 n2 : Nat), z = Sum.inr (tkN T n q) → L2.1 101 = nI e.1 → L2.1 100 = nI e.2.1 → e.2.2 = 0 → ((e.1 = 2 ∧ e.2.1 = 9) ∨ (e.1 = 7 ∧ (e.2.1 = 160 ∨ e.2.1 = 161 ∨ e.2.1 = 112))) → Sy T n b u al σ0 tb.length sz mk n1 n2 tb (o0 + wO s + 1) (tkN T n q) v (mk + 3 * s.length) p sz cs τ2 → (∀ i, i < mk + 3 * s.length → τ2.2.2.1 41 i = τ.2.2.1 41 i) → Tm (fun k => f_X5_prefix k 16 L2 τ2) (QPo b u tb.length sz mk z (fun q' ret τ' => ret = 1 ∧ WQ T n b u al tb gl Vm o0 mk p sz (e :: s) q' v cs 0 τ') σ0 n1 n2) := by
    intro L2 τ2 n1 n2 hz g1 g2 g3 he s2 k2
    refine Tm_suc (fun k => by rw [f_X5_prefix]) ?_
    refine st_post s2 hm (fun τ3 x1 x2 s3 k3 w3 _ => ?_)
    refine Tm_suc (fun k => by rw [f_X5_prefix]) ?_
    rw [hz]
    refine Tm_some (Qfin s3.1 ⟨rfl, WA_push wa he s3 (fun i hi => (k3 i hi).trans (k2 i hi)) ⟨?_, ?_, ?_⟩⟩)
    · exact w3.1.trans g1
    · exact w3.2.1.trans g2
    · rw [g3]; exact w3.2.2
  refine Tm_suc (fun k => by rw [f_X5_prefix]) ?_
  rw [e5]
  refine Tm_ite (fun c => ?_) (fun c => ?_)
  · have c' : nI (o0 + wO s) < nI 20 := c
    rw [n_lt (by omega) (by decide)] at c'
    refine Tm_suc (fun k => by rw [f_X5_prefix]) ?_
    rw [e5, n_add1]
    have s1 := Sy_o (o' := o0 + wO s + 1) wa.1 (by omega)
    rcases hx with ⟨w1, w2⟩ | ⟨w1, w2⟩
    · rw [w2, oF_n (show ¬ o0 + wO s = 20 by omega)]
      exact st_advX (C := False) s1 (Or.inl ⟨Classical.byContradiction (fun y => w1 ⟨by omega, y⟩), rfl⟩) (fun _ _ _ _ c => c.elim)
    · refine st_advX (C := True) s1 (Or.inr ⟨w1.2, trivial⟩) (fun τ2 ret n1 n2 _ s2 k2 => ?_)
      · have xr : ∀ i, i < mk + 3 * s.length → τ2.2.2.1 41 i = τ.2.2.1 41 i := k2
        rcases hc with ⟨h4, he⟩ | ⟨h4, h5, hc⟩
        · refine Tm_no (by rw [h4]; decide) ?_
          refine st_post s2 hm (fun τ3 x1 x2 s3 k3 w3 _ => ?_)
          refine Tm_suc (fun k => by rw [f_X5_prefix]) ?_
          rw [w2]
          refine Tm_some (Qfin s3.1 ⟨rfl, WA_push wa (by rw [he]; exact Or.inl ⟨rfl, rfl⟩) s3 (fun i hi => (k3 i hi).trans (xr i hi)) ?_⟩)
          rw [he]; exact w3
        · refine Tm_yes h4 ?_
          refine Tm_suc (fun k => by rw [f_X5_prefix]) ?_
          refine Tm_yes h5 ?_
          rcases hc with ⟨h3, he⟩ | ⟨h3, he⟩
          · refine Tm_yes h3 ?_
            exact b16 _ τ2 _ _ w2 (by rw [he]; rfl) (by rw [he]; rfl) (by rw [he]) (by rw [he]; exact Or.inr ⟨rfl, Or.inl rfl⟩) s2 xr
          · refine Tm_no (by rw [h3]; decide) ?_
            refine Tm_suc (fun k => by rw [f_X5_prefix]) ?_
            exact b16 _ τ2 _ _ w2 (by rw [he]; rfl) (by rw [he]; rfl) (by rw [he]) (by rw [he]; exact Or.inr ⟨rfl, Or.inr (Or.inl rfl)⟩) s2 xr
  · have c' : ¬ nI (o0 + wO s) < nI 20 := c
    rw [n_lt (by omega) (by decide)] at c'
    rcases hx with ⟨w1, w2⟩ | ⟨w1, w2⟩
    · rw [w2, oF_y (show o0 + wO s = 20 by omega)]; exact st_ref wa.1.1 rfl (lx_3 wa.1.1.1) (by decide)
    · exact absurd (show o0 + wO s = 20 by omega) w1.1
theorem c_pf8F {wy : Nat} {z : Fl Nat} (wa : WA T n b u al σ0 tb gl Vm o0 mk p sz a1 a2 s q v cs 0 τ) (hm : mk + 3 * s.length + 3 ≤ 21504) (h4 : L.1 4 = 0) (h5 : L.1 5 = nI wy) (hw : wy ≤ 3) (hx : (¬ ((¬ o0 + wO s = 20 ∧ ¬ tkK T n (tkN T n q) = 0) ∧ (tkK T n (tkN T n q) = 24 ∧ ¬ tkK T n (tkN T n (tkN T n q)) = 0)) ∧ z = Sum.inl (fF T n (o0 + wO s) q)) ∨ (((¬ o0 + wO s = 20 ∧ ¬ tkK T n (tkN T n q) = 0) ∧ (tkK T n (tkN T n q) = 24 ∧ ¬ tkK T n (tkN T n (tkN T n q)) = 0)) ∧ z = Sum.inr (tkN T n (tkN T n q)))) : Tm (fun k => f_X5_prefix k 8 L τ) (QPo b u tb.length sz mk z (fun q' ret τ' => ret = 1 ∧ WQ T n b u al tb gl Vm o0 mk p sz ((7, 112, wy) :: s) q' v cs 0 τ') σ0 a1 a2) := by
  have e5 := wa.1.1.1.2.2.2.2.2.1.1
  have o20 := wa.1.1.1.2.2.2.2.2.1.2
  refine Tm_suc (fun k => by rw [f_X5_prefix]) ?_
  rw [e5]
  refine Tm_ite (fun c => ?_) (fun c => ?_)
  · have c' : nI (o0 + wO s) < nI 20 := c
    rw [n_lt (by omega) (by decide)] at c'
    refine Tm_suc (fun k => by rw [f_X5_prefix]) ?_
    rw [e5, n_add1]
    have s1 := Sy_o (o' := o0 + wO s + 1) wa.1 (by omega)
    by_cases k1 : tkK T n (tkN T n q) = 0
    · rcases hx with ⟨w1, w2⟩ | ⟨w1, w2⟩
      · rw [w2, fF_1 (show ¬ o0 + wO s = 20 by omega) k1]
        exact st_advX (C := False) s1 (Or.inl ⟨k1, rfl⟩) (fun _ _ _ _ c => c.elim)
      · exact absurd k1 w1.1.2
    · refine st_advX (C := True) s1 (Or.inr ⟨k1, trivial⟩) (fun τ2 ret n1 n2 _ s2 k2 => ?_)
      refine Tm_yes h4 ?_
      refine Tm_suc (fun k => by rw [f_X5_prefix]) ?_
      refine Tm_no (by rw [h5]; exact n_mn (by omega)) ?_
      refine Tm_suc (fun k => by rw [f_X5_prefix]) ?_
      have hx2 : (¬ (tkK T n (tkN T n q) = 24 ∧ ¬ tkK T n (tkN T n (tkN T n q)) = 0) ∧ z = Sum.inl (wF T n 24 (tkN T n q))) ∨ ((tkK T n (tkN T n q) = 24 ∧ ¬ tkK T n (tkN T n (tkN T n q)) = 0) ∧ z = Sum.inr (tkN T n (tkN T n q))) := by
        rcases hx with ⟨w1, w2⟩ | ⟨w1, w2⟩
        · exact Or.inl ⟨fun y => w1 ⟨⟨by omega, k1⟩, y⟩, w2.trans (by rw [fF_w (show ¬ o0 + wO s = 20 by omega) k1])⟩
        · exact Or.inr ⟨w1.2, w2⟩
      refine st_expX (kk := 24) s2 (by decide) rfl hx2 (fun τ3 ret3 n3 n4 hz s3 k3 => ?_)
      rw [h5]
      refine st_post s3 hm (fun τ4 x1 x2 s4 k4 w4 _ => ?_)
      refine Tm_suc (fun k => by rw [f_X5_prefix]) ?_
      rw [hz]
      exact Tm_some (Qfin s4.1 ⟨rfl, WA_push wa (Or.inr ⟨rfl, Or.inr (Or.inr rfl)⟩) s4 (fun i hi => (k4 i hi).trans ((k3 i hi).trans (k2 i hi))) w4⟩)
  · have c' : ¬ nI (o0 + wO s) < nI 20 := c
    rw [n_lt (by omega) (by decide)] at c'
    rcases hx with ⟨w1, w2⟩ | ⟨w1, w2⟩
    · rw [w2, fF_3 (show o0 + wO s = 20 by omega)]; exact st_ref wa.1.1 rfl (lx_3 wa.1.1.1) (by decide)
    · exact absurd (show o0 + wO s = 20 by omega) w1.1.1
/-- not -/
theorem c_pfNot {z : Fl Nat} (wa : WA T n b u al σ0 tb gl Vm o0 mk p sz a1 a2 s q v cs 0 τ) (hm : mk + 3 * s.length + 3 ≤ 21504) (hls : ls ≤ 7) (l1 : L.1 1 = nI mk) (l2 : L.1 2 = nI ls) (hk : tkK T n q = 66) (ht : topL ls s ≤ 2) (hx : (¬ (¬ o0 + wO s = 20 ∧ ¬ tkK T n (tkN T n q) = 0) ∧ z = Sum.inl (oF T n (o0 + wO s) q)) ∨ ((¬ o0 + wO s = 20 ∧ ¬ tkK T n (tkN T n q) = 0) ∧ z = Sum.inr (tkN T n q))) : Tm (fun k => f_X5_prefix k 0 L τ) (QPo b u tb.length sz mk z (fun q' ret τ' => ret = 1 ∧ WQ T n b u al tb gl Vm o0 mk p sz ((2, 9, 0) :: s) q' v cs 0 τ') σ0 a1 a2) := by
  refine pf_0 wa hls (by omega) l1 l2 (fun L2 g3 g100 => ?_)
  refine pf_4 (by rw [hk]; decide) g3 (fun L3 h3 h4 h100 => ?_)
  rw [if_pos ⟨hk, ht⟩] at g100
  rw [g100] at h4
  refine Tm_suc (fun k => by rw [f_X5_prefix]) ?_
  refine Tm_no (by rw [h4]; decide) ?_
  exact c_pf8 wa hm (Or.inl ⟨h4, rfl⟩) hx
/-- - and # -/
theorem c_pfUn {z : Fl Nat} {e : Wt} (wa : WA T n b u al σ0 tb gl Vm o0 mk p sz a1 a2 s q v cs 0 τ) (hm : mk + 3 * s.length + 3 ≤ 21504) (hls : ls ≤ 7) (l1 : L.1 1 = nI mk) (l2 : L.1 2 = nI ls) (hk : (tkK T n q = 3 ∧ e = (7, 160, 0)) ∨ (tkK T n q = 23 ∧ e = (7, 161, 0))) (hx : (¬ (¬ o0 + wO s = 20 ∧ ¬ tkK T n (tkN T n q) = 0) ∧ z = Sum.inl (oF T n (o0 + wO s) q)) ∨ ((¬ o0 + wO s = 20 ∧ ¬ tkK T n (tkN T n q) = 0) ∧ z = Sum.inr (tkN T n q))) : Tm (fun k => f_X5_prefix k 0 L τ) (QPo b u tb.length sz mk z (fun q' ret τ' => ret = 1 ∧ WQ T n b u al tb gl Vm o0 mk p sz (e :: s) q' v cs 0 τ') σ0 a1 a2) := by
  refine pf_0 wa hls (by omega) l1 l2 (fun L2 g3 g100 => ?_)
  refine pf_4 (tk_v wa.1.1.1.1.2.2.2.1 wa.1.1.1.1.2.2.2.2.1) g3 (fun L3 h3 h4 h100 => ?_)
  rw [if_neg (fun z => by omega)] at g100
  rw [g100] at h4
  have hw : L3.1 100 = -1 := by
    rw [h100]; unfold wayI
    rw [if_neg (by omega), if_neg (by omega), if_neg (by omega), if_neg (by omega)]
  refine Tm_suc (fun k => by rw [f_X5_prefix]) ?_
  refine Tm_yes h4 (Tm_yes hw ?_)
  rcases hk with ⟨k3, he⟩ | ⟨k3, he⟩
  · rw [k3] at h3
    refine Tm_yes h3 ?_
    exact c_pf8 wa hm (Or.inr ⟨h4, hw, Or.inl ⟨h3, he⟩⟩) hx
  · rw [k3] at h3
    refine Tm_no (by rw [h3]; decide) (Tm_yes h3 ?_)
    exact c_pf8 wa hm (Or.inr ⟨h4, hw, Or.inr ⟨h3, he⟩⟩) hx
/-- + / and its like -/
theorem c_pfFo {z : Fl Nat} (wa : WA T n b u al σ0 tb gl Vm o0 mk p sz a1 a2 s q v cs 0 τ) (hm : mk + 3 * s.length + 3 ≤ 21504) (hls : ls ≤ 7) (l1 : L.1 1 = nI mk) (l2 : L.1 2 = nI ls) (hk : tkK T n q = 2 ∨ tkK T n q = 4 ∨ tkK T n q = 81 ∨ tkK T n q = 80) (hx : (¬ ((¬ o0 + wO s = 20 ∧ ¬ tkK T n (tkN T n q) = 0) ∧ (tkK T n (tkN T n q) = 24 ∧ ¬ tkK T n (tkN T n (tkN T n q)) = 0)) ∧ z = Sum.inl (fF T n (o0 + wO s) q)) ∨ (((¬ o0 + wO s = 20 ∧ ¬ tkK T n (tkN T n q) = 0) ∧ (tkK T n (tkN T n q) = 24 ∧ ¬ tkK T n (tkN T n (tkN T n q)) = 0)) ∧ z = Sum.inr (tkN T n (tkN T n q)))) : ∃ wy, Tm (fun k => f_X5_prefix k 0 L τ) (QPo b u tb.length sz mk z (fun q' ret τ' => ret = 1 ∧ WQ T n b u al tb gl Vm o0 mk p sz ((7, 112, wy) :: s) q' v cs 0 τ') σ0 a1 a2) := by
  have hw : ∃ wy, wy ≤ 3 ∧ wayI (tkK T n q) = nI wy := by
    unfold wayI
    rcases hk with k | k | k | k
    · rw [k]; exact ⟨0, by decide, rfl⟩
    · rw [k]; exact ⟨1, by decide, rfl⟩
    · rw [k]; exact ⟨2, by decide, rfl⟩
    · rw [k]; exact ⟨3, by decide, rfl⟩
  obtain ⟨wy, w3, hw⟩ := hw
  refine ⟨wy, pf_0 wa hls (by omega) l1 l2 (fun L2 g3 g100 => ?_)⟩
  refine pf_4 (tk_v wa.1.1.1.1.2.2.2.1 wa.1.1.1.1.2.2.2.2.1) g3 (fun L3 h3 h4 h100 => ?_)
  rw [if_neg (fun z => by omega)] at g100
  rw [g100] at h4
  rw [hw] at h100
  refine Tm_suc (fun k => by rw [f_X5_prefix]) ?_
  refine Tm_yes h4 (Tm_no (by rw [h100]; exact n_mn (by omega)) ?_)
  exact c_pf8F wa hm h4 h100 w3 hx
/-- none stands here -/
theorem c_pfNo (wa : WA T n b u al σ0 tb gl Vm o0 mk p sz a1 a2 s q v cs 0 τ) (hm : mk ≤ 21504) (hls : ls ≤ 7) (l1 : L.1 1 = nI mk) (l2 : L.1 2 = nI ls) (h66 : tkK T n q = 66 → ¬ topL ls s ≤ 2) (hk : ¬ (tkK T n q = 2 ∨ tkK T n q = 3 ∨ tkK T n q = 4 ∨ tkK T n q = 23 ∨ tkK T n q = 80 ∨ tkK T n q = 81)) : Tm (fun k => f_X5_prefix k 0 L τ) (fun r => r = ((0, 0), τ, (0, 0))) := by
  refine pf_0 wa hls hm l1 l2 (fun L2 g3 g100 => ?_)
  have kv := tk_v wa.1.1.1.1.2.2.2.1 wa.1.1.1.1.2.2.2.2.1
  refine pf_4 kv g3 (fun L3 h3 h4 h100 => ?_)
  rw [if_neg (fun z => h66 z.1 z.2)] at g100
  rw [g100] at h4
  have hw : L3.1 100 = -1 := by
    rw [h100]; unfold wayI
    rw [if_neg (by omega), if_neg (by omega), if_neg (by omega), if_neg (by omega)]
  refine Tm_suc (fun k => by rw [f_X5_prefix]) ?_
  refine Tm_yes h4 (Tm_yes hw ?_)
  refine Tm_no (fun z => hk (Or.inr (Or.inl ((ck_e (j := 3) kv (by decide)).1 (h3.symm.trans z))))) ?_
  refine Tm_no (fun z => hk (Or.inr (Or.inr (Or.inr (Or.inl ((ck_e (j := 23) kv (by decide)).1 (h3.symm.trans z))))))) ?_
  exact Tm_some rfl
end CWC
end JnS470
section JnS471
/-! The class: the loop of an exp. -/
section CWD
variable {σ0 τ : CS} {L : LV} {b : Bool} {T : Nat → Int32} {n q q0 v0 u al o v mk p sz a1 a2 f e o0 ls lv : Nat} {cs : List Int32} {tb : List Ent} {C : Prop} {E : En} {gl : Nat × (Nat → Nat → Prop)} {Vm : Nat → Prop} {bt : BT} {xF : Fl RT} {s : List Wt}
/-- where an exp begins: bounds -/
def XB (n o0 q0 v0 mk p sz nt ls e : Nat) : Prop := BdX n o0 q0 v0 mk p sz nt ∧ (ls = 0 ∨ ls = 4) ∧ 6 * (20 - o0) + 8 ≤ e + 6
/-- before an operand -/
def HdS (T : Nat → Int32) (n : Nat) (b : Bool) (u al : Nat) (σ0 : CS) (tb : List Ent) (gl : Nat × (Nat → Nat → Prop)) (Vm : Nat → Prop) (o0 mk p sz q0 v0 ls a1 a2 : Nat) (s : List Wt) (q v : Nat) (cs : List Int32) (L : LV) (τ : CS) : Prop := WA T n b u al σ0 tb gl Vm o0 mk p sz a1 a2 s q v cs 0 τ ∧ (2 * (cs.length + wP s) ≤ 3 * (q - q0) ∧ 3 * wU s ≤ 2 * (q - q0) ∧ q0 ≤ q ∧ v0 ≤ v) ∧ (L.1 1 = nI ls ∧ L.1 2 = nI mk ∧ L.1 5 = 1) ∧ (∃ k, L.1 6 = nI k ∧ k ≤ wO s) ∧ ∃ i, L.1 4 = nI i ∧ i ≤ q
/-- behind an operand -/
def AfS (T : Nat → Int32) (n : Nat) (b : Bool) (u al : Nat) (σ0 : CS) (tb : List Ent) (gl : Nat × (Nat → Nat → Prop)) (Vm : Nat → Prop) (o0 mk p sz q0 v0 ls a1 a2 : Nat) (s : List Wt) (q v : Nat) (cs : List Int32) (L : LV) (τ : CS) : Prop := WA T n b u al σ0 tb gl Vm o0 mk p sz a1 a2 s q v cs 1 τ ∧ (2 * (cs.length + wP s) ≤ 3 * (q - q0) + 1 ∧ 3 * wU s + 2 ≤ 2 * (q - q0) ∧ q0 < q ∧ v0 ≤ v) ∧ (L.1 1 = nI ls ∧ L.1 2 = nI mk) ∧ ∃ i, L.1 4 = nI i ∧ i < q
/-- what is looked at there -/
def AfT (e : Nat) (L : LV) (τ : CS) (k : Nat) : Option RS := op (y_X5_level k 0 (lI lZ 0 (τ.1 3702)) τ) (fun r2 => if r2.1 < L.1 1 then f_F2 k (e + 6) 1 5 (lI L 6 r2.1) r2.2 else f_F2 k (e + 6) 1 6 (lI (lI L 6 r2.1) 100 1) r2.2)
abbrev Xq (T : Nat → Int32) (n : Nat) (b : Bool) (u al : Nat) (σ0 : CS) (tb : List Ent) (gl : Nat × (Nat → Nat → Prop)) (Vm : Nat → Prop) (o0 mk p sz q0 v0 : Nat) (xF : Fl RT) (a1 a2 : Nat) : RS → Prop := QPo b u tb.length sz mk xF (fun r _ τ => XR T n b u al gl Vm tb o0 mk p sz q0 v0 r τ) σ0 a1 a2
theorem ep_0 (k d : Nat) (L : LV) (σ : CS) : f_F2 (k + 1) d 1 0 L σ = (f_F2 k d 1 1 (lI (lI (lI L 2 ((σ.1 4011))) 3 1) 4 0) σ) := rfl
theorem ep_1 (k d : Nat) (L : LV) (σ : CS) : f_F2 (k + 1) d 1 1 L σ = (if 32768 < ((L.1 4)) then (f_F2 k d 1 2 L σ) else (if ((L.1 3)) = 0 then (f_F2 k d 1 2 L σ) else (f_F2 k d 1 3 (lI (lI L 5 1) 6 0) σ))) := rfl
theorem ep_2 (k d : Nat) (L : LV) (σ : CS) : f_F2 (k + 1) d 1 2 L σ = (ox (f_X5_settle k 0 (lI (lI lZ 1 ((L.1 2))) 2 0) σ) (fun r1 => some ((0, 0), r1.2.1, (0, 0)))) := rfl
theorem ep_3 (k d : Nat) (L : LV) (σ : CS) : f_F2 (k + 1) d 1 3 L σ = (if 20 < ((L.1 6)) then (f_F2 k d 1 4 L σ) else (if ((L.1 5)) = 0 then (f_F2 k d 1 4 L σ) else (ox (f_X5_prefix k 0 (lI (lI lZ 1 ((L.1 2))) 2 ((L.1 1))) σ) (fun r3 => f_F2 k d 1 3 (lI (lI L 5 r3.1.2) 6 ((((L.1 6)) + 1))) r3.2.1)))) := rfl
theorem ep_4 (k d : Nat) (L : LV) (σ : CS) : f_F2 (k + 1) d 1 4 L σ = (of d (fun e1 => ox (f_F2 k e1 8 0 lZ σ) (fun r1 => op (y_X5_level k 0 (lI lZ 0 ((r1.2.1.1 3702))) r1.2.1) (fun r2 => if r2.1 < ((L.1 1)) then (f_F2 k d 1 5 (lI L 6 r2.1) r2.2) else (f_F2 k d 1 6 (lI (lI L 6 r2.1) 100 1) r2.2))))) := rfl
theorem ep_5 (k d : Nat) (L : LV) (σ : CS) : f_F2 (k + 1) d 1 5 L σ = (f_F2 k d 1 6 (lI L 100 0) σ) := rfl
theorem ep_6 (k d : Nat) (L : LV) (σ : CS) : f_F2 (k + 1) d 1 6 L σ = (if ((L.1 100)) = 0 then (f_F2 k d 1 7 (lI L 3 ((L.1 100))) σ) else (if ((L.1 6)) = 3 then (f_F2 k d 1 8 L σ) else (if ((L.1 6)) = 6 then (f_F2 k d 1 8 L σ) else (f_F2 k d 1 9 L σ)))) := rfl
theorem ep_7 (k d : Nat) (L : LV) (σ : CS) : f_F2 (k + 1) d 1 7 L σ = (if ((L.1 3)) = 0 then (f_F2 k d 1 10 (lI L 7 ((σ.1 3702))) σ) else (if ((L.1 6)) = 6 then (ox (f_X5_opens k 0 lZ σ) (fun r3 => f_F2 k d 1 11 (lI L 7 ((σ.1 3702))) r3.2.1)) else (f_F2 k d 1 10 (lI L 7 ((σ.1 3702))) σ))) := rfl
theorem ep_8 (k d : Nat) (L : LV) (σ : CS) : f_F2 (k + 1) d 1 8 L σ = (f_F2 k d 1 12 (lI L 100 1) σ) := rfl
theorem ep_9 (k d : Nat) (L : LV) (σ : CS) : f_F2 (k + 1) d 1 9 L σ = (f_F2 k d 1 12 (lI L 100 0) σ) := rfl
theorem ep_10 (k d : Nat) (L : LV) (σ : CS) : f_F2 (k + 1) d 1 10 L σ = (if ((L.1 3)) = 0 then (f_F2 k d 1 11 L σ) else (ox (f_X2_advance k 0 lZ σ) (fun r2 => f_F2 k d 1 11 L r2.2.1))) := rfl
theorem ep_11 (k d : Nat) (L : LV) (σ : CS) : f_F2 (k + 1) d 1 11 L σ = (if ((L.1 3)) = 0 then (f_F2 k d 1 13 L σ) else (if 1 < ((L.1 6)) then (f_F2 k d 1 13 L σ) else (oP (sPp σ) (fun b3 => if ((L.1 6)) = 0 then (f_F2 k d 1 15 (lI (lI (lB (lI L 100 7) 101 b3) 102 8) 103 ((L.1 6))) σ) else (f_F2 k d 1 14 (lI (lI (lB L 100 b3) 101 8) 102 ((L.1 6))) σ))))) := rfl
theorem ep_12 (k d : Nat) (L : LV) (σ : CS) : f_F2 (k + 1) d 1 12 L σ = (if ((L.1 100)) = 0 then (f_F2 k d 1 16 (lI L 100 ((L.1 2))) σ) else (f_F2 k d 1 17 (lI (lI L 100 ((((L.1 6)) + 1))) 101 ((L.1 2))) σ)) := rfl
theorem ep_13 (k d : Nat) (L : LV) (σ : CS) : f_F2 (k + 1) d 1 13 L σ = (if ((L.1 3)) = 0 then (f_F2 k d 1 18 L σ) else (op (y_X5_binaryOp k 0 (lI lZ 0 ((L.1 7))) σ) (fun r2 => ox (f_X5_postpone k 0 (lI (lI (lI lZ 1 ((L.1 6))) 2 r2.1) 3 0) r2.2) (fun r3 => f_F2 k d 1 18 L r3.2.1)))) := rfl
theorem ep_14 (k d : Nat) (L : LV) (σ : CS) : f_F2 (k + 1) d 1 14 L σ = (f_F2 k d 1 15 (lI (lI (lB (lI L 100 6) 101 ((L.2.2.1 100))) 102 ((L.1 101))) 103 ((L.1 102))) σ) := rfl
theorem ep_15 (k d : Nat) (L : LV) (σ : CS) : f_F2 (k + 1) d 1 15 L σ = (ox (f_X7_emit__P k 0 (lI (lI (lB lZ 0 ((L.2.2.1 101))) 1 ((L.1 100))) 2 0) σ) (fun r1 => ox (f_X5_postpone k 0 (lI (lI (lI lZ 1 ((L.1 103))) 2 ((L.1 102))) 3 r1.1.2) r1.2.1) (fun r2 => f_F2 k d 1 18 L r2.2.1))) := rfl
theorem ep_16 (k d : Nat) (L : LV) (σ : CS) : f_F2 (k + 1) d 1 16 L σ = (f_F2 k d 1 17 (lI (lI L 100 ((L.1 6))) 101 ((L.1 100))) σ) := rfl
theorem ep_17 (k d : Nat) (L : LV) (σ : CS) : f_F2 (k + 1) d 1 17 L σ = (ox (f_X5_settle k 0 (lI (lI lZ 1 ((L.1 101))) 2 ((L.1 100))) σ) (fun r1 => if ((L.1 6)) = 3 then (op (y_X5_postponedLevel k 0 (lI lZ 1 ((L.1 2))) r1.2.1) (fun r3 => if r3.1 = 3 then (f_F2 k d 1 20 L r3.2) else (f_F2 k d 1 19 L r3.2))) else (f_F2 k d 1 19 L r1.2.1))) := rfl
theorem ep_18 (k d : Nat) (L : LV) (σ : CS) : f_F2 (k + 1) d 1 18 L σ = (f_F2 k d 1 1 (lI L 4 ((((L.1 4)) + 1))) σ) := rfl
theorem ep_19 (k d : Nat) (L : LV) (σ : CS) : f_F2 (k + 1) d 1 19 L σ = (f_F2 k d 1 21 (lI L 100 1) σ) := rfl
theorem ep_20 (k d : Nat) (L : LV) (σ : CS) : f_F2 (k + 1) d 1 20 L σ = (f_F2 k d 1 21 (lI L 100 0) σ) := rfl
theorem ep_21 (k d : Nat) (L : LV) (σ : CS) : f_F2 (k + 1) d 1 21 L σ = (f_F2 k d 1 7 (lI L 3 ((L.1 100))) σ) := rfl
/-- no prefix stands here: the operand is read -/
theorem st_oper {x : Fl RT} (xb : XB n o0 q0 v0 mk p sz tb.length ls e) (px : ∀ f', f' < f → ∀ e', PXp T n b u al f' e') (ev : EvX E b u al gl Vm tb σ0) (hd : HdS T n b u al σ0 tb gl Vm o0 mk p sz q0 v0 ls a1 a2 s q v cs L τ) (h66 : tkK T n q = 66 → ¬ topL ls s ≤ 2) (hk : ¬ (tkK T n q = 2 ∨ tkK T n q = 3 ∨ tkK T n q = 4 ∨ tkK T n q = 23 ∨ tkK T n q = 80 ∨ tkK T n q = 81)) (hG : gb (G T n f 13 E (o0 + wO s) q v 0 0 0 0 bt) (fun r => G T n f 12 E (o0 + wO s) r.1 r.2.1 r.2.2.1 r.2.2.2.1 0 0 r.2.2.2.2.1) = some x) (hn : ∀ y, x = Sum.inl y → xF = Sum.inl y) (cont : ∀ r, x = Sum.inr r → ∀ (cs' : List Int32) (n1 n2 : Nat) (L' : LV) (τ' : CS), AfS T n b u al σ0 tb gl Vm o0 mk p sz q0 v0 ls n1 n2 s r.1 r.2.1 cs' L' τ' → (r.2.2.1 = 0 ∨ ¬ q = q0 → ¬ τ'.1 4016 = nI q0) → (¬ r.2.2.1 = 0 ∧ q = q0 → TgI T n u p gl Vm tb q0 sz mk cs' r.2.2.1 τ') → Tm (fun k => AfT e L' τ' k) (Xq T n b u al σ0 tb gl Vm o0 mk p sz q0 v0 xF n1 n2)) : Tm (fun k => f_F2 k (e + 6) 1 3 L τ) (Xq T n b u al σ0 tb gl Vm o0 mk p sz q0 v0 xF a1 a2) := by
  obtain ⟨wa, ⟨c1, c2, c3, c4⟩, ⟨l1, l2, l5⟩, ⟨k0, l6, k6⟩, i0, l4, i4⟩ := hd
  obtain ⟨⟨n10, b22, b33, b44, b55⟩, hls, hde⟩ := xb
  have o20 := wa.1.1.1.2.2.2.2.2.1.2
  have wc := w_cnt s
  have qn := (tk_go wa.1.1.1).1
  have m41 := wa.1.1.1.2.2.1.2
  -- the operand
  have b4 : ∀ (L2 : LV) (n1 n2 : Nat), L2.1 1 = nI ls → L2.1 2 = nI mk → L2.1 4 = nI i0 → WA T n b u al σ0 tb gl Vm o0 mk p sz n1 n2 s q v cs 0 τ → Tm (fun k => f_F2 k (e + 6) 1 4 L2 τ) (Xq T n b u al σ0 tb gl Vm o0 mk p sz q0 v0 xF n1 n2) := by
    intro L2 n1 n2 g1 g2 g4 wa
    refine Tm_suc (fun k => ep_4 k _ _ _) ?_
    refine Tm_d ?_
    have bdo : BdX n (o0 + wO s) q v (mk + 3 * s.length) p (sz + cs.length) tb.length := ⟨n10, by omega, by omega, by omega, by omega⟩
    refine st_call (C := True) wa.1.1 (c_operand px wa.1.1.1 (EvX_k ev wa.1.1.2.1) bdo hG (fun z => by omega)) ?_
    rcases x with _ | r
    · exact Or.inl ⟨_, rfl, hn _ rfl⟩
    refine Or.inr ⟨r, rfl, trivial, fun τ3 ret3 m3 m4 hr xk3 hc3 => ?_⟩
    obtain ⟨⟨ll, i1, i2, sg, ln, lt, lv, tg⟩, t16⟩ := hr
    have s3 := Sy_ca wa.1 i1 xk3 hc3 i2 (Nat.le_refl _) (Nat.le_add_right _ _)
    have q3n := (tk_go s3.1.1).1
    have la : (cs ++ ll).length = cs.length + ll.length := List.length_append
    have wa3 : WA T n b u al σ0 tb gl Vm o0 mk p sz (n1 + m3) (n2 + m4) s r.1 r.2.1 (cs ++ ll) 1 τ3 := ⟨s3, MkW_k s mk (fun i hi => xk3.2.2.2.2.2.2.1 i hi) wa.2.1, wOk_ap s wa.2.2.1, Ph_sg wa.2.2.2 sg⟩
    refine cont r rfl (cs ++ ll) _ _ L2 τ3 ⟨wa3, ⟨by rw [la]; omega, by omega, by omega, by omega⟩, ⟨g1, g2⟩, i0, g4, by omega⟩ (fun z w => ?_) (fun z => ?_)
    · by_cases c : r.2.2.1 = 0
      · rw [t16 c] at w
        exact n_mn (k := q0) (by omega) w.symm
      · have y := (tg.2 c).1.1
        rw [y, n_eq (by omega) (by omega)] at w
        rcases z with z | z
        · exact c z
        · exact z w
    · obtain ⟨z1, z2⟩ := z
      have e1 : cs.length = 0 := by omega
      have e2 : s.length = 0 := by omega
      have e3 : cs = [] := List.eq_nil_of_length_eq_zero e1
      rw [z2, e1, e2] at tg
      rw [e3]
      exact tg
  refine Tm_suc (fun k => ep_3 k _ _ _) ?_
  refine Tm_no ?_ ?_
  · rw [l6]
    show ¬ nI 20 < nI k0
    rw [n_lt (by decide) (by omega)]; omega
  refine Tm_no (by rw [l5]; decide) ?_
  refine Tm_ox (c_pfNo wa (by omega) (by omega) l2 l1 h66 hk) (fun r w nz => absurd (by rw [w]) nz) (fun r w _ => ?_)
  rw [w]
  refine Tm_mono ?_ (fun q z => QPo_s (n1 := 0) (n2 := 0) z)
  refine Tm_suc (fun k => ep_3 k _ _ _) ?_
  refine Tm_ite (fun _ => b4 _ _ _ l1 l2 l4 wa) (fun _ => ?_)
  refine Tm_yes rfl ?_
  exact b4 _ _ _ l1 l2 l4 wa
/-- the level that is settled before an operator -/
def spL (lv : Nat) : Nat := if lv = 3 ∨ lv = 6 then lv + 1 else lv
theorem kl_65 {k : Nat} (h : kl k = 1) : k = 65 := by
  unfold kl at h
  by_cases c1 : k = 65
  · exact c1
  rw [if_neg c1] at h
  by_cases c2 : k = 64
  · rw [if_pos c2] at h; omega
  rw [if_neg c2] at h
  by_cases c3 : isRl k
  · rw [if_pos c3] at h; omega
  rw [if_neg c3] at h
  by_cases c4 : k = 2 ∨ k = 3
  · rw [if_pos c4] at h; omega
  rw [if_neg c4] at h
  by_cases c5 : k = 4 ∨ k = 67 ∨ k = 68
  · rw [if_pos c5] at h; omega
  rw [if_neg c5] at h
  by_cases c6 : k = 5
  · rw [if_pos c6] at h; omega
  rw [if_neg c6] at h; omega
theorem kl_64 {k : Nat} (h : kl k = 2) : k = 64 := by
  unfold kl at h
  by_cases c1 : k = 65
  · rw [if_pos c1] at h; omega
  rw [if_neg c1] at h
  by_cases c2 : k = 64
  · exact c2
  rw [if_neg c2] at h
  by_cases c3 : isRl k
  · rw [if_pos c3] at h; omega
  rw [if_neg c3] at h
  by_cases c4 : k = 2 ∨ k = 3
  · rw [if_pos c4] at h; omega
  rw [if_neg c4] at h
  by_cases c5 : k = 4 ∨ k = 67 ∨ k = 68
  · rw [if_pos c5] at h; omega
  rw [if_neg c5] at h
  by_cases c6 : k = 5
  · rw [if_pos c6] at h; omega
  rw [if_neg c6] at h; omega
theorem kl_25 {k : Nat} (h : ¬ kl k = 0) : ¬ k = 25 := fun z => by
  rw [z] at h; exact h (by decide)
/-- the fault of an operator -/
def oS (T : Nat → Int32) (n lv o q : Nat) : Nat × Nat := if lv = 6 then oF T n o q else (1, tkN T n q)
theorem oS_6 (h : lv = 6) : oS T n lv o q = oF T n o q := if_pos h
theorem oS_n (h : ¬ lv = 6) : oS T n lv o q = (1, tkN T n q) := if_neg h
/-- an operator between two operands is taken -/
theorem st_opr (S' S0 : List Wt) (xb : XB n o0 q0 v0 mk p sz tb.length ls e) (af : AfS T n b u al σ0 tb gl Vm o0 mk p sz q0 v0 ls a1 a2 (S' ++ S0) q v cs L τ) (hk : kl (tkK T n q) = lv + 1) (hlv : ls ≤ lv) (ha : ∀ e, e ∈ S' → spL lv ≤ e.1) (hb : ∀ e s, S0 = e :: s → e.1 < spL lv) (h3 : lv = 3 → ∀ e s, S0 = e :: s → ¬ e.1 = 3) (hx : (¬ ((lv = 6 → ¬ o0 + wO S0 = 20) ∧ ¬ tkK T n (tkN T n q) = 0) ∧ xF = Sum.inl (oS T n lv (o0 + wO S0) q)) ∨ (((lv = 6 → ¬ o0 + wO S0 = 20) ∧ ¬ tkK T n (tkN T n q) = 0) ∧ C)) (cont : C → ∀ (op mo : Nat) (cs' : List Int32) (n1 n2 : Nat) (L' : LV) (τ' : CS), HdS T n b u al σ0 tb gl Vm o0 mk p sz q0 v0 ls n1 n2 ((lv, op, mo) :: S0) (tkN T n q) v cs' L' τ' → Tm (fun k => f_F2 k (e + 6) 1 3 L' τ') (Xq T n b u al σ0 tb gl Vm o0 mk p sz q0 v0 xF n1 n2)) : Tm (fun k => AfT e L τ k) (Xq T n b u al σ0 tb gl Vm o0 mk p sz q0 v0 xF a1 a2) := by
  obtain ⟨wa, ⟨c1, c2, c3, c4⟩, ⟨l1, l2⟩, i0, l4, i4⟩ := af
  obtain ⟨⟨n10, b22, b33, b44, b55⟩, hls, hde⟩ := xb
  have kb := kl_b (tkK T n q)
  have lv6 : lv ≤ 6 := by omega
  have sp8 : spL lv ≤ 8 := by
    unfold spL
    by_cases c : lv = 3 ∨ lv = 6
    · rw [if_pos c]; omega
    · rw [if_neg c]; omega
  have go := tk_go wa.1.1.1
  have qn := go.1
  have g1 := go.2.2 (kl_25 (by omega))
  have kv : tkV (tkK T n q) := tk_v wa.1.1.1.1.2.2.2.1 wa.1.1.1.1.2.2.2.2.1
  have lva := lvx_all kv
  have ek : τ.1 3702 = cKd (tkK T n q) := wa.1.1.1.1.2.2.2.2.2.1
  have wc := w_cnt (S' ++ S0)
  have wc0 := w_cnt S0
  have wu := wU_ap S' S0
  have g2 : lv ≤ 1 → q + 2 ≤ tkN T n q := fun z => by
    rcases (show lv = 0 ∨ lv = 1 by omega) with y | y
    · exact tk_wl (m := 2) wa.1.1.1 (kl_65 (by omega)) (by decide) rfl
    · have := tk_wl (m := 3) wa.1.1.1 (kl_64 (by omega)) (by decide) rfl
      omega
  -- the next operand
  have b18 : ∀ (op mo : Nat) (ca : List Int32) (n1 n2 : Nat) (L2 : LV) (τ2 : CS), C → WQ T n b u al tb gl Vm o0 mk p sz ((lv, op, mo) :: S0) (tkN T n q) v ca 0 τ2 → XK b u tb.length sz mk σ0 τ2 → (n1 + PhC τ2 ≤ PhC σ0 ∧ n2 + PhS τ2 ≤ PhS σ0) → 2 * (ca.length + wP S0 + 1) ≤ 3 * (tkN T n q - q0) → ¬ op = 112 → L2.1 1 = nI ls → L2.1 2 = nI mk → L2.1 3 = 1 → L2.1 4 = nI i0 → Tm (fun k => f_F2 k (e + 6) 1 18 L2 τ2) (Xq T n b u al σ0 tb gl Vm o0 mk p sz q0 v0 xF n1 n2) := by
    intro op mo ca n1 n2 L2 τ2 hc wq xk hco hsz hop h1 h2 h3' h4
    refine Tm_suc (fun k => ep_18 k _ _ _) ?_
    refine Tm_suc (fun k => ep_1 k _ _ _) ?_
    refine Tm_no ?_ ?_
    · show ¬ nI 32768 < L2.1 4 + 1
      rw [h4, n_add1, n_lt (by decide) (by omega)]; omega
    refine Tm_no (by show ¬ L2.1 3 = 0; rw [h3']; decide) ?_
    refine cont hc op mo ca n1 n2 _ τ2 ⟨WQ_a wq xk hco, ⟨by rw [wP_n (e := (lv, op, mo)) hop]; omega, ?_, by omega, c4⟩, ⟨h1, h2, rfl⟩, ⟨0, rfl, Nat.zero_le _⟩, i0 + 1, ?_, by omega⟩
    · by_cases c : lv = 2 ∨ 6 ≤ lv
      · rw [wU_y (e := (lv, op, mo)) c]; omega
      · rw [wU_n (e := (lv, op, mo)) c]; omega
    · show L2.1 4 + 1 = _
      rw [h4, n_add1]
  -- behind the settling
  have b21 : ∀ (ca : List Int32) (n1 n2 : Nat) (L2 : LV) (τ2 : CS), WA T n b u al σ0 tb gl Vm o0 mk p sz n1 n2 S0 q v ca 1 τ2 → ca.length + wP S0 = cs.length + wP (S' ++ S0) → L2.1 1 = nI ls → L2.1 2 = nI mk → L2.1 4 = nI i0 → L2.1 6 = nI lv → L2.1 100 = 1 → Tm (fun k => f_F2 k (e + 6) 1 21 L2 τ2) (Xq T n b u al σ0 tb gl Vm o0 mk p sz q0 v0 xF n1 n2) := by
    intro ca n1 n2 L2 τ2 wa2 hca h1 h2 h4 h6 h100
    have ek2 : τ2.1 3702 = cKd (tkK T n q) := wa2.1.1.1.1.2.2.2.2.2.1
    have e20 := wa2.1.1.1.2.2.2.2.2.1.2
    have mm := wa2.1.1.1.2.2.1.2
    have el : S0.length + 1 = ((lv, 0, 0) :: S0 : List Wt).length := rfl
    have hm3 : mk + 3 * S0.length + 3 ≤ 21504 := by omega
    -- behind the token
    have b11 : ∀ (L3 : LV) (τ3 : CS) (m1 m2 : Nat), C → Sy T n b u al σ0 tb.length sz mk m1 m2 tb (o0 + wO S0 + (if lv = 6 then 1 else 0)) (tkN T n q) v (mk + 3 * S0.length) p sz ca τ3 → (∀ i, i < mk + 3 * S0.length → τ3.2.2.1 41 i = τ2.2.2.1 41 i) → L3.1 1 = nI ls → L3.1 2 = nI mk → L3.1 3 = 1 → L3.1 4 = nI i0 → L3.1 6 = nI lv → L3.1 7 = cKd (tkK T n q) → Tm (fun k => f_F2 k (e + 6) 1 11 L3 τ3) (Xq T n b u al σ0 tb gl Vm o0 mk p sz q0 v0 xF m1 m2) := by
      intro L3 τ3 m1 m2 hc s3 k3 j1 j2 j3 j4 j6 j7
      have mk3 : MkW τ3 mk S0 := MkW_k S0 mk k3 wa2.2.1
      refine Tm_suc (fun k => ep_11 k _ _ _) ?_
      refine Tm_no (by rw [j3]; decide) ?_
      rw [j6]
      by_cases c2 : 1 < lv
      · refine Tm_yes ?_ ?_
        · show nI 1 < nI lv
          rw [n_lt (by decide) (by omega)]; exact c2
        refine Tm_suc (fun k => ep_13 k _ _ _) ?_
        refine Tm_no (by rw [j3]; decide) ?_
        have l4' := lva.2 (by omega)
        refine Tm_op (c_binOp _ τ3) (fun r z => ?_)
        rw [z]
        have e0 : binP ((lI lZ 0 (L3.1 7)).1 0) = nI (uN (binP (cKd (tkK T n q)))) := by
          show binP (L3.1 7) = _
          rw [j7, ← u_of]
        rw [e0, j6]
        refine st_post s3 hm3 (fun τ4 x1 x2 s4 k4 w4 _ => ?_)
        refine b18 (uN (binP (cKd (tkK T n q)))) 0 ca _ _ _ τ4 hc ⟨⟨?_, s4.2⟩, ⟨w4, MkW_k S0 mk k4 mk3⟩, ⟨Or.inr (Or.inr (Or.inl ⟨by show 3 ≤ lv; omega, lv6, l4'⟩)), wa2.2.2.1⟩, ?_⟩ s4.1.2.1 s4.1.2.2.1 (by omega) (by omega) j1 j2 j3 j4
        · have z4 := s4.1.1
          by_cases c6 : lv = 6
          · rw [if_pos c6] at z4
            rw [wO_y (e := (lv, uN (binP (cKd (tkK T n q))), 0)) (Or.inr (by show 6 ≤ lv; omega))]
            exact z4
          · rw [if_neg c6] at z4
            rw [wO_n (e := (lv, uN (binP (cKd (tkK T n q))), 0)) (by show ¬ (lv = 2 ∨ 6 ≤ lv); omega)]
            exact z4
        · rw [wH_no (e := (lv, uN (binP (cKd (tkK T n q))), 0)) (by show ¬ lv ≤ 1; omega), wT_y (e := (lv, uN (binP (cKd (tkK T n q))), 0)) (by show 3 ≤ lv ∧ lv ≤ 6; omega)]
          exact wa2.2.2.2
      · refine Tm_no ?_ ?_
        · show ¬ nI 1 < nI lv
          rw [n_lt (by decide) (by omega)]; exact c2
        have g2' := g2 (by omega)
        rw [if_neg (by omega)] at s3
        refine Tm_oP (Sy_pp s3) ?_
        have b15 : ∀ L4 : LV, L4.1 1 = nI ls → L4.1 2 = nI mk → L4.1 3 = 1 → L4.1 4 = nI i0 → L4.1 100 = nI (7 - lv) → L4.2.2.1 101 = b → L4.1 102 = nI 8 → L4.1 103 = nI lv → Tm (fun k => f_F2 k (e + 6) 1 15 L4 τ3) (Xq T n b u al σ0 tb gl Vm o0 mk p sz q0 v0 xF m1 m2) := by
          intro L4 i1 i2 i3 i4 i100 i101 i102 i103
          refine Tm_suc (fun k => ep_15 k _ _ _) ?_
          rw [i101, i100, i102, i103]
          refine st_emitF (op := 7 - lv) s3 rfl rfl (by omega) (fun τ4 x1 x2 s4 k4 _ => ?_)
          refine st_post s4 hm3 (fun τ5 x3 x4 s5 k5 w5 _ => ?_)
          have ph := Ph_j (op := 7 - lv) (t' := wT S0) wa2.2.2.2 (by omega) (fun _ => rfl) (fun z => absurd z (by omega)) 0
          rw [if_neg (show ¬ 7 - lv = 3 by omega)] at ph
          have la : (ca ++ [em (7 - lv) 0]).length = ca.length + 1 := by rw [List.length_append]; rfl
          refine b18 8 (sz + ca.length) (ca ++ [em (7 - lv) 0]) _ _ _ τ5 hc ⟨⟨?_, s5.2⟩, ⟨w5, MkW_k S0 mk (fun i hi => by rw [k5 i hi, k4.1]) mk3⟩, ⟨Or.inl ⟨by show lv ≤ 1; omega, rfl, Nat.le_add_right _ _, ?_, 0, ?_⟩, wOk_ap S0 wa2.2.2.1⟩, ?_⟩ s5.1.2.1 s5.1.2.2.1 (by rw [la]; omega) (by decide) i1 i2 i3 i4
          · rw [wO_n (e := (lv, 8, sz + ca.length)) (by show ¬ (lv = 2 ∨ 6 ≤ lv); omega)]
            exact s5.1.1
          · show sz + ca.length - sz < _
            rw [la]; omega
          · show (ca ++ [em (7 - lv) 0]).getD (sz + ca.length - sz) 0 = _
            rw [show sz + ca.length - sz = ca.length + 0 by omega, gd_r]; rfl
          · rw [wH_or (e := (lv, 8, sz + ca.length)) (by show lv ≤ 1; omega), wT_n (e := (lv, 8, sz + ca.length)) (by show ¬ (3 ≤ lv ∧ lv ≤ 6); omega)]
            show PKh u p gl Vm ((sz + ca.length - sz, 7 - lv, wT S0) :: wH sz S0) (wT S0) _
            rw [show sz + ca.length - sz = ca.length by omega]
            exact ph
        rcases (show lv = 0 ∨ lv = 1 by omega) with z | z
        · refine Tm_yes (by rw [z]; rfl) ?_
          exact b15 _ j1 j2 j3 j4 (by rw [z]; rfl) rfl rfl (by show nI lv = _; rfl)
        · refine Tm_no (by rw [z]; decide) ?_
          refine Tm_suc (fun k => ep_14 k _ _ _) ?_
          exact b15 _ j1 j2 j3 j4 (by rw [z]; rfl) rfl rfl (by show nI lv = _; rfl)
    refine Tm_suc (fun k => ep_21 k _ _ _) ?_
    refine Tm_suc (fun k => ep_7 k _ _ _) ?_
    refine Tm_no (by show ¬ L2.1 100 = 0; rw [h100]; decide) ?_
    have e6 : ∀ L3 : LV, L3.1 6 = nI lv → (L3.1 6 = 6 ↔ lv = 6) := fun L3 h => by
      rw [h]; exact n_eq (q := 6) (by omega) (by decide)
    by_cases c6 : lv = 6
    · refine Tm_yes ((e6 _ h6).2 c6) ?_
      have hx6 : (¬ (¬ o0 + wO S0 = 20 ∧ ¬ tkK T n (tkN T n q) = 0) ∧ xF = Sum.inl (oF T n (o0 + wO S0) q)) ∨ ((¬ o0 + wO S0 = 20 ∧ ¬ tkK T n (tkN T n q) = 0) ∧ C) := by
        rcases hx with ⟨w1, w2⟩ | ⟨w1, w2⟩
        · exact Or.inl ⟨fun z => w1 ⟨fun _ => z.1, z.2⟩, w2.trans (by rw [oS_6 c6])⟩
        · exact Or.inr ⟨⟨w1.1 c6, w1.2⟩, w2⟩
      refine st_opX wa2.1 hx6 (fun τ3 ret m1 m2 hc s3 k3 => ?_)
      exact b11 _ τ3 _ _ hc (by rw [if_pos c6]; exact s3) k3 h1 h2 h100 h4 h6 ek2
    · refine Tm_no (fun z => c6 ((e6 _ h6).1 z)) ?_
      refine Tm_suc (fun k => ep_10 k _ _ _) ?_
      refine Tm_no (by show ¬ L2.1 100 = 0; rw [h100]; decide) ?_
      have hx6 : (tkK T n (tkN T n q) = 0 ∧ xF = Sum.inl (1, tkN T n q)) ∨ (¬ tkK T n (tkN T n q) = 0 ∧ C) := by
        rcases hx with ⟨w1, w2⟩ | ⟨w1, w2⟩
        · exact Or.inl ⟨Classical.byContradiction (fun z => w1 ⟨fun y => absurd y c6, z⟩), w2.trans (by rw [oS_n c6])⟩
        · exact Or.inr ⟨w1.2, w2⟩
      refine st_advX wa2.1 hx6 (fun τ3 ret m1 m2 hc s3 k3 => ?_)
      exact b11 _ τ3 _ _ hc (by rw [if_neg c6]; exact s3) k3 h1 h2 h100 h4 h6 ek2
  -- the settling
  have b17 : ∀ L2 : LV, L2.1 1 = nI ls → L2.1 2 = nI mk → L2.1 4 = nI i0 → L2.1 6 = nI lv → L2.1 100 = nI (spL lv) → L2.1 101 = nI mk → Tm (fun k => f_F2 k (e + 6) 1 17 L2 τ) (Xq T n b u al σ0 tb gl Vm o0 mk p sz q0 v0 xF a1 a2) := by
    intro L2 h1 h2 h4 h6 h100 h101
    refine Tm_suc (fun k => ep_17 k _ _ _) ?_
    refine st_settle S' S0 wa h101 h100 ha hb sp8 (by omega) (fun τ2 ca ret n1 n2 wa2 hca _ _ => ?_)
    have b19 : ∀ τ3 : CS, τ3 = τ2 → Tm (fun k => f_F2 k (e + 6) 1 19 L2 τ3) (Xq T n b u al σ0 tb gl Vm o0 mk p sz q0 v0 xF (a1 + n1) (a2 + n2)) := by
      intro τ3 z
      rw [z]
      refine Tm_suc (fun k => ep_19 k _ _ _) ?_
      exact b21 ca _ _ _ τ2 wa2 hca h1 h2 h4 h6 rfl
    rw [h6]
    by_cases c3' : lv = 3
    · refine Tm_yes (by rw [c3']; rfl) ?_
      refine Tm_op (c_ppl wa2 h2) (fun r z => ?_)
      refine Tm_no (fun w => ?_) (b19 _ z.1)
      rcases S0 with _ | ⟨e, s⟩
      · rw [z.2.1 rfl] at w
        exact absurd w (by decide)
      · have e7 : e.1 ≤ 7 := by rcases wa2.2.2.1.1 with y | y | y | y <;> omega
        rw [z.2.2 e s rfl] at w
        exact h3 c3' e s rfl ((n_eq (q := 3) (by omega) (by decide)).1 w)
    · refine Tm_no (fun w => c3' ((n_eq (q := 3) (by omega) (by decide)).1 w)) (b19 _ rfl)
  unfold AfT
  refine Tm_op (c_level _ τ) (fun r2 z => ?_)
  have ev : levP ((lI lZ 0 (τ.1 3702)).1 0) = nI lv := by
    show levP (τ.1 3702) = _
    rw [ek, lva.1, hk, sub1_n (by omega)]
  rw [z, ev, l1]
  refine Tm_no ?_ ?_
  · rw [n_lt (by omega) (by omega)]; omega
  have e36 : ∀ j : Nat, j < 100 → (nI lv = nI j ↔ lv = j) := fun j hj => n_eq (by omega) (by omega)
  have y8 : lv = 3 ∨ lv = 6 → ∀ L2 : LV, L2.1 1 = nI ls → L2.1 2 = nI mk → L2.1 4 = nI i0 → L2.1 6 = nI lv → Tm (fun k => f_F2 k (e + 6) 1 8 L2 τ) (Xq T n b u al σ0 tb gl Vm o0 mk p sz q0 v0 xF a1 a2) := by
    intro hl L2 h1 h2 h4 h6
    refine Tm_suc (fun k => ep_8 k _ _ _) ?_
    refine Tm_suc (fun k => ep_12 k _ _ _) ?_
    refine Tm_no (by show ¬ (1 : Int32) = 0; decide) ?_
    refine b17 _ h1 h2 h4 h6 ?_ h2
    show L2.1 6 + 1 = _
    unfold spL
    rw [if_pos hl, h6, n_add1]
  refine Tm_suc (fun k => ep_6 k _ _ _) ?_
  refine Tm_no (by show ¬ (1 : Int32) = 0; decide) ?_
  by_cases c3' : lv = 3
  · refine Tm_yes ((e36 3 (by decide)).2 c3') ?_
    exact y8 (Or.inl c3') _ l1 l2 l4 rfl
  refine Tm_no (fun w => c3' ((e36 3 (by decide)).1 w)) ?_
  by_cases c6 : lv = 6
  · refine Tm_yes ((e36 6 (by decide)).2 c6) ?_
    exact y8 (Or.inr c6) _ l1 l2 l4 rfl
  refine Tm_no (fun w => c6 ((e36 6 (by decide)).1 w)) ?_
  refine Tm_suc (fun k => ep_9 k _ _ _) ?_
  refine Tm_suc (fun k => ep_12 k _ _ _) ?_
  refine Tm_yes rfl ?_
  refine Tm_suc (fun k => ep_16 k _ _ _) ?_
  refine b17 _ l1 l2 l4 rfl ?_ l2
  show nI lv = _
  unfold spL
  rw [if_neg (by omega)]
/-- a comparison stands uppermost among those below level 4 -/
def RlT (s : List Wt) : Prop := ∃ (s4 : List Wt) (e3 : Wt) (s1 : List Wt), s = s4 ++ e3 :: s1 ∧ (∀ e, e ∈ s4 → 4 ≤ e.1) ∧ e3.1 = 3
/-- the exp is over -/
theorem st_end {r : RT} (xb : XB n o0 q0 v0 mk p sz tb.length ls e) (af : AfS T n b u al σ0 tb gl Vm o0 mk p sz q0 v0 ls a1 a2 s q v cs L τ) (hk : kl (tkK T n q) ≤ ls ∨ (kl (tkK T n q) = 4 ∧ ls ≤ 3 ∧ RlT s)) (hx : xF = Sum.inr r) (h1 : r.1 = q) (h2 : r.2.1 = v) (t1 : r.2.2.1 = 0 → ¬ τ.1 4016 = nI q0) (t2 : ¬ r.2.2.1 = 0 → s = [] ∧ TgI T n u p gl Vm tb q0 sz mk cs r.2.2.1 τ) : Tm (fun k => AfT e L τ k) (Xq T n b u al σ0 tb gl Vm o0 mk p sz q0 v0 xF a1 a2) := by
  obtain ⟨wa, ⟨c1, c2, c3, c4⟩, ⟨l1, l2⟩, i0, l4, i4⟩ := af
  obtain ⟨⟨n10, b22, b33, b44, b55⟩, hls, hde⟩ := xb
  have kb := kl_b (tkK T n q)
  have qn := (tk_go wa.1.1.1).1
  have kv : tkV (tkK T n q) := tk_v wa.1.1.1.1.2.2.2.1 wa.1.1.1.1.2.2.2.2.1
  have lva := lvx_all kv
  have ek : τ.1 3702 = cKd (tkK T n q) := wa.1.1.1.1.2.2.2.2.2.1
  -- all is settled
  have b7 : ∀ (S2 : List Wt) (ca : List Int32) (n1 n2 : Nat) (L2 : LV) (τ2 : CS), WA T n b u al σ0 tb gl Vm o0 mk p sz n1 n2 S2 q v ca 1 τ2 → ca.length + wP S2 = cs.length + wP s → τ2.1 4016 = τ.1 4016 → (s = [] → S2 = [] ∧ ca = cs ∧ τ2 = τ) → L2.1 2 = nI mk → L2.1 3 = 0 → L2.1 4 = nI i0 → Tm (fun k => f_F2 k (e + 6) 1 7 L2 τ2) (Xq T n b u al σ0 tb gl Vm o0 mk p sz q0 v0 xF n1 n2) := by
    intro S2 ca n1 n2 L2 τ2 wa2 hca h16 hs h2' h3' h4'
    refine Tm_suc (fun k => ep_7 k _ _ _) ?_
    refine Tm_yes h3' ?_
    refine Tm_suc (fun k => ep_10 k _ _ _) ?_
    refine Tm_yes h3' ?_
    refine Tm_suc (fun k => ep_11 k _ _ _) ?_
    refine Tm_yes h3' ?_
    refine Tm_suc (fun k => ep_13 k _ _ _) ?_
    refine Tm_yes h3' ?_
    refine Tm_suc (fun k => ep_18 k _ _ _) ?_
    refine Tm_suc (fun k => ep_1 k _ _ _) ?_
    refine Tm_no ?_ ?_
    · show ¬ nI 32768 < L2.1 4 + 1
      rw [h4', n_add1, n_lt (by decide) (by omega)]; omega
    refine Tm_yes h3' ?_
    refine Tm_suc (fun k => ep_2 k _ _ _) ?_
    have wa2' : WA T n b u al σ0 tb gl Vm o0 mk p sz n1 n2 (S2 ++ []) q v ca 1 τ2 := by rw [List.append_nil]; exact wa2
    refine st_settle (ls := 0) S2 [] wa2' h2' rfl (fun e _ => Nat.zero_le _) (fun e s z => by cases z) (by decide) (by rw [List.append_nil]; omega) (fun τ3 cb ret m1 m2 wa3 hcb k16 hs3 => ?_)
    rw [hx]
    rw [List.append_nil] at hcb
    have hl : cb.length = cs.length + wP s := by
      have : wP ([] : List Wt) = 0 := rfl
      omega
    refine Tm_some (Qfin wa3.1.1 ⟨cb, ?_, wa3.1.2, Ph_end wa3.2.2.2, by rw [h1]; omega, by omega, by omega, fun z => ?_, fun z => ?_⟩)
    · rw [h1, h2]; exact wa3.1.1.1
    · rw [k16, h16]; exact t1 z
    · obtain ⟨s0, tg⟩ := t2 z
      obtain ⟨y1, y2, y3⟩ := hs s0
      obtain ⟨y4, y5⟩ := hs3 y1
      rw [y4, y2, y5, y3]
      exact tg.2 z
  unfold AfT
  refine Tm_op (c_level _ τ) (fun r2 z => ?_)
  rw [z]
  have ev : levP ((lI lZ 0 (τ.1 3702)).1 0) = nI (kl (tkK T n q)) - 1 := by
    show levP (τ.1 3702) = _
    rw [ek, lva.1]
  rcases hk with hk | ⟨hk, hl3, s4, e3, s1, hs, h4, h3⟩
  · refine Tm_yes ?_ ?_
    · show levP ((lI lZ 0 (τ.1 3702)).1 0) < L.1 1
      rw [ev, l1]
      by_cases c0 : kl (tkK T n q) = 0
      · rw [c0]
        rcases hls with y | y
        · rw [y]; decide
        · rw [y]; decide
      · rw [show kl (tkK T n q) = kl (tkK T n q) - 1 + 1 by omega, sub1_n (by omega), n_lt (by omega) (by omega)]
        omega
    refine Tm_suc (fun k => ep_5 k _ _ _) ?_
    refine Tm_suc (fun k => ep_6 k _ _ _) ?_
    refine Tm_yes rfl ?_
    exact b7 s cs _ _ _ τ wa rfl rfl (fun y => ⟨y, rfl, rfl⟩) l2 rfl l4
  · have e3l : levP ((lI lZ 0 (τ.1 3702)).1 0) = nI 3 := by rw [ev, hk]; rfl
    refine Tm_no ?_ ?_
    · show ¬ levP ((lI lZ 0 (τ.1 3702)).1 0) < L.1 1
      rw [e3l, l1, n_lt (by decide) (by omega)]; omega
    refine Tm_suc (fun k => ep_6 k _ _ _) ?_
    refine Tm_no (by show ¬ (1 : Int32) = 0; decide) ?_
    refine Tm_yes e3l ?_
    refine Tm_suc (fun k => ep_8 k _ _ _) ?_
    refine Tm_suc (fun k => ep_12 k _ _ _) ?_
    refine Tm_no (by show ¬ (1 : Int32) = 0; decide) ?_
    refine Tm_suc (fun k => ep_17 k _ _ _) ?_
    rw [hs] at wa
    refine st_settle (ls := 4) s4 (e3 :: s1) wa l2 (by show levP ((lI lZ 0 (τ.1 3702)).1 0) + 1 = _; rw [e3l]; rfl) h4 (fun e s z => by cases z; omega) (by decide) (by rw [← hs]; omega) (fun τ2 ca ret n1 n2 wa2 hca k16 _ => ?_)
    refine Tm_yes e3l ?_
    refine Tm_op (c_ppl wa2 l2) (fun r3 z3 => ?_)
    refine Tm_yes (by rw [z3.2.2 e3 s1 rfl, h3]; rfl) ?_
    rw [z3.1]
    refine Tm_suc (fun k => ep_20 k _ _ _) ?_
    refine Tm_suc (fun k => ep_21 k _ _ _) ?_
    refine b7 (e3 :: s1) ca _ _ _ τ2 wa2 (by rw [hs]; exact hca) k16 (fun y => ?_) l2 rfl l4
    rw [hs] at y
    exact absurd y (by cases s4 <;> exact List.cons_ne_nil _ _)
end CWD
end JnS471
section JnS472
/-! The class: exps are read as the grammar says. -/
section CWE
variable {σ0 τ : CS} {L : LV} {b : Bool} {T : Nat → Int32} {n q q0 q1 v0 u al o v mk p sz a1 a2 f F e o0 ls lv l lJ B BI i e0 nt ntI : Nat} {cs : List Int32} {tb : List Ent} {C : Prop} {E : En} {gl : Nat × (Nat → Nat → Prop)} {Vm : Nat → Prop} {bt : BT} {xF x : Fl RT} {s S' S : List Wt}
/-- what may stand behind operands of a level -/
def Nxk (l : Nat) (s : List Wt) (k : Nat) : Prop := kl k ≤ l ∨ (kl k = 4 ∧ l ≤ 3 ∧ RlT s)
/-- whether it is a variable with its parts -/
def Tgq (T : Nat → Int32) (n u p : Nat) (gl : Nat × (Nat → Nat → Prop)) (Vm : Nat → Prop) (tb : List Ent) (sz mk q0 q i : Nat) (S' : List Wt) (cs : List Int32) (τ : CS) : Prop := (i = 0 ∨ ¬ q = q0 → ¬ τ.1 4016 = nI q0) ∧ (¬ i = 0 → S' = []) ∧ (¬ i = 0 ∧ q = q0 → TgI T n u p gl Vm tb q0 sz mk cs i τ)
/-- how it goes on behind an operand -/
def CxK (T : Nat → Int32) (n : Nat) (b : Bool) (u al : Nat) (σ0 : CS) (tb : List Ent) (gl : Nat × (Nat → Nat → Prop)) (Vm : Nat → Prop) (o0 mk p sz q0 v0 : Nat) (E : En) (xF : Fl RT) (ls e l q : Nat) (x : Fl RT) (S : List Wt) : Prop := (∀ y, x = Sum.inl y → xF = Sum.inl y) ∧ ∀ r, x = Sum.inr r → ∀ (S' : List Wt) (cs' : List Int32) (n1 n2 : Nat) (L' : LV) (τ' : CS), AfS T n b u al σ0 tb gl Vm o0 mk p sz q0 v0 ls n1 n2 (S' ++ S) r.1 r.2.1 cs' L' τ' → (∀ e, e ∈ S' → l ≤ e.1) → Nxk l (S' ++ S) (tkK T n r.1) → Tgq T n u p gl Vm tb sz mk q0 q r.2.2.1 S' cs' τ' → Tm (fun k => AfT e L' τ' k) (Xq T n b u al σ0 tb gl Vm o0 mk p sz q0 v0 xF n1 n2)
/-- an operand of the grammar -/
def CX (T : Nat → Int32) (n : Nat) (b : Bool) (u al : Nat) (σ0 : CS) (tb : List Ent) (gl : Nat × (Nat → Nat → Prop)) (Vm : Nat → Prop) (o0 mk p sz q0 v0 : Nat) (E : En) (xF : Fl RT) (ls e f nt l B : Nat) : Prop := ls ≤ l → ∀ (q v : Nat) (bt : BT) (x : Fl RT) (S : List Wt) (cs : List Int32) (a1 a2 : Nat) (L : LV) (τ : CS), G T n f nt E (o0 + wO S) q v 0 0 0 0 bt = some x → HdS T n b u al σ0 tb gl Vm o0 mk p sz q0 v0 ls a1 a2 S q v cs L τ → ((nt ≤ 4 → topL ls S ≤ 2) ∧ (5 ≤ nt → tkK T n q = 66 → ¬ topL ls S ≤ 2)) → (∀ e s, S = e :: s → e.1 < B) → CxK T n b u al σ0 tb gl Vm o0 mk p sz q0 v0 E xF ls e l q x S → Tm (fun k => f_F2 k (e + 6) 1 3 L τ) (Xq T n b u al σ0 tb gl Vm o0 mk p sz q0 v0 xF a1 a2)
/-- what comes behind one -/
def CL (T : Nat → Int32) (n : Nat) (b : Bool) (u al : Nat) (σ0 : CS) (tb : List Ent) (gl : Nat × (Nat → Nat → Prop)) (Vm : Nat → Prop) (o0 mk p sz q0 v0 : Nat) (E : En) (xF : Fl RT) (ls e f nt l lJ B : Nat) : Prop := ls ≤ l → ∀ (q1 q v i e0 : Nat) (bt : BT) (x : Fl RT) (S' S : List Wt) (cs : List Int32) (a1 a2 : Nat) (L : LV) (τ : CS), G T n f nt E (o0 + wO S) q v i e0 0 0 bt = some x → AfS T n b u al σ0 tb gl Vm o0 mk p sz q0 v0 ls a1 a2 (S' ++ S) q v cs L τ → (∀ e, e ∈ S' → l ≤ e.1) → Nxk lJ (S' ++ S) (tkK T n q) → Tgq T n u p gl Vm tb sz mk q0 q1 i S' cs τ → (∀ e s, S = e :: s → e.1 < B) → CxK T n b u al σ0 tb gl Vm o0 mk p sz q0 v0 E xF ls e l q1 x S → Tm (fun k => AfT e L τ k) (Xq T n b u al σ0 tb gl Vm o0 mk p sz q0 v0 xF a1 a2)
theorem RlT_as {w : Wt} (h : RlT (S' ++ w :: S)) : RlT (S' ++ [w] ++ S) := by
  rw [List.append_assoc]; exact h
theorem Nxk_as {w : Wt} {k : Nat} (h : Nxk l (S' ++ w :: S) k) : Nxk l (S' ++ [w] ++ S) k := by
  rw [List.append_assoc]; exact h
theorem AfS_as {w : Wt} (h : AfS T n b u al σ0 tb gl Vm o0 mk p sz q0 v0 ls a1 a2 (S' ++ w :: S) q v cs L τ) : AfS T n b u al σ0 tb gl Vm o0 mk p sz q0 v0 ls a1 a2 (S' ++ [w] ++ S) q v cs L τ := by
  rw [List.append_assoc]; exact h
theorem mem_as {w : Wt} (h : ∀ e, e ∈ S' → l ≤ e.1) (hw : l ≤ w.1) : ∀ e, e ∈ S' ++ [w] → l ≤ e.1 := fun e he => by
  rcases List.mem_append.1 he with z | z
  · exact h e z
  · rw [List.mem_singleton.1 z]; exact hw
/-- behind an operator there is no target any more -/
theorem Tgq_0 {q2 : Nat} {S2 : List Wt} (h : Tgq T n u p gl Vm tb sz mk q0 q2 i S' cs τ) (ne : ¬ q2 = q0) : Tgq T n u p gl Vm tb sz mk q0 q1 0 S2 cs τ := ⟨fun _ => h.1 (Or.inr ne), fun z => absurd rfl z, fun z => absurd rfl z.1⟩
/-- rows of operators: or, and, sums, terms -/
theorem cl_gen {tok : Prop} {_ : Decidable tok} {bb : RT → BT} (xb : XB n o0 q0 v0 mk p sz tb.length ls e) (ihI : CX T n b u al σ0 tb gl Vm o0 mk p sz q0 v0 E xF ls e f ntI lJ BI) (ihL : CL T n b u al σ0 tb gl Vm o0 mk p sz q0 v0 E xF ls e f nt l lJ l) (hl : (l = 0 ∧ lJ = 1 ∧ ntI = 2 ∧ BI = 1) ∨ (l = 1 ∧ lJ = 2 ∧ ntI = 4 ∧ BI = 3) ∨ (l = 4 ∧ lJ = 5 ∧ ntI = 8 ∧ BI = 5) ∨ (l = 5 ∧ lJ = 6 ∧ ntI = 10 ∧ BI = 7)) (hls : ls ≤ l) (hG : (if tok then gT T n q (fun q1 => gb (G T n f ntI E (o0 + wO S) q1 v 0 0 0 0 bt) (fun r => G T n f nt E (o0 + wO S) r.1 r.2.1 0 r.2.2.2.2.1.1 0 0 (bb r))) else some (Sum.inr (q, v, i, e0, bt, []))) = some x) (ht : tok → kl (tkK T n q) = l + 1) (hno : ¬ tok → ¬ kl (tkK T n q) = lJ) (af : AfS T n b u al σ0 tb gl Vm o0 mk p sz q0 v0 ls a1 a2 (S' ++ S) q v cs L τ) (ha : ∀ e, e ∈ S' → l ≤ e.1) (nx : Nxk lJ (S' ++ S) (tkK T n q)) (tg : Tgq T n u p gl Vm tb sz mk q0 q1 i S' cs τ) (hb : ∀ e s, S = e :: s → e.1 < l) (ck : CxK T n b u al σ0 tb gl Vm o0 mk p sz q0 v0 E xF ls e l q1 x S) : Tm (fun k => AfT e L τ k) (Xq T n b u al σ0 tb gl Vm o0 mk p sz q0 v0 xF a1 a2) := by
  have sp : spL l = l := by unfold spL; rw [if_neg (by omega)]
  by_cases c : tok
  · rw [if_pos c] at hG
    have k1 := ht c
    have go := tk_go af.1.1.1.1
    have g1 := go.2.2 (kl_25 (by omega))
    have q0l := af.2.1.2.2.1
    refine st_opr (lv := l) S' S xb af k1 hls (by rw [sp]; exact ha) (by rw [sp]; exact hb) (fun z => by omega) (C := gb (G T n f ntI E (o0 + wO S) (tkN T n q) v 0 0 0 0 bt) (fun r => G T n f nt E (o0 + wO S) r.1 r.2.1 0 r.2.2.2.2.1.1 0 0 (bb r)) = some x) ?_ (fun hc op mo ca n1 n2 L2 τ2 hd => ?_)
    · rcases gT_any hG with ⟨w1, w2⟩ | ⟨w1, w2⟩
      · exact Or.inl ⟨fun z => z.2 w1, (ck.1 _ w2).trans (by rw [oS_n (show ¬ l = 6 by omega)])⟩
      · exact Or.inr ⟨⟨fun z => by omega, w1⟩, w2⟩
    · have wo : wO ((l, op, mo) :: S) = wO S := wO_n (by show ¬ (l = 2 ∨ 6 ≤ l); omega)
      obtain ⟨z, hz⟩ := gb_some hc
      refine ihI (by omega) (tkN T n q) v bt z ((l, op, mo) :: S) ca n1 n2 L2 τ2 (by rw [wo]; exact hz) hd ⟨fun _ => by show l ≤ 2; omega, fun h5 _ => by show ¬ l ≤ 2; omega⟩ (fun e s y => by cases y; show l < BI; omega) ⟨fun ye zn => ?_, fun r zr S2 cb m1 m2 L3 τ3 af3 h3 nx3 tg3 => ?_⟩
      · rcases gb_any hc with ⟨yf, y1, y2⟩ | ⟨r, y1, y2⟩
        · rw [hz, zn] at y1; cases y1; exact ck.1 _ y2
        · rw [hz, zn] at y1; cases y1
      · rcases gb_any hc with ⟨yf, y1, y2⟩ | ⟨r', y1, y2⟩
        · rw [hz, zr] at y1; cases y1
        · rw [hz, zr] at y1
          cases y1
          exact ihL hls q1 r.1 r.2.1 0 _ _ x (S2 ++ [(l, op, mo)]) S cb m1 m2 L3 τ3 y2 (AfS_as af3) (mem_as (fun e he => by have := h3 e he; omega) (Nat.le_refl _)) (Nxk_as nx3) (Tgq_0 tg3 (by omega)) hb ck
  · rw [if_neg c] at hG
    cases hG
    refine ck.2 _ rfl S' cs a1 a2 L τ af ha ?_ tg
    rcases nx with z | z
    · have := hno c
      exact Or.inl (by show kl (tkK T n q) ≤ l; omega)
    · exact Or.inr ⟨z.1, by omega, z.2.2⟩
theorem cx_gen (ihI : CX T n b u al σ0 tb gl Vm o0 mk p sz q0 v0 E xF ls e f ntI lJ BI) (ihL : CL T n b u al σ0 tb gl Vm o0 mk p sz q0 v0 E xF ls e f nt l lJ l) (hl : (l = 0 ∧ lJ = 1 ∧ ntI = 2 ∧ BI = 1) ∨ (l = 1 ∧ lJ = 2 ∧ ntI = 4 ∧ BI = 3) ∨ (l = 4 ∧ lJ = 5 ∧ ntI = 8 ∧ BI = 5) ∨ (l = 5 ∧ lJ = 6 ∧ ntI = 10 ∧ BI = 7)) (hls : ls ≤ l) (hG : gb (G T n f ntI E (o0 + wO S) q v 0 0 0 0 bt) (fun r => G T n f nt E (o0 + wO S) r.1 r.2.1 r.2.2.1 r.2.2.2.1 0 0 r.2.2.2.2.1) = some x) (hd : HdS T n b u al σ0 tb gl Vm o0 mk p sz q0 v0 ls a1 a2 S q v cs L τ) (ht : (ntI ≤ 4 → topL ls S ≤ 2) ∧ (5 ≤ ntI → tkK T n q = 66 → ¬ topL ls S ≤ 2)) (hb : ∀ e s, S = e :: s → e.1 < l) (ck : CxK T n b u al σ0 tb gl Vm o0 mk p sz q0 v0 E xF ls e l q x S) : Tm (fun k => f_F2 k (e + 6) 1 3 L τ) (Xq T n b u al σ0 tb gl Vm o0 mk p sz q0 v0 xF a1 a2) := by
  obtain ⟨z, hz⟩ := gb_some hG
  refine ihI (by omega) q v bt z S cs a1 a2 L τ hz hd ht (fun e s y => by have := hb e s y; omega) ⟨fun ye zn => ?_, fun r zr S2 cb m1 m2 L3 τ3 af3 h3 nx3 tg3 => ?_⟩
  · rcases gb_any hG with ⟨yf, y1, y2⟩ | ⟨r, y1, y2⟩
    · rw [hz, zn] at y1; cases y1; exact ck.1 _ y2
    · rw [hz, zn] at y1; cases y1
  · rcases gb_any hG with ⟨yf, y1, y2⟩ | ⟨r', y1, y2⟩
    · rw [hz, zr] at y1; cases y1
    · rw [hz, zr] at y1
      cases y1
      exact ihL hls q r.1 r.2.1 _ _ _ x S2 S cb m1 m2 L3 τ3 y2 af3 (fun e he => by have := h3 e he; omega) nx3 tg3 hb ck
theorem kl_no {k : Nat} : (¬ k = 65 → ¬ kl k = 1) ∧ (¬ k = 64 → ¬ kl k = 2) ∧ (¬ isRl k → ¬ kl k = 4) ∧ (¬ (k = 2 ∨ k = 3) → ¬ kl k = 5) ∧ (¬ (k = 4 ∨ k = 67 ∨ k = 68) → ¬ kl k = 6) ∧ (¬ k = 5 → ¬ kl k = 7) := by
  unfold kl
  by_cases c1 : k = 65
  · rw [if_pos c1]; exact ⟨fun z => absurd c1 z, fun _ => by decide, fun _ => by decide, fun _ => by decide, fun _ => by decide, fun _ => by decide⟩
  rw [if_neg c1]
  by_cases c2 : k = 64
  · rw [if_pos c2]; exact ⟨fun _ => by decide, fun z => absurd c2 z, fun _ => by decide, fun _ => by decide, fun _ => by decide, fun _ => by decide⟩
  rw [if_neg c2]
  by_cases c3 : isRl k
  · rw [if_pos c3]; exact ⟨fun _ => by decide, fun _ => by decide, fun z => absurd c3 z, fun _ => by decide, fun _ => by decide, fun _ => by decide⟩
  rw [if_neg c3]
  by_cases c4 : k = 2 ∨ k = 3
  · rw [if_pos c4]; exact ⟨fun _ => by decide, fun _ => by decide, fun _ => by decide, fun z => absurd c4 z, fun _ => by decide, fun _ => by decide⟩
  rw [if_neg c4]
  by_cases c5 : k = 4 ∨ k = 67 ∨ k = 68
  · rw [if_pos c5]; exact ⟨fun _ => by decide, fun _ => by decide, fun _ => by decide, fun _ => by decide, fun z => absurd c5 z, fun _ => by decide⟩
  rw [if_neg c5]
  by_cases c6 : k = 5
  · rw [if_pos c6]; exact ⟨fun _ => by decide, fun _ => by decide, fun _ => by decide, fun _ => by decide, fun _ => by decide, fun z => absurd c6 z⟩
  rw [if_neg c6]; exact ⟨fun _ => by decide, fun _ => by decide, fun _ => by decide, fun _ => by decide, fun _ => by decide, fun _ => by decide⟩
theorem kl_rl {k : Nat} (h : isRl k) : kl k = 4 := by
  unfold kl
  rw [if_neg (by intro z; rw [z] at h; omega), if_neg (by intro z; rw [z] at h; omega), if_pos h]
/-- a prefix is taken: a call that leaves one more that waits -/
theorem st_pfx {w : Wt} {z : Fl Nat} (xb : XB n o0 q0 v0 mk p sz tb.length ls e) (hd : HdS T n b u al σ0 tb gl Vm o0 mk p sz q0 v0 ls a1 a2 S q v cs L τ) (hw : (w.1 = 2 ∧ w.2.1 = 9) ∨ w.1 = 7) (h112 : w.2.1 = 112 → ∀ q2, z = Sum.inr q2 → q + 2 ≤ q2) (h1 : ∀ q2, z = Sum.inr q2 → q + 1 ≤ q2) (t : Tm (fun k => f_X5_prefix k 0 (lI (lI lZ 1 (L.1 2)) 2 (L.1 1)) τ) (QPo b u tb.length sz mk z (fun q' ret τ' => ret = 1 ∧ WQ T n b u al tb gl Vm o0 mk p sz (w :: S) q' v cs 0 τ') σ0 a1 a2)) (hn : ∀ y, z = Sum.inl y → xF = Sum.inl y) (cont : ∀ q2, z = Sum.inr q2 → ∀ (n1 n2 : Nat) (L' : LV) (τ' : CS), HdS T n b u al σ0 tb gl Vm o0 mk p sz q0 v0 ls n1 n2 (w :: S) q2 v cs L' τ' → Tm (fun k => f_F2 k (e + 6) 1 3 L' τ') (Xq T n b u al σ0 tb gl Vm o0 mk p sz q0 v0 xF n1 n2)) : Tm (fun k => f_F2 k (e + 6) 1 3 L τ) (Xq T n b u al σ0 tb gl Vm o0 mk p sz q0 v0 xF a1 a2) := by
  obtain ⟨wa, ⟨c1, c2, c3, c4⟩, ⟨l1, l2, l5⟩, ⟨k0, l6, k6⟩, i0, l4, i4⟩ := hd
  have o20 := wa.1.1.1.2.2.2.2.2.1.2
  have wy : wO (w :: S) = wO S + 1 := wO_y (by omega)
  refine Tm_suc (fun k => ep_3 k _ _ _) ?_
  refine Tm_no ?_ ?_
  · rw [l6]
    show ¬ nI 20 < nI k0
    rw [n_lt (by decide) (by omega)]; omega
  refine Tm_no (by rw [l5]; decide) ?_
  refine st_callB t ?_
  rcases z with _ | q2
  · exact Or.inl ⟨_, rfl, hn _ rfl⟩
  refine Or.inr ⟨q2, rfl, fun τ' ret n1 n2 hr xk hc => ?_⟩
  obtain ⟨hr1, wq⟩ := hr
  have hq := h1 q2 rfl
  refine cont q2 rfl _ _ _ τ' ⟨WQ_a wq xk hc, ⟨?_, ?_, by omega, c4⟩, ⟨l1, l2, hr1⟩, ⟨k0 + 1, ?_, by omega⟩, i0, l4, by omega⟩
  · by_cases c : w.2.1 = 112
    · have := h112 c q2 rfl
      rw [wP_y c]; omega
    · rw [wP_n c]; omega
  · rw [wU_y (by omega)]; omega
  · show L.1 6 + 1 = _
    rw [l6, n_add1]
/-- the induction: all operands of the grammar -/
theorem cx_all (xb : XB n o0 q0 v0 mk p sz tb.length ls e) (px : ∀ f', f' < F → ∀ e', PXp T n b u al f' e') (ev : EvX E b u al gl Vm tb σ0) : ∀ f, f ≤ F → ((CX T n b u al σ0 tb gl Vm o0 mk p sz q0 v0 E xF ls e f 0 0 0 ∧ CX T n b u al σ0 tb gl Vm o0 mk p sz q0 v0 E xF ls e f 2 1 1 ∧ CX T n b u al σ0 tb gl Vm o0 mk p sz q0 v0 E xF ls e f 4 2 3 ∧ CX T n b u al σ0 tb gl Vm o0 mk p sz q0 v0 E xF ls e f 5 3 3) ∧ (CX T n b u al σ0 tb gl Vm o0 mk p sz q0 v0 E xF ls e f 6 4 4 ∧ CX T n b u al σ0 tb gl Vm o0 mk p sz q0 v0 E xF ls e f 8 5 5 ∧ CX T n b u al σ0 tb gl Vm o0 mk p sz q0 v0 E xF ls e f 10 6 7 ∧ CX T n b u al σ0 tb gl Vm o0 mk p sz q0 v0 E xF ls e f 11 7 8)) ∧ (CL T n b u al σ0 tb gl Vm o0 mk p sz q0 v0 E xF ls e f 1 0 1 0 ∧ CL T n b u al σ0 tb gl Vm o0 mk p sz q0 v0 E xF ls e f 3 1 2 1 ∧ CL T n b u al σ0 tb gl Vm o0 mk p sz q0 v0 E xF ls e f 7 4 5 4 ∧ CL T n b u al σ0 tb gl Vm o0 mk p sz q0 v0 E xF ls e f 9 5 6 5) := by
  intro f
  induction f with
  | zero =>
    intro _
    refine ⟨⟨⟨?_, ?_, ?_, ?_⟩, ?_, ?_, ?_, ?_⟩, ?_, ?_, ?_, ?_⟩
    · intro _ q v bt x S cs a1 a2 L τ hG; cases hG
    · intro _ q v bt x S cs a1 a2 L τ hG; cases hG
    · intro _ q v bt x S cs a1 a2 L τ hG; cases hG
    · intro _ q v bt x S cs a1 a2 L τ hG; cases hG
    · intro _ q v bt x S cs a1 a2 L τ hG; cases hG
    · intro _ q v bt x S cs a1 a2 L τ hG; cases hG
    · intro _ q v bt x S cs a1 a2 L τ hG; cases hG
    · intro _ q v bt x S cs a1 a2 L τ hG; cases hG
    · intro _ q1 q v i e0 bt x S' S cs a1 a2 L τ hG; cases hG
    · intro _ q1 q v i e0 bt x S' S cs a1 a2 L τ hG; cases hG
    · intro _ q1 q v i e0 bt x S' S cs a1 a2 L τ hG; cases hG
    · intro _ q1 q v i e0 bt x S' S cs a1 a2 L τ hG; cases hG
  | succ f ih =>
    intro hF
    obtain ⟨⟨⟨i0, i2, i4, i5⟩, i6, i8, i10, i11⟩, j1, j3, j7, j9⟩ := ih (by omega)
    refine ⟨⟨⟨?_, ?_, ?_, ?_⟩, ?_, ?_, ?_, ?_⟩, ?_, ?_, ?_, ?_⟩
    · intro hls q v bt x S cs a1 a2 L τ hG hd ht hb ck
      rw [G_0] at hG
      exact cx_gen i2 j1 (Or.inl ⟨rfl, rfl, rfl, rfl⟩) hls hG hd ⟨fun _ => ht.1 (by decide), fun z => absurd z (by decide)⟩ hb ck
    · intro hls q v bt x S cs a1 a2 L τ hG hd ht hb ck
      rw [G_2] at hG
      exact cx_gen i4 j3 (Or.inr (Or.inl ⟨rfl, rfl, rfl, rfl⟩)) hls hG hd ⟨fun _ => ht.1 (by decide), fun z => absurd z (by decide)⟩ hb ck
    · intro hls q v bt x S cs a1 a2 L τ hG hd ht hb ck
      rw [G_4] at hG
      by_cases k66 : tkK T n q = 66
      · rw [if_pos k66] at hG
        have wa := hd.1
        have g1 := (tk_go wa.1.1.1).2.2 (by omega)
        have q0l := hd.2.1.2.2.1
        have hm : mk + 3 * S.length + 3 ≤ 21504 := by
          have w1 := w_cnt S
          have w2 := hd.2.1.2.1
          have w3 := wa.1.1.1.2.2.2.2.2.1.2
          have w4 := (tk_go wa.1.1.1).1
          have w5 := xb.1.1
          have w6 := xb.1.2.2.1
          omega
        rcases gOT_any hG with ⟨w1, w2⟩ | ⟨w1, w2⟩
        · exact st_pfx xb hd (Or.inl ⟨rfl, rfl⟩) (fun z => absurd z (by decide)) (fun _ z => by cases z) (c_pfNot wa hm (by have := xb.2.1; omega) hd.2.2.1.2.1 hd.2.2.1.1 k66 (ht.1 (by decide)) (Or.inl ⟨w1, rfl⟩)) (fun _ z => by cases z; exact ck.1 _ w2) (fun _ z => by cases z)
        · refine st_pfx xb hd (Or.inl ⟨rfl, rfl⟩) (fun z => absurd z (by decide)) (fun _ z => by cases z; omega) (c_pfNot wa hm (by have := xb.2.1; omega) hd.2.2.1.2.1 hd.2.2.1.1 k66 (ht.1 (by decide)) (Or.inr ⟨w1, rfl⟩)) (fun _ z => by cases z) (fun q2 z n1 n2 L2 τ2 hd2 => ?_)
          cases z
          have wo : wO ((2, 9, 0) :: S) = wO S + 1 := wO_y (Or.inl rfl)
          obtain ⟨z, hz⟩ := gb_some w2
          refine i4 hls (tkN T n q) v bt z ((2, 9, 0) :: S) cs n1 n2 L2 τ2 (by rw [wo]; exact hz) hd2 ⟨fun _ => Nat.le_refl _, fun z => absurd z (by decide)⟩ (fun e s y => by cases y; decide) ⟨fun ye zn => ?_, fun r zr S2 cb m1 m2 L3 τ3 af3 h3 nx3 tg3 => ?_⟩
          · rcases gb_any w2 with ⟨yf, y1, y2⟩ | ⟨r, y1, y2⟩
            · rw [hz, zn] at y1; cases y1; exact ck.1 _ y2
            · rw [hz, zn] at y1; cases y1
          · rcases gb_any w2 with ⟨yf, y1, y2⟩ | ⟨r', y1, y2⟩
            · rw [hz, zr] at y1; cases y1
            · rw [hz, zr] at y1
              cases y1
              cases y2
              exact ck.2 _ rfl (S2 ++ [(2, 9, 0)]) cb m1 m2 L3 τ3 (AfS_as af3) (mem_as h3 (Nat.le_refl _)) (Nxk_as nx3) (Tgq_0 tg3 (by omega))
      · rw [if_neg k66] at hG
        refine i5 (by omega) q v bt x S cs a1 a2 L τ hG hd ⟨fun z => absurd z (by decide), fun _ z => absurd z k66⟩ hb ⟨ck.1, fun r zr S2 cb m1 m2 L3 τ3 af3 h3 nx3 tg3 => ck.2 r zr S2 cb m1 m2 L3 τ3 af3 (fun e he => by have := h3 e he; omega) ?_ tg3⟩
        rcases nx3 with z | z
        · have := (kl_b (tkK T n r.1)).2
          exact Or.inl (by omega)
        · exact Or.inr ⟨z.1, by decide, z.2.2⟩
    · intro hls q v bt x S cs a1 a2 L τ hG hd ht hb ck
      rw [G_5] at hG
      obtain ⟨z, hz⟩ := gb_some hG
      have q0l := hd.2.1.2.2.1
      refine i6 (by omega) q v bt z S cs a1 a2 L τ hz hd ⟨fun z => absurd z (by decide), fun _ => ht.2 (by decide)⟩ (fun e s y => by have := hb e s y; omega) ⟨fun ye zn => ?_, fun r zr S2 cb m1 m2 L3 τ3 af3 h3 nx3 tg3 => ?_⟩
      · rcases gb_any hG with ⟨yf, y1, y2⟩ | ⟨r, y1, y2⟩
        · rw [hz, zn] at y1; cases y1; exact ck.1 _ y2
        · rw [hz, zn] at y1; cases y1
      rcases gb_any hG with ⟨yf, y1, y2⟩ | ⟨r', y1, y2⟩
      · rw [hz, zr] at y1; cases y1
      rw [hz, zr] at y1
      cases y1
      by_cases c : isRl (tkK T n r.1)
      · rw [if_pos c] at y2
        have k4 := kl_rl c
        have g1 := (tk_go af3.1.1.1.1).2.2 (kl_25 (by omega))
        have q0l3 := af3.2.1.2.2.1
        have sp : spL 3 = 4 := rfl
        refine st_opr (lv := 3) S2 S xb af3 k4 hls (by rw [sp]; exact h3) (by rw [sp]; exact fun e s y => by have := hb e s y; omega) (fun _ e s y => by have := hb e s y; omega) (C := gb (G T n f 6 E (o0 + wO S) (tkN T n r.1) r.2.1 0 0 0 0 r.2.2.2.2.1) (fun s => some (Sum.inr (s.1, s.2.1, 0, s.2.2.2.2.1.1, bOver s.2.2.2.2.1 16 (opr (tkK T n r.1)) r.2.2.2.1 (nI s.2.2.2.1), []))) = some x) ?_ (fun hc op mo ca n1 n2 L4 τ4 hd4 => ?_)
        · rcases gT_any y2 with ⟨w1, w2⟩ | ⟨w1, w2⟩
          · exact Or.inl ⟨fun z => z.2 w1, (ck.1 _ w2).trans (by rw [oS_n (show ¬ (3 : Nat) = 6 by decide)])⟩
          · exact Or.inr ⟨⟨fun z => by omega, w1⟩, w2⟩
        · have wo : wO ((3, op, mo) :: S) = wO S := wO_n (by show ¬ (3 = 2 ∨ 6 ≤ 3); decide)
          obtain ⟨z4, hz4⟩ := gb_some hc
          refine i6 (by omega) (tkN T n r.1) r.2.1 _ z4 ((3, op, mo) :: S) ca n1 n2 L4 τ4 (by rw [wo]; exact hz4) hd4 ⟨fun z => absurd z (by decide), fun _ _ => by show ¬ 3 ≤ 2; decide⟩ (fun e s y => by cases y; show 3 < 4; decide) ⟨fun ye zn => ?_, fun r5 zr5 S5 cb5 p1 p2 L5 τ5 af5 h5 nx5 tg5 => ?_⟩
          · rcases gb_any hc with ⟨yf, w1, w2⟩ | ⟨r, w1, w2⟩
            · rw [hz4, zn] at w1; cases w1; exact ck.1 _ w2
            · rw [hz4, zn] at w1; cases w1
          · rcases gb_any hc with ⟨yf, w1, w2⟩ | ⟨r', w1, w2⟩
            · rw [hz4, zr5] at w1; cases w1
            · rw [hz4, zr5] at w1
              cases w1
              cases w2
              refine ck.2 _ rfl (S5 ++ [(3, op, mo)]) cb5 p1 p2 L5 τ5 (AfS_as af5) (mem_as (fun e he => by have := h5 e he; omega) (Nat.le_refl _)) (Nxk_as ?_) (Tgq_0 tg5 (by omega))
              rcases nx5 with z | z
              · by_cases c4 : kl (tkK T n r5.1) = 4
                · exact Or.inr ⟨c4, by decide, S5, (3, op, mo), S, rfl, h5, rfl⟩
                · exact Or.inl (by show kl (tkK T n r5.1) ≤ 3; omega)
              · exact absurd z.2.1 (by decide)
      · rw [if_neg c] at y2
        cases y2
        refine ck.2 _ rfl S2 cb m1 m2 L3 τ3 af3 (fun e he => by have := h3 e he; omega) ?_ tg3
        rcases nx3 with z | z
        · have := kl_no.2.2.1 c
          exact Or.inl (by show kl (tkK T n r.1) ≤ 3; omega)
        · exact absurd z.2.1 (by decide)
    · intro hls q v bt x S cs a1 a2 L τ hG hd ht hb ck
      rw [G_6] at hG
      exact cx_gen i8 j7 (Or.inr (Or.inr (Or.inl ⟨rfl, rfl, rfl, rfl⟩))) hls hG hd ⟨fun z => absurd z (by decide), fun _ => ht.2 (by decide)⟩ hb ck
    · intro hls q v bt x S cs a1 a2 L τ hG hd ht hb ck
      rw [G_8] at hG
      exact cx_gen i10 j9 (Or.inr (Or.inr (Or.inr ⟨rfl, rfl, rfl, rfl⟩))) hls hG hd ⟨fun z => absurd z (by decide), fun _ => ht.2 (by decide)⟩ hb ck
    · intro hls q v bt x S cs a1 a2 L τ hG hd ht hb ck
      rw [G_10] at hG
      obtain ⟨z, hz⟩ := gb_some hG
      have q0l := hd.2.1.2.2.1
      refine i11 (by omega) q v bt z S cs a1 a2 L τ hz hd ⟨fun z => absurd z (by decide), fun _ => ht.2 (by decide)⟩ (fun e s y => by have := hb e s y; omega) ⟨fun ye zn => ?_, fun r zr S2 cb m1 m2 L3 τ3 af3 h3 nx3 tg3 => ?_⟩
      · rcases gb_any hG with ⟨yf, y1, y2⟩ | ⟨r, y1, y2⟩
        · rw [hz, zn] at y1; cases y1; exact ck.1 _ y2
        · rw [hz, zn] at y1; cases y1
      rcases gb_any hG with ⟨yf, y1, y2⟩ | ⟨r', y1, y2⟩
      · rw [hz, zr] at y1; cases y1
      rw [hz, zr] at y1
      cases y1
      by_cases c : tkK T n r.1 = 5
      · rw [if_pos c] at y2
        have k7 : kl (tkK T n r.1) = 7 := by rw [c]; decide
        have g1 := (tk_go af3.1.1.1.1).2.2 (by omega)
        have q0l3 := af3.2.1.2.2.1
        have sp : spL 6 = 7 := rfl
        refine st_opr (lv := 6) S2 S xb af3 k7 hls (by rw [sp]; exact h3) (by rw [sp]; exact hb) (fun z => absurd z (by decide)) (C := gb (G T n f 10 E (o0 + wO S + 1) (tkN T n r.1) r.2.1 0 0 0 0 r.2.2.2.2.1) (fun s => some (Sum.inr (s.1, s.2.1, 0, s.2.2.2.2.1.1, bOver s.2.2.2.2.1 16 5 r.2.2.2.1 (nI s.2.2.2.1), []))) = some x) ?_ (fun hc op mo ca n1 n2 L4 τ4 hd4 => ?_)
        · rcases gOT_any y2 with ⟨w1, w2⟩ | ⟨w1, w2⟩
          · exact Or.inl ⟨fun z => w1 ⟨z.1 rfl, z.2⟩, (ck.1 _ w2).trans (by rw [oS_6 (show (6 : Nat) = 6 from rfl)])⟩
          · exact Or.inr ⟨⟨fun _ => w1.1, w1.2⟩, w2⟩
        · have wo : wO ((6, op, mo) :: S) = wO S + 1 := wO_y (Or.inr (Nat.le_refl 6))
          obtain ⟨z4, hz4⟩ := gb_some hc
          refine i10 hls (tkN T n r.1) r.2.1 _ z4 ((6, op, mo) :: S) ca n1 n2 L4 τ4 (by rw [wo]; exact hz4) hd4 ⟨fun z => absurd z (by decide), fun _ _ => by show ¬ 6 ≤ 2; decide⟩ (fun e s y => by cases y; show 6 < 7; decide) ⟨fun ye zn => ?_, fun r5 zr5 S5 cb5 p1 p2 L5 τ5 af5 h5 nx5 tg5 => ?_⟩
          · rcases gb_any hc with ⟨yf, w1, w2⟩ | ⟨r, w1, w2⟩
            · rw [hz4, zn] at w1; cases w1; exact ck.1 _ w2
            · rw [hz4, zn] at w1; cases w1
          · rcases gb_any hc with ⟨yf, w1, w2⟩ | ⟨r', w1, w2⟩
            · rw [hz4, zr5] at w1; cases w1
            · rw [hz4, zr5] at w1
              cases w1
              cases w2
              exact ck.2 _ rfl (S5 ++ [(6, op, mo)]) cb5 p1 p2 L5 τ5 (AfS_as af5) (mem_as h5 (Nat.le_refl _)) (Nxk_as nx5) (Tgq_0 tg5 (by omega))
      · rw [if_neg c] at y2
        cases y2
        refine ck.2 _ rfl S2 cb m1 m2 L3 τ3 af3 (fun e he => by have := h3 e he; omega) ?_ tg3
        rcases nx3 with z | z
        · have := kl_no.2.2.2.2.2 c
          exact Or.inl (by show kl (tkK T n r.1) ≤ 6; omega)
        · exact absurd z.2.1 (by decide)
    · intro hls q v bt x S cs a1 a2 L τ hG hd ht hb ck
      have wa := hd.1
      have go := tk_go wa.1.1.1
      have q0l := hd.2.1.2.2.1
      have hm : mk + 3 * S.length + 3 ≤ 21504 := by
        have w1 := w_cnt S
        have w2 := hd.2.1.2.1
        have w3 := wa.1.1.1.2.2.2.2.2.1.2
        have w4 := (tk_go wa.1.1.1).1
        have w5 := xb.1.1
        have w6 := xb.1.2.2.1
        omega
      have ls7 : ls ≤ 7 := by have := xb.2.1; omega
      rw [G_11] at hG
      -- behind a prefix
      have inn : ∀ (w : Wt) (q2 : Nat) (fin : RT → RT) (n1 n2 : Nat) (L2 : LV) (τ2 : CS), w.1 = 7 → q < q2 → (∀ r, (fin r).1 = r.1 ∧ (fin r).2.1 = r.2.1 ∧ (fin r).2.2.1 = 0) → gb (G T n f 11 E (o0 + wO S + 1) q2 v 0 0 0 0 bt) (fun r => some (Sum.inr (fin r))) = some x → HdS T n b u al σ0 tb gl Vm o0 mk p sz q0 v0 ls n1 n2 (w :: S) q2 v cs L2 τ2 → Tm (fun k => f_F2 k (e + 6) 1 3 L2 τ2) (Xq T n b u al σ0 tb gl Vm o0 mk p sz q0 v0 xF n1 n2) := by
        intro w q2 fin n1 n2 L2 τ2 w7 hq hf hc hd2
        have wo : wO (w :: S) = wO S + 1 := wO_y (Or.inr (by omega))
        obtain ⟨z, hz⟩ := gb_some hc
        refine i11 hls q2 v bt z (w :: S) cs n1 n2 L2 τ2 (by rw [wo]; exact hz) hd2 ⟨fun z => absurd z (by decide), fun _ _ => by show ¬ w.1 ≤ 2; omega⟩ (fun e s y => by cases y; omega) ⟨fun ye zn => ?_, fun r zr S2 cb m1 m2 L3 τ3 af3 h3 nx3 tg3 => ?_⟩
        · rcases gb_any hc with ⟨yf, y1, y2⟩ | ⟨r, y1, y2⟩
          · rw [hz, zn] at y1; cases y1; exact ck.1 _ y2
          · rw [hz, zn] at y1; cases y1
        · rcases gb_any hc with ⟨yf, y1, y2⟩ | ⟨r', y1, y2⟩
          · rw [hz, zr] at y1; cases y1
          · rw [hz, zr] at y1
            cases y1
            cases y2
            obtain ⟨f1, f2, f3⟩ := hf r
            refine ck.2 _ rfl (S2 ++ [w]) cb m1 m2 L3 τ3 ?_ (mem_as h3 (by omega)) ?_ ?_
            · rw [f1, f2]; exact AfS_as af3
            · rw [f1]; exact Nxk_as nx3
            · rw [f3]; exact Tgq_0 tg3 (by omega)
      by_cases c1 : tkK T n q = 3 ∨ tkK T n q = 23
      · rw [if_pos c1] at hG
        have g1 := go.2.2 (by omega)
        have hw : ∃ w : Wt, ((tkK T n q = 3 ∧ w = (7, 160, 0)) ∨ (tkK T n q = 23 ∧ w = (7, 161, 0))) ∧ w.1 = 7 ∧ ¬ w.2.1 = 112 := by
          rcases c1 with z | z
          · exact ⟨(7, 160, 0), Or.inl ⟨z, rfl⟩, rfl, by decide⟩
          · exact ⟨(7, 161, 0), Or.inr ⟨z, rfl⟩, rfl, by decide⟩
        obtain ⟨w, hw, w7, wn⟩ := hw
        rcases gOT_any hG with ⟨w1, w2⟩ | ⟨w1, w2⟩
        · exact st_pfx xb hd (Or.inr w7) (fun z => absurd z wn) (fun _ z => by cases z) (c_pfUn wa hm ls7 hd.2.2.1.2.1 hd.2.2.1.1 hw (Or.inl ⟨w1, rfl⟩)) (fun _ z => by cases z; exact ck.1 _ w2) (fun _ z => by cases z)
        · refine st_pfx xb hd (Or.inr w7) (fun z => absurd z wn) (fun _ z => by cases z; omega) (c_pfUn wa hm ls7 hd.2.2.1.2.1 hd.2.2.1.1 hw (Or.inr ⟨w1, rfl⟩)) (fun _ z => by cases z) (fun q2 z n1 n2 L2 τ2 hd2 => ?_)
          cases z
          exact inn w _ (fun r => (r.1, r.2.1, 0, r.2.2.2.2.1.1, bNode r.2.2.2.2.1 (if tkK T n q = 3 then 17 else 18) 0 (nI r.2.2.2.1) 0, [])) n1 n2 L2 τ2 w7 g1 (fun r => ⟨rfl, rfl, rfl⟩) w2 hd2
      rw [if_neg c1] at hG
      by_cases c2 : tkK T n q = 2 ∨ tkK T n q = 4 ∨ tkK T n q = 81 ∨ tkK T n q = 80
      · rw [if_pos c2] at hG
        have g1 := go.2.2 (by omega)
        have hx2 : (¬ ((¬ o0 + wO S = 20 ∧ ¬ tkK T n (tkN T n q) = 0) ∧ (tkK T n (tkN T n q) = 24 ∧ ¬ tkK T n (tkN T n (tkN T n q)) = 0)) ∧ x = Sum.inl (fF T n (o0 + wO S) q)) ∨ (((¬ o0 + wO S = 20 ∧ ¬ tkK T n (tkN T n q) = 0) ∧ (tkK T n (tkN T n q) = 24 ∧ ¬ tkK T n (tkN T n (tkN T n q)) = 0)) ∧ gb (G T n f 11 E (o0 + wO S + 1) (tkN T n (tkN T n q)) v 0 0 0 0 bt) (fun r => some (Sum.inr (r.1, r.2.1, 0, r.2.2.2.2.1.1, bNode r.2.2.2.2.1 20 (opr (tkK T n q)) (nI r.2.2.2.1) 0, []))) = some x) := by
          rcases gOT_any hG with ⟨w1, w2⟩ | ⟨w1, w2⟩
          · exact Or.inl ⟨fun z => w1 z.1, w2.trans (by rw [fF_o w1])⟩
          · rcases gW_any w2 with ⟨w3, w4⟩ | ⟨w3, w4⟩
            · exact Or.inl ⟨fun z => w3 z.2, w4.trans (by rw [fF_w w1.1 w1.2])⟩
            · exact Or.inr ⟨⟨w1, w3⟩, w4⟩
        rcases hx2 with ⟨w1, w2⟩ | ⟨w1, w2⟩
        · obtain ⟨wy, t⟩ := c_pfFo (L := lI (lI lZ 1 (L.1 2)) 2 (L.1 1)) (z := Sum.inl (fF T n (o0 + wO S) q)) wa hm ls7 hd.2.2.1.2.1 hd.2.2.1.1 c2 (Or.inl ⟨w1, rfl⟩)
          exact st_pfx xb hd (Or.inr rfl) (fun _ _ z => by cases z) (fun _ z => by cases z) t (fun _ z => by cases z; exact ck.1 _ w2) (fun _ z => by cases z)
        · have g2 : tkN T n q < tkN T n (tkN T n q) := (tkN_b T n (tkN T n q) go.2.1).2.2.2 (by rw [w1.2.1]; decide)
          obtain ⟨wy, t⟩ := c_pfFo (L := lI (lI lZ 1 (L.1 2)) 2 (L.1 1)) (z := Sum.inr (tkN T n (tkN T n q))) wa hm ls7 hd.2.2.1.2.1 hd.2.2.1.1 c2 (Or.inr ⟨w1, rfl⟩)
          refine st_pfx xb hd (Or.inr rfl) (fun _ _ z => by cases z; omega) (fun _ z => by cases z; omega) t (fun _ z => by cases z) (fun q2 z n1 n2 L2 τ2 hd2 => ?_)
          cases z
          exact inn _ _ (fun r => (r.1, r.2.1, 0, r.2.2.2.2.1.1, bNode r.2.2.2.2.1 20 (opr (tkK T n q)) (nI r.2.2.2.1) 0, [])) n1 n2 L2 τ2 rfl (by omega) (fun r => ⟨rfl, rfl, rfl⟩) w2 hd2
      rw [if_neg c2] at hG
      refine st_oper xb (fun f' hf' => px f' (by omega)) ev hd (ht.2 (by decide)) (by omega) hG ck.1 (fun r zr cs' n1 n2 L' τ' af t1 t2 => ?_)
      exact ck.2 r zr [] cs' n1 n2 L' τ' af (fun e he => absurd he List.not_mem_nil) (Or.inl (kl_b _).1) ⟨t1, fun _ => rfl, t2⟩
    · intro hls q1 q v i e0 bt x S' S cs a1 a2 L τ hG af ha nx tg hb ck
      rw [G_1] at hG
      exact cl_gen xb i2 j1 (Or.inl ⟨rfl, rfl, rfl, rfl⟩) hls hG (fun z => by rw [z]; decide) kl_no.1 af ha nx tg hb ck
    · intro hls q1 q v i e0 bt x S' S cs a1 a2 L τ hG af ha nx tg hb ck
      rw [G_3] at hG
      exact cl_gen xb i4 j3 (Or.inr (Or.inl ⟨rfl, rfl, rfl, rfl⟩)) hls hG (fun z => by rw [z]; decide) kl_no.2.1 af ha nx tg hb ck
    · intro hls q1 q v i e0 bt x S' S cs a1 a2 L τ hG af ha nx tg hb ck
      rw [G_7] at hG
      exact cl_gen xb i8 j7 (Or.inr (Or.inr (Or.inl ⟨rfl, rfl, rfl, rfl⟩))) hls hG (fun z => by rcases z with z | z <;> (rw [z]; decide)) kl_no.2.2.2.1 af ha nx tg hb ck
    · intro hls q1 q v i e0 bt x S' S cs a1 a2 L τ hG af ha nx tg hb ck
      rw [G_9] at hG
      exact cl_gen xb i10 j9 (Or.inr (Or.inr (Or.inr ⟨rfl, rfl, rfl, rfl⟩))) hls hG (fun z => by rcases z with z | z | z <;> (rw [z]; decide)) kl_no.2.2.2.2.1 af ha nx tg hb ck
end CWE
section CWF
variable {T : Nat → Int32} {n u al : Nat} {b : Bool}
/-- all exps -/
theorem px_all : ∀ (F : Nat) (e : Nat), PXp T n b u al F e := by
  intro F
  induction F using Nat.strongRecOn with
  | ind F ih =>
    intro e1 nt ls hnt E o0 q0 v0 bt x hG gl Vm tb mk p sz σ0 L hq ev bd hL he
    obtain ⟨e, rfl⟩ : ∃ e, e1 = e + 6 := ⟨e1 - 6, by omega⟩
    have xb : XB n o0 q0 v0 mk p sz tb.length ls e := ⟨bd, by omega, he⟩
    have cx := cx_all (F := F) (xF := x) xb (fun f' hf' => ih f' hf') ev F (Nat.le_refl _)
    have s0 := Sy_0 hq
    have n10 := bd.1
    have qn := (tk_go hq).1
    have hd : HdS T n b u al σ0 tb gl Vm o0 mk p sz q0 v0 ls 0 0 [] q0 v0 [] (lI (lI (lI (lI (lI L 2 (σ0.1 4011)) 3 1) 4 0) 5 1) 6 0) σ0 := ⟨⟨s0, trivial, trivial, Ph_nil u p gl Vm⟩, ⟨by show 2 * (0 + 0) ≤ _; omega, by show 3 * 0 ≤ _; omega, Nat.le_refl _, Nat.le_refl _⟩, ⟨hL, hq.2.2.1.1, rfl⟩, ⟨0, rfl, Nat.zero_le _⟩, 0, rfl, Nat.zero_le _⟩
    have ck : ∀ l, (l = 0 ∧ ls = 0) ∨ (l = 4 ∧ ls = 4) → CxK T n b u al σ0 tb gl Vm o0 mk p sz q0 v0 E x ls e l q0 x [] := by
      intro l hl
      refine ⟨fun _ z => z, fun r zr S' cs' n1 n2 L' τ' af h3 nx tg => ?_⟩
      rw [List.append_nil] at af nx
      refine st_end xb af ?_ zr rfl rfl (fun z => tg.1 (Or.inl z)) (fun z => ⟨tg.2.1 z, tg.2.2 ⟨z, rfl⟩⟩)
      rcases nx with z | z
      · exact Or.inl (by omega)
      · exact Or.inr ⟨z.1, by omega, z.2.2⟩
    refine Tm_suc (fun k => ep_0 k _ _ _) ?_
    refine Tm_suc (fun k => ep_1 k _ _ _) ?_
    refine Tm_no (by show ¬ (32768 : Int32) < 0; decide) ?_
    refine Tm_no (by show ¬ (1 : Int32) = 0; decide) ?_
    rcases hnt with ⟨h1, h2⟩ | ⟨h1, h2⟩
    · rw [h1] at hG
      exact cx.1.1.1 (by omega) q0 v0 bt x [] [] 0 0 _ σ0 hG hd ⟨fun _ => by show ls ≤ 2; omega, fun z => absurd z (by decide)⟩ (fun e s y => by cases y) (ck 0 (Or.inl ⟨rfl, h2⟩))
    · rw [h1] at hG
      exact cx.1.2.1 (by omega) q0 v0 bt x [] [] 0 0 _ σ0 hG hd ⟨fun z => absurd z (by decide), fun _ _ => by show ¬ ls ≤ 2; omega⟩ (fun e s y => by cases y) (ck 4 (Or.inr ⟨rfl, h2⟩))
end CWF
end JnS472
