/-! F2: X5.choice, X5.exp, X5.exps, X5.former, X5.functionCall, X5.iters, X5.members, X5.named, X5.operand, X5.part, X5.primary, X5.quantifier, X5.row, X5.word -/
def t_X5_choice (X : Nat → Nat → Nat → LV → CS → Option RS) (K d : Nat) (b : Nat) (L : LV) (σ : CS) : Option RS := match b with
  | 0 => ox (f_X5_opens K 0 lZ σ) (fun r1 => of d (fun e2 => ox (X e2 1 0 (lI lZ 1 0) r1.2.1) (fun r2 => ox (f_X5_expect K 0 (lI lZ 1 40) r2.2.1) (fun r3 => oP (sPp r3.2.1) (fun b4 => ox (f_X7_emit__P K 0 (lI (lI (lB lZ 0 b4) 1 4) 2 0) r3.2.1) (fun r5 => of d (fun e6 => ox (X e6 1 0 (lI lZ 1 0) r5.2.1) (fun r6 => oP (sPp r6.2.1) (fun b7 => ox (f_X7_emit__P K 0 (lI (lI (lB lZ 0 b7) 1 3) 2 0) r6.2.1) (fun r8 => oP (sPp r8.2.1) (fun b9 => oP (sPp r8.2.1) (fun b10 => op (y_X7_aim__P K 0 (lI (lI (lB lZ 0 b9) 1 r5.1.2) 2 ((r8.2.1.1 (fP b10 1)))) r8.2.1) (fun r11 => X d 0 1 (lI (lI L 2 r8.1.2) 3 0) r11.2)))))))))))))
  | 1 => if 32768 < ((L.1 3)) then (X d 0 2 L σ) else (if ((σ.1 3702)) = 41 then (ox (f_X2_advance K 0 lZ σ) (fun r3 => of d (fun e4 => ox (X e4 1 0 (lI lZ 1 0) r3.2.1) (fun r4 => ox (f_X5_expect K 0 (lI lZ 1 40) r4.2.1) (fun r5 => oP (sPp r5.2.1) (fun b6 => ox (f_X7_emit__P K 0 (lI (lI (lB lZ 0 b6) 1 4) 2 0) r5.2.1) (fun r7 => of d (fun e8 => ox (X e8 1 0 (lI lZ 1 0) r7.2.1) (fun r8 => oP (sPp r8.2.1) (fun b9 => ox (f_X7_emit__P K 0 (lI (lI (lB lZ 0 b9) 1 3) 2 ((L.1 2))) r8.2.1) (fun r10 => oP (sPp r10.2.1) (fun b11 => oP (sPp r10.2.1) (fun b12 => op (y_X7_aim__P K 0 (lI (lI (lB lZ 0 b11) 1 r7.1.2) 2 ((r10.2.1.1 (fP b12 1)))) r10.2.1) (fun r13 => X d 0 1 (lI (lI L 2 r10.1.2) 3 ((((L.1 3)) + 1))) r13.2)))))))))))))) else (X d 0 2 L σ))
  | 2 => ox (f_X5_expect K 0 (lI lZ 1 42) σ) (fun r1 => of d (fun e2 => ox (X e2 1 0 (lI lZ 1 0) r1.2.1) (fun r2 => ox (f_X5_closes K 0 (lI lZ 1 38) r2.2.1) (fun r3 => op (y_X5_aimAll K 0 (lI lZ 1 ((L.1 2))) r3.2.1) (fun r4 => some ((0, 0), r4.2, (0, 0)))))))
  | _ => none
theorem t_X5_choice_0 (X : Nat → Nat → Nat → LV → CS → Option RS) (K d : Nat) (L : LV) (σ : CS) : t_X5_choice X K d 0 L σ = (ox (f_X5_opens K 0 lZ σ) (fun r1 => of d (fun e2 => ox (X e2 1 0 (lI lZ 1 0) r1.2.1) (fun r2 => ox (f_X5_expect K 0 (lI lZ 1 40) r2.2.1) (fun r3 => oP (sPp r3.2.1) (fun b4 => ox (f_X7_emit__P K 0 (lI (lI (lB lZ 0 b4) 1 4) 2 0) r3.2.1) (fun r5 => of d (fun e6 => ox (X e6 1 0 (lI lZ 1 0) r5.2.1) (fun r6 => oP (sPp r6.2.1) (fun b7 => ox (f_X7_emit__P K 0 (lI (lI (lB lZ 0 b7) 1 3) 2 0) r6.2.1) (fun r8 => oP (sPp r8.2.1) (fun b9 => oP (sPp r8.2.1) (fun b10 => op (y_X7_aim__P K 0 (lI (lI (lB lZ 0 b9) 1 r5.1.2) 2 ((r8.2.1.1 (fP b10 1)))) r8.2.1) (fun r11 => X d 0 1 (lI (lI L 2 r8.1.2) 3 0) r11.2)))))))))))))) := rfl
theorem t_X5_choice_1 (X : Nat → Nat → Nat → LV → CS → Option RS) (K d : Nat) (L : LV) (σ : CS) : t_X5_choice X K d 1 L σ = (if 32768 < ((L.1 3)) then (X d 0 2 L σ) else (if ((σ.1 3702)) = 41 then (ox (f_X2_advance K 0 lZ σ) (fun r3 => of d (fun e4 => ox (X e4 1 0 (lI lZ 1 0) r3.2.1) (fun r4 => ox (f_X5_expect K 0 (lI lZ 1 40) r4.2.1) (fun r5 => oP (sPp r5.2.1) (fun b6 => ox (f_X7_emit__P K 0 (lI (lI (lB lZ 0 b6) 1 4) 2 0) r5.2.1) (fun r7 => of d (fun e8 => ox (X e8 1 0 (lI lZ 1 0) r7.2.1) (fun r8 => oP (sPp r8.2.1) (fun b9 => ox (f_X7_emit__P K 0 (lI (lI (lB lZ 0 b9) 1 3) 2 ((L.1 2))) r8.2.1) (fun r10 => oP (sPp r10.2.1) (fun b11 => oP (sPp r10.2.1) (fun b12 => op (y_X7_aim__P K 0 (lI (lI (lB lZ 0 b11) 1 r7.1.2) 2 ((r10.2.1.1 (fP b12 1)))) r10.2.1) (fun r13 => X d 0 1 (lI (lI L 2 r10.1.2) 3 ((((L.1 3)) + 1))) r13.2)))))))))))))) else (X d 0 2 L σ))) := rfl
theorem t_X5_choice_2 (X : Nat → Nat → Nat → LV → CS → Option RS) (K d : Nat) (L : LV) (σ : CS) : t_X5_choice X K d 2 L σ = (ox (f_X5_expect K 0 (lI lZ 1 42) σ) (fun r1 => of d (fun e2 => ox (X e2 1 0 (lI lZ 1 0) r1.2.1) (fun r2 => ox (f_X5_closes K 0 (lI lZ 1 38) r2.2.1) (fun r3 => op (y_X5_aimAll K 0 (lI lZ 1 ((L.1 2))) r3.2.1) (fun r4 => some ((0, 0), r4.2, (0, 0)))))))) := rfl
def t_X5_exp (X : Nat → Nat → Nat → LV → CS → Option RS) (K d : Nat) (b : Nat) (L : LV) (σ : CS) : Option RS := match b with
  | 0 => X d 1 1 (lI (lI (lI L 2 ((σ.1 4011))) 3 1) 4 0) σ
  | 1 => if 32768 < ((L.1 4)) then (X d 1 2 L σ) else (if ((L.1 3)) = 0 then (X d 1 2 L σ) else (X d 1 3 (lI (lI L 5 1) 6 0) σ))
  | 2 => ox (f_X5_settle K 0 (lI (lI lZ 1 ((L.1 2))) 2 0) σ) (fun r1 => some ((0, 0), r1.2.1, (0, 0)))
  | 3 => if 20 < ((L.1 6)) then (X d 1 4 L σ) else (if ((L.1 5)) = 0 then (X d 1 4 L σ) else (ox (f_X5_prefix K 0 (lI (lI lZ 1 ((L.1 2))) 2 ((L.1 1))) σ) (fun r3 => X d 1 3 (lI (lI L 5 r3.1.2) 6 ((((L.1 6)) + 1))) r3.2.1)))
  | 4 => of d (fun e1 => ox (X e1 8 0 lZ σ) (fun r1 => op (y_X5_level K 0 (lI lZ 0 ((r1.2.1.1 3702))) r1.2.1) (fun r2 => if r2.1 < ((L.1 1)) then (X d 1 5 (lI L 6 r2.1) r2.2) else (X d 1 6 (lI (lI L 6 r2.1) 100 1) r2.2))))
  | 5 => X d 1 6 (lI L 100 0) σ
  | 6 => if ((L.1 100)) = 0 then (X d 1 7 (lI L 3 ((L.1 100))) σ) else (if ((L.1 6)) = 3 then (X d 1 8 L σ) else (if ((L.1 6)) = 6 then (X d 1 8 L σ) else (X d 1 9 L σ)))
  | 7 => if ((L.1 3)) = 0 then (X d 1 10 (lI L 7 ((σ.1 3702))) σ) else (if ((L.1 6)) = 6 then (ox (f_X5_opens K 0 lZ σ) (fun r3 => X d 1 11 (lI L 7 ((σ.1 3702))) r3.2.1)) else (X d 1 10 (lI L 7 ((σ.1 3702))) σ))
  | 8 => X d 1 12 (lI L 100 1) σ
  | 9 => X d 1 12 (lI L 100 0) σ
  | 10 => if ((L.1 3)) = 0 then (X d 1 11 L σ) else (ox (f_X2_advance K 0 lZ σ) (fun r2 => X d 1 11 L r2.2.1))
  | 11 => if ((L.1 3)) = 0 then (X d 1 13 L σ) else (if 1 < ((L.1 6)) then (X d 1 13 L σ) else (oP (sPp σ) (fun b3 => if ((L.1 6)) = 0 then (X d 1 15 (lI (lI (lB (lI L 100 7) 101 b3) 102 8) 103 ((L.1 6))) σ) else (X d 1 14 (lI (lI (lB L 100 b3) 101 8) 102 ((L.1 6))) σ))))
  | 12 => if ((L.1 100)) = 0 then (X d 1 16 (lI L 100 ((L.1 2))) σ) else (X d 1 17 (lI (lI L 100 ((((L.1 6)) + 1))) 101 ((L.1 2))) σ)
  | 13 => if ((L.1 3)) = 0 then (X d 1 18 L σ) else (op (y_X5_binaryOp K 0 (lI lZ 0 ((L.1 7))) σ) (fun r2 => ox (f_X5_postpone K 0 (lI (lI (lI lZ 1 ((L.1 6))) 2 r2.1) 3 0) r2.2) (fun r3 => X d 1 18 L r3.2.1)))
  | 14 => X d 1 15 (lI (lI (lB (lI L 100 6) 101 ((L.2.2.1 100))) 102 ((L.1 101))) 103 ((L.1 102))) σ
  | 15 => ox (f_X7_emit__P K 0 (lI (lI (lB lZ 0 ((L.2.2.1 101))) 1 ((L.1 100))) 2 0) σ) (fun r1 => ox (f_X5_postpone K 0 (lI (lI (lI lZ 1 ((L.1 103))) 2 ((L.1 102))) 3 r1.1.2) r1.2.1) (fun r2 => X d 1 18 L r2.2.1))
  | 16 => X d 1 17 (lI (lI L 100 ((L.1 6))) 101 ((L.1 100))) σ
  | 17 => ox (f_X5_settle K 0 (lI (lI lZ 1 ((L.1 101))) 2 ((L.1 100))) σ) (fun r1 => if ((L.1 6)) = 3 then (op (y_X5_postponedLevel K 0 (lI lZ 1 ((L.1 2))) r1.2.1) (fun r3 => if r3.1 = 3 then (X d 1 20 L r3.2) else (X d 1 19 L r3.2))) else (X d 1 19 L r1.2.1))
  | 18 => X d 1 1 (lI L 4 ((((L.1 4)) + 1))) σ
  | 19 => X d 1 21 (lI L 100 1) σ
  | 20 => X d 1 21 (lI L 100 0) σ
  | 21 => X d 1 7 (lI L 3 ((L.1 100))) σ
  | _ => none
theorem t_X5_exp_0 (X : Nat → Nat → Nat → LV → CS → Option RS) (K d : Nat) (L : LV) (σ : CS) : t_X5_exp X K d 0 L σ = (X d 1 1 (lI (lI (lI L 2 ((σ.1 4011))) 3 1) 4 0) σ) := rfl
theorem t_X5_exp_1 (X : Nat → Nat → Nat → LV → CS → Option RS) (K d : Nat) (L : LV) (σ : CS) : t_X5_exp X K d 1 L σ = (if 32768 < ((L.1 4)) then (X d 1 2 L σ) else (if ((L.1 3)) = 0 then (X d 1 2 L σ) else (X d 1 3 (lI (lI L 5 1) 6 0) σ))) := rfl
theorem t_X5_exp_2 (X : Nat → Nat → Nat → LV → CS → Option RS) (K d : Nat) (L : LV) (σ : CS) : t_X5_exp X K d 2 L σ = (ox (f_X5_settle K 0 (lI (lI lZ 1 ((L.1 2))) 2 0) σ) (fun r1 => some ((0, 0), r1.2.1, (0, 0)))) := rfl
theorem t_X5_exp_3 (X : Nat → Nat → Nat → LV → CS → Option RS) (K d : Nat) (L : LV) (σ : CS) : t_X5_exp X K d 3 L σ = (if 20 < ((L.1 6)) then (X d 1 4 L σ) else (if ((L.1 5)) = 0 then (X d 1 4 L σ) else (ox (f_X5_prefix K 0 (lI (lI lZ 1 ((L.1 2))) 2 ((L.1 1))) σ) (fun r3 => X d 1 3 (lI (lI L 5 r3.1.2) 6 ((((L.1 6)) + 1))) r3.2.1)))) := rfl
theorem t_X5_exp_4 (X : Nat → Nat → Nat → LV → CS → Option RS) (K d : Nat) (L : LV) (σ : CS) : t_X5_exp X K d 4 L σ = (of d (fun e1 => ox (X e1 8 0 lZ σ) (fun r1 => op (y_X5_level K 0 (lI lZ 0 ((r1.2.1.1 3702))) r1.2.1) (fun r2 => if r2.1 < ((L.1 1)) then (X d 1 5 (lI L 6 r2.1) r2.2) else (X d 1 6 (lI (lI L 6 r2.1) 100 1) r2.2))))) := rfl
theorem t_X5_exp_5 (X : Nat → Nat → Nat → LV → CS → Option RS) (K d : Nat) (L : LV) (σ : CS) : t_X5_exp X K d 5 L σ = (X d 1 6 (lI L 100 0) σ) := rfl
theorem t_X5_exp_6 (X : Nat → Nat → Nat → LV → CS → Option RS) (K d : Nat) (L : LV) (σ : CS) : t_X5_exp X K d 6 L σ = (if ((L.1 100)) = 0 then (X d 1 7 (lI L 3 ((L.1 100))) σ) else (if ((L.1 6)) = 3 then (X d 1 8 L σ) else (if ((L.1 6)) = 6 then (X d 1 8 L σ) else (X d 1 9 L σ)))) := rfl
theorem t_X5_exp_7 (X : Nat → Nat → Nat → LV → CS → Option RS) (K d : Nat) (L : LV) (σ : CS) : t_X5_exp X K d 7 L σ = (if ((L.1 3)) = 0 then (X d 1 10 (lI L 7 ((σ.1 3702))) σ) else (if ((L.1 6)) = 6 then (ox (f_X5_opens K 0 lZ σ) (fun r3 => X d 1 11 (lI L 7 ((σ.1 3702))) r3.2.1)) else (X d 1 10 (lI L 7 ((σ.1 3702))) σ))) := rfl
theorem t_X5_exp_8 (X : Nat → Nat → Nat → LV → CS → Option RS) (K d : Nat) (L : LV) (σ : CS) : t_X5_exp X K d 8 L σ = (X d 1 12 (lI L 100 1) σ) := rfl
theorem t_X5_exp_9 (X : Nat → Nat → Nat → LV → CS → Option RS) (K d : Nat) (L : LV) (σ : CS) : t_X5_exp X K d 9 L σ = (X d 1 12 (lI L 100 0) σ) := rfl
theorem t_X5_exp_10 (X : Nat → Nat → Nat → LV → CS → Option RS) (K d : Nat) (L : LV) (σ : CS) : t_X5_exp X K d 10 L σ = (if ((L.1 3)) = 0 then (X d 1 11 L σ) else (ox (f_X2_advance K 0 lZ σ) (fun r2 => X d 1 11 L r2.2.1))) := rfl
theorem t_X5_exp_11 (X : Nat → Nat → Nat → LV → CS → Option RS) (K d : Nat) (L : LV) (σ : CS) : t_X5_exp X K d 11 L σ = (if ((L.1 3)) = 0 then (X d 1 13 L σ) else (if 1 < ((L.1 6)) then (X d 1 13 L σ) else (oP (sPp σ) (fun b3 => if ((L.1 6)) = 0 then (X d 1 15 (lI (lI (lB (lI L 100 7) 101 b3) 102 8) 103 ((L.1 6))) σ) else (X d 1 14 (lI (lI (lB L 100 b3) 101 8) 102 ((L.1 6))) σ))))) := rfl
theorem t_X5_exp_12 (X : Nat → Nat → Nat → LV → CS → Option RS) (K d : Nat) (L : LV) (σ : CS) : t_X5_exp X K d 12 L σ = (if ((L.1 100)) = 0 then (X d 1 16 (lI L 100 ((L.1 2))) σ) else (X d 1 17 (lI (lI L 100 ((((L.1 6)) + 1))) 101 ((L.1 2))) σ)) := rfl
theorem t_X5_exp_13 (X : Nat → Nat → Nat → LV → CS → Option RS) (K d : Nat) (L : LV) (σ : CS) : t_X5_exp X K d 13 L σ = (if ((L.1 3)) = 0 then (X d 1 18 L σ) else (op (y_X5_binaryOp K 0 (lI lZ 0 ((L.1 7))) σ) (fun r2 => ox (f_X5_postpone K 0 (lI (lI (lI lZ 1 ((L.1 6))) 2 r2.1) 3 0) r2.2) (fun r3 => X d 1 18 L r3.2.1)))) := rfl
theorem t_X5_exp_14 (X : Nat → Nat → Nat → LV → CS → Option RS) (K d : Nat) (L : LV) (σ : CS) : t_X5_exp X K d 14 L σ = (X d 1 15 (lI (lI (lB (lI L 100 6) 101 ((L.2.2.1 100))) 102 ((L.1 101))) 103 ((L.1 102))) σ) := rfl
theorem t_X5_exp_15 (X : Nat → Nat → Nat → LV → CS → Option RS) (K d : Nat) (L : LV) (σ : CS) : t_X5_exp X K d 15 L σ = (ox (f_X7_emit__P K 0 (lI (lI (lB lZ 0 ((L.2.2.1 101))) 1 ((L.1 100))) 2 0) σ) (fun r1 => ox (f_X5_postpone K 0 (lI (lI (lI lZ 1 ((L.1 103))) 2 ((L.1 102))) 3 r1.1.2) r1.2.1) (fun r2 => X d 1 18 L r2.2.1))) := rfl
theorem t_X5_exp_16 (X : Nat → Nat → Nat → LV → CS → Option RS) (K d : Nat) (L : LV) (σ : CS) : t_X5_exp X K d 16 L σ = (X d 1 17 (lI (lI L 100 ((L.1 6))) 101 ((L.1 100))) σ) := rfl
theorem t_X5_exp_17 (X : Nat → Nat → Nat → LV → CS → Option RS) (K d : Nat) (L : LV) (σ : CS) : t_X5_exp X K d 17 L σ = (ox (f_X5_settle K 0 (lI (lI lZ 1 ((L.1 101))) 2 ((L.1 100))) σ) (fun r1 => if ((L.1 6)) = 3 then (op (y_X5_postponedLevel K 0 (lI lZ 1 ((L.1 2))) r1.2.1) (fun r3 => if r3.1 = 3 then (X d 1 20 L r3.2) else (X d 1 19 L r3.2))) else (X d 1 19 L r1.2.1))) := rfl
theorem t_X5_exp_18 (X : Nat → Nat → Nat → LV → CS → Option RS) (K d : Nat) (L : LV) (σ : CS) : t_X5_exp X K d 18 L σ = (X d 1 1 (lI L 4 ((((L.1 4)) + 1))) σ) := rfl
theorem t_X5_exp_19 (X : Nat → Nat → Nat → LV → CS → Option RS) (K d : Nat) (L : LV) (σ : CS) : t_X5_exp X K d 19 L σ = (X d 1 21 (lI L 100 1) σ) := rfl
theorem t_X5_exp_20 (X : Nat → Nat → Nat → LV → CS → Option RS) (K d : Nat) (L : LV) (σ : CS) : t_X5_exp X K d 20 L σ = (X d 1 21 (lI L 100 0) σ) := rfl
theorem t_X5_exp_21 (X : Nat → Nat → Nat → LV → CS → Option RS) (K d : Nat) (L : LV) (σ : CS) : t_X5_exp X K d 21 L σ = (X d 1 7 (lI L 3 ((L.1 100))) σ) := rfl
def t_X5_exps (X : Nat → Nat → Nat → LV → CS → Option RS) (K d : Nat) (b : Nat) (L : LV) (σ : CS) : Option RS := match b with
  | 0 => of d (fun e1 => ox (X e1 1 0 (lI lZ 1 0) σ) (fun r1 => X d 2 1 (lI (lI L 1 1) 2 0) r1.2.1))
  | 1 => if 32768 < ((L.1 2)) then (X d 2 2 L σ) else (if ((σ.1 3702)) = 16 then (ox (f_X2_advance K 0 lZ σ) (fun r3 => of d (fun e4 => ox (X e4 1 0 (lI lZ 1 0) r3.2.1) (fun r4 => X d 2 1 (lI (lI L 1 ((((L.1 1)) + 1))) 2 ((((L.1 2)) + 1))) r4.2.1)))) else (X d 2 2 L σ))
  | 2 => some ((0, (L.1 1)), σ, (0, 0))
  | _ => none
theorem t_X5_exps_0 (X : Nat → Nat → Nat → LV → CS → Option RS) (K d : Nat) (L : LV) (σ : CS) : t_X5_exps X K d 0 L σ = (of d (fun e1 => ox (X e1 1 0 (lI lZ 1 0) σ) (fun r1 => X d 2 1 (lI (lI L 1 1) 2 0) r1.2.1))) := rfl
theorem t_X5_exps_1 (X : Nat → Nat → Nat → LV → CS → Option RS) (K d : Nat) (L : LV) (σ : CS) : t_X5_exps X K d 1 L σ = (if 32768 < ((L.1 2)) then (X d 2 2 L σ) else (if ((σ.1 3702)) = 16 then (ox (f_X2_advance K 0 lZ σ) (fun r3 => of d (fun e4 => ox (X e4 1 0 (lI lZ 1 0) r3.2.1) (fun r4 => X d 2 1 (lI (lI L 1 ((((L.1 1)) + 1))) 2 ((((L.1 2)) + 1))) r4.2.1)))) else (X d 2 2 L σ))) := rfl
theorem t_X5_exps_2 (X : Nat → Nat → Nat → LV → CS → Option RS) (K d : Nat) (L : LV) (σ : CS) : t_X5_exps X K d 2 L σ = (some ((0, (L.1 1)), σ, (0, 0))) := rfl
def t_X5_former (X : Nat → Nat → Nat → LV → CS → Option RS) (K d : Nat) (b : Nat) (L : LV) (σ : CS) : Option RS := match b with
  | 0 => ox (f_X2_advance K 0 lZ σ) (fun r1 => oP (sPp r1.2.1) (fun b2 => oP (sPp r1.2.1) (fun b3 => oP (sPp r1.2.1) (fun b4 => ox (f_X7_emit__P K 0 (lI (lI (lB lZ 0 b4) 1 80) 2 0) r1.2.1) (fun r5 => of d (fun e6 => ox (X e6 5 0 (lI lZ 1 0) r5.2.1) (fun r6 => if ((r6.2.1.1 3702)) = 19 then (ox (f_X2_advance K 0 lZ r6.2.1) (fun r8 => of d (fun e9 => ox (X e9 1 0 (lI lZ 1 0) r8.2.1) (fun r9 => oP (sPp r9.2.1) (fun b10 => oP (sPp r9.2.1) (fun b11 => ox (f_X7_emit__P K 0 (lI (lI (lB lZ 0 b11) 1 4) 2 0) r9.2.1) (fun r12 => op (y_X7_aim__P K 0 (lI (lI (lB lZ 0 b10) 1 r12.1.2) 2 ((r6.2.1.1 4015))) r12.2.1) (fun r13 => X d 3 1 (lI (lI (lI (lI L 2 ((r1.2.1.1 (fP b2 11)))) 3 ((r1.2.1.1 (fP b3 19)))) 4 ((r6.2.1.1 4014))) 5 ((r6.2.1.1 4015))) r13.2)))))))) else (X d 3 1 (lI (lI (lI (lI L 2 ((r1.2.1.1 (fP b2 11)))) 3 ((r1.2.1.1 (fP b3 19)))) 4 ((r6.2.1.1 4014))) 5 ((r6.2.1.1 4015))) r6.2.1))))))))
  | 1 => ox (f_X5_expect K 0 (lI lZ 1 18) σ) (fun r1 => of d (fun e2 => ox (X e2 1 0 (lI lZ 1 0) r1.2.1) (fun r2 => oP (sPp r2.2.1) (fun b3 => ox (f_X7_emit__P K 0 (lI (lI (lB lZ 0 b3) 1 ((81 + ((L.1 1))))) 2 0) r2.2.1) (fun r4 => oP (sPp r4.2.1) (fun b5 => oP (sPp r4.2.1) (fun b6 => ox (f_X7_emit__P K 0 (lI (lI (lB lZ 0 b6) 1 3) 2 0) r4.2.1) (fun r7 => op (y_X7_aim__P K 0 (lI (lI (lB lZ 0 b5) 1 r7.1.2) 2 ((L.1 5))) r7.2.1) (fun r8 => oP (sPp r8.2) (fun b9 => oP (sPp r8.2) (fun b10 => if ¬ (((((L.1 4)) + 1)) < 0 ∨ (sN r8.2 (pR0 ((sKd r8.2 b9)))) ≤ ((((L.1 4)) + 1)).toNatClampNeg) then (ox (f_X5_clear K 0 (lI lZ 1 ((L.1 3))) (uA r8.2 (pR0 ((sKd r8.2 b9))) ((((L.1 4)) + 1)).toNatClampNeg ((((r8.2.1 (fP b10 1))) - ((L.1 4)))))) (fun r12 => oP (sPp r12.2.1) (fun b13 => ox (f_X7_emit__P K 0 (lI (lI (lB lZ 0 b13) 1 ((83 + ((L.1 1))))) 2 0) r12.2.1) (fun r14 => oP (sPp r14.2.1) (fun b15 => some ((0, 0), (uI r14.2.1 (fP b15 11) ((L.1 2))), (0, 0))))))) else none)))))))))))
  | _ => none
theorem t_X5_former_0 (X : Nat → Nat → Nat → LV → CS → Option RS) (K d : Nat) (L : LV) (σ : CS) : t_X5_former X K d 0 L σ = (ox (f_X2_advance K 0 lZ σ) (fun r1 => oP (sPp r1.2.1) (fun b2 => oP (sPp r1.2.1) (fun b3 => oP (sPp r1.2.1) (fun b4 => ox (f_X7_emit__P K 0 (lI (lI (lB lZ 0 b4) 1 80) 2 0) r1.2.1) (fun r5 => of d (fun e6 => ox (X e6 5 0 (lI lZ 1 0) r5.2.1) (fun r6 => if ((r6.2.1.1 3702)) = 19 then (ox (f_X2_advance K 0 lZ r6.2.1) (fun r8 => of d (fun e9 => ox (X e9 1 0 (lI lZ 1 0) r8.2.1) (fun r9 => oP (sPp r9.2.1) (fun b10 => oP (sPp r9.2.1) (fun b11 => ox (f_X7_emit__P K 0 (lI (lI (lB lZ 0 b11) 1 4) 2 0) r9.2.1) (fun r12 => op (y_X7_aim__P K 0 (lI (lI (lB lZ 0 b10) 1 r12.1.2) 2 ((r6.2.1.1 4015))) r12.2.1) (fun r13 => X d 3 1 (lI (lI (lI (lI L 2 ((r1.2.1.1 (fP b2 11)))) 3 ((r1.2.1.1 (fP b3 19)))) 4 ((r6.2.1.1 4014))) 5 ((r6.2.1.1 4015))) r13.2)))))))) else (X d 3 1 (lI (lI (lI (lI L 2 ((r1.2.1.1 (fP b2 11)))) 3 ((r1.2.1.1 (fP b3 19)))) 4 ((r6.2.1.1 4014))) 5 ((r6.2.1.1 4015))) r6.2.1))))))))) := rfl
theorem t_X5_former_1 (X : Nat → Nat → Nat → LV → CS → Option RS) (K d : Nat) (L : LV) (σ : CS) : t_X5_former X K d 1 L σ = (ox (f_X5_expect K 0 (lI lZ 1 18) σ) (fun r1 => of d (fun e2 => ox (X e2 1 0 (lI lZ 1 0) r1.2.1) (fun r2 => oP (sPp r2.2.1) (fun b3 => ox (f_X7_emit__P K 0 (lI (lI (lB lZ 0 b3) 1 ((81 + ((L.1 1))))) 2 0) r2.2.1) (fun r4 => oP (sPp r4.2.1) (fun b5 => oP (sPp r4.2.1) (fun b6 => ox (f_X7_emit__P K 0 (lI (lI (lB lZ 0 b6) 1 3) 2 0) r4.2.1) (fun r7 => op (y_X7_aim__P K 0 (lI (lI (lB lZ 0 b5) 1 r7.1.2) 2 ((L.1 5))) r7.2.1) (fun r8 => oP (sPp r8.2) (fun b9 => oP (sPp r8.2) (fun b10 => if ¬ (((((L.1 4)) + 1)) < 0 ∨ (sN r8.2 (pR0 ((sKd r8.2 b9)))) ≤ ((((L.1 4)) + 1)).toNatClampNeg) then (ox (f_X5_clear K 0 (lI lZ 1 ((L.1 3))) (uA r8.2 (pR0 ((sKd r8.2 b9))) ((((L.1 4)) + 1)).toNatClampNeg ((((r8.2.1 (fP b10 1))) - ((L.1 4)))))) (fun r12 => oP (sPp r12.2.1) (fun b13 => ox (f_X7_emit__P K 0 (lI (lI (lB lZ 0 b13) 1 ((83 + ((L.1 1))))) 2 0) r12.2.1) (fun r14 => oP (sPp r14.2.1) (fun b15 => some ((0, 0), (uI r14.2.1 (fP b15 11) ((L.1 2))), (0, 0))))))) else none)))))))))))) := rfl
def t_X5_functionCall (X : Nat → Nat → Nat → LV → CS → Option RS) (K d : Nat) (b : Nat) (L : LV) (σ : CS) : Option RS := match b with
  | 0 => oP (sPp σ) (fun b1 => ox (f_X7_emit__P K 0 (lI (lI (lB lZ 0 b1) 1 16) 2 0) σ) (fun r2 => ox (f_X5_opens K 0 lZ r2.2.1) (fun r3 => if ((r3.2.1.1 3702)) = 11 then (X d 4 2 (lI (lI L 2 ((r3.2.1.1 4005))) 100 0) r3.2.1) else (X d 4 1 (lI L 2 ((r3.2.1.1 4005))) r3.2.1))))
  | 1 => of d (fun e1 => ox (X e1 2 0 lZ σ) (fun r1 => X d 4 2 (lI L 100 r1.1.2) r1.2.1))
  | 2 => ox (f_X5_want K 0 (lI lZ 1 11) σ) (fun r1 => oP (sPp r1.2.1) (fun b2 => if ¬ (((L.1 1)) < 0 ∨ 42 ≤ ((L.1 1)).toNatClampNeg) then (if ((L.1 100)) = ((r1.2.1.2.2.1 (pR14 b2) ((L.1 1)).toNatClampNeg)) then (X d 4 3 L r1.2.1) else (ox (f_X5_refuse K 0 (lI (lI lZ 1 6) 2 ((r1.2.1.1 3703))) r1.2.1) (fun r5 => X d 4 3 L r5.2.1))) else none))
  | 3 => ox (f_X5_closes K 0 (lI lZ 1 11) σ) (fun r1 => oP (sPp r1.2.1) (fun b2 => ox (f_X7_emit__P K 0 (lI (lI (lB lZ 0 b2) 1 17) 2 ((L.1 1))) r1.2.1) (fun r3 => oP (sPp r3.2.1) (fun b4 => oP (sPp r3.2.1) (fun b5 => ox (f_X7_word__P K 0 (lI (lB lZ 0 b4) 1 ((((L.1 2)) ||| ((((r3.2.1.1 (fP b5 19))) <<< ((8 : Int32) &&& 31)))))) r3.2.1) (fun r6 => some ((0, 0), r6.2.1, (0, 0))))))))
  | _ => none
theorem t_X5_functionCall_0 (X : Nat → Nat → Nat → LV → CS → Option RS) (K d : Nat) (L : LV) (σ : CS) : t_X5_functionCall X K d 0 L σ = (oP (sPp σ) (fun b1 => ox (f_X7_emit__P K 0 (lI (lI (lB lZ 0 b1) 1 16) 2 0) σ) (fun r2 => ox (f_X5_opens K 0 lZ r2.2.1) (fun r3 => if ((r3.2.1.1 3702)) = 11 then (X d 4 2 (lI (lI L 2 ((r3.2.1.1 4005))) 100 0) r3.2.1) else (X d 4 1 (lI L 2 ((r3.2.1.1 4005))) r3.2.1))))) := rfl
theorem t_X5_functionCall_1 (X : Nat → Nat → Nat → LV → CS → Option RS) (K d : Nat) (L : LV) (σ : CS) : t_X5_functionCall X K d 1 L σ = (of d (fun e1 => ox (X e1 2 0 lZ σ) (fun r1 => X d 4 2 (lI L 100 r1.1.2) r1.2.1))) := rfl
theorem t_X5_functionCall_2 (X : Nat → Nat → Nat → LV → CS → Option RS) (K d : Nat) (L : LV) (σ : CS) : t_X5_functionCall X K d 2 L σ = (ox (f_X5_want K 0 (lI lZ 1 11) σ) (fun r1 => oP (sPp r1.2.1) (fun b2 => if ¬ (((L.1 1)) < 0 ∨ 42 ≤ ((L.1 1)).toNatClampNeg) then (if ((L.1 100)) = ((r1.2.1.2.2.1 (pR14 b2) ((L.1 1)).toNatClampNeg)) then (X d 4 3 L r1.2.1) else (ox (f_X5_refuse K 0 (lI (lI lZ 1 6) 2 ((r1.2.1.1 3703))) r1.2.1) (fun r5 => X d 4 3 L r5.2.1))) else none))) := rfl
theorem t_X5_functionCall_3 (X : Nat → Nat → Nat → LV → CS → Option RS) (K d : Nat) (L : LV) (σ : CS) : t_X5_functionCall X K d 3 L σ = (ox (f_X5_closes K 0 (lI lZ 1 11) σ) (fun r1 => oP (sPp r1.2.1) (fun b2 => ox (f_X7_emit__P K 0 (lI (lI (lB lZ 0 b2) 1 17) 2 ((L.1 1))) r1.2.1) (fun r3 => oP (sPp r3.2.1) (fun b4 => oP (sPp r3.2.1) (fun b5 => ox (f_X7_word__P K 0 (lI (lB lZ 0 b4) 1 ((((L.1 2)) ||| ((((r3.2.1.1 (fP b5 19))) <<< ((8 : Int32) &&& 31)))))) r3.2.1) (fun r6 => some ((0, 0), r6.2.1, (0, 0))))))))) := rfl
def t_X5_iters (X : Nat → Nat → Nat → LV → CS → Option RS) (K d : Nat) (b : Nat) (L : LV) (σ : CS) : Option RS := match b with
  | 0 => oP (sPp σ) (fun b1 => X d 5 1 (lI (lI (lI (lI (lI L 2 ((σ.1 (fP b1 11)))) 3 ((-1))) 4 ((-1))) 5 1) 6 0) σ)
  | 1 => if 32768 < ((L.1 6)) then (X d 5 2 L σ) else (if ((L.1 5)) = 0 then (X d 5 2 L σ) else (oP (sPp σ) (fun b3 => if ((L.1 1)) = 0 then (X d 5 3 (lI L 7 ((σ.1 (fP b3 11)))) σ) else (oP (sPp σ) (fun b5 => if ¬ (((σ.1 4003)) < 0 ∨ 42 ≤ ((σ.1 4003)).toNatClampNeg) then (X d 5 4 (lI (lI L 7 ((σ.1 (fP b3 11)))) 100 ((σ.2.2.1 (pR18 b5) ((σ.1 4003)).toNatClampNeg))) σ) else none)))))
  | 2 => some ((0, 0), (uI (uI σ 4014 ((L.1 3))) 4015 ((L.1 4))), (0, 0))
  | 3 => oP (sPp σ) (fun b1 => X d 5 4 (lI L 100 ((σ.1 (fP b1 19)))) σ)
  | 4 => if ((σ.1 3702)) = 14 then (X d 5 6 (lI (lI L 8 ((L.1 100))) 100 1) σ) else (X d 5 5 (lI L 8 ((L.1 100))) σ)
  | 5 => X d 5 6 (lI L 100 0) σ
  | 6 => ox (f_X5_iterNames K 0 (lI (lI (lI lZ 1 ((L.1 2))) 2 ((L.1 100))) 3 ((L.1 1))) σ) (fun r1 => oP (sPp r1.2.1) (fun b2 => ox (f_X5_expect K 0 (lI lZ 1 46) r1.2.1) (fun r3 => of d (fun e4 => ox (X e4 1 0 (lI lZ 1 4) r3.2.1) (fun r4 => if ((L.1 1)) = 0 then (X d 5 7 (lI (lI L 9 ((L.1 100))) 10 ((((r1.2.1.1 (fP b2 11))) - ((L.1 7))))) r4.2.1) else (oP (sPp r4.2.1) (fun b6 => op (y_X7_newSlots__P K 0 (lI (lI (lB lZ 0 b6) 1 ((r4.2.1.1 4003))) 2 2) r4.2.1) (fun r7 => X d 5 8 (lI (lI (lI L 9 ((L.1 100))) 10 ((((r1.2.1.1 (fP b2 11))) - ((L.1 7))))) 100 r7.1) r7.2))))))))
  | 7 => oP (sPp σ) (fun b1 => op (y_X7_newPassing__P K 0 (lI (lB lZ 0 b1) 1 2) σ) (fun r2 => X d 5 8 (lI L 100 r2.1) r2.2))
  | 8 => oP (sPp σ) (fun b1 => if ((L.1 1)) = 0 then (X d 5 9 (lB (lI L 11 ((L.1 100))) 100 b1) σ) else (X d 5 10 (lB (lI (lI L 11 ((L.1 100))) 100 69) 101 b1) σ))
  | 9 => X d 5 10 (lB (lI L 100 64) 101 ((L.2.2.1 100))) σ
  | 10 => ox (f_X7_emit__P K 0 (lI (lI (lB lZ 0 ((L.2.2.1 101))) 1 ((L.1 100))) 2 ((L.1 11))) σ) (fun r1 => oP (sPp r1.2.1) (fun b2 => if ((L.1 1)) = 0 then (X d 5 11 (lB L 100 b2) r1.2.1) else (X d 5 12 (lB (lI L 100 70) 101 b2) r1.2.1)))
  | 11 => X d 5 12 (lB (lI L 100 65) 101 ((L.2.2.1 100))) σ
  | 12 => ox (f_X7_emit__P K 0 (lI (lI (lB lZ 0 ((L.2.2.1 101))) 1 ((L.1 100))) 2 ((L.1 11))) σ) (fun r1 => oP (sPp r1.2.1) (fun b2 => ox (f_X7_word__P K 0 (lI (lB lZ 0 b2) 1 ((((L.1 4)) - r1.1.2))) r1.2.1) (fun r3 => if ((L.1 3)) = ((-1)) then (X d 5 14 (lI (lI L 12 r1.1.2) 100 r1.1.2) r3.2.1) else (X d 5 13 (lI L 12 r1.1.2) r3.2.1))))
  | 13 => X d 5 14 (lI L 100 ((L.1 3))) σ
  | 14 => if ((L.1 9)) = 0 then (X d 5 15 (lI (lI (lI L 3 ((L.1 100))) 4 ((L.1 12))) 100 ((L.1 8))) σ) else (X d 5 16 (lI (lI (lI (lI L 3 ((L.1 100))) 4 ((L.1 12))) 100 ((L.1 10))) 101 ((L.1 8))) σ)
  | 15 => X d 5 16 (lI (lI L 100 0) 101 ((L.1 100))) σ
  | 16 => ox (f_X5_iterStore K 0 (lI (lI (lI lZ 1 ((L.1 101))) 2 ((L.1 100))) 3 ((L.1 1))) σ) (fun r1 => X d 5 17 (lI L 13 ((L.1 7))) r1.2.1)
  | 17 => oP (sPp σ) (fun b1 => if ((σ.1 (fP b1 11))) ≤ ((L.1 13)) then (X d 5 18 L σ) else (oP (sPp σ) (fun b3 => if ¬ (((L.1 13)) < 0 ∨ 256 ≤ ((L.1 13)).toNatClampNeg) then (X d 5 17 (lI L 13 ((((L.1 13)) + 1))) (uA σ (pR10 b3) ((L.1 13)).toNatClampNeg (vp_nar .boolean 0))) else none)))
  | 18 => if ((L.1 1)) = 0 then (X d 5 19 L σ) else (ox (f_X5_mark K 0 (lI lZ 1 ((L.1 11))) σ) (fun r2 => ox (f_X5_mark K 0 (lI lZ 1 ((L.1 8))) r2.2.1) (fun r3 => ox (f_X5_mark K 0 (lI lZ 1 ((L.1 10))) r3.2.1) (fun r4 => X d 5 19 L r4.2.1))))
  | 19 => if ((σ.1 3702)) = 16 then (X d 5 21 (lI L 100 1) σ) else (X d 5 20 L σ)
  | 20 => X d 5 21 (lI L 100 0) σ
  | 21 => if ((L.1 100)) = 0 then (X d 5 22 (lI L 5 ((L.1 100))) σ) else (ox (f_X2_advance K 0 lZ σ) (fun r2 => X d 5 22 (lI L 5 ((L.1 100))) r2.2.1))
  | 22 => X d 5 1 (lI L 6 ((((L.1 6)) + 1))) σ
  | _ => none
theorem t_X5_iters_0 (X : Nat → Nat → Nat → LV → CS → Option RS) (K d : Nat) (L : LV) (σ : CS) : t_X5_iters X K d 0 L σ = (oP (sPp σ) (fun b1 => X d 5 1 (lI (lI (lI (lI (lI L 2 ((σ.1 (fP b1 11)))) 3 ((-1))) 4 ((-1))) 5 1) 6 0) σ)) := rfl
theorem t_X5_iters_1 (X : Nat → Nat → Nat → LV → CS → Option RS) (K d : Nat) (L : LV) (σ : CS) : t_X5_iters X K d 1 L σ = (if 32768 < ((L.1 6)) then (X d 5 2 L σ) else (if ((L.1 5)) = 0 then (X d 5 2 L σ) else (oP (sPp σ) (fun b3 => if ((L.1 1)) = 0 then (X d 5 3 (lI L 7 ((σ.1 (fP b3 11)))) σ) else (oP (sPp σ) (fun b5 => if ¬ (((σ.1 4003)) < 0 ∨ 42 ≤ ((σ.1 4003)).toNatClampNeg) then (X d 5 4 (lI (lI L 7 ((σ.1 (fP b3 11)))) 100 ((σ.2.2.1 (pR18 b5) ((σ.1 4003)).toNatClampNeg))) σ) else none)))))) := rfl
theorem t_X5_iters_2 (X : Nat → Nat → Nat → LV → CS → Option RS) (K d : Nat) (L : LV) (σ : CS) : t_X5_iters X K d 2 L σ = (some ((0, 0), (uI (uI σ 4014 ((L.1 3))) 4015 ((L.1 4))), (0, 0))) := rfl
theorem t_X5_iters_3 (X : Nat → Nat → Nat → LV → CS → Option RS) (K d : Nat) (L : LV) (σ : CS) : t_X5_iters X K d 3 L σ = (oP (sPp σ) (fun b1 => X d 5 4 (lI L 100 ((σ.1 (fP b1 19)))) σ)) := rfl
theorem t_X5_iters_4 (X : Nat → Nat → Nat → LV → CS → Option RS) (K d : Nat) (L : LV) (σ : CS) : t_X5_iters X K d 4 L σ = (if ((σ.1 3702)) = 14 then (X d 5 6 (lI (lI L 8 ((L.1 100))) 100 1) σ) else (X d 5 5 (lI L 8 ((L.1 100))) σ)) := rfl
theorem t_X5_iters_5 (X : Nat → Nat → Nat → LV → CS → Option RS) (K d : Nat) (L : LV) (σ : CS) : t_X5_iters X K d 5 L σ = (X d 5 6 (lI L 100 0) σ) := rfl
theorem t_X5_iters_6 (X : Nat → Nat → Nat → LV → CS → Option RS) (K d : Nat) (L : LV) (σ : CS) : t_X5_iters X K d 6 L σ = (ox (f_X5_iterNames K 0 (lI (lI (lI lZ 1 ((L.1 2))) 2 ((L.1 100))) 3 ((L.1 1))) σ) (fun r1 => oP (sPp r1.2.1) (fun b2 => ox (f_X5_expect K 0 (lI lZ 1 46) r1.2.1) (fun r3 => of d (fun e4 => ox (X e4 1 0 (lI lZ 1 4) r3.2.1) (fun r4 => if ((L.1 1)) = 0 then (X d 5 7 (lI (lI L 9 ((L.1 100))) 10 ((((r1.2.1.1 (fP b2 11))) - ((L.1 7))))) r4.2.1) else (oP (sPp r4.2.1) (fun b6 => op (y_X7_newSlots__P K 0 (lI (lI (lB lZ 0 b6) 1 ((r4.2.1.1 4003))) 2 2) r4.2.1) (fun r7 => X d 5 8 (lI (lI (lI L 9 ((L.1 100))) 10 ((((r1.2.1.1 (fP b2 11))) - ((L.1 7))))) 100 r7.1) r7.2))))))))) := rfl
theorem t_X5_iters_7 (X : Nat → Nat → Nat → LV → CS → Option RS) (K d : Nat) (L : LV) (σ : CS) : t_X5_iters X K d 7 L σ = (oP (sPp σ) (fun b1 => op (y_X7_newPassing__P K 0 (lI (lB lZ 0 b1) 1 2) σ) (fun r2 => X d 5 8 (lI L 100 r2.1) r2.2))) := rfl
theorem t_X5_iters_8 (X : Nat → Nat → Nat → LV → CS → Option RS) (K d : Nat) (L : LV) (σ : CS) : t_X5_iters X K d 8 L σ = (oP (sPp σ) (fun b1 => if ((L.1 1)) = 0 then (X d 5 9 (lB (lI L 11 ((L.1 100))) 100 b1) σ) else (X d 5 10 (lB (lI (lI L 11 ((L.1 100))) 100 69) 101 b1) σ))) := rfl
theorem t_X5_iters_9 (X : Nat → Nat → Nat → LV → CS → Option RS) (K d : Nat) (L : LV) (σ : CS) : t_X5_iters X K d 9 L σ = (X d 5 10 (lB (lI L 100 64) 101 ((L.2.2.1 100))) σ) := rfl
theorem t_X5_iters_10 (X : Nat → Nat → Nat → LV → CS → Option RS) (K d : Nat) (L : LV) (σ : CS) : t_X5_iters X K d 10 L σ = (ox (f_X7_emit__P K 0 (lI (lI (lB lZ 0 ((L.2.2.1 101))) 1 ((L.1 100))) 2 ((L.1 11))) σ) (fun r1 => oP (sPp r1.2.1) (fun b2 => if ((L.1 1)) = 0 then (X d 5 11 (lB L 100 b2) r1.2.1) else (X d 5 12 (lB (lI L 100 70) 101 b2) r1.2.1)))) := rfl
theorem t_X5_iters_11 (X : Nat → Nat → Nat → LV → CS → Option RS) (K d : Nat) (L : LV) (σ : CS) : t_X5_iters X K d 11 L σ = (X d 5 12 (lB (lI L 100 65) 101 ((L.2.2.1 100))) σ) := rfl
theorem t_X5_iters_12 (X : Nat → Nat → Nat → LV → CS → Option RS) (K d : Nat) (L : LV) (σ : CS) : t_X5_iters X K d 12 L σ = (ox (f_X7_emit__P K 0 (lI (lI (lB lZ 0 ((L.2.2.1 101))) 1 ((L.1 100))) 2 ((L.1 11))) σ) (fun r1 => oP (sPp r1.2.1) (fun b2 => ox (f_X7_word__P K 0 (lI (lB lZ 0 b2) 1 ((((L.1 4)) - r1.1.2))) r1.2.1) (fun r3 => if ((L.1 3)) = ((-1)) then (X d 5 14 (lI (lI L 12 r1.1.2) 100 r1.1.2) r3.2.1) else (X d 5 13 (lI L 12 r1.1.2) r3.2.1))))) := rfl
theorem t_X5_iters_13 (X : Nat → Nat → Nat → LV → CS → Option RS) (K d : Nat) (L : LV) (σ : CS) : t_X5_iters X K d 13 L σ = (X d 5 14 (lI L 100 ((L.1 3))) σ) := rfl
theorem t_X5_iters_14 (X : Nat → Nat → Nat → LV → CS → Option RS) (K d : Nat) (L : LV) (σ : CS) : t_X5_iters X K d 14 L σ = (if ((L.1 9)) = 0 then (X d 5 15 (lI (lI (lI L 3 ((L.1 100))) 4 ((L.1 12))) 100 ((L.1 8))) σ) else (X d 5 16 (lI (lI (lI (lI L 3 ((L.1 100))) 4 ((L.1 12))) 100 ((L.1 10))) 101 ((L.1 8))) σ)) := rfl
theorem t_X5_iters_15 (X : Nat → Nat → Nat → LV → CS → Option RS) (K d : Nat) (L : LV) (σ : CS) : t_X5_iters X K d 15 L σ = (X d 5 16 (lI (lI L 100 0) 101 ((L.1 100))) σ) := rfl
theorem t_X5_iters_16 (X : Nat → Nat → Nat → LV → CS → Option RS) (K d : Nat) (L : LV) (σ : CS) : t_X5_iters X K d 16 L σ = (ox (f_X5_iterStore K 0 (lI (lI (lI lZ 1 ((L.1 101))) 2 ((L.1 100))) 3 ((L.1 1))) σ) (fun r1 => X d 5 17 (lI L 13 ((L.1 7))) r1.2.1)) := rfl
theorem t_X5_iters_17 (X : Nat → Nat → Nat → LV → CS → Option RS) (K d : Nat) (L : LV) (σ : CS) : t_X5_iters X K d 17 L σ = (oP (sPp σ) (fun b1 => if ((σ.1 (fP b1 11))) ≤ ((L.1 13)) then (X d 5 18 L σ) else (oP (sPp σ) (fun b3 => if ¬ (((L.1 13)) < 0 ∨ 256 ≤ ((L.1 13)).toNatClampNeg) then (X d 5 17 (lI L 13 ((((L.1 13)) + 1))) (uA σ (pR10 b3) ((L.1 13)).toNatClampNeg (vp_nar .boolean 0))) else none)))) := rfl
theorem t_X5_iters_18 (X : Nat → Nat → Nat → LV → CS → Option RS) (K d : Nat) (L : LV) (σ : CS) : t_X5_iters X K d 18 L σ = (if ((L.1 1)) = 0 then (X d 5 19 L σ) else (ox (f_X5_mark K 0 (lI lZ 1 ((L.1 11))) σ) (fun r2 => ox (f_X5_mark K 0 (lI lZ 1 ((L.1 8))) r2.2.1) (fun r3 => ox (f_X5_mark K 0 (lI lZ 1 ((L.1 10))) r3.2.1) (fun r4 => X d 5 19 L r4.2.1))))) := rfl
theorem t_X5_iters_19 (X : Nat → Nat → Nat → LV → CS → Option RS) (K d : Nat) (L : LV) (σ : CS) : t_X5_iters X K d 19 L σ = (if ((σ.1 3702)) = 16 then (X d 5 21 (lI L 100 1) σ) else (X d 5 20 L σ)) := rfl
theorem t_X5_iters_20 (X : Nat → Nat → Nat → LV → CS → Option RS) (K d : Nat) (L : LV) (σ : CS) : t_X5_iters X K d 20 L σ = (X d 5 21 (lI L 100 0) σ) := rfl
theorem t_X5_iters_21 (X : Nat → Nat → Nat → LV → CS → Option RS) (K d : Nat) (L : LV) (σ : CS) : t_X5_iters X K d 21 L σ = (if ((L.1 100)) = 0 then (X d 5 22 (lI L 5 ((L.1 100))) σ) else (ox (f_X2_advance K 0 lZ σ) (fun r2 => X d 5 22 (lI L 5 ((L.1 100))) r2.2.1))) := rfl
theorem t_X5_iters_22 (X : Nat → Nat → Nat → LV → CS → Option RS) (K d : Nat) (L : LV) (σ : CS) : t_X5_iters X K d 22 L σ = (X d 5 1 (lI L 6 ((((L.1 6)) + 1))) σ) := rfl
def t_X5_members (X : Nat → Nat → Nat → LV → CS → Option RS) (K d : Nat) (b : Nat) (L : LV) (σ : CS) : Option RS := match b with
  | 0 => X d 6 1 (lI (lI L 2 1) 3 0) σ
  | 1 => if 32768 < ((L.1 3)) then (X d 6 2 L σ) else (if ((σ.1 3702)) = 16 then (ox (f_X2_advance K 0 lZ σ) (fun r3 => if ((L.1 2)) = 1000 then (oP (sPp r3.2.1) (fun b5 => ox (f_X7_emit__P K 0 (lI (lI (lB lZ 0 b5) 1 ((85 + ((L.1 1))))) 2 ((L.1 2))) r3.2.1) (fun r6 => X d 6 3 L r6.2.1))) else (X d 6 3 L r3.2.1))) else (X d 6 2 L σ))
  | 2 => oP (sPp σ) (fun b1 => if ((L.1 2)) ≤ 1000 then (X d 6 4 (lB L 100 b1) σ) else (X d 6 5 (lB (lI L 100 ((83 + ((L.1 1))))) 101 b1) σ))
  | 3 => of d (fun e1 => ox (X e1 1 0 (lI lZ 1 0) σ) (fun r1 => if ((((L.1 2)) + 1)) ≤ 1000 then (X d 6 6 (lI L 2 ((((L.1 2)) + 1))) r1.2.1) else (oP (sPp r1.2.1) (fun b3 => ox (f_X7_emit__P K 0 (lI (lI (lB lZ 0 b3) 1 ((81 + ((L.1 1))))) 2 1) r1.2.1) (fun r4 => X d 6 6 (lI L 2 ((((L.1 2)) + 1))) r4.2.1)))))
  | 4 => X d 6 5 (lB (lI L 100 ((48 + ((L.1 1))))) 101 ((L.2.2.1 100))) σ
  | 5 => ox (f_X7_emit__P K 0 (lI (lI (lB lZ 0 ((L.2.2.1 101))) 1 ((L.1 100))) 2 ((L.1 2))) σ) (fun r1 => some ((0, 0), r1.2.1, (0, 0)))
  | 6 => if ((L.1 2)) = 2 then (if ((σ.1 3702)) = 28 then (ox (f_X2_advance K 0 lZ σ) (fun r3 => of d (fun e4 => ox (X e4 1 0 (lI lZ 1 0) r3.2.1) (fun r4 => oP (sPp r4.2.1) (fun b5 => ox (f_X7_emit__P K 0 (lI (lI (lB lZ 0 b5) 1 ((52 + ((L.1 1))))) 2 0) r4.2.1) (fun r6 => some ((0, 0), r6.2.1, (0, 0)))))))) else (X d 6 7 L σ)) else (X d 6 7 L σ)
  | 7 => X d 6 1 (lI L 3 ((((L.1 3)) + 1))) σ
  | _ => none
theorem t_X5_members_0 (X : Nat → Nat → Nat → LV → CS → Option RS) (K d : Nat) (L : LV) (σ : CS) : t_X5_members X K d 0 L σ = (X d 6 1 (lI (lI L 2 1) 3 0) σ) := rfl
theorem t_X5_members_1 (X : Nat → Nat → Nat → LV → CS → Option RS) (K d : Nat) (L : LV) (σ : CS) : t_X5_members X K d 1 L σ = (if 32768 < ((L.1 3)) then (X d 6 2 L σ) else (if ((σ.1 3702)) = 16 then (ox (f_X2_advance K 0 lZ σ) (fun r3 => if ((L.1 2)) = 1000 then (oP (sPp r3.2.1) (fun b5 => ox (f_X7_emit__P K 0 (lI (lI (lB lZ 0 b5) 1 ((85 + ((L.1 1))))) 2 ((L.1 2))) r3.2.1) (fun r6 => X d 6 3 L r6.2.1))) else (X d 6 3 L r3.2.1))) else (X d 6 2 L σ))) := rfl
theorem t_X5_members_2 (X : Nat → Nat → Nat → LV → CS → Option RS) (K d : Nat) (L : LV) (σ : CS) : t_X5_members X K d 2 L σ = (oP (sPp σ) (fun b1 => if ((L.1 2)) ≤ 1000 then (X d 6 4 (lB L 100 b1) σ) else (X d 6 5 (lB (lI L 100 ((83 + ((L.1 1))))) 101 b1) σ))) := rfl
theorem t_X5_members_3 (X : Nat → Nat → Nat → LV → CS → Option RS) (K d : Nat) (L : LV) (σ : CS) : t_X5_members X K d 3 L σ = (of d (fun e1 => ox (X e1 1 0 (lI lZ 1 0) σ) (fun r1 => if ((((L.1 2)) + 1)) ≤ 1000 then (X d 6 6 (lI L 2 ((((L.1 2)) + 1))) r1.2.1) else (oP (sPp r1.2.1) (fun b3 => ox (f_X7_emit__P K 0 (lI (lI (lB lZ 0 b3) 1 ((81 + ((L.1 1))))) 2 1) r1.2.1) (fun r4 => X d 6 6 (lI L 2 ((((L.1 2)) + 1))) r4.2.1)))))) := rfl
theorem t_X5_members_4 (X : Nat → Nat → Nat → LV → CS → Option RS) (K d : Nat) (L : LV) (σ : CS) : t_X5_members X K d 4 L σ = (X d 6 5 (lB (lI L 100 ((48 + ((L.1 1))))) 101 ((L.2.2.1 100))) σ) := rfl
theorem t_X5_members_5 (X : Nat → Nat → Nat → LV → CS → Option RS) (K d : Nat) (L : LV) (σ : CS) : t_X5_members X K d 5 L σ = (ox (f_X7_emit__P K 0 (lI (lI (lB lZ 0 ((L.2.2.1 101))) 1 ((L.1 100))) 2 ((L.1 2))) σ) (fun r1 => some ((0, 0), r1.2.1, (0, 0)))) := rfl
theorem t_X5_members_6 (X : Nat → Nat → Nat → LV → CS → Option RS) (K d : Nat) (L : LV) (σ : CS) : t_X5_members X K d 6 L σ = (if ((L.1 2)) = 2 then (if ((σ.1 3702)) = 28 then (ox (f_X2_advance K 0 lZ σ) (fun r3 => of d (fun e4 => ox (X e4 1 0 (lI lZ 1 0) r3.2.1) (fun r4 => oP (sPp r4.2.1) (fun b5 => ox (f_X7_emit__P K 0 (lI (lI (lB lZ 0 b5) 1 ((52 + ((L.1 1))))) 2 0) r4.2.1) (fun r6 => some ((0, 0), r6.2.1, (0, 0)))))))) else (X d 6 7 L σ)) else (X d 6 7 L σ)) := rfl
theorem t_X5_members_7 (X : Nat → Nat → Nat → LV → CS → Option RS) (K d : Nat) (L : LV) (σ : CS) : t_X5_members X K d 7 L σ = (X d 6 1 (lI L 3 ((((L.1 3)) + 1))) σ) := rfl
def t_X5_named (X : Nat → Nat → Nat → LV → CS → Option RS) (K d : Nat) (b : Nat) (L : LV) (σ : CS) : Option RS := match b with
  | 0 => ox (f_X5_takenName K 0 lZ σ) (fun r1 => if r1.1.2 = ((-1)) then (X d 7 2 (lI (lI (lI L 1 ((σ.1 3703))) 2 r1.1.2) 100 2) r1.2.1) else (X d 7 1 (lI (lI L 1 ((σ.1 3703))) 2 r1.1.2) r1.2.1))
  | 1 => oP (sPp σ) (fun b1 => if ¬ (((L.1 2)) < 0 ∨ 256 ≤ ((L.1 2)).toNatClampNeg) then (X d 7 2 (lI L 100 ((σ.2.2.1 (pR7 b1) ((L.1 2)).toNatClampNeg))) σ) else none)
  | 2 => if ((L.1 100)) = 2 then (X d 7 3 (lI L 3 ((L.1 100))) σ) else (if ((L.1 100)) = 1 then (if ((σ.1 3702)) = 10 then (X d 7 4 (lI L 3 ((L.1 100))) σ) else (X d 7 3 (lI L 3 ((L.1 100))) σ)) else (X d 7 4 (lI L 3 ((L.1 100))) σ))
  | 3 => ox (f_X5_refuse K 0 (lI (lI lZ 1 5) 2 ((L.1 1))) σ) (fun r1 => X d 7 4 L r1.2.1)
  | 4 => if ((L.1 3)) = 1 then (oP (sPp σ) (fun b2 => if ¬ (((L.1 2)) < 0 ∨ 256 ≤ ((L.1 2)).toNatClampNeg) then (of d (fun e4 => ox (X e4 4 0 (lI lZ 1 ((σ.2.2.1 (pR9 b2) ((L.1 2)).toNatClampNeg))) σ) (fun r4 => some ((0, (-1)), r4.2.1, (0, 0))))) else none)) else (X d 7 5 L σ)
  | 5 => if ((L.1 3)) = 3 then (X d 7 7 (lI L 100 41) σ) else (X d 7 6 L σ)
  | 6 => X d 7 7 (lI L 100 35) σ
  | 7 => oP (sPp σ) (fun b1 => oP (sPp σ) (fun b2 => if ¬ (((L.1 2)) < 0 ∨ 256 ≤ ((L.1 2)).toNatClampNeg) then (if ((σ.2.2.1 (pR8 b2) ((L.1 2)).toNatClampNeg)) = ((σ.1 4003)) then (X d 7 9 (lB (lI L 100 ((L.1 100))) 101 b1) σ) else (X d 7 8 (lB L 100 b1) σ)) else none))
  | 8 => X d 7 9 (lB (lI L 100 36) 101 ((L.2.2.1 100))) σ
  | 9 => oP (sPp σ) (fun b1 => if ¬ (((L.1 2)) < 0 ∨ 256 ≤ ((L.1 2)).toNatClampNeg) then (ox (f_X7_emit__P K 0 (lI (lI (lB lZ 0 ((L.2.2.1 101))) 1 ((L.1 100))) 2 ((σ.2.2.1 (pR9 b1) ((L.1 2)).toNatClampNeg))) σ) (fun r3 => some ((0, (L.1 2)), r3.2.1, (0, 0)))) else none)
  | _ => none
theorem t_X5_named_0 (X : Nat → Nat → Nat → LV → CS → Option RS) (K d : Nat) (L : LV) (σ : CS) : t_X5_named X K d 0 L σ = (ox (f_X5_takenName K 0 lZ σ) (fun r1 => if r1.1.2 = ((-1)) then (X d 7 2 (lI (lI (lI L 1 ((σ.1 3703))) 2 r1.1.2) 100 2) r1.2.1) else (X d 7 1 (lI (lI L 1 ((σ.1 3703))) 2 r1.1.2) r1.2.1))) := rfl
theorem t_X5_named_1 (X : Nat → Nat → Nat → LV → CS → Option RS) (K d : Nat) (L : LV) (σ : CS) : t_X5_named X K d 1 L σ = (oP (sPp σ) (fun b1 => if ¬ (((L.1 2)) < 0 ∨ 256 ≤ ((L.1 2)).toNatClampNeg) then (X d 7 2 (lI L 100 ((σ.2.2.1 (pR7 b1) ((L.1 2)).toNatClampNeg))) σ) else none)) := rfl
theorem t_X5_named_2 (X : Nat → Nat → Nat → LV → CS → Option RS) (K d : Nat) (L : LV) (σ : CS) : t_X5_named X K d 2 L σ = (if ((L.1 100)) = 2 then (X d 7 3 (lI L 3 ((L.1 100))) σ) else (if ((L.1 100)) = 1 then (if ((σ.1 3702)) = 10 then (X d 7 4 (lI L 3 ((L.1 100))) σ) else (X d 7 3 (lI L 3 ((L.1 100))) σ)) else (X d 7 4 (lI L 3 ((L.1 100))) σ))) := rfl
theorem t_X5_named_3 (X : Nat → Nat → Nat → LV → CS → Option RS) (K d : Nat) (L : LV) (σ : CS) : t_X5_named X K d 3 L σ = (ox (f_X5_refuse K 0 (lI (lI lZ 1 5) 2 ((L.1 1))) σ) (fun r1 => X d 7 4 L r1.2.1)) := rfl
theorem t_X5_named_4 (X : Nat → Nat → Nat → LV → CS → Option RS) (K d : Nat) (L : LV) (σ : CS) : t_X5_named X K d 4 L σ = (if ((L.1 3)) = 1 then (oP (sPp σ) (fun b2 => if ¬ (((L.1 2)) < 0 ∨ 256 ≤ ((L.1 2)).toNatClampNeg) then (of d (fun e4 => ox (X e4 4 0 (lI lZ 1 ((σ.2.2.1 (pR9 b2) ((L.1 2)).toNatClampNeg))) σ) (fun r4 => some ((0, (-1)), r4.2.1, (0, 0))))) else none)) else (X d 7 5 L σ)) := rfl
theorem t_X5_named_5 (X : Nat → Nat → Nat → LV → CS → Option RS) (K d : Nat) (L : LV) (σ : CS) : t_X5_named X K d 5 L σ = (if ((L.1 3)) = 3 then (X d 7 7 (lI L 100 41) σ) else (X d 7 6 L σ)) := rfl
theorem t_X5_named_6 (X : Nat → Nat → Nat → LV → CS → Option RS) (K d : Nat) (L : LV) (σ : CS) : t_X5_named X K d 6 L σ = (X d 7 7 (lI L 100 35) σ) := rfl
theorem t_X5_named_7 (X : Nat → Nat → Nat → LV → CS → Option RS) (K d : Nat) (L : LV) (σ : CS) : t_X5_named X K d 7 L σ = (oP (sPp σ) (fun b1 => oP (sPp σ) (fun b2 => if ¬ (((L.1 2)) < 0 ∨ 256 ≤ ((L.1 2)).toNatClampNeg) then (if ((σ.2.2.1 (pR8 b2) ((L.1 2)).toNatClampNeg)) = ((σ.1 4003)) then (X d 7 9 (lB (lI L 100 ((L.1 100))) 101 b1) σ) else (X d 7 8 (lB L 100 b1) σ)) else none))) := rfl
theorem t_X5_named_8 (X : Nat → Nat → Nat → LV → CS → Option RS) (K d : Nat) (L : LV) (σ : CS) : t_X5_named X K d 8 L σ = (X d 7 9 (lB (lI L 100 36) 101 ((L.2.2.1 100))) σ) := rfl
theorem t_X5_named_9 (X : Nat → Nat → Nat → LV → CS → Option RS) (K d : Nat) (L : LV) (σ : CS) : t_X5_named X K d 9 L σ = (oP (sPp σ) (fun b1 => if ¬ (((L.1 2)) < 0 ∨ 256 ≤ ((L.1 2)).toNatClampNeg) then (ox (f_X7_emit__P K 0 (lI (lI (lB lZ 0 ((L.2.2.1 101))) 1 ((L.1 100))) 2 ((σ.2.2.1 (pR9 b1) ((L.1 2)).toNatClampNeg))) σ) (fun r3 => some ((0, (L.1 2)), r3.2.1, (0, 0)))) else none)) := rfl
def t_X5_operand (X : Nat → Nat → Nat → LV → CS → Option RS) (K d : Nat) (b : Nat) (L : LV) (σ : CS) : Option RS := match b with
  | 0 => of d (fun e1 => ox (X e1 10 0 lZ σ) (fun r1 => X d 8 1 (lI (lI (lI (lI (lI L 1 ((σ.1 3703))) 2 ((σ.1 4011))) 3 r1.1.2) 4 0) 5 0) r1.2.1))
  | 1 => if 32768 < ((L.1 5)) then (X d 8 2 L σ) else (if ((σ.1 3702)) = 10 then (X d 8 3 L σ) else (if ((σ.1 3702)) = 12 then (X d 8 3 L σ) else (X d 8 2 L σ)))
  | 2 => if ((L.1 3)) = ((-1)) then (X d 8 5 (lI L 100 ((-1))) σ) else (X d 8 4 L σ)
  | 3 => oP (sPp σ) (fun b1 => of d (fun e2 => ox (X e2 9 0 lZ σ) (fun r2 => ox (f_X5_mark K 0 (lI lZ 1 ((σ.1 (fP b1 1)))) r2.2.1) (fun r3 => oP (sPp r3.2.1) (fun b4 => ox (f_X5_mark K 0 (lI lZ 1 ((r3.2.1.1 (fP b4 1)))) r3.2.1) (fun r5 => ox (f_X5_mark K 0 (lI lZ 1 r2.1.2) r5.2.1) (fun r6 => oP (sPp r6.2.1) (fun b7 => ox (f_X7_emit__P K 0 (lI (lI (lB lZ 0 b7) 1 r2.1.2) 2 0) r6.2.1) (fun r8 => X d 8 1 (lI (lI L 4 ((((L.1 4)) + 1))) 5 ((((L.1 5)) + 1))) r8.2.1)))))))))
  | 4 => X d 8 5 (lI L 100 ((L.1 1))) σ
  | 5 => oP (sPp (uI σ 4016 ((L.1 100)))) (fun b1 => X d 8 6 L (uI (uI (uI σ 4016 ((L.1 100))) 4017 (((uI σ 4016 ((L.1 100))).1 (fP b1 1)))) 4018 ((L.1 2))))
  | 6 => X d 8 7 L (uI (uI (uI σ 4019 ((L.1 4))) 4020 ((L.1 3))) 4011 ((L.1 2)))
  | 7 => some ((0, 0), σ, (0, 0))
  | _ => none
theorem t_X5_operand_0 (X : Nat → Nat → Nat → LV → CS → Option RS) (K d : Nat) (L : LV) (σ : CS) : t_X5_operand X K d 0 L σ = (of d (fun e1 => ox (X e1 10 0 lZ σ) (fun r1 => X d 8 1 (lI (lI (lI (lI (lI L 1 ((σ.1 3703))) 2 ((σ.1 4011))) 3 r1.1.2) 4 0) 5 0) r1.2.1))) := rfl
theorem t_X5_operand_1 (X : Nat → Nat → Nat → LV → CS → Option RS) (K d : Nat) (L : LV) (σ : CS) : t_X5_operand X K d 1 L σ = (if 32768 < ((L.1 5)) then (X d 8 2 L σ) else (if ((σ.1 3702)) = 10 then (X d 8 3 L σ) else (if ((σ.1 3702)) = 12 then (X d 8 3 L σ) else (X d 8 2 L σ)))) := rfl
theorem t_X5_operand_2 (X : Nat → Nat → Nat → LV → CS → Option RS) (K d : Nat) (L : LV) (σ : CS) : t_X5_operand X K d 2 L σ = (if ((L.1 3)) = ((-1)) then (X d 8 5 (lI L 100 ((-1))) σ) else (X d 8 4 L σ)) := rfl
theorem t_X5_operand_3 (X : Nat → Nat → Nat → LV → CS → Option RS) (K d : Nat) (L : LV) (σ : CS) : t_X5_operand X K d 3 L σ = (oP (sPp σ) (fun b1 => of d (fun e2 => ox (X e2 9 0 lZ σ) (fun r2 => ox (f_X5_mark K 0 (lI lZ 1 ((σ.1 (fP b1 1)))) r2.2.1) (fun r3 => oP (sPp r3.2.1) (fun b4 => ox (f_X5_mark K 0 (lI lZ 1 ((r3.2.1.1 (fP b4 1)))) r3.2.1) (fun r5 => ox (f_X5_mark K 0 (lI lZ 1 r2.1.2) r5.2.1) (fun r6 => oP (sPp r6.2.1) (fun b7 => ox (f_X7_emit__P K 0 (lI (lI (lB lZ 0 b7) 1 r2.1.2) 2 0) r6.2.1) (fun r8 => X d 8 1 (lI (lI L 4 ((((L.1 4)) + 1))) 5 ((((L.1 5)) + 1))) r8.2.1)))))))))) := rfl
theorem t_X5_operand_4 (X : Nat → Nat → Nat → LV → CS → Option RS) (K d : Nat) (L : LV) (σ : CS) : t_X5_operand X K d 4 L σ = (X d 8 5 (lI L 100 ((L.1 1))) σ) := rfl
theorem t_X5_operand_5 (X : Nat → Nat → Nat → LV → CS → Option RS) (K d : Nat) (L : LV) (σ : CS) : t_X5_operand X K d 5 L σ = (oP (sPp (uI σ 4016 ((L.1 100)))) (fun b1 => X d 8 6 L (uI (uI (uI σ 4016 ((L.1 100))) 4017 (((uI σ 4016 ((L.1 100))).1 (fP b1 1)))) 4018 ((L.1 2))))) := rfl
theorem t_X5_operand_6 (X : Nat → Nat → Nat → LV → CS → Option RS) (K d : Nat) (L : LV) (σ : CS) : t_X5_operand X K d 6 L σ = (X d 8 7 L (uI (uI (uI σ 4019 ((L.1 4))) 4020 ((L.1 3))) 4011 ((L.1 2)))) := rfl
theorem t_X5_operand_7 (X : Nat → Nat → Nat → LV → CS → Option RS) (K d : Nat) (L : LV) (σ : CS) : t_X5_operand X K d 7 L σ = (some ((0, 0), σ, (0, 0))) := rfl
def t_X5_part (X : Nat → Nat → Nat → LV → CS → Option RS) (K d : Nat) (b : Nat) (L : LV) (σ : CS) : Option RS := match b with
  | 0 => if ((σ.1 3702)) = 12 then (ox (f_X5_opens K 0 lZ σ) (fun r2 => of d (fun e3 => ox (X e3 1 0 (lI lZ 1 0) r2.2.1) (fun r3 => ox (f_X5_closes K 0 (lI lZ 1 13) r3.2.1) (fun r4 => some ((0, 98), r4.2.1, (0, 0))))))) else (X d 9 1 (lI L 1 96) σ)
  | 1 => ox (f_X5_opens K 0 lZ σ) (fun r1 => of d (fun e2 => ox (X e2 1 0 (lI lZ 1 0) r1.2.1) (fun r2 => if ((r2.2.1.1 3702)) = 28 then (ox (f_X2_advance K 0 lZ r2.2.1) (fun r4 => of d (fun e5 => ox (X e5 1 0 (lI lZ 1 0) r4.2.1) (fun r5 => X d 9 2 (lI L 1 97) r5.2.1)))) else (X d 9 2 L r2.2.1))))
  | 2 => ox (f_X5_closes K 0 (lI lZ 1 11) σ) (fun r1 => some ((0, (L.1 1)), r1.2.1, (0, 0)))
  | _ => none
theorem t_X5_part_0 (X : Nat → Nat → Nat → LV → CS → Option RS) (K d : Nat) (L : LV) (σ : CS) : t_X5_part X K d 0 L σ = (if ((σ.1 3702)) = 12 then (ox (f_X5_opens K 0 lZ σ) (fun r2 => of d (fun e3 => ox (X e3 1 0 (lI lZ 1 0) r2.2.1) (fun r3 => ox (f_X5_closes K 0 (lI lZ 1 13) r3.2.1) (fun r4 => some ((0, 98), r4.2.1, (0, 0))))))) else (X d 9 1 (lI L 1 96) σ)) := rfl
theorem t_X5_part_1 (X : Nat → Nat → Nat → LV → CS → Option RS) (K d : Nat) (L : LV) (σ : CS) : t_X5_part X K d 1 L σ = (ox (f_X5_opens K 0 lZ σ) (fun r1 => of d (fun e2 => ox (X e2 1 0 (lI lZ 1 0) r1.2.1) (fun r2 => if ((r2.2.1.1 3702)) = 28 then (ox (f_X2_advance K 0 lZ r2.2.1) (fun r4 => of d (fun e5 => ox (X e5 1 0 (lI lZ 1 0) r4.2.1) (fun r5 => X d 9 2 (lI L 1 97) r5.2.1)))) else (X d 9 2 L r2.2.1))))) := rfl
theorem t_X5_part_2 (X : Nat → Nat → Nat → LV → CS → Option RS) (K d : Nat) (L : LV) (σ : CS) : t_X5_part X K d 2 L σ = (ox (f_X5_closes K 0 (lI lZ 1 11) σ) (fun r1 => some ((0, (L.1 1)), r1.2.1, (0, 0)))) := rfl
def t_X5_primary (X : Nat → Nat → Nat → LV → CS → Option RS) (K d : Nat) (b : Nat) (L : LV) (σ : CS) : Option RS := match b with
  | 0 => if ((σ.1 3702)) = (2 : Int32) then (X d 10 1 L σ) else (if ((σ.1 3702)) = (3 : Int32) then (X d 10 2 L σ) else (if ((σ.1 3702)) = (4 : Int32) then (X d 10 3 L σ) else (if ((σ.1 3702)) = (10 : Int32) then (X d 10 4 L σ) else (if ((σ.1 3702)) = (12 : Int32) then (X d 10 5 L σ) else (if ((σ.1 3702)) = (14 : Int32) then (X d 10 6 L σ) else (if ((σ.1 3702)) = (39 : Int32) then (X d 10 7 L σ) else (if ((σ.1 3702)) = (60 : Int32) then (X d 10 8 L σ) else (if ((σ.1 3702)) = (61 : Int32) then (X d 10 8 L σ) else (if ((σ.1 3702)) = (62 : Int32) then (X d 10 8 L σ) else (if ((σ.1 3702)) = (69 : Int32) then (X d 10 9 L σ) else (if ((σ.1 3702)) = (70 : Int32) then (X d 10 9 L σ) else (X d 10 10 L σ))))))))))))
  | 1 => of d (fun e1 => ox (X e1 7 0 lZ σ) (fun r1 => some ((0, r1.1.2), r1.2.1, (0, 0))))
  | 2 => ox (f_X5_number K 0 lZ σ) (fun r1 => X d 10 11 L r1.2.1)
  | 3 => ox (f_X5_string K 0 lZ σ) (fun r1 => X d 10 11 L r1.2.1)
  | 4 => ox (f_X5_opens K 0 lZ σ) (fun r1 => of d (fun e2 => ox (X e2 1 0 (lI lZ 1 0) r1.2.1) (fun r2 => ox (f_X5_closes K 0 (lI lZ 1 11) r2.2.1) (fun r3 => X d 10 11 L r3.2.1))))
  | 5 => of d (fun e1 => ox (X e1 12 0 (lI (lI lZ 1 13) 2 0) σ) (fun r1 => X d 10 11 L r1.2.1))
  | 6 => of d (fun e1 => ox (X e1 12 0 (lI (lI lZ 1 15) 2 1) σ) (fun r1 => X d 10 11 L r1.2.1))
  | 7 => of d (fun e1 => ox (X e1 0 0 lZ σ) (fun r1 => X d 10 11 L r1.2.1))
  | 8 => if ((σ.1 3702)) = 60 then (X d 10 13 (lI L 100 ((-2147483648))) σ) else (X d 10 12 L σ)
  | 9 => of d (fun e1 => ox (X e1 11 0 lZ σ) (fun r1 => X d 10 11 L r1.2.1))
  | 10 => of d (fun e1 => ox (X e1 13 0 lZ σ) (fun r1 => X d 10 11 L r1.2.1))
  | 11 => some ((0, (-1)), σ, (0, 0))
  | 12 => if ((σ.1 3702)) = 61 then (X d 10 15 (lI L 100 1) σ) else (X d 10 14 L σ)
  | 13 => ox (f_X5_push K 0 (lI lZ 1 ((L.1 100))) σ) (fun r1 => ox (f_X2_advance K 0 lZ r1.2.1) (fun r2 => X d 10 11 L r2.2.1))
  | 14 => X d 10 15 (lI L 100 0) σ
  | 15 => op (y_X11_truth K 0 (lI lZ 0 ((L.1 100))) σ) (fun r1 => X d 10 13 (lI L 100 r1.1) r1.2)
  | _ => none
theorem t_X5_primary_0 (X : Nat → Nat → Nat → LV → CS → Option RS) (K d : Nat) (L : LV) (σ : CS) : t_X5_primary X K d 0 L σ = (if ((σ.1 3702)) = (2 : Int32) then (X d 10 1 L σ) else (if ((σ.1 3702)) = (3 : Int32) then (X d 10 2 L σ) else (if ((σ.1 3702)) = (4 : Int32) then (X d 10 3 L σ) else (if ((σ.1 3702)) = (10 : Int32) then (X d 10 4 L σ) else (if ((σ.1 3702)) = (12 : Int32) then (X d 10 5 L σ) else (if ((σ.1 3702)) = (14 : Int32) then (X d 10 6 L σ) else (if ((σ.1 3702)) = (39 : Int32) then (X d 10 7 L σ) else (if ((σ.1 3702)) = (60 : Int32) then (X d 10 8 L σ) else (if ((σ.1 3702)) = (61 : Int32) then (X d 10 8 L σ) else (if ((σ.1 3702)) = (62 : Int32) then (X d 10 8 L σ) else (if ((σ.1 3702)) = (69 : Int32) then (X d 10 9 L σ) else (if ((σ.1 3702)) = (70 : Int32) then (X d 10 9 L σ) else (X d 10 10 L σ))))))))))))) := rfl
theorem t_X5_primary_1 (X : Nat → Nat → Nat → LV → CS → Option RS) (K d : Nat) (L : LV) (σ : CS) : t_X5_primary X K d 1 L σ = (of d (fun e1 => ox (X e1 7 0 lZ σ) (fun r1 => some ((0, r1.1.2), r1.2.1, (0, 0))))) := rfl
theorem t_X5_primary_2 (X : Nat → Nat → Nat → LV → CS → Option RS) (K d : Nat) (L : LV) (σ : CS) : t_X5_primary X K d 2 L σ = (ox (f_X5_number K 0 lZ σ) (fun r1 => X d 10 11 L r1.2.1)) := rfl
theorem t_X5_primary_3 (X : Nat → Nat → Nat → LV → CS → Option RS) (K d : Nat) (L : LV) (σ : CS) : t_X5_primary X K d 3 L σ = (ox (f_X5_string K 0 lZ σ) (fun r1 => X d 10 11 L r1.2.1)) := rfl
theorem t_X5_primary_4 (X : Nat → Nat → Nat → LV → CS → Option RS) (K d : Nat) (L : LV) (σ : CS) : t_X5_primary X K d 4 L σ = (ox (f_X5_opens K 0 lZ σ) (fun r1 => of d (fun e2 => ox (X e2 1 0 (lI lZ 1 0) r1.2.1) (fun r2 => ox (f_X5_closes K 0 (lI lZ 1 11) r2.2.1) (fun r3 => X d 10 11 L r3.2.1))))) := rfl
theorem t_X5_primary_5 (X : Nat → Nat → Nat → LV → CS → Option RS) (K d : Nat) (L : LV) (σ : CS) : t_X5_primary X K d 5 L σ = (of d (fun e1 => ox (X e1 12 0 (lI (lI lZ 1 13) 2 0) σ) (fun r1 => X d 10 11 L r1.2.1))) := rfl
theorem t_X5_primary_6 (X : Nat → Nat → Nat → LV → CS → Option RS) (K d : Nat) (L : LV) (σ : CS) : t_X5_primary X K d 6 L σ = (of d (fun e1 => ox (X e1 12 0 (lI (lI lZ 1 15) 2 1) σ) (fun r1 => X d 10 11 L r1.2.1))) := rfl
theorem t_X5_primary_7 (X : Nat → Nat → Nat → LV → CS → Option RS) (K d : Nat) (L : LV) (σ : CS) : t_X5_primary X K d 7 L σ = (of d (fun e1 => ox (X e1 0 0 lZ σ) (fun r1 => X d 10 11 L r1.2.1))) := rfl
theorem t_X5_primary_8 (X : Nat → Nat → Nat → LV → CS → Option RS) (K d : Nat) (L : LV) (σ : CS) : t_X5_primary X K d 8 L σ = (if ((σ.1 3702)) = 60 then (X d 10 13 (lI L 100 ((-2147483648))) σ) else (X d 10 12 L σ)) := rfl
theorem t_X5_primary_9 (X : Nat → Nat → Nat → LV → CS → Option RS) (K d : Nat) (L : LV) (σ : CS) : t_X5_primary X K d 9 L σ = (of d (fun e1 => ox (X e1 11 0 lZ σ) (fun r1 => X d 10 11 L r1.2.1))) := rfl
theorem t_X5_primary_10 (X : Nat → Nat → Nat → LV → CS → Option RS) (K d : Nat) (L : LV) (σ : CS) : t_X5_primary X K d 10 L σ = (of d (fun e1 => ox (X e1 13 0 lZ σ) (fun r1 => X d 10 11 L r1.2.1))) := rfl
theorem t_X5_primary_11 (X : Nat → Nat → Nat → LV → CS → Option RS) (K d : Nat) (L : LV) (σ : CS) : t_X5_primary X K d 11 L σ = (some ((0, (-1)), σ, (0, 0))) := rfl
theorem t_X5_primary_12 (X : Nat → Nat → Nat → LV → CS → Option RS) (K d : Nat) (L : LV) (σ : CS) : t_X5_primary X K d 12 L σ = (if ((σ.1 3702)) = 61 then (X d 10 15 (lI L 100 1) σ) else (X d 10 14 L σ)) := rfl
theorem t_X5_primary_13 (X : Nat → Nat → Nat → LV → CS → Option RS) (K d : Nat) (L : LV) (σ : CS) : t_X5_primary X K d 13 L σ = (ox (f_X5_push K 0 (lI lZ 1 ((L.1 100))) σ) (fun r1 => ox (f_X2_advance K 0 lZ r1.2.1) (fun r2 => X d 10 11 L r2.2.1))) := rfl
theorem t_X5_primary_14 (X : Nat → Nat → Nat → LV → CS → Option RS) (K d : Nat) (L : LV) (σ : CS) : t_X5_primary X K d 14 L σ = (X d 10 15 (lI L 100 0) σ) := rfl
theorem t_X5_primary_15 (X : Nat → Nat → Nat → LV → CS → Option RS) (K d : Nat) (L : LV) (σ : CS) : t_X5_primary X K d 15 L σ = (op (y_X11_truth K 0 (lI lZ 0 ((L.1 100))) σ) (fun r1 => X d 10 13 (lI L 100 r1.1) r1.2)) := rfl
def t_X5_quantifier (X : Nat → Nat → Nat → LV → CS → Option RS) (K d : Nat) (b : Nat) (L : LV) (σ : CS) : Option RS := match b with
  | 0 => if ((σ.1 3702)) = 69 then (X d 11 2 (lI L 100 1) σ) else (X d 11 1 L σ)
  | 1 => X d 11 2 (lI L 100 0) σ
  | 2 => ox (f_X5_opens K 0 lZ σ) (fun r1 => oP (sPp r1.2.1) (fun b2 => oP (sPp r1.2.1) (fun b3 => of d (fun e4 => ox (X e4 5 0 (lI lZ 1 0) r1.2.1) (fun r4 => ox (f_X5_expect K 0 (lI lZ 1 19) r4.2.1) (fun r5 => of d (fun e6 => ox (X e6 1 0 (lI lZ 1 0) r5.2.1) (fun r6 => oP (sPp (uI r6.2.1 4005 ((((r6.2.1.1 4005)) - 1)))) (fun b7 => oP (sPp (uI r6.2.1 4005 ((((r6.2.1.1 4005)) - 1)))) (fun b8 => if ((L.1 100)) = 0 then (X d 11 3 (lB (lB (lI (lI (lI (lI (lI L 1 ((L.1 100))) 2 ((r1.2.1.1 (fP b2 11)))) 3 ((r1.2.1.1 (fP b3 19)))) 4 ((r4.2.1.1 4014))) 5 ((r4.2.1.1 4015))) 100 b8) 101 b7) (uI r6.2.1 4005 ((((r6.2.1.1 4005)) - 1)))) else (X d 11 4 (lB (lB (lI (lI (lI (lI (lI (lI L 1 ((L.1 100))) 2 ((r1.2.1.1 (fP b2 11)))) 3 ((r1.2.1.1 (fP b3 19)))) 4 ((r4.2.1.1 4014))) 5 ((r4.2.1.1 4015))) 100 4) 101 b8) 102 b7) (uI r6.2.1 4005 ((((r6.2.1.1 4005)) - 1))))))))))))))
  | 3 => X d 11 4 (lB (lB (lI L 100 5) 101 ((L.2.2.1 100))) 102 ((L.2.2.1 101))) σ
  | 4 => ox (f_X7_emit__P K 0 (lI (lI (lB lZ 0 ((L.2.2.1 101))) 1 ((L.1 100))) 2 0) σ) (fun r1 => op (y_X7_aim__P K 0 (lI (lI (lB lZ 0 ((L.2.2.1 102))) 1 r1.1.2) 2 ((L.1 5))) r1.2.1) (fun r2 => op (y_X11_truth K 0 (lI lZ 0 ((L.1 1))) r2.2) (fun r3 => ox (f_X5_push K 0 (lI lZ 1 r3.1) r3.2) (fun r4 => oP (sPp r4.2.1) (fun b5 => ox (f_X7_emit__P K 0 (lI (lI (lB lZ 0 b5) 1 3) 2 0) r4.2.1) (fun r6 => oP (sPp r6.2.1) (fun b7 => oP (sPp r6.2.1) (fun b8 => if ¬ (((((L.1 4)) + 1)) < 0 ∨ (sN r6.2.1 (pR0 ((sKd r6.2.1 b7)))) ≤ ((((L.1 4)) + 1)).toNatClampNeg) then (if ((L.1 1)) = 0 then (X d 11 6 (lI (lI L 6 r6.1.2) 100 1) (uA r6.2.1 (pR0 ((sKd r6.2.1 b7))) ((((L.1 4)) + 1)).toNatClampNeg ((((r6.2.1.1 (fP b8 1))) - ((L.1 4)))))) else (X d 11 5 (lI L 6 r6.1.2) (uA r6.2.1 (pR0 ((sKd r6.2.1 b7))) ((((L.1 4)) + 1)).toNatClampNeg ((((r6.2.1.1 (fP b8 1))) - ((L.1 4))))))) else none))))))))
  | 5 => X d 11 6 (lI L 100 0) σ
  | 6 => op (y_X11_truth K 0 (lI lZ 0 ((L.1 100))) σ) (fun r1 => ox (f_X5_push K 0 (lI lZ 1 r1.1) r1.2) (fun r2 => oP (sPp r2.2.1) (fun b3 => oP (sPp r2.2.1) (fun b4 => op (y_X7_aim__P K 0 (lI (lI (lB lZ 0 b3) 1 ((L.1 6))) 2 ((r2.2.1.1 (fP b4 1)))) r2.2.1) (fun r5 => ox (f_X5_clear K 0 (lI lZ 1 ((L.1 3))) r5.2) (fun r6 => oP (sPp r6.2.1) (fun b7 => ox (f_X7_emit__P K 0 (lI (lI (lB lZ 0 b7) 1 40) 2 0) r6.2.1) (fun r8 => oP (sPp r8.2.1) (fun b9 => some ((0, 0), (uI r8.2.1 (fP b9 11) ((L.1 2))), (0, 0)))))))))))
  | _ => none
theorem t_X5_quantifier_0 (X : Nat → Nat → Nat → LV → CS → Option RS) (K d : Nat) (L : LV) (σ : CS) : t_X5_quantifier X K d 0 L σ = (if ((σ.1 3702)) = 69 then (X d 11 2 (lI L 100 1) σ) else (X d 11 1 L σ)) := rfl
theorem t_X5_quantifier_1 (X : Nat → Nat → Nat → LV → CS → Option RS) (K d : Nat) (L : LV) (σ : CS) : t_X5_quantifier X K d 1 L σ = (X d 11 2 (lI L 100 0) σ) := rfl
theorem t_X5_quantifier_2 (X : Nat → Nat → Nat → LV → CS → Option RS) (K d : Nat) (L : LV) (σ : CS) : t_X5_quantifier X K d 2 L σ = (ox (f_X5_opens K 0 lZ σ) (fun r1 => oP (sPp r1.2.1) (fun b2 => oP (sPp r1.2.1) (fun b3 => of d (fun e4 => ox (X e4 5 0 (lI lZ 1 0) r1.2.1) (fun r4 => ox (f_X5_expect K 0 (lI lZ 1 19) r4.2.1) (fun r5 => of d (fun e6 => ox (X e6 1 0 (lI lZ 1 0) r5.2.1) (fun r6 => oP (sPp (uI r6.2.1 4005 ((((r6.2.1.1 4005)) - 1)))) (fun b7 => oP (sPp (uI r6.2.1 4005 ((((r6.2.1.1 4005)) - 1)))) (fun b8 => if ((L.1 100)) = 0 then (X d 11 3 (lB (lB (lI (lI (lI (lI (lI L 1 ((L.1 100))) 2 ((r1.2.1.1 (fP b2 11)))) 3 ((r1.2.1.1 (fP b3 19)))) 4 ((r4.2.1.1 4014))) 5 ((r4.2.1.1 4015))) 100 b8) 101 b7) (uI r6.2.1 4005 ((((r6.2.1.1 4005)) - 1)))) else (X d 11 4 (lB (lB (lI (lI (lI (lI (lI (lI L 1 ((L.1 100))) 2 ((r1.2.1.1 (fP b2 11)))) 3 ((r1.2.1.1 (fP b3 19)))) 4 ((r4.2.1.1 4014))) 5 ((r4.2.1.1 4015))) 100 4) 101 b8) 102 b7) (uI r6.2.1 4005 ((((r6.2.1.1 4005)) - 1))))))))))))))) := rfl
theorem t_X5_quantifier_3 (X : Nat → Nat → Nat → LV → CS → Option RS) (K d : Nat) (L : LV) (σ : CS) : t_X5_quantifier X K d 3 L σ = (X d 11 4 (lB (lB (lI L 100 5) 101 ((L.2.2.1 100))) 102 ((L.2.2.1 101))) σ) := rfl
theorem t_X5_quantifier_4 (X : Nat → Nat → Nat → LV → CS → Option RS) (K d : Nat) (L : LV) (σ : CS) : t_X5_quantifier X K d 4 L σ = (ox (f_X7_emit__P K 0 (lI (lI (lB lZ 0 ((L.2.2.1 101))) 1 ((L.1 100))) 2 0) σ) (fun r1 => op (y_X7_aim__P K 0 (lI (lI (lB lZ 0 ((L.2.2.1 102))) 1 r1.1.2) 2 ((L.1 5))) r1.2.1) (fun r2 => op (y_X11_truth K 0 (lI lZ 0 ((L.1 1))) r2.2) (fun r3 => ox (f_X5_push K 0 (lI lZ 1 r3.1) r3.2) (fun r4 => oP (sPp r4.2.1) (fun b5 => ox (f_X7_emit__P K 0 (lI (lI (lB lZ 0 b5) 1 3) 2 0) r4.2.1) (fun r6 => oP (sPp r6.2.1) (fun b7 => oP (sPp r6.2.1) (fun b8 => if ¬ (((((L.1 4)) + 1)) < 0 ∨ (sN r6.2.1 (pR0 ((sKd r6.2.1 b7)))) ≤ ((((L.1 4)) + 1)).toNatClampNeg) then (if ((L.1 1)) = 0 then (X d 11 6 (lI (lI L 6 r6.1.2) 100 1) (uA r6.2.1 (pR0 ((sKd r6.2.1 b7))) ((((L.1 4)) + 1)).toNatClampNeg ((((r6.2.1.1 (fP b8 1))) - ((L.1 4)))))) else (X d 11 5 (lI L 6 r6.1.2) (uA r6.2.1 (pR0 ((sKd r6.2.1 b7))) ((((L.1 4)) + 1)).toNatClampNeg ((((r6.2.1.1 (fP b8 1))) - ((L.1 4))))))) else none))))))))) := rfl
theorem t_X5_quantifier_5 (X : Nat → Nat → Nat → LV → CS → Option RS) (K d : Nat) (L : LV) (σ : CS) : t_X5_quantifier X K d 5 L σ = (X d 11 6 (lI L 100 0) σ) := rfl
theorem t_X5_quantifier_6 (X : Nat → Nat → Nat → LV → CS → Option RS) (K d : Nat) (L : LV) (σ : CS) : t_X5_quantifier X K d 6 L σ = (op (y_X11_truth K 0 (lI lZ 0 ((L.1 100))) σ) (fun r1 => ox (f_X5_push K 0 (lI lZ 1 r1.1) r1.2) (fun r2 => oP (sPp r2.2.1) (fun b3 => oP (sPp r2.2.1) (fun b4 => op (y_X7_aim__P K 0 (lI (lI (lB lZ 0 b3) 1 ((L.1 6))) 2 ((r2.2.1.1 (fP b4 1)))) r2.2.1) (fun r5 => ox (f_X5_clear K 0 (lI lZ 1 ((L.1 3))) r5.2) (fun r6 => oP (sPp r6.2.1) (fun b7 => ox (f_X7_emit__P K 0 (lI (lI (lB lZ 0 b7) 1 40) 2 0) r6.2.1) (fun r8 => oP (sPp r8.2.1) (fun b9 => some ((0, 0), (uI r8.2.1 (fP b9 11) ((L.1 2))), (0, 0)))))))))))) := rfl
def t_X5_row (X : Nat → Nat → Nat → LV → CS → Option RS) (K d : Nat) (b : Nat) (L : LV) (σ : CS) : Option RS := match b with
  | 0 => ox (f_X5_opens K 0 lZ σ) (fun r1 => if ((r1.2.1.1 3702)) = 45 then (of d (fun e3 => ox (X e3 3 0 (lI lZ 1 ((L.1 2))) r1.2.1) (fun r3 => X d 12 2 L r3.2.1))) else (X d 12 1 L r1.2.1))
  | 1 => if ((σ.1 3702)) = ((L.1 1)) then (oP (sPp σ) (fun b2 => ox (f_X7_emit__P K 0 (lI (lI (lB lZ 0 b2) 1 ((48 + ((L.1 2))))) 2 0) σ) (fun r3 => X d 12 2 L r3.2.1))) else (X d 12 3 L σ)
  | 2 => ox (f_X5_closes K 0 (lI lZ 1 ((L.1 1))) σ) (fun r1 => some ((0, 0), r1.2.1, (0, 0)))
  | 3 => of d (fun e1 => ox (X e1 1 0 (lI lZ 1 0) σ) (fun r1 => if ((r1.2.1.1 3702)) = 28 then (ox (f_X2_advance K 0 lZ r1.2.1) (fun r3 => of d (fun e4 => ox (X e4 1 0 (lI lZ 1 0) r3.2.1) (fun r4 => oP (sPp r4.2.1) (fun b5 => ox (f_X7_emit__P K 0 (lI (lI (lB lZ 0 b5) 1 ((50 + ((L.1 2))))) 2 0) r4.2.1) (fun r6 => X d 12 2 L r6.2.1)))))) else (X d 12 4 L r1.2.1)))
  | 4 => of d (fun e1 => ox (X e1 6 0 (lI lZ 1 ((L.1 2))) σ) (fun r1 => X d 12 2 L r1.2.1))
  | _ => none
theorem t_X5_row_0 (X : Nat → Nat → Nat → LV → CS → Option RS) (K d : Nat) (L : LV) (σ : CS) : t_X5_row X K d 0 L σ = (ox (f_X5_opens K 0 lZ σ) (fun r1 => if ((r1.2.1.1 3702)) = 45 then (of d (fun e3 => ox (X e3 3 0 (lI lZ 1 ((L.1 2))) r1.2.1) (fun r3 => X d 12 2 L r3.2.1))) else (X d 12 1 L r1.2.1))) := rfl
theorem t_X5_row_1 (X : Nat → Nat → Nat → LV → CS → Option RS) (K d : Nat) (L : LV) (σ : CS) : t_X5_row X K d 1 L σ = (if ((σ.1 3702)) = ((L.1 1)) then (oP (sPp σ) (fun b2 => ox (f_X7_emit__P K 0 (lI (lI (lB lZ 0 b2) 1 ((48 + ((L.1 2))))) 2 0) σ) (fun r3 => X d 12 2 L r3.2.1))) else (X d 12 3 L σ)) := rfl
theorem t_X5_row_2 (X : Nat → Nat → Nat → LV → CS → Option RS) (K d : Nat) (L : LV) (σ : CS) : t_X5_row X K d 2 L σ = (ox (f_X5_closes K 0 (lI lZ 1 ((L.1 1))) σ) (fun r1 => some ((0, 0), r1.2.1, (0, 0)))) := rfl
theorem t_X5_row_3 (X : Nat → Nat → Nat → LV → CS → Option RS) (K d : Nat) (L : LV) (σ : CS) : t_X5_row X K d 3 L σ = (of d (fun e1 => ox (X e1 1 0 (lI lZ 1 0) σ) (fun r1 => if ((r1.2.1.1 3702)) = 28 then (ox (f_X2_advance K 0 lZ r1.2.1) (fun r3 => of d (fun e4 => ox (X e4 1 0 (lI lZ 1 0) r3.2.1) (fun r4 => oP (sPp r4.2.1) (fun b5 => ox (f_X7_emit__P K 0 (lI (lI (lB lZ 0 b5) 1 ((50 + ((L.1 2))))) 2 0) r4.2.1) (fun r6 => X d 12 2 L r6.2.1)))))) else (X d 12 4 L r1.2.1)))) := rfl
theorem t_X5_row_4 (X : Nat → Nat → Nat → LV → CS → Option RS) (K d : Nat) (L : LV) (σ : CS) : t_X5_row X K d 4 L σ = (of d (fun e1 => ox (X e1 6 0 (lI lZ 1 ((L.1 2))) σ) (fun r1 => X d 12 2 L r1.2.1))) := rfl
def t_X5_word (X : Nat → Nat → Nat → LV → CS → Option RS) (K d : Nat) (b : Nat) (L : LV) (σ : CS) : Option RS := match b with
  | 0 => if ((σ.1 3702)) = 84 then (if ((σ.1 4004)) < 1 then (X d 13 1 (lI L 1 ((σ.1 3702))) σ) else (X d 13 2 (lI (lI L 1 ((σ.1 3702))) 100 1) σ)) else (X d 13 1 (lI L 1 ((σ.1 3702))) σ)
  | 1 => X d 13 2 (lI L 100 0) σ
  | 2 => if ((L.1 1)) = 83 then (if ((σ.1 4004)) = 2 then (ox (f_X2_advance K 0 lZ σ) (fun r3 => oP (sPp r3.2.1) (fun b4 => ox (f_X7_emit__P K 0 (lI (lI (lB lZ 0 b4) 1 54) 2 0) r3.2.1) (fun r5 => some ((0, 0), r5.2.1, (0, 0)))))) else (X d 13 3 (lI L 2 ((L.1 100))) σ)) else (X d 13 3 (lI L 2 ((L.1 100))) σ)
  | 3 => op (y_X5_wordOp K 0 (lI lZ 0 ((L.1 1))) σ) (fun r1 => if r1.1 = ((-1)) then (if ((L.1 2)) = 0 then (ox (f_X5_refuse K 0 (lI (lI lZ 1 2) 2 ((r1.2.1 3703))) r1.2) (fun r4 => X d 13 4 (lI L 3 r1.1) r4.2.1)) else (X d 13 4 (lI L 3 r1.1) r1.2)) else (X d 13 4 (lI L 3 r1.1) r1.2))
  | 4 => ox (f_X2_advance K 0 lZ σ) (fun r1 => ox (f_X5_want K 0 (lI lZ 1 10) r1.2.1) (fun r2 => ox (f_X5_opens K 0 lZ r2.2.1) (fun r3 => of d (fun e4 => ox (X e4 1 0 (lI lZ 1 0) r3.2.1) (fun r4 => ox (f_X5_closes K 0 (lI lZ 1 11) r4.2.1) (fun r5 => oP (sPp r5.2.1) (fun b6 => if ((L.1 2)) = 0 then (X d 13 5 (lB L 100 b6) r5.2.1) else (X d 13 6 (lB (lI L 100 55) 101 b6) r5.2.1))))))))
  | 5 => X d 13 6 (lB (lI L 100 ((L.1 3))) 101 ((L.2.2.1 100))) σ
  | 6 => ox (f_X7_emit__P K 0 (lI (lI (lB lZ 0 ((L.2.2.1 101))) 1 ((L.1 100))) 2 0) σ) (fun r1 => some ((0, 0), r1.2.1, (0, 0)))
  | _ => none
theorem t_X5_word_0 (X : Nat → Nat → Nat → LV → CS → Option RS) (K d : Nat) (L : LV) (σ : CS) : t_X5_word X K d 0 L σ = (if ((σ.1 3702)) = 84 then (if ((σ.1 4004)) < 1 then (X d 13 1 (lI L 1 ((σ.1 3702))) σ) else (X d 13 2 (lI (lI L 1 ((σ.1 3702))) 100 1) σ)) else (X d 13 1 (lI L 1 ((σ.1 3702))) σ)) := rfl
theorem t_X5_word_1 (X : Nat → Nat → Nat → LV → CS → Option RS) (K d : Nat) (L : LV) (σ : CS) : t_X5_word X K d 1 L σ = (X d 13 2 (lI L 100 0) σ) := rfl
theorem t_X5_word_2 (X : Nat → Nat → Nat → LV → CS → Option RS) (K d : Nat) (L : LV) (σ : CS) : t_X5_word X K d 2 L σ = (if ((L.1 1)) = 83 then (if ((σ.1 4004)) = 2 then (ox (f_X2_advance K 0 lZ σ) (fun r3 => oP (sPp r3.2.1) (fun b4 => ox (f_X7_emit__P K 0 (lI (lI (lB lZ 0 b4) 1 54) 2 0) r3.2.1) (fun r5 => some ((0, 0), r5.2.1, (0, 0)))))) else (X d 13 3 (lI L 2 ((L.1 100))) σ)) else (X d 13 3 (lI L 2 ((L.1 100))) σ)) := rfl
theorem t_X5_word_3 (X : Nat → Nat → Nat → LV → CS → Option RS) (K d : Nat) (L : LV) (σ : CS) : t_X5_word X K d 3 L σ = (op (y_X5_wordOp K 0 (lI lZ 0 ((L.1 1))) σ) (fun r1 => if r1.1 = ((-1)) then (if ((L.1 2)) = 0 then (ox (f_X5_refuse K 0 (lI (lI lZ 1 2) 2 ((r1.2.1 3703))) r1.2) (fun r4 => X d 13 4 (lI L 3 r1.1) r4.2.1)) else (X d 13 4 (lI L 3 r1.1) r1.2)) else (X d 13 4 (lI L 3 r1.1) r1.2))) := rfl
theorem t_X5_word_4 (X : Nat → Nat → Nat → LV → CS → Option RS) (K d : Nat) (L : LV) (σ : CS) : t_X5_word X K d 4 L σ = (ox (f_X2_advance K 0 lZ σ) (fun r1 => ox (f_X5_want K 0 (lI lZ 1 10) r1.2.1) (fun r2 => ox (f_X5_opens K 0 lZ r2.2.1) (fun r3 => of d (fun e4 => ox (X e4 1 0 (lI lZ 1 0) r3.2.1) (fun r4 => ox (f_X5_closes K 0 (lI lZ 1 11) r4.2.1) (fun r5 => oP (sPp r5.2.1) (fun b6 => if ((L.1 2)) = 0 then (X d 13 5 (lB L 100 b6) r5.2.1) else (X d 13 6 (lB (lI L 100 55) 101 b6) r5.2.1))))))))) := rfl
theorem t_X5_word_5 (X : Nat → Nat → Nat → LV → CS → Option RS) (K d : Nat) (L : LV) (σ : CS) : t_X5_word X K d 5 L σ = (X d 13 6 (lB (lI L 100 ((L.1 3))) 101 ((L.2.2.1 100))) σ) := rfl
theorem t_X5_word_6 (X : Nat → Nat → Nat → LV → CS → Option RS) (K d : Nat) (L : LV) (σ : CS) : t_X5_word X K d 6 L σ = (ox (f_X7_emit__P K 0 (lI (lI (lB lZ 0 ((L.2.2.1 101))) 1 ((L.1 100))) 2 0) σ) (fun r1 => some ((0, 0), r1.2.1, (0, 0)))) := rfl
def f_F2 : Nat → Nat → Nat → Nat → LV → CS → Option RS
  | 0 => fun _ _ _ _ _ => none
  | k + 1 => fun d m b L σ => match m with
    | 0 => t_X5_choice (f_F2 k) k d b L σ
    | 1 => t_X5_exp (f_F2 k) k d b L σ
    | 2 => t_X5_exps (f_F2 k) k d b L σ
    | 3 => t_X5_former (f_F2 k) k d b L σ
    | 4 => t_X5_functionCall (f_F2 k) k d b L σ
    | 5 => t_X5_iters (f_F2 k) k d b L σ
    | 6 => t_X5_members (f_F2 k) k d b L σ
    | 7 => t_X5_named (f_F2 k) k d b L σ
    | 8 => t_X5_operand (f_F2 k) k d b L σ
    | 9 => t_X5_part (f_F2 k) k d b L σ
    | 10 => t_X5_primary (f_F2 k) k d b L σ
    | 11 => t_X5_quantifier (f_F2 k) k d b L σ
    | 12 => t_X5_row (f_F2 k) k d b L σ
    | 13 => t_X5_word (f_F2 k) k d b L σ
    | _ => none
theorem f_F2_0 (k d b : Nat) (L : LV) (σ : CS) : f_F2 (k + 1) d 0 b L σ = t_X5_choice (f_F2 k) k d b L σ := rfl
theorem f_F2_1 (k d b : Nat) (L : LV) (σ : CS) : f_F2 (k + 1) d 1 b L σ = t_X5_exp (f_F2 k) k d b L σ := rfl
theorem f_F2_2 (k d b : Nat) (L : LV) (σ : CS) : f_F2 (k + 1) d 2 b L σ = t_X5_exps (f_F2 k) k d b L σ := rfl
theorem f_F2_3 (k d b : Nat) (L : LV) (σ : CS) : f_F2 (k + 1) d 3 b L σ = t_X5_former (f_F2 k) k d b L σ := rfl
theorem f_F2_4 (k d b : Nat) (L : LV) (σ : CS) : f_F2 (k + 1) d 4 b L σ = t_X5_functionCall (f_F2 k) k d b L σ := rfl
theorem f_F2_5 (k d b : Nat) (L : LV) (σ : CS) : f_F2 (k + 1) d 5 b L σ = t_X5_iters (f_F2 k) k d b L σ := rfl
theorem f_F2_6 (k d b : Nat) (L : LV) (σ : CS) : f_F2 (k + 1) d 6 b L σ = t_X5_members (f_F2 k) k d b L σ := rfl
theorem f_F2_7 (k d b : Nat) (L : LV) (σ : CS) : f_F2 (k + 1) d 7 b L σ = t_X5_named (f_F2 k) k d b L σ := rfl
theorem f_F2_8 (k d b : Nat) (L : LV) (σ : CS) : f_F2 (k + 1) d 8 b L σ = t_X5_operand (f_F2 k) k d b L σ := rfl
theorem f_F2_9 (k d b : Nat) (L : LV) (σ : CS) : f_F2 (k + 1) d 9 b L σ = t_X5_part (f_F2 k) k d b L σ := rfl
theorem f_F2_10 (k d b : Nat) (L : LV) (σ : CS) : f_F2 (k + 1) d 10 b L σ = t_X5_primary (f_F2 k) k d b L σ := rfl
theorem f_F2_11 (k d b : Nat) (L : LV) (σ : CS) : f_F2 (k + 1) d 11 b L σ = t_X5_quantifier (f_F2 k) k d b L σ := rfl
theorem f_F2_12 (k d b : Nat) (L : LV) (σ : CS) : f_F2 (k + 1) d 12 b L σ = t_X5_row (f_F2 k) k d b L σ := rfl
theorem f_F2_13 (k d b : Nat) (L : LV) (σ : CS) : f_F2 (k + 1) d 13 b L σ = t_X5_word (f_F2 k) k d b L σ := rfl
def o_f_F2 : List Cond := [.code yX5_choice cX5_choice 4 none, .code yX5_exp cX5_exp 8 none, .code yX5_exps cX5_exps 3 (some .int), .code yX5_former cX5_former 6 none, .code yX5_functionCall cX5_functionCall 4 none, .code yX5_iters cX5_iters 14 none, .code yX5_members cX5_members 4 none, .code yX5_named cX5_named 5 (some .int), .code yX5_operand cX5_operand 8 none, .code yX5_part cX5_part 2 (some .int), .code yX5_primary cX5_primary 1 (some .int), .code yX5_quantifier cX5_quantifier 7 none, .code yX5_row cX5_row 3 none, .code yX5_word cX5_word 4 none, .methodLink RX5 173 yX5_opens, .instanceMethod yX5_opens, .selects RX5 yX5_opens yX5_opens, .initialized RX5, .methodLink RX5 90 yX5_exp, .instanceMethod yX5_exp, .selects RX5 yX5_exp yX5_exp, .methodLink RX5 141 yX5_expect, .instanceMethod yX5_expect, .selects RX5 yX5_expect yX5_expect, .fieldLink RX5 93 "SetHouse$Parser" "p" "LSetHouse$Program;", .methodLink RX5 66 yX7_emit, .instanceMethod yX7_emit, .selects RX7 yX7_emit yX7_emit, .initialized RX7, .methodLink RX5 240 yX7_aim, .instanceMethod yX7_aim, .selects RX7 yX7_aim yX7_aim, .constant RX5 35 (32768), .fieldLink RX5 18 "SetHouse$Parser" "lex" "LSetHouse$Lexer;", .methodLink RX5 30 yX2_advance, .instanceMethod yX2_advance, .selects RX2 yX2_advance yX2_advance, .initialized RX2, .methodLink RX5 186 yX5_closes, .instanceMethod yX5_closes, .selects RX5 yX5_closes yX5_closes, .methodLink RX5 249 yX5_aimAll, .instanceMethod yX5_aimAll, .selects RX5 yX5_aimAll yX5_aimAll, .fieldLink RX5 112 "SetHouse$Parser" "marked" "I", .methodLink RX5 366 yX5_settle, .instanceMethod yX5_settle, .selects RX5 yX5_settle yX5_settle, .methodLink RX5 356 yX5_prefix, .instanceMethod yX5_prefix, .selects RX5 yX5_prefix yX5_prefix, .methodLink RX5 360 yX5_operand, .instanceMethod yX5_operand, .selects RX5 yX5_operand yX5_operand, .methodLink RX5 363 yX5_level, .static yX5_level, .methodLink RX5 375 yX5_binaryOp, .static yX5_binaryOp, .methodLink RX5 372 yX5_postpone, .instanceMethod yX5_postpone, .selects RX5 yX5_postpone yX5_postpone, .methodLink RX5 369 yX5_postponedLevel, .instanceMethod yX5_postponedLevel, .selects RX5 yX5_postponedLevel yX5_postponedLevel, .methodLink RX5 258 yX5_iters, .instanceMethod yX5_iters, .selects RX5 yX5_iters yX5_iters, .fieldLink RX5 262 "SetHouse$Parser" "rowFirst" "I", .fieldLink RX5 265 "SetHouse$Parser" "rowLast" "I", .methodLink RX5 444 yX5_clear, .instanceMethod yX5_clear, .selects RX5 yX5_clear yX5_clear, .fieldLink RX5 103 "SetHouse$Parser" "open" "I", .methodLink RX5 233 yX5_exps, .instanceMethod yX5_exps, .selects RX5 yX5_exps yX5_exps, .methodLink RX5 61 yX5_want, .instanceMethod yX5_want, .selects RX5 yX5_want yX5_want, .methodLink RX5 125 yX5_refuse, .instanceMethod yX5_refuse, .selects RX5 yX5_refuse yX5_refuse, .methodLink RX5 243 yX7_word, .instanceMethod yX7_word, .selects RX7 yX7_word yX7_word, .fieldLink RX5 97 "SetHouse$Parser" "unit" "I", .methodLink RX5 450 yX5_iterNames, .instanceMethod yX5_iterNames, .selects RX5 yX5_iterNames yX5_iterNames, .methodLink RX5 157 yX7_newSlots, .instanceMethod yX7_newSlots, .selects RX7 yX7_newSlots yX7_newSlots, .methodLink RX5 454 yX7_newPassing, .instanceMethod yX7_newPassing, .selects RX7 yX7_newPassing yX7_newPassing, .methodLink RX5 457 yX5_iterStore, .instanceMethod yX5_iterStore, .selects RX5 yX5_iterStore yX5_iterStore, .methodLink RX5 303 yX5_mark, .instanceMethod yX5_mark, .selects RX5 yX5_mark yX5_mark, .methodLink RX5 268 yX5_takenName, .instanceMethod yX5_takenName, .selects RX5 yX5_takenName yX5_takenName, .methodLink RX5 405 yX5_functionCall, .instanceMethod yX5_functionCall, .selects RX5 yX5_functionCall yX5_functionCall, .methodLink RX5 378 yX5_primary, .instanceMethod yX5_primary, .selects RX5 yX5_primary yX5_primary, .methodLink RX5 309 yX5_part, .instanceMethod yX5_part, .selects RX5 yX5_part yX5_part, .fieldLink RX5 118 "SetHouse$Parser" "targetPlace" "I", .fieldLink RX5 341 "SetHouse$Parser" "targetEnd" "I", .fieldLink RX5 350 "SetHouse$Parser" "targetMarks" "I", .fieldLink RX5 347 "SetHouse$Parser" "targetCount" "I", .fieldLink RX5 353 "SetHouse$Parser" "targetName" "I", .methodLink RX5 381 yX5_named, .instanceMethod yX5_named, .selects RX5 yX5_named yX5_named, .methodLink RX5 384 yX5_number, .instanceMethod yX5_number, .selects RX5 yX5_number yX5_number, .methodLink RX5 387 yX5_string, .instanceMethod yX5_string, .selects RX5 yX5_string yX5_string, .methodLink RX5 394 yX5_row, .instanceMethod yX5_row, .selects RX5 yX5_row yX5_row, .methodLink RX5 400 yX5_choice, .instanceMethod yX5_choice, .selects RX5 yX5_choice yX5_choice, .constant RX5 198 (-2147483648), .methodLink RX5 397 yX5_quantifier, .instanceMethod yX5_quantifier, .selects RX5 yX5_quantifier yX5_quantifier, .methodLink RX5 403 yX5_word, .instanceMethod yX5_word, .selects RX5 yX5_word yX5_word, .methodLink RX5 199 yX5_push, .instanceMethod yX5_push, .selects RX5 yX5_push yX5_push, .initialized RX11, .static yX11_truth, .methodLink RX5 438 yX5_former, .instanceMethod yX5_former, .selects RX5 yX5_former yX5_former, .methodLink RX5 441 yX5_members, .instanceMethod yX5_members, .selects RX5 yX5_members yX5_members, .fieldLink RX5 100 "SetHouse$Parser" "allowed" "I", .methodLink RX5 447 yX5_wordOp, .static yX5_wordOp]
theorem o_f_F2_good : o_f_F2.all goodWord = true := by decide +kernel
def p_f_F2 : List Cond := o_f_F2 ++ ((.code yX5_opens cX5_opens 1 none :: p_f_X5_opens) ++ ((.code yX5_expect cX5_expect 2 none :: p_f_X5_expect) ++ ((.code yX7_emit cX7_emit 3 (some .int) :: p_f_X7_emit__P) ++ ((.code yX7_aim cX7_aim 3 none :: p_y_X7_aim__P) ++ ((.code yX2_advance cX2_advance 7 none :: p_f_X2_advance) ++ ((.code yX5_closes cX5_closes 2 none :: p_f_X5_closes) ++ ((.code yX5_aimAll cX5_aimAll 5 none :: p_y_X5_aimAll) ++ ((.code yX5_settle cX5_settle 6 none :: p_f_X5_settle) ++ ((.code yX5_prefix cX5_prefix 6 (some .boolean) :: p_f_X5_prefix) ++ ((.code yX5_level cX5_level 1 (some .int) :: p_y_X5_level) ++ ((.code yX5_binaryOp cX5_binaryOp 1 (some .int) :: p_y_X5_binaryOp) ++ ((.code yX5_postpone cX5_postpone 4 none :: p_f_X5_postpone) ++ ((.code yX5_postponedLevel cX5_postponedLevel 2 (some .int) :: p_y_X5_postponedLevel) ++ ((.code yX5_clear cX5_clear 2 none :: p_f_X5_clear) ++ ((.code yX5_want cX5_want 2 none :: p_f_X5_want) ++ ((.code yX5_refuse cX5_refuse 3 none :: p_f_X5_refuse) ++ ((.code yX7_word cX7_word 2 (some .int) :: p_f_X7_word__P) ++ ((.code yX5_iterNames cX5_iterNames 7 none :: p_f_X5_iterNames) ++ ((.code yX7_newSlots cX7_newSlots 3 (some .int) :: p_y_X7_newSlots__P) ++ ((.code yX7_newPassing cX7_newPassing 2 (some .int) :: p_y_X7_newPassing__P) ++ ((.code yX5_iterStore cX5_iterStore 4 none :: p_f_X5_iterStore) ++ ((.code yX5_mark cX5_mark 2 (some .int) :: p_f_X5_mark) ++ ((.code yX5_takenName cX5_takenName 5 (some .int) :: p_f_X5_takenName) ++ ((.code yX5_number cX5_number 4 none :: p_f_X5_number) ++ ((.code yX5_string cX5_string 6 none :: p_f_X5_string) ++ ((.code yX5_push cX5_push 2 none :: p_f_X5_push) ++ ((.code yX11_truth cX11_truth 1 (some .int) :: p_y_X11_truth) ++ ((.code yX5_wordOp cX5_wordOp 1 (some .int) :: p_y_X5_wordOp) ++ []))))))))))))))))))))))))))))
theorem p_f_F2_good : p_f_F2.all goodWord = true := nb_all2 o_f_F2_good (nb_all2 (nb_allc (by decide +kernel) p_f_X5_opens_good) (nb_all2 (nb_allc (by decide +kernel) p_f_X5_expect_good) (nb_all2 (nb_allc (by decide +kernel) p_f_X7_emit__P_good) (nb_all2 (nb_allc (by decide +kernel) p_y_X7_aim__P_good) (nb_all2 (nb_allc (by decide +kernel) p_f_X2_advance_good) (nb_all2 (nb_allc (by decide +kernel) p_f_X5_closes_good) (nb_all2 (nb_allc (by decide +kernel) p_y_X5_aimAll_good) (nb_all2 (nb_allc (by decide +kernel) p_f_X5_settle_good) (nb_all2 (nb_allc (by decide +kernel) p_f_X5_prefix_good) (nb_all2 (nb_allc (by decide +kernel) p_y_X5_level_good) (nb_all2 (nb_allc (by decide +kernel) p_y_X5_binaryOp_good) (nb_all2 (nb_allc (by decide +kernel) p_f_X5_postpone_good) (nb_all2 (nb_allc (by decide +kernel) p_y_X5_postponedLevel_good) (nb_all2 (nb_allc (by decide +kernel) p_f_X5_clear_good) (nb_all2 (nb_allc (by decide +kernel) p_f_X5_want_good) (nb_all2 (nb_allc (by decide +kernel) p_f_X5_refuse_good) (nb_all2 (nb_allc (by decide +kernel) p_f_X7_word__P_good) (nb_all2 (nb_allc (by decide +kernel) p_f_X5_iterNames_good) (nb_all2 (nb_allc (by decide +kernel) p_y_X7_newSlots__P_good) (nb_all2 (nb_allc (by decide +kernel) p_y_X7_newPassing__P_good) (nb_all2 (nb_allc (by decide +kernel) p_f_X5_iterStore_good) (nb_all2 (nb_allc (by decide +kernel) p_f_X5_mark_good) (nb_all2 (nb_allc (by decide +kernel) p_f_X5_takenName_good) (nb_all2 (nb_allc (by decide +kernel) p_f_X5_number_good) (nb_all2 (nb_allc (by decide +kernel) p_f_X5_string_good) (nb_all2 (nb_allc (by decide +kernel) p_f_X5_push_good) (nb_all2 (nb_allc (by decide +kernel) p_y_X11_truth_good) (nb_all2 (nb_allc (by decide +kernel) p_y_X5_wordOp_good) rfl))))))))))))))))))))))))))))
def w_f_X5_choice : List Cond := .code yX5_choice cX5_choice 4 none :: (p_f_F2 ++ fC)
theorem w_f_X5_choice_good : w_f_X5_choice.all goodWord = true := nb_allc (by decide +kernel) (nb_all2 p_f_F2_good fC_good)
theorem in_f_X5_choice_X2 : ∀ w ∈ wsX20, w ∈ w_f_X5_choice := fun _ h => List.mem_cons_of_mem _ (List.mem_append_right _ (List.mem_append_right _ (List.mem_append_right _ (List.mem_append_left _ h))))
theorem in_f_X5_choice_X5 : ∀ w ∈ wsX50, w ∈ w_f_X5_choice := fun _ h => List.mem_cons_of_mem _ (List.mem_append_right _ (List.mem_append_right _ (List.mem_append_right _ (List.mem_append_right _ (List.mem_append_right _ (List.mem_append_left _ h))))))
theorem in_f_X5_choice_X7 : ∀ w ∈ wsX70, w ∈ w_f_X5_choice := fun _ h => List.mem_cons_of_mem _ (List.mem_append_right _ (List.mem_append_right _ (List.mem_append_right _ (List.mem_append_right _ (List.mem_append_right _ (List.mem_append_right _ (List.mem_append_right _ (List.mem_append_left _ h))))))))
theorem hd_f_X5_choice : yX5_choice.cls = RX5 ∧ yX5_choice.cls ≠ "java/lang/invoke/MethodHandle" ∧ yX5_choice.cls ≠ "java/lang/invoke/VarHandle" ∧ (parseMethodDescriptor yX5_choice.desc).map (fun d => d.parameters.length) = some 0 := by decide +kernel
def w_f_X5_exp : List Cond := .code yX5_exp cX5_exp 8 none :: (p_f_F2 ++ fC)
theorem w_f_X5_exp_good : w_f_X5_exp.all goodWord = true := nb_allc (by decide +kernel) (nb_all2 p_f_F2_good fC_good)
theorem in_f_X5_exp_X2 : ∀ w ∈ wsX20, w ∈ w_f_X5_exp := fun _ h => List.mem_cons_of_mem _ (List.mem_append_right _ (List.mem_append_right _ (List.mem_append_right _ (List.mem_append_left _ h))))
theorem in_f_X5_exp_X5 : ∀ w ∈ wsX50, w ∈ w_f_X5_exp := fun _ h => List.mem_cons_of_mem _ (List.mem_append_right _ (List.mem_append_right _ (List.mem_append_right _ (List.mem_append_right _ (List.mem_append_right _ (List.mem_append_left _ h))))))
theorem hd_f_X5_exp : yX5_exp.cls = RX5 ∧ yX5_exp.cls ≠ "java/lang/invoke/MethodHandle" ∧ yX5_exp.cls ≠ "java/lang/invoke/VarHandle" ∧ (parseMethodDescriptor yX5_exp.desc).map (fun d => d.parameters.length) = some 1 := by decide +kernel
def w_f_X5_exps : List Cond := .code yX5_exps cX5_exps 3 (some .int) :: (p_f_F2 ++ fC)
theorem w_f_X5_exps_good : w_f_X5_exps.all goodWord = true := nb_allc (by decide +kernel) (nb_all2 p_f_F2_good fC_good)
theorem in_f_X5_exps_X2 : ∀ w ∈ wsX20, w ∈ w_f_X5_exps := fun _ h => List.mem_cons_of_mem _ (List.mem_append_right _ (List.mem_append_right _ (List.mem_append_right _ (List.mem_append_left _ h))))
theorem in_f_X5_exps_X5 : ∀ w ∈ wsX50, w ∈ w_f_X5_exps := fun _ h => List.mem_cons_of_mem _ (List.mem_append_right _ (List.mem_append_right _ (List.mem_append_right _ (List.mem_append_right _ (List.mem_append_right _ (List.mem_append_left _ h))))))
theorem hd_f_X5_exps : yX5_exps.cls = RX5 ∧ yX5_exps.cls ≠ "java/lang/invoke/MethodHandle" ∧ yX5_exps.cls ≠ "java/lang/invoke/VarHandle" ∧ (parseMethodDescriptor yX5_exps.desc).map (fun d => d.parameters.length) = some 0 := by decide +kernel
def w_f_X5_former : List Cond := .code yX5_former cX5_former 6 none :: (p_f_F2 ++ fC)
theorem w_f_X5_former_good : w_f_X5_former.all goodWord = true := nb_allc (by decide +kernel) (nb_all2 p_f_F2_good fC_good)
theorem in_f_X5_former_X2 : ∀ w ∈ wsX20, w ∈ w_f_X5_former := fun _ h => List.mem_cons_of_mem _ (List.mem_append_right _ (List.mem_append_right _ (List.mem_append_right _ (List.mem_append_left _ h))))
theorem in_f_X5_former_X5 : ∀ w ∈ wsX50, w ∈ w_f_X5_former := fun _ h => List.mem_cons_of_mem _ (List.mem_append_right _ (List.mem_append_right _ (List.mem_append_right _ (List.mem_append_right _ (List.mem_append_right _ (List.mem_append_left _ h))))))
theorem in_f_X5_former_X7 : ∀ w ∈ wsX70, w ∈ w_f_X5_former := fun _ h => List.mem_cons_of_mem _ (List.mem_append_right _ (List.mem_append_right _ (List.mem_append_right _ (List.mem_append_right _ (List.mem_append_right _ (List.mem_append_right _ (List.mem_append_right _ (List.mem_append_left _ h))))))))
theorem hd_f_X5_former : yX5_former.cls = RX5 ∧ yX5_former.cls ≠ "java/lang/invoke/MethodHandle" ∧ yX5_former.cls ≠ "java/lang/invoke/VarHandle" ∧ (parseMethodDescriptor yX5_former.desc).map (fun d => d.parameters.length) = some 1 := by decide +kernel
def w_f_X5_functionCall : List Cond := .code yX5_functionCall cX5_functionCall 4 none :: (p_f_F2 ++ fC)
theorem w_f_X5_functionCall_good : w_f_X5_functionCall.all goodWord = true := nb_allc (by decide +kernel) (nb_all2 p_f_F2_good fC_good)
theorem in_f_X5_functionCall_X2 : ∀ w ∈ wsX20, w ∈ w_f_X5_functionCall := fun _ h => List.mem_cons_of_mem _ (List.mem_append_right _ (List.mem_append_right _ (List.mem_append_right _ (List.mem_append_left _ h))))
theorem in_f_X5_functionCall_X5 : ∀ w ∈ wsX50, w ∈ w_f_X5_functionCall := fun _ h => List.mem_cons_of_mem _ (List.mem_append_right _ (List.mem_append_right _ (List.mem_append_right _ (List.mem_append_right _ (List.mem_append_right _ (List.mem_append_left _ h))))))
theorem in_f_X5_functionCall_X7 : ∀ w ∈ wsX70, w ∈ w_f_X5_functionCall := fun _ h => List.mem_cons_of_mem _ (List.mem_append_right _ (List.mem_append_right _ (List.mem_append_right _ (List.mem_append_right _ (List.mem_append_right _ (List.mem_append_right _ (List.mem_append_right _ (List.mem_append_left _ h))))))))
theorem hd_f_X5_functionCall : yX5_functionCall.cls = RX5 ∧ yX5_functionCall.cls ≠ "java/lang/invoke/MethodHandle" ∧ yX5_functionCall.cls ≠ "java/lang/invoke/VarHandle" ∧ (parseMethodDescriptor yX5_functionCall.desc).map (fun d => d.parameters.length) = some 1 := by decide +kernel
def w_f_X5_iters : List Cond := .code yX5_iters cX5_iters 14 none :: (p_f_F2 ++ fC)
theorem w_f_X5_iters_good : w_f_X5_iters.all goodWord = true := nb_allc (by decide +kernel) (nb_all2 p_f_F2_good fC_good)
theorem in_f_X5_iters_X2 : ∀ w ∈ wsX20, w ∈ w_f_X5_iters := fun _ h => List.mem_cons_of_mem _ (List.mem_append_right _ (List.mem_append_right _ (List.mem_append_right _ (List.mem_append_left _ h))))
theorem in_f_X5_iters_X5 : ∀ w ∈ wsX50, w ∈ w_f_X5_iters := fun _ h => List.mem_cons_of_mem _ (List.mem_append_right _ (List.mem_append_right _ (List.mem_append_right _ (List.mem_append_right _ (List.mem_append_right _ (List.mem_append_left _ h))))))
theorem in_f_X5_iters_X7 : ∀ w ∈ wsX70, w ∈ w_f_X5_iters := fun _ h => List.mem_cons_of_mem _ (List.mem_append_right _ (List.mem_append_right _ (List.mem_append_right _ (List.mem_append_right _ (List.mem_append_right _ (List.mem_append_right _ (List.mem_append_right _ (List.mem_append_left _ h))))))))
theorem hd_f_X5_iters : yX5_iters.cls = RX5 ∧ yX5_iters.cls ≠ "java/lang/invoke/MethodHandle" ∧ yX5_iters.cls ≠ "java/lang/invoke/VarHandle" ∧ (parseMethodDescriptor yX5_iters.desc).map (fun d => d.parameters.length) = some 1 := by decide +kernel
def w_f_X5_members : List Cond := .code yX5_members cX5_members 4 none :: (p_f_F2 ++ fC)
theorem w_f_X5_members_good : w_f_X5_members.all goodWord = true := nb_allc (by decide +kernel) (nb_all2 p_f_F2_good fC_good)
theorem in_f_X5_members_X2 : ∀ w ∈ wsX20, w ∈ w_f_X5_members := fun _ h => List.mem_cons_of_mem _ (List.mem_append_right _ (List.mem_append_right _ (List.mem_append_right _ (List.mem_append_left _ h))))
theorem in_f_X5_members_X5 : ∀ w ∈ wsX50, w ∈ w_f_X5_members := fun _ h => List.mem_cons_of_mem _ (List.mem_append_right _ (List.mem_append_right _ (List.mem_append_right _ (List.mem_append_right _ (List.mem_append_right _ (List.mem_append_left _ h))))))
theorem hd_f_X5_members : yX5_members.cls = RX5 ∧ yX5_members.cls ≠ "java/lang/invoke/MethodHandle" ∧ yX5_members.cls ≠ "java/lang/invoke/VarHandle" ∧ (parseMethodDescriptor yX5_members.desc).map (fun d => d.parameters.length) = some 1 := by decide +kernel
def w_f_X5_named : List Cond := .code yX5_named cX5_named 5 (some .int) :: (p_f_F2 ++ fC)
theorem w_f_X5_named_good : w_f_X5_named.all goodWord = true := nb_allc (by decide +kernel) (nb_all2 p_f_F2_good fC_good)
theorem in_f_X5_named_X2 : ∀ w ∈ wsX20, w ∈ w_f_X5_named := fun _ h => List.mem_cons_of_mem _ (List.mem_append_right _ (List.mem_append_right _ (List.mem_append_right _ (List.mem_append_left _ h))))
theorem in_f_X5_named_X5 : ∀ w ∈ wsX50, w ∈ w_f_X5_named := fun _ h => List.mem_cons_of_mem _ (List.mem_append_right _ (List.mem_append_right _ (List.mem_append_right _ (List.mem_append_right _ (List.mem_append_right _ (List.mem_append_left _ h))))))
theorem in_f_X5_named_X7 : ∀ w ∈ wsX70, w ∈ w_f_X5_named := fun _ h => List.mem_cons_of_mem _ (List.mem_append_right _ (List.mem_append_right _ (List.mem_append_right _ (List.mem_append_right _ (List.mem_append_right _ (List.mem_append_right _ (List.mem_append_right _ (List.mem_append_left _ h))))))))
theorem hd_f_X5_named : yX5_named.cls = RX5 ∧ yX5_named.cls ≠ "java/lang/invoke/MethodHandle" ∧ yX5_named.cls ≠ "java/lang/invoke/VarHandle" ∧ (parseMethodDescriptor yX5_named.desc).map (fun d => d.parameters.length) = some 0 := by decide +kernel
def w_f_X5_operand : List Cond := .code yX5_operand cX5_operand 8 none :: (p_f_F2 ++ fC)
theorem w_f_X5_operand_good : w_f_X5_operand.all goodWord = true := nb_allc (by decide +kernel) (nb_all2 p_f_F2_good fC_good)
theorem in_f_X5_operand_X2 : ∀ w ∈ wsX20, w ∈ w_f_X5_operand := fun _ h => List.mem_cons_of_mem _ (List.mem_append_right _ (List.mem_append_right _ (List.mem_append_right _ (List.mem_append_left _ h))))
theorem in_f_X5_operand_X5 : ∀ w ∈ wsX50, w ∈ w_f_X5_operand := fun _ h => List.mem_cons_of_mem _ (List.mem_append_right _ (List.mem_append_right _ (List.mem_append_right _ (List.mem_append_right _ (List.mem_append_right _ (List.mem_append_left _ h))))))
theorem in_f_X5_operand_X7 : ∀ w ∈ wsX70, w ∈ w_f_X5_operand := fun _ h => List.mem_cons_of_mem _ (List.mem_append_right _ (List.mem_append_right _ (List.mem_append_right _ (List.mem_append_right _ (List.mem_append_right _ (List.mem_append_right _ (List.mem_append_right _ (List.mem_append_left _ h))))))))
theorem hd_f_X5_operand : yX5_operand.cls = RX5 ∧ yX5_operand.cls ≠ "java/lang/invoke/MethodHandle" ∧ yX5_operand.cls ≠ "java/lang/invoke/VarHandle" ∧ (parseMethodDescriptor yX5_operand.desc).map (fun d => d.parameters.length) = some 0 := by decide +kernel
def w_f_X5_part : List Cond := .code yX5_part cX5_part 2 (some .int) :: (p_f_F2 ++ fC)
theorem w_f_X5_part_good : w_f_X5_part.all goodWord = true := nb_allc (by decide +kernel) (nb_all2 p_f_F2_good fC_good)
theorem in_f_X5_part_X2 : ∀ w ∈ wsX20, w ∈ w_f_X5_part := fun _ h => List.mem_cons_of_mem _ (List.mem_append_right _ (List.mem_append_right _ (List.mem_append_right _ (List.mem_append_left _ h))))
theorem in_f_X5_part_X5 : ∀ w ∈ wsX50, w ∈ w_f_X5_part := fun _ h => List.mem_cons_of_mem _ (List.mem_append_right _ (List.mem_append_right _ (List.mem_append_right _ (List.mem_append_right _ (List.mem_append_right _ (List.mem_append_left _ h))))))
theorem hd_f_X5_part : yX5_part.cls = RX5 ∧ yX5_part.cls ≠ "java/lang/invoke/MethodHandle" ∧ yX5_part.cls ≠ "java/lang/invoke/VarHandle" ∧ (parseMethodDescriptor yX5_part.desc).map (fun d => d.parameters.length) = some 0 := by decide +kernel
def w_f_X5_primary : List Cond := .code yX5_primary cX5_primary 1 (some .int) :: (p_f_F2 ++ fC)
theorem w_f_X5_primary_good : w_f_X5_primary.all goodWord = true := nb_allc (by decide +kernel) (nb_all2 p_f_F2_good fC_good)
theorem in_f_X5_primary_X2 : ∀ w ∈ wsX20, w ∈ w_f_X5_primary := fun _ h => List.mem_cons_of_mem _ (List.mem_append_right _ (List.mem_append_right _ (List.mem_append_right _ (List.mem_append_left _ h))))
theorem in_f_X5_primary_X5 : ∀ w ∈ wsX50, w ∈ w_f_X5_primary := fun _ h => List.mem_cons_of_mem _ (List.mem_append_right _ (List.mem_append_right _ (List.mem_append_right _ (List.mem_append_right _ (List.mem_append_right _ (List.mem_append_left _ h))))))
theorem hd_f_X5_primary : yX5_primary.cls = RX5 ∧ yX5_primary.cls ≠ "java/lang/invoke/MethodHandle" ∧ yX5_primary.cls ≠ "java/lang/invoke/VarHandle" ∧ (parseMethodDescriptor yX5_primary.desc).map (fun d => d.parameters.length) = some 0 := by decide +kernel
def w_f_X5_quantifier : List Cond := .code yX5_quantifier cX5_quantifier 7 none :: (p_f_F2 ++ fC)
theorem w_f_X5_quantifier_good : w_f_X5_quantifier.all goodWord = true := nb_allc (by decide +kernel) (nb_all2 p_f_F2_good fC_good)
theorem in_f_X5_quantifier_X2 : ∀ w ∈ wsX20, w ∈ w_f_X5_quantifier := fun _ h => List.mem_cons_of_mem _ (List.mem_append_right _ (List.mem_append_right _ (List.mem_append_right _ (List.mem_append_left _ h))))
theorem in_f_X5_quantifier_X5 : ∀ w ∈ wsX50, w ∈ w_f_X5_quantifier := fun _ h => List.mem_cons_of_mem _ (List.mem_append_right _ (List.mem_append_right _ (List.mem_append_right _ (List.mem_append_right _ (List.mem_append_right _ (List.mem_append_left _ h))))))
theorem in_f_X5_quantifier_X7 : ∀ w ∈ wsX70, w ∈ w_f_X5_quantifier := fun _ h => List.mem_cons_of_mem _ (List.mem_append_right _ (List.mem_append_right _ (List.mem_append_right _ (List.mem_append_right _ (List.mem_append_right _ (List.mem_append_right _ (List.mem_append_right _ (List.mem_append_left _ h))))))))
theorem hd_f_X5_quantifier : yX5_quantifier.cls = RX5 ∧ yX5_quantifier.cls ≠ "java/lang/invoke/MethodHandle" ∧ yX5_quantifier.cls ≠ "java/lang/invoke/VarHandle" ∧ (parseMethodDescriptor yX5_quantifier.desc).map (fun d => d.parameters.length) = some 0 := by decide +kernel
def w_f_X5_row : List Cond := .code yX5_row cX5_row 3 none :: (p_f_F2 ++ fC)
theorem w_f_X5_row_good : w_f_X5_row.all goodWord = true := nb_allc (by decide +kernel) (nb_all2 p_f_F2_good fC_good)
theorem in_f_X5_row_X2 : ∀ w ∈ wsX20, w ∈ w_f_X5_row := fun _ h => List.mem_cons_of_mem _ (List.mem_append_right _ (List.mem_append_right _ (List.mem_append_right _ (List.mem_append_left _ h))))
theorem in_f_X5_row_X5 : ∀ w ∈ wsX50, w ∈ w_f_X5_row := fun _ h => List.mem_cons_of_mem _ (List.mem_append_right _ (List.mem_append_right _ (List.mem_append_right _ (List.mem_append_right _ (List.mem_append_right _ (List.mem_append_left _ h))))))
theorem hd_f_X5_row : yX5_row.cls = RX5 ∧ yX5_row.cls ≠ "java/lang/invoke/MethodHandle" ∧ yX5_row.cls ≠ "java/lang/invoke/VarHandle" ∧ (parseMethodDescriptor yX5_row.desc).map (fun d => d.parameters.length) = some 2 := by decide +kernel
def w_f_X5_word : List Cond := .code yX5_word cX5_word 4 none :: (p_f_F2 ++ fC)
theorem w_f_X5_word_good : w_f_X5_word.all goodWord = true := nb_allc (by decide +kernel) (nb_all2 p_f_F2_good fC_good)
theorem in_f_X5_word_X2 : ∀ w ∈ wsX20, w ∈ w_f_X5_word := fun _ h => List.mem_cons_of_mem _ (List.mem_append_right _ (List.mem_append_right _ (List.mem_append_right _ (List.mem_append_left _ h))))
theorem in_f_X5_word_X5 : ∀ w ∈ wsX50, w ∈ w_f_X5_word := fun _ h => List.mem_cons_of_mem _ (List.mem_append_right _ (List.mem_append_right _ (List.mem_append_right _ (List.mem_append_right _ (List.mem_append_right _ (List.mem_append_left _ h))))))
theorem hd_f_X5_word : yX5_word.cls = RX5 ∧ yX5_word.cls ≠ "java/lang/invoke/MethodHandle" ∧ yX5_word.cls ≠ "java/lang/invoke/VarHandle" ∧ (parseMethodDescriptor yX5_word.desc).map (fun d => d.parameters.length) = some 0 := by decide +kernel
abbrev P_F2 (l : Launch) (dC : Nat → ClassId) (dI : Nat → Nat → Nat) (cy : Nat → ClassId) (ek a : Nat → Nat) (k0 : Nat) : Prop := (∀ (d : Nat) (L0 : LV) (σ0 : CS) (r0 : RS), f_F2 k0 d 0 0 L0 σ0 = some r0 → ∀ (z : Nat → Nat) (sz : Nat), vx_Met l yX5_choice w_f_X5_choice ({ frames := 9 + d, cells := r0.2.2.1, slots := r0.2.2.2, locals := 173 + 33 * d }) (va_Pc [.ref (a 40)] (nInF (dC, dI) cy ek sz (vC cy a z σ0))) (xV dC dI cy a (va_A (vC cy a z σ0) sz) [41, 43, 51] z r0) (xX dC dI cy a (va_A (vC cy a z σ0) sz) [41, 43, 51] z r0) r0.2.2.1 r0.2.2.2 (va_A (vC cy a z σ0) sz)) ∧ (∀ (d : Nat) (L0 : LV) (σ0 : CS) (r0 : RS), f_F2 k0 d 1 0 L0 σ0 = some r0 → ∀ (z : Nat → Nat) (sz : Nat), vx_Met l yX5_exp w_f_X5_exp ({ frames := 9 + d, cells := r0.2.2.1, slots := r0.2.2.2, locals := 173 + 33 * d }) (va_Pc [.ref (a 40), .int (L0.1 1)] (nInF (dC, dI) cy ek sz (vC cy a z σ0))) (xV dC dI cy a (va_A (vC cy a z σ0) sz) [41, 43, 51] z r0) (xX dC dI cy a (va_A (vC cy a z σ0) sz) [41, 43, 51] z r0) r0.2.2.1 r0.2.2.2 (va_A (vC cy a z σ0) sz)) ∧ (∀ (d : Nat) (L0 : LV) (σ0 : CS) (r0 : RS), f_F2 k0 d 2 0 L0 σ0 = some r0 → ∀ (z : Nat → Nat) (sz : Nat), vx_Met l yX5_exps w_f_X5_exps ({ frames := 9 + d, cells := r0.2.2.1, slots := r0.2.2.2, locals := 173 + 33 * d }) (va_Pc [.ref (a 40)] (nInF (dC, dI) cy ek sz (vC cy a z σ0))) (xI dC dI cy a (va_A (vC cy a z σ0) sz) [41, 43, 51] z r0) (xX dC dI cy a (va_A (vC cy a z σ0) sz) [41, 43, 51] z r0) r0.2.2.1 r0.2.2.2 (va_A (vC cy a z σ0) sz)) ∧ (∀ (d : Nat) (L0 : LV) (σ0 : CS) (r0 : RS), f_F2 k0 d 3 0 L0 σ0 = some r0 → ∀ (z : Nat → Nat) (sz : Nat), vx_Met l yX5_former w_f_X5_former ({ frames := 9 + d, cells := r0.2.2.1, slots := r0.2.2.2, locals := 173 + 33 * d }) (va_Pc [.ref (a 40), .int (L0.1 1)] (nInF (dC, dI) cy ek sz (vC cy a z σ0))) (xV dC dI cy a (va_A (vC cy a z σ0) sz) [41, 43, 51] z r0) (xX dC dI cy a (va_A (vC cy a z σ0) sz) [41, 43, 51] z r0) r0.2.2.1 r0.2.2.2 (va_A (vC cy a z σ0) sz)) ∧ (∀ (d : Nat) (L0 : LV) (σ0 : CS) (r0 : RS), f_F2 k0 d 4 0 L0 σ0 = some r0 → ∀ (z : Nat → Nat) (sz : Nat), vx_Met l yX5_functionCall w_f_X5_functionCall ({ frames := 9 + d, cells := r0.2.2.1, slots := r0.2.2.2, locals := 173 + 33 * d }) (va_Pc [.ref (a 40), .int (L0.1 1)] (nInF (dC, dI) cy ek sz (vC cy a z σ0))) (xV dC dI cy a (va_A (vC cy a z σ0) sz) [41, 43, 51] z r0) (xX dC dI cy a (va_A (vC cy a z σ0) sz) [41, 43, 51] z r0) r0.2.2.1 r0.2.2.2 (va_A (vC cy a z σ0) sz)) ∧ (∀ (d : Nat) (L0 : LV) (σ0 : CS) (r0 : RS), f_F2 k0 d 5 0 L0 σ0 = some r0 → ∀ (z : Nat → Nat) (sz : Nat), vx_Met l yX5_iters w_f_X5_iters ({ frames := 9 + d, cells := r0.2.2.1, slots := r0.2.2.2, locals := 173 + 33 * d }) (va_Pc [.ref (a 40), .int (L0.1 1)] (nInF (dC, dI) cy ek sz (vC cy a z σ0))) (xV dC dI cy a (va_A (vC cy a z σ0) sz) [41, 43, 51] z r0) (xX dC dI cy a (va_A (vC cy a z σ0) sz) [41, 43, 51] z r0) r0.2.2.1 r0.2.2.2 (va_A (vC cy a z σ0) sz)) ∧ (∀ (d : Nat) (L0 : LV) (σ0 : CS) (r0 : RS), f_F2 k0 d 6 0 L0 σ0 = some r0 → ∀ (z : Nat → Nat) (sz : Nat), vx_Met l yX5_members w_f_X5_members ({ frames := 9 + d, cells := r0.2.2.1, slots := r0.2.2.2, locals := 173 + 33 * d }) (va_Pc [.ref (a 40), .int (L0.1 1)] (nInF (dC, dI) cy ek sz (vC cy a z σ0))) (xV dC dI cy a (va_A (vC cy a z σ0) sz) [41, 43, 51] z r0) (xX dC dI cy a (va_A (vC cy a z σ0) sz) [41, 43, 51] z r0) r0.2.2.1 r0.2.2.2 (va_A (vC cy a z σ0) sz)) ∧ (∀ (d : Nat) (L0 : LV) (σ0 : CS) (r0 : RS), f_F2 k0 d 7 0 L0 σ0 = some r0 → ∀ (z : Nat → Nat) (sz : Nat), vx_Met l yX5_named w_f_X5_named ({ frames := 9 + d, cells := r0.2.2.1, slots := r0.2.2.2, locals := 173 + 33 * d }) (va_Pc [.ref (a 40)] (nInF (dC, dI) cy ek sz (vC cy a z σ0))) (xI dC dI cy a (va_A (vC cy a z σ0) sz) [41, 43, 51] z r0) (xX dC dI cy a (va_A (vC cy a z σ0) sz) [41, 43, 51] z r0) r0.2.2.1 r0.2.2.2 (va_A (vC cy a z σ0) sz)) ∧ (∀ (d : Nat) (L0 : LV) (σ0 : CS) (r0 : RS), f_F2 k0 d 8 0 L0 σ0 = some r0 → ∀ (z : Nat → Nat) (sz : Nat), vx_Met l yX5_operand w_f_X5_operand ({ frames := 9 + d, cells := r0.2.2.1, slots := r0.2.2.2, locals := 173 + 33 * d }) (va_Pc [.ref (a 40)] (nInF (dC, dI) cy ek sz (vC cy a z σ0))) (xV dC dI cy a (va_A (vC cy a z σ0) sz) [41, 43, 51] z r0) (xX dC dI cy a (va_A (vC cy a z σ0) sz) [41, 43, 51] z r0) r0.2.2.1 r0.2.2.2 (va_A (vC cy a z σ0) sz)) ∧ (∀ (d : Nat) (L0 : LV) (σ0 : CS) (r0 : RS), f_F2 k0 d 9 0 L0 σ0 = some r0 → ∀ (z : Nat → Nat) (sz : Nat), vx_Met l yX5_part w_f_X5_part ({ frames := 9 + d, cells := r0.2.2.1, slots := r0.2.2.2, locals := 173 + 33 * d }) (va_Pc [.ref (a 40)] (nInF (dC, dI) cy ek sz (vC cy a z σ0))) (xI dC dI cy a (va_A (vC cy a z σ0) sz) [41, 43, 51] z r0) (xX dC dI cy a (va_A (vC cy a z σ0) sz) [41, 43, 51] z r0) r0.2.2.1 r0.2.2.2 (va_A (vC cy a z σ0) sz)) ∧ (∀ (d : Nat) (L0 : LV) (σ0 : CS) (r0 : RS), f_F2 k0 d 10 0 L0 σ0 = some r0 → ∀ (z : Nat → Nat) (sz : Nat), vx_Met l yX5_primary w_f_X5_primary ({ frames := 9 + d, cells := r0.2.2.1, slots := r0.2.2.2, locals := 173 + 33 * d }) (va_Pc [.ref (a 40)] (nInF (dC, dI) cy ek sz (vC cy a z σ0))) (xI dC dI cy a (va_A (vC cy a z σ0) sz) [41, 43, 51] z r0) (xX dC dI cy a (va_A (vC cy a z σ0) sz) [41, 43, 51] z r0) r0.2.2.1 r0.2.2.2 (va_A (vC cy a z σ0) sz)) ∧ (∀ (d : Nat) (L0 : LV) (σ0 : CS) (r0 : RS), f_F2 k0 d 11 0 L0 σ0 = some r0 → ∀ (z : Nat → Nat) (sz : Nat), vx_Met l yX5_quantifier w_f_X5_quantifier ({ frames := 9 + d, cells := r0.2.2.1, slots := r0.2.2.2, locals := 173 + 33 * d }) (va_Pc [.ref (a 40)] (nInF (dC, dI) cy ek sz (vC cy a z σ0))) (xV dC dI cy a (va_A (vC cy a z σ0) sz) [41, 43, 51] z r0) (xX dC dI cy a (va_A (vC cy a z σ0) sz) [41, 43, 51] z r0) r0.2.2.1 r0.2.2.2 (va_A (vC cy a z σ0) sz)) ∧ (∀ (d : Nat) (L0 : LV) (σ0 : CS) (r0 : RS), f_F2 k0 d 12 0 L0 σ0 = some r0 → ∀ (z : Nat → Nat) (sz : Nat), vx_Met l yX5_row w_f_X5_row ({ frames := 9 + d, cells := r0.2.2.1, slots := r0.2.2.2, locals := 173 + 33 * d }) (va_Pc [.ref (a 40), .int (L0.1 1), .int (L0.1 2)] (nInF (dC, dI) cy ek sz (vC cy a z σ0))) (xV dC dI cy a (va_A (vC cy a z σ0) sz) [41, 43, 51] z r0) (xX dC dI cy a (va_A (vC cy a z σ0) sz) [41, 43, 51] z r0) r0.2.2.1 r0.2.2.2 (va_A (vC cy a z σ0) sz)) ∧ (∀ (d : Nat) (L0 : LV) (σ0 : CS) (r0 : RS), f_F2 k0 d 13 0 L0 σ0 = some r0 → ∀ (z : Nat → Nat) (sz : Nat), vx_Met l yX5_word w_f_X5_word ({ frames := 9 + d, cells := r0.2.2.1, slots := r0.2.2.2, locals := 173 + 33 * d }) (va_Pc [.ref (a 40)] (nInF (dC, dI) cy ek sz (vC cy a z σ0))) (xV dC dI cy a (va_A (vC cy a z σ0) sz) [41, 43, 51] z r0) (xX dC dI cy a (va_A (vC cy a z σ0) sz) [41, 43, 51] z r0) r0.2.2.1 r0.2.2.2 (va_A (vC cy a z σ0) sz))
theorem gg_f_X5_choice_X2_advance : GoodIn w_f_X5_choice w_f_X2_advance := goodIn_sub (fun w h => (List.mem_cons.mp h).elim (fun e => (List.mem_cons_of_mem _ (List.mem_append_left _ (List.mem_append_right _ (List.mem_append_right _ (List.mem_append_right _ (List.mem_append_right _ (List.mem_append_right _ (List.mem_append_left _ (List.mem_cons.mpr (Or.inl e))))))))))) (fun h => (List.mem_append.mp h).elim (fun h => (List.mem_cons_of_mem _ (List.mem_append_left _ (List.mem_append_right _ (List.mem_append_right _ (List.mem_append_right _ (List.mem_append_right _ (List.mem_append_right _ (List.mem_append_left _ (List.mem_cons_of_mem _ h)))))))))) (fun h => List.mem_cons_of_mem _ (List.mem_append_right _ h)))) w_f_X2_advance_good
theorem g_f_X5_choice_X2_advance_V30 : GoodIn w_f_X5_choice (wsV RX5 30 RX2 yX2_advance w_f_X2_advance) := goodIn_app (nb_g4 (List.mem_cons_of_mem _ (List.mem_append_left _ (List.mem_append_left _ (List.mem_of_getElem? (i := 34) rfl)))) (List.mem_cons_of_mem _ (List.mem_append_left _ (List.mem_append_left _ (List.mem_of_getElem? (i := 35) rfl)))) (List.mem_cons_of_mem _ (List.mem_append_left _ (List.mem_append_left _ (List.mem_of_getElem? (i := 36) rfl)))) (List.mem_cons_of_mem _ (List.mem_append_left _ (List.mem_append_left _ (List.mem_of_getElem? (i := 37) rfl)))) (by decide +kernel)) gg_f_X5_choice_X2_advance
theorem gg_f_X5_choice_X5_closes : GoodIn w_f_X5_choice w_f_X5_closes := goodIn_sub (fun w h => (List.mem_cons.mp h).elim (fun e => (List.mem_cons_of_mem _ (List.mem_append_left _ (List.mem_append_right _ (List.mem_append_right _ (List.mem_append_right _ (List.mem_append_right _ (List.mem_append_right _ (List.mem_append_right _ (List.mem_append_left _ (List.mem_cons.mpr (Or.inl e)))))))))))) (fun h => (List.mem_append.mp h).elim (fun h => (List.mem_cons_of_mem _ (List.mem_append_left _ (List.mem_append_right _ (List.mem_append_right _ (List.mem_append_right _ (List.mem_append_right _ (List.mem_append_right _ (List.mem_append_right _ (List.mem_append_left _ (List.mem_cons_of_mem _ h))))))))))) (fun h => List.mem_cons_of_mem _ (List.mem_append_right _ h)))) w_f_X5_closes_good
theorem g_f_X5_choice_X5_closes_V186 : GoodIn w_f_X5_choice (wsV RX5 186 RX5 yX5_closes w_f_X5_closes) := goodIn_app (nb_g4 (List.mem_cons_of_mem _ (List.mem_append_left _ (List.mem_append_left _ (List.mem_of_getElem? (i := 38) rfl)))) (List.mem_cons_of_mem _ (List.mem_append_left _ (List.mem_append_left _ (List.mem_of_getElem? (i := 39) rfl)))) (List.mem_cons_of_mem _ (List.mem_append_left _ (List.mem_append_left _ (List.mem_of_getElem? (i := 40) rfl)))) (List.mem_cons_of_mem _ (List.mem_append_left _ (List.mem_append_left _ (List.mem_of_getElem? (i := 17) rfl)))) (by decide +kernel)) gg_f_X5_choice_X5_closes
theorem gg_f_X5_choice_X5_exp : GoodIn w_f_X5_choice w_f_X5_exp := goodIn_sub (fun w h => (List.mem_cons.mp h).elim (fun e => e ▸ (List.mem_cons_of_mem _ (List.mem_append_left _ (List.mem_append_left _ (List.mem_of_getElem? (i := 1) rfl))))) (fun h => List.mem_cons_of_mem _ h)) w_f_X5_exp_good
theorem g_f_X5_choice_X5_exp_V90 : GoodIn w_f_X5_choice (wsV RX5 90 RX5 yX5_exp w_f_X5_exp) := goodIn_app (nb_g4 (List.mem_cons_of_mem _ (List.mem_append_left _ (List.mem_append_left _ (List.mem_of_getElem? (i := 18) rfl)))) (List.mem_cons_of_mem _ (List.mem_append_left _ (List.mem_append_left _ (List.mem_of_getElem? (i := 19) rfl)))) (List.mem_cons_of_mem _ (List.mem_append_left _ (List.mem_append_left _ (List.mem_of_getElem? (i := 20) rfl)))) (List.mem_cons_of_mem _ (List.mem_append_left _ (List.mem_append_left _ (List.mem_of_getElem? (i := 17) rfl)))) (by decide +kernel)) gg_f_X5_choice_X5_exp
theorem gg_f_X5_choice_X5_expect : GoodIn w_f_X5_choice w_f_X5_expect := goodIn_sub (fun w h => (List.mem_cons.mp h).elim (fun e => (List.mem_cons_of_mem _ (List.mem_append_left _ (List.mem_append_right _ (List.mem_append_right _ (List.mem_append_left _ (List.mem_cons.mpr (Or.inl e)))))))) (fun h => (List.mem_append.mp h).elim (fun h => (List.mem_cons_of_mem _ (List.mem_append_left _ (List.mem_append_right _ (List.mem_append_right _ (List.mem_append_left _ (List.mem_cons_of_mem _ h))))))) (fun h => List.mem_cons_of_mem _ (List.mem_append_right _ h)))) w_f_X5_expect_good
theorem g_f_X5_choice_X5_expect_V141 : GoodIn w_f_X5_choice (wsV RX5 141 RX5 yX5_expect w_f_X5_expect) := goodIn_app (nb_g4 (List.mem_cons_of_mem _ (List.mem_append_left _ (List.mem_append_left _ (List.mem_of_getElem? (i := 21) rfl)))) (List.mem_cons_of_mem _ (List.mem_append_left _ (List.mem_append_left _ (List.mem_of_getElem? (i := 22) rfl)))) (List.mem_cons_of_mem _ (List.mem_append_left _ (List.mem_append_left _ (List.mem_of_getElem? (i := 23) rfl)))) (List.mem_cons_of_mem _ (List.mem_append_left _ (List.mem_append_left _ (List.mem_of_getElem? (i := 17) rfl)))) (by decide +kernel)) gg_f_X5_choice_X5_expect
theorem gg_f_X5_choice_X5_opens : GoodIn w_f_X5_choice w_f_X5_opens := goodIn_sub (fun w h => (List.mem_cons.mp h).elim (fun e => (List.mem_cons_of_mem _ (List.mem_append_left _ (List.mem_append_right _ (List.mem_append_left _ (List.mem_cons.mpr (Or.inl e))))))) (fun h => (List.mem_append.mp h).elim (fun h => (List.mem_cons_of_mem _ (List.mem_append_left _ (List.mem_append_right _ (List.mem_append_left _ (List.mem_cons_of_mem _ h)))))) (fun h => List.mem_cons_of_mem _ (List.mem_append_right _ h)))) w_f_X5_opens_good
theorem g_f_X5_choice_X5_opens_V173 : GoodIn w_f_X5_choice (wsV RX5 173 RX5 yX5_opens w_f_X5_opens) := goodIn_app (nb_g4 (List.mem_cons_of_mem _ (List.mem_append_left _ (List.mem_append_left _ (List.mem_of_getElem? (i := 14) rfl)))) (List.mem_cons_of_mem _ (List.mem_append_left _ (List.mem_append_left _ (List.mem_of_getElem? (i := 15) rfl)))) (List.mem_cons_of_mem _ (List.mem_append_left _ (List.mem_append_left _ (List.mem_of_getElem? (i := 16) rfl)))) (List.mem_cons_of_mem _ (List.mem_append_left _ (List.mem_append_left _ (List.mem_of_getElem? (i := 17) rfl)))) (by decide +kernel)) gg_f_X5_choice_X5_opens
theorem gg_f_X5_choice_X7_emit__P : GoodIn w_f_X5_choice w_f_X7_emit__P := goodIn_sub (fun w h => (List.mem_cons.mp h).elim (fun e => (List.mem_cons_of_mem _ (List.mem_append_left _ (List.mem_append_right _ (List.mem_append_right _ (List.mem_append_right _ (List.mem_append_left _ (List.mem_cons.mpr (Or.inl e))))))))) (fun h => (List.mem_append.mp h).elim (fun h => (List.mem_cons_of_mem _ (List.mem_append_left _ (List.mem_append_right _ (List.mem_append_right _ (List.mem_append_right _ (List.mem_append_left _ (List.mem_cons_of_mem _ h)))))))) (fun h => List.mem_cons_of_mem _ (List.mem_append_right _ h)))) w_f_X7_emit__P_good
theorem g_f_X5_choice_X7_emit__P_V66 : GoodIn w_f_X5_choice (wsV RX5 66 RX7 yX7_emit w_f_X7_emit__P) := goodIn_app (nb_g4 (List.mem_cons_of_mem _ (List.mem_append_left _ (List.mem_append_left _ (List.mem_of_getElem? (i := 25) rfl)))) (List.mem_cons_of_mem _ (List.mem_append_left _ (List.mem_append_left _ (List.mem_of_getElem? (i := 26) rfl)))) (List.mem_cons_of_mem _ (List.mem_append_left _ (List.mem_append_left _ (List.mem_of_getElem? (i := 27) rfl)))) (List.mem_cons_of_mem _ (List.mem_append_left _ (List.mem_append_left _ (List.mem_of_getElem? (i := 28) rfl)))) (by decide +kernel)) gg_f_X5_choice_X7_emit__P
theorem gg_f_X5_choice_X5_aimAll : GoodIn w_f_X5_choice w_y_X5_aimAll := goodIn_sub (fun w h => (List.mem_cons.mp h).elim (fun e => (List.mem_cons_of_mem _ (List.mem_append_left _ (List.mem_append_right _ (List.mem_append_right _ (List.mem_append_right _ (List.mem_append_right _ (List.mem_append_right _ (List.mem_append_right _ (List.mem_append_right _ (List.mem_append_left _ (List.mem_cons.mpr (Or.inl e))))))))))))) (fun h => (List.mem_append.mp h).elim (fun h => (List.mem_cons_of_mem _ (List.mem_append_left _ (List.mem_append_right _ (List.mem_append_right _ (List.mem_append_right _ (List.mem_append_right _ (List.mem_append_right _ (List.mem_append_right _ (List.mem_append_right _ (List.mem_append_left _ (List.mem_cons_of_mem _ h)))))))))))) (fun h => List.mem_cons_of_mem _ (List.mem_append_right _ h)))) w_y_X5_aimAll_good
theorem g_y_X5_choice_X5_aimAll_V249 : GoodIn w_f_X5_choice (wsV RX5 249 RX5 yX5_aimAll w_y_X5_aimAll) := goodIn_app (nb_g4 (List.mem_cons_of_mem _ (List.mem_append_left _ (List.mem_append_left _ (List.mem_of_getElem? (i := 41) rfl)))) (List.mem_cons_of_mem _ (List.mem_append_left _ (List.mem_append_left _ (List.mem_of_getElem? (i := 42) rfl)))) (List.mem_cons_of_mem _ (List.mem_append_left _ (List.mem_append_left _ (List.mem_of_getElem? (i := 43) rfl)))) (List.mem_cons_of_mem _ (List.mem_append_left _ (List.mem_append_left _ (List.mem_of_getElem? (i := 17) rfl)))) (by decide +kernel)) gg_f_X5_choice_X5_aimAll
theorem gg_f_X5_choice_X7_aim__P : GoodIn w_f_X5_choice w_y_X7_aim__P := goodIn_sub (fun w h => (List.mem_cons.mp h).elim (fun e => (List.mem_cons_of_mem _ (List.mem_append_left _ (List.mem_append_right _ (List.mem_append_right _ (List.mem_append_right _ (List.mem_append_right _ (List.mem_append_left _ (List.mem_cons.mpr (Or.inl e)))))))))) (fun h => (List.mem_append.mp h).elim (fun h => (List.mem_cons_of_mem _ (List.mem_append_left _ (List.mem_append_right _ (List.mem_append_right _ (List.mem_append_right _ (List.mem_append_right _ (List.mem_append_left _ (List.mem_cons_of_mem _ h))))))))) (fun h => List.mem_cons_of_mem _ (List.mem_append_right _ h)))) w_y_X7_aim__P_good
theorem g_y_X5_choice_X7_aim__P_V240 : GoodIn w_f_X5_choice (wsV RX5 240 RX7 yX7_aim w_y_X7_aim__P) := goodIn_app (nb_g4 (List.mem_cons_of_mem _ (List.mem_append_left _ (List.mem_append_left _ (List.mem_of_getElem? (i := 29) rfl)))) (List.mem_cons_of_mem _ (List.mem_append_left _ (List.mem_append_left _ (List.mem_of_getElem? (i := 30) rfl)))) (List.mem_cons_of_mem _ (List.mem_append_left _ (List.mem_append_left _ (List.mem_of_getElem? (i := 31) rfl)))) (List.mem_cons_of_mem _ (List.mem_append_left _ (List.mem_append_left _ (List.mem_of_getElem? (i := 28) rfl)))) (by decide +kernel)) gg_f_X5_choice_X7_aim__P
set_option maxHeartbeats 40000000 in
set_option maxRecDepth 100000 in
theorem c_t_X5_choice (l : Launch) (hl0 : l.stackTraces = false) (dC : Nat → ClassId) (dI : Nat → Nat → Nat) (cy : Nat → ClassId) (ek a : Nat → Nat) (k0 : Nat) (IH : ∀ j : Nat, j < k0 → P_F2 l dC dI cy ek a j) (d : Nat) (L0 : LV) (σ0 : CS) (r0 : RS) (h0 : f_F2 k0 d 0 0 L0 σ0 = some r0) (z : Nat → Nat) (sz : Nat) : vx_Met l yX5_choice w_f_X5_choice ({ frames := 9 + d, cells := r0.2.2.1, slots := r0.2.2.2, locals := 173 + 33 * d }) (va_Pc [.ref (a 40)] (nInF (dC, dI) cy ek sz (vC cy a z σ0))) (xV dC dI cy a (va_A (vC cy a z σ0) sz) [41, 43, 51] z r0) (xX dC dI cy a (va_A (vC cy a z σ0) sz) [41, 43, 51] z r0) r0.2.2.1 r0.2.2.2 (va_A (vC cy a z σ0) sz) := by
  refine vx_ofW (cc := cX5_choice) (maxL := 4) (ret := none) (by decide) rfl ?_
  intro p e s m args below meth c s₁ B hml hno hv
  obtain ⟨rfl, ⟨⟨hsz, hP, hK, hD0, hG⟩, hE⟩, hT⟩ := hv
  have hx := B.exec
  have hb := B.bytes
  have hr := B.returns
  have hts := atoms_spec (ws := w_f_X5_choice) B.pre
  have hown : s.vm.findClass RX5 = some m.cls := findClass_of_methodNamed B.named
  have hlocks := B.notSynchronized
  subst hsz
  have hD := hD0.self (sz := s.heap.size)
  generalize hAe : va_A (vC cy a z σ0) s.heap.size = A at hD hE hT ⊢
  have hA : ∀ q : Nat, s.heap.size ≤ q → A q := fun q h => by rw [← hAe]; exact Or.inr h
  have hS : va_S A s.heap s.heap [] := va_S.rf
  have hl := lv_entry ([.ref (a 40)]) (n := 4) (Nat.le_of_ble_eq_true rfl)
  rw [lg_entry_eq]
  generalize (lg_sl ([.ref (a 40)]) ++ List.replicate (4 - (lg_sl ([.ref (a 40)])).length) Slot.unset).toArray = ls at hl ⊢
  have hl : lv_has ls 4 [(0, .ref (a 40))] := hl
  generalize hmc : r0.2.2.1 = mc
  generalize hms : r0.2.2.2 = ms
  have blk : ∀ k : Nat, k ≤ k0 → (bX p l e (headSpec w_f_X5_choice ({ frames := 9 + d, cells := mc, slots := ms, locals := 173 + 33 * d })).room s m #[.ref (a 40)] below meth c dC dI cy a A (fun r => vx_MQ below (xV dC dI cy a A [41, 43, 51] z r) (xX dC dI cy a A [41, 43, 51] z r) #[.ref (a 40)] s mc ms A) [41, 43, 51] z mc ms 4 (f_F2 k d 0 0) (fun z L => [(0, .ref (a 40))]) 0 (fun z L => [])) ∧ (bX p l e (headSpec w_f_X5_choice ({ frames := 9 + d, cells := mc, slots := ms, locals := 173 + 33 * d })).room s m #[.ref (a 40)] below meth c dC dI cy a A (fun r => vx_MQ below (xV dC dI cy a A [41, 43, 51] z r) (xX dC dI cy a A [41, 43, 51] z r) #[.ref (a 40)] s mc ms A) [41, 43, 51] z mc ms 4 (f_F2 k d 0 1) (fun z L => [(0, .ref (a 40)), (2, .int (L.1 2)), (3, .int (L.1 3))]) 57 (fun z L => [])) ∧ (bX p l e (headSpec w_f_X5_choice ({ frames := 9 + d, cells := mc, slots := ms, locals := 173 + 33 * d })).room s m #[.ref (a 40)] below meth c dC dI cy a A (fun r => vx_MQ below (xV dC dI cy a A [41, 43, 51] z r) (xX dC dI cy a A [41, 43, 51] z r) #[.ref (a 40)] s mc ms A) [41, 43, 51] z mc ms 4 (f_F2 k d 0 2) (fun z L => [(0, .ref (a 40)), (2, .int (L.1 2))]) 139 (fun z L => [])) := by
    intro k
    induction k with
    | zero => exact fun _ => ⟨fun z c1 c2 L σ r h => (by cases h), fun z c1 c2 L σ r h => (by cases h), fun z c1 c2 L σ r h => (by cases h)⟩
    | succ k ih =>
      intro hk
      replace ih := ih (by omega)
      refine ⟨?_, ?_, ?_⟩
      · intro z cells slots L σ r h hzk hc hs H locs ls hP hD hS hl
        rw [f_F2_0, t_X5_choice_0] at h
        refine lv_aload_n hx hb dX5_choice_0 rfl (lv_at hl 0 rfl) ?_
        obtain ⟨r1, hc1, hle1, h9⟩ := ox_ex h
        clear h
        refine kx_v (vx_runV (As := []) (rest := []) ⟨hx, hb, hml, hown, hts⟩ (c_f_X5_opens l hl0 dC dI cy ek a k lZ σ r1 hc1 z H.size) (cwV 0 hts g_f_X5_choice_X5_opens_V173 rfl rfl rfl hd_f_X5_opens (by show 7 + 1 ≤ 9 + d ∧ 8 + (1 + 11) + 126 ≤ 173 + 33 * d; omega)) ⟨nb_blindF, va_recv hK hP (ci := 4) (q0 := 40) rfl rfl, (kx_pre hK hG hE hT hA hP hD hS)⟩ rfl rfl hl.1 rfl (lv_room (Nat.le_of_ble_eq_true rfl)) dX5_choice_1 ⟨Nat.le_trans (Nat.add_le_add_left hle1.1 _) (Nat.le_of_eq hc), Nat.le_trans (Nat.add_le_add_left hle1.2 _) (Nat.le_of_eq hs)⟩) hK hA hzk hP hD hS (by decide) hno hlocks ?_
        rcases h9 with ⟨h00, y1, hny1, hy⟩ | ⟨h00, hy⟩
        · subst hy
          have h := hny1
          refine Or.inl ⟨h00, fun u H locs hz1 hzk hP hD hS => ?_⟩
          obtain rfl := (zk_nil hz1).symm
          replace hc := (Nat.add_assoc _ _ _).trans hc
          replace hs := (Nat.add_assoc _ _ _).trans hs
          refine lv_aload_n hx hb dX5_choice_4 rfl (lv_at hl 0 rfl) ?_
          refine lv_iconst (v := 0) hx hb dX5_choice_5 (by decide) ?_
          obtain ⟨e2, he2, h⟩ := of_ex h
          obtain ⟨r2, hc2, hle2, h9⟩ := ox_ex h
          clear h
          refine kx_v (r := y1) (vx_runV (As := [.int 0]) (rest := []) ⟨hx, hb, hml, hown, hts⟩ ((IH k (by omega)).2.1 e2 (lI lZ 1 0) r1.2.1 r2 hc2 z H.size) (cwV 1 hts g_f_X5_choice_X5_exp_V90 rfl rfl rfl hd_f_X5_exp (by show (9 + e2) + 1 ≤ 9 + d ∧ 8 + (8 + 11) + (173 + 33 * e2) ≤ 173 + 33 * d; omega)) ⟨nb_blindF, va_recv hK hP (ci := 4) (q0 := 40) rfl rfl, (kx_pre hK hG hE hT hA hP hD hS)⟩ rfl rfl hl.1 rfl (lv_room (Nat.le_of_ble_eq_true rfl)) dX5_choice_6 ⟨Nat.le_trans (Nat.add_le_add_left hle2.1 _) (Nat.le_of_eq hc), Nat.le_trans (Nat.add_le_add_left hle2.2 _) (Nat.le_of_eq hs)⟩) hK hA hzk hP hD hS (by decide) hno hlocks ?_
          rcases h9 with ⟨h00, y2, hny2, hy⟩ | ⟨h00, hy⟩
          · subst hy
            have h := hny2
            refine Or.inl ⟨h00, fun z H locs hz2 hzk hP hD hS => ?_⟩
            replace hc := (Nat.add_assoc _ _ _).trans hc
            replace hs := (Nat.add_assoc _ _ _).trans hs
            refine lv_aload_n hx hb dX5_choice_9 rfl (lv_at hl 0 rfl) ?_
            refine lv_bipush (v := 40) hx hb dX5_choice_10 (by decide) ?_
            obtain ⟨r3, hc3, hle3, h9⟩ := ox_ex h
            clear h
            refine kx_v (r := y2) (vx_runV (As := [.int 40]) (rest := []) ⟨hx, hb, hml, hown, hts⟩ (c_f_X5_expect l hl0 dC dI cy ek a k (lI lZ 1 40) r2.2.1 r3 hc3 z H.size) (cwV 1 hts g_f_X5_choice_X5_expect_V141 rfl rfl rfl hd_f_X5_expect (by show 7 + 1 ≤ 9 + d ∧ 8 + (2 + 11) + 126 ≤ 173 + 33 * d; omega)) ⟨nb_blindF, va_recv hK hP (ci := 4) (q0 := 40) rfl rfl, (kx_pre hK hG hE hT hA hP hD hS)⟩ rfl rfl hl.1 rfl (lv_room (Nat.le_of_ble_eq_true rfl)) dX5_choice_12 ⟨Nat.le_trans (Nat.add_le_add_left hle3.1 _) (Nat.le_of_eq hc), Nat.le_trans (Nat.add_le_add_left hle3.2 _) (Nat.le_of_eq hs)⟩) hK hA hzk hP hD hS (by decide) hno hlocks ?_
            rcases h9 with ⟨h00, y3, hny3, hy⟩ | ⟨h00, hy⟩
            · subst hy
              have h := hny3
              refine Or.inl ⟨h00, fun u H locs hz3 hzk hP hD hS => ?_⟩
              obtain rfl := (zk_nil hz3).symm
              replace hc := (Nat.add_assoc _ _ _).trans hc
              replace hs := (Nat.add_assoc _ _ _).trans hs
              refine lv_aload_n hx hb dX5_choice_15 rfl (lv_at hl 0 rfl) ?_
              obtain ⟨b4, hb4, h⟩ := oP_ex h
              refine hgq_40_2 hx hb hts in_f_X5_choice_X5 hown hK hP (hts _ (List.mem_cons_of_mem _ (List.mem_append_left _ (List.mem_append_left _ (List.mem_of_getElem? (i := 24) rfl))))) hb4 dX5_choice_16 ?_
              refine lv_iconst (v := 4) hx hb dX5_choice_19 (by decide) ?_
              refine lv_iconst (v := 0) hx hb dX5_choice_20 (by decide) ?_
              obtain ⟨r5, hc5, hle5, h9⟩ := ox_ex h
              clear h
              refine kx_i (r := y3) (vx_runV (As := [.int 4, .int 0]) (rest := []) ⟨hx, hb, hml, hown, hts⟩ (c_f_X7_emit__P l hl0 dC dI cy ek a k (lI (lI (lB lZ 0 b4) 1 4) 2 0) r3.2.1 r5 hc5 z H.size) (cwV 2 hts g_f_X5_choice_X7_emit__P_V66 rfl rfl rfl hd_f_X7_emit__P (by show 7 + 1 ≤ 9 + d ∧ 8 + (3 + 11) + 121 ≤ 173 + 33 * d; omega)) ⟨nb_blindF, recvP b4 hK hP, (kx_pre hK hG hE hT hA hP hD hS)⟩ rfl rfl hl.1 rfl (lv_room (Nat.le_of_ble_eq_true rfl)) dX5_choice_21 ⟨Nat.le_trans (Nat.add_le_add_left hle5.1 _) (Nat.le_of_eq hc), Nat.le_trans (Nat.add_le_add_left hle5.2 _) (Nat.le_of_eq hs)⟩) hK hA hzk hP hD hS (by decide) hno hlocks ?_
              rcases h9 with ⟨h00, y5, hny5, hy⟩ | ⟨h00, hy⟩
              · subst hy
                have h := hny5
                refine Or.inl ⟨h00, fun z H locs hz5 hzk hP hD hS => ?_⟩
                replace hc := (Nat.add_assoc _ _ _).trans hc
                replace hs := (Nat.add_assoc _ _ _).trans hs
                refine lv_istore_n (lv' := [(1, .int r5.1.2), (0, .ref (a 40))]) hx hb dX5_choice_24 rfl hl (by decide) rfl (fun ls hl => ?_)
                refine lv_aload_n hx hb dX5_choice_25 rfl (lv_at hl 1 rfl) ?_
                refine lv_iconst (v := 0) hx hb dX5_choice_26 (by decide) ?_
                obtain ⟨e6, he6, h⟩ := of_ex h
                obtain ⟨r6, hc6, hle6, h9⟩ := ox_ex h
                clear h
                refine kx_v (r := y5) (vx_runV (As := [.int 0]) (rest := []) ⟨hx, hb, hml, hown, hts⟩ ((IH k (by omega)).2.1 e6 (lI lZ 1 0) r5.2.1 r6 hc6 z H.size) (cwV 1 hts g_f_X5_choice_X5_exp_V90 rfl rfl rfl hd_f_X5_exp (by show (9 + e6) + 1 ≤ 9 + d ∧ 8 + (8 + 11) + (173 + 33 * e6) ≤ 173 + 33 * d; omega)) ⟨nb_blindF, va_recv hK hP (ci := 4) (q0 := 40) rfl rfl, (kx_pre hK hG hE hT hA hP hD hS)⟩ rfl rfl hl.1 rfl (lv_room (Nat.le_of_ble_eq_true rfl)) dX5_choice_27 ⟨Nat.le_trans (Nat.add_le_add_left hle6.1 _) (Nat.le_of_eq hc), Nat.le_trans (Nat.add_le_add_left hle6.2 _) (Nat.le_of_eq hs)⟩) hK hA hzk hP hD hS (by decide) hno hlocks ?_
                rcases h9 with ⟨h00, y6, hny6, hy⟩ | ⟨h00, hy⟩
                · subst hy
                  have h := hny6
                  refine Or.inl ⟨h00, fun z H locs hz6 hzk hP hD hS => ?_⟩
                  replace hc := (Nat.add_assoc _ _ _).trans hc
                  replace hs := (Nat.add_assoc _ _ _).trans hs
                  refine lv_aload_n hx hb dX5_choice_30 rfl (lv_at hl 1 rfl) ?_
                  obtain ⟨b7, hb7, h⟩ := oP_ex h
                  refine hgq_40_2 hx hb hts in_f_X5_choice_X5 hown hK hP (hts _ (List.mem_cons_of_mem _ (List.mem_append_left _ (List.mem_append_left _ (List.mem_of_getElem? (i := 24) rfl))))) hb7 dX5_choice_31 ?_
                  refine lv_iconst (v := 3) hx hb dX5_choice_34 (by decide) ?_
                  refine lv_iconst (v := 0) hx hb dX5_choice_35 (by decide) ?_
                  obtain ⟨r8, hc8, hle8, h9⟩ := ox_ex h
                  clear h
                  refine kx_i (r := y6) (vx_runV (As := [.int 3, .int 0]) (rest := []) ⟨hx, hb, hml, hown, hts⟩ (c_f_X7_emit__P l hl0 dC dI cy ek a k (lI (lI (lB lZ 0 b7) 1 3) 2 0) r6.2.1 r8 hc8 z H.size) (cwV 2 hts g_f_X5_choice_X7_emit__P_V66 rfl rfl rfl hd_f_X7_emit__P (by show 7 + 1 ≤ 9 + d ∧ 8 + (3 + 11) + 121 ≤ 173 + 33 * d; omega)) ⟨nb_blindF, recvP b7 hK hP, (kx_pre hK hG hE hT hA hP hD hS)⟩ rfl rfl hl.1 rfl (lv_room (Nat.le_of_ble_eq_true rfl)) dX5_choice_36 ⟨Nat.le_trans (Nat.add_le_add_left hle8.1 _) (Nat.le_of_eq hc), Nat.le_trans (Nat.add_le_add_left hle8.2 _) (Nat.le_of_eq hs)⟩) hK hA hzk hP hD hS (by decide) hno hlocks ?_
                  rcases h9 with ⟨h00, y8, hny8, hy⟩ | ⟨h00, hy⟩
                  · subst hy
                    have h := hny8
                    refine Or.inl ⟨h00, fun z H locs hz8 hzk hP hD hS => ?_⟩
                    replace hc := (Nat.add_assoc _ _ _).trans hc
                    replace hs := (Nat.add_assoc _ _ _).trans hs
                    refine lv_istore_n (lv' := [(2, .int r8.1.2), (1, .int r5.1.2), (0, .ref (a 40))]) hx hb dX5_choice_39 rfl hl (by decide) rfl (fun ls hl => ?_)
                    refine lv_aload_n hx hb dX5_choice_40 rfl (lv_at hl 2 rfl) ?_
                    obtain ⟨b9, hb9, h⟩ := oP_ex h
                    refine hgq_40_2 hx hb hts in_f_X5_choice_X5 hown hK hP (hts _ (List.mem_cons_of_mem _ (List.mem_append_left _ (List.mem_append_left _ (List.mem_of_getElem? (i := 24) rfl))))) hb9 dX5_choice_41 ?_
                    refine lv_iload_n hx hb dX5_choice_44 rfl (lv_at hl 1 rfl) ?_
                    refine lv_aload_n hx hb dX5_choice_45 rfl (lv_at hl 2 rfl) ?_
                    obtain ⟨b10, hb10, h⟩ := oP_ex h
                    refine hgq_40_2 hx hb hts in_f_X5_choice_X5 hown hK hP (hts _ (List.mem_cons_of_mem _ (List.mem_append_left _ (List.mem_append_left _ (List.mem_of_getElem? (i := 24) rfl))))) hb10 dX5_choice_46 ?_
                    refine hg_P_1n b10 hx hb hts in_f_X5_choice_X7 hown hK hP (va_Nw.use rfl (hG.1 _ (List.mem_of_getElem? (i := 68) rfl))) dX5_choice_49 ?_
                    obtain ⟨r11, hc11, h⟩ := op_ex h
                    refine kc_v (va_runV (As := [.int r5.1.2, .int (r8.2.1.1 (fP b10 1))]) (rest := []) ⟨hx, hb, hml, hown, hts⟩ (c_y_X7_aim__P l dC dI cy a z k (lI (lI (lB lZ 0 b9) 1 r5.1.2) 2 ((r8.2.1.1 (fP b10 1)))) r8.2.1 r11 hc11 H.size) (cwV 2 hts g_y_X5_choice_X7_aim__P_V240 rfl rfl rfl hd_y_X7_aim__P (by show 0 + 1 ≤ 9 + d ∧ 8 + (3 + 11) + 0 ≤ 173 + 33 * d; omega)) ⟨nb_blind, recvP b9 hK hP, (kb_pre hK hG hP hD)⟩ rfl rfl hl.1 rfl (lv_room (Nat.le_of_ble_eq_true rfl)) dX5_choice_52 ⟨(Nat.le_trans (Nat.le_add_right _ _) (Nat.le_of_eq hc)), (Nat.le_trans (Nat.le_add_right _ _) (Nat.le_of_eq hs))⟩) hA hP hD hS (fun H locs hP hD hS => ?_)
                    refine lv_iconst (v := 0) hx hb dX5_choice_55 (by decide) ?_
                    refine lv_istore_n (lv' := [(3, .int 0), (2, .int r8.1.2), (1, .int r5.1.2), (0, .ref (a 40))]) hx hb dX5_choice_56 rfl hl (by decide) rfl (fun ls hl => ?_)
                    exact ih.2.1 z _ _ (lI (lI L 2 r8.1.2) 3 0) r11.2 _ h hzk hc hs H locs ls hP hD hS (lv_sub hl [3, 1, 0] rfl)
                  · subst hy
                    exact Or.inr ⟨h00, rfl, hc, hs⟩
                · subst hy
                  exact Or.inr ⟨h00, rfl, hc, hs⟩
              · subst hy
                exact Or.inr ⟨h00, rfl, hc, hs⟩
            · subst hy
              exact Or.inr ⟨h00, rfl, hc, hs⟩
          · subst hy
            exact Or.inr ⟨h00, rfl, hc, hs⟩
        · subst hy
          exact Or.inr ⟨h00, rfl, hc, hs⟩
      · intro z cells slots L σ r h hzk hc hs H locs ls hP hD hS hl
        rw [f_F2_0, t_X5_choice_1] at h
        refine lv_iload_n hx hb dX5_choice_57 rfl (lv_at hl 2 rfl) ?_
        refine lv_ldc (v := 32768) hx hb hown (hts _ (List.mem_cons_of_mem _ (List.mem_append_left _ (List.mem_append_left _ (List.mem_of_getElem? (i := 32) rfl))))) dX5_choice_58 ?_
        refine lv_icmp_gt (tgt := 139) hx hb dX5_choice_60 (by decide) (fun c1 => ?_) (fun c1 => ?_)
        · rw [if_pos c1] at h
          exact ih.2.2 z _ _ L σ _ h hzk hc hs H locs ls hP hD hS (lv_sub hl [0, 1] rfl)
        · rw [if_neg c1] at h
          refine lv_aload_n hx hb dX5_choice_63 rfl (lv_at hl 0 rfl) ?_
          refine hg_40_0 hx hb hts in_f_X5_choice_X5 hown hK hP (hts _ (List.mem_cons_of_mem _ (List.mem_append_left _ (List.mem_append_left _ (List.mem_of_getElem? (i := 33) rfl))))) dX5_choice_64 ?_
          refine hg_37_2n hx hb hts in_f_X5_choice_X2 hown hK hP (va_Nw.use rfl (hG.1 _ (List.mem_of_getElem? (i := 52) rfl))) dX5_choice_67 ?_
          refine lv_bipush (v := 41) hx hb dX5_choice_70 (by decide) ?_
          refine lv_icmp_ne (tgt := 139) hx hb dX5_choice_72 (by decide) (fun c2 => ?_) (fun c2 => ?_)
          · rw [if_neg c2] at h
            exact ih.2.2 z _ _ L σ _ h hzk hc hs H locs ls hP hD hS (lv_sub hl [0, 1] rfl)
          · rw [if_pos c2] at h
            refine lv_aload_n hx hb dX5_choice_75 rfl (lv_at hl 0 rfl) ?_
            refine hg_40_0 hx hb hts in_f_X5_choice_X5 hown hK hP (hts _ (List.mem_cons_of_mem _ (List.mem_append_left _ (List.mem_append_left _ (List.mem_of_getElem? (i := 33) rfl))))) dX5_choice_76 ?_
            obtain ⟨r3, hc3, hle3, h9⟩ := ox_ex h
            clear h
            refine kx_v (vx_runV (As := []) (rest := []) ⟨hx, hb, hml, hown, hts⟩ (c_f_X2_advance l hl0 dC dI cy ek a k lZ σ r3 hc3 z H.size) (cwV 0 hts g_f_X5_choice_X2_advance_V30 rfl rfl rfl hd_f_X2_advance (by show 6 + 1 ≤ 9 + d ∧ 8 + (7 + 11) + 100 ≤ 173 + 33 * d; omega)) ⟨nb_blindF, va_recv hK hP (ci := 2) (q0 := 37) rfl rfl, (kx_pre hK hG hE hT hA hP hD hS)⟩ rfl rfl hl.1 rfl (lv_room (Nat.le_of_ble_eq_true rfl)) dX5_choice_79 ⟨Nat.le_trans (Nat.add_le_add_left hle3.1 _) (Nat.le_of_eq hc), Nat.le_trans (Nat.add_le_add_left hle3.2 _) (Nat.le_of_eq hs)⟩) hK hA hzk hP hD hS (by decide) hno hlocks ?_
            rcases h9 with ⟨h00, y3, hny3, hy⟩ | ⟨h00, hy⟩
            · subst hy
              have h := hny3
              refine Or.inl ⟨h00, fun u H locs hz3 hzk hP hD hS => ?_⟩
              obtain rfl := (zk_nil hz3).symm
              replace hc := (Nat.add_assoc _ _ _).trans hc
              replace hs := (Nat.add_assoc _ _ _).trans hs
              refine lv_aload_n hx hb dX5_choice_82 rfl (lv_at hl 0 rfl) ?_
              refine lv_iconst (v := 0) hx hb dX5_choice_83 (by decide) ?_
              obtain ⟨e4, he4, h⟩ := of_ex h
              obtain ⟨r4, hc4, hle4, h9⟩ := ox_ex h
              clear h
              refine kx_v (r := y3) (vx_runV (As := [.int 0]) (rest := []) ⟨hx, hb, hml, hown, hts⟩ ((IH k (by omega)).2.1 e4 (lI lZ 1 0) r3.2.1 r4 hc4 z H.size) (cwV 1 hts g_f_X5_choice_X5_exp_V90 rfl rfl rfl hd_f_X5_exp (by show (9 + e4) + 1 ≤ 9 + d ∧ 8 + (8 + 11) + (173 + 33 * e4) ≤ 173 + 33 * d; omega)) ⟨nb_blindF, va_recv hK hP (ci := 4) (q0 := 40) rfl rfl, (kx_pre hK hG hE hT hA hP hD hS)⟩ rfl rfl hl.1 rfl (lv_room (Nat.le_of_ble_eq_true rfl)) dX5_choice_84 ⟨Nat.le_trans (Nat.add_le_add_left hle4.1 _) (Nat.le_of_eq hc), Nat.le_trans (Nat.add_le_add_left hle4.2 _) (Nat.le_of_eq hs)⟩) hK hA hzk hP hD hS (by decide) hno hlocks ?_
              rcases h9 with ⟨h00, y4, hny4, hy⟩ | ⟨h00, hy⟩
              · subst hy
                have h := hny4
                refine Or.inl ⟨h00, fun z H locs hz4 hzk hP hD hS => ?_⟩
                replace hc := (Nat.add_assoc _ _ _).trans hc
                replace hs := (Nat.add_assoc _ _ _).trans hs
                refine lv_aload_n hx hb dX5_choice_87 rfl (lv_at hl 0 rfl) ?_
                refine lv_bipush (v := 40) hx hb dX5_choice_88 (by decide) ?_
                obtain ⟨r5, hc5, hle5, h9⟩ := ox_ex h
                clear h
                refine kx_v (r := y4) (vx_runV (As := [.int 40]) (rest := []) ⟨hx, hb, hml, hown, hts⟩ (c_f_X5_expect l hl0 dC dI cy ek a k (lI lZ 1 40) r4.2.1 r5 hc5 z H.size) (cwV 1 hts g_f_X5_choice_X5_expect_V141 rfl rfl rfl hd_f_X5_expect (by show 7 + 1 ≤ 9 + d ∧ 8 + (2 + 11) + 126 ≤ 173 + 33 * d; omega)) ⟨nb_blindF, va_recv hK hP (ci := 4) (q0 := 40) rfl rfl, (kx_pre hK hG hE hT hA hP hD hS)⟩ rfl rfl hl.1 rfl (lv_room (Nat.le_of_ble_eq_true rfl)) dX5_choice_90 ⟨Nat.le_trans (Nat.add_le_add_left hle5.1 _) (Nat.le_of_eq hc), Nat.le_trans (Nat.add_le_add_left hle5.2 _) (Nat.le_of_eq hs)⟩) hK hA hzk hP hD hS (by decide) hno hlocks ?_
                rcases h9 with ⟨h00, y5, hny5, hy⟩ | ⟨h00, hy⟩
                · subst hy
                  have h := hny5
                  refine Or.inl ⟨h00, fun u H locs hz5 hzk hP hD hS => ?_⟩
                  obtain rfl := (zk_nil hz5).symm
                  replace hc := (Nat.add_assoc _ _ _).trans hc
                  replace hs := (Nat.add_assoc _ _ _).trans hs
                  refine lv_aload_n hx hb dX5_choice_93 rfl (lv_at hl 0 rfl) ?_
                  obtain ⟨b6, hb6, h⟩ := oP_ex h
                  refine hgq_40_2 hx hb hts in_f_X5_choice_X5 hown hK hP (hts _ (List.mem_cons_of_mem _ (List.mem_append_left _ (List.mem_append_left _ (List.mem_of_getElem? (i := 24) rfl))))) hb6 dX5_choice_94 ?_
                  refine lv_iconst (v := 4) hx hb dX5_choice_97 (by decide) ?_
                  refine lv_iconst (v := 0) hx hb dX5_choice_98 (by decide) ?_
                  obtain ⟨r7, hc7, hle7, h9⟩ := ox_ex h
                  clear h
                  refine kx_i (r := y5) (vx_runV (As := [.int 4, .int 0]) (rest := []) ⟨hx, hb, hml, hown, hts⟩ (c_f_X7_emit__P l hl0 dC dI cy ek a k (lI (lI (lB lZ 0 b6) 1 4) 2 0) r5.2.1 r7 hc7 z H.size) (cwV 2 hts g_f_X5_choice_X7_emit__P_V66 rfl rfl rfl hd_f_X7_emit__P (by show 7 + 1 ≤ 9 + d ∧ 8 + (3 + 11) + 121 ≤ 173 + 33 * d; omega)) ⟨nb_blindF, recvP b6 hK hP, (kx_pre hK hG hE hT hA hP hD hS)⟩ rfl rfl hl.1 rfl (lv_room (Nat.le_of_ble_eq_true rfl)) dX5_choice_99 ⟨Nat.le_trans (Nat.add_le_add_left hle7.1 _) (Nat.le_of_eq hc), Nat.le_trans (Nat.add_le_add_left hle7.2 _) (Nat.le_of_eq hs)⟩) hK hA hzk hP hD hS (by decide) hno hlocks ?_
                  rcases h9 with ⟨h00, y7, hny7, hy⟩ | ⟨h00, hy⟩
                  · subst hy
                    have h := hny7
                    refine Or.inl ⟨h00, fun z H locs hz7 hzk hP hD hS => ?_⟩
                    replace hc := (Nat.add_assoc _ _ _).trans hc
                    replace hs := (Nat.add_assoc _ _ _).trans hs
                    refine lv_istore_n (lv' := [(1, .int r7.1.2), (0, .ref (a 40)), (2, .int (L.1 2)), (3, .int (L.1 3))]) hx hb dX5_choice_102 rfl hl (by decide) rfl (fun ls hl => ?_)
                    refine lv_aload_n hx hb dX5_choice_103 rfl (lv_at hl 1 rfl) ?_
                    refine lv_iconst (v := 0) hx hb dX5_choice_104 (by decide) ?_
                    obtain ⟨e8, he8, h⟩ := of_ex h
                    obtain ⟨r8, hc8, hle8, h9⟩ := ox_ex h
                    clear h
                    refine kx_v (r := y7) (vx_runV (As := [.int 0]) (rest := []) ⟨hx, hb, hml, hown, hts⟩ ((IH k (by omega)).2.1 e8 (lI lZ 1 0) r7.2.1 r8 hc8 z H.size) (cwV 1 hts g_f_X5_choice_X5_exp_V90 rfl rfl rfl hd_f_X5_exp (by show (9 + e8) + 1 ≤ 9 + d ∧ 8 + (8 + 11) + (173 + 33 * e8) ≤ 173 + 33 * d; omega)) ⟨nb_blindF, va_recv hK hP (ci := 4) (q0 := 40) rfl rfl, (kx_pre hK hG hE hT hA hP hD hS)⟩ rfl rfl hl.1 rfl (lv_room (Nat.le_of_ble_eq_true rfl)) dX5_choice_105 ⟨Nat.le_trans (Nat.add_le_add_left hle8.1 _) (Nat.le_of_eq hc), Nat.le_trans (Nat.add_le_add_left hle8.2 _) (Nat.le_of_eq hs)⟩) hK hA hzk hP hD hS (by decide) hno hlocks ?_
                    rcases h9 with ⟨h00, y8, hny8, hy⟩ | ⟨h00, hy⟩
                    · subst hy
                      have h := hny8
                      refine Or.inl ⟨h00, fun z H locs hz8 hzk hP hD hS => ?_⟩
                      replace hc := (Nat.add_assoc _ _ _).trans hc
                      replace hs := (Nat.add_assoc _ _ _).trans hs
                      refine lv_aload_n hx hb dX5_choice_108 rfl (lv_at hl 1 rfl) ?_
                      obtain ⟨b9, hb9, h⟩ := oP_ex h
                      refine hgq_40_2 hx hb hts in_f_X5_choice_X5 hown hK hP (hts _ (List.mem_cons_of_mem _ (List.mem_append_left _ (List.mem_append_left _ (List.mem_of_getElem? (i := 24) rfl))))) hb9 dX5_choice_109 ?_
                      refine lv_iconst (v := 3) hx hb dX5_choice_112 (by decide) ?_
                      refine lv_iload_n hx hb dX5_choice_113 rfl (lv_at hl 2 rfl) ?_
                      obtain ⟨r10, hc10, hle10, h9⟩ := ox_ex h
                      clear h
                      refine kx_i (r := y8) (vx_runV (As := [.int 3, .int (L.1 2)]) (rest := []) ⟨hx, hb, hml, hown, hts⟩ (c_f_X7_emit__P l hl0 dC dI cy ek a k (lI (lI (lB lZ 0 b9) 1 3) 2 ((L.1 2))) r8.2.1 r10 hc10 z H.size) (cwV 2 hts g_f_X5_choice_X7_emit__P_V66 rfl rfl rfl hd_f_X7_emit__P (by show 7 + 1 ≤ 9 + d ∧ 8 + (3 + 11) + 121 ≤ 173 + 33 * d; omega)) ⟨nb_blindF, recvP b9 hK hP, (kx_pre hK hG hE hT hA hP hD hS)⟩ rfl rfl hl.1 rfl (lv_room (Nat.le_of_ble_eq_true rfl)) dX5_choice_114 ⟨Nat.le_trans (Nat.add_le_add_left hle10.1 _) (Nat.le_of_eq hc), Nat.le_trans (Nat.add_le_add_left hle10.2 _) (Nat.le_of_eq hs)⟩) hK hA hzk hP hD hS (by decide) hno hlocks ?_
                      rcases h9 with ⟨h00, y10, hny10, hy⟩ | ⟨h00, hy⟩
                      · subst hy
                        have h := hny10
                        refine Or.inl ⟨h00, fun z H locs hz10 hzk hP hD hS => ?_⟩
                        replace hc := (Nat.add_assoc _ _ _).trans hc
                        replace hs := (Nat.add_assoc _ _ _).trans hs
                        refine lv_istore_n (lv' := [(2, .int r10.1.2), (1, .int r7.1.2), (0, .ref (a 40)), (3, .int (L.1 3))]) hx hb dX5_choice_117 rfl hl (by decide) rfl (fun ls hl => ?_)
                        refine lv_aload_n hx hb dX5_choice_118 rfl (lv_at hl 2 rfl) ?_
                        obtain ⟨b11, hb11, h⟩ := oP_ex h
                        refine hgq_40_2 hx hb hts in_f_X5_choice_X5 hown hK hP (hts _ (List.mem_cons_of_mem _ (List.mem_append_left _ (List.mem_append_left _ (List.mem_of_getElem? (i := 24) rfl))))) hb11 dX5_choice_119 ?_
                        refine lv_iload_n hx hb dX5_choice_122 rfl (lv_at hl 1 rfl) ?_
                        refine lv_aload_n hx hb dX5_choice_123 rfl (lv_at hl 2 rfl) ?_
                        obtain ⟨b12, hb12, h⟩ := oP_ex h
                        refine hgq_40_2 hx hb hts in_f_X5_choice_X5 hown hK hP (hts _ (List.mem_cons_of_mem _ (List.mem_append_left _ (List.mem_append_left _ (List.mem_of_getElem? (i := 24) rfl))))) hb12 dX5_choice_124 ?_
                        refine hg_P_1n b12 hx hb hts in_f_X5_choice_X7 hown hK hP (va_Nw.use rfl (hG.1 _ (List.mem_of_getElem? (i := 68) rfl))) dX5_choice_127 ?_
                        obtain ⟨r13, hc13, h⟩ := op_ex h
                        refine kc_v (va_runV (As := [.int r7.1.2, .int (r10.2.1.1 (fP b12 1))]) (rest := []) ⟨hx, hb, hml, hown, hts⟩ (c_y_X7_aim__P l dC dI cy a z k (lI (lI (lB lZ 0 b11) 1 r7.1.2) 2 ((r10.2.1.1 (fP b12 1)))) r10.2.1 r13 hc13 H.size) (cwV 2 hts g_y_X5_choice_X7_aim__P_V240 rfl rfl rfl hd_y_X7_aim__P (by show 0 + 1 ≤ 9 + d ∧ 8 + (3 + 11) + 0 ≤ 173 + 33 * d; omega)) ⟨nb_blind, recvP b11 hK hP, (kb_pre hK hG hP hD)⟩ rfl rfl hl.1 rfl (lv_room (Nat.le_of_ble_eq_true rfl)) dX5_choice_130 ⟨(Nat.le_trans (Nat.le_add_right _ _) (Nat.le_of_eq hc)), (Nat.le_trans (Nat.le_add_right _ _) (Nat.le_of_eq hs))⟩) hA hP hD hS (fun H locs hP hD hS => ?_)
                        refine lv_iinc (v := ((L.1 3)) + 1) (lv' := [(3, .int (((L.1 3)) + 1)), (2, .int r10.1.2), (1, .int r7.1.2), (0, .ref (a 40))]) hx hb dX5_choice_133 hl (k := 3) rfl rfl (by decide) rfl (fun ls hl => ?_)
                        refine lv_goto (tgt := 57) hx hb dX5_choice_136 (by decide) ?_
                        exact ih.2.1 z _ _ (lI (lI L 2 r10.1.2) 3 ((((L.1 3)) + 1))) r13.2 _ h hzk hc hs H locs ls hP hD hS (lv_sub hl [3, 1, 0] rfl)
                      · subst hy
                        exact Or.inr ⟨h00, rfl, hc, hs⟩
                    · subst hy
                      exact Or.inr ⟨h00, rfl, hc, hs⟩
                  · subst hy
                    exact Or.inr ⟨h00, rfl, hc, hs⟩
                · subst hy
                  exact Or.inr ⟨h00, rfl, hc, hs⟩
              · subst hy
                exact Or.inr ⟨h00, rfl, hc, hs⟩
            · subst hy
              exact Or.inr ⟨h00, rfl, hc, hs⟩
      · intro z cells slots L σ r h hzk hc hs H locs ls hP hD hS hl
        rw [f_F2_0, t_X5_choice_2] at h
        refine lv_aload_n hx hb dX5_choice_139 rfl (lv_at hl 0 rfl) ?_
        refine lv_bipush (v := 42) hx hb dX5_choice_140 (by decide) ?_
        obtain ⟨r1, hc1, hle1, h9⟩ := ox_ex h
        clear h
        refine kx_v (vx_runV (As := [.int 42]) (rest := []) ⟨hx, hb, hml, hown, hts⟩ (c_f_X5_expect l hl0 dC dI cy ek a k (lI lZ 1 42) σ r1 hc1 z H.size) (cwV 1 hts g_f_X5_choice_X5_expect_V141 rfl rfl rfl hd_f_X5_expect (by show 7 + 1 ≤ 9 + d ∧ 8 + (2 + 11) + 126 ≤ 173 + 33 * d; omega)) ⟨nb_blindF, va_recv hK hP (ci := 4) (q0 := 40) rfl rfl, (kx_pre hK hG hE hT hA hP hD hS)⟩ rfl rfl hl.1 rfl (lv_room (Nat.le_of_ble_eq_true rfl)) dX5_choice_142 ⟨Nat.le_trans (Nat.add_le_add_left hle1.1 _) (Nat.le_of_eq hc), Nat.le_trans (Nat.add_le_add_left hle1.2 _) (Nat.le_of_eq hs)⟩) hK hA hzk hP hD hS (by decide) hno hlocks ?_
        rcases h9 with ⟨h00, y1, hny1, hy⟩ | ⟨h00, hy⟩
        · subst hy
          have h := hny1
          refine Or.inl ⟨h00, fun u H locs hz1 hzk hP hD hS => ?_⟩
          obtain rfl := (zk_nil hz1).symm
          replace hc := (Nat.add_assoc _ _ _).trans hc
          replace hs := (Nat.add_assoc _ _ _).trans hs
          refine lv_aload_n hx hb dX5_choice_145 rfl (lv_at hl 0 rfl) ?_
          refine lv_iconst (v := 0) hx hb dX5_choice_146 (by decide) ?_
          obtain ⟨e2, he2, h⟩ := of_ex h
          obtain ⟨r2, hc2, hle2, h9⟩ := ox_ex h
          clear h
          refine kx_v (r := y1) (vx_runV (As := [.int 0]) (rest := []) ⟨hx, hb, hml, hown, hts⟩ ((IH k (by omega)).2.1 e2 (lI lZ 1 0) r1.2.1 r2 hc2 z H.size) (cwV 1 hts g_f_X5_choice_X5_exp_V90 rfl rfl rfl hd_f_X5_exp (by show (9 + e2) + 1 ≤ 9 + d ∧ 8 + (8 + 11) + (173 + 33 * e2) ≤ 173 + 33 * d; omega)) ⟨nb_blindF, va_recv hK hP (ci := 4) (q0 := 40) rfl rfl, (kx_pre hK hG hE hT hA hP hD hS)⟩ rfl rfl hl.1 rfl (lv_room (Nat.le_of_ble_eq_true rfl)) dX5_choice_147 ⟨Nat.le_trans (Nat.add_le_add_left hle2.1 _) (Nat.le_of_eq hc), Nat.le_trans (Nat.add_le_add_left hle2.2 _) (Nat.le_of_eq hs)⟩) hK hA hzk hP hD hS (by decide) hno hlocks ?_
          rcases h9 with ⟨h00, y2, hny2, hy⟩ | ⟨h00, hy⟩
          · subst hy
            have h := hny2
            refine Or.inl ⟨h00, fun z H locs hz2 hzk hP hD hS => ?_⟩
            replace hc := (Nat.add_assoc _ _ _).trans hc
            replace hs := (Nat.add_assoc _ _ _).trans hs
            refine lv_aload_n hx hb dX5_choice_150 rfl (lv_at hl 0 rfl) ?_
            refine lv_bipush (v := 38) hx hb dX5_choice_151 (by decide) ?_
            obtain ⟨r3, hc3, hle3, h9⟩ := ox_ex h
            clear h
            refine kx_v (r := y2) (vx_runV (As := [.int 38]) (rest := []) ⟨hx, hb, hml, hown, hts⟩ (c_f_X5_closes l hl0 dC dI cy ek a k (lI lZ 1 38) r2.2.1 r3 hc3 z H.size) (cwV 1 hts g_f_X5_choice_X5_closes_V186 rfl rfl rfl hd_f_X5_closes (by show 7 + 1 ≤ 9 + d ∧ 8 + (2 + 11) + 126 ≤ 173 + 33 * d; omega)) ⟨nb_blindF, va_recv hK hP (ci := 4) (q0 := 40) rfl rfl, (kx_pre hK hG hE hT hA hP hD hS)⟩ rfl rfl hl.1 rfl (lv_room (Nat.le_of_ble_eq_true rfl)) dX5_choice_153 ⟨Nat.le_trans (Nat.add_le_add_left hle3.1 _) (Nat.le_of_eq hc), Nat.le_trans (Nat.add_le_add_left hle3.2 _) (Nat.le_of_eq hs)⟩) hK hA hzk hP hD hS (by decide) hno hlocks ?_
            rcases h9 with ⟨h00, y3, hny3, hy⟩ | ⟨h00, hy⟩
            · subst hy
              have h := hny3
              refine Or.inl ⟨h00, fun u H locs hz3 hzk hP hD hS => ?_⟩
              obtain rfl := (zk_nil hz3).symm
              replace hc := (Nat.add_assoc _ _ _).trans hc
              replace hs := (Nat.add_assoc _ _ _).trans hs
              refine lv_aload_n hx hb dX5_choice_156 rfl (lv_at hl 0 rfl) ?_
              refine lv_iload_n hx hb dX5_choice_157 rfl (lv_at hl 1 rfl) ?_
              obtain ⟨r4, hc4, h⟩ := op_ex h
              refine kc_v (va_runV (As := [.int (L.1 2)]) (rest := []) ⟨hx, hb, hml, hown, hts⟩ (c_y_X5_aimAll l dC dI cy a z k (lI lZ 1 ((L.1 2))) r3.2.1 r4 hc4 H.size) (cwV 1 hts g_y_X5_choice_X5_aimAll_V249 rfl rfl rfl hd_y_X5_aimAll (by show 1 + 1 ≤ 9 + d ∧ 8 + (5 + 11) + 22 ≤ 173 + 33 * d; omega)) ⟨nb_blind, va_recv hK hP (ci := 4) (q0 := 40) rfl rfl, (kb_pre hK hG hP hD)⟩ rfl rfl hl.1 rfl (lv_room (Nat.le_of_ble_eq_true rfl)) dX5_choice_158 ⟨(Nat.le_trans (Nat.le_add_right _ _) (Nat.le_of_eq hc)), (Nat.le_trans (Nat.le_add_right _ _) (Nat.le_of_eq hs))⟩) hA hP hD hS (fun H locs hP hD hS => ?_)
              obtain rfl := Option.some.inj h
              subst hc
              subst hs
              exact xr_v hx hb hr hK hzk hP hD hS hlocks dX5_choice_161
            · subst hy
              exact Or.inr ⟨h00, rfl, hc, hs⟩
          · subst hy
            exact Or.inr ⟨h00, rfl, hc, hs⟩
        · subst hy
          exact Or.inr ⟨h00, rfl, hc, hs⟩
  exact (blk k0 (Nat.le_refl _)).1 z 0 0 L0 σ0 r0 h0 (zk_rf _ _) ((Nat.zero_add _).trans hmc) ((Nat.zero_add _).trans hms) s.heap [] ls hP hD hS hl
theorem gg_f_X5_exp_X2_advance : GoodIn w_f_X5_exp w_f_X2_advance := goodIn_sub (fun w h => (List.mem_cons.mp h).elim (fun e => (List.mem_cons_of_mem _ (List.mem_append_left _ (List.mem_append_right _ (List.mem_append_right _ (List.mem_append_right _ (List.mem_append_right _ (List.mem_append_right _ (List.mem_append_left _ (List.mem_cons.mpr (Or.inl e))))))))))) (fun h => (List.mem_append.mp h).elim (fun h => (List.mem_cons_of_mem _ (List.mem_append_left _ (List.mem_append_right _ (List.mem_append_right _ (List.mem_append_right _ (List.mem_append_right _ (List.mem_append_right _ (List.mem_append_left _ (List.mem_cons_of_mem _ h)))))))))) (fun h => List.mem_cons_of_mem _ (List.mem_append_right _ h)))) w_f_X2_advance_good
theorem g_f_X5_exp_X2_advance_V30 : GoodIn w_f_X5_exp (wsV RX5 30 RX2 yX2_advance w_f_X2_advance) := goodIn_app (nb_g4 (List.mem_cons_of_mem _ (List.mem_append_left _ (List.mem_append_left _ (List.mem_of_getElem? (i := 34) rfl)))) (List.mem_cons_of_mem _ (List.mem_append_left _ (List.mem_append_left _ (List.mem_of_getElem? (i := 35) rfl)))) (List.mem_cons_of_mem _ (List.mem_append_left _ (List.mem_append_left _ (List.mem_of_getElem? (i := 36) rfl)))) (List.mem_cons_of_mem _ (List.mem_append_left _ (List.mem_append_left _ (List.mem_of_getElem? (i := 37) rfl)))) (by decide +kernel)) gg_f_X5_exp_X2_advance
theorem gg_f_X5_exp_X5_opens : GoodIn w_f_X5_exp w_f_X5_opens := goodIn_sub (fun w h => (List.mem_cons.mp h).elim (fun e => (List.mem_cons_of_mem _ (List.mem_append_left _ (List.mem_append_right _ (List.mem_append_left _ (List.mem_cons.mpr (Or.inl e))))))) (fun h => (List.mem_append.mp h).elim (fun h => (List.mem_cons_of_mem _ (List.mem_append_left _ (List.mem_append_right _ (List.mem_append_left _ (List.mem_cons_of_mem _ h)))))) (fun h => List.mem_cons_of_mem _ (List.mem_append_right _ h)))) w_f_X5_opens_good
theorem g_f_X5_exp_X5_opens_V173 : GoodIn w_f_X5_exp (wsV RX5 173 RX5 yX5_opens w_f_X5_opens) := goodIn_app (nb_g4 (List.mem_cons_of_mem _ (List.mem_append_left _ (List.mem_append_left _ (List.mem_of_getElem? (i := 14) rfl)))) (List.mem_cons_of_mem _ (List.mem_append_left _ (List.mem_append_left _ (List.mem_of_getElem? (i := 15) rfl)))) (List.mem_cons_of_mem _ (List.mem_append_left _ (List.mem_append_left _ (List.mem_of_getElem? (i := 16) rfl)))) (List.mem_cons_of_mem _ (List.mem_append_left _ (List.mem_append_left _ (List.mem_of_getElem? (i := 17) rfl)))) (by decide +kernel)) gg_f_X5_exp_X5_opens
theorem gg_f_X5_exp_X5_operand : GoodIn w_f_X5_exp w_f_X5_operand := goodIn_sub (fun w h => (List.mem_cons.mp h).elim (fun e => e ▸ (List.mem_cons_of_mem _ (List.mem_append_left _ (List.mem_append_left _ (List.mem_of_getElem? (i := 8) rfl))))) (fun h => List.mem_cons_of_mem _ h)) w_f_X5_operand_good
theorem g_f_X5_exp_X5_operand_V360 : GoodIn w_f_X5_exp (wsV RX5 360 RX5 yX5_operand w_f_X5_operand) := goodIn_app (nb_g4 (List.mem_cons_of_mem _ (List.mem_append_left _ (List.mem_append_left _ (List.mem_of_getElem? (i := 51) rfl)))) (List.mem_cons_of_mem _ (List.mem_append_left _ (List.mem_append_left _ (List.mem_of_getElem? (i := 52) rfl)))) (List.mem_cons_of_mem _ (List.mem_append_left _ (List.mem_append_left _ (List.mem_of_getElem? (i := 53) rfl)))) (List.mem_cons_of_mem _ (List.mem_append_left _ (List.mem_append_left _ (List.mem_of_getElem? (i := 17) rfl)))) (by decide +kernel)) gg_f_X5_exp_X5_operand
theorem gg_f_X5_exp_X5_postpone : GoodIn w_f_X5_exp w_f_X5_postpone := goodIn_sub (fun w h => (List.mem_cons.mp h).elim (fun e => (List.mem_cons_of_mem _ (List.mem_append_left _ (List.mem_append_right _ (List.mem_append_right _ (List.mem_append_right _ (List.mem_append_right _ (List.mem_append_right _ (List.mem_append_right _ (List.mem_append_right _ (List.mem_append_right _ (List.mem_append_right _ (List.mem_append_right _ (List.mem_append_right _ (List.mem_append_right _ (List.mem_append_left _ (List.mem_cons.mpr (Or.inl e)))))))))))))))))) (fun h => (List.mem_append.mp h).elim (fun h => (List.mem_cons_of_mem _ (List.mem_append_left _ (List.mem_append_right _ (List.mem_append_right _ (List.mem_append_right _ (List.mem_append_right _ (List.mem_append_right _ (List.mem_append_right _ (List.mem_append_right _ (List.mem_append_right _ (List.mem_append_right _ (List.mem_append_right _ (List.mem_append_right _ (List.mem_append_right _ (List.mem_append_left _ (List.mem_cons_of_mem _ h))))))))))))))))) (fun h => List.mem_cons_of_mem _ (List.mem_append_right _ h)))) w_f_X5_postpone_good
theorem g_f_X5_exp_X5_postpone_V372 : GoodIn w_f_X5_exp (wsV RX5 372 RX5 yX5_postpone w_f_X5_postpone) := goodIn_app (nb_g4 (List.mem_cons_of_mem _ (List.mem_append_left _ (List.mem_append_left _ (List.mem_of_getElem? (i := 58) rfl)))) (List.mem_cons_of_mem _ (List.mem_append_left _ (List.mem_append_left _ (List.mem_of_getElem? (i := 59) rfl)))) (List.mem_cons_of_mem _ (List.mem_append_left _ (List.mem_append_left _ (List.mem_of_getElem? (i := 60) rfl)))) (List.mem_cons_of_mem _ (List.mem_append_left _ (List.mem_append_left _ (List.mem_of_getElem? (i := 17) rfl)))) (by decide +kernel)) gg_f_X5_exp_X5_postpone
theorem gg_f_X5_exp_X5_prefix : GoodIn w_f_X5_exp w_f_X5_prefix := goodIn_sub (fun w h => (List.mem_cons.mp h).elim (fun e => (List.mem_cons_of_mem _ (List.mem_append_left _ (List.mem_append_right _ (List.mem_append_right _ (List.mem_append_right _ (List.mem_append_right _ (List.mem_append_right _ (List.mem_append_right _ (List.mem_append_right _ (List.mem_append_right _ (List.mem_append_right _ (List.mem_append_left _ (List.mem_cons.mpr (Or.inl e))))))))))))))) (fun h => (List.mem_append.mp h).elim (fun h => (List.mem_cons_of_mem _ (List.mem_append_left _ (List.mem_append_right _ (List.mem_append_right _ (List.mem_append_right _ (List.mem_append_right _ (List.mem_append_right _ (List.mem_append_right _ (List.mem_append_right _ (List.mem_append_right _ (List.mem_append_right _ (List.mem_append_left _ (List.mem_cons_of_mem _ h)))))))))))))) (fun h => List.mem_cons_of_mem _ (List.mem_append_right _ h)))) w_f_X5_prefix_good
theorem g_f_X5_exp_X5_prefix_V356 : GoodIn w_f_X5_exp (wsV RX5 356 RX5 yX5_prefix w_f_X5_prefix) := goodIn_app (nb_g4 (List.mem_cons_of_mem _ (List.mem_append_left _ (List.mem_append_left _ (List.mem_of_getElem? (i := 48) rfl)))) (List.mem_cons_of_mem _ (List.mem_append_left _ (List.mem_append_left _ (List.mem_of_getElem? (i := 49) rfl)))) (List.mem_cons_of_mem _ (List.mem_append_left _ (List.mem_append_left _ (List.mem_of_getElem? (i := 50) rfl)))) (List.mem_cons_of_mem _ (List.mem_append_left _ (List.mem_append_left _ (List.mem_of_getElem? (i := 17) rfl)))) (by decide +kernel)) gg_f_X5_exp_X5_prefix
theorem gg_f_X5_exp_X5_settle : GoodIn w_f_X5_exp w_f_X5_settle := goodIn_sub (fun w h => (List.mem_cons.mp h).elim (fun e => (List.mem_cons_of_mem _ (List.mem_append_left _ (List.mem_append_right _ (List.mem_append_right _ (List.mem_append_right _ (List.mem_append_right _ (List.mem_append_right _ (List.mem_append_right _ (List.mem_append_right _ (List.mem_append_right _ (List.mem_append_left _ (List.mem_cons.mpr (Or.inl e)))))))))))))) (fun h => (List.mem_append.mp h).elim (fun h => (List.mem_cons_of_mem _ (List.mem_append_left _ (List.mem_append_right _ (List.mem_append_right _ (List.mem_append_right _ (List.mem_append_right _ (List.mem_append_right _ (List.mem_append_right _ (List.mem_append_right _ (List.mem_append_right _ (List.mem_append_left _ (List.mem_cons_of_mem _ h))))))))))))) (fun h => List.mem_cons_of_mem _ (List.mem_append_right _ h)))) w_f_X5_settle_good
theorem g_f_X5_exp_X5_settle_V366 : GoodIn w_f_X5_exp (wsV RX5 366 RX5 yX5_settle w_f_X5_settle) := goodIn_app (nb_g4 (List.mem_cons_of_mem _ (List.mem_append_left _ (List.mem_append_left _ (List.mem_of_getElem? (i := 45) rfl)))) (List.mem_cons_of_mem _ (List.mem_append_left _ (List.mem_append_left _ (List.mem_of_getElem? (i := 46) rfl)))) (List.mem_cons_of_mem _ (List.mem_append_left _ (List.mem_append_left _ (List.mem_of_getElem? (i := 47) rfl)))) (List.mem_cons_of_mem _ (List.mem_append_left _ (List.mem_append_left _ (List.mem_of_getElem? (i := 17) rfl)))) (by decide +kernel)) gg_f_X5_exp_X5_settle
theorem gg_f_X5_exp_X7_emit__P : GoodIn w_f_X5_exp w_f_X7_emit__P := goodIn_sub (fun w h => (List.mem_cons.mp h).elim (fun e => (List.mem_cons_of_mem _ (List.mem_append_left _ (List.mem_append_right _ (List.mem_append_right _ (List.mem_append_right _ (List.mem_append_left _ (List.mem_cons.mpr (Or.inl e))))))))) (fun h => (List.mem_append.mp h).elim (fun h => (List.mem_cons_of_mem _ (List.mem_append_left _ (List.mem_append_right _ (List.mem_append_right _ (List.mem_append_right _ (List.mem_append_left _ (List.mem_cons_of_mem _ h)))))))) (fun h => List.mem_cons_of_mem _ (List.mem_append_right _ h)))) w_f_X7_emit__P_good
theorem g_f_X5_exp_X7_emit__P_V66 : GoodIn w_f_X5_exp (wsV RX5 66 RX7 yX7_emit w_f_X7_emit__P) := goodIn_app (nb_g4 (List.mem_cons_of_mem _ (List.mem_append_left _ (List.mem_append_left _ (List.mem_of_getElem? (i := 25) rfl)))) (List.mem_cons_of_mem _ (List.mem_append_left _ (List.mem_append_left _ (List.mem_of_getElem? (i := 26) rfl)))) (List.mem_cons_of_mem _ (List.mem_append_left _ (List.mem_append_left _ (List.mem_of_getElem? (i := 27) rfl)))) (List.mem_cons_of_mem _ (List.mem_append_left _ (List.mem_append_left _ (List.mem_of_getElem? (i := 28) rfl)))) (by decide +kernel)) gg_f_X5_exp_X7_emit__P
theorem gg_f_X5_exp_X5_binaryOp : GoodIn w_f_X5_exp w_y_X5_binaryOp := goodIn_sub (fun w h => (List.mem_cons.mp h).elim (fun e => (List.mem_cons_of_mem _ (List.mem_append_left _ (List.mem_append_right _ (List.mem_append_right _ (List.mem_append_right _ (List.mem_append_right _ (List.mem_append_right _ (List.mem_append_right _ (List.mem_append_right _ (List.mem_append_right _ (List.mem_append_right _ (List.mem_append_right _ (List.mem_append_right _ (List.mem_append_left _ (List.mem_cons.mpr (Or.inl e))))))))))))))))) (fun h => (List.mem_append.mp h).elim (fun h => (List.mem_cons_of_mem _ (List.mem_append_left _ (List.mem_append_right _ (List.mem_append_right _ (List.mem_append_right _ (List.mem_append_right _ (List.mem_append_right _ (List.mem_append_right _ (List.mem_append_right _ (List.mem_append_right _ (List.mem_append_right _ (List.mem_append_right _ (List.mem_append_right _ (List.mem_append_left _ (List.mem_cons_of_mem _ h)))))))))))))))) (fun h => List.mem_cons_of_mem _ (List.mem_append_right _ h)))) w_y_X5_binaryOp_good
theorem g_y_X5_exp_X5_binaryOp_S375 : GoodIn w_f_X5_exp (va_wsS RX5 375 yX5_binaryOp w_y_X5_binaryOp) := goodIn_app (nb_g3 (List.mem_cons_of_mem _ (List.mem_append_left _ (List.mem_append_left _ (List.mem_of_getElem? (i := 56) rfl)))) (List.mem_cons_of_mem _ (List.mem_append_left _ (List.mem_append_left _ (List.mem_of_getElem? (i := 57) rfl)))) (List.mem_cons_of_mem _ (List.mem_append_left _ (List.mem_append_left _ (List.mem_of_getElem? (i := 17) rfl)))) (by decide +kernel)) gg_f_X5_exp_X5_binaryOp
theorem gg_f_X5_exp_X5_level : GoodIn w_f_X5_exp w_y_X5_level := goodIn_sub (fun w h => (List.mem_cons.mp h).elim (fun e => (List.mem_cons_of_mem _ (List.mem_append_left _ (List.mem_append_right _ (List.mem_append_right _ (List.mem_append_right _ (List.mem_append_right _ (List.mem_append_right _ (List.mem_append_right _ (List.mem_append_right _ (List.mem_append_right _ (List.mem_append_right _ (List.mem_append_right _ (List.mem_append_left _ (List.mem_cons.mpr (Or.inl e)))))))))))))))) (fun h => (List.mem_append.mp h).elim (fun h => (List.mem_cons_of_mem _ (List.mem_append_left _ (List.mem_append_right _ (List.mem_append_right _ (List.mem_append_right _ (List.mem_append_right _ (List.mem_append_right _ (List.mem_append_right _ (List.mem_append_right _ (List.mem_append_right _ (List.mem_append_right _ (List.mem_append_right _ (List.mem_append_left _ (List.mem_cons_of_mem _ h))))))))))))))) (fun h => List.mem_cons_of_mem _ (List.mem_append_right _ h)))) w_y_X5_level_good
theorem g_y_X5_exp_X5_level_S363 : GoodIn w_f_X5_exp (va_wsS RX5 363 yX5_level w_y_X5_level) := goodIn_app (nb_g3 (List.mem_cons_of_mem _ (List.mem_append_left _ (List.mem_append_left _ (List.mem_of_getElem? (i := 54) rfl)))) (List.mem_cons_of_mem _ (List.mem_append_left _ (List.mem_append_left _ (List.mem_of_getElem? (i := 55) rfl)))) (List.mem_cons_of_mem _ (List.mem_append_left _ (List.mem_append_left _ (List.mem_of_getElem? (i := 17) rfl)))) (by decide +kernel)) gg_f_X5_exp_X5_level
theorem gg_f_X5_exp_X5_postponedLevel : GoodIn w_f_X5_exp w_y_X5_postponedLevel := goodIn_sub (fun w h => (List.mem_cons.mp h).elim (fun e => (List.mem_cons_of_mem _ (List.mem_append_left _ (List.mem_append_right _ (List.mem_append_right _ (List.mem_append_right _ (List.mem_append_right _ (List.mem_append_right _ (List.mem_append_right _ (List.mem_append_right _ (List.mem_append_right _ (List.mem_append_right _ (List.mem_append_right _ (List.mem_append_right _ (List.mem_append_right _ (List.mem_append_right _ (List.mem_append_left _ (List.mem_cons.mpr (Or.inl e))))))))))))))))))) (fun h => (List.mem_append.mp h).elim (fun h => (List.mem_cons_of_mem _ (List.mem_append_left _ (List.mem_append_right _ (List.mem_append_right _ (List.mem_append_right _ (List.mem_append_right _ (List.mem_append_right _ (List.mem_append_right _ (List.mem_append_right _ (List.mem_append_right _ (List.mem_append_right _ (List.mem_append_right _ (List.mem_append_right _ (List.mem_append_right _ (List.mem_append_right _ (List.mem_append_left _ (List.mem_cons_of_mem _ h)))))))))))))))))) (fun h => List.mem_cons_of_mem _ (List.mem_append_right _ h)))) w_y_X5_postponedLevel_good
theorem g_y_X5_exp_X5_postponedLevel_V369 : GoodIn w_f_X5_exp (wsV RX5 369 RX5 yX5_postponedLevel w_y_X5_postponedLevel) := goodIn_app (nb_g4 (List.mem_cons_of_mem _ (List.mem_append_left _ (List.mem_append_left _ (List.mem_of_getElem? (i := 61) rfl)))) (List.mem_cons_of_mem _ (List.mem_append_left _ (List.mem_append_left _ (List.mem_of_getElem? (i := 62) rfl)))) (List.mem_cons_of_mem _ (List.mem_append_left _ (List.mem_append_left _ (List.mem_of_getElem? (i := 63) rfl)))) (List.mem_cons_of_mem _ (List.mem_append_left _ (List.mem_append_left _ (List.mem_of_getElem? (i := 17) rfl)))) (by decide +kernel)) gg_f_X5_exp_X5_postponedLevel
set_option maxHeartbeats 40000000 in
set_option maxRecDepth 100000 in
theorem c_t_X5_exp (l : Launch) (hl0 : l.stackTraces = false) (dC : Nat → ClassId) (dI : Nat → Nat → Nat) (cy : Nat → ClassId) (ek a : Nat → Nat) (k0 : Nat) (IH : ∀ j : Nat, j < k0 → P_F2 l dC dI cy ek a j) (d : Nat) (L0 : LV) (σ0 : CS) (r0 : RS) (h0 : f_F2 k0 d 1 0 L0 σ0 = some r0) (z : Nat → Nat) (sz : Nat) : vx_Met l yX5_exp w_f_X5_exp ({ frames := 9 + d, cells := r0.2.2.1, slots := r0.2.2.2, locals := 173 + 33 * d }) (va_Pc [.ref (a 40), .int (L0.1 1)] (nInF (dC, dI) cy ek sz (vC cy a z σ0))) (xV dC dI cy a (va_A (vC cy a z σ0) sz) [41, 43, 51] z r0) (xX dC dI cy a (va_A (vC cy a z σ0) sz) [41, 43, 51] z r0) r0.2.2.1 r0.2.2.2 (va_A (vC cy a z σ0) sz) := by
  refine vx_ofW (cc := cX5_exp) (maxL := 8) (ret := none) (by decide) rfl ?_
  intro p e s m args below meth c s₁ B hml hno hv
  obtain ⟨rfl, ⟨⟨hsz, hP, hK, hD0, hG⟩, hE⟩, hT⟩ := hv
  have hx := B.exec
  have hb := B.bytes
  have hr := B.returns
  have hts := atoms_spec (ws := w_f_X5_exp) B.pre
  have hown : s.vm.findClass RX5 = some m.cls := findClass_of_methodNamed B.named
  have hlocks := B.notSynchronized
  subst hsz
  have hD := hD0.self (sz := s.heap.size)
  generalize hAe : va_A (vC cy a z σ0) s.heap.size = A at hD hE hT ⊢
  have hA : ∀ q : Nat, s.heap.size ≤ q → A q := fun q h => by rw [← hAe]; exact Or.inr h
  have hS : va_S A s.heap s.heap [] := va_S.rf
  have hl := lv_entry ([.ref (a 40), .int (L0.1 1)]) (n := 8) (Nat.le_of_ble_eq_true rfl)
  rw [lg_entry_eq]
  generalize (lg_sl ([.ref (a 40), .int (L0.1 1)]) ++ List.replicate (8 - (lg_sl ([.ref (a 40), .int (L0.1 1)])).length) Slot.unset).toArray = ls at hl ⊢
  have hl : lv_has ls 8 [(0, .ref (a 40)), (1, .int (L0.1 1))] := hl
  generalize hmc : r0.2.2.1 = mc
  generalize hms : r0.2.2.2 = ms
  have blk : ∀ k : Nat, k ≤ k0 → (bX p l e (headSpec w_f_X5_exp ({ frames := 9 + d, cells := mc, slots := ms, locals := 173 + 33 * d })).room s m #[.ref (a 40), .int (L0.1 1)] below meth c dC dI cy a A (fun r => vx_MQ below (xV dC dI cy a A [41, 43, 51] z r) (xX dC dI cy a A [41, 43, 51] z r) #[.ref (a 40), .int (L0.1 1)] s mc ms A) [41, 43, 51] z mc ms 8 (f_F2 k d 1 0) (fun z L => [(0, .ref (a 40)), (1, .int (L.1 1))]) 0 (fun z L => [])) ∧ (bX p l e (headSpec w_f_X5_exp ({ frames := 9 + d, cells := mc, slots := ms, locals := 173 + 33 * d })).room s m #[.ref (a 40), .int (L0.1 1)] below meth c dC dI cy a A (fun r => vx_MQ below (xV dC dI cy a A [41, 43, 51] z r) (xX dC dI cy a A [41, 43, 51] z r) #[.ref (a 40), .int (L0.1 1)] s mc ms A) [41, 43, 51] z mc ms 8 (f_F2 k d 1 1) (fun z L => [(0, .ref (a 40)), (1, .int (L.1 1)), (2, .int (L.1 2)), (3, .int (L.1 3)), (4, .int (L.1 4))]) 10 (fun z L => [])) ∧ (bX p l e (headSpec w_f_X5_exp ({ frames := 9 + d, cells := mc, slots := ms, locals := 173 + 33 * d })).room s m #[.ref (a 40), .int (L0.1 1)] below meth c dC dI cy a A (fun r => vx_MQ below (xV dC dI cy a A [41, 43, 51] z r) (xX dC dI cy a A [41, 43, 51] z r) #[.ref (a 40), .int (L0.1 1)] s mc ms A) [41, 43, 51] z mc ms 8 (f_F2 k d 1 2) (fun z L => [(0, .ref (a 40)), (2, .int (L.1 2))]) 246 (fun z L => [])) ∧ (bX p l e (headSpec w_f_X5_exp ({ frames := 9 + d, cells := mc, slots := ms, locals := 173 + 33 * d })).room s m #[.ref (a 40), .int (L0.1 1)] below meth c dC dI cy a A (fun r => vx_MQ below (xV dC dI cy a A [41, 43, 51] z r) (xX dC dI cy a A [41, 43, 51] z r) #[.ref (a 40), .int (L0.1 1)] s mc ms A) [41, 43, 51] z mc ms 8 (f_F2 k d 1 3) (fun z L => [(0, .ref (a 40)), (1, .int (L.1 1)), (2, .int (L.1 2)), (4, .int (L.1 4)), (5, .int (L.1 5)), (6, .int (L.1 6))]) 27 (fun z L => [])) ∧ (bX p l e (headSpec w_f_X5_exp ({ frames := 9 + d, cells := mc, slots := ms, locals := 173 + 33 * d })).room s m #[.ref (a 40), .int (L0.1 1)] below meth c dC dI cy a A (fun r => vx_MQ below (xV dC dI cy a A [41, 43, 51] z r) (xX dC dI cy a A [41, 43, 51] z r) #[.ref (a 40), .int (L0.1 1)] s mc ms A) [41, 43, 51] z mc ms 8 (f_F2 k d 1 4) (fun z L => [(0, .ref (a 40)), (1, .int (L.1 1)), (2, .int (L.1 2)), (4, .int (L.1 4))]) 53 (fun z L => [])) ∧ (bX p l e (headSpec w_f_X5_exp ({ frames := 9 + d, cells := mc, slots := ms, locals := 173 + 33 * d })).room s m #[.ref (a 40), .int (L0.1 1)] below meth c dC dI cy a A (fun r => vx_MQ below (xV dC dI cy a A [41, 43, 51] z r) (xX dC dI cy a A [41, 43, 51] z r) #[.ref (a 40), .int (L0.1 1)] s mc ms A) [41, 43, 51] z mc ms 8 (f_F2 k d 1 5) (fun z L => [(0, .ref (a 40)), (1, .int (L.1 1)), (2, .int (L.1 2)), (4, .int (L.1 4)), (6, .int (L.1 6))]) 79 (fun z L => [])) ∧ (bX p l e (headSpec w_f_X5_exp ({ frames := 9 + d, cells := mc, slots := ms, locals := 173 + 33 * d })).room s m #[.ref (a 40), .int (L0.1 1)] below meth c dC dI cy a A (fun r => vx_MQ below (xV dC dI cy a A [41, 43, 51] z r) (xX dC dI cy a A [41, 43, 51] z r) #[.ref (a 40), .int (L0.1 1)] s mc ms A) [41, 43, 51] z mc ms 8 (f_F2 k d 1 6) (fun z L => [(0, .ref (a 40)), (1, .int (L.1 1)), (2, .int (L.1 2)), (4, .int (L.1 4)), (6, .int (L.1 6))]) 80 (fun z L => [.int (L.1 100)])) ∧ (bX p l e (headSpec w_f_X5_exp ({ frames := 9 + d, cells := mc, slots := ms, locals := 173 + 33 * d })).room s m #[.ref (a 40), .int (L0.1 1)] below meth c dC dI cy a A (fun r => vx_MQ below (xV dC dI cy a A [41, 43, 51] z r) (xX dC dI cy a A [41, 43, 51] z r) #[.ref (a 40), .int (L0.1 1)] s mc ms A) [41, 43, 51] z mc ms 8 (f_F2 k d 1 7) (fun z L => [(0, .ref (a 40)), (1, .int (L.1 1)), (2, .int (L.1 2)), (3, .int (L.1 3)), (4, .int (L.1 4)), (6, .int (L.1 6))]) 145 (fun z L => [])) ∧ (bX p l e (headSpec w_f_X5_exp ({ frames := 9 + d, cells := mc, slots := ms, locals := 173 + 33 * d })).room s m #[.ref (a 40), .int (L0.1 1)] below meth c dC dI cy a A (fun r => vx_MQ below (xV dC dI cy a A [41, 43, 51] z r) (xX dC dI cy a A [41, 43, 51] z r) #[.ref (a 40), .int (L0.1 1)] s mc ms A) [41, 43, 51] z mc ms 8 (f_F2 k d 1 8) (fun z L => [(0, .ref (a 40)), (1, .int (L.1 1)), (2, .int (L.1 2)), (4, .int (L.1 4)), (6, .int (L.1 6))]) 98 (fun z L => [])) ∧ (bX p l e (headSpec w_f_X5_exp ({ frames := 9 + d, cells := mc, slots := ms, locals := 173 + 33 * d })).room s m #[.ref (a 40), .int (L0.1 1)] below meth c dC dI cy a A (fun r => vx_MQ below (xV dC dI cy a A [41, 43, 51] z r) (xX dC dI cy a A [41, 43, 51] z r) #[.ref (a 40), .int (L0.1 1)] s mc ms A) [41, 43, 51] z mc ms 8 (f_F2 k d 1 9) (fun z L => [(0, .ref (a 40)), (1, .int (L.1 1)), (2, .int (L.1 2)), (4, .int (L.1 4)), (6, .int (L.1 6))]) 102 (fun z L => [])) ∧ (bX p l e (headSpec w_f_X5_exp ({ frames := 9 + d, cells := mc, slots := ms, locals := 173 + 33 * d })).room s m #[.ref (a 40), .int (L0.1 1)] below meth c dC dI cy a A (fun r => vx_MQ below (xV dC dI cy a A [41, 43, 51] z r) (xX dC dI cy a A [41, 43, 51] z r) #[.ref (a 40), .int (L0.1 1)] s mc ms A) [41, 43, 51] z mc ms 8 (f_F2 k d 1 10) (fun z L => [(0, .ref (a 40)), (1, .int (L.1 1)), (2, .int (L.1 2)), (3, .int (L.1 3)), (4, .int (L.1 4)), (6, .int (L.1 6)), (7, .int (L.1 7))]) 172 (fun z L => [])) ∧ (bX p l e (headSpec w_f_X5_exp ({ frames := 9 + d, cells := mc, slots := ms, locals := 173 + 33 * d })).room s m #[.ref (a 40), .int (L0.1 1)] below meth c dC dI cy a A (fun r => vx_MQ below (xV dC dI cy a A [41, 43, 51] z r) (xX dC dI cy a A [41, 43, 51] z r) #[.ref (a 40), .int (L0.1 1)] s mc ms A) [41, 43, 51] z mc ms 8 (f_F2 k d 1 11) (fun z L => [(0, .ref (a 40)), (1, .int (L.1 1)), (2, .int (L.1 2)), (3, .int (L.1 3)), (4, .int (L.1 4)), (6, .int (L.1 6)), (7, .int (L.1 7))]) 183 (fun z L => [])) ∧ (bX p l e (headSpec w_f_X5_exp ({ frames := 9 + d, cells := mc, slots := ms, locals := 173 + 33 * d })).room s m #[.ref (a 40), .int (L0.1 1)] below meth c dC dI cy a A (fun r => vx_MQ below (xV dC dI cy a A [41, 43, 51] z r) (xX dC dI cy a A [41, 43, 51] z r) #[.ref (a 40), .int (L0.1 1)] s mc ms A) [41, 43, 51] z mc ms 8 (f_F2 k d 1 12) (fun z L => [(0, .ref (a 40)), (1, .int (L.1 1)), (2, .int (L.1 2)), (4, .int (L.1 4)), (6, .int (L.1 6))]) 103 (fun z L => [.int (L.1 100)])) ∧ (bX p l e (headSpec w_f_X5_exp ({ frames := 9 + d, cells := mc, slots := ms, locals := 173 + 33 * d })).room s m #[.ref (a 40), .int (L0.1 1)] below meth c dC dI cy a A (fun r => vx_MQ below (xV dC dI cy a A [41, 43, 51] z r) (xX dC dI cy a A [41, 43, 51] z r) #[.ref (a 40), .int (L0.1 1)] s mc ms A) [41, 43, 51] z mc ms 8 (f_F2 k d 1 13) (fun z L => [(0, .ref (a 40)), (1, .int (L.1 1)), (2, .int (L.1 2)), (3, .int (L.1 3)), (4, .int (L.1 4)), (6, .int (L.1 6)), (7, .int (L.1 7))]) 224 (fun z L => [])) ∧ (bX p l e (headSpec w_f_X5_exp ({ frames := 9 + d, cells := mc, slots := ms, locals := 173 + 33 * d })).room s m #[.ref (a 40), .int (L0.1 1)] below meth c dC dI cy a A (fun r => vx_MQ below (xV dC dI cy a A [41, 43, 51] z r) (xX dC dI cy a A [41, 43, 51] z r) #[.ref (a 40), .int (L0.1 1)] s mc ms A) [41, 43, 51] z mc ms 8 (f_F2 k d 1 14) (fun z L => [(0, .ref (a 40)), (1, .int (L.1 1)), (2, .int (L.1 2)), (3, .int (L.1 3)), (4, .int (L.1 4))]) 212 (fun z L => [.ref (a (pA (L.2.2.1 100))), .int (L.1 101), .int (L.1 102), .ref (a 40)])) ∧ (bX p l e (headSpec w_f_X5_exp ({ frames := 9 + d, cells := mc, slots := ms, locals := 173 + 33 * d })).room s m #[.ref (a 40), .int (L0.1 1)] below meth c dC dI cy a A (fun r => vx_MQ below (xV dC dI cy a A [41, 43, 51] z r) (xX dC dI cy a A [41, 43, 51] z r) #[.ref (a 40), .int (L0.1 1)] s mc ms A) [41, 43, 51] z mc ms 8 (f_F2 k d 1 15) (fun z L => [(0, .ref (a 40)), (1, .int (L.1 1)), (2, .int (L.1 2)), (3, .int (L.1 3)), (4, .int (L.1 4))]) 214 (fun z L => [.int (L.1 100), .ref (a (pA (L.2.2.1 101))), .int (L.1 102), .int (L.1 103), .ref (a 40)])) ∧ (bX p l e (headSpec w_f_X5_exp ({ frames := 9 + d, cells := mc, slots := ms, locals := 173 + 33 * d })).room s m #[.ref (a 40), .int (L0.1 1)] below meth c dC dI cy a A (fun r => vx_MQ below (xV dC dI cy a A [41, 43, 51] z r) (xX dC dI cy a A [41, 43, 51] z r) #[.ref (a 40), .int (L0.1 1)] s mc ms A) [41, 43, 51] z mc ms 8 (f_F2 k d 1 16) (fun z L => [(0, .ref (a 40)), (1, .int (L.1 1)), (2, .int (L.1 2)), (4, .int (L.1 4)), (6, .int (L.1 6))]) 119 (fun z L => [.int (L.1 100), .ref (a 40)])) ∧ (bX p l e (headSpec w_f_X5_exp ({ frames := 9 + d, cells := mc, slots := ms, locals := 173 + 33 * d })).room s m #[.ref (a 40), .int (L0.1 1)] below meth c dC dI cy a A (fun r => vx_MQ below (xV dC dI cy a A [41, 43, 51] z r) (xX dC dI cy a A [41, 43, 51] z r) #[.ref (a 40), .int (L0.1 1)] s mc ms A) [41, 43, 51] z mc ms 8 (f_F2 k d 1 17) (fun z L => [(0, .ref (a 40)), (1, .int (L.1 1)), (2, .int (L.1 2)), (4, .int (L.1 4)), (6, .int (L.1 6))]) 121 (fun z L => [.int (L.1 100), .int (L.1 101), .ref (a 40)])) ∧ (bX p l e (headSpec w_f_X5_exp ({ frames := 9 + d, cells := mc, slots := ms, locals := 173 + 33 * d })).room s m #[.ref (a 40), .int (L0.1 1)] below meth c dC dI cy a A (fun r => vx_MQ below (xV dC dI cy a A [41, 43, 51] z r) (xX dC dI cy a A [41, 43, 51] z r) #[.ref (a 40), .int (L0.1 1)] s mc ms A) [41, 43, 51] z mc ms 8 (f_F2 k d 1 18) (fun z L => [(0, .ref (a 40)), (1, .int (L.1 1)), (2, .int (L.1 2)), (3, .int (L.1 3)), (4, .int (L.1 4))]) 240 (fun z L => [])) ∧ (bX p l e (headSpec w_f_X5_exp ({ frames := 9 + d, cells := mc, slots := ms, locals := 173 + 33 * d })).room s m #[.ref (a 40), .int (L0.1 1)] below meth c dC dI cy a A (fun r => vx_MQ below (xV dC dI cy a A [41, 43, 51] z r) (xX dC dI cy a A [41, 43, 51] z r) #[.ref (a 40), .int (L0.1 1)] s mc ms A) [41, 43, 51] z mc ms 8 (f_F2 k d 1 19) (fun z L => [(0, .ref (a 40)), (1, .int (L.1 1)), (2, .int (L.1 2)), (4, .int (L.1 4)), (6, .int (L.1 6))]) 139 (fun z L => [])) ∧ (bX p l e (headSpec w_f_X5_exp ({ frames := 9 + d, cells := mc, slots := ms, locals := 173 + 33 * d })).room s m #[.ref (a 40), .int (L0.1 1)] below meth c dC dI cy a A (fun r => vx_MQ below (xV dC dI cy a A [41, 43, 51] z r) (xX dC dI cy a A [41, 43, 51] z r) #[.ref (a 40), .int (L0.1 1)] s mc ms A) [41, 43, 51] z mc ms 8 (f_F2 k d 1 20) (fun z L => [(0, .ref (a 40)), (1, .int (L.1 1)), (2, .int (L.1 2)), (4, .int (L.1 4)), (6, .int (L.1 6))]) 143 (fun z L => [])) ∧ (bX p l e (headSpec w_f_X5_exp ({ frames := 9 + d, cells := mc, slots := ms, locals := 173 + 33 * d })).room s m #[.ref (a 40), .int (L0.1 1)] below meth c dC dI cy a A (fun r => vx_MQ below (xV dC dI cy a A [41, 43, 51] z r) (xX dC dI cy a A [41, 43, 51] z r) #[.ref (a 40), .int (L0.1 1)] s mc ms A) [41, 43, 51] z mc ms 8 (f_F2 k d 1 21) (fun z L => [(0, .ref (a 40)), (1, .int (L.1 1)), (2, .int (L.1 2)), (4, .int (L.1 4)), (6, .int (L.1 6))]) 144 (fun z L => [.int (L.1 100)])) := by
    intro k
    induction k with
    | zero => exact fun _ => ⟨fun z c1 c2 L σ r h => (by cases h), fun z c1 c2 L σ r h => (by cases h), fun z c1 c2 L σ r h => (by cases h), fun z c1 c2 L σ r h => (by cases h), fun z c1 c2 L σ r h => (by cases h), fun z c1 c2 L σ r h => (by cases h), fun z c1 c2 L σ r h => (by cases h), fun z c1 c2 L σ r h => (by cases h), fun z c1 c2 L σ r h => (by cases h), fun z c1 c2 L σ r h => (by cases h), fun z c1 c2 L σ r h => (by cases h), fun z c1 c2 L σ r h => (by cases h), fun z c1 c2 L σ r h => (by cases h), fun z c1 c2 L σ r h => (by cases h), fun z c1 c2 L σ r h => (by cases h), fun z c1 c2 L σ r h => (by cases h), fun z c1 c2 L σ r h => (by cases h), fun z c1 c2 L σ r h => (by cases h), fun z c1 c2 L σ r h => (by cases h), fun z c1 c2 L σ r h => (by cases h), fun z c1 c2 L σ r h => (by cases h), fun z c1 c2 L σ r h => (by cases h)⟩
    | succ k ih =>
      intro hk
      replace ih := ih (by omega)
      refine ⟨?_, ?_, ?_, ?_, ?_, ?_, ?_, ?_, ?_, ?_, ?_, ?_, ?_, ?_, ?_, ?_, ?_, ?_, ?_, ?_, ?_, ?_⟩
      · intro z cells slots L σ r h hzk hc hs H locs ls hP hD hS hl
        rw [f_F2_1, t_X5_exp_0] at h
        refine lv_aload_n hx hb dX5_exp_0 rfl (lv_at hl 0 rfl) ?_
        refine hg_40_11 hx hb hts in_f_X5_exp_X5 hown hK hP (hts _ (List.mem_cons_of_mem _ (List.mem_append_left _ (List.mem_append_left _ (List.mem_of_getElem? (i := 44) rfl))))) dX5_exp_1 ?_
        refine lv_istore_n (lv' := [(2, .int (σ.1 4011)), (0, .ref (a 40)), (1, .int (L.1 1))]) hx hb dX5_exp_4 rfl hl (by decide) rfl (fun ls hl => ?_)
        refine lv_iconst (v := 1) hx hb dX5_exp_5 (by decide) ?_
        refine lv_istore_n (lv' := [(3, .int 1), (2, .int (σ.1 4011)), (0, .ref (a 40)), (1, .int (L.1 1))]) hx hb dX5_exp_6 rfl hl (by decide) rfl (fun ls hl => ?_)
        refine lv_iconst (v := 0) hx hb dX5_exp_7 (by decide) ?_
        refine lv_istore (lv' := [(4, .int 0), (3, .int 1), (2, .int (σ.1 4011)), (0, .ref (a 40)), (1, .int (L.1 1))]) hx hb dX5_exp_8 hl (by decide) rfl (fun ls hl => ?_)
        exact ih.2.1 z _ _ (lI (lI (lI L 2 ((σ.1 4011))) 3 1) 4 0) σ _ h hzk hc hs H locs ls hP hD hS (lv_sub hl [3, 4, 2, 1, 0] rfl)
      · intro z cells slots L σ r h hzk hc hs H locs ls hP hD hS hl
        rw [f_F2_1, t_X5_exp_1] at h
        refine lv_iload hx hb dX5_exp_10 (lv_at hl 4 rfl) ?_
        refine lv_ldc (v := 32768) hx hb hown (hts _ (List.mem_cons_of_mem _ (List.mem_append_left _ (List.mem_append_left _ (List.mem_of_getElem? (i := 32) rfl))))) dX5_exp_12 ?_
        refine lv_icmp_gt (tgt := 246) hx hb dX5_exp_14 (by decide) (fun c1 => ?_) (fun c1 => ?_)
        · rw [if_pos c1] at h
          exact ih.2.2.1 z _ _ L σ _ h hzk hc hs H locs ls hP hD hS (lv_sub hl [0, 2] rfl)
        · rw [if_neg c1] at h
          refine lv_iload_n hx hb dX5_exp_17 rfl (lv_at hl 3 rfl) ?_
          refine lv_if_eq (tgt := 246) hx hb dX5_exp_18 (by decide) (fun c2 => ?_) (fun c2 => ?_)
          · rw [if_pos c2] at h
            exact ih.2.2.1 z _ _ L σ _ h hzk hc hs H locs ls hP hD hS (lv_sub hl [0, 2] rfl)
          · rw [if_neg c2] at h
            refine lv_iconst (v := 1) hx hb dX5_exp_21 (by decide) ?_
            refine lv_istore (lv' := [(5, .int 1), (0, .ref (a 40)), (1, .int (L.1 1)), (2, .int (L.1 2)), (3, .int (L.1 3)), (4, .int (L.1 4))]) hx hb dX5_exp_22 hl (by decide) rfl (fun ls hl => ?_)
            refine lv_iconst (v := 0) hx hb dX5_exp_24 (by decide) ?_
            refine lv_istore (lv' := [(6, .int 0), (5, .int 1), (0, .ref (a 40)), (1, .int (L.1 1)), (2, .int (L.1 2)), (3, .int (L.1 3)), (4, .int (L.1 4))]) hx hb dX5_exp_25 hl (by decide) rfl (fun ls hl => ?_)
            exact ih.2.2.2.1 z _ _ (lI (lI L 5 1) 6 0) σ _ h hzk hc hs H locs ls hP hD hS (lv_sub hl [2, 3, 4, 6, 1, 0] rfl)
      · intro z cells slots L σ r h hzk hc hs H locs ls hP hD hS hl
        rw [f_F2_1, t_X5_exp_2] at h
        refine lv_aload_n hx hb dX5_exp_246 rfl (lv_at hl 0 rfl) ?_
        refine lv_iload_n hx hb dX5_exp_247 rfl (lv_at hl 1 rfl) ?_
        refine lv_iconst (v := 0) hx hb dX5_exp_248 (by decide) ?_
        obtain ⟨r1, hc1, hle1, h9⟩ := ox_ex h
        clear h
        refine kx_v (vx_runV (As := [.int (L.1 2), .int 0]) (rest := []) ⟨hx, hb, hml, hown, hts⟩ (c_f_X5_settle l hl0 dC dI cy ek a k (lI (lI lZ 1 ((L.1 2))) 2 0) σ r1 hc1 z H.size) (cwV 2 hts g_f_X5_exp_X5_settle_V366 rfl rfl rfl hd_f_X5_settle (by show 8 + 1 ≤ 9 + d ∧ 8 + (6 + 11) + 143 ≤ 173 + 33 * d; omega)) ⟨nb_blindF, va_recv hK hP (ci := 4) (q0 := 40) rfl rfl, (kx_pre hK hG hE hT hA hP hD hS)⟩ rfl rfl hl.1 rfl (lv_room (Nat.le_of_ble_eq_true rfl)) dX5_exp_249 ⟨Nat.le_trans (Nat.add_le_add_left hle1.1 _) (Nat.le_of_eq hc), Nat.le_trans (Nat.add_le_add_left hle1.2 _) (Nat.le_of_eq hs)⟩) hK hA hzk hP hD hS (by decide) hno hlocks ?_
        rcases h9 with ⟨h00, y1, hny1, hy⟩ | ⟨h00, hy⟩
        · subst hy
          have h := hny1
          refine Or.inl ⟨h00, fun z H locs hz1 hzk hP hD hS => ?_⟩
          replace hc := (Nat.add_assoc _ _ _).trans hc
          replace hs := (Nat.add_assoc _ _ _).trans hs
          obtain rfl := Option.some.inj h
          subst hc
          subst hs
          exact xr_v hx hb hr hK hzk hP hD hS hlocks dX5_exp_252
        · subst hy
          exact Or.inr ⟨h00, rfl, hc, hs⟩
      · intro z cells slots L σ r h hzk hc hs H locs ls hP hD hS hl
        rw [f_F2_1, t_X5_exp_3] at h
        refine lv_iload hx hb dX5_exp_27 (lv_at hl 5 rfl) ?_
        refine lv_bipush (v := 20) hx hb dX5_exp_29 (by decide) ?_
        refine lv_icmp_gt (tgt := 53) hx hb dX5_exp_31 (by decide) (fun c1 => ?_) (fun c1 => ?_)
        · rw [if_pos c1] at h
          exact ih.2.2.2.2.1 z _ _ L σ _ h hzk hc hs H locs ls hP hD hS (lv_sub hl [0, 1, 2, 3] rfl)
        · rw [if_neg c1] at h
          refine lv_iload hx hb dX5_exp_34 (lv_at hl 4 rfl) ?_
          refine lv_if_eq (tgt := 53) hx hb dX5_exp_36 (by decide) (fun c2 => ?_) (fun c2 => ?_)
          · rw [if_pos c2] at h
            exact ih.2.2.2.2.1 z _ _ L σ _ h hzk hc hs H locs ls hP hD hS (lv_sub hl [0, 1, 2, 3] rfl)
          · rw [if_neg c2] at h
            refine lv_aload_n hx hb dX5_exp_39 rfl (lv_at hl 0 rfl) ?_
            refine lv_iload_n hx hb dX5_exp_40 rfl (lv_at hl 2 rfl) ?_
            refine lv_iload_n hx hb dX5_exp_41 rfl (lv_at hl 1 rfl) ?_
            obtain ⟨r3, hc3, hle3, h9⟩ := ox_ex h
            clear h
            refine kx_i (vx_runV (As := [.int (L.1 2), .int (L.1 1)]) (rest := []) ⟨hx, hb, hml, hown, hts⟩ (c_f_X5_prefix l hl0 dC dI cy ek a k (lI (lI lZ 1 ((L.1 2))) 2 ((L.1 1))) σ r3 hc3 z H.size) (cwV 2 hts g_f_X5_exp_X5_prefix_V356 rfl rfl rfl hd_f_X5_prefix (by show 8 + 1 ≤ 9 + d ∧ 8 + (6 + 11) + 147 ≤ 173 + 33 * d; omega)) ⟨nb_blindF, va_recv hK hP (ci := 4) (q0 := 40) rfl rfl, (kx_pre hK hG hE hT hA hP hD hS)⟩ rfl rfl hl.1 rfl (lv_room (Nat.le_of_ble_eq_true rfl)) dX5_exp_42 ⟨Nat.le_trans (Nat.add_le_add_left hle3.1 _) (Nat.le_of_eq hc), Nat.le_trans (Nat.add_le_add_left hle3.2 _) (Nat.le_of_eq hs)⟩) hK hA hzk hP hD hS (by decide) hno hlocks ?_
            rcases h9 with ⟨h00, y3, hny3, hy⟩ | ⟨h00, hy⟩
            · subst hy
              have h := hny3
              refine Or.inl ⟨h00, fun z H locs hz3 hzk hP hD hS => ?_⟩
              replace hc := (Nat.add_assoc _ _ _).trans hc
              replace hs := (Nat.add_assoc _ _ _).trans hs
              refine lv_istore (lv' := [(5, .int r3.1.2), (0, .ref (a 40)), (1, .int (L.1 1)), (2, .int (L.1 2)), (4, .int (L.1 4)), (6, .int (L.1 6))]) hx hb dX5_exp_45 hl (by decide) rfl (fun ls hl => ?_)
              refine lv_iinc (v := ((L.1 6)) + 1) (lv' := [(6, .int (((L.1 6)) + 1)), (5, .int r3.1.2), (0, .ref (a 40)), (1, .int (L.1 1)), (2, .int (L.1 2)), (4, .int (L.1 4))]) hx hb dX5_exp_47 hl (k := 5) rfl rfl (by decide) rfl (fun ls hl => ?_)
              refine lv_goto (tgt := 27) hx hb dX5_exp_50 (by decide) ?_
              exact ih.2.2.2.1 z _ _ (lI (lI L 5 r3.1.2) 6 ((((L.1 6)) + 1))) r3.2.1 _ h hzk hc hs H locs ls hP hD hS (lv_sub hl [2, 3, 4, 5, 1, 0] rfl)
            · subst hy
              exact Or.inr ⟨h00, rfl, hc, hs⟩
      · intro z cells slots L σ r h hzk hc hs H locs ls hP hD hS hl
        rw [f_F2_1, t_X5_exp_4] at h
        refine lv_aload_n hx hb dX5_exp_53 rfl (lv_at hl 0 rfl) ?_
        obtain ⟨e1, he1, h⟩ := of_ex h
        obtain ⟨r1, hc1, hle1, h9⟩ := ox_ex h
        clear h
        refine kx_v (vx_runV (As := []) (rest := []) ⟨hx, hb, hml, hown, hts⟩ ((IH k (by omega)).2.2.2.2.2.2.2.2.1 e1 lZ σ r1 hc1 z H.size) (cwV 0 hts g_f_X5_exp_X5_operand_V360 rfl rfl rfl hd_f_X5_operand (by show (9 + e1) + 1 ≤ 9 + d ∧ 8 + (8 + 11) + (173 + 33 * e1) ≤ 173 + 33 * d; omega)) ⟨nb_blindF, va_recv hK hP (ci := 4) (q0 := 40) rfl rfl, (kx_pre hK hG hE hT hA hP hD hS)⟩ rfl rfl hl.1 rfl (lv_room (Nat.le_of_ble_eq_true rfl)) dX5_exp_54 ⟨Nat.le_trans (Nat.add_le_add_left hle1.1 _) (Nat.le_of_eq hc), Nat.le_trans (Nat.add_le_add_left hle1.2 _) (Nat.le_of_eq hs)⟩) hK hA hzk hP hD hS (by decide) hno hlocks ?_
        rcases h9 with ⟨h00, y1, hny1, hy⟩ | ⟨h00, hy⟩
        · subst hy
          have h := hny1
          refine Or.inl ⟨h00, fun z H locs hz1 hzk hP hD hS => ?_⟩
          replace hc := (Nat.add_assoc _ _ _).trans hc
          replace hs := (Nat.add_assoc _ _ _).trans hs
          refine lv_aload_n hx hb dX5_exp_57 rfl (lv_at hl 0 rfl) ?_
          refine hg_40_0 hx hb hts in_f_X5_exp_X5 hown hK hP (hts _ (List.mem_cons_of_mem _ (List.mem_append_left _ (List.mem_append_left _ (List.mem_of_getElem? (i := 33) rfl))))) dX5_exp_58 ?_
          refine hg_37_2n hx hb hts in_f_X5_exp_X2 hown hK hP (va_Nw.use rfl (hG.1 _ (List.mem_of_getElem? (i := 52) rfl))) dX5_exp_61 ?_
          obtain ⟨r2, hc2, h⟩ := op_ex h
          refine kc_i (va_runS (As := [.int (r1.2.1.1 3702)]) (rest := []) ⟨hx, hb, hml, hown, hts⟩ (c_y_X5_level l dC dI cy a z k (lI lZ 0 ((r1.2.1.1 3702))) r1.2.1 r2 hc2 H.size) (va_cwS 1 hts g_y_X5_exp_X5_level_S363 rfl rfl rfl hd_y_X5_level (by show 0 + 1 ≤ 9 + d ∧ 8 + (1 + 11) + 0 ≤ 173 + 33 * d; omega)) ⟨nb_blind, (kb_pre hK hG hP hD)⟩ rfl rfl hl.1 rfl (lv_room (Nat.le_of_ble_eq_true rfl)) dX5_exp_64 ⟨(Nat.le_trans (Nat.le_add_right _ _) (Nat.le_of_eq hc)), (Nat.le_trans (Nat.le_add_right _ _) (Nat.le_of_eq hs))⟩) hA hP hD hS (fun H locs hP hD hS => ?_)
          refine lv_istore (lv' := [(6, .int r2.1), (0, .ref (a 40)), (1, .int (L.1 1)), (2, .int (L.1 2)), (4, .int (L.1 4))]) hx hb dX5_exp_67 hl (by decide) rfl (fun ls hl => ?_)
          refine lv_iload hx hb dX5_exp_69 (lv_at hl 0 rfl) ?_
          refine lv_iload_n hx hb dX5_exp_71 rfl (lv_at hl 2 rfl) ?_
          refine lv_icmp_lt (tgt := 79) hx hb dX5_exp_72 (by decide) (fun c3 => ?_) (fun c3 => ?_)
          · rw [if_pos c3] at h
            exact ih.2.2.2.2.2.1 z _ _ (lI L 6 r2.1) r2.2 _ h hzk hc hs H locs ls hP hD hS (lv_sub hl [1, 2, 3, 4, 0] rfl)
          · rw [if_neg c3] at h
            refine lv_iconst (v := 1) hx hb dX5_exp_75 (by decide) ?_
            refine lv_goto (tgt := 80) hx hb dX5_exp_76 (by decide) ?_
            exact ih.2.2.2.2.2.2.1 z _ _ (lI (lI L 6 r2.1) 100 1) r2.2 _ h hzk hc hs H locs ls hP hD hS (lv_sub hl [1, 2, 3, 4, 0] rfl)
        · subst hy
          exact Or.inr ⟨h00, rfl, hc, hs⟩
      · intro z cells slots L σ r h hzk hc hs H locs ls hP hD hS hl
        rw [f_F2_1, t_X5_exp_5] at h
        refine lv_iconst (v := 0) hx hb dX5_exp_79 (by decide) ?_
        exact ih.2.2.2.2.2.2.1 z _ _ (lI L 100 0) σ _ h hzk hc hs H locs ls hP hD hS (lv_sub hl [0, 1, 2, 3, 4] rfl)
      · intro z cells slots L σ r h hzk hc hs H locs ls hP hD hS hl
        rw [f_F2_1, t_X5_exp_6] at h
        refine lv_istore_n (lv' := [(3, .int (L.1 100)), (0, .ref (a 40)), (1, .int (L.1 1)), (2, .int (L.1 2)), (4, .int (L.1 4)), (6, .int (L.1 6))]) hx hb dX5_exp_80 rfl hl (by decide) rfl (fun ls hl => ?_)
        refine lv_iload_n hx hb dX5_exp_81 rfl (lv_at hl 0 rfl) ?_
        refine lv_if_eq (tgt := 145) hx hb dX5_exp_82 (by decide) (fun c1 => ?_) (fun c1 => ?_)
        · rw [if_pos c1] at h
          exact ih.2.2.2.2.2.2.2.1 z _ _ (lI L 3 ((L.1 100))) σ _ h hzk hc hs H locs ls hP hD hS (lv_sub hl [1, 2, 3, 0, 4, 5] rfl)
        · rw [if_neg c1] at h
          refine lv_iload hx hb dX5_exp_85 (lv_at hl 5 rfl) ?_
          refine lv_iconst (v := 3) hx hb dX5_exp_87 (by decide) ?_
          refine lv_icmp_eq (tgt := 98) hx hb dX5_exp_88 (by decide) (fun c2 => ?_) (fun c2 => ?_)
          · rw [if_pos c2] at h
            exact ih.2.2.2.2.2.2.2.2.1 z _ _ L σ _ h hzk hc hs H locs ls hP hD hS (lv_sub hl [1, 2, 3, 4, 5] rfl)
          · rw [if_neg c2] at h
            refine lv_iload hx hb dX5_exp_91 (lv_at hl 5 rfl) ?_
            refine lv_bipush (v := 6) hx hb dX5_exp_93 (by decide) ?_
            refine lv_icmp_ne (tgt := 102) hx hb dX5_exp_95 (by decide) (fun c3 => ?_) (fun c3 => ?_)
            · rw [if_neg c3] at h
              exact ih.2.2.2.2.2.2.2.2.2.1 z _ _ L σ _ h hzk hc hs H locs ls hP hD hS (lv_sub hl [1, 2, 3, 4, 5] rfl)
            · rw [if_pos c3] at h
              exact ih.2.2.2.2.2.2.2.2.1 z _ _ L σ _ h hzk hc hs H locs ls hP hD hS (lv_sub hl [1, 2, 3, 4, 5] rfl)
      · intro z cells slots L σ r h hzk hc hs H locs ls hP hD hS hl
        rw [f_F2_1, t_X5_exp_7] at h
        refine lv_aload_n hx hb dX5_exp_145 rfl (lv_at hl 0 rfl) ?_
        refine hg_40_0 hx hb hts in_f_X5_exp_X5 hown hK hP (hts _ (List.mem_cons_of_mem _ (List.mem_append_left _ (List.mem_append_left _ (List.mem_of_getElem? (i := 33) rfl))))) dX5_exp_146 ?_
        refine hg_37_2n hx hb hts in_f_X5_exp_X2 hown hK hP (va_Nw.use rfl (hG.1 _ (List.mem_of_getElem? (i := 52) rfl))) dX5_exp_149 ?_
        refine lv_istore (lv' := [(7, .int (σ.1 3702)), (0, .ref (a 40)), (1, .int (L.1 1)), (2, .int (L.1 2)), (3, .int (L.1 3)), (4, .int (L.1 4)), (6, .int (L.1 6))]) hx hb dX5_exp_152 hl (by decide) rfl (fun ls hl => ?_)
        refine lv_iload_n hx hb dX5_exp_154 rfl (lv_at hl 4 rfl) ?_
        refine lv_if_eq (tgt := 172) hx hb dX5_exp_155 (by decide) (fun c1 => ?_) (fun c1 => ?_)
        · rw [if_pos c1] at h
          exact ih.2.2.2.2.2.2.2.2.2.2.1 z _ _ (lI L 7 ((σ.1 3702))) σ _ h hzk hc hs H locs ls hP hD hS (lv_sub hl [1, 2, 3, 4, 5, 6, 0] rfl)
        · rw [if_neg c1] at h
          refine lv_iload hx hb dX5_exp_158 (lv_at hl 6 rfl) ?_
          refine lv_bipush (v := 6) hx hb dX5_exp_160 (by decide) ?_
          refine lv_icmp_ne (tgt := 172) hx hb dX5_exp_162 (by decide) (fun c2 => ?_) (fun c2 => ?_)
          · rw [if_neg c2] at h
            exact ih.2.2.2.2.2.2.2.2.2.2.1 z _ _ (lI L 7 ((σ.1 3702))) σ _ h hzk hc hs H locs ls hP hD hS (lv_sub hl [1, 2, 3, 4, 5, 6, 0] rfl)
          · rw [if_pos c2] at h
            refine lv_aload_n hx hb dX5_exp_165 rfl (lv_at hl 1 rfl) ?_
            obtain ⟨r3, hc3, hle3, h9⟩ := ox_ex h
            clear h
            refine kx_v (vx_runV (As := []) (rest := []) ⟨hx, hb, hml, hown, hts⟩ (c_f_X5_opens l hl0 dC dI cy ek a k lZ σ r3 hc3 z H.size) (cwV 0 hts g_f_X5_exp_X5_opens_V173 rfl rfl rfl hd_f_X5_opens (by show 7 + 1 ≤ 9 + d ∧ 8 + (1 + 11) + 126 ≤ 173 + 33 * d; omega)) ⟨nb_blindF, va_recv hK hP (ci := 4) (q0 := 40) rfl rfl, (kx_pre hK hG hE hT hA hP hD hS)⟩ rfl rfl hl.1 rfl (lv_room (Nat.le_of_ble_eq_true rfl)) dX5_exp_166 ⟨Nat.le_trans (Nat.add_le_add_left hle3.1 _) (Nat.le_of_eq hc), Nat.le_trans (Nat.add_le_add_left hle3.2 _) (Nat.le_of_eq hs)⟩) hK hA hzk hP hD hS (by decide) hno hlocks ?_
            rcases h9 with ⟨h00, y3, hny3, hy⟩ | ⟨h00, hy⟩
            · subst hy
              have h := hny3
              refine Or.inl ⟨h00, fun u H locs hz3 hzk hP hD hS => ?_⟩
              obtain rfl := (zk_nil hz3).symm
              replace hc := (Nat.add_assoc _ _ _).trans hc
              replace hs := (Nat.add_assoc _ _ _).trans hs
              refine lv_goto (tgt := 183) hx hb dX5_exp_169 (by decide) ?_
              exact ih.2.2.2.2.2.2.2.2.2.2.2.1 z _ _ (lI L 7 ((σ.1 3702))) r3.2.1 _ h hzk hc hs H locs ls hP hD hS (lv_sub hl [1, 2, 3, 4, 5, 6, 0] rfl)
            · subst hy
              exact Or.inr ⟨h00, rfl, hc, hs⟩
      · intro z cells slots L σ r h hzk hc hs H locs ls hP hD hS hl
        rw [f_F2_1, t_X5_exp_8] at h
        refine lv_iconst (v := 1) hx hb dX5_exp_98 (by decide) ?_
        refine lv_goto (tgt := 103) hx hb dX5_exp_99 (by decide) ?_
        exact ih.2.2.2.2.2.2.2.2.2.2.2.2.1 z _ _ (lI L 100 1) σ _ h hzk hc hs H locs ls hP hD hS (lv_sub hl [0, 1, 2, 3, 4] rfl)
      · intro z cells slots L σ r h hzk hc hs H locs ls hP hD hS hl
        rw [f_F2_1, t_X5_exp_9] at h
        refine lv_iconst (v := 0) hx hb dX5_exp_102 (by decide) ?_
        exact ih.2.2.2.2.2.2.2.2.2.2.2.2.1 z _ _ (lI L 100 0) σ _ h hzk hc hs H locs ls hP hD hS (lv_sub hl [0, 1, 2, 3, 4] rfl)
      · intro z cells slots L σ r h hzk hc hs H locs ls hP hD hS hl
        rw [f_F2_1, t_X5_exp_10] at h
        refine lv_iload_n hx hb dX5_exp_172 rfl (lv_at hl 3 rfl) ?_
        refine lv_if_eq (tgt := 183) hx hb dX5_exp_173 (by decide) (fun c1 => ?_) (fun c1 => ?_)
        · rw [if_pos c1] at h
          exact ih.2.2.2.2.2.2.2.2.2.2.2.1 z _ _ L σ _ h hzk hc hs H locs ls hP hD hS (lv_sub hl [0, 1, 2, 3, 4, 5, 6] rfl)
        · rw [if_neg c1] at h
          refine lv_aload_n hx hb dX5_exp_176 rfl (lv_at hl 0 rfl) ?_
          refine hg_40_0 hx hb hts in_f_X5_exp_X5 hown hK hP (hts _ (List.mem_cons_of_mem _ (List.mem_append_left _ (List.mem_append_left _ (List.mem_of_getElem? (i := 33) rfl))))) dX5_exp_177 ?_
          obtain ⟨r2, hc2, hle2, h9⟩ := ox_ex h
          clear h
          refine kx_v (vx_runV (As := []) (rest := []) ⟨hx, hb, hml, hown, hts⟩ (c_f_X2_advance l hl0 dC dI cy ek a k lZ σ r2 hc2 z H.size) (cwV 0 hts g_f_X5_exp_X2_advance_V30 rfl rfl rfl hd_f_X2_advance (by show 6 + 1 ≤ 9 + d ∧ 8 + (7 + 11) + 100 ≤ 173 + 33 * d; omega)) ⟨nb_blindF, va_recv hK hP (ci := 2) (q0 := 37) rfl rfl, (kx_pre hK hG hE hT hA hP hD hS)⟩ rfl rfl hl.1 rfl (lv_room (Nat.le_of_ble_eq_true rfl)) dX5_exp_180 ⟨Nat.le_trans (Nat.add_le_add_left hle2.1 _) (Nat.le_of_eq hc), Nat.le_trans (Nat.add_le_add_left hle2.2 _) (Nat.le_of_eq hs)⟩) hK hA hzk hP hD hS (by decide) hno hlocks ?_
          rcases h9 with ⟨h00, y2, hny2, hy⟩ | ⟨h00, hy⟩
          · subst hy
            have h := hny2
            refine Or.inl ⟨h00, fun u H locs hz2 hzk hP hD hS => ?_⟩
            obtain rfl := (zk_nil hz2).symm
            replace hc := (Nat.add_assoc _ _ _).trans hc
            replace hs := (Nat.add_assoc _ _ _).trans hs
            exact ih.2.2.2.2.2.2.2.2.2.2.2.1 z _ _ L r2.2.1 _ h hzk hc hs H locs ls hP hD hS (lv_sub hl [0, 1, 2, 3, 4, 5, 6] rfl)
          · subst hy
            exact Or.inr ⟨h00, rfl, hc, hs⟩
      · intro z cells slots L σ r h hzk hc hs H locs ls hP hD hS hl
        rw [f_F2_1, t_X5_exp_11] at h
        refine lv_iload_n hx hb dX5_exp_183 rfl (lv_at hl 3 rfl) ?_
        refine lv_if_eq (tgt := 224) hx hb dX5_exp_184 (by decide) (fun c1 => ?_) (fun c1 => ?_)
        · rw [if_pos c1] at h
          exact ih.2.2.2.2.2.2.2.2.2.2.2.2.2.1 z _ _ L σ _ h hzk hc hs H locs ls hP hD hS (lv_sub hl [0, 1, 2, 3, 4, 5, 6] rfl)
        · rw [if_neg c1] at h
          refine lv_iload hx hb dX5_exp_187 (lv_at hl 5 rfl) ?_
          refine lv_iconst (v := 1) hx hb dX5_exp_189 (by decide) ?_
          refine lv_icmp_gt (tgt := 224) hx hb dX5_exp_190 (by decide) (fun c2 => ?_) (fun c2 => ?_)
          · rw [if_pos c2] at h
            exact ih.2.2.2.2.2.2.2.2.2.2.2.2.2.1 z _ _ L σ _ h hzk hc hs H locs ls hP hD hS (lv_sub hl [0, 1, 2, 3, 4, 5, 6] rfl)
          · rw [if_neg c2] at h
            refine lv_aload_n hx hb dX5_exp_193 rfl (lv_at hl 0 rfl) ?_
            refine lv_iload hx hb dX5_exp_194 (lv_at hl 5 rfl) ?_
            refine lv_bipush (v := 8) hx hb dX5_exp_196 (by decide) ?_
            refine lv_aload_n hx hb dX5_exp_198 rfl (lv_at hl 0 rfl) ?_
            obtain ⟨b3, hb3, h⟩ := oP_ex h
            refine hgq_40_2 hx hb hts in_f_X5_exp_X5 hown hK hP (hts _ (List.mem_cons_of_mem _ (List.mem_append_left _ (List.mem_append_left _ (List.mem_of_getElem? (i := 24) rfl))))) hb3 dX5_exp_199 ?_
            refine lv_iload hx hb dX5_exp_202 (lv_at hl 5 rfl) ?_
            refine lv_if_ne (tgt := 212) hx hb dX5_exp_204 (by decide) (fun c4 => ?_) (fun c4 => ?_)
            · rw [if_neg c4] at h
              exact ih.2.2.2.2.2.2.2.2.2.2.2.2.2.2.1 z _ _ (lI (lI (lB L 100 b3) 101 8) 102 ((L.1 6))) σ _ h hzk hc hs H locs ls hP hD hS (lv_sub hl [0, 1, 2, 3, 4] rfl)
            · rw [if_pos c4] at h
              refine lv_bipush (v := 7) hx hb dX5_exp_207 (by decide) ?_
              refine lv_goto (tgt := 214) hx hb dX5_exp_209 (by decide) ?_
              exact ih.2.2.2.2.2.2.2.2.2.2.2.2.2.2.2.1 z _ _ (lI (lI (lB (lI L 100 7) 101 b3) 102 8) 103 ((L.1 6))) σ _ h hzk hc hs H locs ls hP hD hS (lv_sub hl [0, 1, 2, 3, 4] rfl)
      · intro z cells slots L σ r h hzk hc hs H locs ls hP hD hS hl
        rw [f_F2_1, t_X5_exp_12] at h
        refine lv_istore (lv' := [(7, .int (L.1 100)), (0, .ref (a 40)), (1, .int (L.1 1)), (2, .int (L.1 2)), (4, .int (L.1 4)), (6, .int (L.1 6))]) hx hb dX5_exp_103 hl (by decide) rfl (fun ls hl => ?_)
        refine lv_aload_n hx hb dX5_exp_105 rfl (lv_at hl 1 rfl) ?_
        refine lv_iload_n hx hb dX5_exp_106 rfl (lv_at hl 3 rfl) ?_
        refine lv_iload hx hb dX5_exp_107 (lv_at hl 0 rfl) ?_
        refine lv_if_eq (tgt := 119) hx hb dX5_exp_109 (by decide) (fun c1 => ?_) (fun c1 => ?_)
        · rw [if_pos c1] at h
          exact ih.2.2.2.2.2.2.2.2.2.2.2.2.2.2.2.2.1 z _ _ (lI L 100 ((L.1 2))) σ _ h hzk hc hs H locs ls hP hD hS (lv_sub hl [1, 2, 3, 4, 5] rfl)
        · rw [if_neg c1] at h
          refine lv_iload hx hb dX5_exp_112 (lv_at hl 5 rfl) ?_
          refine lv_iconst (v := 1) hx hb dX5_exp_114 (by decide) ?_
          refine lv_iadd hx hb dX5_exp_115 ?_
          refine lv_goto (tgt := 121) hx hb dX5_exp_116 (by decide) ?_
          exact ih.2.2.2.2.2.2.2.2.2.2.2.2.2.2.2.2.2.1 z _ _ (lI (lI L 100 ((((L.1 6)) + 1))) 101 ((L.1 2))) σ _ h hzk hc hs H locs ls hP hD hS (lv_sub hl [1, 2, 3, 4, 5] rfl)
      · intro z cells slots L σ r h hzk hc hs H locs ls hP hD hS hl
        rw [f_F2_1, t_X5_exp_13] at h
        refine lv_iload_n hx hb dX5_exp_224 rfl (lv_at hl 3 rfl) ?_
        refine lv_if_eq (tgt := 240) hx hb dX5_exp_225 (by decide) (fun c1 => ?_) (fun c1 => ?_)
        · rw [if_pos c1] at h
          exact ih.2.2.2.2.2.2.2.2.2.2.2.2.2.2.2.2.2.2.1 z _ _ L σ _ h hzk hc hs H locs ls hP hD hS (lv_sub hl [0, 1, 2, 3, 4] rfl)
        · rw [if_neg c1] at h
          refine lv_aload_n hx hb dX5_exp_228 rfl (lv_at hl 0 rfl) ?_
          refine lv_iload hx hb dX5_exp_229 (lv_at hl 5 rfl) ?_
          refine lv_iload hx hb dX5_exp_231 (lv_at hl 6 rfl) ?_
          obtain ⟨r2, hc2, h⟩ := op_ex h
          refine kc_i (va_runS (As := [.int (L.1 7)]) (rest := [.int (L.1 6), .ref (a 40)]) ⟨hx, hb, hml, hown, hts⟩ (c_y_X5_binaryOp l dC dI cy a z k (lI lZ 0 ((L.1 7))) σ r2 hc2 H.size) (va_cwS 1 hts g_y_X5_exp_X5_binaryOp_S375 rfl rfl rfl hd_y_X5_binaryOp (by show 0 + 1 ≤ 9 + d ∧ 8 + (1 + 11) + 0 ≤ 173 + 33 * d; omega)) ⟨nb_blind, (kb_pre hK hG hP hD)⟩ rfl rfl hl.1 rfl (lv_room (Nat.le_of_ble_eq_true rfl)) dX5_exp_233 ⟨(Nat.le_trans (Nat.le_add_right _ _) (Nat.le_of_eq hc)), (Nat.le_trans (Nat.le_add_right _ _) (Nat.le_of_eq hs))⟩) hA hP hD hS (fun H locs hP hD hS => ?_)
          refine lv_iconst (v := 0) hx hb dX5_exp_236 (by decide) ?_
          obtain ⟨r3, hc3, hle3, h9⟩ := ox_ex h
          clear h
          refine kx_v (vx_runV (As := [.int (L.1 6), .int r2.1, .int 0]) (rest := []) ⟨hx, hb, hml, hown, hts⟩ (c_f_X5_postpone l hl0 dC dI cy ek a k (lI (lI (lI lZ 1 ((L.1 6))) 2 r2.1) 3 0) r2.2 r3 hc3 z H.size) (cwV 3 hts g_f_X5_exp_X5_postpone_V372 rfl rfl rfl hd_f_X5_postpone (by show 7 + 1 ≤ 9 + d ∧ 8 + (4 + 11) + 121 ≤ 173 + 33 * d; omega)) ⟨nb_blindF, va_recv hK hP (ci := 4) (q0 := 40) rfl rfl, (kx_pre hK hG hE hT hA hP hD hS)⟩ rfl rfl hl.1 rfl (lv_room (Nat.le_of_ble_eq_true rfl)) dX5_exp_237 ⟨Nat.le_trans (Nat.add_le_add_left hle3.1 _) (Nat.le_of_eq hc), Nat.le_trans (Nat.add_le_add_left hle3.2 _) (Nat.le_of_eq hs)⟩) hK hA hzk hP hD hS (by decide) hno hlocks ?_
          rcases h9 with ⟨h00, y3, hny3, hy⟩ | ⟨h00, hy⟩
          · subst hy
            have h := hny3
            refine Or.inl ⟨h00, fun z H locs hz3 hzk hP hD hS => ?_⟩
            replace hc := (Nat.add_assoc _ _ _).trans hc
            replace hs := (Nat.add_assoc _ _ _).trans hs
            exact ih.2.2.2.2.2.2.2.2.2.2.2.2.2.2.2.2.2.2.1 z _ _ L r3.2.1 _ h hzk hc hs H locs ls hP hD hS (lv_sub hl [0, 1, 2, 3, 4] rfl)
          · subst hy
            exact Or.inr ⟨h00, rfl, hc, hs⟩
      · intro z cells slots L σ r h hzk hc hs H locs ls hP hD hS hl
        rw [f_F2_1, t_X5_exp_14] at h
        refine lv_bipush (v := 6) hx hb dX5_exp_212 (by decide) ?_
        exact ih.2.2.2.2.2.2.2.2.2.2.2.2.2.2.2.1 z _ _ (lI (lI (lB (lI L 100 6) 101 ((L.2.2.1 100))) 102 ((L.1 101))) 103 ((L.1 102))) σ _ h hzk hc hs H locs ls hP hD hS (lv_sub hl [0, 1, 2, 3, 4] rfl)
      · intro z cells slots L σ r h hzk hc hs H locs ls hP hD hS hl
        rw [f_F2_1, t_X5_exp_15] at h
        refine lv_iconst (v := 0) hx hb dX5_exp_214 (by decide) ?_
        obtain ⟨r1, hc1, hle1, h9⟩ := ox_ex h
        clear h
        refine kx_i (vx_runV (As := [.int (L.1 100), .int 0]) (rest := [.int (L.1 102), .int (L.1 103), .ref (a 40)]) ⟨hx, hb, hml, hown, hts⟩ (c_f_X7_emit__P l hl0 dC dI cy ek a k (lI (lI (lB lZ 0 ((L.2.2.1 101))) 1 ((L.1 100))) 2 0) σ r1 hc1 z H.size) (cwV 2 hts g_f_X5_exp_X7_emit__P_V66 rfl rfl rfl hd_f_X7_emit__P (by show 7 + 1 ≤ 9 + d ∧ 8 + (3 + 11) + 121 ≤ 173 + 33 * d; omega)) ⟨nb_blindF, recvP ((L.2.2.1 101)) hK hP, (kx_pre hK hG hE hT hA hP hD hS)⟩ rfl rfl hl.1 rfl (lv_room (Nat.le_of_ble_eq_true rfl)) dX5_exp_215 ⟨Nat.le_trans (Nat.add_le_add_left hle1.1 _) (Nat.le_of_eq hc), Nat.le_trans (Nat.add_le_add_left hle1.2 _) (Nat.le_of_eq hs)⟩) hK hA hzk hP hD hS (by decide) hno hlocks ?_
        rcases h9 with ⟨h00, y1, hny1, hy⟩ | ⟨h00, hy⟩
        · subst hy
          have h := hny1
          refine Or.inl ⟨h00, fun z H locs hz1 hzk hP hD hS => ?_⟩
          replace hc := (Nat.add_assoc _ _ _).trans hc
          replace hs := (Nat.add_assoc _ _ _).trans hs
          obtain ⟨r2, hc2, hle2, h9⟩ := ox_ex h
          clear h
          refine kx_v (r := y1) (vx_runV (As := [.int (L.1 103), .int (L.1 102), .int r1.1.2]) (rest := []) ⟨hx, hb, hml, hown, hts⟩ (c_f_X5_postpone l hl0 dC dI cy ek a k (lI (lI (lI lZ 1 ((L.1 103))) 2 ((L.1 102))) 3 r1.1.2) r1.2.1 r2 hc2 z H.size) (cwV 3 hts g_f_X5_exp_X5_postpone_V372 rfl rfl rfl hd_f_X5_postpone (by show 7 + 1 ≤ 9 + d ∧ 8 + (4 + 11) + 121 ≤ 173 + 33 * d; omega)) ⟨nb_blindF, va_recv hK hP (ci := 4) (q0 := 40) rfl rfl, (kx_pre hK hG hE hT hA hP hD hS)⟩ rfl rfl hl.1 rfl (lv_room (Nat.le_of_ble_eq_true rfl)) dX5_exp_218 ⟨Nat.le_trans (Nat.add_le_add_left hle2.1 _) (Nat.le_of_eq hc), Nat.le_trans (Nat.add_le_add_left hle2.2 _) (Nat.le_of_eq hs)⟩) hK hA hzk hP hD hS (by decide) hno hlocks ?_
          rcases h9 with ⟨h00, y2, hny2, hy⟩ | ⟨h00, hy⟩
          · subst hy
            have h := hny2
            refine Or.inl ⟨h00, fun z H locs hz2 hzk hP hD hS => ?_⟩
            replace hc := (Nat.add_assoc _ _ _).trans hc
            replace hs := (Nat.add_assoc _ _ _).trans hs
            refine lv_goto (tgt := 240) hx hb dX5_exp_221 (by decide) ?_
            exact ih.2.2.2.2.2.2.2.2.2.2.2.2.2.2.2.2.2.2.1 z _ _ L r2.2.1 _ h hzk hc hs H locs ls hP hD hS (lv_sub hl [0, 1, 2, 3, 4] rfl)
          · subst hy
            exact Or.inr ⟨h00, rfl, hc, hs⟩
        · subst hy
          exact Or.inr ⟨h00, rfl, hc, hs⟩
      · intro z cells slots L σ r h hzk hc hs H locs ls hP hD hS hl
        rw [f_F2_1, t_X5_exp_16] at h
        refine lv_iload hx hb dX5_exp_119 (lv_at hl 4 rfl) ?_
        exact ih.2.2.2.2.2.2.2.2.2.2.2.2.2.2.2.2.2.1 z _ _ (lI (lI L 100 ((L.1 6))) 101 ((L.1 100))) σ _ h hzk hc hs H locs ls hP hD hS (lv_sub hl [0, 1, 2, 3, 4] rfl)
      · intro z cells slots L σ r h hzk hc hs H locs ls hP hD hS hl
        rw [f_F2_1, t_X5_exp_17] at h
        obtain ⟨r1, hc1, hle1, h9⟩ := ox_ex h
        clear h
        refine kx_v (vx_runV (As := [.int (L.1 101), .int (L.1 100)]) (rest := []) ⟨hx, hb, hml, hown, hts⟩ (c_f_X5_settle l hl0 dC dI cy ek a k (lI (lI lZ 1 ((L.1 101))) 2 ((L.1 100))) σ r1 hc1 z H.size) (cwV 2 hts g_f_X5_exp_X5_settle_V366 rfl rfl rfl hd_f_X5_settle (by show 8 + 1 ≤ 9 + d ∧ 8 + (6 + 11) + 143 ≤ 173 + 33 * d; omega)) ⟨nb_blindF, va_recv hK hP (ci := 4) (q0 := 40) rfl rfl, (kx_pre hK hG hE hT hA hP hD hS)⟩ rfl rfl hl.1 rfl (lv_room (Nat.le_of_ble_eq_true rfl)) dX5_exp_121 ⟨Nat.le_trans (Nat.add_le_add_left hle1.1 _) (Nat.le_of_eq hc), Nat.le_trans (Nat.add_le_add_left hle1.2 _) (Nat.le_of_eq hs)⟩) hK hA hzk hP hD hS (by decide) hno hlocks ?_
        rcases h9 with ⟨h00, y1, hny1, hy⟩ | ⟨h00, hy⟩
        · subst hy
          have h := hny1
          refine Or.inl ⟨h00, fun z H locs hz1 hzk hP hD hS => ?_⟩
          replace hc := (Nat.add_assoc _ _ _).trans hc
          replace hs := (Nat.add_assoc _ _ _).trans hs
          refine lv_iload hx hb dX5_exp_124 (lv_at hl 4 rfl) ?_
          refine lv_iconst (v := 3) hx hb dX5_exp_126 (by decide) ?_
          refine lv_icmp_ne (tgt := 139) hx hb dX5_exp_127 (by decide) (fun c2 => ?_) (fun c2 => ?_)
          · rw [if_neg c2] at h
            exact ih.2.2.2.2.2.2.2.2.2.2.2.2.2.2.2.2.2.2.2.1 z _ _ L r1.2.1 _ h hzk hc hs H locs ls hP hD hS (lv_sub hl [0, 1, 2, 3, 4] rfl)
          · rw [if_pos c2] at h
            refine lv_aload_n hx hb dX5_exp_130 rfl (lv_at hl 0 rfl) ?_
            refine lv_iload_n hx hb dX5_exp_131 rfl (lv_at hl 2 rfl) ?_
            obtain ⟨r3, hc3, h⟩ := op_ex h
            refine kc_i (va_runV (As := [.int (L.1 2)]) (rest := []) ⟨hx, hb, hml, hown, hts⟩ (c_y_X5_postponedLevel l dC dI cy a z k (lI lZ 1 ((L.1 2))) r1.2.1 r3 hc3 H.size) (cwV 1 hts g_y_X5_exp_X5_postponedLevel_V369 rfl rfl rfl hd_y_X5_postponedLevel (by show 0 + 1 ≤ 9 + d ∧ 8 + (2 + 11) + 0 ≤ 173 + 33 * d; omega)) ⟨nb_blind, va_recv hK hP (ci := 4) (q0 := 40) rfl rfl, (kb_pre hK hG hP hD)⟩ rfl rfl hl.1 rfl (lv_room (Nat.le_of_ble_eq_true rfl)) dX5_exp_132 ⟨(Nat.le_trans (Nat.le_add_right _ _) (Nat.le_of_eq hc)), (Nat.le_trans (Nat.le_add_right _ _) (Nat.le_of_eq hs))⟩) hA hP hD hS (fun H locs hP hD hS => ?_)
            refine lv_iconst (v := 3) hx hb dX5_exp_135 (by decide) ?_
            refine lv_icmp_eq (tgt := 143) hx hb dX5_exp_136 (by decide) (fun c4 => ?_) (fun c4 => ?_)
            · rw [if_pos c4] at h
              exact ih.2.2.2.2.2.2.2.2.2.2.2.2.2.2.2.2.2.2.2.2.1 z _ _ L r3.2 _ h hzk hc hs H locs ls hP hD hS (lv_sub hl [0, 1, 2, 3, 4] rfl)
            · rw [if_neg c4] at h
              exact ih.2.2.2.2.2.2.2.2.2.2.2.2.2.2.2.2.2.2.2.1 z _ _ L r3.2 _ h hzk hc hs H locs ls hP hD hS (lv_sub hl [0, 1, 2, 3, 4] rfl)
        · subst hy
          exact Or.inr ⟨h00, rfl, hc, hs⟩
      · intro z cells slots L σ r h hzk hc hs H locs ls hP hD hS hl
        rw [f_F2_1, t_X5_exp_18] at h
        refine lv_iinc (v := ((L.1 4)) + 1) (lv' := [(4, .int (((L.1 4)) + 1)), (0, .ref (a 40)), (1, .int (L.1 1)), (2, .int (L.1 2)), (3, .int (L.1 3))]) hx hb dX5_exp_240 hl (k := 4) rfl rfl (by decide) rfl (fun ls hl => ?_)
        refine lv_goto (tgt := 10) hx hb dX5_exp_243 (by decide) ?_
        exact ih.2.1 z _ _ (lI L 4 ((((L.1 4)) + 1))) σ _ h hzk hc hs H locs ls hP hD hS (lv_sub hl [1, 2, 3, 4, 0] rfl)
      · intro z cells slots L σ r h hzk hc hs H locs ls hP hD hS hl
        rw [f_F2_1, t_X5_exp_19] at h
        refine lv_iconst (v := 1) hx hb dX5_exp_139 (by decide) ?_
        refine lv_goto (tgt := 144) hx hb dX5_exp_140 (by decide) ?_
        exact ih.2.2.2.2.2.2.2.2.2.2.2.2.2.2.2.2.2.2.2.2.2 z _ _ (lI L 100 1) σ _ h hzk hc hs H locs ls hP hD hS (lv_sub hl [0, 1, 2, 3, 4] rfl)
      · intro z cells slots L σ r h hzk hc hs H locs ls hP hD hS hl
        rw [f_F2_1, t_X5_exp_20] at h
        refine lv_iconst (v := 0) hx hb dX5_exp_143 (by decide) ?_
        exact ih.2.2.2.2.2.2.2.2.2.2.2.2.2.2.2.2.2.2.2.2.2 z _ _ (lI L 100 0) σ _ h hzk hc hs H locs ls hP hD hS (lv_sub hl [0, 1, 2, 3, 4] rfl)
      · intro z cells slots L σ r h hzk hc hs H locs ls hP hD hS hl
        rw [f_F2_1, t_X5_exp_21] at h
        refine lv_istore_n (lv' := [(3, .int (L.1 100)), (0, .ref (a 40)), (1, .int (L.1 1)), (2, .int (L.1 2)), (4, .int (L.1 4)), (6, .int (L.1 6))]) hx hb dX5_exp_144 rfl hl (by decide) rfl (fun ls hl => ?_)
        exact ih.2.2.2.2.2.2.2.1 z _ _ (lI L 3 ((L.1 100))) σ _ h hzk hc hs H locs ls hP hD hS (lv_sub hl [1, 2, 3, 0, 4, 5] rfl)
  exact (blk k0 (Nat.le_refl _)).1 z 0 0 L0 σ0 r0 h0 (zk_rf _ _) ((Nat.zero_add _).trans hmc) ((Nat.zero_add _).trans hms) s.heap [] ls hP hD hS hl
