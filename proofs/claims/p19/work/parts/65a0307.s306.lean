section JnS306
/-! Two readings of one text over unlike tables: statements. -/
section RST
variable {T : Nat → Int32} {n un : Nat} {R : Nat → BT → BT → Prop} {v : Nat} {b b' : BT} {f o q : Nat} {E : En}
theorem R_lnk (hC : RC un R) {i e x : Nat} (h : R v b b') : R v (bLnk i e x b) (bLnk i e x b') := by
  unfold bLnk
  exact R_ite h (R_set hC h)
theorem gTg_R (hC : RC un R) (hun : E.2.2.2.1 = un) (h : R v b b') : Rg R (gTg T n f E o q v b) (gTg T n f E o q v b') := by
  have s1 := (hC.1 v b b' h).1
  have s2 := (hC.1 v b b' h).2
  unfold gTg
  try simp only [← s1, ← s2]
  repeat' (first
    | with_reducible exact Rg_n
    | with_reducible assumption
    | with_reducible refine Rg_gT (fun q1 => ?_)
    | with_reducible refine Rg_gW (fun q1 => ?_)
    | with_reducible refine Rg_gO ?_
    | with_reducible refine Rg_ite ?_ ?_
    | (with_reducible refine Rg_gb hC (G_R hC _ _ _ _ _ _ _ _ _ _ _ _ ?_ ?_) (fun q1 v1 i1 e1 b1 b1' nm hR h1 h2 => ?_)); rotate_left 2; (try dsimp only); (try simp only [← h1, ← h2]); rotate_right 2
    | with_reducible refine G_R hC _ _ _ _ _ _ _ _ _ _ _ _ ?_ ?_
    | with_reducible refine Rg_ss ?_
    | with_reducible refine R_lnk hC ?_
    | with_reducible refine R_over hC ?_
    | with_reducible refine R_wrap hC ?_
    | with_reducible refine R_node hC ?_
    | with_reducible refine R_keep hC ?_
    | with_reducible refine R_set hC ?_
    | with_reducible refine R_ite ?_ ?_
    | exact hun)
theorem GA_R {md : Nat → Nat} {np : Nat} (hC : RC un R) (hun : E.2.2.2.1 = un) : ∀ (f o q i e c : Nat) (b b' : BT), R v b b' → Rg R (GA T n md np E f o q v i e c b) (GA T n md np E f o q v i e c b') := by
  intro f
  induction f generalizing v with
  | zero => intro o q i e c b b' _; unfold GA; exact Rg_0
  | succ f ih =>
    intro o q i e c b b' h
    have s1 := (hC.1 v b b' h).1
    have s2 := (hC.1 v b b' h).2
    unfold GA
    try simp only [← s1, ← s2]
    repeat' (first
      | with_reducible exact Rg_n
      | with_reducible assumption
      | with_reducible refine Rg_gT (fun q1 => ?_)
      | with_reducible refine Rg_gW (fun q1 => ?_)
      | with_reducible refine Rg_gO ?_
      | with_reducible refine Rg_ite ?_ ?_
      | (with_reducible refine Rg_gb hC (G_R hC _ _ _ _ _ _ _ _ _ _ _ _ ?_ ?_) (fun q1 v1 i1 e1 b1 b1' nm hR h1 h2 => ?_)); rotate_left 2; (try dsimp only); (try simp only [← h1, ← h2]); rotate_right 2
      | with_reducible refine G_R hC _ _ _ _ _ _ _ _ _ _ _ _ ?_ ?_
      | (with_reducible refine Rg_gb hC (ih _ _ _ _ _ _ _ ?_) (fun q1 v1 i1 e1 b1 b1' nm hR h1 h2 => ?_)); rotate_left 2; (try dsimp only); (try simp only [← h1, ← h2]); rotate_right 2
      | with_reducible refine ih _ _ _ _ _ _ _ ?_
      | with_reducible refine Rg_ss ?_
      | with_reducible refine R_lnk hC ?_
      | with_reducible refine R_over hC ?_
      | with_reducible refine R_wrap hC ?_
      | with_reducible refine R_node hC ?_
      | with_reducible refine R_keep hC ?_
      | with_reducible refine R_set hC ?_
      | with_reducible refine R_ite ?_ ?_
      | exact hun)
theorem gCl_R (hC : RC un R) {md : Nat → Nat} {np p : Nat} {tg : Int32} (hun : E.2.2.2.1 = un) (h : R v b b') : Rg R (gCl T n f md np p tg E o q v b) (gCl T n f md np p tg E o q v b') := by
  have s1 := (hC.1 v b b' h).1
  have s2 := (hC.1 v b b' h).2
  unfold gCl
  try simp only [← s1, ← s2]
  repeat' (first
    | with_reducible exact Rg_n
    | with_reducible assumption
    | with_reducible refine Rg_gT (fun q1 => ?_)
    | with_reducible refine Rg_gW (fun q1 => ?_)
    | with_reducible refine Rg_gO ?_
    | with_reducible refine Rg_ite ?_ ?_
    | (with_reducible refine Rg_gb hC (G_R hC _ _ _ _ _ _ _ _ _ _ _ _ ?_ ?_) (fun q1 v1 i1 e1 b1 b1' nm hR h1 h2 => ?_)); rotate_left 2; (try dsimp only); (try simp only [← h1, ← h2]); rotate_right 2
    | with_reducible refine G_R hC _ _ _ _ _ _ _ _ _ _ _ _ ?_ ?_
    | (with_reducible refine Rg_gb hC (GA_R hC ?_ _ _ _ _ _ _ _ _ ?_) (fun q1 v1 i1 e1 b1 b1' nm hR h1 h2 => ?_)); rotate_left 2; (try dsimp only); (try simp only [← h1, ← h2]); rotate_right 2
    | with_reducible refine GA_R hC ?_ _ _ _ _ _ _ _ _ ?_
    | with_reducible refine Rg_ss ?_
    | with_reducible refine R_lnk hC ?_
    | with_reducible refine R_over hC ?_
    | with_reducible refine R_wrap hC ?_
    | with_reducible refine R_node hC ?_
    | with_reducible refine R_keep hC ?_
    | with_reducible refine R_set hC ?_
    | with_reducible refine R_ite ?_ ?_
    | exact hun)
theorem GPr_R (hC : RC un R) (hun : E.2.2.2.1 = un) : ∀ (f o q e : Nat) (b b' : BT), R v b b' → Rg R (GPr T n E f o q v e b) (GPr T n E f o q v e b') := by
  intro f
  induction f generalizing v with
  | zero => intro o q e b b' _; unfold GPr; exact Rg_0
  | succ f ih =>
    intro o q e b b' h
    have s1 := (hC.1 v b b' h).1
    have s2 := (hC.1 v b b' h).2
    unfold GPr
    try simp only [← s1, ← s2]
    repeat' (first
      | with_reducible exact Rg_n
      | with_reducible assumption
      | with_reducible refine Rg_gT (fun q1 => ?_)
      | with_reducible refine Rg_gW (fun q1 => ?_)
      | with_reducible refine Rg_gO ?_
      | with_reducible refine Rg_ite ?_ ?_
      | (with_reducible refine Rg_gb hC (G_R hC _ _ _ _ _ _ _ _ _ _ _ _ ?_ ?_) (fun q1 v1 i1 e1 b1 b1' nm hR h1 h2 => ?_)); rotate_left 2; (try dsimp only); (try simp only [← h1, ← h2]); rotate_right 2
      | with_reducible refine G_R hC _ _ _ _ _ _ _ _ _ _ _ _ ?_ ?_
      | (with_reducible refine Rg_gb hC (ih _ _ _ _ _ ?_) (fun q1 v1 i1 e1 b1 b1' nm hR h1 h2 => ?_)); rotate_left 2; (try dsimp only); (try simp only [← h1, ← h2]); rotate_right 2
      | with_reducible refine ih _ _ _ _ _ ?_
      | with_reducible refine Rg_ss ?_
      | with_reducible refine R_lnk hC ?_
      | with_reducible refine R_over hC ?_
      | with_reducible refine R_wrap hC ?_
      | with_reducible refine R_node hC ?_
      | with_reducible refine R_keep hC ?_
      | with_reducible refine R_set hC ?_
      | with_reducible refine R_ite ?_ ?_
      | exact hun)
theorem gS13_R (hC : RC un R) {e : Nat} (h : R v b b') : Rg R (gS13 T n q v e b) (gS13 T n q v e b') := Rg_gW (fun _ => Rg_ss h)
theorem gSm0_R (hC : RC un R) {w : Nat} (hun : E.2.2.2.1 = un) (h : R v b b') : Rg R (gSm0 T n f E o w q v b) (gSm0 T n f E o w q v b') := by
  have s1 := (hC.1 v b b' h).1
  have s2 := (hC.1 v b b' h).2
  unfold gSm0
  try simp only [← s1, ← s2]
  repeat' (first
    | with_reducible exact Rg_n
    | with_reducible assumption
    | with_reducible refine Rg_gT (fun q1 => ?_)
    | with_reducible refine Rg_gW (fun q1 => ?_)
    | with_reducible refine Rg_gO ?_
    | with_reducible refine Rg_ite ?_ ?_
    | (with_reducible refine Rg_gb hC (G_R hC _ _ _ _ _ _ _ _ _ _ _ _ ?_ ?_) (fun q1 v1 i1 e1 b1 b1' nm hR h1 h2 => ?_)); rotate_left 2; (try dsimp only); (try simp only [← h1, ← h2]); rotate_right 2
    | with_reducible refine G_R hC _ _ _ _ _ _ _ _ _ _ _ _ ?_ ?_
    | (with_reducible refine Rg_gb hC (GPr_R hC ?_ _ _ _ _ _ _ ?_) (fun q1 v1 i1 e1 b1 b1' nm hR h1 h2 => ?_)); rotate_left 2; (try dsimp only); (try simp only [← h1, ← h2]); rotate_right 2
    | with_reducible refine GPr_R hC ?_ _ _ _ _ _ _ ?_
    | with_reducible refine gS13_R hC ?_
    | with_reducible refine Rg_ss ?_
    | with_reducible refine R_lnk hC ?_
    | with_reducible refine R_over hC ?_
    | with_reducible refine R_wrap hC ?_
    | with_reducible refine R_node hC ?_
    | with_reducible refine R_keep hC ?_
    | with_reducible refine R_set hC ?_
    | with_reducible refine R_ite ?_ ?_
    | exact hun)
theorem gSm_R (hC : RC un R) {lp : Nat} (hun : E.2.2.2.1 = un) (h : R v b b') : Rg R (gSm T n f lp E o q v b) (gSm T n f lp E o q v b') := by
  have s1 := (hC.1 v b b' h).1
  have s2 := (hC.1 v b b' h).2
  unfold gSm
  try simp only [← s1, ← s2]
  repeat' (first
    | with_reducible exact Rg_n
    | with_reducible assumption
    | with_reducible refine Rg_gT (fun q1 => ?_)
    | with_reducible refine Rg_gW (fun q1 => ?_)
    | with_reducible refine Rg_gO ?_
    | with_reducible refine Rg_ite ?_ ?_
    | (with_reducible refine Rg_gb hC (gSm0_R hC ?_ ?_) (fun q1 v1 i1 e1 b1 b1' nm hR h1 h2 => ?_)); rotate_left 2; (try dsimp only); (try simp only [← h1, ← h2]); rotate_right 2
    | with_reducible refine gSm0_R hC ?_ ?_
    | with_reducible refine Rg_ss ?_
    | with_reducible refine R_lnk hC ?_
    | with_reducible refine R_over hC ?_
    | with_reducible refine R_wrap hC ?_
    | with_reducible refine R_node hC ?_
    | with_reducible refine R_keep hC ?_
    | with_reducible refine R_set hC ?_
    | with_reducible refine R_ite ?_ ?_
    | exact hun)
theorem gHo_R (hC : RC un R) (hun : E.2.2.2.1 = un) (h : R v b b') : Rg R (gHo T n f E o q v b) (gHo T n f E o q v b') := by
  have s1 := (hC.1 v b b' h).1
  have s2 := (hC.1 v b b' h).2
  unfold gHo
  try simp only [← s1, ← s2]
  repeat' (first
    | with_reducible exact Rg_n
    | with_reducible assumption
    | with_reducible refine Rg_gT (fun q1 => ?_)
    | with_reducible refine Rg_gW (fun q1 => ?_)
    | with_reducible refine Rg_gO ?_
    | with_reducible refine Rg_ite ?_ ?_
    | (with_reducible refine Rg_gb hC (gTg_R hC ?_ ?_) (fun q1 v1 i1 e1 b1 b1' nm hR h1 h2 => ?_)); rotate_left 2; (try dsimp only); (try simp only [← h1, ← h2]); rotate_right 2
    | with_reducible refine gTg_R hC ?_ ?_
    | with_reducible refine Rg_ss ?_
    | with_reducible refine R_lnk hC ?_
    | with_reducible refine R_over hC ?_
    | with_reducible refine R_wrap hC ?_
    | with_reducible refine R_node hC ?_
    | with_reducible refine R_keep hC ?_
    | with_reducible refine R_set hC ?_
    | with_reducible refine R_ite ?_ ?_
    | exact hun)
theorem GPt_R (hC : RC un R) (hun : E.2.2.2.1 = un) : ∀ (f o q i e : Nat) (b b' : BT), R v b b' → Rg R (GPt T n E f o q v i e b) (GPt T n E f o q v i e b') := by
  intro f
  induction f generalizing v with
  | zero => intro o q i e b b' _; unfold GPt; exact Rg_0
  | succ f ih =>
    intro o q i e b b' h
    have s1 := (hC.1 v b b' h).1
    have s2 := (hC.1 v b b' h).2
    unfold GPt
    try simp only [← s1, ← s2]
    repeat' (first
      | with_reducible exact Rg_n
      | with_reducible assumption
      | with_reducible refine Rg_gT (fun q1 => ?_)
      | with_reducible refine Rg_gW (fun q1 => ?_)
      | with_reducible refine Rg_gO ?_
      | with_reducible refine Rg_ite ?_ ?_
      | (with_reducible refine Rg_gb hC (gHo_R hC ?_ ?_) (fun q1 v1 i1 e1 b1 b1' nm hR h1 h2 => ?_)); rotate_left 2; (try dsimp only); (try simp only [← h1, ← h2]); rotate_right 2
      | with_reducible refine gHo_R hC ?_ ?_
      | (with_reducible refine Rg_gb hC (ih _ _ _ _ _ _ ?_) (fun q1 v1 i1 e1 b1 b1' nm hR h1 h2 => ?_)); rotate_left 2; (try dsimp only); (try simp only [← h1, ← h2]); rotate_right 2
      | with_reducible refine ih _ _ _ _ _ _ ?_
      | with_reducible refine Rg_ss ?_
      | with_reducible refine R_lnk hC ?_
      | with_reducible refine R_over hC ?_
      | with_reducible refine R_wrap hC ?_
      | with_reducible refine R_node hC ?_
      | with_reducible refine R_keep hC ?_
      | with_reducible refine R_set hC ?_
      | with_reducible refine R_ite ?_ ?_
      | exact hun)
theorem gPa_R (hC : RC un R) (hun : E.2.2.2.1 = un) (h : R v b b') : Rg R (gPa T n f E o q v b) (gPa T n f E o q v b') := by
  have s1 := (hC.1 v b b' h).1
  have s2 := (hC.1 v b b' h).2
  unfold gPa
  try simp only [← s1, ← s2]
  repeat' (first
    | with_reducible exact Rg_n
    | with_reducible assumption
    | with_reducible refine Rg_gT (fun q1 => ?_)
    | with_reducible refine Rg_gW (fun q1 => ?_)
    | with_reducible refine Rg_gO ?_
    | with_reducible refine Rg_ite ?_ ?_
    | (with_reducible refine Rg_gb hC (G_R hC _ _ _ _ _ _ _ _ _ _ _ _ ?_ ?_) (fun q1 v1 i1 e1 b1 b1' nm hR h1 h2 => ?_)); rotate_left 2; (try dsimp only); (try simp only [← h1, ← h2]); rotate_right 2
    | with_reducible refine G_R hC _ _ _ _ _ _ _ _ _ _ _ _ ?_ ?_
    | (with_reducible refine Rg_gb hC (GPt_R hC ?_ _ _ _ _ _ _ _ ?_) (fun q1 v1 i1 e1 b1 b1' nm hR h1 h2 => ?_)); rotate_left 2; (try dsimp only); (try simp only [← h1, ← h2]); rotate_right 2
    | with_reducible refine GPt_R hC ?_ _ _ _ _ _ _ _ ?_
    | with_reducible refine Rg_ss ?_
    | with_reducible refine R_lnk hC ?_
    | with_reducible refine R_over hC ?_
    | with_reducible refine R_wrap hC ?_
    | with_reducible refine R_node hC ?_
    | with_reducible refine R_keep hC ?_
    | with_reducible refine R_set hC ?_
    | with_reducible refine R_ite ?_ ?_
    | exact hun)
theorem gE13_R (hC : RC un R) {a c z : Int32} (hun : E.2.2.2.1 = un) (h : R v b b') : Rg R (gE13 T n f E o q v b a c z) (gE13 T n f E o q v b' a c z) := by
  have s1 := (hC.1 v b b' h).1
  have s2 := (hC.1 v b b' h).2
  unfold gE13
  try simp only [← s1, ← s2]
  repeat' (first
    | with_reducible exact Rg_n
    | with_reducible assumption
    | with_reducible refine Rg_gT (fun q1 => ?_)
    | with_reducible refine Rg_gW (fun q1 => ?_)
    | with_reducible refine Rg_gO ?_
    | with_reducible refine Rg_ite ?_ ?_
    | (with_reducible refine Rg_gb hC (G_R hC _ _ _ _ _ _ _ _ _ _ _ _ ?_ ?_) (fun q1 v1 i1 e1 b1 b1' nm hR h1 h2 => ?_)); rotate_left 2; (try dsimp only); (try simp only [← h1, ← h2]); rotate_right 2
    | with_reducible refine G_R hC _ _ _ _ _ _ _ _ _ _ _ _ ?_ ?_
    | with_reducible refine Rg_ss ?_
    | with_reducible refine R_lnk hC ?_
    | with_reducible refine R_over hC ?_
    | with_reducible refine R_wrap hC ?_
    | with_reducible refine R_node hC ?_
    | with_reducible refine R_keep hC ?_
    | with_reducible refine R_set hC ?_
    | with_reducible refine R_ite ?_ ?_
    | exact hun)
theorem gCa_R (hC : RC un R) {MD : Nat → Nat → Nat} {tg : Int32} (hun : E.2.2.2.1 = un) (h : R v b b') : Rg R (gCa T n f MD tg E o q v b) (gCa T n f MD tg E o q v b') := by
  have s1 := (hC.1 v b b' h).1
  have s2 := (hC.1 v b b' h).2
  unfold gCa
  try simp only [← s1, ← s2]
  repeat' (first
    | with_reducible exact Rg_n
    | with_reducible assumption
    | with_reducible refine Rg_gT (fun q1 => ?_)
    | with_reducible refine Rg_gW (fun q1 => ?_)
    | with_reducible refine Rg_gO ?_
    | with_reducible refine Rg_ite ?_ ?_
    | (with_reducible refine Rg_gb hC (gCl_R hC ?_ ?_) (fun q1 v1 i1 e1 b1 b1' nm hR h1 h2 => ?_)); rotate_left 2; (try dsimp only); (try simp only [← h1, ← h2]); rotate_right 2
    | with_reducible refine gCl_R hC ?_ ?_
    | with_reducible refine Rg_ss ?_
    | with_reducible refine R_lnk hC ?_
    | with_reducible refine R_over hC ?_
    | with_reducible refine R_wrap hC ?_
    | with_reducible refine R_node hC ?_
    | with_reducible refine R_keep hC ?_
    | with_reducible refine R_set hC ?_
    | with_reducible refine R_ite ?_ ?_
    | exact hun)
theorem gAs_R (hC : RC un R) {MD : Nat → Nat → Nat} {i e : Nat} (hun : E.2.2.2.1 = un) (h : R v b b') : Rg R (gAs T n f MD E o i e q v b) (gAs T n f MD E o i e q v b') := by
  have s1 := (hC.1 v b b' h).1
  have s2 := (hC.1 v b b' h).2
  unfold gAs
  try simp only [← s1, ← s2]
  repeat' (first
    | with_reducible exact Rg_n
    | with_reducible assumption
    | with_reducible refine Rg_gT (fun q1 => ?_)
    | with_reducible refine Rg_gW (fun q1 => ?_)
    | with_reducible refine Rg_gO ?_
    | with_reducible refine Rg_ite ?_ ?_
    | (with_reducible refine Rg_gb hC (gCa_R hC ?_ ?_) (fun q1 v1 i1 e1 b1 b1' nm hR h1 h2 => ?_)); rotate_left 2; (try dsimp only); (try simp only [← h1, ← h2]); rotate_right 2
    | with_reducible refine gCa_R hC ?_ ?_
    | (with_reducible refine Rg_gb hC (gE13_R hC ?_ ?_) (fun q1 v1 i1 e1 b1 b1' nm hR h1 h2 => ?_)); rotate_left 2; (try dsimp only); (try simp only [← h1, ← h2]); rotate_right 2
    | with_reducible refine gE13_R hC ?_ ?_
    | with_reducible refine Rg_ss ?_
    | with_reducible refine R_lnk hC ?_
    | with_reducible refine R_over hC ?_
    | with_reducible refine R_wrap hC ?_
    | with_reducible refine R_node hC ?_
    | with_reducible refine R_keep hC ?_
    | with_reducible refine R_set hC ?_
    | with_reducible refine R_ite ?_ ?_
    | exact hun)
theorem gBh_R (hC : RC un R) {MD : Nat → Nat → Nat} {i e : Nat} (hun : E.2.2.2.1 = un) (h : R v b b') : Rg R (gBh T n f MD E o i e q v b) (gBh T n f MD E o i e q v b') := by
  have s1 := (hC.1 v b b' h).1
  have s2 := (hC.1 v b b' h).2
  unfold gBh
  try simp only [← s1, ← s2]
  repeat' (first
    | with_reducible exact Rg_n
    | with_reducible assumption
    | with_reducible refine Rg_gT (fun q1 => ?_)
    | with_reducible refine Rg_gW (fun q1 => ?_)
    | with_reducible refine Rg_gO ?_
    | with_reducible refine Rg_ite ?_ ?_
    | (with_reducible refine Rg_gb hC (gE13_R hC ?_ ?_) (fun q1 v1 i1 e1 b1 b1' nm hR h1 h2 => ?_)); rotate_left 2; (try dsimp only); (try simp only [← h1, ← h2]); rotate_right 2
    | with_reducible refine gE13_R hC ?_ ?_
    | (with_reducible refine Rg_gb hC (gTg_R hC ?_ ?_) (fun q1 v1 i1 e1 b1 b1' nm hR h1 h2 => ?_)); rotate_left 2; (try dsimp only); (try simp only [← h1, ← h2]); rotate_right 2
    | with_reducible refine gTg_R hC ?_ ?_
    | (with_reducible refine Rg_gb hC (gAs_R hC ?_ ?_) (fun q1 v1 i1 e1 b1 b1' nm hR h1 h2 => ?_)); rotate_left 2; (try dsimp only); (try simp only [← h1, ← h2]); rotate_right 2
    | with_reducible refine gAs_R hC ?_ ?_
    | with_reducible refine Rg_ss ?_
    | with_reducible refine R_lnk hC ?_
    | with_reducible refine R_over hC ?_
    | with_reducible refine R_wrap hC ?_
    | with_reducible refine R_node hC ?_
    | with_reducible refine R_keep hC ?_
    | with_reducible refine R_set hC ?_
    | with_reducible refine R_ite ?_ ?_
    | exact hun)
theorem gBg_R (hC : RC un R) {MD : Nat → Nat → Nat} (hun : E.2.2.2.1 = un) (h : R v b b') : Rg R (gBg T n f MD E o q v b) (gBg T n f MD E o q v b') := by
  have s1 := (hC.1 v b b' h).1
  have s2 := (hC.1 v b b' h).2
  unfold gBg
  try simp only [← s1, ← s2]
  repeat' (first
    | with_reducible exact Rg_n
    | with_reducible assumption
    | with_reducible refine Rg_gT (fun q1 => ?_)
    | with_reducible refine Rg_gW (fun q1 => ?_)
    | with_reducible refine Rg_gO ?_
    | with_reducible refine Rg_ite ?_ ?_
    | (with_reducible refine Rg_gb hC (gCa_R hC ?_ ?_) (fun q1 v1 i1 e1 b1 b1' nm hR h1 h2 => ?_)); rotate_left 2; (try dsimp only); (try simp only [← h1, ← h2]); rotate_right 2
    | with_reducible refine gCa_R hC ?_ ?_
    | (with_reducible refine Rg_gb hC (gTg_R hC ?_ ?_) (fun q1 v1 i1 e1 b1 b1' nm hR h1 h2 => ?_)); rotate_left 2; (try dsimp only); (try simp only [← h1, ← h2]); rotate_right 2
    | with_reducible refine gTg_R hC ?_ ?_
    | (with_reducible refine Rg_gb hC (gBh_R hC ?_ ?_) (fun q1 v1 i1 e1 b1 b1' nm hR h1 h2 => ?_)); rotate_left 2; (try dsimp only); (try simp only [← h1, ← h2]); rotate_right 2
    | with_reducible refine gBh_R hC ?_ ?_
    | with_reducible refine Rg_ss ?_
    | with_reducible refine R_lnk hC ?_
    | with_reducible refine R_over hC ?_
    | with_reducible refine R_wrap hC ?_
    | with_reducible refine R_node hC ?_
    | with_reducible refine R_keep hC ?_
    | with_reducible refine R_set hC ?_
    | with_reducible refine R_ite ?_ ?_
    | exact hun)
end RST
end JnS306
section JnS307
/-! Two readings of one text over unlike tables: blocks of statements. -/
/-- statements from k0 on are the same, and those of DU (what they lie in), DP (where they begin) -/
def Zp (DU DP : Nat → Prop) (k0 : Nat) (s s' : SB) : Prop := s.1 = s'.1 ∧ k0 ≤ s.1 ∧ (∀ i, DU i ∨ (k0 ≤ i ∧ i < s.1) → s.2.1 i = s'.2.1 i) ∧ ∀ i, DP i ∨ (k0 ≤ i ∧ i < s.1) → s.2.2 i = s'.2.2 i
/-- behind a statement m: what it lies in is not told yet -/
def Z1 (DU DP : Nat → Prop) (k0 m k : Nat) (s s' : SB) : Prop := k = m ∧ s.1 = s'.1 ∧ k0 ≤ m ∧ m < s.1 ∧ (∀ i, DU i ∨ (k0 ≤ i ∧ i < s.1 ∧ i ≠ m) → s.2.1 i = s'.2.1 i) ∧ ∀ i, DP i ∨ (k0 ≤ i ∧ i < s.1) → s.2.2 i = s'.2.2 i
def Rz (R : Nat → BT → BT → Prop) (Q : Nat → SB → SB → Prop) (x x' : SR) : Prop := (x = none ∧ x' = none) ∨ (∃ e0, x = some (Sum.inl e0) ∧ x' = some (Sum.inl e0)) ∨ ∃ q v k e b b' s s', x = some (Sum.inr (q, v, k, e, b, s)) ∧ x' = some (Sum.inr (q, v, k, e, b', s')) ∧ R v b b' ∧ Q k s s'
section RZS
variable {T : Nat → Int32} {n un : Nat} {R : Nat → BT → BT → Prop} {Q Q' : Nat → SB → SB → Prop} {x x' y y' : SR} {v : Nat} {b b' : BT} {DU DP : Nat → Prop} {k0 : Nat} {s s' : SB}
theorem Rz_0 : Rz R Q none none := Or.inl ⟨rfl, rfl⟩
theorem Rz_n {e0 : Nat × Nat} : Rz R Q (some (Sum.inl e0)) (some (Sum.inl e0)) := Or.inr (Or.inl ⟨e0, rfl, rfl⟩)
theorem Rz_ss {q k e : Nat} (h : R v b b') (hQ : Q k s s') : Rz R Q (some (Sum.inr (q, v, k, e, b, s))) (some (Sum.inr (q, v, k, e, b', s'))) := Or.inr (Or.inr ⟨q, v, k, e, b, b', s, s', rfl, rfl, h, hQ⟩)
theorem Rz_hb {k k' : ST → SR} (hC : RC un R) (h : Rz R Q x x') (hk : ∀ (q v i e : Nat) (b b' : BT) (s s' : SB), R v b b' → b.1 = b'.1 → Q i s s' → Rz R Q' (k (q, v, i, e, b, s)) (k' (q, v, i, e, b', s'))) : Rz R Q' (hb x k) (hb x' k') := by
  rcases h with ⟨h1, h2⟩ | ⟨e0, h1, h2⟩ | ⟨q, v, i, e, b, b', s, s', h1, h2, h3, h4⟩
  · rw [h1, h2]; exact Rz_0
  · rw [h1, h2]; exact Rz_n
  · rw [h1, h2]; exact hk q v i e b b' s s' h3 (hC.1 v b b' h3).1 h4
theorem Rz_lb {x x' : RG} {k k' : RT → SR} (hC : RC un R) (h : Rg R x x') (hk : ∀ (q v i e : Nat) (b b' : BT) (nm : List Nm), R v b b' → b.1 = b'.1 → Rz R Q' (k (q, v, i, e, b, nm)) (k' (q, v, i, e, b', nm))) : Rz R Q' (lb x k) (lb x' k') := by
  rcases h with ⟨h1, h2⟩ | ⟨e0, h1, h2⟩ | ⟨q, v, i, e, b, b', nm, h1, h2, h3⟩
  · rw [h1, h2]; exact Rz_0
  · rw [h1, h2]; exact Rz_n
  · rw [h1, h2]; exact hk q v i e b b' nm h3 (hC.1 v b b' h3).1
theorem Rz_ite {c : Prop} [Decidable c] (h : Rz R Q x x') (h' : Rz R Q y y') : Rz R Q (if c then x else y) (if c then x' else y') := by
  by_cases z : c
  · rw [if_pos z, if_pos z]; exact h
  · rw [if_neg z, if_neg z]; exact h'
theorem Rz_hT {q : Nat} {k k' : Nat → SR} (h : ∀ q1, Rz R Q (k q1) (k' q1)) : Rz R Q (hT T n q k) (hT T n q k') := Rz_ite Rz_n (h _)
theorem Rz_hW {t q : Nat} {k k' : Nat → SR} (h : ∀ q1, Rz R Q (k q1) (k' q1)) : Rz R Q (hW T n t q k) (hW T n t q k') := Rz_ite (Rz_hT h) Rz_n
theorem Rz_hE {q : Nat} {k k' : Nat → SR} (h : ∀ q1, Rz R Q (k q1) (k' q1)) : Rz R Q (hE T n q k) (hE T n q k') := Rz_hW (fun q1 => Rz_hW h)
theorem Zp_up {m k : Nat} {pe : Int32} (h : Z1 DU DP k0 m k s s') : Zp DU DP k0 (sUp s k pe) (sUp s' k pe) := by
  obtain ⟨rfl, h1, h2, h3, h4, h5⟩ := h
  refine ⟨h1, by show k0 ≤ s.1; omega, fun i hi => ?_, h5⟩
  show upd s.2.1 k pe i = upd s'.2.1 k pe i
  have hi : DU i ∨ (k0 ≤ i ∧ i < s.1) := hi
  by_cases c : i = k
  · rw [c, upd_same, upd_same]
  · rw [upd_other c, upd_other c]; exact h4 i (hi.imp id (fun z => ⟨z.1, z.2, c⟩))
theorem Zp_mo (h : Zp DU DP k0 s s') : Zp (fun i => DU i ∨ (k0 ≤ i ∧ i < s.1)) (fun i => DP i ∨ (k0 ≤ i ∧ i < s.1)) (s.1 + 1) (sMo s) (sMo s') := by
  obtain ⟨h1, h2, h3, h4⟩ := h
  refine ⟨congrArg (· + 1) h1, Nat.le_refl _, fun i hi => ?_, fun i hi => ?_⟩
  · rcases hi with hi | hi
    · exact h3 i hi
    · have : i < s.1 + 1 := hi.2
      omega
  · rcases hi with hi | hi
    · exact h4 i hi
    · have : i < s.1 + 1 := hi.2
      omega
theorem Z1_pl {m : Nat} {pl : Int32} (hm : k0 ≤ m) (h : Zp (fun i => DU i ∨ (k0 ≤ i ∧ i < m)) (fun i => DP i ∨ (k0 ≤ i ∧ i < m)) (m + 1) s s') : Z1 DU DP k0 m m (sPl s m pl) (sPl s' m pl) := by
  obtain ⟨h1, h2, h3, h4⟩ := h
  refine ⟨rfl, h1, hm, by show m < s.1; omega, fun i hi => ?_, fun i hi => ?_⟩
  · have hi : DU i ∨ (k0 ≤ i ∧ i < s.1 ∧ i ≠ m) := hi
    refine h3 i ?_
    rcases hi with z | z
    · exact Or.inl (Or.inl z)
    · by_cases c : i < m
      · exact Or.inl (Or.inr ⟨z.1, c⟩)
      · exact Or.inr ⟨by omega, z.2.1⟩
  · have hi : DP i ∨ (k0 ≤ i ∧ i < s.1) := hi
    show upd s.2.2 m pl i = upd s'.2.2 m pl i
    by_cases e : i = m
    · rw [e, upd_same, upd_same]
    · rw [upd_other e, upd_other e]
      refine h4 i ?_
      rcases hi with z | z
      · exact Or.inl (Or.inl z)
      · by_cases c : i < m
        · exact Or.inl (Or.inr ⟨z.1, c⟩)
        · exact Or.inr ⟨by omega, z.2⟩
/-- what a statement, a block leaves -/
def QZ (nt : Nat) (DU DP : Nat → Prop) (k0 m : Nat) : Nat → SB → SB → Prop := if nt = 1 then Z1 DU DP k0 m else fun _ => Zp DU DP k0
abbrev GSR (T : Nat → Int32) (n : Nat) (MD : Nat → Nat → Nat) (un : Nat) (R : Nat → BT → BT → Prop) (f : Nat) : Prop := ∀ (nt : Nat) (E : En) (lp o q v : Nat) (pe : Int32) (i l : Nat) (b b' : BT) (s s' : SB) (DU DP : Nat → Prop) (k0 : Nat), nt ≤ 5 → E.2.2.2.1 = un → R v b b' → Zp DU DP k0 s s' → Rz R (QZ nt DU DP k0 s.1) (GS T n MD f nt E lp o q v pe i l b s) (GS T n MD f nt E lp o q v pe i l b' s')
variable {MD : Nat → Nat → Nat} {E : En} {lp o q i l : Nat} {pe : Int32} {f : Nat}
theorem GSR_0 (hC : RC un R) (ih : GSR T n MD un R f) (hun : E.2.2.2.1 = un) (h : R v b b') (hz : Zp DU DP k0 s s') : Rz R (fun _ => Zp DU DP k0) (GS T n MD (f + 1) 0 E lp o q v pe i l b s) (GS T n MD (f + 1) 0 E lp o q v pe i l b' s') := by
  simp only [GS]
  refine Rz_ite (Rz_ss h hz) (Rz_hb (Q := Z1 DU DP k0 s.1) hC (ih 1 _ _ _ _ _ _ _ _ _ _ _ _ _ _ _ (by decide) hun h hz) (fun q1 v1 k1 e1 b1 b1' t t' hR h1 hZ => ?_))
  exact ih 0 _ _ _ _ _ _ _ _ _ _ _ _ DU DP k0 (by decide) hun (R_lnk hC hR) (Zp_up hZ)
theorem GSR_1 (hC : RC un R) (ih : GSR T n MD un R f) (hun : E.2.2.2.1 = un) (h : R v b b') (hz : Zp DU DP k0 s s') : Rz R (Z1 DU DP k0 s.1) (GS T n MD (f + 1) 1 E lp o q v pe i l b s) (GS T n MD (f + 1) 1 E lp o q v pe i l b' s') := by
  have zm := Zp_mo hz
  simp only [GS, ← hz.1]
  refine Rz_ite Rz_n (Rz_hb (Q := fun _ => Zp (fun i => DU i ∨ (k0 ≤ i ∧ i < s.1)) (fun i => DP i ∨ (k0 ≤ i ∧ i < s.1)) (s.1 + 1)) hC ?_ (fun q1 v1 k1 e1 b1 b1' t t' hR h1 hZ => ?_))
  · refine Rz_ite (Rz_lb hC (gBg_R hC hun h) (fun q1 v1 i1 e1 b1 b1' nm hR h1 => Rz_ss hR zm)) (Rz_ite (Rz_lb hC (gPa_R hC hun h) (fun q1 v1 i1 e1 b1 b1' nm hR h1 => Rz_ss hR zm)) (Rz_ite ?_ (Rz_ite ?_ (Rz_ite ?_ (Rz_lb hC (gSm_R hC hun h) (fun q1 v1 i1 e1 b1 b1' nm hR h1 => Rz_ss hR zm))))))
    · exact ih 2 _ _ _ _ _ _ _ _ _ _ _ _ _ _ _ (by decide) hun h zm
    · exact ih 4 _ _ _ _ _ _ _ _ _ _ _ _ _ _ _ (by decide) hun h zm
    · exact ih 5 _ _ _ _ _ _ _ _ _ _ _ _ _ _ _ (by decide) hun h zm
  · exact Rz_ss (R_set hC hR) (Z1_pl hz.2.1 hZ)
theorem GSR_2 (hC : RC un R) (ih : GSR T n MD un R f) (hun : E.2.2.2.1 = un) (h : R v b b') (hz : Zp DU DP k0 s s') : Rz R (fun _ => Zp DU DP k0) (GS T n MD (f + 1) 2 E lp o q v pe i l b s) (GS T n MD (f + 1) 2 E lp o q v pe i l b' s') := by
  have s1 := (hC.1 v b b' h).1
  simp only [GS, ← s1]
  refine Rz_hT (fun q1 => Rz_hb (Q := fun _ => Zp DU DP k0) hC (ih 3 _ _ _ _ _ _ _ _ _ _ _ _ DU DP k0 (by decide) hun (R_node hC h) hz) (fun q2 v2 k2 e2 b2 b2' t t' hR h1 hZ => ?_))
  dsimp only
  refine Rz_hb (Q := fun _ => Zp DU DP k0) hC (Rz_ite (Rz_hT (fun q3 => Rz_hb (Q := fun _ => Zp DU DP k0) hC (ih 0 _ _ _ _ _ _ _ _ _ _ _ _ DU DP k0 (by decide) hun hR hZ) (fun q4 v4 k4 e4 b4 b4' u u' hR4 h4 hZ4 => ?_))) (Rz_ss hR hZ)) (fun q5 v5 k5 e5 b5 b5' u u' hR5 h5 hZ5 => Rz_hE (fun q6 => Rz_ss hR5 hZ5))
  dsimp only
  rw [← h4]
  exact Rz_ss (R_set hC (R_node hC hR4)) hZ4
theorem GSR_3 (hC : RC un R) (ih : GSR T n MD un R f) (hun : E.2.2.2.1 = un) (h : R v b b') (hz : Zp DU DP k0 s s') : Rz R (fun _ => Zp DU DP k0) (GS T n MD (f + 1) 3 E lp o q v pe i l b s) (GS T n MD (f + 1) 3 E lp o q v pe i l b' s') := by
  simp only [GS]
  refine Rz_hb (Q := fun _ => Zp DU DP k0) hC (Rz_ite (Rz_hT (fun q1 => Rz_ss h hz)) (Rz_lb hC (G_R hC _ _ _ _ _ _ _ _ _ _ _ _ hun h) (fun q1 v1 i1 e1 b1 b1' nm hR h1 => Rz_ss hR hz))) (fun q2 v2 k2 e2 b2 b2' t t' hR h1 hZ => ?_)
  refine Rz_hW (fun q3 => Rz_hb (Q := fun _ => Zp DU DP k0) hC (ih 0 _ _ _ _ _ _ _ _ _ _ _ _ DU DP k0 (by decide) hun hR hz) (fun q4 v4 k4 e4 b4 b4' u u' hR4 h4 hZ4 => ?_))
  dsimp only
  rw [← h4]
  refine Rz_ite (Rz_hT (fun q5 => ih 3 _ _ _ _ _ _ _ _ _ _ _ _ DU DP k0 (by decide) hun (R_ite (R_set hC (R_node hC hR4)) (R_set hC (R_node hC hR4))) hZ4)) (Rz_ss (R_ite (R_set hC (R_node hC hR4)) (R_set hC (R_node hC hR4))) hZ4)
theorem GSR_4 (hC : RC un R) (ih : GSR T n MD un R f) (hun : E.2.2.2.1 = un) (h : R v b b') (hz : Zp DU DP k0 s s') : Rz R (fun _ => Zp DU DP k0) (GS T n MD (f + 1) 4 E lp o q v pe i l b s) (GS T n MD (f + 1) 4 E lp o q v pe i l b' s') := by
  have s1 := (hC.1 v b b' h).1
  simp only [GS, ← s1]
  refine Rz_hT (fun q1 => Rz_lb hC (G_R hC _ _ _ _ _ _ _ _ _ _ _ _ hun (R_node hC h)) (fun q2 v2 i2 e2 b2 b2' nm hR h1 => Rz_hW (fun q3 => Rz_hb (Q := fun _ => Zp DU DP k0) hC (ih 0 _ _ _ _ _ _ _ _ _ _ _ _ DU DP k0 (by decide) hun (R_set hC hR) hz) (fun q4 v4 k4 e4 b4 b4' u u' hR4 h4 hZ4 => Rz_hE (fun q5 => Rz_ss (R_set hC hR4) hZ4)))))
theorem GSR_5 (hC : RC un R) (ih : GSR T n MD un R f) (hun : E.2.2.2.1 = un) (h : R v b b') (hz : Zp DU DP k0 s s') : Rz R (fun _ => Zp DU DP k0) (GS T n MD (f + 1) 5 E lp o q v pe i l b s) (GS T n MD (f + 1) 5 E lp o q v pe i l b' s') := by
  have s1 := (hC.1 v b b' h).1
  simp only [GS, ← s1]
  refine Rz_hT (fun q1 => Rz_lb hC (G_R hC _ _ _ _ _ _ _ _ _ _ _ _ hun (R_node hC h)) (fun q2 v2 i2 e2 b2 b2' nm hR h1 => ?_))
  dsimp only
  refine Rz_hb (Q := fun _ => Zp DU DP k0) hC (Rz_ite (Rz_hT (fun q3 => Rz_lb hC (G_R hC _ _ _ _ _ _ _ _ _ _ _ _ hun (R_set hC hR)) (fun q4 v4 i4 e4 b4 b4' nm4 hR4 h4 => Rz_ss (R_set hC hR4) hz))) (Rz_ss (R_set hC hR) hz)) (fun q5 v5 k5 e5 b5 b5' u u' hR5 h5 hZ5 => ?_)
  refine Rz_hW (fun q6 => Rz_hb (Q := fun _ => Zp DU DP k0) hC (ih 0 _ _ _ _ _ _ _ _ _ _ _ _ DU DP k0 (by decide) hun hR5 hz) (fun q7 v7 k7 e7 b7 b7' w w' hR7 h7 hZ7 => Rz_hE (fun q8 => Rz_ss (R_set hC hR7) hZ7)))
theorem GS_R (hC : RC un R) : ∀ f, GSR T n MD un R f := by
  intro f
  induction f with
  | zero => intro nt E lp o q v pe i l b b' s s' DU DP k0 _ _ _ _; simp only [GS]; exact Rz_0
  | succ f ih =>
    intro nt E lp o q v pe i l b b' s s' DU DP k0 hnt hun h hz
    match nt, hnt with
    | 0, _ => exact GSR_0 hC ih hun h hz
    | 1, _ => exact GSR_1 hC ih hun h hz
    | 2, _ => exact GSR_2 hC ih hun h hz
    | 3, _ => exact GSR_3 hC ih hun h hz
    | 4, _ => exact GSR_4 hC ih hun h hz
    | 5, _ => exact GSR_5 hC ih hun h hz
    | m + 6, hm => exact absurd hm (by omega)
end RZS
end JnS307
section JnS308
variable {yf : Nat × Nat}
/-! A program read again, over other rows of statements: the same. -/
def Ro {α : Type} (K : α → α → Prop) (x x' : Option (Fl α)) : Prop := (x = none ∧ x' = none) ∨ (∃ e0, x = some (Sum.inl e0) ∧ x' = some (Sum.inl e0)) ∨ ∃ a a', x = some (Sum.inr a) ∧ x' = some (Sum.inr a') ∧ K a a'
section ROS
variable {α β : Type} {K : α → α → Prop} {J : β → β → Prop} {T : Nat → Int32} {n : Nat}
theorem Ro_0 : Ro K none none := Or.inl ⟨rfl, rfl⟩
theorem Ro_n {e0 : Nat × Nat} : Ro K (some (Sum.inl e0)) (some (Sum.inl e0)) := Or.inr (Or.inl ⟨e0, rfl, rfl⟩)
theorem Ro_ss {a a' : α} (h : K a a') : Ro K (some (Sum.inr a)) (some (Sum.inr a')) := Or.inr (Or.inr ⟨a, a', rfl, rfl, h⟩)
theorem Ro_pb {x x' : Option (Fl α)} {k k' : α → Option (Fl β)} (h : Ro K x x') (hk : ∀ a a', K a a' → Ro J (k a) (k' a')) : Ro J (pb x k) (pb x' k') := by
  rcases h with ⟨h1, h2⟩ | ⟨e0, h1, h2⟩ | ⟨a, a', h1, h2, h3⟩
  · rw [h1, h2]; exact Ro_0
  · rw [h1, h2]; exact Ro_n
  · rw [h1, h2]; exact hk a a' h3
theorem Ro_pe {x : Option (Fl α)} {k k' : α → Option (Fl β)} (hk : ∀ a, Ro J (k a) (k' a)) : Ro J (pb x k) (pb x k') := by
  match x with
  | none => exact Ro_0
  | some (Sum.inl e0) => exact Ro_n
  | some (Sum.inr a) => exact hk a
theorem Ro_ite {c : Prop} [Decidable c] {x x' y y' : Option (Fl α)} (h : Ro K x x') (h' : Ro K y y') : Ro K (if c then x else y) (if c then x' else y') := by
  by_cases z : c
  · rw [if_pos z, if_pos z]; exact h
  · rw [if_neg z, if_neg z]; exact h'
theorem Ro_pT {q : Nat} {k k' : Nat → Option (Fl α)} (h : ∀ q1, Ro K (k q1) (k' q1)) : Ro K (pT T n q k) (pT T n q k') := Ro_ite Ro_n (h _)
theorem Ro_pW {t q : Nat} {k k' : Nat → Option (Fl α)} (h : ∀ q1, Ro K (k q1) (k' q1)) : Ro K (pW T n t q k) (pW T n t q k') := Ro_ite (Ro_pT h) Ro_n
end ROS
/-- the same but for the rows of statements -/
def Kt (DU DP : Nat → Prop) (k0 : Nat) (t t' : ST) : Prop := ∃ q v k e b s s', t = (q, v, k, e, b, s) ∧ t' = (q, v, k, e, b, s') ∧ Zp DU DP k0 s s'
def Kb (DU DP : Nat → Prop) (k0 : Nat) (t t' : BD) : Prop := ∃ q e b s s', t = (q, e, b, s) ∧ t' = (q, e, b, s') ∧ Zp DU DP k0 s s'
def Kg (DU DP : Nat → Prop) (k0 : Nat) (t t' : PRG) : Prop := ∃ q E MD c pc v b s s' F, t = (q, E, MD, c, pc, v, b, s, F) ∧ t' = (q, E, MD, c, pc, v, b, s', F) ∧ Zp DU DP k0 s s'
section RGP
variable {T : Nat → Int32} {n : Nat} {DU DP : Nat → Prop} {k0 : Nat} {s s' : SB}
theorem RC_e {un : Nat} : RC un (fun _ b b' => b = b') := ⟨fun v b b' h => by rw [h]; exact ⟨rfl, rfl⟩, fun v b b' k x y z h => by rw [h], fun v b b' j l x h => by rw [h], fun v b b' T f m h => by rw [h], fun v b b' x h => by rw [h]⟩
theorem GS_z {MD : Nat → Nat → Nat} {f : Nat} {E : En} {lp o q v : Nat} {pe : Int32} {i l : Nat} {b : BT} (h : Zp DU DP k0 s s') : Ro (Kt DU DP k0) (GS T n MD f 0 E lp o q v pe i l b s) (GS T n MD f 0 E lp o q v pe i l b s') := by
  have := GS_R (T := T) (n := n) (MD := MD) (RC_e (un := E.2.2.2.1)) f 0 E lp o q v pe i l b b s s' DU DP k0 (by decide) rfl rfl h
  rcases this with ⟨h1, h2⟩ | ⟨e0, h1, h2⟩ | ⟨q1, v1, k1, e1, b1, b1', t, t', h1, h2, h3, h4⟩
  · rw [h1, h2]; exact Ro_0
  · rw [h1, h2]; exact Ro_n
  · have h3 : b1 = b1' := h3
    subst h3
    have h4 : Zp DU DP k0 t t' := h4
    rw [h1, h2]; exact Ro_ss ⟨q1, v1, k1, e1, b1, t, t', rfl, rfl, h4⟩
theorem gBod_z {pr : Bool} {MD : Nat → Nat → Nat} {E : En} {q v : Nat} {b : BT} (h : Zp DU DP k0 s s') : Ro (Kb DU DP k0) (gBod T n pr MD E q v b s) (gBod T n pr MD E q v b s') := by
  unfold gBod
  refine Ro_ite (Ro_pW (fun q1 => Ro_pe (fun r => Ro_pb (GS_z h) (fun t t' ht => ?_)))) (Ro_pW (fun q1 => Ro_pe (fun t => Ro_pW (fun q2 => Ro_ss ⟨_, _, _, s, s', rfl, rfl, h⟩))))
  obtain ⟨q, v, k, e, b, u, u', rfl, rfl, hz⟩ := ht
  exact Ro_pW (fun q2 => Ro_pW (fun q3 => Ro_ss ⟨_, _, _, u, u', rfl, rfl, hz⟩))
theorem gCal_z {pr : Bool} {E : En} {MD : Nat → Nat → Nat} {c pc v q : Nat} {b : BT} {F : Nat → Int32} (h : Zp DU DP k0 s s') : Ro (Kg DU DP k0) (gCal T n pr E MD c pc v b s F q) (gCal T n pr E MD c pc v b s' F q) := by
  unfold gCal gCb
  refine Ro_pT (fun q1 => Ro_ite (Ro_pT (fun q2 => Ro_ite (Ro_pT (fun q3 => Ro_pe (fun a => Ro_pT (fun q5 => Ro_pb (gBod_z h) (fun z z' hz => ?_))))) Ro_n)) Ro_n)
  obtain ⟨q, e, b1, u, u', rfl, rfl, hz⟩ := hz
  exact Ro_ss ⟨_, _, _, _, _, _, _, u, u', _, rfl, rfl, hz⟩
theorem GDs_z : ∀ (f q : Nat) (E : En) (MD : Nat → Nat → Nat) (c pc v : Nat) (b : BT) (s s' : SB) (F : Nat → Int32), Zp DU DP k0 s s' → Ro (Kg DU DP k0) (GDs T n f (q, E, MD, c, pc, v, b, s, F)) (GDs T n f (q, E, MD, c, pc, v, b, s', F)) := by
  intro f
  induction f with
  | zero => intro q E MD c pc v b s s' F _; unfold GDs; exact Ro_0
  | succ f ih =>
    intro q E MD c pc v b s s' F h
    unfold GDs
    refine Ro_ite (Ro_pe (fun r => ih _ _ _ _ _ _ _ _ _ _ h)) (Ro_ite (Ro_pb (gCal_z h) (fun g g' hg => ?_)) (Ro_ss ⟨_, _, _, _, _, _, _, s, s', _, rfl, rfl, h⟩))
    obtain ⟨q, E, MD, c, pc, v, b, u, u', F, rfl, rfl, hz⟩ := hg
    exact ih _ _ _ _ _ _ _ _ _ _ hz
/-- a program over other rows of statements -/
theorem gPrg_z {q : Nat} {E : En} {MD : Nat → Nat → Nat} {c pc v : Nat} {b : BT} {F : Nat → Int32} (h : Zp DU DP k0 s s') : Ro (fun y y' => Kg DU DP k0 y.1 y'.1 ∧ Kt DU DP k0 y.2 y'.2) (gPrg T n (q, E, MD, c, pc, v, b, s, F)) (gPrg T n (q, E, MD, c, pc, v, b, s', F)) := by
  unfold gPrg
  refine Ro_ite Ro_n (Ro_pb (GDs_z _ _ _ _ _ _ _ _ _ _ _ h) (fun g g' hg => ?_))
  obtain ⟨q, E, MD, c, pc, v, b, u, u', F, rfl, rfl, hz⟩ := id hg
  refine Ro_pb (GS_z hz) (fun t t' ht => ?_)
  obtain ⟨q1, v1, k1, e1, b1, w, w', rfl, rfl, hw⟩ := id ht
  exact Ro_ite (Ro_ss ⟨hg, ht⟩) Ro_n
end RGP
end JnS308
section JnS309
/-! An exp that is a target: the grammar tells it, and it is laid as a target is. -/
/-- no target -/
def Iz (x : RG) : Prop := ∀ r, x = some (Sum.inr r) → r.2.2.1 = 0
section IZS
variable {T : Nat → Int32} {n : Nat} {x y : RG}
theorem Iz_n {e0 : Nat × Nat} : Iz (some (Sum.inl e0)) := fun r h => by cases h
theorem Iz_ss {q v e : Nat} {b : BT} {nm : List Nm} : Iz (some (Sum.inr (q, v, 0, e, b, nm))) := fun r h => by cases h; rfl
theorem Iz_gb {k : RT → RG} (h : ∀ r, Iz (k r)) : Iz (gb x k) := fun r hr => by
  obtain ⟨s, _, h2⟩ := gb_s hr
  exact h s r h2
theorem Iz_ite {c : Prop} [Decidable c] (h : c → Iz x) (h' : ¬ c → Iz y) : Iz (if c then x else y) := fun r hr => by
  by_cases z : c
  · rw [if_pos z] at hr; exact h z r hr
  · rw [if_neg z] at hr; exact h' z r hr
theorem Iz_gT {q : Nat} {k : Nat → RG} (h : ∀ q1, Iz (k q1)) : Iz (gT T n q k) := Iz_ite (fun _ => Iz_n) (fun _ => h _)
theorem Iz_gW {t q : Nat} {k : Nat → RG} (h : ∀ q1, Iz (k q1)) : Iz (gW T n t q k) := Iz_ite (fun _ => Iz_gT h) (fun _ => Iz_n)
theorem Iz_gO {o q : Nat} (h : Iz x) : Iz (gO o q x) := Iz_ite (fun _ => Iz_n) (fun _ => h)
variable {E : En} {o q v i e c g f : Nat} {b : BT} {r : RT}
/-- a primary that is a target is a variable -/
theorem G13_i (hG : G T n (f + 1) 13 E o q v i e c g b = some (Sum.inr r)) : r.2.2.1 = 0 ∨ ((tkK T n q = 26 ∧ (fd E (tkS T n q)).1 = 1) ∧ ¬ tkK T n (tkN T n q) = 0 ∧ r = (tkN T n q, v, 1, b.1, bNode b 7 (fd E (tkS T n q)).2.2 (nI (fd E (tkS T n q)).2.1) 0, [])) := by
  rw [G_13] at hG
  by_cases k : tkK T n q = 26 ∧ (fd E (tkS T n q)).1 = 1
  · rw [if_neg (by omega), if_neg (by omega), if_pos k.1] at hG
    obtain ⟨t, hG⟩ := gT_s hG
    rw [if_pos k.2] at hG
    cases hG
    exact Or.inr ⟨k, t, rfl⟩
  · refine Or.inl ?_
    revert r
    show Iz _
    repeat' (first
      | with_reducible exact Iz_n
      | with_reducible exact Iz_ss
      | with_reducible refine Iz_gT (fun q1 => ?_)
      | with_reducible refine Iz_gW (fun q1 => ?_)
      | with_reducible refine Iz_gO ?_
      | with_reducible refine Iz_ite (fun c => ?_) (fun c => ?_)
      | with_reducible refine Iz_gb (fun r => ?_)
      | exact absurd (And.intro (by assumption) (by assumption)) k)
/-- parts of what is no target -/
theorem G12_0 : ∀ (f o q v e : Nat) (b : BT) (r : RT), G T n f 12 E o q v 0 e 0 0 b = some (Sum.inr r) → r.2.2.1 = 0 := by
  intro f
  induction f with
  | zero => intro o q v e b r hG; exact absurd hG (by unfold G; intro h; cases h)
  | succ f ih =>
    intro o q v e b r hG
    rw [G_12] at hG
    have ih' : ∀ (o q v e : Nat) (b : BT), Iz (G T n f 12 E o q v (if (0 : Nat) = 0 then 0 else 2) e 0 0 b) := fun o q v e b r h => ih o q v e b r h
    revert r
    show Iz _
    repeat' (first
      | with_reducible exact Iz_n
      | with_reducible exact Iz_ss
      | with_reducible exact ih' _ _ _ _ _
      | with_reducible refine Iz_gT (fun q1 => ?_)
      | with_reducible refine Iz_gW (fun q1 => ?_)
      | with_reducible refine Iz_gO ?_
      | with_reducible refine Iz_ite (fun c => ?_) (fun c => ?_)
      | with_reducible refine Iz_gb (fun r => ?_))
/-- operators behind an operand: a target alone -/
theorem Gop_i {nt : Nat} (hnt : nt = 1 ∨ nt = 3 ∨ nt = 7 ∨ nt = 9) : ∀ (f q v i e : Nat) (b : BT) (r : RT), G T n f nt E o q v i e 0 0 b = some (Sum.inr r) → r.2.2.1 = 0 ∨ r = (q, v, i, e, b, []) := by
  intro f
  induction f with
  | zero => intro q v i e b r hG; exact absurd hG (by unfold G; intro h; cases h)
  | succ f ih =>
    intro q v i e b r hG
    have ih' : ∀ (q v e : Nat) (b : BT), Iz (G T n f nt E o q v 0 e 0 0 b) := fun q v e b r h => by
      rcases ih q v 0 e b r h with z | z
      · exact z
      · rw [z]
    have key : ∀ {c : Prop} [Decidable c] {x : RG}, Iz x → (if c then x else some (Sum.inr (q, v, i, e, b, []))) = some (Sum.inr r) → r.2.2.1 = 0 ∨ r = (q, v, i, e, b, []) := fun {c} _ {x} hx h => by
      by_cases z : c
      · rw [if_pos z] at h; exact Or.inl (hx r h)
      · rw [if_neg z] at h; cases h; exact Or.inr rfl
    rcases hnt with rfl | rfl | rfl | rfl
    · rw [G_1] at hG; exact key (Iz_gT (fun q1 => Iz_gb (fun r => ih' _ _ _ _))) hG
    · rw [G_3] at hG; exact key (Iz_gT (fun q1 => Iz_gb (fun r => ih' _ _ _ _))) hG
    · rw [G_7] at hG; exact key (Iz_gT (fun q1 => Iz_gb (fun r => ih' _ _ _ _))) hG
    · rw [G_9] at hG; exact key (Iz_gT (fun q1 => Iz_gb (fun r => ih' _ _ _ _))) hG
/-- a target all the same -/
def Tx (T : Nat → Int32) (n : Nat) (E : En) (o q v : Nat) (b : BT) (r : RT) : Prop := r.2.2.1 = 0 ∨ ∃ f r', gTg T n f E o q v b = some (Sum.inr r') ∧ r'.1 = r.1 ∧ r'.2.1 = r.2.1 ∧ r'.2.2.1 = r.2.2.1 ∧ r'.2.2.2.1 = r.2.2.2.1 ∧ r'.2.2.2.2.1 = r.2.2.2.2.1
theorem Tx_c {s : RT} (h : Tx T n E o q v b s) (h1 : r.1 = s.1) (h2 : r.2.1 = s.2.1) (h3 : r.2.2.1 = s.2.2.1) (h4 : r.2.2.2.1 = s.2.2.2.1) (h5 : r.2.2.2.2.1 = s.2.2.2.2.1) : Tx T n E o q v b r := by
  rcases h with h | ⟨f, r', a0, a1, a2, a3, a4, a5⟩
  · exact Or.inl (h3.trans h)
  · exact Or.inr ⟨f, r', a0, a1.trans h1.symm, a2.trans h2.symm, a3.trans h3.symm, a4.trans h4.symm, a5.trans h5.symm⟩
theorem g_inf : ∀ (f nt q v : Nat) (b : BT) (r : RT), nt = 0 ∨ nt = 2 ∨ nt = 4 ∨ nt = 5 ∨ nt = 6 ∨ nt = 8 ∨ nt = 10 ∨ nt = 11 → G T n f nt E o q v 0 0 0 0 b = some (Sum.inr r) → Tx T n E o q v b r := by
  intro f
  induction f with
  | zero => intro nt q v b r _ hG; exact absurd hG (by unfold G; intro h; cases h)
  | succ f ih =>
    intro nt q v b r hnt hG
    have tl : ∀ {nt' : Nat} {s : RT}, (nt' = 1 ∨ nt' = 3 ∨ nt' = 7 ∨ nt' = 9) → Tx T n E o q v b s → G T n f nt' E o s.1 s.2.1 s.2.2.1 s.2.2.2.1 0 0 s.2.2.2.2.1 = some (Sum.inr r) → Tx T n E o q v b r := fun {nt'} {s} h1 h2 h3 => by
      rcases Gop_i h1 f _ _ _ _ _ _ h3 with z | z
      · exact Or.inl z
      · subst z; exact Tx_c h2 rfl rfl rfl rfl rfl
    rcases hnt with rfl | rfl | rfl | rfl | rfl | rfl | rfl | rfl
    · rw [G_0] at hG
      obtain ⟨s, g1, hG⟩ := gb_s hG
      exact tl (by omega) (ih 2 q v b s (by omega) g1) hG
    · rw [G_2] at hG
      obtain ⟨s, g1, hG⟩ := gb_s hG
      exact tl (by omega) (ih 4 q v b s (by omega) g1) hG
    · rw [G_4] at hG
      by_cases c : tkK T n q = 66
      · rw [if_pos c] at hG
        exact Or.inl ((Iz_gO (Iz_gT (fun q1 => Iz_gb (fun r => Iz_ss)))) r hG)
      · rw [if_neg c] at hG
        exact ih 5 q v b r (by omega) hG
    · rw [G_5] at hG
      obtain ⟨s, g1, hG⟩ := gb_s hG
      have t := ih 6 q v b s (by omega) g1
      by_cases c : isRl (tkK T n s.1)
      · rw [if_pos c] at hG
        exact Or.inl ((Iz_gT (fun q1 => Iz_gb (fun r => Iz_ss))) r hG)
      · rw [if_neg c] at hG
        cases hG
        exact Tx_c t rfl rfl rfl rfl rfl
    · rw [G_6] at hG
      obtain ⟨s, g1, hG⟩ := gb_s hG
      exact tl (by omega) (ih 8 q v b s (by omega) g1) hG
    · rw [G_8] at hG
      obtain ⟨s, g1, hG⟩ := gb_s hG
      exact tl (by omega) (ih 10 q v b s (by omega) g1) hG
    · rw [G_10] at hG
      obtain ⟨s, g1, hG⟩ := gb_s hG
      have t := ih 11 q v b s (by omega) g1
      by_cases c : tkK T n s.1 = 5
      · rw [if_pos c] at hG
        exact Or.inl ((Iz_gO (Iz_gT (fun q1 => Iz_gb (fun r => Iz_ss)))) r hG)
      · rw [if_neg c] at hG
        cases hG
        exact Tx_c t rfl rfl rfl rfl rfl
    · rw [G_11] at hG
      by_cases c : tkK T n q = 3 ∨ tkK T n q = 23
      · rw [if_pos c] at hG
        exact Or.inl ((Iz_gO (Iz_gT (fun q1 => Iz_gb (fun r => Iz_ss)))) r hG)
      rw [if_neg c] at hG
      by_cases c2 : tkK T n q = 2 ∨ tkK T n q = 4 ∨ tkK T n q = 81 ∨ tkK T n q = 80
      · rw [if_pos c2] at hG
        exact Or.inl ((Iz_gO (Iz_gT (fun q1 => Iz_gW (fun q2 => Iz_gb (fun r => Iz_ss))))) r hG)
      rw [if_neg c2] at hG
      obtain ⟨s, g1, hG⟩ := gb_s hG
      cases f with
      | zero => exact absurd g1 (by unfold G; intro h; cases h)
      | succ f =>
        rcases G13_i g1 with z | ⟨z1, z2, z3⟩
        · rw [z] at hG
          exact Or.inl (G12_0 _ _ _ _ _ _ _ hG)
        · subst z3
          refine Or.inr ⟨f + 1, r, ?_, rfl, rfl, rfl, rfl, rfl⟩
          unfold gTg
          rw [if_pos z1.1]
          unfold gT
          rw [if_neg z2]
          dsimp only
          rw [if_pos z1.2]
          exact hG
end IZS
end JnS309
section JnS310
/-! Targets of statements: the names that statements see are slots that count. -/
/-- names that statements of unit un see: slots that count; GF: slots of the program that do -/
def NmC (un v : Nat) (b : BT) (GF : Nat → Prop) (E : En) : Prop := (∀ x ∈ E.2.1, x.2.2 < v ∧ x.2.2 < 60 ∧ b.2.2.2.2 (60 * un + x.2.2) = 1) ∧ ∀ x ∈ E.1, x.2.2.1 = 1 → GF x.2.2.2 ∧ x.2.2.2 < 60
/-- a target laid last, in a statement: kk keys -/
def LTt (FN : Nat → Nat → Prop) (GF : Nat → Prop) (un vv lo : Nat) (b : BT) (e kk : Nat) : Prop := 1 ≤ lo ∧ lo ≤ e ∧ e < b.1 ∧ b.2.2.1 9 e = -1 ∧ ∀ T', Agr T' un vv b lo e → (∀ s, GF s → ¬ T' 20 s = 0) → ∃ k ch s, e = ch k ∧ Tgt T' FN (lcU un T') k ch ∧ NmW T' (lcU un T') (cnU un T') (ch 0) s ∧ kys T' ch k = kk
section NMC
variable {FN : Nat → Nat → Prop} {GF : Nat → Prop} {un v vw : Nat} {b b' : BT} {E : En} {bs : List Int32}
theorem fd_c (hN : NmC E.2.2.2.1 v b GF E) (h1 : (fd E bs).1 = 1) : (fd E bs).2.1 < 60 ∧ (((fd E bs).2.2 = 0 ∧ GF (fd E bs).2.1) ∨ ((fd E bs).2.1 < v ∧ b.2.2.2.2 (60 * E.2.2.2.1 + (fd E bs).2.1) = 1 ∧ (fd E bs).2.2 = if E.2.2.2.1 = 0 then 0 else 1)) := by
  unfold fd at h1 ⊢
  cases hS : E.2.1.find? (fun x => decide (x.1 = bs)) with
  | some x =>
    obtain ⟨a1, a2, a3⟩ := hN.1 x (List.mem_of_find?_eq_some hS)
    exact ⟨a2, Or.inr ⟨a1, a3, rfl⟩⟩
  | none =>
    rw [hS] at h1
    cases hG : E.1.find? (fun x => decide (x.1 = bs)) with
    | some x =>
      rw [hG] at h1
      obtain ⟨a1, a2⟩ := hN.2 x (List.mem_of_find?_eq_some hG) h1
      exact ⟨a2, Or.inl ⟨rfl, a1⟩⟩
    | none => rw [hG] at h1; exact absurd (show (0 : Nat) = 1 from h1) (by decide)
/-- what stays true of names -/
theorem NmC_fr {e : Nat} (hN : NmC un v b GF E) (hF : Frm un v b e b') (hv : v ≤ vw) : NmC un vw b' GF E := by
  refine ⟨fun x hx => ?_, hN.2⟩
  obtain ⟨a1, a2, a3⟩ := hN.1 x hx
  exact ⟨by omega, a2, (hF.2.2.2.2 _ a1).trans a3⟩
/-- a target -/
theorem gTg_t {T : Nat → Int32} {n f o q : Nat} {r : RT} (hT : ∀ i, i < n → ∃ d, d ≤ 300 ∧ T i = nI d) (hq : q ≤ n) (hv : v ≤ 60) (ho : o ≤ 20) (hbn : b.1 + n < 70000 + q) (hbp : b.2.1 + n ≤ 70000 + q) (hb1 : 1 ≤ b.1) (hE : EnOK FN E) (hN : NmC E.2.2.2.1 v b GF E) (hG : gTg T n f E o q v b = some (Sum.inr r)) : ∃ kk, Frm E.2.2.2.1 v b 0 r.2.2.2.2.1 ∧ LTt FN GF E.2.2.2.1 r.2.1 b.1 r.2.2.2.2.1 r.2.2.2.1 kk ∧ 2 * kk + q + 1 ≤ r.1 := by
  unfold gTg at hG
  by_cases c : tkK T n q = 26
  · rw [if_pos c] at hG
    obtain ⟨t2, hG⟩ := gT_s hG
    have u := tkN_b T n q hq
    have u4 := u.2.2.2 (by rw [c]; decide)
    by_cases c2 : (fd E (tkS T n q)).1 = 1
    · rw [if_pos c2] at hG
      obtain ⟨f1, f2⟩ := fd_c hN c2
      have hx : (fd E (tkS T n q)).2.2 = 0 ∨ ¬ E.2.2.2.1 = 0 := (fd_1 hE c2).2
      have h0 : LTg FN E.2.2.2.1 v b.1 (bNode b 7 (fd E (tkS T n q)).2.2 (nI (fd E (tkS T n q)).2.1) 0) b.1 b.1 (fd E (tkS T n q)).2.1 0 (fd E (tkS T n q)).2.2 := LTg_0 hb1 (Nat.le_refl _) f1 hx
      have gm := (g_mono T n f 12 E o _ v 1 b.1 0 0 _ r u.2.1 hv hG 1 (by rw [bNode_1]; omega) (Nat.le_refl 1) ((⟨by omega, by rw [bNode_1]; omega⟩ : 1 ≤ _ ∧ _ < _))).1
      obtain ⟨g1, g2, g3, g4, _⟩ := (gm : Mo n _ _ _ r)
      obtain ⟨kk, k1, k2, k3⟩ := g_tgt hT f E o (tkN T n q) v 1 b.1 _ r b.1 b.1 _ 0 _ u.2.1 hv ho (by rw [bNode_1]; omega) (by rw [bNode_p]; omega) (by rw [bNode_1]; omega) hE hG h0
      have hF : Frm E.2.2.2.1 v b 0 r.2.2.2.2.1 := Frm_tr (Frm_node (vv := v)) k1 (Nat.le_refl _) (Or.inr (Or.inl (Nat.le_refl _)))
      refine ⟨kk, hF, ⟨k2.1, k2.2.1, k2.2.2.1, k2.2.2.2.1, fun T' hA hGF => ?_⟩, by omega⟩
      obtain ⟨k, ch, c1, c3, c4, c5, c6, c7⟩ := k2.2.2.2.2 T' hA
      refine ⟨k, ch, (fd E (tkS T n q)).2.1, c1.symm, c4, ?_, c5⟩
      have b0 := c4.1 0 (Nat.zero_le _)
      refine ⟨b0, by rw [c3]; exact c7, f1, ?_, ?_⟩
      · rw [c3, c6]
        exact hx.imp id (fun z => Or.inl ⟨rfl, z⟩)
      · rw [c3, c6]
        rcases f2 with ⟨z1, z2⟩ | ⟨z1, z2, z3⟩
        · rw [if_pos z1]
          exact Or.inl ⟨by omega, by omega, by rw [Nat.add_sub_cancel_left]; exact hGF _ z2⟩
        · have e20 : ¬ T' 20 (60 * E.2.2.2.1 + (fd E (tkS T n q)).2.1) = 0 := by
            rw [hA.2.2.1 _ (by omega), hF.2.2.2.2 _ z1, z2]; decide
          by_cases e0 : E.2.2.2.1 = 0
          · rw [if_pos (z3.trans (if_pos e0))]
            rw [e0, Nat.mul_zero, Nat.zero_add] at e20
            exact Or.inl ⟨by omega, by omega, by rw [Nat.add_sub_cancel_left]; exact e20⟩
          · rw [if_neg (fun z => absurd (z.symm.trans (z3.trans (if_neg e0))) (by decide))]
            exact Or.inr ⟨e0, by omega, by omega, by rw [Nat.add_sub_cancel_left]; exact e20⟩
    · rw [if_neg c2] at hG; cases hG
  · rw [if_neg c] at hG; cases hG
end NMC
end JnS310
section JnS311
/-! Arguments of a call of a procedure: exps; targets where the mode asks for them. -/
/-- the j-th argument: no more than KB keys -/
def PAr (FN : Nat → Nat → Prop) (GF : Nat → Prop) (un : Nat) (md : Nat → Nat) (np KB : Nat) (T' : Nat → Nat → Int32) (j e : Nat) : Prop := (1 ≤ e ∧ e < LNo T' % 70001) ∧ Wx0 T' FN (lcU un T') (nI e) ∧ (j < np → 0 < md j → (∀ s, GF s → ¬ T' 20 s = 0) → ∃ k ch s, e = ch k ∧ Tgt T' FN (lcU un T') k ch ∧ NmW T' (lcU un T') (cnU un T') (ch 0) s ∧ kys T' ch k ≤ KB)
/-- a target, if it is one -/
def XTg (FN : Nat → Nat → Prop) (GF : Nat → Prop) (un q : Nat) (b : BT) (s : RT) : Prop := ¬ s.2.2.1 = 0 → ∃ kk, LTt FN GF un s.2.1 b.1 s.2.2.2.2.1 s.2.2.2.1 kk ∧ 2 * kk + q + 1 ≤ s.1
section ARG
variable {T : Nat → Int32} {n : Nat} {FN : Nat → Nat → Prop} {GF : Nat → Prop} {E : En} {md : Nat → Nat} {np KB q0 : Nat}
/-- an exp of a statement; a target, if it is one -/
theorem ex_of {f o q v : Nat} {b : BT} {s : RT} (hT : ∀ i, i < n → ∃ d, d ≤ 300 ∧ T i = nI d) (hq : q ≤ n) (hv : v ≤ 60) (ho : o ≤ 20) (hbn : b.1 + n < 70000 + q) (hbp : b.2.1 + n ≤ 70000 + q) (hb1 : 1 ≤ b.1) (hE : EnOK FN E) (hN : NmC E.2.2.2.1 v b GF E) (hG : G T n f 0 E o q v 0 0 0 0 b = some (Sum.inr s)) : Mo n b q v s ∧ Frm E.2.2.2.1 v b 0 s.2.2.2.2.1 ∧ LPt FN (eFl E) E.2.2.2.1 s.2.1 (20 - o) 14 (60 - v) b.1 s.2.2.2.2.1 s.2.2.2.1 ∧ q < s.1 ∧ XTg FN GF E.2.2.2.1 q b s := by
  have x4 := g_mono T n f 0 E o q v 0 0 0 0 b s hq hv hG 1 (by omega) (Nat.le_refl 1) trivial
  have m4 : Mo n b q v s := x4.1
  have y4 := g_tree (FN := FN) hT f 0 E o q v 0 0 0 0 b s 0 _ _ hq hv ho hbn hbp hb1 hE hG (⟨rfl, rfl⟩)
  have y4 : Frm E.2.2.2.1 v b 0 s.2.2.2.2.1 ∧ LPt FN (eFl E) E.2.2.2.1 s.2.1 (20 - o) 14 (60 - v) b.1 s.2.2.2.2.1 s.2.2.2.1 := y4
  have j1 := y4.2.2.1
  have j2 := y4.2.2.2.1
  obtain ⟨a1, a2, a3, a4, a5, a6, a7, a8⟩ := id m4
  refine ⟨m4, y4.1, y4.2, by omega, fun hi => ?_⟩
  rcases g_inf f 0 q v b s (by omega) hG with z | ⟨f', r', g1, e1, e2, e3, e4, e5⟩
  · exact absurd z hi
  · obtain ⟨kk, k1, k2, k3⟩ := gTg_t hT hq hv ho hbn hbp hb1 hE hN g1
    rw [e2, e5, e4] at k2
    rw [e1] at k3
    exact ⟨kk, k2, k3⟩
theorem PA_of {o q v j : Nat} {b : BT} {s : RT} {T' : Nat → Nat → Int32} (ho : o ≤ 20) (hL : LPt FN (eFl E) E.2.2.2.1 s.2.1 (20 - o) 14 (60 - v) b.1 s.2.2.2.2.1 s.2.2.2.1) (hb1 : 1 ≤ b.1) (hi : XTg FN GF E.2.2.2.1 q b s) (hc : ¬ (j < np ∧ 0 < md j ∧ s.2.2.1 = 0)) (hKB : s.1 ≤ 2 * KB + q) (hA : Agr T' E.2.2.2.1 s.2.1 s.2.2.2.2.1 b.1 s.2.2.2.1) : PAr FN GF E.2.2.2.1 md np KB T' j s.2.2.2.1 := by
  have l1 := hL.2.1
  have l2 := hL.2.2.1
  refine ⟨⟨by omega, Nat.lt_of_lt_of_le l2 hA.2.2.2.1⟩, Wx_of (by omega) (by omega) (by decide) (hL.2.2.2.2 T' hA), fun h1 h2 hGF => ?_⟩
  obtain ⟨kk, k1, k2⟩ := hi (fun z => hc ⟨h1, h2, z⟩)
  obtain ⟨k, ch, s', c1, c2, c3, c4⟩ := k1.2.2.2.2 T' hA hGF
  exact ⟨k, ch, s', c1, c2, c3, by omega⟩
/-- the arguments -/
theorem ga_t (hT : ∀ i, i < n → ∃ d, d ≤ 300 ∧ T i = nI d) (hE : EnOK FN E) : ∀ (f o q v i e c : Nat) (b : BT) (r : RT) (lo : Nat), q0 ≤ q → q ≤ n → v ≤ 60 → o ≤ 20 → b.1 + n < 70000 + q → b.2.1 + n ≤ 70000 + q → 1 ≤ b.1 → NmC E.2.2.2.1 v b GF E → c ≤ q → GA T n md np E f o q v i e c b = some (Sum.inr r) → r.1 ≤ 2 * KB + q0 → ((c = 0 ∧ lo = b.1) ∨ (LL (PAr FN GF E.2.2.2.1 md np KB) E.2.2.2.1 v lo b i e (c - 1) ∧ 1 ≤ c ∧ 1 ≤ i ∧ i < b.1)) → Frm E.2.2.2.1 v b e r.2.2.2.2.1 ∧ ((r.2.2.1 = 0 ∧ r.2.2.2.1 = 0) ∨ (1 ≤ r.2.2.1 ∧ 1 ≤ r.2.2.2.1 ∧ ∃ el, LL (PAr FN GF E.2.2.2.1 md np KB) E.2.2.2.1 r.2.1 lo r.2.2.2.2.1 r.2.2.2.1 el (r.2.2.1 - 1))) := by
  intro f
  induction f with
  | zero => intro o q v i e c b r lo _ _ _ _ _ _ _ _ _ hG; exact absurd hG (by unfold GA; intro h; cases h)
  | succ f ih =>
    intro o q v i e c b r lo hq0 hq hv ho hbn hbp hb1 hN hcq hG hKB hL
    unfold GA at hG
    by_cases c0 : c = 0
    · rw [if_pos c0] at hG
      obtain ⟨_, rfl⟩ := hL.resolve_right (fun z => by omega)
      by_cases k7 : tkK T n q = 7
      · rw [if_pos k7] at hG
        cases hG
        exact ⟨Frm_rf, Or.inl ⟨rfl, rfl⟩⟩
      · rw [if_neg k7] at hG
        obtain ⟨s, g1, hG⟩ := gb_s hG
        obtain ⟨⟨a1, a2, a3, a4, a5, a6, a7, a8⟩, hF, hP, hlt, hi⟩ := ex_of (GF := GF) hT hq hv ho hbn hbp hb1 hE hN g1
        by_cases cc : 0 < np ∧ 0 < md 0 ∧ s.2.2.1 = 0
        · rw [if_pos cc] at hG; cases hG
        rw [if_neg cc] at hG
        have p1 := hP.2.1
        have p2 := hP.2.2.1
        have mo := (ga_mo f o s.1 s.2.1 s.2.2.2.1 s.2.2.2.1 1 s.2.2.2.2.1 r 1 a2 (by omega) hG (by omega) (Nat.le_refl 1) (by omega) (Or.inr ⟨by omega, p2, by omega, p2⟩)).1
        have m1 : s.1 ≤ r.1 := mo.1
        have L1 : LL (PAr FN GF E.2.2.2.1 md np KB) E.2.2.2.1 s.2.1 b.1 s.2.2.2.2.1 s.2.2.2.1 s.2.2.2.1 0 := ⟨hP.1, p1, p2, hP.2.2.2.1, fun T' hA => ⟨rfl, PA_of ho hP hb1 hi cc (by omega) hA⟩⟩
        obtain ⟨r1, r2⟩ := ih o s.1 s.2.1 s.2.2.2.1 s.2.2.2.1 1 s.2.2.2.2.1 r b.1 (by omega) a2 (by omega) ho (by omega) (by omega) (by omega) (NmC_fr hN hF a3) (by omega) hG hKB (Or.inr ⟨L1, Nat.le_refl _, by omega, p2⟩)
        exact ⟨Frm_tr (Frm_wk hF) r1 a3 (Or.inr (Or.inl p1)), r2⟩
    · rw [if_neg c0] at hG
      obtain ⟨hLL, l1, l2, l3⟩ := hL.resolve_left (fun z => c0 z.1)
      have n1 := hLL.1
      have n2 := hLL.2.1
      have n3 := hLL.2.2.1
      by_cases k12 : tkK T n q = 12
      · rw [if_pos k12] at hG
        obtain ⟨t1, hG⟩ := gT_s hG
        have u := tkN_b T n q hq
        have u4 := u.2.2.2 (by rw [k12]; decide)
        obtain ⟨s, g1, hG⟩ := gb_s hG
        obtain ⟨⟨a1, a2, a3, a4, a5, a6, a7, a8⟩, hF, hP, hlt, hi⟩ := ex_of (GF := GF) hT u.2.1 hv ho (by omega) (by omega) hb1 hE hN g1
        by_cases cc : c < np ∧ 0 < md c ∧ s.2.2.1 = 0
        · rw [if_pos cc] at hG; cases hG
        rw [if_neg cc] at hG
        have p1 := hP.2.1
        have p2 := hP.2.2.1
        have mo := (ga_mo f o s.1 s.2.1 i s.2.2.2.1 (c + 1) (bSet s.2.2.2.2.1 9 e (nI s.2.2.2.1)) r 1 a2 (by omega) hG (by rw [bSet_1]; omega) (Nat.le_refl 1) (by omega) (Or.inr ⟨l2, by rw [bSet_1]; omega, by omega, by rw [bSet_1]; exact p2⟩)).1
        have m1 : s.1 ≤ r.1 := mo.1
        have L1 : LL (PAr FN GF E.2.2.2.1 md np KB) E.2.2.2.1 s.2.1 lo (bSet s.2.2.2.2.1 9 e (nI s.2.2.2.1)) i s.2.2.2.1 (c - 1 + 1) := LL_app hLL hF a3 p1 p2 hP.2.2.2.1 (fun T' hA => by
          rw [show c - 1 + 1 = c by omega]
          exact PA_of ho hP hb1 hi cc (by omega) (Agr_g hA (Frm_set9 (vv := s.2.1)) (Nat.le_refl _) n1 (by omega) (Or.inl (by omega)) (Or.inl rfl)))
        obtain ⟨r1, r2⟩ := ih o s.1 s.2.1 i s.2.2.2.1 (c + 1) (bSet s.2.2.2.2.1 9 e (nI s.2.2.2.1)) r lo (by omega) a2 (by omega) ho (by rw [bSet_1]; omega) (by rw [bSet_p]; omega) (by rw [bSet_1]; omega) (NmC_fr (NmC_fr hN hF a3) (Frm_set9 (vv := s.2.1)) (Nat.le_refl _)) (by omega) hG hKB (Or.inr ⟨by rw [show c + 1 - 1 = c - 1 + 1 by omega]; exact L1, by omega, l2, by rw [bSet_1]; omega⟩)
        exact ⟨Frm_tr (Frm_tr (Frm_wk hF) (Frm_set9 (vv := s.2.1)) a3 (Or.inl rfl)) r1 a3 (Or.inr (Or.inl (by omega))), r2⟩
      · rw [if_neg k12] at hG
        cases hG
        exact ⟨Frm_rf, Or.inr ⟨l1, l2, e, hLL⟩⟩
end ARG
end JnS311
section JnS312
/-! Lists of statements: arguments, exps that are printed. -/
section LAR
variable {T : Nat → Nat → Int32} {FN : Nat → Nat → Prop} {GF : Nat → Prop} {un np KB pr : Nat} {md : Nat → Nat}
/-- arguments, from the last to the first -/
theorem LS_A (hGF : ∀ s, GF s → ¬ T 20 s = 0) (hK : KB ≤ KBn T ∧ KB ≤ 17000) : ∀ (c m i e : Nat), (∀ j, j ≤ c → j < np ∧ md j ≤ 2 ∧ T 19 (8 * pr + j) = nI (md j)) → LSe (PAr FN GF un md np KB T) T c i e → ArL T FN (lcU un T) (cnU un T) pr m (c + 1) (T 9 e) → ArL T FN (lcU un T) (cnU un T) pr (m + c + 1) 0 (nI i) := by
  have one : ∀ (c m e : Nat), (c < np ∧ md c ≤ 2 ∧ T 19 (8 * pr + c) = nI (md c)) → PAr FN GF un md np KB T c e → ArL T FN (lcU un T) (cnU un T) pr m (c + 1) (T 9 e) → ArL T FN (lcU un T) (cnU un T) pr (m + 1) c (nI e) := fun c m e h hP hL => by
    refine ⟨e, rfl, hP.1, fun z => ?_, fun _ => hP.2.1, hL⟩
    have h0 : 0 < md c := by
      refine Nat.pos_of_ne_zero (fun y => z ?_)
      rw [h.2.2, y]; decide
    obtain ⟨k, ch, s, c1, c2, c3, c4⟩ := hP.2.2 h.1 h0 hGF
    exact ⟨k, ch, s, by rw [c1], c2, c3, by omega, by omega⟩
  intro c
  induction c with
  | zero =>
    intro m i e h hS hL
    obtain ⟨rfl, hP⟩ := hS
    exact one 0 m i (h 0 (Nat.le_refl _)) hP hL
  | succ c ih =>
    intro m i e h hS hL
    obtain ⟨e', h1, h9, hP⟩ := hS
    have := ih (m + 1) i e' (fun j hj => h j (by omega)) h1 (by rw [h9]; exact one (c + 1) m e (h (c + 1) (Nat.le_refl _)) hP hL)
    rw [show m + (c + 1) + 1 = m + 1 + c + 1 by omega]
    exact this
/-- an exp of a list -/
def PEx (FN : Nat → Nat → Prop) (un : Nat) (T' : Nat → Nat → Int32) (_ e : Nat) : Prop := (1 ≤ e ∧ e < LNo T' % 70001) ∧ Wx0 T' FN (lcU un T') (nI e)
theorem LS_X : ∀ (c m i e : Nat), LSe (PEx FN un T) T c i e → ExL T FN (lcU un T) m (T 9 e) → ExL T FN (lcU un T) (m + c + 1) (nI i) := by
  intro c
  induction c with
  | zero =>
    intro m i e hS hL
    obtain ⟨rfl, hP⟩ := hS
    exact ⟨i, rfl, hP.1, hP.2, hL⟩
  | succ c ih =>
    intro m i e hS hL
    obtain ⟨e', h1, h9, hP⟩ := hS
    have := ih (m + 1) i e' h1 (by rw [h9]; exact ⟨e, rfl, hP.1, hP.2, hL⟩)
    rw [show m + (c + 1) + 1 = m + 1 + c + 1 by omega]
    exact this
end LAR
section PRL
variable {T : Nat → Int32} {n : Nat} {FN : Nat → Nat → Prop} {GF : Nat → Prop} {E : En}
theorem PEx_of {o v j : Nat} {b : BT} {s : RT} {T' : Nat → Nat → Int32} (ho : o ≤ 20) (hL : LPt FN (eFl E) E.2.2.2.1 s.2.1 (20 - o) 14 (60 - v) b.1 s.2.2.2.2.1 s.2.2.2.1) (hb1 : 1 ≤ b.1) (hA : Agr T' E.2.2.2.1 s.2.1 s.2.2.2.2.1 b.1 s.2.2.2.1) : PEx FN E.2.2.2.1 T' j s.2.2.2.1 := by
  have l1 := hL.2.1
  have l2 := hL.2.2.1
  exact ⟨⟨by omega, Nat.lt_of_lt_of_le l2 hA.2.2.2.1⟩, Wx_of (by omega) (by omega) (by decide) (hL.2.2.2.2 T' hA)⟩
/-- what is printed behind the first -/
theorem gpr_t (hT : ∀ i, i < n → ∃ d, d ≤ 300 ∧ T i = nI d) (hE : EnOK FN E) : ∀ (f o q v e : Nat) (b : BT) (r : RT) (lo i c : Nat), q ≤ n → v ≤ 60 → o ≤ 20 → b.1 + n < 70000 + q → b.2.1 + n ≤ 70000 + q → 1 ≤ b.1 → NmC E.2.2.2.1 v b GF E → GPr T n E f o q v e b = some (Sum.inr r) → LL (PEx FN E.2.2.2.1) E.2.2.2.1 v lo b i e c → ∃ c', Frm E.2.2.2.1 v b e r.2.2.2.2.1 ∧ LL (PEx FN E.2.2.2.1) E.2.2.2.1 r.2.1 lo r.2.2.2.2.1 i r.2.2.2.1 c' ∧ 2 * c' + q ≤ 2 * c + r.1 := by
  intro f
  induction f with
  | zero => intro o q v e b r lo i c _ _ _ _ _ _ _ hG; exact absurd hG (by unfold GPr; intro h; cases h)
  | succ f ih =>
    intro o q v e b r lo i c hq hv ho hbn hbp hb1 hN hG hL
    unfold GPr at hG
    have n1 := hL.1
    have n2 := hL.2.1
    have n3 := hL.2.2.1
    by_cases k12 : tkK T n q = 12
    · rw [if_pos k12] at hG
      obtain ⟨t1, hG⟩ := gT_s hG
      have u := tkN_b T n q hq
      have u4 := u.2.2.2 (by rw [k12]; decide)
      obtain ⟨s, g1, hG⟩ := gb_s hG
      obtain ⟨⟨a1, a2, a3, a4, a5, a6, a7, a8⟩, hF, hP, hlt, hi⟩ := ex_of (GF := GF) hT u.2.1 hv ho (by omega) (by omega) hb1 hE hN g1
      have p1 := hP.2.1
      have p2 := hP.2.2.1
      have L1 : LL (PEx FN E.2.2.2.1) E.2.2.2.1 s.2.1 lo (bSet s.2.2.2.2.1 9 e (nI s.2.2.2.1)) i s.2.2.2.1 (c + 1) := LL_app hL hF a3 p1 p2 hP.2.2.2.1 (fun T' hA => PEx_of ho hP hb1 (Agr_g hA (Frm_set9 (vv := s.2.1)) (Nat.le_refl _) n1 (by omega) (Or.inl (by omega)) (Or.inl rfl)))
      obtain ⟨c', r1, r2, r3⟩ := ih o s.1 s.2.1 s.2.2.2.1 (bSet s.2.2.2.2.1 9 e (nI s.2.2.2.1)) r lo i (c + 1) a2 (by omega) ho (by rw [bSet_1]; omega) (by rw [bSet_p]; omega) (by rw [bSet_1]; omega) (NmC_fr (NmC_fr hN hF a3) (Frm_set9 (vv := s.2.1)) (Nat.le_refl _)) hG L1
      exact ⟨c', Frm_tr (Frm_tr (Frm_wk hF) (Frm_set9 (vv := s.2.1)) a3 (Or.inl rfl)) r1 a3 (Or.inr (Or.inl (by omega))), r2, by omega⟩
    · rw [if_neg k12] at hG
      cases hG
      exact ⟨c, Frm_rf, hL, Nat.le_refl _⟩
end PRL
end JnS312
section JnS313
/-! Targets of a tuple, as the grammar lays them. -/
section TPL
variable {T : Nat → Int32} {n : Nat} {FN : Nat → Nat → Prop} {GF : Nat → Prop} {E : En}
theorem Frm_lnk {un vv i e x : Nat} {b : BT} : Frm un vv b e (bLnk i e x b) := by
  unfold bLnk
  by_cases c : i = 0
  · rw [if_pos c]; exact Frm_rf
  · rw [if_neg c]; exact Frm_set9
/-- a target of a tuple, or none -/
def HoP (FN : Nat → Nat → Prop) (GF : Nat → Prop) (un vv lo : Nat) (b : BT) (e kk : Nat) : Prop := 1 ≤ lo ∧ lo ≤ e ∧ e < b.1 ∧ b.2.2.1 9 e = -1 ∧ ∀ T', Agr T' un vv b lo e → (∀ s, GF s → ¬ T' 20 s = 0) → (1 ≤ e ∧ e < LNo T' % 70001) ∧ ((T' 4 e = 32 ∧ kk = 0) ∨ (¬ T' 4 e = 32 ∧ ∃ k ch s, e = ch k ∧ Tgt T' FN (lcU un T') k ch ∧ NmW T' (lcU un T') (cnU un T') (ch 0) s ∧ kys T' ch k = kk))
theorem gHo_t {f o q v : Nat} {b : BT} {r : RT} (hT : ∀ i, i < n → ∃ d, d ≤ 300 ∧ T i = nI d) (hq : q ≤ n) (hv : v ≤ 60) (ho : o ≤ 20) (hbn : b.1 + n < 70000 + q) (hbp : b.2.1 + n ≤ 70000 + q) (hb1 : 1 ≤ b.1) (hE : EnOK FN E) (hN : NmC E.2.2.2.1 v b GF E) (hG : gHo T n f E o q v b = some (Sum.inr r)) : ∃ kk, Frm E.2.2.2.1 v b 0 r.2.2.2.2.1 ∧ HoP FN GF E.2.2.2.1 r.2.1 b.1 r.2.2.2.2.1 r.2.2.2.1 kk ∧ 2 * kk + q + 1 ≤ r.1 := by
  unfold gHo at hG
  by_cases c : tkK T n q = 3
  · rw [if_pos c] at hG
    obtain ⟨t1, hG⟩ := gT_s hG
    have u := tkN_b T n q hq
    have u4 := u.2.2.2 (by rw [c]; decide)
    cases hG
    refine ⟨0, Frm_node, ⟨hb1, Nat.le_refl _, Nat.lt_succ_self _, nd_t.2.2.2.2.2, fun T' hA hGF => ?_⟩, by show 2 * 0 + q + 1 ≤ tkN T n q; omega⟩
    obtain ⟨n4, _⟩ := nd_at hA (Nat.le_refl _)
    exact ⟨⟨hb1, hA.2.2.2.1⟩, Or.inl ⟨n4, rfl⟩⟩
  · rw [if_neg c] at hG
    obtain ⟨kk, k1, k2, k3⟩ := gTg_t hT hq hv ho hbn hbp hb1 hE hN hG
    obtain ⟨l1, l2, l3, l4, l5⟩ := k2
    refine ⟨kk, k1, ⟨l1, l2, l3, l4, fun T' hA hGF => ?_⟩, k3⟩
    obtain ⟨k, ch, s, c1, c2, c3, c4⟩ := l5 T' hA hGF
    have bb := c2.1 k (Nat.le_refl _)
    refine ⟨by rw [c1]; exact bb, Or.inr ⟨?_, k, ch, s, c1, c2, c3, c4⟩⟩
    rw [c1]
    cases k with
    | zero => rw [c2.2.1.1]; decide
    | succ k => rcases (c2.2.2 k (Nat.lt_succ_self _)).2.2.1 with z | z | z <;> (rw [z]; decide)
/-- the targets: m of them, K keys, the first x0 -/
theorem gpt_t (hT : ∀ i, i < n → ∃ d, d ≤ 300 ∧ T i = nI d) (hE : EnOK FN E) : ∀ (f o q v i e : Nat) (b : BT) (r : RT), q ≤ n → v ≤ 60 → o ≤ 20 → b.1 + n < 70000 + q → b.2.1 + n ≤ 70000 + q → 1 ≤ b.1 → e < b.1 → (i = 0 ∨ 1 ≤ e) → NmC E.2.2.2.1 v b GF E → GPt T n E f o q v i e b = some (Sum.inr r) → ∃ m K x0, (b.1 ≤ x0 ∧ x0 < r.2.2.2.2.1.1) ∧ Frm E.2.2.2.1 v b e r.2.2.2.2.1 ∧ v ≤ r.2.1 ∧ r.2.2.2.1 = fst2 i x0 ∧ 2 * K + 2 * m + q ≤ r.1 + 1 ∧ (¬ i = 0 → r.2.2.2.2.1.2.2.1 9 e = nI x0) ∧ ∀ T', Agr T' E.2.2.2.1 r.2.1 r.2.2.2.2.1 b.1 0 → (∀ s, GF s → ¬ T' 20 s = 0) → TgL T' FN (lcU E.2.2.2.1 T') (cnU E.2.2.2.1 T') m K (nI x0) := by
  intro f
  induction f with
  | zero => intro o q v i e b r _ _ _ _ _ _ _ _ _ hG; exact absurd hG (by unfold GPt; intro h; cases h)
  | succ f ih =>
    intro o q v i e b r hq hv ho hbn hbp hb1 heb hie hN hG
    unfold GPt at hG
    obtain ⟨s, g1, hG⟩ := gb_s hG
    obtain ⟨a1, a2, a3, a4, a5, a6, a7, a8⟩ := (gHo_mo (M := 1) hq hv (by omega) (Nat.le_refl 1) g1).1
    obtain ⟨kk, hF, hH, hk⟩ := gHo_t (GF := GF) hT hq hv ho hbn hbp hb1 hE hN g1
    obtain ⟨p1, p2, p3, p4, p5⟩ := hH
    have lk : (bLnk i e s.2.2.2.1 s.2.2.2.2.1).1 = s.2.2.2.2.1.1 := bLnk_1
    have lp : (bLnk i e s.2.2.2.1 s.2.2.2.2.1).2.1 = s.2.2.2.2.1.2.1 := bLnk_p
    have F1 : Frm E.2.2.2.1 v b e (bLnk i e s.2.2.2.1 s.2.2.2.2.1) := Frm_tr (Frm_wk hF) (Frm_lnk (vv := s.2.1)) a3 (Or.inl rfl)
    have b9 : ¬ i = 0 → (bLnk i e s.2.2.2.1 s.2.2.2.2.1).2.2.1 9 e = nI s.2.2.2.1 := fun z => by
      unfold bLnk
      rw [if_neg z, bSet_s]
    have b9' : (bLnk i e s.2.2.2.1 s.2.2.2.2.1).2.2.1 9 s.2.2.2.1 = -1 := by
      unfold bLnk
      by_cases z : i = 0
      · rw [if_pos z]; exact p4
      · rw [if_neg z, bSet_o (by omega)]; exact p4
    by_cases k12 : tkK T n s.1 = 12
    · rw [if_pos k12] at hG
      obtain ⟨t1, hG⟩ := gT_s hG
      have u := tkN_b T n s.1 a2
      have u4 := u.2.2.2 (by rw [k12]; decide)
      have hi2 : ¬ fst2 i s.2.2.2.1 = 0 := by
        unfold fst2
        by_cases z : i = 0
        · rw [if_pos z]; omega
        · rw [if_neg z]; exact z
      obtain ⟨m, K, x0, r1, r2, r3, r4, r5, r6, r7⟩ := ih o (tkN T n s.1) s.2.1 (fst2 i s.2.2.2.1) s.2.2.2.1 (bLnk i e s.2.2.2.1 s.2.2.2.2.1) r u.2.1 (by omega) ho (by rw [lk]; omega) (by rw [lp]; omega) (by rw [lk]; omega) (by rw [lk]; exact p3) (Or.inr (by omega)) (NmC_fr (NmC_fr hN hF a3) (Frm_lnk (vv := s.2.1)) (Nat.le_refl _)) hG
      rw [lk] at r1
      have r6 := r6 hi2
      have lr : s.2.2.2.2.1.1 ≤ r.2.2.2.2.1.1 := by have := r2.1; rw [lk] at this; exact this
      refine ⟨m + 1, kk + K, s.2.2.2.1, ⟨p2, by omega⟩, Frm_tr F1 r2 a3 (Or.inr (Or.inl p2)), by omega, ?_, by omega, fun z => ?_, fun T' hA hGF => ?_⟩
      · rw [r4]
        unfold fst2
        by_cases z : i = 0
        · simp only [if_pos z]; rw [if_neg (by omega)]
        · simp only [if_neg z]
      · rw [r2.2.2.1 9 e (by rw [lk]; omega) (by omega)]; exact b9 z
      · have hA1 : Agr T' E.2.2.2.1 s.2.1 (bLnk i e s.2.2.2.1 s.2.2.2.2.1) b.1 s.2.2.2.1 := Agr_g hA r2 r3 hb1 (Nat.le_refl _) (Or.inr rfl) (Or.inr (Or.inr rfl))
        have hA2 : Agr T' E.2.2.2.1 s.2.1 s.2.2.2.2.1 b.1 s.2.2.2.1 := Agr_g hA1 (Frm_lnk (vv := s.2.1)) (Nat.le_refl _) hb1 (Nat.le_refl _) (Or.inl heb) (Or.inl rfl)
        obtain ⟨q1, q2⟩ := p5 T' hA2 hGF
        have h9 : T' 9 s.2.2.2.1 = nI x0 := (hA.1 9 s.2.2.2.1 (by decide) (by decide) p2 (by omega) (by omega)).trans r6
        have hL := r7 T' (Agr_g hA Frm_rf (Nat.le_refl _) hb1 (by rw [lk]; omega) (Or.inl (by rw [lk]; omega : (0 : Nat) < _)) (Or.inl rfl)) hGF
        refine ⟨s.2.2.2.1, rfl, q1, ?_⟩
        rcases q2 with ⟨y1, y2⟩ | ⟨y1, k, ch, w, y2, y3, y4, y5⟩
        · refine Or.inl ⟨y1, ?_⟩
          rw [h9, y2, Nat.zero_add]; exact hL
        · exact Or.inr ⟨y1, k, ch, w, K, y2, y3, y4, by rw [y5], by rw [h9]; exact hL⟩
    · rw [if_neg k12] at hG
      cases hG
      refine ⟨1, kk, s.2.2.2.1, ⟨p2, by show _ < (bLnk i e s.2.2.2.1 s.2.2.2.2.1).1; rw [lk]; exact p3⟩, F1, a3, rfl, by show 2 * kk + 2 * 1 + q ≤ s.1 + 1; omega, b9, fun T' hA hGF => ?_⟩
      have hA2 : Agr T' E.2.2.2.1 s.2.1 s.2.2.2.2.1 b.1 s.2.2.2.1 := Agr_g hA (Frm_lnk (vv := s.2.1)) (Nat.le_refl _) hb1 (Nat.le_refl _) (Or.inl heb) (Or.inr (Or.inr rfl))
      obtain ⟨q1, q2⟩ := p5 T' hA2 hGF
      have h9 : T' 9 s.2.2.2.1 = -1 := (hA.1 9 s.2.2.2.1 (by decide) (by decide) p2 (by show _ < (bLnk i e s.2.2.2.1 s.2.2.2.2.1).1; rw [lk]; exact p3) (by omega)).trans b9'
      refine ⟨s.2.2.2.1, rfl, q1, ?_⟩
      rcases q2 with ⟨y1, y2⟩ | ⟨y1, k, ch, w, y2, y3, y4, y5⟩
      · exact Or.inl ⟨y1, h9, y2⟩
      · exact Or.inr ⟨y1, k, ch, w, 0, y2, y3, y4, by rw [y5, Nat.add_zero], h9, rfl⟩
end TPL
end JnS313
section JnS314
/-! Simple statements, as the grammar lays them. -/
/-- T' has what is laid from lo on; what stands behind the statement e, and its number, are open -/
def AgS (T' : Nat → Nat → Int32) (un vv : Nat) (b : BT) (lo e : Nat) : Prop := (∀ a i, 4 ≤ a → a ≤ 9 → lo ≤ i → i < b.1 → ¬ ((a = 8 ∨ a = 9) ∧ i = e) → T' a i = b.2.2.1 a i) ∧ (∀ i, i < b.2.1 → T' 12 i = b.2.2.2.1 i) ∧ (∀ s, s < vv → T' 20 (60 * un + s) = b.2.2.2.2 (60 * un + s)) ∧ b.1 ≤ LNo T' % 70001 ∧ b.2.1 ≤ LPo T' % 70001
/-- a statement that was laid last -/
def SLd (GF : Nat → Prop) (un vv lo : Nat) (b : BT) (e : Nat) (Q : (Nat → Nat → Int32) → Prop) : Prop := 1 ≤ lo ∧ lo ≤ e ∧ e < b.1 ∧ b.2.2.1 9 e = -1 ∧ ∀ T', AgS T' un vv b lo e → (∀ s, GF s → ¬ T' 20 s = 0) → Q T'
/-- an assignment -/
def QAs (FN : Nat → Nat → Prop) (un n ks : Nat) (T' : Nat → Nat → Int32) : Prop := (T' 4 n = 40 ∨ T' 4 n = 41) ∧ ∃ k ch s, T' 5 n = nI (ch k) ∧ Tgt T' FN (lcU un T') k ch ∧ NmW T' (lcU un T') (cnU un T') (ch 0) s ∧ kys T' ch k = ks ∧ Wx0 T' FN (lcU un T') (T' 6 n)
/-- targets of a tuple -/
def QPt (FN : Nat → Nat → Prop) (un n ks : Nat) (T' : Nat → Nat → Int32) : Prop := T' 4 n = 42 ∧ ∃ q, q ≤ 20000 ∧ TgL T' FN (lcU un T') (cnU un T') q ks (T' 5 n) ∧ Wx0 T' FN (lcU un T') (T' 6 n)
/-- from -/
def QFr (FN : Nat → Nat → Prop) (un n ks : Nat) (T' : Nat → Nat → Int32) : Prop := T' 4 n = 43 ∧ ∃ ka kb sa sb cha chb, Tgt T' FN (lcU un T') ka cha ∧ NmW T' (lcU un T') (cnU un T') (cha 0) sa ∧ Tgt T' FN (lcU un T') kb chb ∧ NmW T' (lcU un T') (cnU un T') (chb 0) sb ∧ T' 5 n = nI (cha ka) ∧ T' 6 n = nI (chb kb) ∧ kys T' cha ka + kys T' chb kb = ks
section SLS
variable {T : Nat → Int32} {n : Nat} {FN : Nat → Nat → Prop} {GF : Nat → Prop} {E : En} {un v vv lo : Nat} {b b' : BT} {k x y z : Int32} {T' : Nat → Nat → Int32} {Q : (Nat → Nat → Int32) → Prop}
theorem AgS_nd (h1 : 1 ≤ lo) (hA : AgS T' un vv (bNode b k x y z) lo b.1) (hl : lo ≤ b.1) : (∀ top, Agr T' un vv b lo top) ∧ b.1 < LNo T' % 70001 ∧ T' 4 b.1 = k ∧ T' 5 b.1 = x ∧ T' 6 b.1 = y ∧ T' 7 b.1 = z := by
  obtain ⟨n4, n5, n6, n7, _⟩ := nd_t (b := b) (k := k) (x := x) (y := y) (z := z)
  have F : Frm un vv b 0 (bNode b k x y z) := Frm_node
  have lt : b.1 < (bNode b k x y z).1 := Nat.lt_succ_self _
  refine ⟨fun top => ⟨fun a i h4 h9 hi hb _ => ?_, fun i hi => ?_, fun s hs => ?_, Nat.le_trans F.1 hA.2.2.2.1, Nat.le_trans F.2.1 hA.2.2.2.2⟩, hA.2.2.2.1, ?_, ?_, ?_, ?_⟩
  · rw [hA.1 a i h4 h9 hi (by omega) (by omega)]; exact F.2.2.1 a i hb (by omega)
  · rw [hA.2.1 i (Nat.lt_of_lt_of_le hi F.2.1)]; exact F.2.2.2.1 i hi
  · rw [hA.2.2.1 s hs]; exact F.2.2.2.2 s hs
  · exact (hA.1 4 b.1 (by decide) (by decide) hl lt (by omega)).trans n4
  · exact (hA.1 5 b.1 (by decide) (by decide) hl lt (by omega)).trans n5
  · exact (hA.1 6 b.1 (by decide) (by decide) hl lt (by omega)).trans n6
  · exact (hA.1 7 b.1 (by decide) (by decide) hl lt (by omega)).trans n7
theorem SLd_nd (h1 : 1 ≤ lo) (hl : lo ≤ b.1) (hQ : ∀ T', (∀ top, Agr T' un vv b lo top) → b.1 < LNo T' % 70001 → (∀ s, GF s → ¬ T' 20 s = 0) → T' 4 b.1 = k → T' 5 b.1 = x → T' 6 b.1 = y → T' 7 b.1 = z → Q T') : SLd GF un vv lo (bNode b k x y z) b.1 Q := by
  refine ⟨h1, hl, Nat.lt_succ_self _, nd_t.2.2.2.2.2, fun T' hA hGF => ?_⟩
  obtain ⟨a1, a2, a3, a4, a5, a6⟩ := AgS_nd h1 hA hl
  exact hQ T' a1 a2 hGF a3 a4 a5 a6
/-- behind a target: an exp and ; -/
theorem gE13_t {f o q e kk : Nat} {r : RT} {a zz : Int32} (ha : a = 40 ∨ a = 41) (hT : ∀ i, i < n → ∃ d, d ≤ 300 ∧ T i = nI d) (hq : q ≤ n) (hv : v ≤ 60) (ho : o ≤ 20) (hbn : b.1 + n < 70000 + q) (hbp : b.2.1 + n ≤ 70000 + q) (hb1 : 1 ≤ b.1) (hE : EnOK FN E) (hN : NmC E.2.2.2.1 v b GF E) (hL : LTt FN GF E.2.2.2.1 v lo b e kk) (hG : gE13 T n f E o q v b a (nI e) zz = some (Sum.inr r)) : Frm E.2.2.2.1 v b 0 r.2.2.2.2.1 ∧ SLd GF E.2.2.2.1 r.2.1 lo r.2.2.2.2.1 r.2.2.2.1 (QAs FN E.2.2.2.1 r.2.2.2.1 kk) ∧ q < r.1 := by
  unfold gE13 at hG
  obtain ⟨s, g1, hG⟩ := gb_s hG
  obtain ⟨⟨a1, a2, a3, a4, a5, a6, a7, a8⟩, hF, hP, hlt, hi⟩ := ex_of (GF := GF) hT hq hv ho hbn hbp hb1 hE hN g1
  obtain ⟨w, t, hG⟩ := gW_s hG
  have u := tkN_b T n s.1 a2
  have p1 := hP.2.1
  have p2 := hP.2.2.1
  obtain ⟨l1, l2, l3, l4, l5⟩ := hL
  cases hG
  refine ⟨Frm_tr hF (Frm_node (vv := s.2.1)) a3 (Or.inl rfl), SLd_nd l1 (by omega) (fun T' hA hlt' hGF n4 n5 n6 n7 => ?_), by show q < tkN T n s.1; omega⟩
  obtain ⟨k, ch, w', c1, c2, c3, c4⟩ := l5 T' (Agr_g (hA e) hF a3 l1 (Nat.le_refl _) (Or.inl (by omega)) (Or.inl rfl)) hGF
  refine ⟨by show T' 4 s.2.2.2.2.1.1 = 40 ∨ _; rw [n4]; exact ha, k, ch, w', n5.trans (by rw [c1]), c2, c3, c4, ?_⟩
  show Wx0 T' FN _ (T' 6 s.2.2.2.2.1.1)
  rw [n6]
  exact Wx_of (by omega) (by omega) (by decide) (hP.2.2.2.2 T' (Agr_g (hA s.2.2.2.1) Frm_rf (Nat.le_refl _) l1 (by omega) (Or.inl (by omega : (0 : Nat) < b.1)) (Or.inl rfl)))
end SLS
end JnS314
section JnS315
/-! Simple statements, as the grammar lays them: tuples of targets, from. -/
section SL2
variable {T : Nat → Int32} {n : Nat} {FN : Nat → Nat → Prop} {GF : Nat → Prop} {E : En} {v lo : Nat} {b : BT}
/-- a tuple of targets -/
theorem gPa_t {f o q : Nat} {r : RT} (hn : n ≤ 32768) (hT : ∀ i, i < n → ∃ d, d ≤ 300 ∧ T i = nI d) (hq : q ≤ n) (hv : v ≤ 60) (ho : o ≤ 20) (hbn : b.1 + n < 70000 + q) (hbp : b.2.1 + n ≤ 70000 + q) (hb1 : 1 ≤ b.1) (hE : EnOK FN E) (hN : NmC E.2.2.2.1 v b GF E) (hG : gPa T n f E o q v b = some (Sum.inr r)) : ∃ kk, Frm E.2.2.2.1 v b 0 r.2.2.2.2.1 ∧ SLd GF E.2.2.2.1 r.2.1 b.1 r.2.2.2.2.1 r.2.2.2.1 (QPt FN E.2.2.2.1 r.2.2.2.1 kk) ∧ 2 * kk + q < r.1 := by
  unfold gPa at hG
  obtain ⟨o2, hG⟩ := gO_s hG
  obtain ⟨t1, hG⟩ := gT_s hG
  have u1 := tkN_b T n q hq
  obtain ⟨p, g1, hG⟩ := gb_s hG
  obtain ⟨⟨a1, a2, a3, a4, a5, a6, a7, a8⟩, _, d3⟩ := gpt_mo f (o + 1) (tkN T n q) v 0 0 b p 1 u1.2.1 hv g1 hb1 (Nat.le_refl 1) (fun z => absurd rfl z)
  obtain ⟨m, K, x0, q1, q2, q3, q4, q5, q6, q7⟩ := gpt_t (GF := GF) hT hE f (o + 1) (tkN T n q) v 0 0 b p u1.2.1 hv (by omega) (by omega) (by omega) hb1 (by omega) (Or.inl rfl) hN g1
  obtain ⟨w2, t2, hG⟩ := gW_s hG
  have u2 := tkN_b T n p.1 a2
  have u2' := u2.2.2.2 (by rw [w2]; decide)
  obtain ⟨w3, t3, hG⟩ := gW_s hG
  have u3 := tkN_b T n _ u2.2.1
  obtain ⟨s, g4, hG⟩ := gb_s hG
  obtain ⟨⟨c1, c2, c3, c4, c5, c6, c7, c8⟩, hF, hP, hlt, hi⟩ := ex_of (GF := GF) hT u3.2.1 (by omega) ho (by omega) (by omega) (by omega) hE (NmC_fr hN q2 q3) g4
  obtain ⟨w5, t5, hG⟩ := gW_s hG
  have u5 := tkN_b T n s.1 c2
  have p1 := hP.2.1
  have p2 := hP.2.2.1
  have q4 : p.2.2.2.1 = x0 := q4
  have e1 := q2.1
  cases hG
  refine ⟨K, Frm_tr (Frm_tr q2 hF q3 (Or.inl rfl)) (Frm_node (vv := s.2.1)) (by omega) (Or.inl rfl), SLd_nd hb1 (by omega) (fun T' hA hlt' hGF n4 n5 n6 n7 => ?_), by show 2 * K + q < tkN T n s.1; omega⟩
  refine ⟨n4, m, by omega, ?_, ?_⟩
  · show TgL T' FN _ _ m K (T' 5 s.2.2.2.2.1.1)
    rw [n5, q4]
    exact q7 T' (Agr_g (hA 0) hF c3 hb1 (Nat.le_refl _) (Or.inl (by omega)) (Or.inl rfl)) hGF
  · show Wx0 T' FN _ (T' 6 s.2.2.2.2.1.1)
    rw [n6]
    exact Wx_of (by omega) (by omega) (by decide) (hP.2.2.2.2 T' (Agr_g (hA s.2.2.2.1) Frm_rf (Nat.le_refl _) hb1 (by omega) (Or.inl (by omega : (0 : Nat) < p.2.2.2.2.1.1)) (Or.inl rfl)))
/-- from: behind the first target -/
theorem gFr_t {f o q e kk : Nat} {r : RT} {x : Int32} (hT : ∀ i, i < n → ∃ d, d ≤ 300 ∧ T i = nI d) (hq : q ≤ n) (hv : v ≤ 60) (ho : o ≤ 20) (hbn : b.1 + n < 70000 + q) (hbp : b.2.1 + n ≤ 70000 + q) (hb1 : 1 ≤ b.1) (hE : EnOK FN E) (hN : NmC E.2.2.2.1 v b GF E) (hL : LTt FN GF E.2.2.2.1 v lo b e kk) (hG : gb (gTg T n f E o q v b) (fun s => gW T n 13 s.1 (fun q2 => some (Sum.inr (q2, s.2.1, 0, s.2.2.2.2.1.1, bNode s.2.2.2.2.1 43 (nI e) (nI s.2.2.2.1) x, [])))) = some (Sum.inr r)) : ∃ kb, Frm E.2.2.2.1 v b 0 r.2.2.2.2.1 ∧ SLd GF E.2.2.2.1 r.2.1 lo r.2.2.2.2.1 r.2.2.2.1 (QFr FN E.2.2.2.1 r.2.2.2.1 (kk + kb)) ∧ 2 * kb + q < r.1 := by
  obtain ⟨s, g1, hG⟩ := gb_s hG
  obtain ⟨⟨a1, a2, a3, a4, a5, a6, a7, a8⟩, _⟩ := gTg_mo (M := 1) hq hv hb1 (Nat.le_refl 1) g1
  obtain ⟨kb, hF, hH, hk⟩ := gTg_t hT hq hv ho hbn hbp hb1 hE hN g1
  obtain ⟨w, t, hG⟩ := gW_s hG
  have u := tkN_b T n s.1 a2
  obtain ⟨l1, l2, l3, l4, l5⟩ := hL
  obtain ⟨h1, h2, h3, h4, h5⟩ := hH
  cases hG
  refine ⟨kb, Frm_tr hF (Frm_node (vv := s.2.1)) a3 (Or.inl rfl), SLd_nd l1 (by omega) (fun T' hA hlt' hGF n4 n5 n6 n7 => ?_), by show 2 * kb + q < tkN T n s.1; omega⟩
  obtain ⟨k, ch, w1, c1, c2, c3, c4⟩ := l5 T' (Agr_g (hA e) hF a3 l1 (Nat.le_refl _) (Or.inl (by omega)) (Or.inl rfl)) hGF
  obtain ⟨k', ch', w2, d1, d2, d3, d4⟩ := h5 T' (Agr_g (hA s.2.2.2.1) Frm_rf (Nat.le_refl _) l1 (by omega) (Or.inl (by omega : (0 : Nat) < b.1)) (Or.inl rfl)) hGF
  exact ⟨n4, k, k', w1, w2, ch, ch', c2, c3, d2, d3, n5.trans (by rw [c1]), n6.trans (by rw [d1]), by rw [c4, d4]⟩
end SL2
end JnS315
section JnS316
/-! Simple statements, as the grammar lays them: words. -/
/-- quit, continue, return, print, assert, the rest -/
def QSm (FN : Nat → Nat → Prop) (un lp n ks : Nat) (T' : Nat → Nat → Int32) : Prop := ((T' 4 n = 49 ∨ T' 4 n = 50) ∧ ¬ lp = 0) ∨ (T' 4 n = 51 ∧ ¬ un = 0 ∧ (T' 5 n = -1 ∨ Wx0 T' FN (lcU un T') (T' 5 n))) ∨ (T' 4 n = 52 ∧ ExL T' FN (lcU un T') ks (T' 5 n)) ∨ (T' 4 n = 53 ∧ Wx0 T' FN (lcU un T') (T' 5 n)) ∨ T' 4 n = 54 ∨ T' 4 n = 55 ∨ T' 4 n = 56
section SL3
variable {T : Nat → Int32} {n : Nat} {FN : Nat → Nat → Prop} {GF : Nat → Prop} {E : En} {v lp : Nat} {b : BT}
theorem gSm0_t {f o w q : Nat} {r : RT} (hw : 17 ≤ w ∧ w ≤ 24) (h49 : w = 17 ∨ w = 18 → ¬ lp = 0) (h51 : w = 19 → ¬ E.2.2.2.1 = 0) (hT : ∀ i, i < n → ∃ d, d ≤ 300 ∧ T i = nI d) (hq : q ≤ n) (hv : v ≤ 60) (ho : o ≤ 20) (hbn : b.1 + n < 70000 + q) (hbp : b.2.1 + n ≤ 70000 + q) (hb1 : 1 ≤ b.1) (hE : EnOK FN E) (hN : NmC E.2.2.2.1 v b GF E) (hG : gSm0 T n f E o w q v b = some (Sum.inr r)) : ∃ ks, Frm E.2.2.2.1 v b 0 r.2.2.2.2.1 ∧ SLd GF E.2.2.2.1 r.2.1 b.1 r.2.2.2.2.1 r.2.2.2.1 (QSm FN E.2.2.2.1 lp r.2.2.2.1 ks) ∧ 2 * ks + q ≤ r.1 := by
  unfold gSm0 at hG
  have ex : ∀ {kd : Int32} {Q : (Nat → Nat → Int32) → Prop}, (∀ T' m, T' 4 m = kd → Wx0 T' FN (lcU E.2.2.2.1 T') (T' 5 m) → QSm FN E.2.2.2.1 lp m 0 T') → gb (G T n f 0 E o q v 0 0 0 0 b) (fun r => gS13 T n r.1 r.2.1 r.2.2.2.2.1.1 (bNode r.2.2.2.2.1 kd (nI r.2.2.2.1) 0 0)) = some (Sum.inr r) → ∃ ks, Frm E.2.2.2.1 v b 0 r.2.2.2.2.1 ∧ SLd GF E.2.2.2.1 r.2.1 b.1 r.2.2.2.2.1 r.2.2.2.1 (QSm FN E.2.2.2.1 lp r.2.2.2.1 ks) ∧ 2 * ks + q ≤ r.1 := fun {kd} {Q} hQ h => by
    obtain ⟨s, g1, h⟩ := gb_s h
    obtain ⟨⟨a1, a2, a3, a4, a5, a6, a7, a8⟩, hF, hP, hlt, hi⟩ := ex_of (GF := GF) hT hq hv ho hbn hbp hb1 hE hN g1
    unfold gS13 at h
    obtain ⟨w1, t1, h⟩ := gW_s h
    have u := tkN_b T n s.1 a2
    have p1 := hP.2.1
    have p2 := hP.2.2.1
    cases h
    refine ⟨0, Frm_tr hF (Frm_node (vv := s.2.1)) a3 (Or.inl rfl), SLd_nd hb1 (by omega) (fun T' hA hlt' hGF n4 n5 n6 n7 => hQ T' _ n4 ?_), by show 2 * 0 + q ≤ tkN T n s.1; omega⟩
    show Wx0 T' FN _ (T' 5 s.2.2.2.2.1.1)
    rw [n5]
    exact Wx_of (by omega) (by omega) (by decide) (hP.2.2.2.2 T' (hA s.2.2.2.1))
  have nd : ∀ {kd x : Int32}, (∀ T' m, T' 4 m = kd → T' 5 m = x → QSm FN E.2.2.2.1 lp m 0 T') → gS13 T n q v b.1 (bNode b kd x 0 0) = some (Sum.inr r) → ∃ ks, Frm E.2.2.2.1 v b 0 r.2.2.2.2.1 ∧ SLd GF E.2.2.2.1 r.2.1 b.1 r.2.2.2.2.1 r.2.2.2.1 (QSm FN E.2.2.2.1 lp r.2.2.2.1 ks) ∧ 2 * ks + q ≤ r.1 := fun {kd x} hQ h => by
    unfold gS13 at h
    obtain ⟨w1, t1, h⟩ := gW_s h
    have u := tkN_b T n q hq
    cases h
    exact ⟨0, Frm_node, SLd_nd hb1 (Nat.le_refl _) (fun T' hA hlt' hGF n4 n5 n6 n7 => hQ T' _ n4 n5), by show 2 * 0 + q ≤ tkN T n q; omega⟩
  by_cases c19 : w = 19
  · rw [if_pos c19] at hG
    by_cases k13 : tkK T n q = 13
    · rw [if_pos k13] at hG
      exact nd (fun T' m h4 h5 => Or.inr (Or.inl ⟨h4, h51 c19, Or.inl h5⟩)) hG
    · rw [if_neg k13] at hG
      exact ex (Q := fun _ => True) (fun T' m h4 h5 => Or.inr (Or.inl ⟨h4, h51 c19, Or.inr h5⟩)) hG
  rw [if_neg c19] at hG
  by_cases c20 : w = 20
  · rw [if_pos c20] at hG
    by_cases k6 : tkK T n q = 6
    · rw [if_pos k6] at hG
      obtain ⟨o2, hG⟩ := gO_s hG
      obtain ⟨t1, hG⟩ := gT_s hG
      have u1 := tkN_b T n q hq
      have u1' := u1.2.2.2 (by rw [k6]; decide)
      obtain ⟨s, g1, hG⟩ := gb_s hG
      obtain ⟨⟨a1, a2, a3, a4, a5, a6, a7, a8⟩, hF, hP, hlt, hi⟩ := ex_of (GF := GF) hT u1.2.1 hv (show o + 1 ≤ 20 by omega) (by omega) (by omega) hb1 hE hN g1
      have p1 := hP.2.1
      have p2 := hP.2.2.1
      obtain ⟨p, g2, hG⟩ := gb_s hG
      obtain ⟨⟨c1, c2, c3, c4, c5, c6, c7, c8⟩, d1, d2⟩ := gpr_mo f (o + 1) s.1 s.2.1 s.2.2.2.1 s.2.2.2.2.1 p 1 a2 (by omega) g2 (by omega) (Nat.le_refl 1) (by omega) p2
      have L0 : LL (PEx FN E.2.2.2.1) E.2.2.2.1 s.2.1 b.1 s.2.2.2.2.1 s.2.2.2.1 s.2.2.2.1 0 := ⟨hP.1, p1, p2, hP.2.2.2.1, fun T' hA => ⟨rfl, PEx_of (show o + 1 ≤ 20 by omega) hP hb1 hA⟩⟩
      obtain ⟨c', r1, r2, r3⟩ := gpr_t (GF := GF) hT hE f (o + 1) s.1 s.2.1 s.2.2.2.1 s.2.2.2.2.1 p b.1 s.2.2.2.1 0 a2 (by omega) (by omega) (by omega) (by omega) (by omega) (NmC_fr hN hF a3) g2 L0
      obtain ⟨w3, t3, hG⟩ := gW_s hG
      have u3 := tkN_b T n p.1 c2
      have u3' := u3.2.2.2 (by rw [w3]; decide)
      unfold gS13 at hG
      obtain ⟨w4, t4, hG⟩ := gW_s hG
      have u4 := tkN_b T n _ u3.2.1
      have e1 := r1.1
      have e2 := hF.1
      cases hG
      refine ⟨c' + 1, Frm_tr (Frm_tr hF (Frm_tr r1 (Frm_node (vv := p.2.1)) c3 (Or.inl rfl)) a3 (Or.inr (Or.inl p1))) Frm_rf (Nat.le_refl v) (Or.inl rfl), SLd_nd hb1 (by omega) (fun T' hA hlt' hGF n4 n5 n6 n7 => Or.inr (Or.inr (Or.inl ⟨n4, ?_⟩))), by show 2 * (c' + 1) + q ≤ tkN T n (tkN T n p.1); omega⟩
      show ExL T' FN _ (c' + 1) (T' 5 p.2.2.2.2.1.1)
      rw [n5]
      obtain ⟨y1, y2⟩ := LL_w r2 (hA 0)
      have := LS_X c' 0 s.2.2.2.1 p.2.2.2.1 y1 y2
      rw [Nat.zero_add] at this
      exact this
    · rw [if_neg k6] at hG; cases hG
  rw [if_neg c20] at hG
  by_cases c21 : w = 21
  · rw [if_pos c21] at hG
    exact ex (Q := fun _ => True) (fun T' m h4 h5 => Or.inr (Or.inr (Or.inr (Or.inl ⟨h4, h5⟩)))) hG
  rw [if_neg c21] at hG
  refine nd (fun T' m h4 h5 => ?_) hG
  have : w = 17 ∨ w = 18 ∨ w = 22 ∨ w = 23 ∨ w = 24 := by omega
  rcases this with rfl | rfl | rfl | rfl | rfl
  · exact Or.inl ⟨Or.inl h4, h49 (by omega)⟩
  · exact Or.inl ⟨Or.inr h4, h49 (by omega)⟩
  · exact Or.inr (Or.inr (Or.inr (Or.inr (Or.inl h4))))
  · exact Or.inr (Or.inr (Or.inr (Or.inr (Or.inr (Or.inl h4)))))
  · exact Or.inr (Or.inr (Or.inr (Or.inr (Or.inr (Or.inr h4)))))
end SL3
end JnS316
section JnS317
/-! Simple statements, as the grammar lays them: calls. -/
/-- a call of p, its target tg -/
def QCa (FN : Nat → Nat → Prop) (un n p np KB : Nat) (md : Nat → Nat) (tg : Int32) (T' : Nat → Nat → Int32) : Prop := T' 4 n = 45 ∧ T' 7 n = nI p ∧ T' 5 n = tg ∧ (KB ≤ KBn T' ∧ KB ≤ 17000 → (∀ j, j < np → md j ≤ 2 ∧ T' 19 (8 * p + j) = nI (md j)) → ArL T' FN (lcU un T') (cnU un T') p np 0 (T' 6 n))
section SL4
variable {T : Nat → Int32} {n : Nat} {FN : Nat → Nat → Prop} {GF : Nat → Prop} {E : En} {v : Nat} {b : BT} {md : Nat → Nat} {np p : Nat} {tg : Int32}
theorem gCl_t {f o q : Nat} {r : RT} (hT : ∀ i, i < n → ∃ d, d ≤ 300 ∧ T i = nI d) (hq : q ≤ n) (hk : ¬ tkK T n q = 25) (hv : v ≤ 60) (ho : o ≤ 20) (hbn : b.1 + n < 70000 + q) (hbp : b.2.1 + n ≤ 70000 + q) (hb1 : 1 ≤ b.1) (hE : EnOK FN E) (hN : NmC E.2.2.2.1 v b GF E) (hG : gCl T n f md np p tg E o q v b = some (Sum.inr r)) : ∃ KB, Frm E.2.2.2.1 v b 0 r.2.2.2.2.1 ∧ SLd GF E.2.2.2.1 r.2.1 b.1 r.2.2.2.2.1 r.2.2.2.1 (QCa FN E.2.2.2.1 r.2.2.2.1 p np KB md tg) ∧ 2 * KB + q < r.1 := by
  unfold gCl at hG
  obtain ⟨t1, hG⟩ := gT_s hG
  have u1 := tkN_b T n q hq
  have u1' := u1.2.2.2 hk
  by_cases k6 : tkK T n (tkN T n q) = 6
  · rw [if_pos k6] at hG
    obtain ⟨o2, hG⟩ := gO_s hG
    obtain ⟨t2, hG⟩ := gT_s hG
    have u2 := tkN_b T n _ u1.2.1
    have u2' := u2.2.2.2 (by rw [k6]; decide)
    obtain ⟨s, g1, hG⟩ := gb_s hG
    obtain ⟨⟨a1, a2, a3, a4, a5, a6, a7, a8⟩, _⟩ := ga_mo f (o + 1) _ v 0 0 0 b s 1 u2.2.1 hv g1 hb1 (Nat.le_refl 1) (Nat.zero_le _) (Or.inl rfl)
    by_cases k7 : tkK T n s.1 = 7 ∧ s.2.2.1 = np
    · rw [if_pos k7] at hG
      obtain ⟨t3, hG⟩ := gT_s hG
      have u3 := tkN_b T n s.1 a2
      have u3' := u3.2.2.2 (by rw [k7.1]; decide)
      obtain ⟨w4, t4, hG⟩ := gW_s hG
      have u4 := tkN_b T n _ u3.2.1
      have u4' := u4.2.2.2 (by rw [w4]; decide)
      obtain ⟨KB, hKB⟩ : ∃ KB, KB = (s.1 - tkN T n (tkN T n q) + 1) / 2 := ⟨_, rfl⟩
      obtain ⟨r1, r2⟩ := ga_t (GF := GF) (KB := KB) (q0 := tkN T n (tkN T n q)) hT hE f (o + 1) _ v 0 0 0 b s b.1 (Nat.le_refl _) u2.2.1 hv (by omega) (by omega) (by omega) hb1 hN (Nat.zero_le _) g1 (by omega) (Or.inl ⟨rfl, rfl⟩)
      have e1 := r1.1
      cases hG
      refine ⟨KB, Frm_tr r1 (Frm_node (vv := s.2.1)) a3 (Or.inl rfl), SLd_nd hb1 (by omega) (fun T' hA hlt' hGF n4 n5 n6 n7 => ⟨n4, n7, n5, fun hK hm => ?_⟩), by show 2 * KB + q < tkN T n (tkN T n s.1); omega⟩
      show ArL T' FN _ _ p np 0 (T' 6 s.2.2.2.2.1.1)
      rw [n6]
      rcases r2 with ⟨z1, z2⟩ | ⟨z1, z2, el, z3⟩
      · have e0 : np = 0 := k7.2.symm.trans z1
        rw [e0, z2]
        exact rfl
      · rw [hd_1 z2]
        obtain ⟨y1, y2⟩ := LL_w z3 (hA 0)
        have hnp := k7.2
        have L := LS_A (pr := p) hGF hK (s.2.2.1 - 1) 0 s.2.2.2.1 el (fun j hj => ⟨by omega, hm j (by omega)⟩) y1 y2
        rw [show 0 + (s.2.2.1 - 1) + 1 = np by omega] at L
        exact L
    · rw [if_neg k7] at hG; cases hG
  · rw [if_neg k6] at hG; cases hG
end SL4
end JnS317
section JnS318
/-! Simple statements, as the grammar lays them: ok. -/
/-- ok is asked into a variable -/
def QOk (un n : Nat) (T' : Nat → Nat → Int32) : Prop := T' 4 n = 44 ∧ ∃ a s, T' 5 n = nI a ∧ NmW T' (lcU un T') (cnU un T') a s
section SL5
variable {T : Nat → Int32} {n : Nat} {FN : Nat → Nat → Prop} {GF : Nat → Prop} {E : En} {v vv lo un : Nat} {b : BT}
theorem G12_1 : ∀ (f o q v i e : Nat) (b : BT) (r : RT), ¬ i = 0 → G T n f 12 E o q v i e 0 0 b = some (Sum.inr r) → r = (q, v, i, e, b, []) ∨ r.2.2.1 = 2 := by
  intro f
  induction f with
  | zero => intro o q v i e b r _ hG; exact absurd hG (by unfold G; intro h; cases h)
  | succ f ih =>
    intro o q v i e b r hi hG
    rw [G_12] at hG
    have two : ∀ {o q v e : Nat} {b : BT}, G T n f 12 E o q v (if i = 0 then 0 else 2) e 0 0 b = some (Sum.inr r) → r.2.2.1 = 2 := fun {o q v e b} h => by
      rw [if_neg hi] at h
      rcases ih _ _ _ _ _ _ _ (by decide) h with z | z
      · rw [z]
      · exact z
    by_cases c : tkK T n q = 6 ∨ tkK T n q = 8
    · rw [if_pos c] at hG
      obtain ⟨_, hG⟩ := gO_s hG
      obtain ⟨_, hG⟩ := gT_s hG
      obtain ⟨s, _, hG⟩ := gb_s hG
      refine Or.inr ?_
      by_cases c2 : tkK T n q = 6 ∧ tkK T n s.1 = 16
      · rw [if_pos c2] at hG
        obtain ⟨_, hG⟩ := gT_s hG
        obtain ⟨s2, _, hG⟩ := gb_s hG
        obtain ⟨_, _, hG⟩ := gW_s hG
        exact two hG
      · rw [if_neg c2] at hG
        obtain ⟨_, _, hG⟩ := gW_s hG
        exact two hG
    · rw [if_neg c] at hG
      cases hG
      exact Or.inl rfl
/-- a target that is a variable alone -/
theorem gTg_1 {f o q : Nat} {r : RT} (hG : gTg T n f E o q v b = some (Sum.inr r)) (h1 : r.2.2.1 = 1) : r.2.2.2.1 = b.1 ∧ r.2.2.2.2.1.2.2.1 4 b.1 = 7 := by
  unfold gTg at hG
  by_cases c : tkK T n q = 26
  · rw [if_pos c] at hG
    obtain ⟨_, hG⟩ := gT_s hG
    by_cases c2 : (fd E (tkS T n q)).1 = 1
    · rw [if_pos c2] at hG
      rcases G12_1 _ _ _ _ _ _ _ _ (by decide) hG with z | z
      · rw [z]; exact ⟨rfl, nd_t.1⟩
      · rw [h1] at z; exact absurd z (by decide)
    · rw [if_neg c2] at hG; cases hG
  · rw [if_neg c] at hG; cases hG
theorem LTt_1 {e kk : Nat} {T' : Nat → Nat → Int32} (h : LTt FN GF un vv lo b e kk) (h7 : b.2.2.1 4 e = 7) (hA : Agr T' un vv b lo e) (hGF : ∀ s, GF s → ¬ T' 20 s = 0) : ∃ s, NmW T' (lcU un T') (cnU un T') e s := by
  obtain ⟨l1, l2, l3, l4, l5⟩ := h
  obtain ⟨k, ch, s, c1, c2, c3, c4⟩ := l5 T' hA hGF
  have e4 : T' 4 e = 7 := (hA.1 4 e (by decide) (by decide) l2 l3 (by omega)).trans h7
  cases k with
  | zero => rw [c1]; exact ⟨s, c3⟩
  | succ k =>
    exfalso
    rw [c1] at e4
    rcases (c2.2.2 k (Nat.lt_succ_self _)).2.2.1 with z | z | z <;> (rw [z] at e4; exact absurd e4 (by decide))
/-- ok -/
theorem gOk_t {e kk : Nat} (hL : LTt FN GF un vv lo b e kk) (h7 : b.2.2.1 4 e = 7) : SLd GF un vv lo (bNode b 44 (nI e) 0 0) b.1 (QOk un b.1) := by
  refine SLd_nd hL.1 (by have := hL.2.1; have := hL.2.2.1; omega) (fun T' hA hlt hGF n4 n5 n6 n7 => ⟨n4, e, ?_⟩)
  obtain ⟨s, hs⟩ := LTt_1 hL h7 (hA e) hGF
  exact ⟨s, n5, hs⟩
end SL5
end JnS318
section JnS319
/-! Statements that begin with a name, as the grammar lays them. -/
/-- a statement that begins with a name: ks keys -/
def QBg (FN : Nat → Nat → Prop) (E : En) (MD : Nat → Nat → Nat) (n ks : Nat) (T' : Nat → Nat → Int32) : Prop := QAs FN E.2.2.2.1 n ks T' ∨ QFr FN E.2.2.2.1 n ks T' ∨ QOk E.2.2.2.1 n T' ∨ ∃ bs tg, (fd E bs).1 = 3 ∧ QCa FN E.2.2.2.1 n (fd E bs).2.1 (E.2.2.2.2.2.2 (fd E bs).2.1) ks (MD (fd E bs).2.1) tg T' ∧ (tg = -1 ∨ ∃ k ch s, tg = nI (ch k) ∧ Tgt T' FN (lcU E.2.2.2.1 T') k ch ∧ NmW T' (lcU E.2.2.2.1 T') (cnU E.2.2.2.1 T') (ch 0) s ∧ kys T' ch k ≤ ks)
section SL6
variable {T : Nat → Int32} {n : Nat} {FN : Nat → Nat → Prop} {GF : Nat → Prop} {E : En} {MD : Nat → Nat → Nat} {un v vv vw lo lo' e : Nat} {b b' : BT} {T' : Nat → Nat → Int32} {Q Q' : (Nat → Nat → Int32) → Prop}
theorem AgS_ag {top : Nat} (hA : AgS T' un vw b' lo e) (hF : Frm un vv b 0 b') (hv : vv ≤ vw) (h1 : 1 ≤ lo) (hb : b.1 ≤ e) : Agr T' un vv b lo top := by
  obtain ⟨a1, a2, a3, a4, a5⟩ := hF
  have l1 := hA.2.2.2.1
  have l2 := hA.2.2.2.2
  refine ⟨fun a i h4 h9 hi hb' hx => ?_, fun i hi => ?_, fun s hs => ?_, by omega, by omega⟩
  · rw [hA.1 a i h4 h9 hi (by omega) (by omega), a3 a i hb' (by omega)]
  · rw [hA.2.1 i (by omega), a4 i hi]
  · rw [hA.2.2.1 s (by omega), a5 s hs]
theorem AgS_lo (hA : AgS T' un vw b' lo e) (hl : lo ≤ lo') : AgS T' un vw b' lo' e := ⟨fun a i h4 h9 hi hb hx => hA.1 a i h4 h9 (by omega) hb hx, hA.2⟩
theorem SLd_mo (h : SLd GF un vv lo b e Q) (hl : 1 ≤ lo' ∧ lo' ≤ lo) (hQ : ∀ T', AgS T' un vv b lo' e → (∀ s, GF s → ¬ T' 20 s = 0) → Q T' → Q' T') : SLd GF un vv lo' b e Q' := by
  obtain ⟨h1, h2, h3, h4, h5⟩ := h
  exact ⟨hl.1, by omega, h3, h4, fun T' hA hGF => hQ T' hA hGF (h5 T' (AgS_lo hA hl.2) hGF)⟩
/-- behind a target and := -/
theorem gAs_t {f o i q kk q0 : Nat} {r : RT} (hT : ∀ i, i < n → ∃ d, d ≤ 300 ∧ T i = nI d) (hq : q ≤ n) (hv : v ≤ 60) (ho : o ≤ 20) (hbn : b.1 + n < 70000 + q) (hbp : b.2.1 + n ≤ 70000 + q) (hb1 : 1 ≤ b.1) (hE : EnOK FN E) (hN : NmC E.2.2.2.1 v b GF E) (hL : LTt FN GF E.2.2.2.1 v lo b e kk) (h7 : i = 1 → b.2.2.1 4 e = 7) (hkk : 2 * kk + q0 ≤ q) (hG : gAs T n f MD E o i e q v b = some (Sum.inr r)) : ∃ ks, Frm E.2.2.2.1 v b 0 r.2.2.2.2.1 ∧ SLd GF E.2.2.2.1 r.2.1 lo r.2.2.2.2.1 r.2.2.2.1 (QBg FN E MD r.2.2.2.1 ks) ∧ 2 * ks + q0 < r.1 := by
  unfold gAs at hG
  have l1 := hL.1
  have l2 := hL.2.1
  have l3 := hL.2.2.1
  by_cases k63 : tkK T n q = 63
  · rw [if_pos k63] at hG
    by_cases i1 : i = 1
    · rw [if_pos i1] at hG
      obtain ⟨t1, hG⟩ := gT_s hG
      have u1 := tkN_b T n q hq
      obtain ⟨w2, t2, hG⟩ := gW_s hG
      have u2 := tkN_b T n _ u1.2.1
      have u2' := u2.2.2.2 (by rw [w2]; decide)
      cases hG
      exact ⟨kk, Frm_node, SLd_mo (gOk_t hL (h7 i1)) ⟨l1, Nat.le_refl _⟩ (fun T' _ _ h => Or.inr (Or.inr (Or.inl h))), by show 2 * kk + q0 < tkN T n (tkN T n q); omega⟩
    · rw [if_neg i1] at hG; cases hG
  rw [if_neg k63] at hG
  by_cases k26 : tkK T n q = 26 ∧ (fd E (tkS T n q)).1 = 3
  · rw [if_pos k26] at hG
    unfold gCa at hG
    obtain ⟨KB, r1, r2, r3⟩ := gCl_t (GF := GF) hT hq (by omega) hv ho hbn hbp hb1 hE hN hG
    have e1 := r2.2.1
    have mv : v ≤ r.2.1 := (moCl (M := 1) hq hv (Nat.le_refl 1) hb1 hG).1.2.2.1
    refine ⟨kk + KB, r1, SLd_mo r2 ⟨l1, by omega⟩ (fun T' hA hGF h => Or.inr (Or.inr (Or.inr ⟨tkS T n q, nI e, k26.2, ⟨h.1, h.2.1, h.2.2.1, fun z => h.2.2.2 ⟨by omega, by omega⟩⟩, Or.inr ?_⟩))), by omega⟩
    obtain ⟨k, ch, s, c1, c2, c3, c4⟩ := hL.2.2.2.2 T' (AgS_ag hA r1 mv l1 e1) hGF
    exact ⟨k, ch, s, by rw [c1], c2, c3, by omega⟩
  · rw [if_neg k26] at hG
    obtain ⟨r1, r2, r3⟩ := gE13_t (GF := GF) (Or.inl rfl) hT hq hv ho hbn hbp hb1 hE hN hL hG
    exact ⟨kk, r1, SLd_mo r2 ⟨l1, Nat.le_refl _⟩ (fun T' _ _ h => Or.inl h), by omega⟩
end SL6
end JnS319
