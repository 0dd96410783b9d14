theorem lc_fX2_volunteerFor_L50 {B : zMem} (N : Nat) (k5 : Int32 → Int32 → Int32 → Int32 → zMem → Option (Int32 × zMem)) (hk5 : ∀ (y0 : Int32) (y1 : Int32) (y2 : Int32) (y3 : Int32) (A : zMem), k5 y0 y1 y2 y3 (zmx A B) = zcp B (k5 y0 y1 y2 y3 A)) (x1 : Int32) (x2 : Int32) (x3 : Int32) (x4 : Int32) (s0 : Int32) (A : zMem) : fX2_volunteerFor_L50 N k5 x1 x2 x3 x4 s0 (zmx A B) = zcp B (fX2_volunteerFor_L50 N k5 x1 x2 x3 x4 s0 A) := by
  unfold fX2_volunteerFor_L50
  simp (maxSteps := 2000000) (disch := first | assumption | decide | omega) only [zmx_1c, zmx_2c, zmx_R, zcx_ldI, zcx_ldJ, zcx_stI, zcx_stJ, zcx_stB, zcx_stZ, zcx_pI, zcx_pJ, zcx_pR, zcp_zb2, zcp_bd, zcq_zb2, zcq_bd, zcp_if, zcq_if, zcp_some, zcq_some, zcp_none, zcq_none, zcp_let, zcq_let, zcp_gb, zcq_gb, zcb_zb2, zcb_zb2q, zcb_bd, zcb_bdq, zcx_let, zcx_letq, zcx_cp, lc_fX2_volunteerFor_L105, lc_fX2_isFree, lc_fX1_callerOf, lc_fX9_isBarred, lc_fX2_isTrained, hk5]
theorem lc_fX2_volunteerFor_L45 {B : zMem} (N : Nat) (k5 : Int32 → Int32 → Int32 → Int32 → zMem → Option (Int32 × zMem)) (hk5 : ∀ (y0 : Int32) (y1 : Int32) (y2 : Int32) (y3 : Int32) (A : zMem), k5 y0 y1 y2 y3 (zmx A B) = zcp B (k5 y0 y1 y2 y3 A)) (x1 : Int32) (x2 : Int32) (x3 : Int32) (x4 : Int32) (A : zMem) : fX2_volunteerFor_L45 N k5 x1 x2 x3 x4 (zmx A B) = zcp B (fX2_volunteerFor_L45 N k5 x1 x2 x3 x4 A) := by
  unfold fX2_volunteerFor_L45
  simp (maxSteps := 2000000) (disch := first | assumption | decide | omega) only [zmx_1c, zmx_2c, zmx_R, zcx_ldI, zcx_ldJ, zcx_stI, zcx_stJ, zcx_stB, zcx_stZ, zcx_pI, zcx_pJ, zcx_pR, zcp_zb2, zcp_bd, zcq_zb2, zcq_bd, zcp_if, zcq_if, zcp_some, zcq_some, zcp_none, zcq_none, zcp_let, zcq_let, zcp_gb, zcq_gb, zcb_zb2, zcb_zb2q, zcb_bd, zcb_bdq, zcx_let, zcx_letq, zcx_cp, lc_fX2_volunteerFor_L50, hk5]
theorem lc_fX2_volunteerFor_L5 {B : zMem} (N : Nat) : ∀ (n : Nat) (z0 : Int32) (z1 : Int32) (z2 : Int32) (z3 : Int32) (A : zMem), fX2_volunteerFor_L5 N n z0 z1 z2 z3 (zmx A B) = zcp B (fX2_volunteerFor_L5 N n z0 z1 z2 z3 A) := by
  intro n
  induction n with
  | zero => intros; rfl
  | succ n ih =>
    intro z0 z1 z2 z3 A
    simp (maxSteps := 2000000) (disch := first | assumption | decide | omega) only [fX2_volunteerFor_L5, zmx_1c, zmx_2c, zmx_R, zcx_ldI, zcx_ldJ, zcx_stI, zcx_stJ, zcx_stB, zcx_stZ, zcx_pI, zcx_pJ, zcx_pR, zcp_zb2, zcp_bd, zcq_zb2, zcq_bd, zcp_if, zcq_if, zcp_some, zcq_some, zcp_none, zcq_none, zcp_let, zcq_let, zcp_gb, zcq_gb, zcb_zb2, zcb_zb2q, zcb_bd, zcb_bdq, zcx_let, zcx_letq, zcx_cp, lc_fX9_size, lc_fX2_volunteerFor_L45, lc_fX2_volunteerFor_L50, ih]
theorem lc_fX2_volunteerFor {B : zMem} (N : Nat) (x1 : Int32) (x2 : Int32) (A : zMem) : fX2_volunteerFor N x1 x2 (zmx A B) = zcp B (fX2_volunteerFor N x1 x2 A) := by
  unfold fX2_volunteerFor
  simp (maxSteps := 2000000) (disch := first | assumption | decide | omega) only [zmx_1c, zmx_2c, zmx_R, zcx_ldI, zcx_ldJ, zcx_stI, zcx_stJ, zcx_stB, zcx_stZ, zcx_pI, zcx_pJ, zcx_pR, zcp_zb2, zcp_bd, zcq_zb2, zcq_bd, zcp_if, zcq_if, zcp_some, zcq_some, zcp_none, zcq_none, zcp_let, zcq_let, zcp_gb, zcq_gb, zcb_zb2, zcb_zb2q, zcb_bd, zcb_bdq, zcx_let, zcx_letq, zcx_cp, lc_fX2_volunteerFor_L5]
theorem lc_fX2_giveCalls_L71 {B : zMem} (N : Nat) (k2 : Int32 → Int32 → Int32 → zMem → Option zMem) (hk2 : ∀ (y0 : Int32) (y1 : Int32) (y2 : Int32) (A : zMem), k2 y0 y1 y2 (zmx A B) = zcq B (k2 y0 y1 y2 A)) (x1 : Int32) (x2 : Int32) (x3 : Int32) (A : zMem) : fX2_giveCalls_L71 N k2 x1 x2 x3 (zmx A B) = zcq B (fX2_giveCalls_L71 N k2 x1 x2 x3 A) := by
  unfold fX2_giveCalls_L71
  simp (maxSteps := 2000000) (disch := first | assumption | decide | omega) only [zmx_1c, zmx_2c, zmx_R, zcx_ldI, zcx_ldJ, zcx_stI, zcx_stJ, zcx_stB, zcx_stZ, zcx_pI, zcx_pJ, zcx_pR, zcp_zb2, zcp_bd, zcq_zb2, zcq_bd, zcp_if, zcq_if, zcp_some, zcq_some, zcp_none, zcq_none, zcp_let, zcq_let, zcp_gb, zcq_gb, zcb_zb2, zcb_zb2q, zcb_bd, zcb_bdq, zcx_let, zcx_letq, zcx_cp, hk2]
theorem lc_fX2_giveCalls_L2 {B : zMem} (N : Nat) : ∀ (n : Nat) (z0 : Int32) (z1 : Int32) (z2 : Int32) (A : zMem), fX2_giveCalls_L2 N n z0 z1 z2 (zmx A B) = zcq B (fX2_giveCalls_L2 N n z0 z1 z2 A) := by
  intro n
  induction n with
  | zero => intros; rfl
  | succ n ih =>
    intro z0 z1 z2 A
    simp (maxSteps := 2000000) (disch := first | assumption | decide | omega) only [fX2_giveCalls_L2, zmx_1c, zmx_2c, zmx_R, zcx_ldI, zcx_ldJ, zcx_stI, zcx_stJ, zcx_stB, zcx_stZ, zcx_pI, zcx_pJ, zcx_pR, zcp_zb2, zcp_bd, zcq_zb2, zcq_bd, zcp_if, zcq_if, zcp_some, zcq_some, zcp_none, zcq_none, zcp_let, zcq_let, zcp_gb, zcq_gb, zcb_zb2, zcb_zb2q, zcb_bd, zcb_bdq, zcx_let, zcx_letq, zcx_cp, lc_fX2_volunteerFor, lc_fX2_giveCalls_L71, lc_fX1_give, ih]
theorem lc_fX2_giveCalls {B : zMem} (N : Nat) (x1 : Int32) (x2 : Int32) (A : zMem) : fX2_giveCalls N x1 x2 (zmx A B) = zcq B (fX2_giveCalls N x1 x2 A) := by
  unfold fX2_giveCalls
  simp (maxSteps := 2000000) (disch := first | assumption | decide | omega) only [zmx_1c, zmx_2c, zmx_R, zcx_ldI, zcx_ldJ, zcx_stI, zcx_stJ, zcx_stB, zcx_stZ, zcx_pI, zcx_pJ, zcx_pR, zcp_zb2, zcp_bd, zcq_zb2, zcq_bd, zcp_if, zcq_if, zcp_some, zcq_some, zcp_none, zcq_none, zcp_let, zcq_let, zcp_gb, zcq_gb, zcb_zb2, zcb_zb2q, zcb_bd, zcb_bdq, zcx_let, zcx_letq, zcx_cp, lc_fX2_giveCalls_L2]
theorem lc_fX2_isAnyFree_L2 {B : zMem} (N : Nat) : ∀ (n : Nat) (z0 : Int32) (z1 : Int32) (A : zMem), fX2_isAnyFree_L2 N n z0 z1 (zmx A B) = zcp B (fX2_isAnyFree_L2 N n z0 z1 A) := by
  intro n
  induction n with
  | zero => intros; rfl
  | succ n ih =>
    intro z0 z1 A
    simp (maxSteps := 2000000) (disch := first | assumption | decide | omega) only [fX2_isAnyFree_L2, zmx_1c, zmx_2c, zmx_R, zcx_ldI, zcx_ldJ, zcx_stI, zcx_stJ, zcx_stB, zcx_stZ, zcx_pI, zcx_pJ, zcx_pR, zcp_zb2, zcp_bd, zcq_zb2, zcq_bd, zcp_if, zcq_if, zcp_some, zcq_some, zcp_none, zcq_none, zcp_let, zcq_let, zcp_gb, zcq_gb, zcb_zb2, zcb_zb2q, zcb_bd, zcb_bdq, zcx_let, zcx_letq, zcx_cp, lc_fX9_size, lc_fX2_isFree, ih]
theorem lc_fX2_isAnyFree {B : zMem} (N : Nat) (x1 : Int32) (A : zMem) : fX2_isAnyFree N x1 (zmx A B) = zcp B (fX2_isAnyFree N x1 A) := by
  unfold fX2_isAnyFree
  simp (maxSteps := 2000000) (disch := first | assumption | decide | omega) only [zmx_1c, zmx_2c, zmx_R, zcx_ldI, zcx_ldJ, zcx_stI, zcx_stJ, zcx_stB, zcx_stZ, zcx_pI, zcx_pJ, zcx_pR, zcp_zb2, zcp_bd, zcq_zb2, zcq_bd, zcp_if, zcq_if, zcp_some, zcq_some, zcp_none, zcq_none, zcp_let, zcq_let, zcp_gb, zcq_gb, zcb_zb2, zcb_zb2q, zcb_bd, zcb_bdq, zcx_let, zcx_letq, zcx_cp, lc_fX2_isAnyFree_L2]
theorem lc_fX2_leaveCalls_L38 {B : zMem} (N : Nat) (k8 : Int32 → zMem → Option zMem) (hk8 : ∀ (y0 : Int32) (A : zMem), k8 y0 (zmx A B) = zcq B (k8 y0 A)) (x1 : Int32) (A : zMem) : fX2_leaveCalls_L38 N k8 x1 (zmx A B) = zcq B (fX2_leaveCalls_L38 N k8 x1 A) := by
  unfold fX2_leaveCalls_L38
  simp (maxSteps := 2000000) (disch := first | assumption | decide | omega) only [zmx_1c, zmx_2c, zmx_R, zcx_ldI, zcx_ldJ, zcx_stI, zcx_stJ, zcx_stB, zcx_stZ, zcx_pI, zcx_pJ, zcx_pR, zcp_zb2, zcp_bd, zcq_zb2, zcq_bd, zcp_if, zcq_if, zcp_some, zcq_some, zcp_none, zcq_none, zcp_let, zcq_let, zcp_gb, zcq_gb, zcb_zb2, zcb_zb2q, zcb_bd, zcb_bdq, zcx_let, zcx_letq, zcx_cp, hk8]
theorem lc_fX2_leaveCalls_L8 {B : zMem} (N : Nat) : ∀ (n : Nat) (z0 : Int32) (A : zMem), fX2_leaveCalls_L8 N n z0 (zmx A B) = zcq B (fX2_leaveCalls_L8 N n z0 A) := by
  intro n
  induction n with
  | zero => intros; rfl
  | succ n ih =>
    intro z0 A
    simp (maxSteps := 2000000) (disch := first | assumption | decide | omega) only [fX2_leaveCalls_L8, zmx_1c, zmx_2c, zmx_R, zcx_ldI, zcx_ldJ, zcx_stI, zcx_stJ, zcx_stB, zcx_stZ, zcx_pI, zcx_pJ, zcx_pR, zcp_zb2, zcp_bd, zcq_zb2, zcq_bd, zcp_if, zcq_if, zcp_some, zcq_some, zcp_none, zcq_none, zcp_let, zcq_let, zcp_gb, zcq_gb, zcb_zb2, zcb_zb2q, zcb_bd, zcb_bdq, zcx_let, zcx_letq, zcx_cp, lc_fX1_size, lc_fX1_stateOf, lc_fX1_leave, lc_fX2_leaveCalls_L38, ih]
theorem lc_fX2_leaveCalls {B : zMem} (N : Nat) (A : zMem) : fX2_leaveCalls N (zmx A B) = zcq B (fX2_leaveCalls N A) := by
  unfold fX2_leaveCalls
  simp (maxSteps := 2000000) (disch := first | assumption | decide | omega) only [zmx_1c, zmx_2c, zmx_R, zcx_ldI, zcx_ldJ, zcx_stI, zcx_stJ, zcx_stB, zcx_stZ, zcx_pI, zcx_pJ, zcx_pR, zcp_zb2, zcp_bd, zcq_zb2, zcq_bd, zcp_if, zcq_if, zcp_some, zcq_some, zcp_none, zcq_none, zcp_let, zcq_let, zcp_gb, zcq_gb, zcb_zb2, zcb_zb2q, zcb_bd, zcb_bdq, zcx_let, zcx_letq, zcx_cp, lc_fX1_nightStart, lc_fX2_leaveCalls_L8]
theorem lc_fX2_putInLine_L77 {B : zMem} (N : Nat) (x1 : Int32) (x2 : Int32) (x4 : Int32) (A : zMem) : fX2_putInLine_L77 N x1 x2 x4 (zmx A B) = zcq B (fX2_putInLine_L77 N x1 x2 x4 A) := by
  unfold fX2_putInLine_L77
  simp (maxSteps := 2000000) (disch := first | assumption | decide | omega) only [zmx_1c, zmx_2c, zmx_R, zcx_ldI, zcx_ldJ, zcx_stI, zcx_stJ, zcx_stB, zcx_stZ, zcx_pI, zcx_pJ, zcx_pR, zcp_zb2, zcp_bd, zcq_zb2, zcq_bd, zcp_if, zcq_if, zcp_some, zcq_some, zcp_none, zcq_none, zcp_let, zcq_let, zcp_gb, zcq_gb, zcb_zb2, zcb_zb2q, zcb_bd, zcb_bdq, zcx_let, zcx_letq, zcx_cp]
theorem lc_fX2_putInLine_L19 {B : zMem} (N : Nat) : ∀ (n : Nat) (z0 : Int32) (z1 : Int32) (z2 : Int32) (z3 : Int32) (A : zMem), fX2_putInLine_L19 N n z0 z1 z2 z3 (zmx A B) = zcq B (fX2_putInLine_L19 N n z0 z1 z2 z3 A) := by
  intro n
  induction n with
  | zero => intros; rfl
  | succ n ih =>
    intro z0 z1 z2 z3 A
    simp (maxSteps := 2000000) (disch := first | assumption | decide | omega) only [fX2_putInLine_L19, zmx_1c, zmx_2c, zmx_R, zcx_ldI, zcx_ldJ, zcx_stI, zcx_stJ, zcx_stB, zcx_stZ, zcx_pI, zcx_pJ, zcx_pR, zcp_zb2, zcp_bd, zcq_zb2, zcq_bd, zcp_if, zcq_if, zcp_some, zcq_some, zcp_none, zcq_none, zcp_let, zcq_let, zcp_gb, zcq_gb, zcb_zb2, zcb_zb2q, zcb_bd, zcb_bdq, zcx_let, zcx_letq, zcx_cp, lc_fX2_putInLine_L77, ih]
theorem lc_fX2_putInLine {B : zMem} (N : Nat) (x1 : Int32) (x2 : Int32) (x3 : Int32) (A : zMem) : fX2_putInLine N x1 x2 x3 (zmx A B) = zcq B (fX2_putInLine N x1 x2 x3 A) := by
  unfold fX2_putInLine
  simp (maxSteps := 2000000) (disch := first | assumption | decide | omega) only [zmx_1c, zmx_2c, zmx_R, zcx_ldI, zcx_ldJ, zcx_stI, zcx_stJ, zcx_stB, zcx_stZ, zcx_pI, zcx_pJ, zcx_pR, zcp_zb2, zcp_bd, zcq_zb2, zcq_bd, zcp_if, zcq_if, zcp_some, zcq_some, zcp_none, zcq_none, zcp_let, zcq_let, zcp_gb, zcq_gb, zcb_zb2, zcb_zb2q, zcb_bd, zcb_bdq, zcx_let, zcx_letq, zcx_cp, lc_fX2_putInLine_L19]
theorem lc_fX6_termOf {B : zMem} (N : Nat) (r0 : Nat) (x1 : Int32) (hr : r0 = 3 ∨ r0 = 11) (A : zMem) : fX6_termOf N r0 x1 (zmx A B) = zcp B (fX6_termOf N r0 x1 A) := by
  unfold fX6_termOf
  simp (maxSteps := 2000000) (disch := first | assumption | decide | omega) only [zmx_1c, zmx_2c, zmx_R, zcx_ldI, zcx_ldJ, zcx_stI, zcx_stJ, zcx_stB, zcx_stZ, zcx_pI, zcx_pJ, zcx_pR, zcp_zb2, zcp_bd, zcq_zb2, zcq_bd, zcp_if, zcq_if, zcp_some, zcq_some, zcp_none, zcq_none, zcp_let, zcq_let, zcp_gb, zcq_gb, zcb_zb2, zcb_zb2q, zcb_bd, zcb_bdq, zcx_let, zcx_letq, zcx_cp, lc_fX6_workOut]
theorem lcd_fX6_termOf {B : zMem} (N : Nat) (r0 : Nat) (x1 : Int32) (A : zMem) : zdy r0 (fX6_termOf N r0 x1 (zmx A B)) = zcp B (zdy r0 (fX6_termOf N r0 x1 A)) := zcd_p fun q => lc_fX6_termOf _ _ _ q A
theorem lc_fX2_lineUp_L94 {B : zMem} (N : Nat) (k10 : Int32 → Int32 → Int32 → zMem → Option (Int32 × zMem)) (hk10 : ∀ (y0 : Int32) (y1 : Int32) (y2 : Int32) (A : zMem), k10 y0 y1 y2 (zmx A B) = zcp B (k10 y0 y1 y2 A)) (x1 : Int32) (x2 : Int32) (x3 : Int32) (A : zMem) : fX2_lineUp_L94 N k10 x1 x2 x3 (zmx A B) = zcp B (fX2_lineUp_L94 N k10 x1 x2 x3 A) := by
  unfold fX2_lineUp_L94
  simp (maxSteps := 2000000) (disch := first | assumption | decide | omega) only [zmx_1c, zmx_2c, zmx_R, zcx_ldI, zcx_ldJ, zcx_stI, zcx_stJ, zcx_stB, zcx_stZ, zcx_pI, zcx_pJ, zcx_pR, zcp_zb2, zcp_bd, zcq_zb2, zcq_bd, zcp_if, zcq_if, zcp_some, zcq_some, zcp_none, zcq_none, zcp_let, zcq_let, zcp_gb, zcq_gb, zcb_zb2, zcb_zb2q, zcb_bd, zcb_bdq, zcx_let, zcx_letq, zcx_cp, hk10]
theorem lc_fX2_lineUp_L87 {B : zMem} (N : Nat) (k10 : Int32 → Int32 → Int32 → zMem → Option (Int32 × zMem)) (hk10 : ∀ (y0 : Int32) (y1 : Int32) (y2 : Int32) (A : zMem), k10 y0 y1 y2 (zmx A B) = zcp B (k10 y0 y1 y2 A)) (x1 : Int32) (x2 : Int32) (x3 : Int32) (s1 : Int32) (s2 : Int32) (A : zMem) : fX2_lineUp_L87 N k10 x1 x2 x3 s1 s2 (zmx A B) = zcp B (fX2_lineUp_L87 N k10 x1 x2 x3 s1 s2 A) := by
  unfold fX2_lineUp_L87
  simp (maxSteps := 2000000) (disch := first | assumption | decide | omega) only [zmx_1c, zmx_2c, zmx_R, zcx_ldI, zcx_ldJ, zcx_stI, zcx_stJ, zcx_stB, zcx_stZ, zcx_pI, zcx_pJ, zcx_pR, zcp_zb2, zcp_bd, zcq_zb2, zcq_bd, zcp_if, zcq_if, zcp_some, zcq_some, zcp_none, zcq_none, zcp_let, zcq_let, zcp_gb, zcq_gb, zcb_zb2, zcb_zb2q, zcb_bd, zcb_bdq, zcx_let, zcx_letq, zcx_cp, lc_fX2_putInLine, lc_fX2_lineUp_L94, hk10]
theorem lc_fX2_lineUp_L10 {B : zMem} (N : Nat) : ∀ (n : Nat) (z0 : Int32) (z1 : Int32) (z2 : Int32) (A : zMem), fX2_lineUp_L10 N n z0 z1 z2 (zmx A B) = zcp B (fX2_lineUp_L10 N n z0 z1 z2 A) := by
  intro n
  induction n with
  | zero => intros; rfl
  | succ n ih =>
    intro z0 z1 z2 A
    simp (maxSteps := 2000000) (disch := first | assumption | decide | omega) only [fX2_lineUp_L10, zmx_1c, zmx_2c, zmx_R, zcx_ldI, zcx_ldJ, zcx_stI, zcx_stJ, zcx_stB, zcx_stZ, zcx_pI, zcx_pJ, zcx_pR, zcp_zb2, zcp_bd, zcq_zb2, zcq_bd, zcp_if, zcq_if, zcp_some, zcq_some, zcp_none, zcq_none, zcp_let, zcq_let, zcp_gb, zcq_gb, zcb_zb2, zcb_zb2q, zcb_bd, zcb_bdq, zcx_let, zcx_letq, zcx_cp, lc_fX1_size, lc_fX1_isWaiting, lc_fX2_lineUp_L94, lc_fX2_setFacts, lc_fX6_firstHolding, lc_fX1_needOf, lc_fX2_lineUp_L87, lc_fX6_termOf, lcd_fX6_firstHolding, lcd_fX6_termOf, ih]
theorem lc_fX2_lineUp {B : zMem} (N : Nat) (x1 : Int32) (A : zMem) : fX2_lineUp N x1 (zmx A B) = zcp B (fX2_lineUp N x1 A) := by
  unfold fX2_lineUp
  simp (maxSteps := 2000000) (disch := first | assumption | decide | omega) only [zmx_1c, zmx_2c, zmx_R, zcx_ldI, zcx_ldJ, zcx_stI, zcx_stJ, zcx_stB, zcx_stZ, zcx_pI, zcx_pJ, zcx_pR, zcp_zb2, zcp_bd, zcq_zb2, zcq_bd, zcp_if, zcq_if, zcp_some, zcq_some, zcp_none, zcq_none, zcp_let, zcq_let, zcp_gb, zcq_gb, zcb_zb2, zcb_zb2q, zcb_bd, zcb_bdq, zcx_let, zcx_letq, zcx_cp, lc_fX1_nightStart, lc_fX2_lineUp_L10]
theorem lc_fX2_goThrough_L43 {B : zMem} (N : Nat) (k8 : Int32 → zMem → Option (Int32 × zMem)) (hk8 : ∀ (y0 : Int32) (A : zMem), k8 y0 (zmx A B) = zcp B (k8 y0 A)) (x3 : Int32) (A : zMem) : fX2_goThrough_L43 N k8 x3 (zmx A B) = zcp B (fX2_goThrough_L43 N k8 x3 A) := by
  unfold fX2_goThrough_L43
  simp (maxSteps := 2000000) (disch := first | assumption | decide | omega) only [zmx_1c, zmx_2c, zmx_R, zcx_ldI, zcx_ldJ, zcx_stI, zcx_stJ, zcx_stB, zcx_stZ, zcx_pI, zcx_pJ, zcx_pR, zcp_zb2, zcp_bd, zcq_zb2, zcq_bd, zcp_if, zcq_if, zcp_some, zcq_some, zcp_none, zcq_none, zcp_let, zcq_let, zcp_gb, zcq_gb, zcb_zb2, zcb_zb2q, zcb_bd, zcb_bdq, zcx_let, zcx_letq, zcx_cp, hk8]
theorem lc_fX2_goThrough_L8 {B : zMem} (N : Nat) : ∀ (n : Nat) (z0 : Int32) (A : zMem), fX2_goThrough_L8 N n z0 (zmx A B) = zcp B (fX2_goThrough_L8 N n z0 A) := by
  intro n
  induction n with
  | zero => intros; rfl
  | succ n ih =>
    intro z0 A
    simp (maxSteps := 2000000) (disch := first | assumption | decide | omega) only [fX2_goThrough_L8, zmx_1c, zmx_2c, zmx_R, zcx_ldI, zcx_ldJ, zcx_stI, zcx_stJ, zcx_stB, zcx_stZ, zcx_pI, zcx_pJ, zcx_pR, zcp_zb2, zcp_bd, zcq_zb2, zcq_bd, zcp_if, zcq_if, zcp_some, zcq_some, zcp_none, zcq_none, zcp_let, zcq_let, zcp_gb, zcq_gb, zcb_zb2, zcb_zb2q, zcb_bd, zcb_bdq, zcx_let, zcx_letq, zcx_cp, lc_fX2_leaveCalls, lc_fX2_endCalls, lc_fX2_dropCalls, lc_fX2_isAnyFree, lc_fX2_goThrough_L43, lc_fX2_lineUp, lc_fX2_giveCalls, ih]
theorem lc_fX2_goThrough {B : zMem} (N : Nat) (x1 : Int32) (x2 : Nat) (A : zMem) : fX2_goThrough N x1 x2 (zmx A B) = zcp B (fX2_goThrough N x1 x2 A) := by
  unfold fX2_goThrough
  simp (maxSteps := 2000000) (disch := first | assumption | decide | omega) only [zmx_1c, zmx_2c, zmx_R, zcx_ldI, zcx_ldJ, zcx_stI, zcx_stJ, zcx_stB, zcx_stZ, zcx_pI, zcx_pJ, zcx_pR, zcp_zb2, zcp_bd, zcq_zb2, zcq_bd, zcp_if, zcq_if, zcp_some, zcq_some, zcp_none, zcq_none, zcp_let, zcq_let, zcp_gb, zcq_gb, zcb_zb2, zcb_zb2q, zcb_bd, zcb_bdq, zcx_let, zcx_letq, zcx_cp, lc_fX2_begin, lc_fX2_goThrough_L8]
theorem lc_fX3_size {B : zMem} (A : zMem) : fX3_size  (zmx A B) = zcp B (fX3_size  A) := by
  unfold fX3_size
  simp (maxSteps := 2000000) (disch := first | assumption | decide | omega) only [zmx_1c, zmx_2c, zmx_R, zcx_ldI, zcx_ldJ, zcx_stI, zcx_stJ, zcx_stB, zcx_stZ, zcx_pI, zcx_pJ, zcx_pR, zcp_zb2, zcp_bd, zcq_zb2, zcq_bd, zcp_if, zcq_if, zcp_some, zcq_some, zcp_none, zcq_none, zcp_let, zcq_let, zcp_gb, zcq_gb, zcb_zb2, zcb_zb2q, zcb_bd, zcb_bdq, zcx_let, zcx_letq, zcx_cp]
theorem lc_fX3_isNote {B : zMem} (x1 : Int32) (A : zMem) : fX3_isNote x1 (zmx A B) = zcp B (fX3_isNote x1 A) := by
  unfold fX3_isNote
  simp (maxSteps := 2000000) (disch := first | assumption | decide | omega) only [zmx_1c, zmx_2c, zmx_R, zcx_ldI, zcx_ldJ, zcx_stI, zcx_stJ, zcx_stB, zcx_stZ, zcx_pI, zcx_pJ, zcx_pR, zcp_zb2, zcp_bd, zcq_zb2, zcq_bd, zcp_if, zcq_if, zcp_some, zcq_some, zcp_none, zcq_none, zcp_let, zcq_let, zcp_gb, zcq_gb, zcb_zb2, zcb_zb2q, zcb_bd, zcb_bdq, zcx_let, zcx_letq, zcx_cp]
theorem lc_fX3_add {B : zMem} (x1 : Int32) (x2 : Int32) (x3 : Int32) (A : zMem) : fX3_add x1 x2 x3 (zmx A B) = zcp B (fX3_add x1 x2 x3 A) := by
  unfold fX3_add
  simp (maxSteps := 2000000) (disch := first | assumption | decide | omega) only [zmx_1c, zmx_2c, zmx_R, zcx_ldI, zcx_ldJ, zcx_stI, zcx_stJ, zcx_stB, zcx_stZ, zcx_pI, zcx_pJ, zcx_pR, zcp_zb2, zcp_bd, zcq_zb2, zcq_bd, zcp_if, zcq_if, zcp_some, zcq_some, zcp_none, zcq_none, zcp_let, zcq_let, zcp_gb, zcq_gb, zcb_zb2, zcb_zb2q, zcb_bd, zcb_bdq, zcx_let, zcx_letq, zcx_cp]
theorem lc_fX3_callOf {B : zMem} (x1 : Int32) (A : zMem) : fX3_callOf x1 (zmx A B) = zcp B (fX3_callOf x1 A) := by
  unfold fX3_callOf
  simp (maxSteps := 2000000) (disch := first | assumption | decide | omega) only [zmx_1c, zmx_2c, zmx_R, zcx_ldI, zcx_ldJ, zcx_stI, zcx_stJ, zcx_stB, zcx_stZ, zcx_pI, zcx_pJ, zcx_pR, zcp_zb2, zcp_bd, zcq_zb2, zcq_bd, zcp_if, zcq_if, zcp_some, zcq_some, zcp_none, zcq_none, zcp_let, zcq_let, zcp_gb, zcq_gb, zcb_zb2, zcb_zb2q, zcb_bd, zcb_bdq, zcx_let, zcx_letq, zcx_cp, lc_fX3_isNote]
theorem lc_fX3_rankOf {B : zMem} (x1 : Int32) (A : zMem) : fX3_rankOf x1 (zmx A B) = zcp B (fX3_rankOf x1 A) := by
  unfold fX3_rankOf
  simp (maxSteps := 2000000) (disch := first | assumption | decide | omega) only [zmx_1c, zmx_2c, zmx_R, zcx_ldI, zcx_ldJ, zcx_stI, zcx_stJ, zcx_stB, zcx_stZ, zcx_pI, zcx_pJ, zcx_pR, zcp_zb2, zcp_bd, zcq_zb2, zcq_bd, zcp_if, zcq_if, zcp_some, zcq_some, zcp_none, zcq_none, zcp_let, zcq_let, zcp_gb, zcq_gb, zcb_zb2, zcb_zb2q, zcb_bd, zcb_bdq, zcx_let, zcx_letq, zcx_cp, lc_fX3_isNote]
theorem lc_fX3_nightOf {B : zMem} (x1 : Int32) (A : zMem) : fX3_nightOf x1 (zmx A B) = zcp B (fX3_nightOf x1 A) := by
  unfold fX3_nightOf
  simp (maxSteps := 2000000) (disch := first | assumption | decide | omega) only [zmx_1c, zmx_2c, zmx_R, zcx_ldI, zcx_ldJ, zcx_stI, zcx_stJ, zcx_stB, zcx_stZ, zcx_pI, zcx_pJ, zcx_pR, zcp_zb2, zcp_bd, zcq_zb2, zcq_bd, zcp_if, zcq_if, zcp_some, zcq_some, zcp_none, zcq_none, zcp_let, zcq_let, zcp_gb, zcq_gb, zcb_zb2, zcb_zb2q, zcb_bd, zcb_bdq, zcx_let, zcx_letq, zcx_cp, lc_fX3_isNote]
theorem lc_fX4_clear {B : zMem} (A : zMem) : fX4_clear  (zmx A B) = zcq B (fX4_clear  A) := by
  unfold fX4_clear
  simp (maxSteps := 2000000) (disch := first | assumption | decide | omega) only [zmx_1c, zmx_2c, zmx_R, zcx_ldI, zcx_ldJ, zcx_stI, zcx_stJ, zcx_stB, zcx_stZ, zcx_pI, zcx_pJ, zcx_pR, zcp_zb2, zcp_bd, zcq_zb2, zcq_bd, zcp_if, zcq_if, zcp_some, zcq_some, zcp_none, zcq_none, zcp_let, zcq_let, zcp_gb, zcq_gb, zcb_zb2, zcb_zb2q, zcb_bd, zcb_bdq, zcx_let, zcx_letq, zcx_cp]
theorem lc_fX4_size {B : zMem} (A : zMem) : fX4_size  (zmx A B) = zcp B (fX4_size  A) := by
  unfold fX4_size
  simp (maxSteps := 2000000) (disch := first | assumption | decide | omega) only [zmx_1c, zmx_2c, zmx_R, zcx_ldI, zcx_ldJ, zcx_stI, zcx_stJ, zcx_stB, zcx_stZ, zcx_pI, zcx_pJ, zcx_pR, zcp_zb2, zcp_bd, zcq_zb2, zcq_bd, zcp_if, zcq_if, zcp_some, zcq_some, zcp_none, zcq_none, zcp_let, zcq_let, zcp_gb, zcq_gb, zcb_zb2, zcb_zb2q, zcb_bd, zcb_bdq, zcx_let, zcx_letq, zcx_cp]
theorem lc_fX4_isOfOffer_L2 {B : zMem} (N : Nat) : ∀ (n : Nat) (z0 : Int32) (z1 : Int32) (A : zMem), fX4_isOfOffer_L2 N n z0 z1 (zmx A B) = zcp B (fX4_isOfOffer_L2 N n z0 z1 A) := by
  intro n
  induction n with
  | zero => intros; rfl
  | succ n ih =>
    intro z0 z1 A
    simp (maxSteps := 2000000) (disch := first | assumption | decide | omega) only [fX4_isOfOffer_L2, zmx_1c, zmx_2c, zmx_R, zcx_ldI, zcx_ldJ, zcx_stI, zcx_stJ, zcx_stB, zcx_stZ, zcx_pI, zcx_pJ, zcx_pR, zcp_zb2, zcp_bd, zcq_zb2, zcq_bd, zcp_if, zcq_if, zcp_some, zcq_some, zcp_none, zcq_none, zcp_let, zcq_let, zcp_gb, zcq_gb, zcb_zb2, zcb_zb2q, zcb_bd, zcb_bdq, zcx_let, zcx_letq, zcx_cp, ih]
theorem lc_fX4_isOfOffer {B : zMem} (N : Nat) (x1 : Int32) (A : zMem) : fX4_isOfOffer N x1 (zmx A B) = zcp B (fX4_isOfOffer N x1 A) := by
  unfold fX4_isOfOffer
  simp (maxSteps := 2000000) (disch := first | assumption | decide | omega) only [zmx_1c, zmx_2c, zmx_R, zcx_ldI, zcx_ldJ, zcx_stI, zcx_stJ, zcx_stB, zcx_stZ, zcx_pI, zcx_pJ, zcx_pR, zcp_zb2, zcp_bd, zcq_zb2, zcq_bd, zcp_if, zcq_if, zcp_some, zcq_some, zcp_none, zcq_none, zcp_let, zcq_let, zcp_gb, zcq_gb, zcb_zb2, zcb_zb2q, zcb_bd, zcb_bdq, zcx_let, zcx_letq, zcx_cp, lc_fX4_isOfOffer_L2]
theorem lc_fX4_add {B : zMem} (N : Nat) (x1 : Int32) (x2 : Int32) (x3 : Int32) (A : zMem) : fX4_add N x1 x2 x3 (zmx A B) = zcp B (fX4_add N x1 x2 x3 A) := by
  unfold fX4_add
  simp (maxSteps := 2000000) (disch := first | assumption | decide | omega) only [zmx_1c, zmx_2c, zmx_R, zcx_ldI, zcx_ldJ, zcx_stI, zcx_stJ, zcx_stB, zcx_stZ, zcx_pI, zcx_pJ, zcx_pR, zcp_zb2, zcp_bd, zcq_zb2, zcq_bd, zcp_if, zcq_if, zcp_some, zcq_some, zcp_none, zcq_none, zcp_let, zcq_let, zcp_gb, zcq_gb, zcb_zb2, zcb_zb2q, zcb_bd, zcb_bdq, zcx_let, zcx_letq, zcx_cp, lc_fX4_isOfOffer]
theorem lc_fX4_volunteerOf {B : zMem} (x1 : Int32) (A : zMem) : fX4_volunteerOf x1 (zmx A B) = zcp B (fX4_volunteerOf x1 A) := by
  unfold fX4_volunteerOf
  simp (maxSteps := 2000000) (disch := first | assumption | decide | omega) only [zmx_1c, zmx_2c, zmx_R, zcx_ldI, zcx_ldJ, zcx_stI, zcx_stJ, zcx_stB, zcx_stZ, zcx_pI, zcx_pJ, zcx_pR, zcp_zb2, zcp_bd, zcq_zb2, zcq_bd, zcp_if, zcq_if, zcp_some, zcq_some, zcp_none, zcq_none, zcp_let, zcq_let, zcp_gb, zcq_gb, zcb_zb2, zcb_zb2q, zcb_bd, zcb_bdq, zcx_let, zcx_letq, zcx_cp]
theorem lc_fX4_hoursOf {B : zMem} (x1 : Int32) (A : zMem) : fX4_hoursOf x1 (zmx A B) = zcp B (fX4_hoursOf x1 A) := by
  unfold fX4_hoursOf
  simp (maxSteps := 2000000) (disch := first | assumption | decide | omega) only [zmx_1c, zmx_2c, zmx_R, zcx_ldI, zcx_ldJ, zcx_stI, zcx_stJ, zcx_stB, zcx_stZ, zcx_pI, zcx_pJ, zcx_pR, zcp_zb2, zcp_bd, zcq_zb2, zcq_bd, zcp_if, zcq_if, zcp_some, zcq_some, zcp_none, zcq_none, zcp_let, zcq_let, zcp_gb, zcq_gb, zcb_zb2, zcb_zb2q, zcb_bd, zcb_bdq, zcx_let, zcx_letq, zcx_cp]
theorem lc_fX4_mostOf {B : zMem} (x1 : Int32) (A : zMem) : fX4_mostOf x1 (zmx A B) = zcp B (fX4_mostOf x1 A) := by
  unfold fX4_mostOf
  simp (maxSteps := 2000000) (disch := first | assumption | decide | omega) only [zmx_1c, zmx_2c, zmx_R, zcx_ldI, zcx_ldJ, zcx_stI, zcx_stJ, zcx_stB, zcx_stZ, zcx_pI, zcx_pJ, zcx_pR, zcp_zb2, zcp_bd, zcq_zb2, zcq_bd, zcp_if, zcq_if, zcp_some, zcq_some, zcp_none, zcq_none, zcp_let, zcq_let, zcp_gb, zcq_gb, zcb_zb2, zcb_zb2q, zcb_bd, zcb_bdq, zcx_let, zcx_letq, zcx_cp]
theorem lc_fX5_faultPlace {B : zMem} (A : zMem) : fX5_faultPlace  (zmx A B) = zcp B (fX5_faultPlace  A) := by
  unfold fX5_faultPlace
  simp (maxSteps := 2000000) (disch := first | assumption | decide | omega) only [zmx_1c, zmx_2c, zmx_R, zcx_ldI, zcx_ldJ, zcx_stI, zcx_stJ, zcx_stB, zcx_stZ, zcx_pI, zcx_pJ, zcx_pR, zcp_zb2, zcp_bd, zcq_zb2, zcq_bd, zcp_if, zcq_if, zcp_some, zcq_some, zcp_none, zcq_none, zcp_let, zcq_let, zcp_gb, zcq_gb, zcb_zb2, zcb_zb2q, zcb_bd, zcb_bdq, zcx_let, zcx_letq, zcx_cp]
theorem lc_fX10_kind {B : zMem} (A : zMem) : fX10_kind  (zmx A B) = zcp B (fX10_kind  A) := by
  unfold fX10_kind
  simp (maxSteps := 2000000) (disch := first | assumption | decide | omega) only [zmx_1c, zmx_2c, zmx_R, zcx_ldI, zcx_ldJ, zcx_stI, zcx_stJ, zcx_stB, zcx_stZ, zcx_pI, zcx_pJ, zcx_pR, zcp_zb2, zcp_bd, zcq_zb2, zcq_bd, zcp_if, zcq_if, zcp_some, zcq_some, zcp_none, zcq_none, zcp_let, zcq_let, zcp_gb, zcq_gb, zcb_zb2, zcb_zb2q, zcb_bd, zcb_bdq, zcx_let, zcx_letq, zcx_cp]
theorem lc_fX10_isDigit {B : zMem} (x0 : Int32) (A : zMem) : fX10_isDigit x0 (zmx A B) = zcp B (fX10_isDigit x0 A) := by
  unfold fX10_isDigit
  simp (maxSteps := 2000000) (disch := first | assumption | decide | omega) only [zmx_1c, zmx_2c, zmx_R, zcx_ldI, zcx_ldJ, zcx_stI, zcx_stJ, zcx_stB, zcx_stZ, zcx_pI, zcx_pJ, zcx_pR, zcp_zb2, zcp_bd, zcq_zb2, zcq_bd, zcp_if, zcq_if, zcp_some, zcq_some, zcp_none, zcq_none, zcp_let, zcq_let, zcp_gb, zcq_gb, zcb_zb2, zcb_zb2q, zcb_bd, zcb_bdq, zcx_let, zcx_letq, zcx_cp]
theorem lc_fX10_isLetter {B : zMem} (x0 : Int32) (A : zMem) : fX10_isLetter x0 (zmx A B) = zcp B (fX10_isLetter x0 A) := by
  unfold fX10_isLetter
  simp (maxSteps := 2000000) (disch := first | assumption | decide | omega) only [zmx_1c, zmx_2c, zmx_R, zcx_ldI, zcx_ldJ, zcx_stI, zcx_stJ, zcx_stB, zcx_stZ, zcx_pI, zcx_pJ, zcx_pR, zcp_zb2, zcp_bd, zcq_zb2, zcq_bd, zcp_if, zcq_if, zcp_some, zcq_some, zcp_none, zcq_none, zcp_let, zcq_let, zcp_gb, zcq_gb, zcb_zb2, zcb_zb2q, zcb_bd, zcb_bdq, zcx_let, zcx_letq, zcx_cp]
theorem lc_fX8_byteAt {B : zMem} (x1 : Int32) (A : zMem) : fX8_byteAt x1 (zmx A B) = zcp B (fX8_byteAt x1 A) := by
  unfold fX8_byteAt
  simp (maxSteps := 2000000) (disch := first | assumption | decide | omega) only [zmx_1c, zmx_2c, zmx_R, zcx_ldI, zcx_ldJ, zcx_stI, zcx_stJ, zcx_stB, zcx_stZ, zcx_pI, zcx_pJ, zcx_pR, zcp_zb2, zcp_bd, zcq_zb2, zcq_bd, zcp_if, zcq_if, zcp_some, zcq_some, zcp_none, zcq_none, zcp_let, zcq_let, zcp_gb, zcq_gb, zcb_zb2, zcb_zb2q, zcb_bd, zcb_bdq, zcx_let, zcx_letq, zcx_cp]
theorem lc_fX10_scanNumber_L94 {B : zMem} (N : Nat) (s1 : Int32) (A : zMem) : fX10_scanNumber_L94 N s1 (zmx A B) = zcq B (fX10_scanNumber_L94 N s1 A) := by
  unfold fX10_scanNumber_L94
  simp (maxSteps := 2000000) (disch := first | assumption | decide | omega) only [zmx_1c, zmx_2c, zmx_R, zcx_ldI, zcx_ldJ, zcx_stI, zcx_stJ, zcx_stB, zcx_stZ, zcx_pI, zcx_pJ, zcx_pR, zcp_zb2, zcp_bd, zcq_zb2, zcq_bd, zcp_if, zcq_if, zcp_some, zcq_some, zcp_none, zcq_none, zcp_let, zcq_let, zcp_gb, zcq_gb, zcb_zb2, zcb_zb2q, zcb_bd, zcb_bdq, zcx_let, zcx_letq, zcx_cp]
theorem lc_fX10_scanNumber_L77 {B : zMem} (N : Nat) (x2 : Int32) (s1 : Int32) (A : zMem) : fX10_scanNumber_L77 N x2 s1 (zmx A B) = zcq B (fX10_scanNumber_L77 N x2 s1 A) := by
  unfold fX10_scanNumber_L77
  simp (maxSteps := 2000000) (disch := first | assumption | decide | omega) only [zmx_1c, zmx_2c, zmx_R, zcx_ldI, zcx_ldJ, zcx_stI, zcx_stJ, zcx_stB, zcx_stZ, zcx_pI, zcx_pJ, zcx_pR, zcp_zb2, zcp_bd, zcq_zb2, zcq_bd, zcp_if, zcq_if, zcp_some, zcq_some, zcp_none, zcq_none, zcp_let, zcq_let, zcp_gb, zcq_gb, zcb_zb2, zcb_zb2q, zcb_bd, zcb_bdq, zcx_let, zcx_letq, zcx_cp, lc_fX10_scanNumber_L94]
theorem lc_fX10_scanNumber_L58 {B : zMem} (N : Nat) (x2 : Int32) (A : zMem) : fX10_scanNumber_L58 N x2 (zmx A B) = zcq B (fX10_scanNumber_L58 N x2 A) := by
  unfold fX10_scanNumber_L58
  simp (maxSteps := 2000000) (disch := first | assumption | decide | omega) only [zmx_1c, zmx_2c, zmx_R, zcx_ldI, zcx_ldJ, zcx_stI, zcx_stJ, zcx_stB, zcx_stZ, zcx_pI, zcx_pJ, zcx_pR, zcp_zb2, zcp_bd, zcq_zb2, zcq_bd, zcp_if, zcq_if, zcp_some, zcq_some, zcp_none, zcq_none, zcp_let, zcq_let, zcp_gb, zcq_gb, zcb_zb2, zcb_zb2q, zcb_bd, zcb_bdq, zcx_let, zcx_letq, zcx_cp, lc_fX10_scanNumber_L77]
theorem lc_fX10_scanNumber_L4 {B : zMem} (N : Nat) : ∀ (n : Nat) (z0 : Int32) (z1 : Int32) (A : zMem), fX10_scanNumber_L4 N n z0 z1 (zmx A B) = zcq B (fX10_scanNumber_L4 N n z0 z1 A) := by
  intro n
  induction n with
  | zero => intros; rfl
  | succ n ih =>
    intro z0 z1 A
    simp (maxSteps := 2000000) (disch := first | assumption | decide | omega) only [fX10_scanNumber_L4, zmx_1c, zmx_2c, zmx_R, zcx_ldI, zcx_ldJ, zcx_stI, zcx_stJ, zcx_stB, zcx_stZ, zcx_pI, zcx_pJ, zcx_pR, zcp_zb2, zcp_bd, zcq_zb2, zcq_bd, zcp_if, zcq_if, zcp_some, zcq_some, zcp_none, zcq_none, zcp_let, zcq_let, zcp_gb, zcq_gb, zcb_zb2, zcb_zb2q, zcb_bd, zcb_bdq, zcx_let, zcx_letq, zcx_cp, lc_fX10_scanNumber_L58, lc_fX8_byteAt, lc_fX10_isDigit, ih]
theorem lc_fX10_scanNumber {B : zMem} (N : Nat) (A : zMem) : fX10_scanNumber N (zmx A B) = zcq B (fX10_scanNumber N A) := by
  unfold fX10_scanNumber
  simp (maxSteps := 2000000) (disch := first | assumption | decide | omega) only [zmx_1c, zmx_2c, zmx_R, zcx_ldI, zcx_ldJ, zcx_stI, zcx_stJ, zcx_stB, zcx_stZ, zcx_pI, zcx_pJ, zcx_pR, zcp_zb2, zcp_bd, zcq_zb2, zcq_bd, zcp_if, zcq_if, zcp_some, zcq_some, zcp_none, zcq_none, zcp_let, zcq_let, zcp_gb, zcq_gb, zcb_zb2, zcb_zb2q, zcb_bd, zcb_bdq, zcx_let, zcx_letq, zcx_cp, lc_fX10_scanNumber_L4]
theorem lc_fX10_doubleSignKind {B : zMem} (x0 : Int32) (A : zMem) : fX10_doubleSignKind x0 (zmx A B) = zcp B (fX10_doubleSignKind x0 A) := by
  unfold fX10_doubleSignKind
  simp (maxSteps := 2000000) (disch := first | assumption | decide | omega) only [zmx_1c, zmx_2c, zmx_R, zcx_ldI, zcx_ldJ, zcx_stI, zcx_stJ, zcx_stB, zcx_stZ, zcx_pI, zcx_pJ, zcx_pR, zcp_zb2, zcp_bd, zcq_zb2, zcq_bd, zcp_if, zcq_if, zcp_some, zcq_some, zcp_none, zcq_none, zcp_let, zcq_let, zcp_gb, zcq_gb, zcb_zb2, zcb_zb2q, zcb_bd, zcb_bdq, zcx_let, zcx_letq, zcx_cp]
theorem lc_fX10_singleSignKind {B : zMem} (x0 : Int32) (A : zMem) : fX10_singleSignKind x0 (zmx A B) = zcp B (fX10_singleSignKind x0 A) := by
  unfold fX10_singleSignKind
  simp only [zcp_if, zcp_some]
theorem lc_fX10_scanSign_L69 {B : zMem} (s1 : Int32) (A : zMem) : fX10_scanSign_L69 s1 (zmx A B) = zcq B (fX10_scanSign_L69 s1 A) := by
  unfold fX10_scanSign_L69
  simp (maxSteps := 2000000) (disch := first | assumption | decide | omega) only [zmx_1c, zmx_2c, zmx_R, zcx_ldI, zcx_ldJ, zcx_stI, zcx_stJ, zcx_stB, zcx_stZ, zcx_pI, zcx_pJ, zcx_pR, zcp_zb2, zcp_bd, zcq_zb2, zcq_bd, zcp_if, zcq_if, zcp_some, zcq_some, zcp_none, zcq_none, zcp_let, zcq_let, zcp_gb, zcq_gb, zcb_zb2, zcb_zb2q, zcb_bd, zcb_bdq, zcx_let, zcx_letq, zcx_cp]
theorem lc_fX10_scanSign_L50 {B : zMem} (x1 : Int32) (x3 : Int32) (s1 : Int32) (A : zMem) : fX10_scanSign_L50 x1 x3 s1 (zmx A B) = zcq B (fX10_scanSign_L50 x1 x3 s1 A) := by
  unfold fX10_scanSign_L50
  simp (maxSteps := 2000000) (disch := first | assumption | decide | omega) only [zmx_1c, zmx_2c, zmx_R, zcx_ldI, zcx_ldJ, zcx_stI, zcx_stJ, zcx_stB, zcx_stZ, zcx_pI, zcx_pJ, zcx_pR, zcp_zb2, zcp_bd, zcq_zb2, zcq_bd, zcp_if, zcq_if, zcp_some, zcq_some, zcp_none, zcq_none, zcp_let, zcq_let, zcp_gb, zcq_gb, zcb_zb2, zcb_zb2q, zcb_bd, zcb_bdq, zcx_let, zcx_letq, zcx_cp, lc_fX10_singleSignKind, lc_fX10_scanSign_L69, lc_fX10_doubleSignKind]
theorem lc_fX10_scanSign_L29 {B : zMem} (x1 : Int32) (s0 : Int32) (A : zMem) : fX10_scanSign_L29 x1 s0 (zmx A B) = zcq B (fX10_scanSign_L29 x1 s0 A) := by
  unfold fX10_scanSign_L29
  simp (maxSteps := 2000000) (disch := first | assumption | decide | omega) only [zmx_1c, zmx_2c, zmx_R, zcx_ldI, zcx_ldJ, zcx_stI, zcx_stJ, zcx_stB, zcx_stZ, zcx_pI, zcx_pJ, zcx_pR, zcp_zb2, zcp_bd, zcq_zb2, zcq_bd, zcp_if, zcq_if, zcp_some, zcq_some, zcp_none, zcq_none, zcp_let, zcq_let, zcp_gb, zcq_gb, zcb_zb2, zcb_zb2q, zcb_bd, zcb_bdq, zcx_let, zcx_letq, zcx_cp, lc_fX10_scanSign_L50]
theorem lc_fX10_scanSign_L24 {B : zMem} (x1 : Int32) (A : zMem) : fX10_scanSign_L24 x1 (zmx A B) = zcq B (fX10_scanSign_L24 x1 A) := by
  unfold fX10_scanSign_L24
  simp (maxSteps := 2000000) (disch := first | assumption | decide | omega) only [zmx_1c, zmx_2c, zmx_R, zcx_ldI, zcx_ldJ, zcx_stI, zcx_stJ, zcx_stB, zcx_stZ, zcx_pI, zcx_pJ, zcx_pR, zcp_zb2, zcp_bd, zcq_zb2, zcq_bd, zcp_if, zcq_if, zcp_some, zcq_some, zcp_none, zcq_none, zcp_let, zcq_let, zcp_gb, zcq_gb, zcb_zb2, zcb_zb2q, zcb_bd, zcb_bdq, zcx_let, zcx_letq, zcx_cp, lc_fX10_scanSign_L29]
theorem lc_fX10_scanSign_L28 {B : zMem} (x1 : Int32) (A : zMem) : fX10_scanSign_L28 x1 (zmx A B) = zcq B (fX10_scanSign_L28 x1 A) := by
  unfold fX10_scanSign_L28
  simp (maxSteps := 2000000) (disch := first | assumption | decide | omega) only [zmx_1c, zmx_2c, zmx_R, zcx_ldI, zcx_ldJ, zcx_stI, zcx_stJ, zcx_stB, zcx_stZ, zcx_pI, zcx_pJ, zcx_pR, zcp_zb2, zcp_bd, zcq_zb2, zcq_bd, zcp_if, zcq_if, zcp_some, zcq_some, zcp_none, zcq_none, zcp_let, zcq_let, zcp_gb, zcq_gb, zcb_zb2, zcb_zb2q, zcb_bd, zcb_bdq, zcx_let, zcx_letq, zcx_cp, lc_fX10_scanSign_L29]
theorem lc_fX10_scanSign {B : zMem} (x1 : Int32) (x2 : Int32) (A : zMem) : fX10_scanSign x1 x2 (zmx A B) = zcq B (fX10_scanSign x1 x2 A) := by
  unfold fX10_scanSign
  simp (maxSteps := 2000000) (disch := first | assumption | decide | omega) only [zmx_1c, zmx_2c, zmx_R, zcx_ldI, zcx_ldJ, zcx_stI, zcx_stJ, zcx_stB, zcx_stZ, zcx_pI, zcx_pJ, zcx_pR, zcp_zb2, zcp_bd, zcq_zb2, zcq_bd, zcp_if, zcq_if, zcp_some, zcq_some, zcp_none, zcq_none, zcp_let, zcq_let, zcp_gb, zcq_gb, zcb_zb2, zcb_zb2q, zcb_bd, zcb_bdq, zcx_let, zcx_letq, zcx_cp, lc_fX10_scanSign_L24, lc_fX10_scanSign_L28]
theorem lc_fX10_spells_L20 {B : zMem} (N : Nat) : ∀ (n : Nat) (z0 : Nat) (z1 : Int32) (A : zMem), fX10_spells_L20 N n z0 z1 (zmx A B) = zcp B (fX10_spells_L20 N n z0 z1 A) := by
  intro n
  induction n with
  | zero => intros; rfl
  | succ n ih =>
    intro z0 z1 A
    simp (maxSteps := 2000000) (disch := first | assumption | decide | omega) only [fX10_spells_L20, zmx_1c, zmx_2c, zmx_R, zcx_ldI, zcx_ldJ, zcx_stI, zcx_stJ, zcx_stB, zcx_stZ, zcx_pI, zcx_pJ, zcx_pR, zcp_zb2, zcp_bd, zcq_zb2, zcq_bd, zcp_if, zcq_if, zcp_some, zcq_some, zcp_none, zcq_none, zcp_let, zcq_let, zcp_gb, zcq_gb, zcb_zb2, zcb_zb2q, zcb_bd, zcb_bdq, zcx_let, zcx_letq, zcx_cp, lc_fX8_byteAt, ih]
theorem lc_fX10_spells {B : zMem} (N : Nat) (x2 : Nat) (A : zMem) : fX10_spells N x2 (zmx A B) = zcp B (fX10_spells N x2 A) := by
  unfold fX10_spells
  simp (maxSteps := 2000000) (disch := first | assumption | decide | omega) only [zmx_1c, zmx_2c, zmx_R, zcx_ldI, zcx_ldJ, zcx_stI, zcx_stJ, zcx_stB, zcx_stZ, zcx_pI, zcx_pJ, zcx_pR, zcp_zb2, zcp_bd, zcq_zb2, zcq_bd, zcp_if, zcq_if, zcp_some, zcq_some, zcp_none, zcq_none, zcp_let, zcq_let, zcp_gb, zcq_gb, zcb_zb2, zcb_zb2q, zcb_bd, zcb_bdq, zcx_let, zcx_letq, zcx_cp, lc_fX10_spells_L20]
theorem lc_fX10_factIndex {B : zMem} (N : Nat) (A : zMem) : fX10_factIndex N (zmx A B) = zcp B (fX10_factIndex N A) := by
  unfold fX10_factIndex
  simp (maxSteps := 2000000) (disch := first | assumption | decide | omega) only [zmx_1c, zmx_2c, zmx_R, zcx_ldI, zcx_ldJ, zcx_stI, zcx_stJ, zcx_stB, zcx_stZ, zcx_pI, zcx_pJ, zcx_pR, zcp_zb2, zcp_bd, zcq_zb2, zcq_bd, zcp_if, zcq_if, zcp_some, zcq_some, zcp_none, zcq_none, zcp_let, zcq_let, zcp_gb, zcq_gb, zcb_zb2, zcb_zb2q, zcb_bd, zcb_bdq, zcx_let, zcx_letq, zcx_cp, lc_fX10_spells]
theorem lc_fX10_keywordKind {B : zMem} (N : Nat) (A : zMem) : fX10_keywordKind N (zmx A B) = zcp B (fX10_keywordKind N A) := by
  unfold fX10_keywordKind
  simp (maxSteps := 2000000) (disch := first | assumption | decide | omega) only [zmx_1c, zmx_2c, zmx_R, zcx_ldI, zcx_ldJ, zcx_stI, zcx_stJ, zcx_stB, zcx_stZ, zcx_pI, zcx_pJ, zcx_pR, zcp_zb2, zcp_bd, zcq_zb2, zcq_bd, zcp_if, zcq_if, zcp_some, zcq_some, zcp_none, zcq_none, zcp_let, zcq_let, zcp_gb, zcq_gb, zcb_zb2, zcb_zb2q, zcb_bd, zcb_bdq, zcx_let, zcx_letq, zcx_cp, lc_fX10_spells]
theorem lc_fX10_scanWord_L97 {B : zMem} (N : Nat) (s1 : Int32) (A : zMem) : fX10_scanWord_L97 N s1 (zmx A B) = zcq B (fX10_scanWord_L97 N s1 A) := by
  unfold fX10_scanWord_L97
  simp (maxSteps := 2000000) (disch := first | assumption | decide | omega) only [zmx_1c, zmx_2c, zmx_R, zcx_ldI, zcx_ldJ, zcx_stI, zcx_stJ, zcx_stB, zcx_stZ, zcx_pI, zcx_pJ, zcx_pR, zcp_zb2, zcp_bd, zcq_zb2, zcq_bd, zcp_if, zcq_if, zcp_some, zcq_some, zcp_none, zcq_none, zcp_let, zcq_let, zcp_gb, zcq_gb, zcb_zb2, zcb_zb2q, zcb_bd, zcb_bdq, zcx_let, zcx_letq, zcx_cp]
theorem lc_fX10_scanWord_L63 {B : zMem} (N : Nat) (s1 : Int32) (A : zMem) : fX10_scanWord_L63 N s1 (zmx A B) = zcq B (fX10_scanWord_L63 N s1 A) := by
  unfold fX10_scanWord_L63
  simp (maxSteps := 2000000) (disch := first | assumption | decide | omega) only [zmx_1c, zmx_2c, zmx_R, zcx_ldI, zcx_ldJ, zcx_stI, zcx_stJ, zcx_stB, zcx_stZ, zcx_pI, zcx_pJ, zcx_pR, zcp_zb2, zcp_bd, zcq_zb2, zcq_bd, zcp_if, zcq_if, zcp_some, zcq_some, zcp_none, zcq_none, zcp_let, zcq_let, zcp_gb, zcq_gb, zcb_zb2, zcb_zb2q, zcb_bd, zcb_bdq, zcx_let, zcx_letq, zcx_cp, lc_fX10_factIndex, lc_fX10_scanWord_L97]
theorem lc_fX10_scanWord_L39 {B : zMem} (N : Nat) (A : zMem) : fX10_scanWord_L39 N (zmx A B) = zcq B (fX10_scanWord_L39 N A) := by
  unfold fX10_scanWord_L39
  simp (maxSteps := 2000000) (disch := first | assumption | decide | omega) only [zmx_1c, zmx_2c, zmx_R, zcx_ldI, zcx_ldJ, zcx_stI, zcx_stJ, zcx_stB, zcx_stZ, zcx_pI, zcx_pJ, zcx_pR, zcp_zb2, zcp_bd, zcq_zb2, zcq_bd, zcp_if, zcq_if, zcp_some, zcq_some, zcp_none, zcq_none, zcp_let, zcq_let, zcp_gb, zcq_gb, zcb_zb2, zcb_zb2q, zcb_bd, zcb_bdq, zcx_let, zcx_letq, zcx_cp, lc_fX10_keywordKind, lc_fX10_scanWord_L63]
theorem lc_fX10_scanWord_L2 {B : zMem} (N : Nat) : ∀ (n : Nat) (z0 : Int32) (A : zMem), fX10_scanWord_L2 N n z0 (zmx A B) = zcq B (fX10_scanWord_L2 N n z0 A) := by
  intro n
  induction n with
  | zero => intros; rfl
  | succ n ih =>
    intro z0 A
    simp (maxSteps := 2000000) (disch := first | assumption | decide | omega) only [fX10_scanWord_L2, zmx_1c, zmx_2c, zmx_R, zcx_ldI, zcx_ldJ, zcx_stI, zcx_stJ, zcx_stB, zcx_stZ, zcx_pI, zcx_pJ, zcx_pR, zcp_zb2, zcp_bd, zcq_zb2, zcq_bd, zcp_if, zcq_if, zcp_some, zcq_some, zcp_none, zcq_none, zcp_let, zcq_let, zcp_gb, zcq_gb, zcb_zb2, zcb_zb2q, zcb_bd, zcb_bdq, zcx_let, zcx_letq, zcx_cp, lc_fX10_scanWord_L39, lc_fX8_byteAt, lc_fX10_isLetter, ih]
theorem lc_fX10_scanWord {B : zMem} (N : Nat) (A : zMem) : fX10_scanWord N (zmx A B) = zcq B (fX10_scanWord N A) := by
  unfold fX10_scanWord
  simp (maxSteps := 2000000) (disch := first | assumption | decide | omega) only [zmx_1c, zmx_2c, zmx_R, zcx_ldI, zcx_ldJ, zcx_stI, zcx_stJ, zcx_stB, zcx_stZ, zcx_pI, zcx_pJ, zcx_pR, zcp_zb2, zcp_bd, zcq_zb2, zcq_bd, zcp_if, zcq_if, zcp_some, zcq_some, zcp_none, zcq_none, zcp_let, zcq_let, zcp_gb, zcq_gb, zcb_zb2, zcb_zb2q, zcb_bd, zcb_bdq, zcx_let, zcx_letq, zcx_cp, lc_fX10_scanWord_L2]
theorem lc_fX10_isBlank_L24 {B : zMem} (A : zMem) : fX10_isBlank_L24  (zmx A B) = zcp B (fX10_isBlank_L24  A) := by
  unfold fX10_isBlank_L24
  simp (maxSteps := 2000000) (disch := first | assumption | decide | omega) only [zmx_1c, zmx_2c, zmx_R, zcx_ldI, zcx_ldJ, zcx_stI, zcx_stJ, zcx_stB, zcx_stZ, zcx_pI, zcx_pJ, zcx_pR, zcp_zb2, zcp_bd, zcq_zb2, zcq_bd, zcp_if, zcq_if, zcp_some, zcq_some, zcp_none, zcq_none, zcp_let, zcq_let, zcp_gb, zcq_gb, zcb_zb2, zcb_zb2q, zcb_bd, zcb_bdq, zcx_let, zcx_letq, zcx_cp]
theorem lc_fX10_isBlank {B : zMem} (x0 : Int32) (A : zMem) : fX10_isBlank x0 (zmx A B) = zcp B (fX10_isBlank x0 A) := by
  unfold fX10_isBlank
  simp (maxSteps := 2000000) (disch := first | assumption | decide | omega) only [zmx_1c, zmx_2c, zmx_R, zcx_ldI, zcx_ldJ, zcx_stI, zcx_stJ, zcx_stB, zcx_stZ, zcx_pI, zcx_pJ, zcx_pR, zcp_zb2, zcp_bd, zcq_zb2, zcq_bd, zcp_if, zcq_if, zcp_some, zcq_some, zcp_none, zcq_none, zcp_let, zcq_let, zcp_gb, zcq_gb, zcb_zb2, zcb_zb2q, zcb_bd, zcb_bdq, zcx_let, zcx_letq, zcx_cp, lc_fX10_isBlank_L24]
theorem lc_fX10_skipBlanks_L2 {B : zMem} (N : Nat) : ∀ (n : Nat) (z0 : Int32) (A : zMem), fX10_skipBlanks_L2 N n z0 (zmx A B) = zcq B (fX10_skipBlanks_L2 N n z0 A) := by
  intro n
  induction n with
  | zero => intros; rfl
  | succ n ih =>
    intro z0 A
    simp (maxSteps := 2000000) (disch := first | assumption | decide | omega) only [fX10_skipBlanks_L2, zmx_1c, zmx_2c, zmx_R, zcx_ldI, zcx_ldJ, zcx_stI, zcx_stJ, zcx_stB, zcx_stZ, zcx_pI, zcx_pJ, zcx_pR, zcp_zb2, zcp_bd, zcq_zb2, zcq_bd, zcp_if, zcq_if, zcp_some, zcq_some, zcp_none, zcq_none, zcp_let, zcq_let, zcp_gb, zcq_gb, zcb_zb2, zcb_zb2q, zcb_bd, zcb_bdq, zcx_let, zcx_letq, zcx_cp, lc_fX8_byteAt, lc_fX10_isBlank, ih]
theorem lc_fX10_skipBlanks {B : zMem} (N : Nat) (A : zMem) : fX10_skipBlanks N (zmx A B) = zcq B (fX10_skipBlanks N A) := by
  unfold fX10_skipBlanks
  simp (maxSteps := 2000000) (disch := first | assumption | decide | omega) only [zmx_1c, zmx_2c, zmx_R, zcx_ldI, zcx_ldJ, zcx_stI, zcx_stJ, zcx_stB, zcx_stZ, zcx_pI, zcx_pJ, zcx_pR, zcp_zb2, zcp_bd, zcq_zb2, zcq_bd, zcp_if, zcq_if, zcp_some, zcq_some, zcp_none, zcq_none, zcp_let, zcq_let, zcp_gb, zcq_gb, zcb_zb2, zcb_zb2q, zcb_bd, zcb_bdq, zcx_let, zcx_letq, zcx_cp, lc_fX10_skipBlanks_L2]
theorem lc_fX10_scan {B : zMem} (N : Nat) (A : zMem) : fX10_scan N (zmx A B) = zcq B (fX10_scan N A) := by
  unfold fX10_scan
  simp (maxSteps := 2000000) (disch := first | assumption | decide | omega) only [zmx_1c, zmx_2c, zmx_R, zcx_ldI, zcx_ldJ, zcx_stI, zcx_stJ, zcx_stB, zcx_stZ, zcx_pI, zcx_pJ, zcx_pR, zcp_zb2, zcp_bd, zcq_zb2, zcq_bd, zcp_if, zcq_if, zcp_some, zcq_some, zcp_none, zcq_none, zcp_let, zcq_let, zcp_gb, zcq_gb, zcb_zb2, zcb_zb2q, zcb_bd, zcb_bdq, zcx_let, zcx_letq, zcx_cp, lc_fX10_skipBlanks, lc_fX8_byteAt, lc_fX10_isLetter, lc_fX10_isDigit, lc_fX10_scanSign, lc_fX10_scanNumber, lc_fX10_scanWord]
theorem lc_fX10_start {B : zMem} (A : zMem) : fX10_start  (zmx A B) = zcp B (fX10_start  A) := by
  unfold fX10_start
  simp (maxSteps := 2000000) (disch := first | assumption | decide | omega) only [zmx_1c, zmx_2c, zmx_R, zcx_ldI, zcx_ldJ, zcx_stI, zcx_stJ, zcx_stB, zcx_stZ, zcx_pI, zcx_pJ, zcx_pR, zcp_zb2, zcp_bd, zcq_zb2, zcq_bd, zcp_if, zcq_if, zcp_some, zcq_some, zcp_none, zcq_none, zcp_let, zcq_let, zcp_gb, zcq_gb, zcb_zb2, zcb_zb2q, zcb_bd, zcb_bdq, zcx_let, zcx_letq, zcx_cp]
theorem lc_fX10_value {B : zMem} (A : zMem) : fX10_value  (zmx A B) = zcp B (fX10_value  A) := by
  unfold fX10_value
  simp (maxSteps := 2000000) (disch := first | assumption | decide | omega) only [zmx_1c, zmx_2c, zmx_R, zcx_ldI, zcx_ldJ, zcx_stI, zcx_stJ, zcx_stB, zcx_stZ, zcx_pI, zcx_pJ, zcx_pR, zcp_zb2, zcp_bd, zcq_zb2, zcq_bd, zcp_if, zcq_if, zcp_some, zcq_some, zcp_none, zcq_none, zcp_let, zcq_let, zcp_gb, zcq_gb, zcb_zb2, zcb_zb2q, zcb_bd, zcb_bdq, zcx_let, zcx_letq, zcx_cp]
theorem lc_fX10_restart {B : zMem} (A : zMem) : fX10_restart  (zmx A B) = zcq B (fX10_restart  A) := by
  unfold fX10_restart
  simp (maxSteps := 2000000) (disch := first | assumption | decide | omega) only [zmx_1c, zmx_2c, zmx_R, zcx_ldI, zcx_ldJ, zcx_stI, zcx_stJ, zcx_stB, zcx_stZ, zcx_pI, zcx_pJ, zcx_pR, zcp_zb2, zcp_bd, zcq_zb2, zcq_bd, zcp_if, zcq_if, zcp_some, zcq_some, zcp_none, zcq_none, zcp_let, zcq_let, zcp_gb, zcq_gb, zcb_zb2, zcb_zb2q, zcb_bd, zcb_bdq, zcx_let, zcx_letq, zcx_cp]
theorem lc_fX6_clear {B : zMem} (r0 : Nat) (hr : r0 = 3 ∨ r0 = 11) (A : zMem) : fX6_clear r0 (zmx A B) = zcq B (fX6_clear r0 A) := by
  unfold fX6_clear
  simp (maxSteps := 2000000) (disch := first | assumption | decide | omega) only [zmx_1c, zmx_2c, zmx_R, zcx_ldI, zcx_ldJ, zcx_stI, zcx_stJ, zcx_stB, zcx_stZ, zcx_pI, zcx_pJ, zcx_pR, zcp_zb2, zcp_bd, zcq_zb2, zcq_bd, zcp_if, zcq_if, zcp_some, zcq_some, zcp_none, zcq_none, zcp_let, zcq_let, zcp_gb, zcq_gb, zcb_zb2, zcb_zb2q, zcb_bd, zcb_bdq, zcx_let, zcx_letq, zcx_cp]
theorem lcd_fX6_clear {B : zMem} (r0 : Nat) (A : zMem) : zdy r0 (fX6_clear r0 (zmx A B)) = zcq B (zdy r0 (fX6_clear r0 A)) := zcd_q fun q => lc_fX6_clear _ q A
theorem lc_fX5_prepare {B : zMem} (x1 : Nat) (A : zMem) : fX5_prepare x1 (zmx A B) = zcq B (fX5_prepare x1 A) := by
  unfold fX5_prepare
  simp (maxSteps := 2000000) (disch := first | assumption | decide | omega) only [zmx_1c, zmx_2c, zmx_R, zcx_ldI, zcx_ldJ, zcx_stI, zcx_stJ, zcx_stB, zcx_stZ, zcx_pI, zcx_pJ, zcx_pR, zcp_zb2, zcp_bd, zcq_zb2, zcq_bd, zcp_if, zcq_if, zcp_some, zcq_some, zcp_none, zcq_none, zcp_let, zcq_let, zcp_gb, zcq_gb, zcb_zb2, zcb_zb2q, zcb_bd, zcb_bdq, zcx_let, zcx_letq, zcx_cp, lc_fX6_clear, lc_fX10_restart, lcd_fX6_clear]
theorem lc_fX5_rankOf {B : zMem} (x0 : Int32) (A : zMem) : fX5_rankOf x0 (zmx A B) = zcp B (fX5_rankOf x0 A) := by
  unfold fX5_rankOf
  simp (maxSteps := 2000000) (disch := first | assumption | decide | omega) only [zmx_1c, zmx_2c, zmx_R, zcx_ldI, zcx_ldJ, zcx_stI, zcx_stJ, zcx_stB, zcx_stZ, zcx_pI, zcx_pJ, zcx_pR, zcp_zb2, zcp_bd, zcq_zb2, zcq_bd, zcp_if, zcq_if, zcp_some, zcq_some, zcp_none, zcq_none, zcp_let, zcq_let, zcp_gb, zcq_gb, zcb_zb2, zcb_zb2q, zcb_bd, zcb_bdq, zcx_let, zcx_letq, zcx_cp]
theorem lc_fX5_isArithmetic {B : zMem} (x0 : Int32) (A : zMem) : fX5_isArithmetic x0 (zmx A B) = zcp B (fX5_isArithmetic x0 A) := by
  unfold fX5_isArithmetic
  simp (maxSteps := 2000000) (disch := first | assumption | decide | omega) only [zmx_1c, zmx_2c, zmx_R, zcx_ldI, zcx_ldJ, zcx_stI, zcx_stJ, zcx_stB, zcx_stZ, zcx_pI, zcx_pJ, zcx_pR, zcp_zb2, zcp_bd, zcq_zb2, zcq_bd, zcp_if, zcq_if, zcp_some, zcq_some, zcp_none, zcq_none, zcp_let, zcq_let, zcp_gb, zcq_gb, zcb_zb2, zcb_zb2q, zcb_bd, zcb_bdq, zcx_let, zcx_letq, zcx_cp, lc_fX5_rankOf]
theorem lc_fX5_push {B : zMem} (x1 : Int32) (A : zMem) : fX5_push x1 (zmx A B) = zcq B (fX5_push x1 A) := by
  unfold fX5_push
  simp (maxSteps := 2000000) (disch := first | assumption | decide | omega) only [zmx_1c, zmx_2c, zmx_R, zcx_ldI, zcx_ldJ, zcx_stI, zcx_stJ, zcx_stB, zcx_stZ, zcx_pI, zcx_pJ, zcx_pR, zcp_zb2, zcp_bd, zcq_zb2, zcq_bd, zcp_if, zcq_if, zcp_some, zcq_some, zcp_none, zcq_none, zcp_let, zcq_let, zcp_gb, zcq_gb, zcb_zb2, zcb_zb2q, zcb_bd, zcb_bdq, zcx_let, zcx_letq, zcx_cp]
theorem lc_fX6_beginCondition {B : zMem} (r0 : Nat) (hr : r0 = 3 ∨ r0 = 11) (A : zMem) : fX6_beginCondition r0 (zmx A B) = zcq B (fX6_beginCondition r0 A) := by
  unfold fX6_beginCondition
  simp (maxSteps := 2000000) (disch := first | assumption | decide | omega) only [zmx_1c, zmx_2c, zmx_R, zcx_ldI, zcx_ldJ, zcx_stI, zcx_stJ, zcx_stB, zcx_stZ, zcx_pI, zcx_pJ, zcx_pR, zcp_zb2, zcp_bd, zcq_zb2, zcq_bd, zcp_if, zcq_if, zcp_some, zcq_some, zcp_none, zcq_none, zcp_let, zcq_let, zcp_gb, zcq_gb, zcb_zb2, zcb_zb2q, zcb_bd, zcb_bdq, zcx_let, zcx_letq, zcx_cp]
theorem lcd_fX6_beginCondition {B : zMem} (r0 : Nat) (A : zMem) : zdy r0 (fX6_beginCondition r0 (zmx A B)) = zcq B (zdy r0 (fX6_beginCondition r0 A)) := zcd_q fun q => lc_fX6_beginCondition _ q A
theorem lc_fX5_beginCondition {B : zMem} (A : zMem) : fX5_beginCondition  (zmx A B) = zcq B (fX5_beginCondition  A) := by
  unfold fX5_beginCondition
  simp (maxSteps := 2000000) (disch := first | assumption | decide | omega) only [zmx_1c, zmx_2c, zmx_R, zcx_ldI, zcx_ldJ, zcx_stI, zcx_stJ, zcx_stB, zcx_stZ, zcx_pI, zcx_pJ, zcx_pR, zcp_zb2, zcp_bd, zcq_zb2, zcq_bd, zcp_if, zcq_if, zcp_some, zcq_some, zcp_none, zcq_none, zcp_let, zcq_let, zcp_gb, zcq_gb, zcb_zb2, zcb_zb2q, zcb_bd, zcb_bdq, zcx_let, zcx_letq, zcx_cp, lc_fX6_beginCondition, lcd_fX6_beginCondition]
theorem lc_fX6_end {B : zMem} (r0 : Nat) (hr : r0 = 3 ∨ r0 = 11) (A : zMem) : fX6_end r0 (zmx A B) = zcq B (fX6_end r0 A) := by
  unfold fX6_end
  simp (maxSteps := 2000000) (disch := first | assumption | decide | omega) only [zmx_1c, zmx_2c, zmx_R, zcx_ldI, zcx_ldJ, zcx_stI, zcx_stJ, zcx_stB, zcx_stZ, zcx_pI, zcx_pJ, zcx_pR, zcp_zb2, zcp_bd, zcq_zb2, zcq_bd, zcp_if, zcq_if, zcp_some, zcq_some, zcp_none, zcq_none, zcp_let, zcq_let, zcp_gb, zcq_gb, zcb_zb2, zcb_zb2q, zcb_bd, zcb_bdq, zcx_let, zcx_letq, zcx_cp]
theorem lcd_fX6_end {B : zMem} (r0 : Nat) (A : zMem) : zdy r0 (fX6_end r0 (zmx A B)) = zcq B (zdy r0 (fX6_end r0 A)) := zcd_q fun q => lc_fX6_end _ q A
theorem lc_fX5_endRule {B : zMem} (A : zMem) : fX5_endRule  (zmx A B) = zcq B (fX5_endRule  A) := by
  unfold fX5_endRule
  simp (maxSteps := 2000000) (disch := first | assumption | decide | omega) only [zmx_1c, zmx_2c, zmx_R, zcx_ldI, zcx_ldJ, zcx_stI, zcx_stJ, zcx_stB, zcx_stZ, zcx_pI, zcx_pJ, zcx_pR, zcp_zb2, zcp_bd, zcq_zb2, zcq_bd, zcp_if, zcq_if, zcp_some, zcq_some, zcp_none, zcq_none, zcp_let, zcq_let, zcp_gb, zcq_gb, zcb_zb2, zcb_zb2q, zcb_bd, zcb_bdq, zcx_let, zcx_letq, zcx_cp, lc_fX6_end, lcd_fX6_end]
theorem lc_fX6_write {B : zMem} (r0 : Nat) (x1 : Int32) (x2 : Int32) (hr : r0 = 3 ∨ r0 = 11) (A : zMem) : fX6_write r0 x1 x2 (zmx A B) = zcq B (fX6_write r0 x1 x2 A) := by
  unfold fX6_write
  simp (maxSteps := 2000000) (disch := first | assumption | decide | omega) only [zmx_1c, zmx_2c, zmx_R, zcx_ldI, zcx_ldJ, zcx_stI, zcx_stJ, zcx_stB, zcx_stZ, zcx_pI, zcx_pJ, zcx_pR, zcp_zb2, zcp_bd, zcq_zb2, zcq_bd, zcp_if, zcq_if, zcp_some, zcq_some, zcp_none, zcq_none, zcp_let, zcq_let, zcp_gb, zcq_gb, zcb_zb2, zcb_zb2q, zcb_bd, zcb_bdq, zcx_let, zcx_letq, zcx_cp]
theorem lcd_fX6_write {B : zMem} (r0 : Nat) (x1 : Int32) (x2 : Int32) (A : zMem) : zdy r0 (fX6_write r0 x1 x2 (zmx A B)) = zcq B (zdy r0 (fX6_write r0 x1 x2 A)) := zcd_q fun q => lc_fX6_write _ _ _ q A
theorem lc_fX5_writeOperators_L7 {B : zMem} (N : Nat) : ∀ (n : Nat) (z0 : Int32) (z1 : Int32) (A : zMem), fX5_writeOperators_L7 N n z0 z1 (zmx A B) = zcq B (fX5_writeOperators_L7 N n z0 z1 A) := by
  intro n
  induction n with
  | zero => intros; rfl
  | succ n ih =>
    intro z0 z1 A
    simp (maxSteps := 2000000) (disch := first | assumption | decide | omega) only [fX5_writeOperators_L7, zmx_1c, zmx_2c, zmx_R, zcx_ldI, zcx_ldJ, zcx_stI, zcx_stJ, zcx_stB, zcx_stZ, zcx_pI, zcx_pJ, zcx_pR, zcp_zb2, zcp_bd, zcq_zb2, zcq_bd, zcp_if, zcq_if, zcp_some, zcq_some, zcp_none, zcq_none, zcp_let, zcq_let, zcp_gb, zcq_gb, zcb_zb2, zcb_zb2q, zcb_bd, zcb_bdq, zcx_let, zcx_letq, zcx_cp, lc_fX5_rankOf, lc_fX6_write, lcd_fX6_write, ih]
theorem lc_fX5_writeOperators {B : zMem} (N : Nat) (x1 : Int32) (A : zMem) : fX5_writeOperators N x1 (zmx A B) = zcq B (fX5_writeOperators N x1 A) := by
  unfold fX5_writeOperators
  simp (maxSteps := 2000000) (disch := first | assumption | decide | omega) only [zmx_1c, zmx_2c, zmx_R, zcx_ldI, zcx_ldJ, zcx_stI, zcx_stJ, zcx_stB, zcx_stZ, zcx_pI, zcx_pJ, zcx_pR, zcp_zb2, zcp_bd, zcq_zb2, zcq_bd, zcp_if, zcq_if, zcp_some, zcq_some, zcp_none, zcq_none, zcp_let, zcq_let, zcp_gb, zcq_gb, zcb_zb2, zcb_zb2q, zcb_bd, zcb_bdq, zcx_let, zcx_letq, zcx_cp, lc_fX5_writeOperators_L7]
theorem lc_fX5_takeBehindFirst_L14 {B : zMem} (N : Nat) (x1 : Int32) (A : zMem) : fX5_takeBehindFirst_L14 N x1 (zmx A B) = zcp B (fX5_takeBehindFirst_L14 N x1 A) := by
  unfold fX5_takeBehindFirst_L14
  simp (maxSteps := 2000000) (disch := first | assumption | decide | omega) only [zmx_1c, zmx_2c, zmx_R, zcx_ldI, zcx_ldJ, zcx_stI, zcx_stJ, zcx_stB, zcx_stZ, zcx_pI, zcx_pJ, zcx_pR, zcp_zb2, zcp_bd, zcq_zb2, zcq_bd, zcp_if, zcq_if, zcp_some, zcq_some, zcp_none, zcq_none, zcp_let, zcq_let, zcp_gb, zcq_gb, zcb_zb2, zcb_zb2q, zcb_bd, zcb_bdq, zcx_let, zcx_letq, zcx_cp, lc_fX5_writeOperators, lc_fX5_beginCondition, lc_fX6_beginCondition, lc_fX5_endRule, lcd_fX6_beginCondition]
theorem lc_fX5_takeBehindFirst {B : zMem} (N : Nat) (x1 : Int32) (A : zMem) : fX5_takeBehindFirst N x1 (zmx A B) = zcp B (fX5_takeBehindFirst N x1 A) := by
  unfold fX5_takeBehindFirst
  simp (maxSteps := 2000000) (disch := first | assumption | decide | omega) only [zmx_1c, zmx_2c, zmx_R, zcx_ldI, zcx_ldJ, zcx_stI, zcx_stJ, zcx_stB, zcx_stZ, zcx_pI, zcx_pJ, zcx_pR, zcp_zb2, zcp_bd, zcq_zb2, zcq_bd, zcp_if, zcq_if, zcp_some, zcq_some, zcp_none, zcq_none, zcp_let, zcq_let, zcp_gb, zcq_gb, zcb_zb2, zcb_zb2q, zcb_bd, zcb_bdq, zcx_let, zcx_letq, zcx_cp, lc_fX5_takeBehindFirst_L14]
theorem lc_fX5_takeBehindRelation_L48 {B : zMem} (N : Nat) (x1 : Int32) (A : zMem) : fX5_takeBehindRelation_L48 N x1 (zmx A B) = zcp B (fX5_takeBehindRelation_L48 N x1 A) := by
  unfold fX5_takeBehindRelation_L48
  simp (maxSteps := 2000000) (disch := first | assumption | decide | omega) only [zmx_1c, zmx_2c, zmx_R, zcx_ldI, zcx_ldJ, zcx_stI, zcx_stJ, zcx_stB, zcx_stZ, zcx_pI, zcx_pJ, zcx_pR, zcp_zb2, zcp_bd, zcq_zb2, zcq_bd, zcp_if, zcq_if, zcp_some, zcq_some, zcp_none, zcq_none, zcp_let, zcq_let, zcp_gb, zcq_gb, zcb_zb2, zcb_zb2q, zcb_bd, zcb_bdq, zcx_let, zcx_letq, zcx_cp, lc_fX5_endRule]
theorem lc_fX5_takeBehindRelation_L14 {B : zMem} (N : Nat) (x1 : Int32) (A : zMem) : fX5_takeBehindRelation_L14 N x1 (zmx A B) = zcp B (fX5_takeBehindRelation_L14 N x1 A) := by
  unfold fX5_takeBehindRelation_L14
  simp (maxSteps := 2000000) (disch := first | assumption | decide | omega) only [zmx_1c, zmx_2c, zmx_R, zcx_ldI, zcx_ldJ, zcx_stI, zcx_stJ, zcx_stB, zcx_stZ, zcx_pI, zcx_pJ, zcx_pR, zcp_zb2, zcp_bd, zcq_zb2, zcq_bd, zcp_if, zcq_if, zcp_some, zcq_some, zcp_none, zcq_none, zcp_let, zcq_let, zcp_gb, zcq_gb, zcb_zb2, zcb_zb2q, zcb_bd, zcb_bdq, zcx_let, zcx_letq, zcx_cp, lc_fX5_writeOperators, lc_fX6_write, lc_fX5_takeBehindRelation_L48, lcd_fX6_write]
theorem lc_fX5_takeBehindRelation {B : zMem} (N : Nat) (x1 : Int32) (A : zMem) : fX5_takeBehindRelation N x1 (zmx A B) = zcp B (fX5_takeBehindRelation N x1 A) := by
  unfold fX5_takeBehindRelation
  simp (maxSteps := 2000000) (disch := first | assumption | decide | omega) only [zmx_1c, zmx_2c, zmx_R, zcx_ldI, zcx_ldJ, zcx_stI, zcx_stJ, zcx_stB, zcx_stZ, zcx_pI, zcx_pJ, zcx_pR, zcp_zb2, zcp_bd, zcq_zb2, zcq_bd, zcp_if, zcq_if, zcp_some, zcq_some, zcp_none, zcq_none, zcp_let, zcq_let, zcp_gb, zcq_gb, zcb_zb2, zcb_zb2q, zcb_bd, zcb_bdq, zcx_let, zcx_letq, zcx_cp, lc_fX5_takeBehindRelation_L14]
theorem lc_fX5_takeClose_L30 {B : zMem} (N : Nat) (A : zMem) : fX5_takeClose_L30 N (zmx A B) = zcp B (fX5_takeClose_L30 N A) := by
  unfold fX5_takeClose_L30
  simp (maxSteps := 2000000) (disch := first | assumption | decide | omega) only [zmx_1c, zmx_2c, zmx_R, zcx_ldI, zcx_ldJ, zcx_stI, zcx_stJ, zcx_stB, zcx_stZ, zcx_pI, zcx_pJ, zcx_pR, zcp_zb2, zcp_bd, zcq_zb2, zcq_bd, zcp_if, zcq_if, zcp_some, zcq_some, zcp_none, zcq_none, zcp_let, zcq_let, zcp_gb, zcq_gb, zcb_zb2, zcb_zb2q, zcb_bd, zcb_bdq, zcx_let, zcx_letq, zcx_cp]
theorem lc_fX5_takeClose {B : zMem} (N : Nat) (x1 : Int32) (A : zMem) : fX5_takeClose N x1 (zmx A B) = zcp B (fX5_takeClose N x1 A) := by
  unfold fX5_takeClose
  simp (maxSteps := 2000000) (disch := first | assumption | decide | omega) only [zmx_1c, zmx_2c, zmx_R, zcx_ldI, zcx_ldJ, zcx_stI, zcx_stJ, zcx_stB, zcx_stZ, zcx_pI, zcx_pJ, zcx_pR, zcp_zb2, zcp_bd, zcq_zb2, zcq_bd, zcp_if, zcq_if, zcp_some, zcq_some, zcp_none, zcq_none, zcp_let, zcq_let, zcp_gb, zcq_gb, zcb_zb2, zcb_zb2q, zcb_bd, zcb_bdq, zcx_let, zcx_letq, zcx_cp, lc_fX5_writeOperators, lc_fX5_takeClose_L30]
theorem lc_fX11_isWithin {B : zMem} (x0 : Int32) (x1 : Int32) (x2 : Int32) (A : zMem) : fX11_isWithin x0 x1 x2 (zmx A B) = zcp B (fX11_isWithin x0 x1 x2 A) := by
  unfold fX11_isWithin
  simp (maxSteps := 2000000) (disch := first | assumption | decide | omega) only [zmx_1c, zmx_2c, zmx_R, zcx_ldI, zcx_ldJ, zcx_stI, zcx_stJ, zcx_stB, zcx_stZ, zcx_pI, zcx_pJ, zcx_pR, zcp_zb2, zcp_bd, zcq_zb2, zcq_bd, zcp_if, zcq_if, zcp_some, zcq_some, zcp_none, zcq_none, zcp_let, zcq_let, zcp_gb, zcq_gb, zcb_zb2, zcb_zb2q, zcb_bd, zcb_bdq, zcx_let, zcx_letq, zcx_cp]
theorem lc_fX5_isRelation {B : zMem} (x0 : Int32) (A : zMem) : fX5_isRelation x0 (zmx A B) = zcp B (fX5_isRelation x0 A) := by
  unfold fX5_isRelation
  simp (maxSteps := 2000000) (disch := first | assumption | decide | omega) only [zmx_1c, zmx_2c, zmx_R, zcx_ldI, zcx_ldJ, zcx_stI, zcx_stJ, zcx_stB, zcx_stZ, zcx_pI, zcx_pJ, zcx_pR, zcp_zb2, zcp_bd, zcq_zb2, zcq_bd, zcp_if, zcq_if, zcp_some, zcq_some, zcp_none, zcq_none, zcp_let, zcq_let, zcp_gb, zcq_gb, zcb_zb2, zcb_zb2q, zcb_bd, zcb_bdq, zcx_let, zcx_letq, zcx_cp, lc_fX11_isWithin]
theorem lc_fX5_takeRelation {B : zMem} (N : Nat) (x1 : Int32) (A : zMem) : fX5_takeRelation N x1 (zmx A B) = zcp B (fX5_takeRelation N x1 A) := by
  unfold fX5_takeRelation
  simp (maxSteps := 2000000) (disch := first | assumption | decide | omega) only [zmx_1c, zmx_2c, zmx_R, zcx_ldI, zcx_ldJ, zcx_stI, zcx_stJ, zcx_stB, zcx_stZ, zcx_pI, zcx_pJ, zcx_pR, zcp_zb2, zcp_bd, zcq_zb2, zcq_bd, zcp_if, zcq_if, zcp_some, zcq_some, zcp_none, zcq_none, zcp_let, zcq_let, zcp_gb, zcq_gb, zcb_zb2, zcb_zb2q, zcb_bd, zcb_bdq, zcx_let, zcx_letq, zcx_cp, lc_fX5_isRelation, lc_fX5_writeOperators]
theorem lc_fX5_takeBehindOperand {B : zMem} (N : Nat) (x1 : Int32) (A : zMem) : fX5_takeBehindOperand N x1 (zmx A B) = zcp B (fX5_takeBehindOperand N x1 A) := by
  unfold fX5_takeBehindOperand
  simp (maxSteps := 2000000) (disch := first | assumption | decide | omega) only [zmx_1c, zmx_2c, zmx_R, zcx_ldI, zcx_ldJ, zcx_stI, zcx_stJ, zcx_stB, zcx_stZ, zcx_pI, zcx_pJ, zcx_pR, zcp_zb2, zcp_bd, zcq_zb2, zcq_bd, zcp_if, zcq_if, zcp_some, zcq_some, zcp_none, zcq_none, zcp_let, zcq_let, zcp_gb, zcq_gb, zcb_zb2, zcb_zb2q, zcb_bd, zcb_bdq, zcx_let, zcx_letq, zcx_cp, lc_fX5_isArithmetic, lc_fX5_takeBehindFirst, lc_fX5_takeRelation, lc_fX5_takeBehindRelation, lc_fX5_takeClose, lc_fX5_rankOf, lc_fX5_writeOperators, lc_fX5_push]
theorem lc_fX5_takeIf {B : zMem} (x1 : Int32) (A : zMem) : fX5_takeIf x1 (zmx A B) = zcp B (fX5_takeIf x1 A) := by
  unfold fX5_takeIf
  simp (maxSteps := 2000000) (disch := first | assumption | decide | omega) only [zmx_1c, zmx_2c, zmx_R, zcx_ldI, zcx_ldJ, zcx_stI, zcx_stJ, zcx_stB, zcx_stZ, zcx_pI, zcx_pJ, zcx_pR, zcp_zb2, zcp_bd, zcq_zb2, zcq_bd, zcp_if, zcq_if, zcp_some, zcq_some, zcp_none, zcq_none, zcp_let, zcq_let, zcp_gb, zcq_gb, zcb_zb2, zcb_zb2q, zcb_bd, zcb_bdq, zcx_let, zcx_letq, zcx_cp, lc_fX5_beginCondition]
theorem lc_fX6_lastKind {B : zMem} (r0 : Nat) (hr : r0 = 3 ∨ r0 = 11) (A : zMem) : fX6_lastKind r0 (zmx A B) = zcp B (fX6_lastKind r0 A) := by
  unfold fX6_lastKind
  simp (maxSteps := 2000000) (disch := first | assumption | decide | omega) only [zmx_1c, zmx_2c, zmx_R, zcx_ldI, zcx_ldJ, zcx_stI, zcx_stJ, zcx_stB, zcx_stZ, zcx_pI, zcx_pJ, zcx_pR, zcp_zb2, zcp_bd, zcq_zb2, zcq_bd, zcp_if, zcq_if, zcp_some, zcq_some, zcp_none, zcq_none, zcp_let, zcq_let, zcp_gb, zcq_gb, zcb_zb2, zcb_zb2q, zcb_bd, zcb_bdq, zcx_let, zcx_letq, zcx_cp, lc_fX6_kindOf]
theorem lcd_fX6_lastKind {B : zMem} (r0 : Nat) (A : zMem) : zdy r0 (fX6_lastKind r0 (zmx A B)) = zcp B (zdy r0 (fX6_lastKind r0 A)) := zcd_p fun q => lc_fX6_lastKind _ q A
theorem lc_fX6_setNumber {B : zMem} (r0 : Nat) (x1 : Int32) (hr : r0 = 3 ∨ r0 = 11) (A : zMem) : fX6_setNumber r0 x1 (zmx A B) = zcq B (fX6_setNumber r0 x1 A) := by
  unfold fX6_setNumber
  simp (maxSteps := 2000000) (disch := first | assumption | decide | omega) only [zmx_1c, zmx_2c, zmx_R, zcx_ldI, zcx_ldJ, zcx_stI, zcx_stJ, zcx_stB, zcx_stZ, zcx_pI, zcx_pJ, zcx_pR, zcp_zb2, zcp_bd, zcq_zb2, zcq_bd, zcp_if, zcq_if, zcp_some, zcq_some, zcp_none, zcq_none, zcp_let, zcq_let, zcp_gb, zcq_gb, zcb_zb2, zcb_zb2q, zcb_bd, zcb_bdq, zcx_let, zcx_letq, zcx_cp]
theorem lcd_fX6_setNumber {B : zMem} (r0 : Nat) (x1 : Int32) (A : zMem) : zdy r0 (fX6_setNumber r0 x1 (zmx A B)) = zcq B (zdy r0 (fX6_setNumber r0 x1 A)) := zcd_q fun q => lc_fX6_setNumber _ _ q A
theorem lc_fX5_takeNumber_L76 {B : zMem} (x2 : Int32) (A : zMem) : fX5_takeNumber_L76 x2 (zmx A B) = zcp B (fX5_takeNumber_L76 x2 A) := by
  unfold fX5_takeNumber_L76
  simp (maxSteps := 2000000) (disch := first | assumption | decide | omega) only [zmx_1c, zmx_2c, zmx_R, zcx_ldI, zcx_ldJ, zcx_stI, zcx_stJ, zcx_stB, zcx_stZ, zcx_pI, zcx_pJ, zcx_pR, zcp_zb2, zcp_bd, zcq_zb2, zcq_bd, zcp_if, zcq_if, zcp_some, zcq_some, zcp_none, zcq_none, zcp_let, zcq_let, zcp_gb, zcq_gb, zcb_zb2, zcb_zb2q, zcb_bd, zcb_bdq, zcx_let, zcx_letq, zcx_cp, lc_fX6_setNumber, lcd_fX6_setNumber]
theorem lc_fX5_takeNumber_L50 {B : zMem} (x2 : Int32) (s0 : Int32) (A : zMem) : fX5_takeNumber_L50 x2 s0 (zmx A B) = zcp B (fX5_takeNumber_L50 x2 s0 A) := by
  unfold fX5_takeNumber_L50
  simp (maxSteps := 2000000) (disch := first | assumption | decide | omega) only [zmx_1c, zmx_2c, zmx_R, zcx_ldI, zcx_ldJ, zcx_stI, zcx_stJ, zcx_stB, zcx_stZ, zcx_pI, zcx_pJ, zcx_pR, zcp_zb2, zcp_bd, zcq_zb2, zcq_bd, zcp_if, zcq_if, zcp_some, zcq_some, zcp_none, zcq_none, zcp_let, zcq_let, zcp_gb, zcq_gb, zcb_zb2, zcb_zb2q, zcb_bd, zcb_bdq, zcx_let, zcx_letq, zcx_cp, lc_fX10_start, lc_fX5_takeNumber_L76]
theorem lc_fX5_takeNumber_L24 {B : zMem} (x2 : Int32) (s0 : Int32) (A : zMem) : fX5_takeNumber_L24 x2 s0 (zmx A B) = zcp B (fX5_takeNumber_L24 x2 s0 A) := by
  unfold fX5_takeNumber_L24
  simp (maxSteps := 2000000) (disch := first | assumption | decide | omega) only [zmx_1c, zmx_2c, zmx_R, zcx_ldI, zcx_ldJ, zcx_stI, zcx_stJ, zcx_stB, zcx_stZ, zcx_pI, zcx_pJ, zcx_pR, zcp_zb2, zcp_bd, zcq_zb2, zcq_bd, zcp_if, zcq_if, zcp_some, zcq_some, zcp_none, zcq_none, zcp_let, zcq_let, zcp_gb, zcq_gb, zcb_zb2, zcb_zb2q, zcb_bd, zcb_bdq, zcx_let, zcx_letq, zcx_cp, lc_fX5_takeNumber_L50, lc_fX11_isWithin]
