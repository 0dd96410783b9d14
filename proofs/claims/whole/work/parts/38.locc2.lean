theorem lc_fX5_takeNumber {B : zMem} (x1 : Int32) (x2 : Int32) (A : zMem) : fX5_takeNumber x1 x2 (zmx A B) = zcp B (fX5_takeNumber x1 x2 A) := by
  unfold fX5_takeNumber
  simp (maxSteps := 2000000) (disch := first | assumption | decide | omega) only [zmx_1c, zmx_2c, zmx_R, zcx_ldI, zcx_ldJ, zcx_stI, zcx_stJ, zcx_stB, zcx_stZ, zcx_pI, zcx_pJ, zcx_pR, zcp_zb2, zcp_bd, zcq_zb2, zcq_bd, zcp_if, zcq_if, zcp_some, zcq_some, zcp_none, zcq_none, zcp_let, zcq_let, zcp_gb, zcq_gb, zcb_zb2, zcb_zb2q, zcb_bd, zcb_bdq, zcx_let, zcx_letq, zcx_cp, lc_fX6_lastKind, lc_fX5_takeNumber_L24, lcd_fX6_lastKind]
theorem lc_fX5_takeOperand_L10 {B : zMem} (x1 : Int32) (x2 : Int32) (A : zMem) : fX5_takeOperand_L10 x1 x2 (zmx A B) = zcp B (fX5_takeOperand_L10 x1 x2 A) := by
  unfold fX5_takeOperand_L10
  simp (maxSteps := 2000000) (disch := first | assumption | decide | omega) only [zmx_1c, zmx_2c, zmx_R, zcx_ldI, zcx_ldJ, zcx_stI, zcx_stJ, zcx_stB, zcx_stZ, zcx_pI, zcx_pJ, zcx_pR, zcp_zb2, zcp_bd, zcq_zb2, zcq_bd, zcp_if, zcq_if, zcp_some, zcq_some, zcp_none, zcq_none, zcp_let, zcq_let, zcp_gb, zcq_gb, zcb_zb2, zcb_zb2q, zcb_bd, zcb_bdq, zcx_let, zcx_letq, zcx_cp, lc_fX6_write, lcd_fX6_write]
theorem lc_fX5_takeOperand {B : zMem} (x1 : Int32) (x2 : Int32) (A : zMem) : fX5_takeOperand x1 x2 (zmx A B) = zcp B (fX5_takeOperand x1 x2 A) := by
  unfold fX5_takeOperand
  simp (maxSteps := 2000000) (disch := first | assumption | decide | omega) only [zmx_1c, zmx_2c, zmx_R, zcx_ldI, zcx_ldJ, zcx_stI, zcx_stJ, zcx_stB, zcx_stZ, zcx_pI, zcx_pJ, zcx_pR, zcp_zb2, zcp_bd, zcq_zb2, zcq_bd, zcp_if, zcq_if, zcp_some, zcq_some, zcp_none, zcq_none, zcp_let, zcq_let, zcp_gb, zcq_gb, zcb_zb2, zcb_zb2q, zcb_bd, zcb_bdq, zcx_let, zcx_letq, zcx_cp, lc_fX5_takeOperand_L10, lc_fX5_push]
theorem lc_fX6_begin {B : zMem} (r0 : Nat) (x1 : Int32) (hr : r0 = 3 ∨ r0 = 11) (A : zMem) : fX6_begin r0 x1 (zmx A B) = zcp B (fX6_begin r0 x1 A) := by
  unfold fX6_begin
  simp (maxSteps := 2000000) (disch := first | assumption | decide | omega) only [zmx_1c, zmx_2c, zmx_R, zcx_ldI, zcx_ldJ, zcx_stI, zcx_stJ, zcx_stB, zcx_stZ, zcx_pI, zcx_pJ, zcx_pR, zcp_zb2, zcp_bd, zcq_zb2, zcq_bd, zcp_if, zcq_if, zcp_some, zcq_some, zcp_none, zcq_none, zcp_let, zcq_let, zcp_gb, zcq_gb, zcb_zb2, zcb_zb2q, zcb_bd, zcb_bdq, zcx_let, zcx_letq, zcx_cp]
theorem lcd_fX6_begin {B : zMem} (r0 : Nat) (x1 : Int32) (A : zMem) : zdy r0 (fX6_begin r0 x1 (zmx A B)) = zcp B (zdy r0 (fX6_begin r0 x1 A)) := zcd_p fun q => lc_fX6_begin _ _ q A
theorem lc_fX5_takeRuleStart_L58 {B : zMem} (x1 : Int32) (A : zMem) : fX5_takeRuleStart_L58 x1 (zmx A B) = zcp B (fX5_takeRuleStart_L58 x1 A) := by
  unfold fX5_takeRuleStart_L58
  simp (maxSteps := 2000000) (disch := first | assumption | decide | omega) only [zmx_1c, zmx_2c, zmx_R, zcx_ldI, zcx_ldJ, zcx_stI, zcx_stJ, zcx_stB, zcx_stZ, zcx_pI, zcx_pJ, zcx_pR, zcp_zb2, zcp_bd, zcq_zb2, zcq_bd, zcp_if, zcq_if, zcp_some, zcq_some, zcp_none, zcq_none, zcp_let, zcq_let, zcp_gb, zcq_gb, zcb_zb2, zcb_zb2q, zcb_bd, zcb_bdq, zcx_let, zcx_letq, zcx_cp, lc_fX6_begin, lcd_fX6_begin]
theorem lc_fX5_takeRuleStart {B : zMem} (x1 : Int32) (A : zMem) : fX5_takeRuleStart x1 (zmx A B) = zcp B (fX5_takeRuleStart x1 A) := by
  unfold fX5_takeRuleStart
  simp (maxSteps := 2000000) (disch := first | assumption | decide | omega) only [zmx_1c, zmx_2c, zmx_R, zcx_ldI, zcx_ldJ, zcx_stI, zcx_stJ, zcx_stB, zcx_stZ, zcx_pI, zcx_pJ, zcx_pR, zcp_zb2, zcp_bd, zcq_zb2, zcq_bd, zcp_if, zcq_if, zcp_some, zcq_some, zcp_none, zcq_none, zcp_let, zcq_let, zcp_gb, zcq_gb, zcb_zb2, zcb_zb2q, zcb_bd, zcb_bdq, zcx_let, zcx_letq, zcx_cp, lc_fX5_takeRuleStart_L58]
theorem lc_fX5_take {B : zMem} (N : Nat) (x1 : Int32) (x2 : Int32) (A : zMem) : fX5_take N x1 x2 (zmx A B) = zcp B (fX5_take N x1 x2 A) := by
  unfold fX5_take
  simp (maxSteps := 2000000) (disch := first | assumption | decide | omega) only [zmx_1c, zmx_2c, zmx_R, zcx_ldI, zcx_ldJ, zcx_stI, zcx_stJ, zcx_stB, zcx_stZ, zcx_pI, zcx_pJ, zcx_pR, zcp_zb2, zcp_bd, zcq_zb2, zcq_bd, zcp_if, zcq_if, zcp_some, zcq_some, zcp_none, zcq_none, zcp_let, zcq_let, zcp_gb, zcq_gb, zcb_zb2, zcb_zb2q, zcb_bd, zcb_bdq, zcx_let, zcx_letq, zcx_cp, lc_fX5_takeRuleStart, lc_fX5_takeNumber, lc_fX5_takeIf, lc_fX5_takeOperand, lc_fX5_takeBehindOperand]
theorem lc_fX5_readRules_L100 {B : zMem} (N : Nat) (k13 : Int32 → Int32 → Int32 → zMem → Option (Int32 × zMem)) (hk13 : ∀ (y0 : Int32) (y1 : Int32) (y2 : Int32) (A : zMem), k13 y0 y1 y2 (zmx A B) = zcp B (k13 y0 y1 y2 A)) (x3 : Int32) (x4 : Int32) (x5 : Int32) (A : zMem) : fX5_readRules_L100 N k13 x3 x4 x5 (zmx A B) = zcp B (fX5_readRules_L100 N k13 x3 x4 x5 A) := by
  unfold fX5_readRules_L100
  simp (maxSteps := 2000000) (disch := first | assumption | decide | omega) only [zmx_1c, zmx_2c, zmx_R, zcx_ldI, zcx_ldJ, zcx_stI, zcx_stJ, zcx_stB, zcx_stZ, zcx_pI, zcx_pJ, zcx_pR, zcp_zb2, zcp_bd, zcq_zb2, zcq_bd, zcp_if, zcq_if, zcp_some, zcq_some, zcp_none, zcq_none, zcp_let, zcq_let, zcp_gb, zcq_gb, zcb_zb2, zcb_zb2q, zcb_bd, zcb_bdq, zcx_let, zcx_letq, zcx_cp, hk13]
theorem lc_fX5_readRules_L60 {B : zMem} (N : Nat) (k13 : Int32 → Int32 → Int32 → zMem → Option (Int32 × zMem)) (hk13 : ∀ (y0 : Int32) (y1 : Int32) (y2 : Int32) (A : zMem), k13 y0 y1 y2 (zmx A B) = zcp B (k13 y0 y1 y2 A)) (x3 : Int32) (x5 : Int32) (s0 : Int32) (A : zMem) : fX5_readRules_L60 N k13 x3 x5 s0 (zmx A B) = zcp B (fX5_readRules_L60 N k13 x3 x5 s0 A) := by
  unfold fX5_readRules_L60
  simp (maxSteps := 2000000) (disch := first | assumption | decide | omega) only [zmx_1c, zmx_2c, zmx_R, zcx_ldI, zcx_ldJ, zcx_stI, zcx_stJ, zcx_stB, zcx_stZ, zcx_pI, zcx_pJ, zcx_pR, zcp_zb2, zcp_bd, zcq_zb2, zcq_bd, zcp_if, zcq_if, zcp_some, zcq_some, zcp_none, zcq_none, zcp_let, zcq_let, zcp_gb, zcq_gb, zcb_zb2, zcb_zb2q, zcb_bd, zcb_bdq, zcx_let, zcx_letq, zcx_cp, lc_fX10_kind, lc_fX10_value, lc_fX5_take, lc_fX5_readRules_L100, hk13]
theorem lc_fX5_readRules_L59 {B : zMem} (N : Nat) (k13 : Int32 → Int32 → Int32 → zMem → Option (Int32 × zMem)) (hk13 : ∀ (y0 : Int32) (y1 : Int32) (y2 : Int32) (A : zMem), k13 y0 y1 y2 (zmx A B) = zcp B (k13 y0 y1 y2 A)) (x3 : Int32) (x5 : Int32) (A : zMem) : fX5_readRules_L59 N k13 x3 x5 (zmx A B) = zcp B (fX5_readRules_L59 N k13 x3 x5 A) := by
  unfold fX5_readRules_L59
  simp (maxSteps := 2000000) (disch := first | assumption | decide | omega) only [zmx_1c, zmx_2c, zmx_R, zcx_ldI, zcx_ldJ, zcx_stI, zcx_stJ, zcx_stB, zcx_stZ, zcx_pI, zcx_pJ, zcx_pR, zcp_zb2, zcp_bd, zcq_zb2, zcq_bd, zcp_if, zcq_if, zcp_some, zcq_some, zcp_none, zcq_none, zcp_let, zcq_let, zcp_gb, zcq_gb, zcb_zb2, zcb_zb2q, zcb_bd, zcb_bdq, zcx_let, zcx_letq, zcx_cp, lc_fX5_readRules_L60, hk13]
theorem lc_fX5_readRules_L106 {B : zMem} (N : Nat) (x3 : Int32) (A : zMem) : fX5_readRules_L106 N x3 (zmx A B) = zcp B (fX5_readRules_L106 N x3 A) := by
  unfold fX5_readRules_L106
  simp (maxSteps := 2000000) (disch := first | assumption | decide | omega) only [zmx_1c, zmx_2c, zmx_R, zcx_ldI, zcx_ldJ, zcx_stI, zcx_stJ, zcx_stB, zcx_stZ, zcx_pI, zcx_pJ, zcx_pR, zcp_zb2, zcp_bd, zcq_zb2, zcq_bd, zcp_if, zcq_if, zcp_some, zcq_some, zcp_none, zcq_none, zcp_let, zcq_let, zcp_gb, zcq_gb, zcb_zb2, zcb_zb2q, zcb_bd, zcb_bdq, zcx_let, zcx_letq, zcx_cp, lc_fX10_start]
theorem lc_fX5_readRules_L13 {B : zMem} (N : Nat) : ∀ (n : Nat) (z0 : Int32) (z1 : Int32) (z2 : Int32) (A : zMem), fX5_readRules_L13 N n z0 z1 z2 (zmx A B) = zcp B (fX5_readRules_L13 N n z0 z1 z2 A) := by
  intro n
  induction n with
  | zero => intros; rfl
  | succ n ih =>
    intro z0 z1 z2 A
    simp (maxSteps := 2000000) (disch := first | assumption | decide | omega) only [fX5_readRules_L13, zmx_1c, zmx_2c, zmx_R, zcx_ldI, zcx_ldJ, zcx_stI, zcx_stJ, zcx_stB, zcx_stZ, zcx_pI, zcx_pJ, zcx_pR, zcp_zb2, zcp_bd, zcq_zb2, zcq_bd, zcp_if, zcq_if, zcp_some, zcq_some, zcp_none, zcq_none, zcp_let, zcq_let, zcp_gb, zcq_gb, zcb_zb2, zcb_zb2q, zcb_bd, zcb_bdq, zcx_let, zcx_letq, zcx_cp, lc_fX5_readRules_L106, lc_fX10_scan, lc_fX10_kind, lc_fX5_readRules_L60, lc_fX5_readRules_L59, ih]
theorem lc_fX5_readRules {B : zMem} (N : Nat) (x2 : Nat) (A : zMem) : fX5_readRules N x2 (zmx A B) = zcp B (fX5_readRules N x2 A) := by
  unfold fX5_readRules
  simp (maxSteps := 2000000) (disch := first | assumption | decide | omega) only [zmx_1c, zmx_2c, zmx_R, zcx_ldI, zcx_ldJ, zcx_stI, zcx_stJ, zcx_stB, zcx_stZ, zcx_pI, zcx_pJ, zcx_pR, zcp_zb2, zcp_bd, zcq_zb2, zcq_bd, zcp_if, zcq_if, zcp_some, zcq_some, zcp_none, zcq_none, zcp_let, zcq_let, zcp_gb, zcq_gb, zcb_zb2, zcb_zb2q, zcb_bd, zcb_bdq, zcx_let, zcx_letq, zcx_cp, lc_fX5_prepare, lc_fX5_readRules_L13]
theorem lc_fX7_clear {B : zMem} (A : zMem) : fX7_clear  (zmx A B) = zcq B (fX7_clear  A) := by
  unfold fX7_clear
  simp (maxSteps := 2000000) (disch := first | assumption | decide | omega) only [zmx_1c, zmx_2c, zmx_R, zcx_ldI, zcx_ldJ, zcx_stI, zcx_stJ, zcx_stB, zcx_stZ, zcx_pI, zcx_pJ, zcx_pR, zcp_zb2, zcp_bd, zcq_zb2, zcq_bd, zcp_if, zcq_if, zcp_some, zcq_some, zcp_none, zcq_none, zcp_let, zcq_let, zcp_gb, zcq_gb, zcb_zb2, zcb_zb2q, zcb_bd, zcb_bdq, zcx_let, zcx_letq, zcx_cp]
theorem lc_fX7_add {B : zMem} (x1 : Int32) (x2 : Int32) (x3 : Int32) (A : zMem) : fX7_add x1 x2 x3 (zmx A B) = zcq B (fX7_add x1 x2 x3 A) := by
  unfold fX7_add
  simp (maxSteps := 2000000) (disch := first | assumption | decide | omega) only [zmx_1c, zmx_2c, zmx_R, zcx_ldI, zcx_ldJ, zcx_stI, zcx_stJ, zcx_stB, zcx_stZ, zcx_pI, zcx_pJ, zcx_pR, zcp_zb2, zcp_bd, zcq_zb2, zcq_bd, zcp_if, zcq_if, zcp_some, zcq_some, zcp_none, zcq_none, zcp_let, zcq_let, zcp_gb, zcq_gb, zcb_zb2, zcb_zb2q, zcb_bd, zcb_bdq, zcx_let, zcx_letq, zcx_cp]
theorem lc_fX7_shiftOf {B : zMem} (x1 : Int32) (A : zMem) : fX7_shiftOf x1 (zmx A B) = zcp B (fX7_shiftOf x1 A) := by
  unfold fX7_shiftOf
  simp (maxSteps := 2000000) (disch := first | assumption | decide | omega) only [zmx_1c, zmx_2c, zmx_R, zcx_ldI, zcx_ldJ, zcx_stI, zcx_stJ, zcx_stB, zcx_stZ, zcx_pI, zcx_pJ, zcx_pR, zcp_zb2, zcp_bd, zcq_zb2, zcq_bd, zcp_if, zcq_if, zcp_some, zcq_some, zcp_none, zcq_none, zcp_let, zcq_let, zcp_gb, zcq_gb, zcb_zb2, zcb_zb2q, zcb_bd, zcb_bdq, zcx_let, zcx_letq, zcx_cp]
theorem lc_fJ6_bitCount_0f7a4 {B : zMem} (x0 : Int32) (A : zMem) : fJ6_bitCount_0f7a4 x0 (zmx A B) = zcp B (fJ6_bitCount_0f7a4 x0 A) := by
  unfold fJ6_bitCount_0f7a4
  simp (maxSteps := 2000000) (disch := first | assumption | decide | omega) only [zmx_1c, zmx_2c, zmx_R, zcx_ldI, zcx_ldJ, zcx_stI, zcx_stJ, zcx_stB, zcx_stZ, zcx_pI, zcx_pJ, zcx_pR, zcp_zb2, zcp_bd, zcq_zb2, zcq_bd, zcp_if, zcq_if, zcp_some, zcq_some, zcp_none, zcq_none, zcp_let, zcq_let, zcp_gb, zcq_gb, zcb_zb2, zcb_zb2q, zcb_bd, zcb_bdq, zcx_let, zcx_letq, zcx_cp]
theorem lc_fX7_lookAhead_L208 {B : zMem} (N : Nat) (k57 : Int32 → zMem → Option zMem) (hk57 : ∀ (y0 : Int32) (A : zMem), k57 y0 (zmx A B) = zcq B (k57 y0 A)) (x1 : Int32) (s1 : Int32) (s2 : Int32) (s3 : Int32) (A : zMem) : fX7_lookAhead_L208 N k57 x1 s1 s2 s3 (zmx A B) = zcq B (fX7_lookAhead_L208 N k57 x1 s1 s2 s3 A) := by
  unfold fX7_lookAhead_L208
  simp (maxSteps := 2000000) (disch := first | assumption | decide | omega) only [zmx_1c, zmx_2c, zmx_R, zcx_ldI, zcx_ldJ, zcx_stI, zcx_stJ, zcx_stB, zcx_stZ, zcx_pI, zcx_pJ, zcx_pR, zcp_zb2, zcp_bd, zcq_zb2, zcq_bd, zcp_if, zcq_if, zcp_some, zcq_some, zcp_none, zcq_none, zcp_let, zcq_let, zcp_gb, zcq_gb, zcb_zb2, zcb_zb2q, zcb_bd, zcb_bdq, zcx_let, zcx_letq, zcx_cp, hk57]
theorem lc_fX7_lookAhead_L163 {B : zMem} (N : Nat) (k57 : Int32 → zMem → Option zMem) (hk57 : ∀ (y0 : Int32) (A : zMem), k57 y0 (zmx A B) = zcq B (k57 y0 A)) (x1 : Int32) (x2 : Int32) (s1 : Int32) (s2 : Int32) (s3 : Int32) (A : zMem) : fX7_lookAhead_L163 N k57 x1 x2 s1 s2 s3 (zmx A B) = zcq B (fX7_lookAhead_L163 N k57 x1 x2 s1 s2 s3 A) := by
  unfold fX7_lookAhead_L163
  simp (maxSteps := 2000000) (disch := first | assumption | decide | omega) only [zmx_1c, zmx_2c, zmx_R, zcx_ldI, zcx_ldJ, zcx_stI, zcx_stJ, zcx_stB, zcx_stZ, zcx_pI, zcx_pJ, zcx_pR, zcp_zb2, zcp_bd, zcq_zb2, zcq_bd, zcp_if, zcq_if, zcp_some, zcq_some, zcp_none, zcq_none, zcp_let, zcq_let, zcp_gb, zcq_gb, zcb_zb2, zcb_zb2q, zcb_bd, zcb_bdq, zcx_let, zcx_letq, zcx_cp, lc_fX7_lookAhead_L208, hk57]
theorem lc_fX7_lookAhead_L57 {B : zMem} (N : Nat) : ∀ (n : Nat) (z0 : Int32) (A : zMem), fX7_lookAhead_L57 N n z0 (zmx A B) = zcq B (fX7_lookAhead_L57 N n z0 A) := by
  intro n
  induction n with
  | zero => intros; rfl
  | succ n ih =>
    intro z0 A
    simp (maxSteps := 2000000) (disch := first | assumption | decide | omega) only [fX7_lookAhead_L57, zmx_1c, zmx_2c, zmx_R, zcx_ldI, zcx_ldJ, zcx_stI, zcx_stJ, zcx_stB, zcx_stZ, zcx_pI, zcx_pJ, zcx_pR, zcp_zb2, zcp_bd, zcq_zb2, zcq_bd, zcp_if, zcq_if, zcp_some, zcq_some, zcp_none, zcq_none, zcp_let, zcq_let, zcp_gb, zcq_gb, zcb_zb2, zcb_zb2q, zcb_bd, zcb_bdq, zcx_let, zcx_letq, zcx_cp, lc_fJ6_bitCount_0f7a4, lc_fX7_lookAhead_L163, ih]
theorem lc_fX7_lookAhead {B : zMem} (N : Nat) (A : zMem) : fX7_lookAhead N (zmx A B) = zcq B (fX7_lookAhead N A) := by
  unfold fX7_lookAhead
  simp (maxSteps := 2000000) (disch := first | assumption | decide | omega) only [zmx_1c, zmx_2c, zmx_R, zcx_ldI, zcx_ldJ, zcx_stI, zcx_stJ, zcx_stB, zcx_stZ, zcx_pI, zcx_pJ, zcx_pR, zcp_zb2, zcp_bd, zcq_zb2, zcq_bd, zcp_if, zcq_if, zcp_some, zcq_some, zcp_none, zcq_none, zcp_let, zcq_let, zcp_gb, zcq_gb, zcb_zb2, zcb_zb2q, zcb_bd, zcb_bdq, zcx_let, zcx_letq, zcx_cp, lc_fX7_lookAhead_L57]
theorem lc_fX7_canBeBetter {B : zMem} (x1 : Int32) (x2 : Int32) (x3 : Int32) (x4 : Int32) (x5 : Int32) (A : zMem) : fX7_canBeBetter x1 x2 x3 x4 x5 (zmx A B) = zcp B (fX7_canBeBetter x1 x2 x3 x4 x5 A) := by
  unfold fX7_canBeBetter
  simp (maxSteps := 2000000) (disch := first | assumption | decide | omega) only [zmx_1c, zmx_2c, zmx_R, zcx_ldI, zcx_ldJ, zcx_stI, zcx_stJ, zcx_stB, zcx_stZ, zcx_pI, zcx_pJ, zcx_pR, zcp_zb2, zcp_bd, zcq_zb2, zcq_bd, zcp_if, zcq_if, zcp_some, zcq_some, zcp_none, zcq_none, zcp_let, zcq_let, zcp_gb, zcq_gb, zcb_zb2, zcb_zb2q, zcb_bd, zcb_bdq, zcx_let, zcx_letq, zcx_cp, lc_fJ6_bitCount_0f7a4]
theorem lc_fX7_tryFrom_L201 {B : zMem} (N : Nat) (rc : Int32 → Int32 → Int32 → Int32 → Int32 → zMem → Option zMem) (hrc : ∀ (y0 : Int32) (y1 : Int32) (y2 : Int32) (y3 : Int32) (y4 : Int32) (A : zMem), rc y0 y1 y2 y3 y4 (zmx A B) = zcq B (rc y0 y1 y2 y3 y4 A)) (k93 : Int32 → Int32 → Int32 → Int32 → Int32 → Int32 → zMem → Option zMem) (hk93 : ∀ (y0 : Int32) (y1 : Int32) (y2 : Int32) (y3 : Int32) (y4 : Int32) (y5 : Int32) (A : zMem), k93 y0 y1 y2 y3 y4 y5 (zmx A B) = zcq B (k93 y0 y1 y2 y3 y4 y5 A)) (x1 : Int32) (x2 : Int32) (x3 : Int32) (x4 : Int32) (x5 : Int32) (x6 : Int32) (A : zMem) : fX7_tryFrom_L201 N rc k93 x1 x2 x3 x4 x5 x6 (zmx A B) = zcq B (fX7_tryFrom_L201 N rc k93 x1 x2 x3 x4 x5 x6 A) := by
  unfold fX7_tryFrom_L201
  simp (maxSteps := 2000000) (disch := first | assumption | decide | omega) only [zmx_1c, zmx_2c, zmx_R, zcx_ldI, zcx_ldJ, zcx_stI, zcx_stJ, zcx_stB, zcx_stZ, zcx_pI, zcx_pJ, zcx_pR, zcp_zb2, zcp_bd, zcq_zb2, zcq_bd, zcp_if, zcq_if, zcp_some, zcq_some, zcp_none, zcq_none, zcp_let, zcq_let, zcp_gb, zcq_gb, zcb_zb2, zcb_zb2q, zcb_bd, zcb_bdq, zcx_let, zcx_letq, zcx_cp, hrc, hk93]
theorem lc_fX7_tryFrom_L169 {B : zMem} (N : Nat) (rc : Int32 → Int32 → Int32 → Int32 → Int32 → zMem → Option zMem) (hrc : ∀ (y0 : Int32) (y1 : Int32) (y2 : Int32) (y3 : Int32) (y4 : Int32) (A : zMem), rc y0 y1 y2 y3 y4 (zmx A B) = zcq B (rc y0 y1 y2 y3 y4 A)) (k93 : Int32 → Int32 → Int32 → Int32 → Int32 → Int32 → zMem → Option zMem) (hk93 : ∀ (y0 : Int32) (y1 : Int32) (y2 : Int32) (y3 : Int32) (y4 : Int32) (y5 : Int32) (A : zMem), k93 y0 y1 y2 y3 y4 y5 (zmx A B) = zcq B (k93 y0 y1 y2 y3 y4 y5 A)) (k103 : Int32 → Int32 → Int32 → Int32 → Int32 → Int32 → Int32 → zMem → Option zMem) (hk103 : ∀ (y0 : Int32) (y1 : Int32) (y2 : Int32) (y3 : Int32) (y4 : Int32) (y5 : Int32) (y6 : Int32) (A : zMem), k103 y0 y1 y2 y3 y4 y5 y6 (zmx A B) = zcq B (k103 y0 y1 y2 y3 y4 y5 y6 A)) (x1 : Int32) (x2 : Int32) (x3 : Int32) (x4 : Int32) (x5 : Int32) (x6 : Int32) (x7 : Int32) (x8 : Int32) (s0 : Int32) (A : zMem) : fX7_tryFrom_L169 N rc k93 k103 x1 x2 x3 x4 x5 x6 x7 x8 s0 (zmx A B) = zcq B (fX7_tryFrom_L169 N rc k93 k103 x1 x2 x3 x4 x5 x6 x7 x8 s0 A) := by
  unfold fX7_tryFrom_L169
  simp (maxSteps := 2000000) (disch := first | assumption | decide | omega) only [zmx_1c, zmx_2c, zmx_R, zcx_ldI, zcx_ldJ, zcx_stI, zcx_stJ, zcx_stB, zcx_stZ, zcx_pI, zcx_pJ, zcx_pR, zcp_zb2, zcp_bd, zcq_zb2, zcq_bd, zcp_if, zcq_if, zcp_some, zcq_some, zcp_none, zcq_none, zcp_let, zcq_let, zcp_gb, zcq_gb, zcb_zb2, zcb_zb2q, zcb_bd, zcb_bdq, zcx_let, zcx_letq, zcx_cp, hrc, hk93, hk103]
theorem lc_fX7_tryFrom_L103 {B : zMem} (N : Nat) (rc : Int32 → Int32 → Int32 → Int32 → Int32 → zMem → Option zMem) (hrc : ∀ (y0 : Int32) (y1 : Int32) (y2 : Int32) (y3 : Int32) (y4 : Int32) (A : zMem), rc y0 y1 y2 y3 y4 (zmx A B) = zcq B (rc y0 y1 y2 y3 y4 A)) (k93 : Int32 → Int32 → Int32 → Int32 → Int32 → Int32 → zMem → Option zMem) (hk93 : ∀ (y0 : Int32) (y1 : Int32) (y2 : Int32) (y3 : Int32) (y4 : Int32) (y5 : Int32) (A : zMem), k93 y0 y1 y2 y3 y4 y5 (zmx A B) = zcq B (k93 y0 y1 y2 y3 y4 y5 A)) : ∀ (n : Nat) (z0 : Int32) (z1 : Int32) (z2 : Int32) (z3 : Int32) (z4 : Int32) (z5 : Int32) (z6 : Int32) (A : zMem), fX7_tryFrom_L103 N rc k93 n z0 z1 z2 z3 z4 z5 z6 (zmx A B) = zcq B (fX7_tryFrom_L103 N rc k93 n z0 z1 z2 z3 z4 z5 z6 A) := by
  intro n
  induction n with
  | zero => intros; rfl
  | succ n ih =>
    intro z0 z1 z2 z3 z4 z5 z6 A
    simp (maxSteps := 2000000) (disch := first | assumption | decide | omega) only [fX7_tryFrom_L103, zmx_1c, zmx_2c, zmx_R, zcx_ldI, zcx_ldJ, zcx_stI, zcx_stJ, zcx_stB, zcx_stZ, zcx_pI, zcx_pJ, zcx_pR, zcp_zb2, zcp_bd, zcq_zb2, zcq_bd, zcp_if, zcq_if, zcp_some, zcq_some, zcp_none, zcq_none, zcp_let, zcq_let, zcp_gb, zcq_gb, zcb_zb2, zcb_zb2q, zcb_bd, zcb_bdq, zcx_let, zcx_letq, zcx_cp, lc_fX7_tryFrom_L201, lc_fX7_tryFrom_L169, ih, hrc, hk93]
theorem lc_fX7_tryFrom_L93 {B : zMem} (N : Nat) (rc : Int32 → Int32 → Int32 → Int32 → Int32 → zMem → Option zMem) (hrc : ∀ (y0 : Int32) (y1 : Int32) (y2 : Int32) (y3 : Int32) (y4 : Int32) (A : zMem), rc y0 y1 y2 y3 y4 (zmx A B) = zcq B (rc y0 y1 y2 y3 y4 A)) : ∀ (n : Nat) (z0 : Int32) (z1 : Int32) (z2 : Int32) (z3 : Int32) (z4 : Int32) (z5 : Int32) (A : zMem), fX7_tryFrom_L93 N rc n z0 z1 z2 z3 z4 z5 (zmx A B) = zcq B (fX7_tryFrom_L93 N rc n z0 z1 z2 z3 z4 z5 A) := by
  intro n
  induction n with
  | zero => intros; rfl
  | succ n ih =>
    intro z0 z1 z2 z3 z4 z5 A
    simp (maxSteps := 2000000) (disch := first | assumption | decide | omega) only [fX7_tryFrom_L93, zmx_1c, zmx_2c, zmx_R, zcx_ldI, zcx_ldJ, zcx_stI, zcx_stJ, zcx_stB, zcx_stZ, zcx_pI, zcx_pJ, zcx_pR, zcp_zb2, zcp_bd, zcq_zb2, zcq_bd, zcp_if, zcq_if, zcp_some, zcq_some, zcp_none, zcq_none, zcp_let, zcq_let, zcp_gb, zcq_gb, zcb_zb2, zcb_zb2q, zcb_bd, zcb_bdq, zcx_let, zcx_letq, zcx_cp, lc_fX7_tryFrom_L103, ih, hrc]
theorem lc_fX7_tryFrom {B : zMem} (N : Nat) : ∀ (n : Nat) (z0 : Int32) (z1 : Int32) (z2 : Int32) (z3 : Int32) (z4 : Int32) (A : zMem), fX7_tryFrom N n z0 z1 z2 z3 z4 (zmx A B) = zcq B (fX7_tryFrom N n z0 z1 z2 z3 z4 A) := by
  intro n
  induction n with
  | zero => intros; rfl
  | succ n ih =>
    intro z0 z1 z2 z3 z4 A
    simp (maxSteps := 2000000) (disch := first | assumption | decide | omega) only [fX7_tryFrom, zmx_1c, zmx_2c, zmx_R, zcx_ldI, zcx_ldJ, zcx_stI, zcx_stJ, zcx_stB, zcx_stZ, zcx_pI, zcx_pJ, zcx_pR, zcp_zb2, zcp_bd, zcq_zb2, zcq_bd, zcp_if, zcq_if, zcp_some, zcq_some, zcp_none, zcq_none, zcp_let, zcq_let, zlet_eq, zcp_gb, zcq_gb, zcb_zb2, zcb_zb2q, zcb_bd, zcb_bdq, zcx_let, zcx_letq, zcx_cp, lc_fX7_canBeBetter, lc_fJ6_bitCount_0f7a4, lc_fX7_tryFrom_L93, ih]
theorem lc_fX7_findBest {B : zMem} (N : Nat) (A : zMem) : fX7_findBest N (zmx A B) = zcp B (fX7_findBest N A) := by
  unfold fX7_findBest
  simp (maxSteps := 2000000) (disch := first | assumption | decide | omega) only [zmx_1c, zmx_2c, zmx_R, zcx_ldI, zcx_ldJ, zcx_stI, zcx_stJ, zcx_stB, zcx_stZ, zcx_pI, zcx_pJ, zcx_pR, zcp_zb2, zcp_bd, zcq_zb2, zcq_bd, zcp_if, zcq_if, zcp_some, zcq_some, zcp_none, zcq_none, zcp_let, zcq_let, zcp_gb, zcq_gb, zcb_zb2, zcb_zb2q, zcb_bd, zcb_bdq, zcx_let, zcx_letq, zcx_cp, lc_fX7_lookAhead, lc_fX7_tryFrom]
theorem lc_fX8_length {B : zMem} (A : zMem) : fX8_length  (zmx A B) = zcp B (fX8_length  A) := by
  unfold fX8_length
  simp (maxSteps := 2000000) (disch := first | assumption | decide | omega) only [zmx_1c, zmx_2c, zmx_R, zcx_ldI, zcx_ldJ, zcx_stI, zcx_stJ, zcx_stB, zcx_stZ, zcx_pI, zcx_pJ, zcx_pR, zcp_zb2, zcp_bd, zcq_zb2, zcq_bd, zcp_if, zcq_if, zcp_some, zcq_some, zcp_none, zcq_none, zcp_let, zcq_let, zcp_gb, zcq_gb, zcb_zb2, zcb_zb2q, zcb_bd, zcb_bdq, zcx_let, zcx_letq, zcx_cp]
theorem lc_fX8_hasRoomFor {B : zMem} (x1 : Int32) (A : zMem) : fX8_hasRoomFor x1 (zmx A B) = zcp B (fX8_hasRoomFor x1 A) := by
  unfold fX8_hasRoomFor
  simp (maxSteps := 2000000) (disch := first | assumption | decide | omega) only [zmx_1c, zmx_2c, zmx_R, zcx_ldI, zcx_ldJ, zcx_stI, zcx_stJ, zcx_stB, zcx_stZ, zcx_pI, zcx_pJ, zcx_pR, zcp_zb2, zcp_bd, zcq_zb2, zcq_bd, zcp_if, zcq_if, zcp_some, zcq_some, zcp_none, zcq_none, zcp_let, zcq_let, zcp_gb, zcq_gb, zcb_zb2, zcb_zb2q, zcb_bd, zcb_bdq, zcx_let, zcx_letq, zcx_cp]
theorem lc_fX8_append_L40 {B : zMem} (N : Nat) (k3 : Int32 → Int32 → zMem → Option zMem) (hk3 : ∀ (y0 : Int32) (y1 : Int32) (A : zMem), k3 y0 y1 (zmx A B) = zcq B (k3 y0 y1 A)) (x1 : Int32) (x2 : Int32) (A : zMem) : fX8_append_L40 N k3 x1 x2 (zmx A B) = zcq B (fX8_append_L40 N k3 x1 x2 A) := by
  unfold fX8_append_L40
  simp (maxSteps := 2000000) (disch := first | assumption | decide | omega) only [zmx_1c, zmx_2c, zmx_R, zcx_ldI, zcx_ldJ, zcx_stI, zcx_stJ, zcx_stB, zcx_stZ, zcx_pI, zcx_pJ, zcx_pR, zcp_zb2, zcp_bd, zcq_zb2, zcq_bd, zcp_if, zcq_if, zcp_some, zcq_some, zcp_none, zcq_none, zcp_let, zcq_let, zcp_gb, zcq_gb, zcb_zb2, zcb_zb2q, zcb_bd, zcb_bdq, zcx_let, zcx_letq, zcx_cp, hk3]
theorem lc_fX8_append_L3 {B : zMem} (N : Nat) : ∀ (n : Nat) (z0 : Int32) (z1 : Int32) (A : zMem), fX8_append_L3 N n z0 z1 (zmx A B) = zcq B (fX8_append_L3 N n z0 z1 A) := by
  intro n
  induction n with
  | zero => intros; rfl
  | succ n ih =>
    intro z0 z1 A
    simp (maxSteps := 2000000) (disch := first | assumption | decide | omega) only [fX8_append_L3, zmx_1c, zmx_2c, zmx_R, zcx_ldI, zcx_ldJ, zcx_stI, zcx_stJ, zcx_stB, zcx_stZ, zcx_pI, zcx_pJ, zcx_pR, zcp_zb2, zcp_bd, zcq_zb2, zcq_bd, zcp_if, zcq_if, zcp_some, zcq_some, zcp_none, zcq_none, zcp_let, zcq_let, zcp_gb, zcq_gb, zcb_zb2, zcb_zb2q, zcb_bd, zcb_bdq, zcx_let, zcx_letq, zcx_cp, lc_fX8_append_L40, ih]
theorem lc_fX8_append {B : zMem} (N : Nat) (x1 : Int32) (A : zMem) : fX8_append N x1 (zmx A B) = zcq B (fX8_append N x1 A) := by
  unfold fX8_append
  simp (maxSteps := 2000000) (disch := first | assumption | decide | omega) only [zmx_1c, zmx_2c, zmx_R, zcx_ldI, zcx_ldJ, zcx_stI, zcx_stJ, zcx_stB, zcx_stZ, zcx_pI, zcx_pJ, zcx_pR, zcp_zb2, zcp_bd, zcq_zb2, zcq_bd, zcp_if, zcq_if, zcp_some, zcq_some, zcp_none, zcq_none, zcp_let, zcq_let, zcp_gb, zcq_gb, zcb_zb2, zcb_zb2q, zcb_bd, zcb_bdq, zcx_let, zcx_letq, zcx_cp, lc_fX8_append_L3]
theorem lc_fX8_cutTo {B : zMem} (x1 : Int32) (A : zMem) : fX8_cutTo x1 (zmx A B) = zcq B (fX8_cutTo x1 A) := by
  unfold fX8_cutTo
  simp (maxSteps := 2000000) (disch := first | assumption | decide | omega) only [zmx_1c, zmx_2c, zmx_R, zcx_ldI, zcx_ldJ, zcx_stI, zcx_stJ, zcx_stB, zcx_stZ, zcx_pI, zcx_pJ, zcx_pR, zcp_zb2, zcp_bd, zcq_zb2, zcq_bd, zcp_if, zcq_if, zcp_some, zcq_some, zcp_none, zcq_none, zcp_let, zcq_let, zcp_gb, zcq_gb, zcb_zb2, zcb_zb2q, zcb_bd, zcb_bdq, zcx_let, zcx_letq, zcx_cp]
theorem lc_fX9_stepCount {B : zMem} (A : zMem) : fX9_stepCount  (zmx A B) = zcp B (fX9_stepCount  A) := by
  unfold fX9_stepCount
  simp (maxSteps := 2000000) (disch := first | assumption | decide | omega) only [zmx_1c, zmx_2c, zmx_R, zcx_ldI, zcx_ldJ, zcx_stI, zcx_stJ, zcx_stB, zcx_stZ, zcx_pI, zcx_pJ, zcx_pR, zcp_zb2, zcp_bd, zcq_zb2, zcq_bd, zcp_if, zcq_if, zcp_some, zcq_some, zcp_none, zcq_none, zcp_let, zcq_let, zcp_gb, zcq_gb, zcb_zb2, zcb_zb2q, zcb_bd, zcb_bdq, zcx_let, zcx_letq, zcx_cp]
theorem lc_fX9_addVolunteer {B : zMem} (x1 : Int32) (A : zMem) : fX9_addVolunteer x1 (zmx A B) = zcp B (fX9_addVolunteer x1 A) := by
  unfold fX9_addVolunteer
  simp (maxSteps := 2000000) (disch := first | assumption | decide | omega) only [zmx_1c, zmx_2c, zmx_R, zcx_ldI, zcx_ldJ, zcx_stI, zcx_stJ, zcx_stB, zcx_stZ, zcx_pI, zcx_pJ, zcx_pR, zcp_zb2, zcp_bd, zcq_zb2, zcq_bd, zcp_if, zcq_if, zcp_some, zcq_some, zcp_none, zcq_none, zcp_let, zcq_let, zcp_gb, zcq_gb, zcb_zb2, zcb_zb2q, zcb_bd, zcb_bdq, zcx_let, zcx_letq, zcx_cp]
theorem lc_fX9_addStep {B : zMem} (x1 : Int32) (x2 : Int32) (A : zMem) : fX9_addStep x1 x2 (zmx A B) = zcp B (fX9_addStep x1 x2 A) := by
  unfold fX9_addStep
  simp (maxSteps := 2000000) (disch := first | assumption | decide | omega) only [zmx_1c, zmx_2c, zmx_R, zcx_ldI, zcx_ldJ, zcx_stI, zcx_stJ, zcx_stB, zcx_stZ, zcx_pI, zcx_pJ, zcx_pR, zcp_zb2, zcp_bd, zcq_zb2, zcq_bd, zcp_if, zcq_if, zcp_some, zcq_some, zcp_none, zcq_none, zcp_let, zcq_let, zcp_gb, zcq_gb, zcb_zb2, zcb_zb2q, zcb_bd, zcb_bdq, zcx_let, zcx_letq, zcx_cp]
theorem lc_fX9_rankOf {B : zMem} (x1 : Int32) (A : zMem) : fX9_rankOf x1 (zmx A B) = zcp B (fX9_rankOf x1 A) := by
  unfold fX9_rankOf
  simp (maxSteps := 2000000) (disch := first | assumption | decide | omega) only [zmx_1c, zmx_2c, zmx_R, zcx_ldI, zcx_ldJ, zcx_stI, zcx_stJ, zcx_stB, zcx_stZ, zcx_pI, zcx_pJ, zcx_pR, zcp_zb2, zcp_bd, zcq_zb2, zcq_bd, zcp_if, zcq_if, zcp_some, zcq_some, zcp_none, zcq_none, zcp_let, zcq_let, zcp_gb, zcq_gb, zcb_zb2, zcb_zb2q, zcb_bd, zcb_bdq, zcx_let, zcx_letq, zcx_cp, lc_fX9_isVolunteer]
theorem lc_fX9_teach_L48 {B : zMem} (N : Nat) : ∀ (n : Nat) (z0 : Int32) (z1 : Int32) (z2 : Int32) (z3 : Int32) (A : zMem), fX9_teach_L48 N n z0 z1 z2 z3 (zmx A B) = zcp B (fX9_teach_L48 N n z0 z1 z2 z3 A) := by
  intro n
  induction n with
  | zero => intros; rfl
  | succ n ih =>
    intro z0 z1 z2 z3 A
    simp (maxSteps := 2000000) (disch := first | assumption | decide | omega) only [fX9_teach_L48, zmx_1c, zmx_2c, zmx_R, zcx_ldI, zcx_ldJ, zcx_stI, zcx_stJ, zcx_stB, zcx_stZ, zcx_pI, zcx_pJ, zcx_pR, zcp_zb2, zcp_bd, zcq_zb2, zcq_bd, zcp_if, zcq_if, zcp_some, zcq_some, zcp_none, zcq_none, zcp_let, zcq_let, zcp_gb, zcq_gb, zcb_zb2, zcb_zb2q, zcb_bd, zcb_bdq, zcx_let, zcx_letq, zcx_cp, lc_fX11_isNight, lc_fX9_learnedBit, ih]
theorem lc_fX9_teach_L45 {B : zMem} (N : Nat) (x1 : Int32) (x2 : Int32) (x3 : Int32) (A : zMem) : fX9_teach_L45 N x1 x2 x3 (zmx A B) = zcp B (fX9_teach_L45 N x1 x2 x3 A) := by
  unfold fX9_teach_L45
  simp (maxSteps := 2000000) (disch := first | assumption | decide | omega) only [zmx_1c, zmx_2c, zmx_R, zcx_ldI, zcx_ldJ, zcx_stI, zcx_stJ, zcx_stB, zcx_stZ, zcx_pI, zcx_pJ, zcx_pR, zcp_zb2, zcp_bd, zcq_zb2, zcq_bd, zcp_if, zcq_if, zcp_some, zcq_some, zcp_none, zcq_none, zcp_let, zcq_let, zcp_gb, zcq_gb, zcb_zb2, zcb_zb2q, zcb_bd, zcb_bdq, zcx_let, zcx_letq, zcx_cp, lc_fX9_teach_L48]
theorem lc_fX9_teach {B : zMem} (N : Nat) (x1 : Int32) (x2 : Int32) (x3 : Int32) (A : zMem) : fX9_teach N x1 x2 x3 (zmx A B) = zcp B (fX9_teach N x1 x2 x3 A) := by
  unfold fX9_teach
  simp (maxSteps := 2000000) (disch := first | assumption | decide | omega) only [zmx_1c, zmx_2c, zmx_R, zcx_ldI, zcx_ldJ, zcx_stI, zcx_stJ, zcx_stB, zcx_stZ, zcx_pI, zcx_pJ, zcx_pR, zcp_zb2, zcp_bd, zcq_zb2, zcq_bd, zcp_if, zcq_if, zcp_some, zcq_some, zcp_none, zcq_none, zcp_let, zcq_let, zcp_gb, zcq_gb, zcb_zb2, zcb_zb2q, zcb_bd, zcb_bdq, zcx_let, zcx_letq, zcx_cp, lc_fX9_isVolunteer, lc_fX9_isStep, lc_fX9_teach_L45, lc_fX9_hasStep]
theorem lc_fX9_addBar {B : zMem} (x1 : Int32) (x2 : Int32) (x3 : Int32) (A : zMem) : fX9_addBar x1 x2 x3 (zmx A B) = zcp B (fX9_addBar x1 x2 x3 A) := by
  unfold fX9_addBar
  simp (maxSteps := 2000000) (disch := first | assumption | decide | omega) only [zmx_1c, zmx_2c, zmx_R, zcx_ldI, zcx_ldJ, zcx_stI, zcx_stJ, zcx_stB, zcx_stZ, zcx_pI, zcx_pJ, zcx_pR, zcp_zb2, zcp_bd, zcq_zb2, zcq_bd, zcp_if, zcq_if, zcp_some, zcq_some, zcp_none, zcq_none, zcp_let, zcq_let, zcp_gb, zcq_gb, zcb_zb2, zcb_zb2q, zcb_bd, zcb_bdq, zcx_let, zcx_letq, zcx_cp, lc_fX11_isCaller, lc_fX9_isVolunteer, lc_fX9_barIndex]
theorem lc_fX9_giveCare {B : zMem} (x1 : Int32) (x2 : Int32) (A : zMem) : fX9_giveCare x1 x2 (zmx A B) = zcq B (fX9_giveCare x1 x2 A) := by
  unfold fX9_giveCare
  simp (maxSteps := 2000000) (disch := first | assumption | decide | omega) only [zmx_1c, zmx_2c, zmx_R, zcx_ldI, zcx_ldJ, zcx_stI, zcx_stJ, zcx_stB, zcx_stZ, zcx_pI, zcx_pJ, zcx_pR, zcp_zb2, zcp_bd, zcq_zb2, zcq_bd, zcp_if, zcq_if, zcp_some, zcq_some, zcp_none, zcq_none, zcp_let, zcq_let, zcp_gb, zcq_gb, zcb_zb2, zcb_zb2q, zcb_bd, zcb_bdq, zcx_let, zcx_letq, zcx_cp, lc_fX9_isVolunteer]
theorem lc_fX9_caredFrom {B : zMem} (x1 : Int32) (A : zMem) : fX9_caredFrom x1 (zmx A B) = zcp B (fX9_caredFrom x1 A) := by
  unfold fX9_caredFrom
  simp (maxSteps := 2000000) (disch := first | assumption | decide | omega) only [zmx_1c, zmx_2c, zmx_R, zcx_ldI, zcx_ldJ, zcx_stI, zcx_stJ, zcx_stB, zcx_stZ, zcx_pI, zcx_pJ, zcx_pR, zcp_zb2, zcp_bd, zcq_zb2, zcq_bd, zcp_if, zcq_if, zcp_some, zcq_some, zcp_none, zcq_none, zcp_let, zcq_let, zcp_gb, zcq_gb, zcb_zb2, zcb_zb2q, zcb_bd, zcb_bdq, zcx_let, zcx_letq, zcx_cp, lc_fX9_isVolunteer]
theorem lc_fX11_feed {B : zMem} (N : Nat) (x1 : Int32) (x2 : Int32) (x3 : Int32) (x4 : Int32) (x5 : Int32) (A : zMem) : fX11_feed N x1 x2 x3 x4 x5 (zmx A B) = zcp B (fX11_feed N x1 x2 x3 x4 x5 A) := by
  unfold fX11_feed
  simp (maxSteps := 2000000) (disch := first | assumption | decide | omega) only [zmx_1c, zmx_2c, zmx_R, zcx_ldI, zcx_ldJ, zcx_stI, zcx_stJ, zcx_stB, zcx_stZ, zcx_pI, zcx_pJ, zcx_pR, zcp_zb2, zcp_bd, zcq_zb2, zcq_bd, zcp_if, zcq_if, zcp_some, zcq_some, zcp_none, zcq_none, zcp_let, zcq_let, zcp_gb, zcq_gb, zcb_zb2, zcb_zb2q, zcb_bd, zcb_bdq, zcx_let, zcx_letq, zcx_cp, lc_fX8_hasRoomFor, lc_fX8_append, lc_fX8_length]
theorem lc_fX11_back {B : zMem} (x1 : Int32) (A : zMem) : fX11_back x1 (zmx A B) = zcp B (fX11_back x1 A) := by
  unfold fX11_back
  simp (maxSteps := 2000000) (disch := first | assumption | decide | omega) only [zmx_1c, zmx_2c, zmx_R, zcx_ldI, zcx_ldJ, zcx_stI, zcx_stJ, zcx_stB, zcx_stZ, zcx_pI, zcx_pJ, zcx_pR, zcp_zb2, zcp_bd, zcq_zb2, zcq_bd, zcp_if, zcq_if, zcp_some, zcq_some, zcp_none, zcq_none, zcp_let, zcq_let, zcp_gb, zcq_gb, zcb_zb2, zcb_zb2q, zcb_bd, zcb_bdq, zcx_let, zcx_letq, zcx_cp, lc_fX8_length, lc_fX11_isWithin, lc_fX8_cutTo]
theorem lc_fX11_read {B : zMem} (N : Nat) (A : zMem) : fX11_read N (zmx A B) = zcp B (fX11_read N A) := by
  unfold fX11_read
  simp (maxSteps := 2000000) (disch := first | assumption | decide | omega) only [zmx_1c, zmx_2c, zmx_R, zcx_ldI, zcx_ldJ, zcx_stI, zcx_stJ, zcx_stB, zcx_stZ, zcx_pI, zcx_pJ, zcx_pR, zcp_zb2, zcp_bd, zcq_zb2, zcq_bd, zcp_if, zcq_if, zcp_some, zcq_some, zcp_none, zcq_none, zcp_let, zcq_let, zcp_gb, zcq_gb, zcb_zb2, zcb_zb2q, zcb_bd, zcb_bdq, zcx_let, zcx_letq, zcx_cp, lc_fX5_readRules, lc_fX8_cutTo]
theorem lc_fX11_place {B : zMem} (A : zMem) : fX11_place  (zmx A B) = zcp B (fX11_place  A) := by
  unfold fX11_place
  simp (maxSteps := 2000000) (disch := first | assumption | decide | omega) only [zmx_1c, zmx_2c, zmx_R, zcx_ldI, zcx_ldJ, zcx_stI, zcx_stJ, zcx_stB, zcx_stZ, zcx_pI, zcx_pJ, zcx_pR, zcp_zb2, zcp_bd, zcq_zb2, zcq_bd, zcp_if, zcq_if, zcp_some, zcq_some, zcp_none, zcq_none, zcp_let, zcq_let, zcp_gb, zcq_gb, zcb_zb2, zcb_zb2q, zcb_bd, zcb_bdq, zcx_let, zcx_letq, zcx_cp, lc_fX5_faultPlace]
theorem lc_fX11_volunteer {B : zMem} (x1 : Int32) (A : zMem) : fX11_volunteer x1 (zmx A B) = zcp B (fX11_volunteer x1 A) := by
  unfold fX11_volunteer
  simp (maxSteps := 2000000) (disch := first | assumption | decide | omega) only [zmx_1c, zmx_2c, zmx_R, zcx_ldI, zcx_ldJ, zcx_stI, zcx_stJ, zcx_stB, zcx_stZ, zcx_pI, zcx_pJ, zcx_pR, zcp_zb2, zcp_bd, zcq_zb2, zcq_bd, zcp_if, zcq_if, zcp_some, zcq_some, zcp_none, zcq_none, zcp_let, zcq_let, zcp_gb, zcq_gb, zcb_zb2, zcb_zb2q, zcb_bd, zcb_bdq, zcx_let, zcx_letq, zcx_cp, lc_fX11_isWithin, lc_fX9_addVolunteer]
theorem lc_fX11_step_L21 {B : zMem} (x1 : Int32) (x2 : Int32) (s0 : Int32) (A : zMem) : fX11_step_L21 x1 x2 s0 (zmx A B) = zcp B (fX11_step_L21 x1 x2 s0 A) := by
  unfold fX11_step_L21
  simp (maxSteps := 2000000) (disch := first | assumption | decide | omega) only [zmx_1c, zmx_2c, zmx_R, zcx_ldI, zcx_ldJ, zcx_stI, zcx_stJ, zcx_stB, zcx_stZ, zcx_pI, zcx_pJ, zcx_pR, zcp_zb2, zcp_bd, zcq_zb2, zcq_bd, zcp_if, zcq_if, zcp_some, zcq_some, zcp_none, zcq_none, zcp_let, zcq_let, zcp_gb, zcq_gb, zcb_zb2, zcb_zb2q, zcb_bd, zcb_bdq, zcx_let, zcx_letq, zcx_cp, lc_fX11_isWithin, lc_fX9_addStep]
theorem lc_fX11_step_L16 {B : zMem} (x1 : Int32) (x2 : Int32) (A : zMem) : fX11_step_L16 x1 x2 (zmx A B) = zcp B (fX11_step_L16 x1 x2 A) := by
  unfold fX11_step_L16
  simp (maxSteps := 2000000) (disch := first | assumption | decide | omega) only [zmx_1c, zmx_2c, zmx_R, zcx_ldI, zcx_ldJ, zcx_stI, zcx_stJ, zcx_stB, zcx_stZ, zcx_pI, zcx_pJ, zcx_pR, zcp_zb2, zcp_bd, zcq_zb2, zcq_bd, zcp_if, zcq_if, zcp_some, zcq_some, zcp_none, zcq_none, zcp_let, zcq_let, zcp_gb, zcq_gb, zcb_zb2, zcb_zb2q, zcb_bd, zcb_bdq, zcx_let, zcx_letq, zcx_cp, lc_fX11_step_L21]
theorem lc_fX11_step {B : zMem} (x1 : Int32) (x2 : Int32) (A : zMem) : fX11_step x1 x2 (zmx A B) = zcp B (fX11_step x1 x2 A) := by
  unfold fX11_step
  simp (maxSteps := 2000000) (disch := first | assumption | decide | omega) only [zmx_1c, zmx_2c, zmx_R, zcx_ldI, zcx_ldJ, zcx_stI, zcx_stJ, zcx_stB, zcx_stZ, zcx_pI, zcx_pJ, zcx_pR, zcp_zb2, zcp_bd, zcq_zb2, zcq_bd, zcp_if, zcq_if, zcp_some, zcq_some, zcp_none, zcq_none, zcp_let, zcq_let, zcp_gb, zcq_gb, zcb_zb2, zcb_zb2q, zcb_bd, zcb_bdq, zcx_let, zcx_letq, zcx_cp, lc_fX11_step_L16, lc_fX9_isStep, lc_fX11_step_L21]
theorem lc_fX11_learn {B : zMem} (N : Nat) (x1 : Int32) (x2 : Int32) (A : zMem) : fX11_learn N x1 x2 (zmx A B) = zcp B (fX11_learn N x1 x2 A) := by
  unfold fX11_learn
  simp (maxSteps := 2000000) (disch := first | assumption | decide | omega) only [zmx_1c, zmx_2c, zmx_R, zcx_ldI, zcx_ldJ, zcx_stI, zcx_stJ, zcx_stB, zcx_stZ, zcx_pI, zcx_pJ, zcx_pR, zcp_zb2, zcp_bd, zcq_zb2, zcq_bd, zcp_if, zcq_if, zcp_some, zcq_some, zcp_none, zcq_none, zcp_let, zcq_let, zcp_gb, zcq_gb, zcb_zb2, zcb_zb2q, zcb_bd, zcb_bdq, zcx_let, zcx_letq, zcx_cp, lc_fX9_teach]
theorem lc_fX11_has {B : zMem} (N : Nat) (x1 : Int32) (x2 : Int32) (x3 : Int32) (A : zMem) : fX11_has N x1 x2 x3 (zmx A B) = zcp B (fX11_has N x1 x2 x3 A) := by
  unfold fX11_has
  simp (maxSteps := 2000000) (disch := first | assumption | decide | omega) only [zmx_1c, zmx_2c, zmx_R, zcx_ldI, zcx_ldJ, zcx_stI, zcx_stJ, zcx_stB, zcx_stZ, zcx_pI, zcx_pJ, zcx_pR, zcp_zb2, zcp_bd, zcq_zb2, zcq_bd, zcp_if, zcq_if, zcp_some, zcq_some, zcp_none, zcq_none, zcp_let, zcq_let, zcp_gb, zcq_gb, zcb_zb2, zcb_zb2q, zcb_bd, zcb_bdq, zcx_let, zcx_letq, zcx_cp, lc_fX9_isVolunteer, lc_fX9_isStep, lc_fX11_isNight, lc_fX9_hasStep]
theorem lc_fX11_bar {B : zMem} (x1 : Int32) (x2 : Int32) (A : zMem) : fX11_bar x1 x2 (zmx A B) = zcp B (fX11_bar x1 x2 A) := by
  unfold fX11_bar
  simp (maxSteps := 2000000) (disch := first | assumption | decide | omega) only [zmx_1c, zmx_2c, zmx_R, zcx_ldI, zcx_ldJ, zcx_stI, zcx_stJ, zcx_stB, zcx_stZ, zcx_pI, zcx_pJ, zcx_pR, zcp_zb2, zcp_bd, zcq_zb2, zcq_bd, zcp_if, zcq_if, zcp_some, zcq_some, zcp_none, zcq_none, zcp_let, zcq_let, zcp_gb, zcq_gb, zcb_zb2, zcb_zb2q, zcb_bd, zcb_bdq, zcx_let, zcx_letq, zcx_cp, lc_fX9_addBar]
theorem lc_fX11_careIsDue {B : zMem} (N : Nat) (x1 : Int32) (A : zMem) : fX11_careIsDue N x1 (zmx A B) = zcp B (fX11_careIsDue N x1 A) := by
  unfold fX11_careIsDue
  simp (maxSteps := 2000000) (disch := first | assumption | decide | omega) only [zmx_1c, zmx_2c, zmx_R, zcx_ldI, zcx_ldJ, zcx_stI, zcx_stJ, zcx_stB, zcx_stZ, zcx_pI, zcx_pJ, zcx_pR, zcp_zb2, zcp_bd, zcq_zb2, zcq_bd, zcp_if, zcq_if, zcp_some, zcq_some, zcp_none, zcq_none, zcp_let, zcq_let, zcp_gb, zcq_gb, zcb_zb2, zcb_zb2q, zcb_bd, zcb_bdq, zcx_let, zcx_letq, zcx_cp, lc_fX9_caredFrom, lc_fX1_hasHardCall]
theorem lc_fX11_care {B : zMem} (N : Nat) (x1 : Int32) (A : zMem) : fX11_care N x1 (zmx A B) = zcp B (fX11_care N x1 A) := by
  unfold fX11_care
  simp (maxSteps := 2000000) (disch := first | assumption | decide | omega) only [zmx_1c, zmx_2c, zmx_R, zcx_ldI, zcx_ldJ, zcx_stI, zcx_stJ, zcx_stB, zcx_stZ, zcx_pI, zcx_pJ, zcx_pR, zcp_zb2, zcp_bd, zcq_zb2, zcq_bd, zcp_if, zcq_if, zcp_some, zcq_some, zcp_none, zcq_none, zcp_let, zcq_let, zcp_gb, zcq_gb, zcb_zb2, zcb_zb2q, zcb_bd, zcb_bdq, zcx_let, zcx_letq, zcx_cp, lc_fX9_isVolunteer, lc_fX11_careIsDue, lc_fX9_giveCare]
theorem lc_fX11_due {B : zMem} (N : Nat) (x1 : Int32) (A : zMem) : fX11_due N x1 (zmx A B) = zcp B (fX11_due N x1 A) := by
  unfold fX11_due
  simp (maxSteps := 2000000) (disch := first | assumption | decide | omega) only [zmx_1c, zmx_2c, zmx_R, zcx_ldI, zcx_ldJ, zcx_stI, zcx_stJ, zcx_stB, zcx_stZ, zcx_pI, zcx_pJ, zcx_pR, zcp_zb2, zcp_bd, zcq_zb2, zcq_bd, zcp_if, zcq_if, zcp_some, zcq_some, zcp_none, zcq_none, zcp_let, zcq_let, zcp_gb, zcq_gb, zcb_zb2, zcb_zb2q, zcb_bd, zcb_bdq, zcx_let, zcx_letq, zcx_cp, lc_fX9_isVolunteer, lc_fX11_careIsDue]
theorem lc_fX11_clock {B : zMem} (x1 : Int32) (A : zMem) : fX11_clock x1 (zmx A B) = zcp B (fX11_clock x1 A) := by
  unfold fX11_clock
  simp (maxSteps := 2000000) (disch := first | assumption | decide | omega) only [zmx_1c, zmx_2c, zmx_R, zcx_ldI, zcx_ldJ, zcx_stI, zcx_stJ, zcx_stB, zcx_stZ, zcx_pI, zcx_pJ, zcx_pR, zcp_zb2, zcp_bd, zcq_zb2, zcq_bd, zcp_if, zcq_if, zcp_some, zcq_some, zcp_none, zcq_none, zcp_let, zcq_let, zcp_gb, zcq_gb, zcb_zb2, zcb_zb2q, zcb_bd, zcb_bdq, zcx_let, zcx_letq, zcx_cp, lc_fX11_isWithin, lc_fX4_clear, lc_fX1_beginNight]
theorem lc_fX11_holiday {B : zMem} (x1 : Int32) (A : zMem) : fX11_holiday x1 (zmx A B) = zcp B (fX11_holiday x1 A) := by
  unfold fX11_holiday
  simp (maxSteps := 2000000) (disch := first | assumption | decide | omega) only [zmx_1c, zmx_2c, zmx_R, zcx_ldI, zcx_ldJ, zcx_stI, zcx_stJ, zcx_stB, zcx_stZ, zcx_pI, zcx_pJ, zcx_pR, zcp_zb2, zcp_bd, zcq_zb2, zcq_bd, zcp_if, zcq_if, zcp_some, zcq_some, zcp_none, zcq_none, zcp_let, zcq_let, zcp_gb, zcq_gb, zcb_zb2, zcb_zb2q, zcb_bd, zcb_bdq, zcx_let, zcx_letq, zcx_cp, lc_fX11_isNight, lc_fX0_isHoliday, lc_fX0_isGone, lc_fX0_setHoliday]
theorem lc_fX11_offer_L35 {B : zMem} (N : Nat) (x1 : Int32) (x2 : Int32) (x3 : Int32) (s0 : Int32) (A : zMem) : fX11_offer_L35 N x1 x2 x3 s0 (zmx A B) = zcp B (fX11_offer_L35 N x1 x2 x3 s0 A) := by
  unfold fX11_offer_L35
  simp (maxSteps := 2000000) (disch := first | assumption | decide | omega) only [zmx_1c, zmx_2c, zmx_R, zcx_ldI, zcx_ldJ, zcx_stI, zcx_stJ, zcx_stB, zcx_stZ, zcx_pI, zcx_pJ, zcx_pR, zcp_zb2, zcp_bd, zcq_zb2, zcq_bd, zcp_if, zcq_if, zcp_some, zcq_some, zcp_none, zcq_none, zcp_let, zcq_let, zcp_gb, zcq_gb, zcb_zb2, zcb_zb2q, zcb_bd, zcb_bdq, zcx_let, zcx_letq, zcx_cp, lc_fX0_isFound, lc_fX0_isGone, lc_fX4_add]
theorem lc_fX11_offer_L34 {B : zMem} (N : Nat) (x1 : Int32) (x2 : Int32) (x3 : Int32) (A : zMem) : fX11_offer_L34 N x1 x2 x3 (zmx A B) = zcp B (fX11_offer_L34 N x1 x2 x3 A) := by
  unfold fX11_offer_L34
  simp (maxSteps := 2000000) (disch := first | assumption | decide | omega) only [zmx_1c, zmx_2c, zmx_R, zcx_ldI, zcx_ldJ, zcx_stI, zcx_stJ, zcx_stB, zcx_stZ, zcx_pI, zcx_pJ, zcx_pR, zcp_zb2, zcp_bd, zcq_zb2, zcq_bd, zcp_if, zcq_if, zcp_some, zcq_some, zcp_none, zcq_none, zcp_let, zcq_let, zcp_gb, zcq_gb, zcb_zb2, zcb_zb2q, zcb_bd, zcb_bdq, zcx_let, zcx_letq, zcx_cp, lc_fX11_offer_L35]
theorem lc_fX11_offer {B : zMem} (N : Nat) (x1 : Int32) (x2 : Int32) (x3 : Int32) (A : zMem) : fX11_offer N x1 x2 x3 (zmx A B) = zcp B (fX11_offer N x1 x2 x3 A) := by
  unfold fX11_offer
  simp (maxSteps := 2000000) (disch := first | assumption | decide | omega) only [zmx_1c, zmx_2c, zmx_R, zcx_ldI, zcx_ldJ, zcx_stI, zcx_stJ, zcx_stB, zcx_stZ, zcx_pI, zcx_pJ, zcx_pR, zcp_zb2, zcp_bd, zcq_zb2, zcq_bd, zcp_if, zcq_if, zcp_some, zcq_some, zcp_none, zcq_none, zcp_let, zcq_let, zcp_gb, zcq_gb, zcb_zb2, zcb_zb2q, zcb_bd, zcb_bdq, zcx_let, zcx_letq, zcx_cp, lc_fX9_isVolunteer, lc_fX11_offer_L34, lc_fX11_isWithin, lc_fX11_offer_L35]
theorem lc_fX11_shifts_L79 {B : zMem} (N : Nat) (k39 : Int32 → zMem → Option (Int32 × zMem)) (hk39 : ∀ (y0 : Int32) (A : zMem), k39 y0 (zmx A B) = zcp B (k39 y0 A)) (x1 : Int32) (x2 : Int32) (s0 : Int32) (A : zMem) : fX11_shifts_L79 N k39 x1 x2 s0 (zmx A B) = zcp B (fX11_shifts_L79 N k39 x1 x2 s0 A) := by
  unfold fX11_shifts_L79
  simp (maxSteps := 2000000) (disch := first | assumption | decide | omega) only [zmx_1c, zmx_2c, zmx_R, zcx_ldI, zcx_ldJ, zcx_stI, zcx_stJ, zcx_stB, zcx_stZ, zcx_pI, zcx_pJ, zcx_pR, zcp_zb2, zcp_bd, zcq_zb2, zcq_bd, zcp_if, zcq_if, zcp_some, zcq_some, zcp_none, zcq_none, zcp_let, zcq_let, zcp_gb, zcq_gb, zcb_zb2, zcb_zb2q, zcb_bd, zcb_bdq, zcx_let, zcx_letq, zcx_cp, lc_fX4_mostOf, lc_fX9_hasStep, lc_fX7_add, hk39]
theorem lc_fX11_shifts_L125 {B : zMem} (N : Nat) : ∀ (n : Nat) (z0 : Int32) (z1 : Int32) (A : zMem), fX11_shifts_L125 N n z0 z1 (zmx A B) = zcp B (fX11_shifts_L125 N n z0 z1 A) := by
  intro n
  induction n with
  | zero => intros; rfl
  | succ n ih =>
    intro z0 z1 A
    simp (maxSteps := 2000000) (disch := first | assumption | decide | omega) only [fX11_shifts_L125, zmx_1c, zmx_2c, zmx_R, zcx_ldI, zcx_ldJ, zcx_stI, zcx_stJ, zcx_stB, zcx_stZ, zcx_pI, zcx_pJ, zcx_pR, zcp_zb2, zcp_bd, zcq_zb2, zcq_bd, zcp_if, zcq_if, zcp_some, zcq_some, zcp_none, zcq_none, zcp_let, zcq_let, zcp_gb, zcq_gb, zcb_zb2, zcb_zb2q, zcb_bd, zcb_bdq, zcx_let, zcx_letq, zcx_cp, lc_fX4_size, lc_fX0_setFound, lc_fX4_volunteerOf, lc_fX7_shiftOf, lc_fX0_setHours, ih]
theorem lc_fX11_shifts_L39 {B : zMem} (N : Nat) : ∀ (n : Nat) (z0 : Int32) (A : zMem), fX11_shifts_L39 N n z0 (zmx A B) = zcp B (fX11_shifts_L39 N n z0 A) := by
  intro n
  induction n with
  | zero => intros; rfl
  | succ n ih =>
    intro z0 A
    simp (maxSteps := 2000000) (disch := first | assumption | decide | omega) only [fX11_shifts_L39, zmx_1c, zmx_2c, zmx_R, zcx_ldI, zcx_ldJ, zcx_stI, zcx_stJ, zcx_stB, zcx_stZ, zcx_pI, zcx_pJ, zcx_pR, zcp_zb2, zcp_bd, zcq_zb2, zcq_bd, zcp_if, zcq_if, zcp_some, zcq_some, zcp_none, zcq_none, zcp_let, zcq_let, zcp_gb, zcq_gb, zcb_zb2, zcb_zb2q, zcb_bd, zcb_bdq, zcx_let, zcx_letq, zcx_cp, lc_fX4_size, lc_fX7_findBest, lc_fX11_shifts_L125, lc_fX4_volunteerOf, lc_fX11_careIsDue, lc_fX4_hoursOf, lc_fX11_shifts_L79, ih]
theorem lc_fX11_shifts {B : zMem} (N : Nat) (A : zMem) : fX11_shifts N (zmx A B) = zcp B (fX11_shifts N A) := by
  unfold fX11_shifts
  simp (maxSteps := 2000000) (disch := first | assumption | decide | omega) only [zmx_1c, zmx_2c, zmx_R, zcx_ldI, zcx_ldJ, zcx_stI, zcx_stJ, zcx_stB, zcx_stZ, zcx_pI, zcx_pJ, zcx_pR, zcp_zb2, zcp_bd, zcq_zb2, zcq_bd, zcp_if, zcq_if, zcp_some, zcq_some, zcp_none, zcq_none, zcp_let, zcq_let, zcp_gb, zcq_gb, zcb_zb2, zcb_zb2q, zcb_bd, zcb_bdq, zcx_let, zcx_letq, zcx_cp, lc_fX0_isFound, lc_fX0_isGone, lc_fX7_clear, lc_fX11_shifts_L39]
theorem lc_fX11_there {B : zMem} (x1 : Int32) (x2 : Int32) (A : zMem) : fX11_there x1 x2 (zmx A B) = zcp B (fX11_there x1 x2 A) := by
  unfold fX11_there
  simp (maxSteps := 2000000) (disch := first | assumption | decide | omega) only [zmx_1c, zmx_2c, zmx_R, zcx_ldI, zcx_ldJ, zcx_stI, zcx_stJ, zcx_stB, zcx_stZ, zcx_pI, zcx_pJ, zcx_pR, zcp_zb2, zcp_bd, zcq_zb2, zcq_bd, zcp_if, zcq_if, zcp_some, zcq_some, zcp_none, zcq_none, zcp_let, zcq_let, zcp_gb, zcq_gb, zcb_zb2, zcb_zb2q, zcb_bd, zcb_bdq, zcx_let, zcx_letq, zcx_cp, lc_fX9_isVolunteer, lc_fX11_isNight, lc_fX0_hoursOf]
theorem lc_fX11_keptHours_L68 {B : zMem} (N : Nat) (k10 : Int32 → Int32 → Int32 → Int32 → Int32 → zMem → Option (Int32 × zMem)) (hk10 : ∀ (y0 : Int32) (y1 : Int32) (y2 : Int32) (y3 : Int32) (y4 : Int32) (A : zMem), k10 y0 y1 y2 y3 y4 (zmx A B) = zcp B (k10 y0 y1 y2 y3 y4 A)) (x1 : Int32) (x2 : Int32) (x3 : Int32) (x5 : Int32) (s0 : Int32) (s1 : Int32) (A : zMem) : fX11_keptHours_L68 N k10 x1 x2 x3 x5 s0 s1 (zmx A B) = zcp B (fX11_keptHours_L68 N k10 x1 x2 x3 x5 s0 s1 A) := by
  unfold fX11_keptHours_L68
  simp (maxSteps := 2000000) (disch := first | assumption | decide | omega) only [zmx_1c, zmx_2c, zmx_R, zcx_ldI, zcx_ldJ, zcx_stI, zcx_stJ, zcx_stB, zcx_stZ, zcx_pI, zcx_pJ, zcx_pR, zcp_zb2, zcp_bd, zcq_zb2, zcq_bd, zcp_if, zcq_if, zcp_some, zcq_some, zcp_none, zcq_none, zcp_let, zcq_let, zcp_gb, zcq_gb, zcb_zb2, zcb_zb2q, zcb_bd, zcb_bdq, zcx_let, zcx_letq, zcx_cp, hk10]
theorem lc_fX11_keptHours_L10 {B : zMem} (N : Nat) : ∀ (n : Nat) (z0 : Int32) (z1 : Int32) (z2 : Int32) (z3 : Int32) (z4 : Int32) (A : zMem), fX11_keptHours_L10 N n z0 z1 z2 z3 z4 (zmx A B) = zcp B (fX11_keptHours_L10 N n z0 z1 z2 z3 z4 A) := by
  intro n
  induction n with
  | zero => intros; rfl
  | succ n ih =>
    intro z0 z1 z2 z3 z4 A
    simp (maxSteps := 2000000) (disch := first | assumption | decide | omega) only [fX11_keptHours_L10, zmx_1c, zmx_2c, zmx_R, zcx_ldI, zcx_ldJ, zcx_stI, zcx_stJ, zcx_stB, zcx_stZ, zcx_pI, zcx_pJ, zcx_pR, zcp_zb2, zcp_bd, zcq_zb2, zcq_bd, zcp_if, zcq_if, zcp_some, zcq_some, zcp_none, zcq_none, zcp_let, zcq_let, zcp_gb, zcq_gb, zcb_zb2, zcb_zb2q, zcb_bd, zcb_bdq, zcx_let, zcx_letq, zcx_cp, lc_fX9_size, lc_fX0_hoursOf, lc_fX9_hasStep, lc_fX11_keptHours_L68, ih]
theorem lc_fX11_keptHours {B : zMem} (N : Nat) (x1 : Int32) (A : zMem) : fX11_keptHours N x1 (zmx A B) = zcp B (fX11_keptHours N x1 A) := by
  unfold fX11_keptHours
  simp (maxSteps := 2000000) (disch := first | assumption | decide | omega) only [zmx_1c, zmx_2c, zmx_R, zcx_ldI, zcx_ldJ, zcx_stI, zcx_stJ, zcx_stB, zcx_stZ, zcx_pI, zcx_pJ, zcx_pR, zcp_zb2, zcp_bd, zcq_zb2, zcq_bd, zcp_if, zcq_if, zcp_some, zcq_some, zcp_none, zcq_none, zcp_let, zcq_let, zcp_gb, zcq_gb, zcb_zb2, zcb_zb2q, zcb_bd, zcb_bdq, zcx_let, zcx_letq, zcx_cp, lc_fX11_keptHours_L10]
theorem lc_fX11_lacks {B : zMem} (N : Nat) (x1 : Int32) (A : zMem) : fX11_lacks N x1 (zmx A B) = zcp B (fX11_lacks N x1 A) := by
  unfold fX11_lacks
  simp (maxSteps := 2000000) (disch := first | assumption | decide | omega) only [zmx_1c, zmx_2c, zmx_R, zcx_ldI, zcx_ldJ, zcx_stI, zcx_stJ, zcx_stB, zcx_stZ, zcx_pI, zcx_pJ, zcx_pR, zcp_zb2, zcp_bd, zcq_zb2, zcq_bd, zcp_if, zcq_if, zcp_some, zcq_some, zcp_none, zcq_none, zcp_let, zcq_let, zcp_gb, zcq_gb, zcb_zb2, zcb_zb2q, zcb_bd, zcb_bdq, zcx_let, zcx_letq, zcx_cp, lc_fX11_isNight, lc_fX0_isFound, lc_fX11_keptHours]
theorem lc_fX11_call_L55 {B : zMem} (x1 : Int32) (x2 : Int32) (x3 : Int32) (x4 : Int32) (x5 : Int32) (s0 : Int32) (A : zMem) : fX11_call_L55 x1 x2 x3 x4 x5 s0 (zmx A B) = zcp B (fX11_call_L55 x1 x2 x3 x4 x5 s0 A) := by
  unfold fX11_call_L55
  simp (maxSteps := 2000000) (disch := first | assumption | decide | omega) only [zmx_1c, zmx_2c, zmx_R, zcx_ldI, zcx_ldJ, zcx_stI, zcx_stJ, zcx_stB, zcx_stZ, zcx_pI, zcx_pJ, zcx_pR, zcp_zb2, zcp_bd, zcq_zb2, zcq_bd, zcp_if, zcq_if, zcp_some, zcq_some, zcp_none, zcq_none, zcp_let, zcq_let, zcp_gb, zcq_gb, zcb_zb2, zcb_zb2q, zcb_bd, zcb_bdq, zcx_let, zcx_letq, zcx_cp, lc_fX0_isGone, lc_fX1_add]
theorem lc_fX11_call_L54 {B : zMem} (x1 : Int32) (x2 : Int32) (x3 : Int32) (x4 : Int32) (x5 : Int32) (A : zMem) : fX11_call_L54 x1 x2 x3 x4 x5 (zmx A B) = zcp B (fX11_call_L54 x1 x2 x3 x4 x5 A) := by
  unfold fX11_call_L54
  simp (maxSteps := 2000000) (disch := first | assumption | decide | omega) only [zmx_1c, zmx_2c, zmx_R, zcx_ldI, zcx_ldJ, zcx_stI, zcx_stJ, zcx_stB, zcx_stZ, zcx_pI, zcx_pJ, zcx_pR, zcp_zb2, zcp_bd, zcq_zb2, zcq_bd, zcp_if, zcq_if, zcp_some, zcq_some, zcp_none, zcq_none, zcp_let, zcq_let, zcp_gb, zcq_gb, zcb_zb2, zcb_zb2q, zcb_bd, zcb_bdq, zcx_let, zcx_letq, zcx_cp, lc_fX11_call_L55]
theorem lc_fX11_call {B : zMem} (x1 : Int32) (x2 : Int32) (x3 : Int32) (x4 : Int32) (x5 : Int32) (A : zMem) : fX11_call x1 x2 x3 x4 x5 (zmx A B) = zcp B (fX11_call x1 x2 x3 x4 x5 A) := by
  unfold fX11_call
  simp (maxSteps := 2000000) (disch := first | assumption | decide | omega) only [zmx_1c, zmx_2c, zmx_R, zcx_ldI, zcx_ldJ, zcx_stI, zcx_stJ, zcx_stB, zcx_stZ, zcx_pI, zcx_pJ, zcx_pR, zcp_zb2, zcp_bd, zcq_zb2, zcq_bd, zcp_if, zcq_if, zcp_some, zcq_some, zcp_none, zcq_none, zcp_let, zcq_let, zcp_gb, zcq_gb, zcb_zb2, zcb_zb2q, zcb_bd, zcb_bdq, zcx_let, zcx_letq, zcx_cp, lc_fX11_isWithin, lc_fX11_call_L54, lc_fX11_isCaller, lc_fX11_call_L55]
theorem lc_fX11_go {B : zMem} (N : Nat) (A : zMem) : fX11_go N (zmx A B) = zcp B (fX11_go N A) := by
  unfold fX11_go
  simp (maxSteps := 2000000) (disch := first | assumption | decide | omega) only [zmx_1c, zmx_2c, zmx_R, zcx_ldI, zcx_ldJ, zcx_stI, zcx_stJ, zcx_stB, zcx_stZ, zcx_pI, zcx_pJ, zcx_pR, zcp_zb2, zcp_bd, zcq_zb2, zcq_bd, zcp_if, zcq_if, zcp_some, zcq_some, zcp_none, zcq_none, zcp_let, zcq_let, zcp_gb, zcq_gb, zcb_zb2, zcb_zb2q, zcb_bd, zcb_bdq, zcx_let, zcx_letq, zcx_cp, lc_fX0_isGone, lc_fX0_setGone, lc_fX2_goThrough]
theorem lc_fX11_told {B : zMem} (x1 : Int32) (x2 : Int32) (A : zMem) : fX11_told x1 x2 (zmx A B) = zcp B (fX11_told x1 x2 A) := by
  unfold fX11_told
  simp (maxSteps := 2000000) (disch := first | assumption | decide | omega) only [zmx_1c, zmx_2c, zmx_R, zcx_ldI, zcx_ldJ, zcx_stI, zcx_stJ, zcx_stB, zcx_stZ, zcx_pI, zcx_pJ, zcx_pR, zcp_zb2, zcp_bd, zcq_zb2, zcq_bd, zcp_if, zcq_if, zcp_some, zcq_some, zcp_none, zcq_none, zcp_let, zcq_let, zcp_gb, zcq_gb, zcb_zb2, zcb_zb2q, zcb_bd, zcb_bdq, zcx_let, zcx_letq, zcx_cp, lc_fX1_isCall, lc_fX1_nightOf, lc_fX1_stateOf, lc_fX1_takerOf, lc_fX1_sinceOf, lc_fX1_endOf, lc_fX1_callerOf]
theorem lc_fX11_talked {B : zMem} (N : Nat) (x1 : Int32) (x2 : Int32) (A : zMem) : fX11_talked N x1 x2 (zmx A B) = zcp B (fX11_talked N x1 x2 A) := by
  unfold fX11_talked
  simp (maxSteps := 2000000) (disch := first | assumption | decide | omega) only [zmx_1c, zmx_2c, zmx_R, zcx_ldI, zcx_ldJ, zcx_stI, zcx_stJ, zcx_stB, zcx_stZ, zcx_pI, zcx_pJ, zcx_pR, zcp_zb2, zcp_bd, zcq_zb2, zcq_bd, zcp_if, zcq_if, zcp_some, zcq_some, zcp_none, zcq_none, zcp_let, zcq_let, zcp_gb, zcq_gb, zcb_zb2, zcb_zb2q, zcb_bd, zcb_bdq, zcx_let, zcx_letq, zcx_cp, lc_fX9_isVolunteer, lc_fX0_isGone, lc_fX1_minutesOf]
theorem lc_fX11_note {B : zMem} (x1 : Int32) (x2 : Int32) (A : zMem) : fX11_note x1 x2 (zmx A B) = zcp B (fX11_note x1 x2 A) := by
  unfold fX11_note
  simp (maxSteps := 2000000) (disch := first | assumption | decide | omega) only [zmx_1c, zmx_2c, zmx_R, zcx_ldI, zcx_ldJ, zcx_stI, zcx_stJ, zcx_stB, zcx_stZ, zcx_pI, zcx_pJ, zcx_pR, zcp_zb2, zcp_bd, zcq_zb2, zcq_bd, zcp_if, zcq_if, zcp_some, zcq_some, zcp_none, zcq_none, zcp_let, zcq_let, zcp_gb, zcq_gb, zcb_zb2, zcb_zb2q, zcb_bd, zcb_bdq, zcx_let, zcx_letq, zcx_cp, lc_fX11_isWithin, lc_fX1_stateOf, lc_fX3_add]
theorem lc_fX11_maySee {B : zMem} (x1 : Int32) (x2 : Int32) (x3 : Int32) (A : zMem) : fX11_maySee x1 x2 x3 (zmx A B) = zcp B (fX11_maySee x1 x2 x3 A) := by
  unfold fX11_maySee
  simp (maxSteps := 2000000) (disch := first | assumption | decide | omega) only [zmx_1c, zmx_2c, zmx_R, zcx_ldI, zcx_ldJ, zcx_stI, zcx_stJ, zcx_stB, zcx_stZ, zcx_pI, zcx_pJ, zcx_pR, zcp_zb2, zcp_bd, zcq_zb2, zcq_bd, zcp_if, zcq_if, zcp_some, zcq_some, zcp_none, zcq_none, zcp_let, zcq_let, zcp_gb, zcq_gb, zcb_zb2, zcb_zb2q, zcb_bd, zcb_bdq, zcx_let, zcx_letq, zcx_cp, lc_fX3_nightOf, lc_fX3_callOf, lc_fX1_takerOf, lc_fX9_rankOf, lc_fX3_rankOf, lc_fX1_callerOf, lc_fX9_isBarred]
theorem lc_fX11_see {B : zMem} (x1 : Int32) (x2 : Int32) (x3 : Int32) (A : zMem) : fX11_see x1 x2 x3 (zmx A B) = zcp B (fX11_see x1 x2 x3 A) := by
  unfold fX11_see
  simp (maxSteps := 2000000) (disch := first | assumption | decide | omega) only [zmx_1c, zmx_2c, zmx_R, zcx_ldI, zcx_ldJ, zcx_stI, zcx_stJ, zcx_stB, zcx_stZ, zcx_pI, zcx_pJ, zcx_pR, zcp_zb2, zcp_bd, zcq_zb2, zcq_bd, zcp_if, zcq_if, zcp_some, zcq_some, zcp_none, zcq_none, zcp_let, zcq_let, zcp_gb, zcq_gb, zcb_zb2, zcb_zb2q, zcb_bd, zcb_bdq, zcx_let, zcx_letq, zcx_cp, lc_fX9_isVolunteer, lc_fX3_isNote, lc_fX11_isNight, lc_fX11_maySee]
theorem lc_fX11_isForerunner {B : zMem} (x1 : Int32) (x2 : Int32) (A : zMem) : fX11_isForerunner x1 x2 (zmx A B) = zcp B (fX11_isForerunner x1 x2 A) := by
  unfold fX11_isForerunner
  simp (maxSteps := 2000000) (disch := first | assumption | decide | omega) only [zmx_1c, zmx_2c, zmx_R, zcx_ldI, zcx_ldJ, zcx_stI, zcx_stJ, zcx_stB, zcx_stZ, zcx_pI, zcx_pJ, zcx_pR, zcp_zb2, zcp_bd, zcq_zb2, zcq_bd, zcp_if, zcq_if, zcp_some, zcq_some, zcp_none, zcq_none, zcp_let, zcq_let, zcp_gb, zcq_gb, zcb_zb2, zcb_zb2q, zcb_bd, zcb_bdq, zcx_let, zcx_letq, zcx_cp, lc_fX0_isGone, lc_fX0_areAlike]
theorem lc_fX11_foretold_L45 {B : zMem} (N : Nat) (k23 : Int32 → Int32 → Int32 → Int32 → zMem → Option (Int32 × zMem)) (hk23 : ∀ (y0 : Int32) (y1 : Int32) (y2 : Int32) (y3 : Int32) (A : zMem), k23 y0 y1 y2 y3 (zmx A B) = zcp B (k23 y0 y1 y2 y3 A)) (x1 : Int32) (x2 : Int32) (x3 : Int32) (x4 : Int32) (A : zMem) : fX11_foretold_L45 N k23 x1 x2 x3 x4 (zmx A B) = zcp B (fX11_foretold_L45 N k23 x1 x2 x3 x4 A) := by
  unfold fX11_foretold_L45
  simp (maxSteps := 2000000) (disch := first | assumption | decide | omega) only [zmx_1c, zmx_2c, zmx_R, zcx_ldI, zcx_ldJ, zcx_stI, zcx_stJ, zcx_stB, zcx_stZ, zcx_pI, zcx_pJ, zcx_pR, zcp_zb2, zcp_bd, zcq_zb2, zcq_bd, zcp_if, zcq_if, zcp_some, zcq_some, zcp_none, zcq_none, zcp_let, zcq_let, zcp_gb, zcq_gb, zcb_zb2, zcb_zb2q, zcb_bd, zcb_bdq, zcx_let, zcx_letq, zcx_cp, hk23]
theorem lc_fX11_foretold_L105 {B : zMem} (N : Nat) (k57 : Int32 → Int32 → Int32 → Int32 → Int32 → zMem → Option (Int32 × zMem)) (hk57 : ∀ (y0 : Int32) (y1 : Int32) (y2 : Int32) (y3 : Int32) (y4 : Int32) (A : zMem), k57 y0 y1 y2 y3 y4 (zmx A B) = zcp B (k57 y0 y1 y2 y3 y4 A)) (x1 : Int32) (x2 : Int32) (x3 : Int32) (x4 : Int32) (x5 : Int32) (A : zMem) : fX11_foretold_L105 N k57 x1 x2 x3 x4 x5 (zmx A B) = zcp B (fX11_foretold_L105 N k57 x1 x2 x3 x4 x5 A) := by
  unfold fX11_foretold_L105
  simp (maxSteps := 2000000) (disch := first | assumption | decide | omega) only [zmx_1c, zmx_2c, zmx_R, zcx_ldI, zcx_ldJ, zcx_stI, zcx_stJ, zcx_stB, zcx_stZ, zcx_pI, zcx_pJ, zcx_pR, zcp_zb2, zcp_bd, zcq_zb2, zcq_bd, zcp_if, zcq_if, zcp_some, zcq_some, zcp_none, zcq_none, zcp_let, zcq_let, zcp_gb, zcq_gb, zcb_zb2, zcb_zb2q, zcb_bd, zcb_bdq, zcx_let, zcx_letq, zcx_cp, hk57]
theorem lc_fX11_foretold_L57 {B : zMem} (N : Nat) : ∀ (n : Nat) (z0 : Int32) (z1 : Int32) (z2 : Int32) (z3 : Int32) (z4 : Int32) (A : zMem), fX11_foretold_L57 N n z0 z1 z2 z3 z4 (zmx A B) = zcp B (fX11_foretold_L57 N n z0 z1 z2 z3 z4 A) := by
  intro n
  induction n with
  | zero => intros; rfl
  | succ n ih =>
    intro z0 z1 z2 z3 z4 A
    simp (maxSteps := 2000000) (disch := first | assumption | decide | omega) only [fX11_foretold_L57, zmx_1c, zmx_2c, zmx_R, zcx_ldI, zcx_ldJ, zcx_stI, zcx_stJ, zcx_stB, zcx_stZ, zcx_pI, zcx_pJ, zcx_pR, zcp_zb2, zcp_bd, zcq_zb2, zcq_bd, zcp_if, zcq_if, zcp_some, zcq_some, zcp_none, zcq_none, zcp_let, zcq_let, zcp_gb, zcq_gb, zcb_zb2, zcb_zb2q, zcb_bd, zcb_bdq, zcx_let, zcx_letq, zcx_cp, lc_fX1_size, lc_fX1_minuteOf, lc_fX1_nightOf, lc_fX11_isForerunner, lc_fX11_foretold_L105, ih]
theorem lc_fX11_foretold_L23 {B : zMem} (N : Nat) : ∀ (n : Nat) (z0 : Int32) (z1 : Int32) (z2 : Int32) (z3 : Int32) (A : zMem), fX11_foretold_L23 N n z0 z1 z2 z3 (zmx A B) = zcp B (fX11_foretold_L23 N n z0 z1 z2 z3 A) := by
  intro n
  induction n with
  | zero => intros; rfl
  | succ n ih =>
    intro z0 z1 z2 z3 A
    simp (maxSteps := 2000000) (disch := first | assumption | decide | omega) only [fX11_foretold_L23, zmx_1c, zmx_2c, zmx_R, zcx_ldI, zcx_ldJ, zcx_stI, zcx_stJ, zcx_stB, zcx_stZ, zcx_pI, zcx_pJ, zcx_pR, zcp_zb2, zcp_bd, zcq_zb2, zcq_bd, zcp_if, zcq_if, zcp_some, zcq_some, zcp_none, zcq_none, zcp_let, zcq_let, zcp_gb, zcq_gb, zcb_zb2, zcb_zb2q, zcb_bd, zcb_bdq, zcx_let, zcx_letq, zcx_cp, lc_fX11_foretold_L57, lc_fX11_isForerunner, lc_fX11_foretold_L45, ih]
theorem lc_fX11_foretold {B : zMem} (N : Nat) (x1 : Int32) (x2 : Int32) (A : zMem) : fX11_foretold N x1 x2 (zmx A B) = zcp B (fX11_foretold N x1 x2 A) := by
  unfold fX11_foretold
  simp (maxSteps := 2000000) (disch := first | assumption | decide | omega) only [zmx_1c, zmx_2c, zmx_R, zcx_ldI, zcx_ldJ, zcx_stI, zcx_stJ, zcx_stB, zcx_stZ, zcx_pI, zcx_pJ, zcx_pR, zcp_zb2, zcp_bd, zcq_zb2, zcq_bd, zcp_if, zcq_if, zcp_some, zcq_some, zcp_none, zcq_none, zcp_let, zcq_let, zcp_gb, zcq_gb, zcb_zb2, zcb_zb2q, zcb_bd, zcb_bdq, zcx_let, zcx_letq, zcx_cp, lc_fX11_isWithin, lc_fX11_isNight, lc_fX11_foretold_L23]
theorem lc_fX11_count {B : zMem} (N : Nat) (x1 : Int32) (A : zMem) : fX11_count N x1 (zmx A B) = zcp B (fX11_count N x1 A) := by
  unfold fX11_count
  simp (maxSteps := 2000000) (disch := first | assumption | decide | omega) only [zmx_1c, zmx_2c, zmx_R, zcx_ldI, zcx_ldJ, zcx_stI, zcx_stJ, zcx_stB, zcx_stZ, zcx_pI, zcx_pJ, zcx_pR, zcp_zb2, zcp_bd, zcq_zb2, zcq_bd, zcp_if, zcq_if, zcp_some, zcq_some, zcp_none, zcq_none, zcp_let, zcq_let, zcp_gb, zcq_gb, zcb_zb2, zcb_zb2q, zcb_bd, zcb_bdq, zcx_let, zcx_letq, zcx_cp, lc_fX9_size, lc_fX9_stepCount, lc_fX1_size, lc_fX1_countState, lc_fX3_size, lc_fX6_size, lc_fX0_countGone, lc_fX8_length, lcd_fX6_size]
