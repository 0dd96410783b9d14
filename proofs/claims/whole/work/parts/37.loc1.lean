theorem lm_fX12_care {A : zMem} (N : Nat) (x1 : Int32) (B : zMem) : fX12_care N x1 (zmx A B) = zmp A (fX12_care N x1 B) := by
  unfold fX12_care
  simp (maxSteps := 2000000) (disch := first | assumption | decide) only [zmx_1, zmx_2, zmx_ldI, zmx_ldJ, zmx_stI, zmx_stJ, zmx_stB, zmx_stZ, zmx_pI, zmx_pJ, zmp_zb2, zmp_bd, zmq_zb2, zmq_bd, zmp_if, zmq_if, zmp_some, zmq_some, zmp_none, zmq_none, zmp_let, zmq_let, zmp_gb, zmq_gb, zmb_zb2, zmb_zb2q, zmb_bd, zmb_bdq, zmx_let, zmx_letq, lm_fX12_isVolunteer, lm_fX12_isDue]
theorem lm_fX12_due {A : zMem} (N : Nat) (x1 : Int32) (B : zMem) : fX12_due N x1 (zmx A B) = zmp A (fX12_due N x1 B) := by
  unfold fX12_due
  simp (maxSteps := 2000000) (disch := first | assumption | decide) only [zmx_1, zmx_2, zmx_ldI, zmx_ldJ, zmx_stI, zmx_stJ, zmx_stB, zmx_stZ, zmx_pI, zmx_pJ, zmp_zb2, zmp_bd, zmq_zb2, zmq_bd, zmp_if, zmq_if, zmp_some, zmq_some, zmp_none, zmq_none, zmp_let, zmq_let, zmp_gb, zmq_gb, zmb_zb2, zmb_zb2q, zmb_bd, zmb_bdq, zmx_let, zmx_letq, lm_fX12_isVolunteer, lm_fX12_isDue]
theorem lm_fX12_clock {A : zMem} (x1 : Int32) (B : zMem) : fX12_clock x1 (zmx A B) = zmp A (fX12_clock x1 B) := by
  unfold fX12_clock
  simp (maxSteps := 2000000) (disch := first | assumption | decide) only [zmx_1, zmx_2, zmx_ldI, zmx_ldJ, zmx_stI, zmx_stJ, zmx_stB, zmx_stZ, zmx_pI, zmx_pJ, zmp_zb2, zmp_bd, zmq_zb2, zmq_bd, zmp_if, zmq_if, zmp_some, zmq_some, zmp_none, zmq_none, zmp_let, zmq_let, zmp_gb, zmq_gb, zmb_zb2, zmb_zb2q, zmb_bd, zmb_bdq, zmx_let, zmx_letq]
theorem lm_fX12_holiday {A : zMem} (x1 : Int32) (B : zMem) : fX12_holiday x1 (zmx A B) = zmp A (fX12_holiday x1 B) := by
  unfold fX12_holiday
  simp (maxSteps := 2000000) (disch := first | assumption | decide) only [zmx_1, zmx_2, zmx_ldI, zmx_ldJ, zmx_stI, zmx_stJ, zmx_stB, zmx_stZ, zmx_pI, zmx_pJ, zmp_zb2, zmp_bd, zmq_zb2, zmq_bd, zmp_if, zmq_if, zmp_some, zmq_some, zmp_none, zmq_none, zmp_let, zmq_let, zmp_gb, zmq_gb, zmb_zb2, zmb_zb2q, zmb_bd, zmb_bdq, zmx_let, zmx_letq, lm_fX12_isNight]
theorem lm_fX12_offer_L76 {A : zMem} (N : Nat) : ∀ (n : Nat) (z0 : Int32) (z1 : Int32) (z2 : Int32) (z3 : Int32) (B : zMem), fX12_offer_L76 N n z0 z1 z2 z3 (zmx A B) = zmp A (fX12_offer_L76 N n z0 z1 z2 z3 B) := by
  intro n
  induction n with
  | zero => intros; rfl
  | succ n ih =>
    intro z0 z1 z2 z3 B
    simp (maxSteps := 2000000) (disch := first | assumption | decide) only [fX12_offer_L76, zmx_1, zmx_2, zmx_ldI, zmx_ldJ, zmx_stI, zmx_stJ, zmx_stB, zmx_stZ, zmx_pI, zmx_pJ, zmp_zb2, zmp_bd, zmq_zb2, zmq_bd, zmp_if, zmq_if, zmp_some, zmq_some, zmp_none, zmq_none, zmp_let, zmq_let, zmp_gb, zmq_gb, zmb_zb2, zmb_zb2q, zmb_bd, zmb_bdq, zmx_let, zmx_letq, ih]
theorem lm_fX12_offer {A : zMem} (N : Nat) (x1 : Int32) (x2 : Int32) (x3 : Int32) (B : zMem) : fX12_offer N x1 x2 x3 (zmx A B) = zmp A (fX12_offer N x1 x2 x3 B) := by
  unfold fX12_offer
  simp (maxSteps := 2000000) (disch := first | assumption | decide) only [zmx_1, zmx_2, zmx_ldI, zmx_ldJ, zmx_stI, zmx_stJ, zmx_stB, zmx_stZ, zmx_pI, zmx_pJ, zmp_zb2, zmp_bd, zmq_zb2, zmq_bd, zmp_if, zmq_if, zmp_some, zmq_some, zmp_none, zmq_none, zmp_let, zmq_let, zmp_gb, zmq_gb, zmb_zb2, zmb_zb2q, zmb_bd, zmb_bdq, zmx_let, zmx_letq, lm_fX12_isVolunteer, lm_fX12_offer_L76]
theorem lm_fX12_lists_L129 {A : zMem} (N : Nat) (k33 : Int32 → Int32 → Int32 → zMem → Option zMem) (hk33 : ∀ (y0 : Int32) (y1 : Int32) (y2 : Int32) (B : zMem), k33 y0 y1 y2 (zmx A B) = zmq A (k33 y0 y1 y2 B)) (x1 : Int32) (x2 : Int32) (x3 : Int32) (B : zMem) : fX12_lists_L129 N k33 x1 x2 x3 (zmx A B) = zmq A (fX12_lists_L129 N k33 x1 x2 x3 B) := by
  unfold fX12_lists_L129
  simp (maxSteps := 2000000) (disch := first | assumption | decide) only [zmx_1, zmx_2, zmx_ldI, zmx_ldJ, zmx_stI, zmx_stJ, zmx_stB, zmx_stZ, zmx_pI, zmx_pJ, zmp_zb2, zmp_bd, zmq_zb2, zmq_bd, zmp_if, zmq_if, zmp_some, zmq_some, zmp_none, zmq_none, zmp_let, zmq_let, zmp_gb, zmq_gb, zmb_zb2, zmb_zb2q, zmb_bd, zmb_bdq, zmx_let, zmx_letq, hk33]
theorem lm_fX12_lists_L45 {A : zMem} (N : Nat) (k33 : Int32 → Int32 → Int32 → zMem → Option zMem) (hk33 : ∀ (y0 : Int32) (y1 : Int32) (y2 : Int32) (B : zMem), k33 y0 y1 y2 (zmx A B) = zmq A (k33 y0 y1 y2 B)) : ∀ (n : Nat) (z0 : Int32) (z1 : Int32) (z2 : Int32) (z3 : Int32) (z4 : Int32) (B : zMem), fX12_lists_L45 N k33 n z0 z1 z2 z3 z4 (zmx A B) = zmq A (fX12_lists_L45 N k33 n z0 z1 z2 z3 z4 B) := by
  intro n
  induction n with
  | zero => intros; rfl
  | succ n ih =>
    intro z0 z1 z2 z3 z4 B
    simp (maxSteps := 2000000) (disch := first | assumption | decide) only [fX12_lists_L45, zmx_1, zmx_2, zmx_ldI, zmx_ldJ, zmx_stI, zmx_stJ, zmx_stB, zmx_stZ, zmx_pI, zmx_pJ, zmp_zb2, zmp_bd, zmq_zb2, zmq_bd, zmp_if, zmq_if, zmp_some, zmq_some, zmp_none, zmq_none, zmp_let, zmq_let, zmp_gb, zmq_gb, zmb_zb2, zmb_zb2q, zmb_bd, zmb_bdq, zmx_let, zmx_letq, lm_fX12_lists_L129, ih, hk33]
theorem lm_fX12_lists_L33 {A : zMem} (N : Nat) : ∀ (n : Nat) (z0 : Int32) (z1 : Int32) (z2 : Int32) (B : zMem), fX12_lists_L33 N n z0 z1 z2 (zmx A B) = zmq A (fX12_lists_L33 N n z0 z1 z2 B) := by
  intro n
  induction n with
  | zero => intros; rfl
  | succ n ih =>
    intro z0 z1 z2 B
    simp (maxSteps := 2000000) (disch := first | assumption | decide) only [fX12_lists_L33, zmx_1, zmx_2, zmx_ldI, zmx_ldJ, zmx_stI, zmx_stJ, zmx_stB, zmx_stZ, zmx_pI, zmx_pJ, zmp_zb2, zmp_bd, zmq_zb2, zmq_bd, zmp_if, zmq_if, zmp_some, zmq_some, zmp_none, zmq_none, zmp_let, zmq_let, zmp_gb, zmq_gb, zmb_zb2, zmb_zb2q, zmb_bd, zmb_bdq, zmx_let, zmx_letq, lm_fX12_lists_L45, ih]
theorem lm_fX12_lists {A : zMem} (N : Nat) (x1 : Int32) (x2 : Int32) (B : zMem) : fX12_lists N x1 x2 (zmx A B) = zmq A (fX12_lists N x1 x2 B) := by
  unfold fX12_lists
  simp (maxSteps := 2000000) (disch := first | assumption | decide) only [zmx_1, zmx_2, zmx_ldI, zmx_ldJ, zmx_stI, zmx_stJ, zmx_stB, zmx_stZ, zmx_pI, zmx_pJ, zmp_zb2, zmp_bd, zmq_zb2, zmq_bd, zmp_if, zmq_if, zmp_some, zmq_some, zmp_none, zmq_none, zmp_let, zmq_let, zmp_gb, zmq_gb, zmb_zb2, zmb_zb2q, zmb_bd, zmb_bdq, zmx_let, zmx_letq, lm_fX12_isDue, lm_fX12_lists_L33]
theorem lm_fX12_bits_L4 {A : zMem} (N : Nat) : ∀ (n : Nat) (z0 : Int32) (z1 : Int32) (z2 : Int32) (B : zMem), fX12_bits_L4 N n z0 z1 z2 (zmx A B) = zmp A (fX12_bits_L4 N n z0 z1 z2 B) := by
  intro n
  induction n with
  | zero => intros; rfl
  | succ n ih =>
    intro z0 z1 z2 B
    simp (maxSteps := 2000000) (disch := first | assumption | decide) only [fX12_bits_L4, zmx_1, zmx_2, zmx_ldI, zmx_ldJ, zmx_stI, zmx_stJ, zmx_stB, zmx_stZ, zmx_pI, zmx_pJ, zmp_zb2, zmp_bd, zmq_zb2, zmq_bd, zmp_if, zmq_if, zmp_some, zmq_some, zmp_none, zmq_none, zmp_let, zmq_let, zmp_gb, zmq_gb, zmb_zb2, zmb_zb2q, zmb_bd, zmb_bdq, zmx_let, zmx_letq, ih]
theorem lm_fX12_bits {A : zMem} (N : Nat) (x0 : Int32) (B : zMem) : fX12_bits N x0 (zmx A B) = zmp A (fX12_bits N x0 B) := by
  unfold fX12_bits
  simp (maxSteps := 2000000) (disch := first | assumption | decide) only [zmx_1, zmx_2, zmx_ldI, zmx_ldJ, zmx_stI, zmx_stJ, zmx_stB, zmx_stZ, zmx_pI, zmx_pJ, zmp_zb2, zmp_bd, zmq_zb2, zmq_bd, zmp_if, zmq_if, zmp_some, zmq_some, zmp_none, zmq_none, zmp_let, zmq_let, zmp_gb, zmq_gb, zmb_zb2, zmb_zb2q, zmb_bd, zmb_bdq, zmx_let, zmx_letq, lm_fX12_bits_L4]
theorem lm_fX12_keeps_L68 {A : zMem} (N : Nat) (k11 : Int32 → Int32 → Int32 → Int32 → Int32 → Int32 → zMem → Option (Int32 × zMem)) (hk11 : ∀ (y0 : Int32) (y1 : Int32) (y2 : Int32) (y3 : Int32) (y4 : Int32) (y5 : Int32) (B : zMem), k11 y0 y1 y2 y3 y4 y5 (zmx A B) = zmp A (k11 y0 y1 y2 y3 y4 y5 B)) (x1 : Int32) (x2 : Int32) (x3 : Int32) (x4 : Int32) (x5 : Int32) (x6 : Int32) (B : zMem) : fX12_keeps_L68 N k11 x1 x2 x3 x4 x5 x6 (zmx A B) = zmp A (fX12_keeps_L68 N k11 x1 x2 x3 x4 x5 x6 B) := by
  unfold fX12_keeps_L68
  simp (maxSteps := 2000000) (disch := first | assumption | decide) only [zmx_1, zmx_2, zmx_ldI, zmx_ldJ, zmx_stI, zmx_stJ, zmx_stB, zmx_stZ, zmx_pI, zmx_pJ, zmp_zb2, zmp_bd, zmq_zb2, zmq_bd, zmp_if, zmq_if, zmp_some, zmq_some, zmp_none, zmq_none, zmp_let, zmq_let, zmp_gb, zmq_gb, zmb_zb2, zmb_zb2q, zmb_bd, zmb_bdq, zmx_let, zmx_letq, hk11]
theorem lm_fX12_keeps_L11 {A : zMem} (N : Nat) : ∀ (n : Nat) (z0 : Int32) (z1 : Int32) (z2 : Int32) (z3 : Int32) (z4 : Int32) (z5 : Int32) (B : zMem), fX12_keeps_L11 N n z0 z1 z2 z3 z4 z5 (zmx A B) = zmp A (fX12_keeps_L11 N n z0 z1 z2 z3 z4 z5 B) := by
  intro n
  induction n with
  | zero => intros; rfl
  | succ n ih =>
    intro z0 z1 z2 z3 z4 z5 B
    simp (maxSteps := 2000000) (disch := first | assumption | decide) only [fX12_keeps_L11, zmx_1, zmx_2, zmx_ldI, zmx_ldJ, zmx_stI, zmx_stJ, zmx_stB, zmx_stZ, zmx_pI, zmx_pJ, zmp_zb2, zmp_bd, zmq_zb2, zmq_bd, zmp_if, zmq_if, zmp_some, zmq_some, zmp_none, zmq_none, zmp_let, zmq_let, zmp_gb, zmq_gb, zmb_zb2, zmb_zb2q, zmb_bd, zmb_bdq, zmx_let, zmx_letq, lm_fX12_keeps_L68, ih]
theorem lm_fX12_keeps {A : zMem} (N : Nat) (x1 : Int32) (x2 : Int32) (B : zMem) : fX12_keeps N x1 x2 (zmx A B) = zmp A (fX12_keeps N x1 x2 B) := by
  unfold fX12_keeps
  simp (maxSteps := 2000000) (disch := first | assumption | decide) only [zmx_1, zmx_2, zmx_ldI, zmx_ldJ, zmx_stI, zmx_stJ, zmx_stB, zmx_stZ, zmx_pI, zmx_pJ, zmp_zb2, zmp_bd, zmq_zb2, zmq_bd, zmp_if, zmq_if, zmp_some, zmq_some, zmp_none, zmq_none, zmp_let, zmq_let, zmp_gb, zmq_gb, zmb_zb2, zmb_zb2q, zmb_bd, zmb_bdq, zmx_let, zmx_letq, lm_fX12_keeps_L11]
theorem lm_fX12_shifts_L103 {A : zMem} (N : Nat) (k40 : Int32 → Int32 → Int32 → zMem → Option (Int32 × zMem)) (hk40 : ∀ (y0 : Int32) (y1 : Int32) (y2 : Int32) (B : zMem), k40 y0 y1 y2 (zmx A B) = zmp A (k40 y0 y1 y2 B)) (x1 : Int32) (x2 : Int32) (x3 : Int32) (B : zMem) : fX12_shifts_L103 N k40 x1 x2 x3 (zmx A B) = zmp A (fX12_shifts_L103 N k40 x1 x2 x3 B) := by
  unfold fX12_shifts_L103
  simp (maxSteps := 2000000) (disch := first | assumption | decide) only [zmx_1, zmx_2, zmx_ldI, zmx_ldJ, zmx_stI, zmx_stJ, zmx_stB, zmx_stZ, zmx_pI, zmx_pJ, zmp_zb2, zmp_bd, zmq_zb2, zmq_bd, zmp_if, zmq_if, zmp_some, zmq_some, zmp_none, zmq_none, zmp_let, zmq_let, zmp_gb, zmq_gb, zmb_zb2, zmb_zb2q, zmb_bd, zmb_bdq, zmx_let, zmx_letq, hk40]
theorem lm_fX12_shifts_L303 {A : zMem} (N : Nat) (k117 : Int32 → Int32 → Int32 → Int32 → Int32 → zMem → Option (Int32 × zMem)) (hk117 : ∀ (y0 : Int32) (y1 : Int32) (y2 : Int32) (y3 : Int32) (y4 : Int32) (B : zMem), k117 y0 y1 y2 y3 y4 (zmx A B) = zmp A (k117 y0 y1 y2 y3 y4 B)) (x1 : Int32) (x2 : Int32) (x3 : Int32) (x4 : Int32) (x5 : Int32) (B : zMem) : fX12_shifts_L303 N k117 x1 x2 x3 x4 x5 (zmx A B) = zmp A (fX12_shifts_L303 N k117 x1 x2 x3 x4 x5 B) := by
  unfold fX12_shifts_L303
  simp (maxSteps := 2000000) (disch := first | assumption | decide) only [zmx_1, zmx_2, zmx_ldI, zmx_ldJ, zmx_stI, zmx_stJ, zmx_stB, zmx_stZ, zmx_pI, zmx_pJ, zmp_zb2, zmp_bd, zmq_zb2, zmq_bd, zmp_if, zmq_if, zmp_some, zmq_some, zmp_none, zmq_none, zmp_let, zmq_let, zmp_gb, zmq_gb, zmb_zb2, zmb_zb2q, zmb_bd, zmb_bdq, zmx_let, zmx_letq, hk117]
theorem lm_fX12_shifts_L285 {A : zMem} (N : Nat) (k117 : Int32 → Int32 → Int32 → Int32 → Int32 → zMem → Option (Int32 × zMem)) (hk117 : ∀ (y0 : Int32) (y1 : Int32) (y2 : Int32) (y3 : Int32) (y4 : Int32) (B : zMem), k117 y0 y1 y2 y3 y4 (zmx A B) = zmp A (k117 y0 y1 y2 y3 y4 B)) (x1 : Int32) (x2 : Int32) (x3 : Int32) (x4 : Int32) (x8 : Int32) (s0 : Int32) (B : zMem) : fX12_shifts_L285 N k117 x1 x2 x3 x4 x8 s0 (zmx A B) = zmp A (fX12_shifts_L285 N k117 x1 x2 x3 x4 x8 s0 B) := by
  unfold fX12_shifts_L285
  simp (maxSteps := 2000000) (disch := first | assumption | decide) only [zmx_1, zmx_2, zmx_ldI, zmx_ldJ, zmx_stI, zmx_stJ, zmx_stB, zmx_stZ, zmx_pI, zmx_pJ, zmp_zb2, zmp_bd, zmq_zb2, zmq_bd, zmp_if, zmq_if, zmp_some, zmq_some, zmp_none, zmq_none, zmp_let, zmq_let, zmp_gb, zmq_gb, zmb_zb2, zmb_zb2q, zmb_bd, zmb_bdq, zmx_let, zmx_letq, lm_fX12_shifts_L303, hk117]
theorem lm_fX12_shifts_L275 {A : zMem} (N : Nat) (k117 : Int32 → Int32 → Int32 → Int32 → Int32 → zMem → Option (Int32 × zMem)) (hk117 : ∀ (y0 : Int32) (y1 : Int32) (y2 : Int32) (y3 : Int32) (y4 : Int32) (B : zMem), k117 y0 y1 y2 y3 y4 (zmx A B) = zmp A (k117 y0 y1 y2 y3 y4 B)) (x1 : Int32) (x2 : Int32) (x3 : Int32) (x4 : Int32) (x8 : Int32) (B : zMem) : fX12_shifts_L275 N k117 x1 x2 x3 x4 x8 (zmx A B) = zmp A (fX12_shifts_L275 N k117 x1 x2 x3 x4 x8 B) := by
  unfold fX12_shifts_L275
  simp (maxSteps := 2000000) (disch := first | assumption | decide) only [zmx_1, zmx_2, zmx_ldI, zmx_ldJ, zmx_stI, zmx_stJ, zmx_stB, zmx_stZ, zmx_pI, zmx_pJ, zmp_zb2, zmp_bd, zmq_zb2, zmq_bd, zmp_if, zmq_if, zmp_some, zmq_some, zmp_none, zmq_none, zmp_let, zmq_let, zmp_gb, zmq_gb, zmb_zb2, zmb_zb2q, zmb_bd, zmb_bdq, zmx_let, zmx_letq, lm_fX12_shifts_L285, hk117]
theorem lm_fX12_shifts_L237 {A : zMem} (N : Nat) (k117 : Int32 → Int32 → Int32 → Int32 → Int32 → zMem → Option (Int32 × zMem)) (hk117 : ∀ (y0 : Int32) (y1 : Int32) (y2 : Int32) (y3 : Int32) (y4 : Int32) (B : zMem), k117 y0 y1 y2 y3 y4 (zmx A B) = zmp A (k117 y0 y1 y2 y3 y4 B)) : ∀ (n : Nat) (z0 : Int32) (z1 : Int32) (z2 : Int32) (z3 : Int32) (z4 : Int32) (B : zMem), fX12_shifts_L237 N k117 n z0 z1 z2 z3 z4 (zmx A B) = zmp A (fX12_shifts_L237 N k117 n z0 z1 z2 z3 z4 B) := by
  intro n
  induction n with
  | zero => intros; rfl
  | succ n ih =>
    intro z0 z1 z2 z3 z4 B
    simp (maxSteps := 2000000) (disch := first | assumption | decide) only [fX12_shifts_L237, zmx_1, zmx_2, zmx_ldI, zmx_ldJ, zmx_stI, zmx_stJ, zmx_stB, zmx_stZ, zmx_pI, zmx_pJ, zmp_zb2, zmp_bd, zmq_zb2, zmq_bd, zmp_if, zmq_if, zmp_some, zmq_some, zmp_none, zmq_none, zmp_let, zmq_let, zmp_gb, zmq_gb, zmb_zb2, zmb_zb2q, zmb_bd, zmb_bdq, zmx_let, zmx_letq, lm_fX12_shifts_L275, ih, hk117]
theorem lm_fX12_shifts_L232 {A : zMem} (N : Nat) (k117 : Int32 → Int32 → Int32 → Int32 → Int32 → zMem → Option (Int32 × zMem)) (hk117 : ∀ (y0 : Int32) (y1 : Int32) (y2 : Int32) (y3 : Int32) (y4 : Int32) (B : zMem), k117 y0 y1 y2 y3 y4 (zmx A B) = zmp A (k117 y0 y1 y2 y3 y4 B)) (x1 : Int32) (x2 : Int32) (x3 : Int32) (x4 : Int32) (B : zMem) : fX12_shifts_L232 N k117 x1 x2 x3 x4 (zmx A B) = zmp A (fX12_shifts_L232 N k117 x1 x2 x3 x4 B) := by
  unfold fX12_shifts_L232
  simp (maxSteps := 2000000) (disch := first | assumption | decide) only [zmx_1, zmx_2, zmx_ldI, zmx_ldJ, zmx_stI, zmx_stJ, zmx_stB, zmx_stZ, zmx_pI, zmx_pJ, zmp_zb2, zmp_bd, zmq_zb2, zmq_bd, zmp_if, zmq_if, zmp_some, zmq_some, zmp_none, zmq_none, zmp_let, zmq_let, zmp_gb, zmq_gb, zmb_zb2, zmb_zb2q, zmb_bd, zmb_bdq, zmx_let, zmx_letq, lm_fX12_shifts_L237, hk117]
theorem lm_fX12_shifts_L206 {A : zMem} (N : Nat) (k117 : Int32 → Int32 → Int32 → Int32 → Int32 → zMem → Option (Int32 × zMem)) (hk117 : ∀ (y0 : Int32) (y1 : Int32) (y2 : Int32) (y3 : Int32) (y4 : Int32) (B : zMem), k117 y0 y1 y2 y3 y4 (zmx A B) = zmp A (k117 y0 y1 y2 y3 y4 B)) : ∀ (n : Nat) (z0 : Int32) (z1 : Int32) (z2 : Int32) (z3 : Int32) (z4 : Int32) (B : zMem), fX12_shifts_L206 N k117 n z0 z1 z2 z3 z4 (zmx A B) = zmp A (fX12_shifts_L206 N k117 n z0 z1 z2 z3 z4 B) := by
  intro n
  induction n with
  | zero => intros; rfl
  | succ n ih =>
    intro z0 z1 z2 z3 z4 B
    simp (maxSteps := 2000000) (disch := first | assumption | decide) only [fX12_shifts_L206, zmx_1, zmx_2, zmx_ldI, zmx_ldJ, zmx_stI, zmx_stJ, zmx_stB, zmx_stZ, zmx_pI, zmx_pJ, zmp_zb2, zmp_bd, zmq_zb2, zmq_bd, zmp_if, zmq_if, zmp_some, zmq_some, zmp_none, zmq_none, zmp_let, zmq_let, zmp_gb, zmq_gb, zmb_zb2, zmb_zb2q, zmb_bd, zmb_bdq, zmx_let, zmx_letq, lm_fX12_shifts_L232, ih, hk117]
theorem lm_fX12_shifts_L196 {A : zMem} (N : Nat) (k117 : Int32 → Int32 → Int32 → Int32 → Int32 → zMem → Option (Int32 × zMem)) (hk117 : ∀ (y0 : Int32) (y1 : Int32) (y2 : Int32) (y3 : Int32) (y4 : Int32) (B : zMem), k117 y0 y1 y2 y3 y4 (zmx A B) = zmp A (k117 y0 y1 y2 y3 y4 B)) (x1 : Int32) (x2 : Int32) (x6 : Int32) (x7 : Int32) (B : zMem) : fX12_shifts_L196 N k117 x1 x2 x6 x7 (zmx A B) = zmp A (fX12_shifts_L196 N k117 x1 x2 x6 x7 B) := by
  unfold fX12_shifts_L196
  simp (maxSteps := 2000000) (disch := first | assumption | decide) only [zmx_1, zmx_2, zmx_ldI, zmx_ldJ, zmx_stI, zmx_stJ, zmx_stB, zmx_stZ, zmx_pI, zmx_pJ, zmp_zb2, zmp_bd, zmq_zb2, zmq_bd, zmp_if, zmq_if, zmp_some, zmq_some, zmp_none, zmq_none, zmp_let, zmq_let, zmp_gb, zmq_gb, zmb_zb2, zmb_zb2q, zmb_bd, zmb_bdq, zmx_let, zmx_letq, lm_fX12_shifts_L206, hk117]
theorem lm_fX12_shifts_L139 {A : zMem} (N : Nat) (k117 : Int32 → Int32 → Int32 → Int32 → Int32 → zMem → Option (Int32 × zMem)) (hk117 : ∀ (y0 : Int32) (y1 : Int32) (y2 : Int32) (y3 : Int32) (y4 : Int32) (B : zMem), k117 y0 y1 y2 y3 y4 (zmx A B) = zmp A (k117 y0 y1 y2 y3 y4 B)) : ∀ (n : Nat) (z0 : Int32) (z1 : Int32) (z2 : Int32) (z3 : Int32) (z4 : Int32) (z5 : Int32) (z6 : Int32) (B : zMem), fX12_shifts_L139 N k117 n z0 z1 z2 z3 z4 z5 z6 (zmx A B) = zmp A (fX12_shifts_L139 N k117 n z0 z1 z2 z3 z4 z5 z6 B) := by
  intro n
  induction n with
  | zero => intros; rfl
  | succ n ih =>
    intro z0 z1 z2 z3 z4 z5 z6 B
    simp (maxSteps := 2000000) (disch := first | assumption | decide) only [fX12_shifts_L139, zmx_1, zmx_2, zmx_ldI, zmx_ldJ, zmx_stI, zmx_stJ, zmx_stB, zmx_stZ, zmx_pI, zmx_pJ, zmp_zb2, zmp_bd, zmq_zb2, zmq_bd, zmp_if, zmq_if, zmp_some, zmq_some, zmp_none, zmq_none, zmp_let, zmq_let, zmp_gb, zmq_gb, zmb_zb2, zmb_zb2q, zmb_bd, zmb_bdq, zmx_let, zmx_letq, lm_fX12_shifts_L196, lm_fX12_shifts_L232, lm_fX12_bits, ih, hk117]
theorem lm_fX12_shifts_L309 {A : zMem} (N : Nat) : ∀ (n : Nat) (z0 : Int32) (z1 : Int32) (z2 : Int32) (z3 : Int32) (B : zMem), fX12_shifts_L309 N n z0 z1 z2 z3 (zmx A B) = zmp A (fX12_shifts_L309 N n z0 z1 z2 z3 B) := by
  intro n
  induction n with
  | zero => intros; rfl
  | succ n ih =>
    intro z0 z1 z2 z3 B
    simp (maxSteps := 2000000) (disch := first | assumption | decide) only [fX12_shifts_L309, zmx_1, zmx_2, zmx_ldI, zmx_ldJ, zmx_stI, zmx_stJ, zmx_stB, zmx_stZ, zmx_pI, zmx_pJ, zmp_zb2, zmp_bd, zmq_zb2, zmq_bd, zmp_if, zmq_if, zmp_some, zmq_some, zmp_none, zmq_none, zmp_let, zmq_let, zmp_gb, zmq_gb, zmb_zb2, zmb_zb2q, zmb_bd, zmb_bdq, zmx_let, zmx_letq, lm_fX12_keeps, ih]
theorem lm_fX12_shifts_L117 {A : zMem} (N : Nat) : ∀ (n : Nat) (z0 : Int32) (z1 : Int32) (z2 : Int32) (z3 : Int32) (z4 : Int32) (B : zMem), fX12_shifts_L117 N n z0 z1 z2 z3 z4 (zmx A B) = zmp A (fX12_shifts_L117 N n z0 z1 z2 z3 z4 B) := by
  intro n
  induction n with
  | zero => intros; rfl
  | succ n ih =>
    intro z0 z1 z2 z3 z4 B
    simp (maxSteps := 2000000) (disch := first | assumption | decide) only [fX12_shifts_L117, zmx_1, zmx_2, zmx_ldI, zmx_ldJ, zmx_stI, zmx_stJ, zmx_stB, zmx_stZ, zmx_pI, zmx_pJ, zmp_zb2, zmp_bd, zmq_zb2, zmq_bd, zmp_if, zmq_if, zmp_some, zmq_some, zmp_none, zmq_none, zmp_let, zmq_let, zmp_gb, zmq_gb, zmb_zb2, zmb_zb2q, zmb_bd, zmb_bdq, zmx_let, zmx_letq, lm_fX12_shifts_L309, lm_fX12_keeps, lm_fX12_bits, lm_fX12_shifts_L139, ih]
theorem lm_fX12_shifts_L40 {A : zMem} (N : Nat) : ∀ (n : Nat) (z0 : Int32) (z1 : Int32) (z2 : Int32) (B : zMem), fX12_shifts_L40 N n z0 z1 z2 (zmx A B) = zmp A (fX12_shifts_L40 N n z0 z1 z2 B) := by
  intro n
  induction n with
  | zero => intros; rfl
  | succ n ih =>
    intro z0 z1 z2 B
    simp (maxSteps := 2000000) (disch := first | assumption | decide) only [fX12_shifts_L40, zmx_1, zmx_2, zmx_ldI, zmx_ldJ, zmx_stI, zmx_stJ, zmx_stB, zmx_stZ, zmx_pI, zmx_pJ, zmp_zb2, zmp_bd, zmq_zb2, zmq_bd, zmp_if, zmq_if, zmp_some, zmq_some, zmp_none, zmq_none, zmp_let, zmq_let, zmp_gb, zmq_gb, zmb_zb2, zmb_zb2q, zmb_bd, zmb_bdq, zmx_let, zmx_letq, lm_fX12_shifts_L117, lm_fX12_lists, lm_fX12_shifts_L103, lm_fX12_hasStep, ih]
theorem lm_fX12_shifts {A : zMem} (N : Nat) (B : zMem) : fX12_shifts N (zmx A B) = zmp A (fX12_shifts N B) := by
  unfold fX12_shifts
  simp (maxSteps := 2000000) (disch := first | assumption | decide) only [zmx_1, zmx_2, zmx_ldI, zmx_ldJ, zmx_stI, zmx_stJ, zmx_stB, zmx_stZ, zmx_pI, zmx_pJ, zmp_zb2, zmp_bd, zmq_zb2, zmq_bd, zmp_if, zmq_if, zmp_some, zmq_some, zmp_none, zmq_none, zmp_let, zmq_let, zmp_gb, zmq_gb, zmb_zb2, zmb_zb2q, zmb_bd, zmb_bdq, zmx_let, zmx_letq, lm_fX12_shifts_L40]
theorem lm_fX12_there {A : zMem} (x1 : Int32) (x2 : Int32) (B : zMem) : fX12_there x1 x2 (zmx A B) = zmp A (fX12_there x1 x2 B) := by
  unfold fX12_there
  simp (maxSteps := 2000000) (disch := first | assumption | decide) only [zmx_1, zmx_2, zmx_ldI, zmx_ldJ, zmx_stI, zmx_stJ, zmx_stB, zmx_stZ, zmx_pI, zmx_pJ, zmp_zb2, zmp_bd, zmq_zb2, zmq_bd, zmp_if, zmq_if, zmp_some, zmq_some, zmp_none, zmq_none, zmp_let, zmq_let, zmp_gb, zmq_gb, zmb_zb2, zmb_zb2q, zmb_bd, zmb_bdq, zmx_let, zmx_letq, lm_fX12_isVolunteer, lm_fX12_isNight]
theorem lm_fX12_lacks {A : zMem} (x1 : Int32) (B : zMem) : fX12_lacks x1 (zmx A B) = zmp A (fX12_lacks x1 B) := by
  unfold fX12_lacks
  simp (maxSteps := 2000000) (disch := first | assumption | decide) only [zmx_1, zmx_2, zmx_ldI, zmx_ldJ, zmx_stI, zmx_stJ, zmx_stB, zmx_stZ, zmx_pI, zmx_pJ, zmp_zb2, zmp_bd, zmq_zb2, zmq_bd, zmp_if, zmq_if, zmp_some, zmq_some, zmp_none, zmq_none, zmp_let, zmq_let, zmp_gb, zmq_gb, zmb_zb2, zmb_zb2q, zmb_bd, zmb_bdq, zmx_let, zmx_letq, lm_fX12_isNight]
theorem lm_fX12_call_L112 {A : zMem} (N : Nat) (k86 : Int32 → Int32 → Int32 → Int32 → Int32 → Int32 → Int32 → zMem → Option (Int32 × zMem)) (hk86 : ∀ (y0 : Int32) (y1 : Int32) (y2 : Int32) (y3 : Int32) (y4 : Int32) (y5 : Int32) (y6 : Int32) (B : zMem), k86 y0 y1 y2 y3 y4 y5 y6 (zmx A B) = zmp A (k86 y0 y1 y2 y3 y4 y5 y6 B)) (x1 : Int32) (x2 : Int32) (x3 : Int32) (x4 : Int32) (x5 : Int32) (x6 : Int32) (x7 : Int32) (B : zMem) : fX12_call_L112 N k86 x1 x2 x3 x4 x5 x6 x7 (zmx A B) = zmp A (fX12_call_L112 N k86 x1 x2 x3 x4 x5 x6 x7 B) := by
  unfold fX12_call_L112
  simp (maxSteps := 2000000) (disch := first | assumption | decide) only [zmx_1, zmx_2, zmx_ldI, zmx_ldJ, zmx_stI, zmx_stJ, zmx_stB, zmx_stZ, zmx_pI, zmx_pJ, zmp_zb2, zmp_bd, zmq_zb2, zmq_bd, zmp_if, zmq_if, zmp_some, zmq_some, zmp_none, zmq_none, zmp_let, zmq_let, zmp_gb, zmq_gb, zmb_zb2, zmb_zb2q, zmb_bd, zmb_bdq, zmx_let, zmx_letq, hk86]
theorem lm_fX12_call_L86 {A : zMem} (N : Nat) : ∀ (n : Nat) (z0 : Int32) (z1 : Int32) (z2 : Int32) (z3 : Int32) (z4 : Int32) (z5 : Int32) (z6 : Int32) (B : zMem), fX12_call_L86 N n z0 z1 z2 z3 z4 z5 z6 (zmx A B) = zmp A (fX12_call_L86 N n z0 z1 z2 z3 z4 z5 z6 B) := by
  intro n
  induction n with
  | zero => intros; rfl
  | succ n ih =>
    intro z0 z1 z2 z3 z4 z5 z6 B
    simp (maxSteps := 2000000) (disch := first | assumption | decide) only [fX12_call_L86, zmx_1, zmx_2, zmx_ldI, zmx_ldJ, zmx_stI, zmx_stJ, zmx_stB, zmx_stZ, zmx_pI, zmx_pJ, zmp_zb2, zmp_bd, zmq_zb2, zmq_bd, zmp_if, zmq_if, zmp_some, zmq_some, zmp_none, zmq_none, zmp_let, zmq_let, zmp_gb, zmq_gb, zmb_zb2, zmb_zb2q, zmb_bd, zmb_bdq, zmx_let, zmx_letq, lm_fX12_call_L112, ih]
theorem lm_fX12_call {A : zMem} (N : Nat) (x1 : Int32) (x2 : Int32) (x3 : Int32) (x4 : Int32) (x5 : Int32) (B : zMem) : fX12_call N x1 x2 x3 x4 x5 (zmx A B) = zmp A (fX12_call N x1 x2 x3 x4 x5 B) := by
  unfold fX12_call
  simp (maxSteps := 2000000) (disch := first | assumption | decide) only [zmx_1, zmx_2, zmx_ldI, zmx_ldJ, zmx_stI, zmx_stJ, zmx_stB, zmx_stZ, zmx_pI, zmx_pJ, zmp_zb2, zmp_bd, zmq_zb2, zmq_bd, zmp_if, zmq_if, zmp_some, zmq_some, zmp_none, zmq_none, zmp_let, zmq_let, zmp_gb, zmq_gb, zmb_zb2, zmb_zb2q, zmb_bd, zmb_bdq, zmx_let, zmx_letq, lm_fX12_call_L86]
theorem lm_fX12_value_L138 {A : zMem} (N : Nat) (k5 : Int32 → Int32 → Int32 → zMem → Option (Int32 × zMem)) (hk5 : ∀ (y0 : Int32) (y1 : Int32) (y2 : Int32) (B : zMem), k5 y0 y1 y2 (zmx A B) = zmp A (k5 y0 y1 y2 B)) (x2 : Int32) (x3 : Int32) (x4 : Int32) (B : zMem) : fX12_value_L138 N k5 x2 x3 x4 (zmx A B) = zmp A (fX12_value_L138 N k5 x2 x3 x4 B) := by
  unfold fX12_value_L138
  simp (maxSteps := 2000000) (disch := first | assumption | decide) only [zmx_1, zmx_2, zmx_ldI, zmx_ldJ, zmx_stI, zmx_stJ, zmx_stB, zmx_stZ, zmx_pI, zmx_pJ, zmp_zb2, zmp_bd, zmq_zb2, zmq_bd, zmp_if, zmq_if, zmp_some, zmq_some, zmp_none, zmq_none, zmp_let, zmq_let, zmp_gb, zmq_gb, zmb_zb2, zmb_zb2q, zmb_bd, zmb_bdq, zmx_let, zmx_letq, hk5]
theorem lm_fX12_value_L59 {A : zMem} (N : Nat) (k5 : Int32 → Int32 → Int32 → zMem → Option (Int32 × zMem)) (hk5 : ∀ (y0 : Int32) (y1 : Int32) (y2 : Int32) (B : zMem), k5 y0 y1 y2 (zmx A B) = zmp A (k5 y0 y1 y2 B)) (x2 : Int32) (x3 : Int32) (x4 : Int32) (s1 : Int32) (s2 : Int32) (B : zMem) : fX12_value_L59 N k5 x2 x3 x4 s1 s2 (zmx A B) = zmp A (fX12_value_L59 N k5 x2 x3 x4 s1 s2 B) := by
  unfold fX12_value_L59
  simp (maxSteps := 2000000) (disch := first | assumption | decide) only [zmx_1, zmx_2, zmx_ldI, zmx_ldJ, zmx_stI, zmx_stJ, zmx_stB, zmx_stZ, zmx_pI, zmx_pJ, zmp_zb2, zmp_bd, zmq_zb2, zmq_bd, zmp_if, zmq_if, zmp_some, zmq_some, zmp_none, zmq_none, zmp_let, zmq_let, zmp_gb, zmq_gb, zmb_zb2, zmb_zb2q, zmb_bd, zmb_bdq, zmx_let, zmx_letq, lm_fX12_value_L138, hk5]
theorem lm_fX12_value_L137 {A : zMem} (N : Nat) (k5 : Int32 → Int32 → Int32 → zMem → Option (Int32 × zMem)) (hk5 : ∀ (y0 : Int32) (y1 : Int32) (y2 : Int32) (B : zMem), k5 y0 y1 y2 (zmx A B) = zmp A (k5 y0 y1 y2 B)) (x2 : Int32) (x3 : Int32) (x4 : Int32) (s1 : Int32) (s2 : Int32) (B : zMem) : fX12_value_L137 N k5 x2 x3 x4 s1 s2 (zmx A B) = zmp A (fX12_value_L137 N k5 x2 x3 x4 s1 s2 B) := by
  unfold fX12_value_L137
  simp (maxSteps := 2000000) (disch := first | assumption | decide) only [zmx_1, zmx_2, zmx_ldI, zmx_ldJ, zmx_stI, zmx_stJ, zmx_stB, zmx_stZ, zmx_pI, zmx_pJ, zmp_zb2, zmp_bd, zmq_zb2, zmq_bd, zmp_if, zmq_if, zmp_some, zmq_some, zmp_none, zmq_none, zmp_let, zmq_let, zmp_gb, zmq_gb, zmb_zb2, zmb_zb2q, zmb_bd, zmb_bdq, zmx_let, zmx_letq, lm_fX12_value_L138, hk5]
theorem lm_fX12_value_L5 {A : zMem} (N : Nat) : ∀ (n : Nat) (z0 : Int32) (z1 : Int32) (z2 : Int32) (B : zMem), fX12_value_L5 N n z0 z1 z2 (zmx A B) = zmp A (fX12_value_L5 N n z0 z1 z2 B) := by
  intro n
  induction n with
  | zero => intros; rfl
  | succ n ih =>
    intro z0 z1 z2 B
    simp (maxSteps := 2000000) (disch := first | assumption | decide) only [fX12_value_L5, zmx_1, zmx_2, zmx_ldI, zmx_ldJ, zmx_stI, zmx_stJ, zmx_stB, zmx_stZ, zmx_pI, zmx_pJ, zmp_zb2, zmp_bd, zmq_zb2, zmq_bd, zmp_if, zmq_if, zmp_some, zmq_some, zmp_none, zmq_none, zmp_let, zmq_let, zmp_gb, zmq_gb, zmb_zb2, zmb_zb2q, zmb_bd, zmb_bdq, zmx_let, zmx_letq, lm_fX12_value_L137, lm_fX12_value_L59, ih]
theorem lm_fX12_value {A : zMem} (N : Nat) (x1 : Int32) (x2 : Int32) (B : zMem) : fX12_value N x1 x2 (zmx A B) = zmp A (fX12_value N x1 x2 B) := by
  unfold fX12_value
  simp (maxSteps := 2000000) (disch := first | assumption | decide) only [zmx_1, zmx_2, zmx_ldI, zmx_ldJ, zmx_stI, zmx_stJ, zmx_stB, zmx_stZ, zmx_pI, zmx_pJ, zmp_zb2, zmp_bd, zmq_zb2, zmq_bd, zmp_if, zmq_if, zmp_some, zmq_some, zmp_none, zmq_none, zmp_let, zmq_let, zmp_gb, zmq_gb, zmb_zb2, zmb_zb2q, zmb_bd, zmb_bdq, zmx_let, zmx_letq, lm_fX12_value_L5]
theorem lm_fX12_holds_L150 {A : zMem} (N : Nat) (k7 : Int32 → Int32 → zMem → Option (Int32 × zMem)) (hk7 : ∀ (y0 : Int32) (y1 : Int32) (B : zMem), k7 y0 y1 (zmx A B) = zmp A (k7 y0 y1 B)) (x1 : Int32) (x2 : Int32) (s0 : Int32) (B : zMem) : fX12_holds_L150 N k7 x1 x2 s0 (zmx A B) = zmp A (fX12_holds_L150 N k7 x1 x2 s0 B) := by
  unfold fX12_holds_L150
  simp (maxSteps := 2000000) (disch := first | assumption | decide) only [zmx_1, zmx_2, zmx_ldI, zmx_ldJ, zmx_stI, zmx_stJ, zmx_stB, zmx_stZ, zmx_pI, zmx_pJ, zmp_zb2, zmp_bd, zmq_zb2, zmq_bd, zmp_if, zmq_if, zmp_some, zmq_some, zmp_none, zmq_none, zmp_let, zmq_let, zmp_gb, zmq_gb, zmb_zb2, zmb_zb2q, zmb_bd, zmb_bdq, zmx_let, zmx_letq, hk7]
theorem lm_fX12_holds_L7 {A : zMem} (N : Nat) : ∀ (n : Nat) (z0 : Int32) (z1 : Int32) (B : zMem), fX12_holds_L7 N n z0 z1 (zmx A B) = zmp A (fX12_holds_L7 N n z0 z1 B) := by
  intro n
  induction n with
  | zero => intros; rfl
  | succ n ih =>
    intro z0 z1 B
    simp (maxSteps := 2000000) (disch := first | assumption | decide) only [fX12_holds_L7, zmx_1, zmx_2, zmx_ldI, zmx_ldJ, zmx_stI, zmx_stJ, zmx_stB, zmx_stZ, zmx_pI, zmx_pJ, zmp_zb2, zmp_bd, zmq_zb2, zmq_bd, zmp_if, zmq_if, zmp_some, zmq_some, zmp_none, zmq_none, zmp_let, zmq_let, zmp_gb, zmq_gb, zmb_zb2, zmb_zb2q, zmb_bd, zmb_bdq, zmx_let, zmx_letq, lm_fX12_value, lm_fX12_holds_L150, ih]
theorem lm_fX12_holds {A : zMem} (N : Nat) (x1 : Int32) (B : zMem) : fX12_holds N x1 (zmx A B) = zmp A (fX12_holds N x1 B) := by
  unfold fX12_holds
  simp (maxSteps := 2000000) (disch := first | assumption | decide) only [zmx_1, zmx_2, zmx_ldI, zmx_ldJ, zmx_stI, zmx_stJ, zmx_stB, zmx_stZ, zmx_pI, zmx_pJ, zmp_zb2, zmp_bd, zmq_zb2, zmq_bd, zmp_if, zmq_if, zmp_some, zmq_some, zmp_none, zmq_none, zmp_let, zmq_let, zmp_gb, zmq_gb, zmb_zb2, zmb_zb2q, zmb_bd, zmb_bdq, zmx_let, zmx_letq, lm_fX12_holds_L7]
theorem lm_fX12_asks_L49 {A : zMem} (x1 : Int32) (x2 : Int32) (x3 : Int32) (s1 : Int32) (s2 : Int32) (B : zMem) : fX12_asks_L49 x1 x2 x3 s1 s2 (zmx A B) = zmq A (fX12_asks_L49 x1 x2 x3 s1 s2 B) := by
  unfold fX12_asks_L49
  simp (maxSteps := 2000000) (disch := first | assumption | decide) only [zmx_1, zmx_2, zmx_ldI, zmx_ldJ, zmx_stI, zmx_stJ, zmx_stB, zmx_stZ, zmx_pI, zmx_pJ, zmp_zb2, zmp_bd, zmq_zb2, zmq_bd, zmp_if, zmq_if, zmp_some, zmq_some, zmp_none, zmq_none, zmp_let, zmq_let, zmp_gb, zmq_gb, zmb_zb2, zmb_zb2q, zmb_bd, zmb_bdq, zmx_let, zmx_letq]
theorem lm_fX12_asks {A : zMem} (x1 : Int32) (x2 : Int32) (x3 : Int32) (B : zMem) : fX12_asks x1 x2 x3 (zmx A B) = zmq A (fX12_asks x1 x2 x3 B) := by
  unfold fX12_asks
  simp (maxSteps := 2000000) (disch := first | assumption | decide) only [zmx_1, zmx_2, zmx_ldI, zmx_ldJ, zmx_stI, zmx_stJ, zmx_stB, zmx_stZ, zmx_pI, zmx_pJ, zmp_zb2, zmp_bd, zmq_zb2, zmq_bd, zmp_if, zmq_if, zmp_some, zmq_some, zmp_none, zmq_none, zmp_let, zmq_let, zmp_gb, zmq_gb, zmb_zb2, zmb_zb2q, zmb_bd, zmb_bdq, zmx_let, zmx_letq, lm_fX12_asks_L49]
theorem lm_fX12_ends_L111 {A : zMem} (N : Nat) (k50 : Int32 → Int32 → Int32 → zMem → Option zMem) (hk50 : ∀ (y0 : Int32) (y1 : Int32) (y2 : Int32) (B : zMem), k50 y0 y1 y2 (zmx A B) = zmq A (k50 y0 y1 y2 B)) (x2 : Int32) (x3 : Int32) (x4 : Int32) (B : zMem) : fX12_ends_L111 N k50 x2 x3 x4 (zmx A B) = zmq A (fX12_ends_L111 N k50 x2 x3 x4 B) := by
  unfold fX12_ends_L111
  simp (maxSteps := 2000000) (disch := first | assumption | decide) only [zmx_1, zmx_2, zmx_ldI, zmx_ldJ, zmx_stI, zmx_stJ, zmx_stB, zmx_stZ, zmx_pI, zmx_pJ, zmp_zb2, zmp_bd, zmq_zb2, zmq_bd, zmp_if, zmq_if, zmp_some, zmq_some, zmp_none, zmq_none, zmp_let, zmq_let, zmp_gb, zmq_gb, zmb_zb2, zmb_zb2q, zmb_bd, zmb_bdq, zmx_let, zmx_letq, hk50]
theorem lm_fX12_ends_L50 {A : zMem} (N : Nat) : ∀ (n : Nat) (z0 : Int32) (z1 : Int32) (z2 : Int32) (B : zMem), fX12_ends_L50 N n z0 z1 z2 (zmx A B) = zmq A (fX12_ends_L50 N n z0 z1 z2 B) := by
  intro n
  induction n with
  | zero => intros; rfl
  | succ n ih =>
    intro z0 z1 z2 B
    simp (maxSteps := 2000000) (disch := first | assumption | decide) only [fX12_ends_L50, zmx_1, zmx_2, zmx_ldI, zmx_ldJ, zmx_stI, zmx_stJ, zmx_stB, zmx_stZ, zmx_pI, zmx_pJ, zmp_zb2, zmp_bd, zmq_zb2, zmq_bd, zmp_if, zmq_if, zmp_some, zmq_some, zmp_none, zmq_none, zmp_let, zmq_let, zmp_gb, zmq_gb, zmb_zb2, zmb_zb2q, zmb_bd, zmb_bdq, zmx_let, zmx_letq, lm_fX12_holds, lm_fX12_ends_L111, ih]
theorem lm_fX12_ends {A : zMem} (N : Nat) (x1 : Int32) (x2 : Int32) (B : zMem) : fX12_ends N x1 x2 (zmx A B) = zmq A (fX12_ends N x1 x2 B) := by
  unfold fX12_ends
  simp (maxSteps := 2000000) (disch := first | assumption | decide) only [zmx_1, zmx_2, zmx_ldI, zmx_ldJ, zmx_stI, zmx_stJ, zmx_stB, zmx_stZ, zmx_pI, zmx_pJ, zmp_zb2, zmp_bd, zmq_zb2, zmq_bd, zmp_if, zmq_if, zmp_some, zmq_some, zmp_none, zmq_none, zmp_let, zmq_let, zmp_gb, zmq_gb, zmb_zb2, zmb_zb2q, zmb_bd, zmb_bdq, zmx_let, zmx_letq, lm_fX12_asks, lm_fX12_ends_L50]
theorem lm_fX12_isDropped_L56 {A : zMem} (N : Nat) (k15 : Int32 → zMem → Option (Int32 × zMem)) (hk15 : ∀ (y0 : Int32) (B : zMem), k15 y0 (zmx A B) = zmp A (k15 y0 B)) (x3 : Int32) (B : zMem) : fX12_isDropped_L56 N k15 x3 (zmx A B) = zmp A (fX12_isDropped_L56 N k15 x3 B) := by
  unfold fX12_isDropped_L56
  simp (maxSteps := 2000000) (disch := first | assumption | decide) only [zmx_1, zmx_2, zmx_ldI, zmx_ldJ, zmx_stI, zmx_stJ, zmx_stB, zmx_stZ, zmx_pI, zmx_pJ, zmp_zb2, zmp_bd, zmq_zb2, zmq_bd, zmp_if, zmq_if, zmp_some, zmq_some, zmp_none, zmq_none, zmp_let, zmq_let, zmp_gb, zmq_gb, zmb_zb2, zmb_zb2q, zmb_bd, zmb_bdq, zmx_let, zmx_letq, hk15]
theorem lm_fX12_isDropped_L15 {A : zMem} (N : Nat) : ∀ (n : Nat) (z0 : Int32) (B : zMem), fX12_isDropped_L15 N n z0 (zmx A B) = zmp A (fX12_isDropped_L15 N n z0 B) := by
  intro n
  induction n with
  | zero => intros; rfl
  | succ n ih =>
    intro z0 B
    simp (maxSteps := 2000000) (disch := first | assumption | decide) only [fX12_isDropped_L15, zmx_1, zmx_2, zmx_ldI, zmx_ldJ, zmx_stI, zmx_stJ, zmx_stB, zmx_stZ, zmx_pI, zmx_pJ, zmp_zb2, zmp_bd, zmq_zb2, zmq_bd, zmp_if, zmq_if, zmp_some, zmq_some, zmp_none, zmq_none, zmp_let, zmq_let, zmp_gb, zmq_gb, zmb_zb2, zmb_zb2q, zmb_bd, zmb_bdq, zmx_let, zmx_letq, lm_fX12_holds, lm_fX12_isDropped_L56, ih]
theorem lm_fX12_isDropped {A : zMem} (N : Nat) (x1 : Int32) (x2 : Int32) (B : zMem) : fX12_isDropped N x1 x2 (zmx A B) = zmp A (fX12_isDropped N x1 x2 B) := by
  unfold fX12_isDropped
  simp (maxSteps := 2000000) (disch := first | assumption | decide) only [zmx_1, zmx_2, zmx_ldI, zmx_ldJ, zmx_stI, zmx_stJ, zmx_stB, zmx_stZ, zmx_pI, zmx_pJ, zmp_zb2, zmp_bd, zmq_zb2, zmq_bd, zmp_if, zmq_if, zmp_some, zmq_some, zmp_none, zmq_none, zmp_let, zmq_let, zmp_gb, zmq_gb, zmb_zb2, zmb_zb2q, zmb_bd, zmb_bdq, zmx_let, zmx_letq, lm_fX12_asks, lm_fX12_isDropped_L15]
theorem lm_fX12_firstOf_L70 {A : zMem} (N : Nat) (k15 : Int32 → Int32 → zMem → Option (Int32 × zMem)) (hk15 : ∀ (y0 : Int32) (y1 : Int32) (B : zMem), k15 y0 y1 (zmx A B) = zmp A (k15 y0 y1 B)) (x1 : Int32) (x3 : Int32) (B : zMem) : fX12_firstOf_L70 N k15 x1 x3 (zmx A B) = zmp A (fX12_firstOf_L70 N k15 x1 x3 B) := by
  unfold fX12_firstOf_L70
  simp (maxSteps := 2000000) (disch := first | assumption | decide) only [zmx_1, zmx_2, zmx_ldI, zmx_ldJ, zmx_stI, zmx_stJ, zmx_stB, zmx_stZ, zmx_pI, zmx_pJ, zmp_zb2, zmp_bd, zmq_zb2, zmq_bd, zmp_if, zmq_if, zmp_some, zmq_some, zmp_none, zmq_none, zmp_let, zmq_let, zmp_gb, zmq_gb, zmb_zb2, zmb_zb2q, zmb_bd, zmb_bdq, zmx_let, zmx_letq, hk15]
theorem lm_fX12_firstOf_L15 {A : zMem} (N : Nat) : ∀ (n : Nat) (z0 : Int32) (z1 : Int32) (B : zMem), fX12_firstOf_L15 N n z0 z1 (zmx A B) = zmp A (fX12_firstOf_L15 N n z0 z1 B) := by
  intro n
  induction n with
  | zero => intros; rfl
  | succ n ih =>
    intro z0 z1 B
    simp (maxSteps := 2000000) (disch := first | assumption | decide) only [fX12_firstOf_L15, zmx_1, zmx_2, zmx_ldI, zmx_ldJ, zmx_stI, zmx_stJ, zmx_stB, zmx_stZ, zmx_pI, zmx_pJ, zmp_zb2, zmp_bd, zmq_zb2, zmq_bd, zmp_if, zmq_if, zmp_some, zmq_some, zmp_none, zmq_none, zmp_let, zmq_let, zmp_gb, zmq_gb, zmb_zb2, zmb_zb2q, zmb_bd, zmb_bdq, zmx_let, zmx_letq, lm_fX12_holds, lm_fX12_firstOf_L70, lm_fX12_value, ih]
theorem lm_fX12_firstOf {A : zMem} (N : Nat) (x1 : Int32) (x2 : Int32) (B : zMem) : fX12_firstOf N x1 x2 (zmx A B) = zmp A (fX12_firstOf N x1 x2 B) := by
  unfold fX12_firstOf
  simp (maxSteps := 2000000) (disch := first | assumption | decide) only [zmx_1, zmx_2, zmx_ldI, zmx_ldJ, zmx_stI, zmx_stJ, zmx_stB, zmx_stZ, zmx_pI, zmx_pJ, zmp_zb2, zmp_bd, zmq_zb2, zmq_bd, zmp_if, zmq_if, zmp_some, zmq_some, zmp_none, zmq_none, zmp_let, zmq_let, zmp_gb, zmq_gb, zmb_zb2, zmb_zb2q, zmb_bd, zmb_bdq, zmx_let, zmx_letq, lm_fX12_asks, lm_fX12_firstOf_L15]
theorem lm_fX12_mayTake_L162 {A : zMem} (N : Nat) (k85 : Int32 → Int32 → zMem → Option (Int32 × zMem)) (hk85 : ∀ (y0 : Int32) (y1 : Int32) (B : zMem), k85 y0 y1 (zmx A B) = zmp A (k85 y0 y1 B)) (x1 : Int32) (x4 : Int32) (B : zMem) : fX12_mayTake_L162 N k85 x1 x4 (zmx A B) = zmp A (fX12_mayTake_L162 N k85 x1 x4 B) := by
  unfold fX12_mayTake_L162
  simp (maxSteps := 2000000) (disch := first | assumption | decide) only [zmx_1, zmx_2, zmx_ldI, zmx_ldJ, zmx_stI, zmx_stJ, zmx_stB, zmx_stZ, zmx_pI, zmx_pJ, zmp_zb2, zmp_bd, zmq_zb2, zmq_bd, zmp_if, zmq_if, zmp_some, zmq_some, zmp_none, zmq_none, zmp_let, zmq_let, zmp_gb, zmq_gb, zmb_zb2, zmb_zb2q, zmb_bd, zmb_bdq, zmx_let, zmx_letq, hk85]
theorem lm_fX12_mayTake_L85 {A : zMem} (N : Nat) : ∀ (n : Nat) (z0 : Int32) (z1 : Int32) (B : zMem), fX12_mayTake_L85 N n z0 z1 (zmx A B) = zmp A (fX12_mayTake_L85 N n z0 z1 B) := by
  intro n
  induction n with
  | zero => intros; rfl
  | succ n ih =>
    intro z0 z1 B
    simp (maxSteps := 2000000) (disch := first | assumption | decide) only [fX12_mayTake_L85, zmx_1, zmx_2, zmx_ldI, zmx_ldJ, zmx_stI, zmx_stJ, zmx_stB, zmx_stZ, zmx_pI, zmx_pJ, zmp_zb2, zmp_bd, zmq_zb2, zmq_bd, zmp_if, zmq_if, zmp_some, zmq_some, zmp_none, zmq_none, zmp_let, zmq_let, zmp_gb, zmq_gb, zmb_zb2, zmb_zb2q, zmb_bd, zmb_bdq, zmx_let, zmx_letq, lm_fX12_holds, lm_fX12_mayTake_L162, lm_fX12_hasStep, ih]
theorem lm_fX12_mayTake {A : zMem} (N : Nat) (x1 : Int32) (x2 : Int32) (x3 : Int32) (B : zMem) : fX12_mayTake N x1 x2 x3 (zmx A B) = zmp A (fX12_mayTake N x1 x2 x3 B) := by
  unfold fX12_mayTake
  simp (maxSteps := 2000000) (disch := first | assumption | decide) only [zmx_1, zmx_2, zmx_ldI, zmx_ldJ, zmx_stI, zmx_stJ, zmx_stB, zmx_stZ, zmx_pI, zmx_pJ, zmp_zb2, zmp_bd, zmq_zb2, zmq_bd, zmp_if, zmq_if, zmp_some, zmq_some, zmp_none, zmq_none, zmp_let, zmq_let, zmp_gb, zmq_gb, zmb_zb2, zmb_zb2q, zmb_bd, zmb_bdq, zmx_let, zmx_letq, lm_fX12_isBarred, lm_fX12_asks, lm_fX12_mayTake_L85]
theorem lm_fX12_takes_L49 {A : zMem} (N : Nat) (k5 : Int32 → Int32 → Int32 → Int32 → zMem → Option zMem) (hk5 : ∀ (y0 : Int32) (y1 : Int32) (y2 : Int32) (y3 : Int32) (B : zMem), k5 y0 y1 y2 y3 (zmx A B) = zmq A (k5 y0 y1 y2 y3 B)) (x1 : Int32) (x2 : Int32) (x3 : Int32) (x4 : Int32) (B : zMem) : fX12_takes_L49 N k5 x1 x2 x3 x4 (zmx A B) = zmq A (fX12_takes_L49 N k5 x1 x2 x3 x4 B) := by
  unfold fX12_takes_L49
  simp (maxSteps := 2000000) (disch := first | assumption | decide) only [zmx_1, zmx_2, zmx_ldI, zmx_ldJ, zmx_stI, zmx_stJ, zmx_stB, zmx_stZ, zmx_pI, zmx_pJ, zmp_zb2, zmp_bd, zmq_zb2, zmq_bd, zmp_if, zmq_if, zmp_some, zmq_some, zmp_none, zmq_none, zmp_let, zmq_let, zmp_gb, zmq_gb, zmb_zb2, zmb_zb2q, zmb_bd, zmb_bdq, zmx_let, zmx_letq, hk5]
theorem lm_fX12_takes_L35 {A : zMem} (N : Nat) (k5 : Int32 → Int32 → Int32 → Int32 → zMem → Option zMem) (hk5 : ∀ (y0 : Int32) (y1 : Int32) (y2 : Int32) (y3 : Int32) (B : zMem), k5 y0 y1 y2 y3 (zmx A B) = zmq A (k5 y0 y1 y2 y3 B)) (x1 : Int32) (x2 : Int32) (x3 : Int32) (x4 : Int32) (B : zMem) : fX12_takes_L35 N k5 x1 x2 x3 x4 (zmx A B) = zmq A (fX12_takes_L35 N k5 x1 x2 x3 x4 B) := by
  unfold fX12_takes_L35
  simp (maxSteps := 2000000) (disch := first | assumption | decide) only [zmx_1, zmx_2, zmx_ldI, zmx_ldJ, zmx_stI, zmx_stJ, zmx_stB, zmx_stZ, zmx_pI, zmx_pJ, zmp_zb2, zmp_bd, zmq_zb2, zmq_bd, zmp_if, zmq_if, zmp_some, zmq_some, zmp_none, zmq_none, zmp_let, zmq_let, zmp_gb, zmq_gb, zmb_zb2, zmb_zb2q, zmb_bd, zmb_bdq, zmx_let, zmx_letq, lm_fX12_mayTake, lm_fX12_takes_L49, hk5]
theorem lm_fX12_takes_L5 {A : zMem} (N : Nat) : ∀ (n : Nat) (z0 : Int32) (z1 : Int32) (z2 : Int32) (z3 : Int32) (B : zMem), fX12_takes_L5 N n z0 z1 z2 z3 (zmx A B) = zmq A (fX12_takes_L5 N n z0 z1 z2 z3 B) := by
  intro n
  induction n with
  | zero => intros; rfl
  | succ n ih =>
    intro z0 z1 z2 z3 B
    simp (maxSteps := 2000000) (disch := first | assumption | decide) only [fX12_takes_L5, zmx_1, zmx_2, zmx_ldI, zmx_ldJ, zmx_stI, zmx_stJ, zmx_stB, zmx_stZ, zmx_pI, zmx_pJ, zmp_zb2, zmp_bd, zmq_zb2, zmq_bd, zmp_if, zmq_if, zmp_some, zmq_some, zmp_none, zmq_none, zmp_let, zmq_let, zmp_gb, zmq_gb, zmb_zb2, zmb_zb2q, zmb_bd, zmb_bdq, zmx_let, zmx_letq, lm_fX12_takes_L35, lm_fX12_takes_L49, ih]
theorem lm_fX12_takes {A : zMem} (N : Nat) (x1 : Int32) (x2 : Int32) (B : zMem) : fX12_takes N x1 x2 (zmx A B) = zmq A (fX12_takes N x1 x2 B) := by
  unfold fX12_takes
  simp (maxSteps := 2000000) (disch := first | assumption | decide) only [zmx_1, zmx_2, zmx_ldI, zmx_ldJ, zmx_stI, zmx_stJ, zmx_stB, zmx_stZ, zmx_pI, zmx_pJ, zmp_zb2, zmp_bd, zmq_zb2, zmq_bd, zmp_if, zmq_if, zmp_some, zmq_some, zmp_none, zmq_none, zmp_let, zmq_let, zmp_gb, zmq_gb, zmb_zb2, zmb_zb2q, zmb_bd, zmb_bdq, zmx_let, zmx_letq, lm_fX12_takes_L5]
theorem lm_fX12_oneMinute_L43 {A : zMem} (N : Nat) (k2 : Int32 → Int32 → Int32 → zMem → Option zMem) (hk2 : ∀ (y0 : Int32) (y1 : Int32) (y2 : Int32) (B : zMem), k2 y0 y1 y2 (zmx A B) = zmq A (k2 y0 y1 y2 B)) (x1 : Int32) (x2 : Int32) (x3 : Int32) (B : zMem) : fX12_oneMinute_L43 N k2 x1 x2 x3 (zmx A B) = zmq A (fX12_oneMinute_L43 N k2 x1 x2 x3 B) := by
  unfold fX12_oneMinute_L43
  simp (maxSteps := 2000000) (disch := first | assumption | decide) only [zmx_1, zmx_2, zmx_ldI, zmx_ldJ, zmx_stI, zmx_stJ, zmx_stB, zmx_stZ, zmx_pI, zmx_pJ, zmp_zb2, zmp_bd, zmq_zb2, zmq_bd, zmp_if, zmq_if, zmp_some, zmq_some, zmp_none, zmq_none, zmp_let, zmq_let, zmp_gb, zmq_gb, zmb_zb2, zmb_zb2q, zmb_bd, zmb_bdq, zmx_let, zmx_letq, hk2]
theorem lm_fX12_oneMinute_L76 {A : zMem} (N : Nat) (k51 : Int32 → Int32 → Int32 → zMem → Option zMem) (hk51 : ∀ (y0 : Int32) (y1 : Int32) (y2 : Int32) (B : zMem), k51 y0 y1 y2 (zmx A B) = zmq A (k51 y0 y1 y2 B)) (x1 : Int32) (x2 : Int32) (x3 : Int32) (B : zMem) : fX12_oneMinute_L76 N k51 x1 x2 x3 (zmx A B) = zmq A (fX12_oneMinute_L76 N k51 x1 x2 x3 B) := by
  unfold fX12_oneMinute_L76
  simp (maxSteps := 2000000) (disch := first | assumption | decide) only [zmx_1, zmx_2, zmx_ldI, zmx_ldJ, zmx_stI, zmx_stJ, zmx_stB, zmx_stZ, zmx_pI, zmx_pJ, zmp_zb2, zmp_bd, zmq_zb2, zmq_bd, zmp_if, zmq_if, zmp_some, zmq_some, zmp_none, zmq_none, zmp_let, zmq_let, zmp_gb, zmq_gb, zmb_zb2, zmb_zb2q, zmb_bd, zmb_bdq, zmx_let, zmx_letq, hk51]
theorem lm_fX12_oneMinute_L134 {A : zMem} (N : Nat) (k84 : Int32 → Int32 → Int32 → zMem → Option zMem) (hk84 : ∀ (y0 : Int32) (y1 : Int32) (y2 : Int32) (B : zMem), k84 y0 y1 y2 (zmx A B) = zmq A (k84 y0 y1 y2 B)) (x1 : Int32) (x2 : Int32) (x3 : Int32) (B : zMem) : fX12_oneMinute_L134 N k84 x1 x2 x3 (zmx A B) = zmq A (fX12_oneMinute_L134 N k84 x1 x2 x3 B) := by
  unfold fX12_oneMinute_L134
  simp (maxSteps := 2000000) (disch := first | assumption | decide) only [zmx_1, zmx_2, zmx_ldI, zmx_ldJ, zmx_stI, zmx_stJ, zmx_stB, zmx_stZ, zmx_pI, zmx_pJ, zmp_zb2, zmp_bd, zmq_zb2, zmq_bd, zmp_if, zmq_if, zmp_some, zmq_some, zmp_none, zmq_none, zmp_let, zmq_let, zmp_gb, zmq_gb, zmb_zb2, zmb_zb2q, zmb_bd, zmb_bdq, zmx_let, zmx_letq, hk84]
theorem lm_fX12_oneMinute_L192 {A : zMem} (N : Nat) (k145 : Int32 → Int32 → Int32 → Int32 → zMem → Option zMem) (hk145 : ∀ (y0 : Int32) (y1 : Int32) (y2 : Int32) (y3 : Int32) (B : zMem), k145 y0 y1 y2 y3 (zmx A B) = zmq A (k145 y0 y1 y2 y3 B)) (x1 : Int32) (x2 : Int32) (x3 : Int32) (x4 : Int32) (B : zMem) : fX12_oneMinute_L192 N k145 x1 x2 x3 x4 (zmx A B) = zmq A (fX12_oneMinute_L192 N k145 x1 x2 x3 x4 B) := by
  unfold fX12_oneMinute_L192
  simp (maxSteps := 2000000) (disch := first | assumption | decide) only [zmx_1, zmx_2, zmx_ldI, zmx_ldJ, zmx_stI, zmx_stJ, zmx_stB, zmx_stZ, zmx_pI, zmx_pJ, zmp_zb2, zmp_bd, zmq_zb2, zmq_bd, zmp_if, zmq_if, zmp_some, zmq_some, zmp_none, zmq_none, zmp_let, zmq_let, zmp_gb, zmq_gb, zmb_zb2, zmb_zb2q, zmb_bd, zmb_bdq, zmx_let, zmx_letq, hk145]
theorem lm_fX12_oneMinute_L264 {A : zMem} (N : Nat) (k198 : Int32 → Int32 → Int32 → zMem → Option zMem) (hk198 : ∀ (y0 : Int32) (y1 : Int32) (y2 : Int32) (B : zMem), k198 y0 y1 y2 (zmx A B) = zmq A (k198 y0 y1 y2 B)) (k208 : Int32 → Int32 → Int32 → Int32 → Int32 → zMem → Option zMem) (hk208 : ∀ (y0 : Int32) (y1 : Int32) (y2 : Int32) (y3 : Int32) (y4 : Int32) (B : zMem), k208 y0 y1 y2 y3 y4 (zmx A B) = zmq A (k208 y0 y1 y2 y3 y4 B)) (x1 : Int32) (x2 : Int32) (x3 : Int32) (x4 : Int32) (x5 : Int32) (B : zMem) : fX12_oneMinute_L264 N k198 k208 x1 x2 x3 x4 x5 (zmx A B) = zmq A (fX12_oneMinute_L264 N k198 k208 x1 x2 x3 x4 x5 B) := by
  unfold fX12_oneMinute_L264
  simp (maxSteps := 2000000) (disch := first | assumption | decide) only [zmx_1, zmx_2, zmx_ldI, zmx_ldJ, zmx_stI, zmx_stJ, zmx_stB, zmx_stZ, zmx_pI, zmx_pJ, zmp_zb2, zmp_bd, zmq_zb2, zmq_bd, zmp_if, zmq_if, zmp_some, zmq_some, zmp_none, zmq_none, zmp_let, zmq_let, zmp_gb, zmq_gb, zmb_zb2, zmb_zb2q, zmb_bd, zmb_bdq, zmx_let, zmx_letq, hk198, hk208]
theorem lm_fX12_oneMinute_L260 {A : zMem} (N : Nat) (k198 : Int32 → Int32 → Int32 → zMem → Option zMem) (hk198 : ∀ (y0 : Int32) (y1 : Int32) (y2 : Int32) (B : zMem), k198 y0 y1 y2 (zmx A B) = zmq A (k198 y0 y1 y2 B)) (k208 : Int32 → Int32 → Int32 → Int32 → Int32 → zMem → Option zMem) (hk208 : ∀ (y0 : Int32) (y1 : Int32) (y2 : Int32) (y3 : Int32) (y4 : Int32) (B : zMem), k208 y0 y1 y2 y3 y4 (zmx A B) = zmq A (k208 y0 y1 y2 y3 y4 B)) (x1 : Int32) (x2 : Int32) (x3 : Int32) (x5 : Int32) (B : zMem) : fX12_oneMinute_L260 N k198 k208 x1 x2 x3 x5 (zmx A B) = zmq A (fX12_oneMinute_L260 N k198 k208 x1 x2 x3 x5 B) := by
  unfold fX12_oneMinute_L260
  simp (maxSteps := 2000000) (disch := first | assumption | decide) only [zmx_1, zmx_2, zmx_ldI, zmx_ldJ, zmx_stI, zmx_stJ, zmx_stB, zmx_stZ, zmx_pI, zmx_pJ, zmp_zb2, zmp_bd, zmq_zb2, zmq_bd, zmp_if, zmq_if, zmp_some, zmq_some, zmp_none, zmq_none, zmp_let, zmq_let, zmp_gb, zmq_gb, zmb_zb2, zmb_zb2q, zmb_bd, zmb_bdq, zmx_let, zmx_letq, lm_fX12_oneMinute_L264, hk198, hk208]
theorem lm_fX12_oneMinute_L208 {A : zMem} (N : Nat) (k198 : Int32 → Int32 → Int32 → zMem → Option zMem) (hk198 : ∀ (y0 : Int32) (y1 : Int32) (y2 : Int32) (B : zMem), k198 y0 y1 y2 (zmx A B) = zmq A (k198 y0 y1 y2 B)) : ∀ (n : Nat) (z0 : Int32) (z1 : Int32) (z2 : Int32) (z3 : Int32) (z4 : Int32) (B : zMem), fX12_oneMinute_L208 N k198 n z0 z1 z2 z3 z4 (zmx A B) = zmq A (fX12_oneMinute_L208 N k198 n z0 z1 z2 z3 z4 B) := by
  intro n
  induction n with
  | zero => intros; rfl
  | succ n ih =>
    intro z0 z1 z2 z3 z4 B
    simp (maxSteps := 2000000) (disch := first | assumption | decide) only [fX12_oneMinute_L208, zmx_1, zmx_2, zmx_ldI, zmx_ldJ, zmx_stI, zmx_stJ, zmx_stB, zmx_stZ, zmx_pI, zmx_pJ, zmp_zb2, zmp_bd, zmq_zb2, zmq_bd, zmp_if, zmq_if, zmp_some, zmq_some, zmp_none, zmq_none, zmp_let, zmq_let, zmp_gb, zmq_gb, zmb_zb2, zmb_zb2q, zmb_bd, zmb_bdq, zmx_let, zmx_letq, lm_fX12_takes, lm_fX12_oneMinute_L264, lm_fX12_oneMinute_L260, ih, hk198]
theorem lm_fX12_oneMinute_L198 {A : zMem} (N : Nat) : ∀ (n : Nat) (z0 : Int32) (z1 : Int32) (z2 : Int32) (B : zMem), fX12_oneMinute_L198 N n z0 z1 z2 (zmx A B) = zmq A (fX12_oneMinute_L198 N n z0 z1 z2 B) := by
  intro n
  induction n with
  | zero => intros; rfl
  | succ n ih =>
    intro z0 z1 z2 B
    simp (maxSteps := 2000000) (disch := first | assumption | decide) only [fX12_oneMinute_L198, zmx_1, zmx_2, zmx_ldI, zmx_ldJ, zmx_stI, zmx_stJ, zmx_stB, zmx_stZ, zmx_pI, zmx_pJ, zmp_zb2, zmp_bd, zmq_zb2, zmq_bd, zmp_if, zmq_if, zmp_some, zmq_some, zmp_none, zmq_none, zmp_let, zmq_let, zmp_gb, zmq_gb, zmb_zb2, zmb_zb2q, zmb_bd, zmb_bdq, zmx_let, zmx_letq, lm_fX12_oneMinute_L208, ih]
theorem lm_fX12_oneMinute_L145 {A : zMem} (N : Nat) : ∀ (n : Nat) (z0 : Int32) (z1 : Int32) (z2 : Int32) (z3 : Int32) (B : zMem), fX12_oneMinute_L145 N n z0 z1 z2 z3 (zmx A B) = zmq A (fX12_oneMinute_L145 N n z0 z1 z2 z3 B) := by
  intro n
  induction n with
  | zero => intros; rfl
  | succ n ih =>
    intro z0 z1 z2 z3 B
    simp (maxSteps := 2000000) (disch := first | assumption | decide) only [fX12_oneMinute_L145, zmx_1, zmx_2, zmx_ldI, zmx_ldJ, zmx_stI, zmx_stJ, zmx_stB, zmx_stZ, zmx_pI, zmx_pJ, zmp_zb2, zmp_bd, zmq_zb2, zmq_bd, zmp_if, zmq_if, zmp_some, zmq_some, zmp_none, zmq_none, zmp_let, zmq_let, zmp_gb, zmq_gb, zmb_zb2, zmb_zb2q, zmb_bd, zmb_bdq, zmx_let, zmx_letq, lm_fX12_oneMinute_L198, lm_fX12_oneMinute_L192, lm_fX12_firstOf, ih]
theorem lm_fX12_oneMinute_L84 {A : zMem} (N : Nat) : ∀ (n : Nat) (z0 : Int32) (z1 : Int32) (z2 : Int32) (B : zMem), fX12_oneMinute_L84 N n z0 z1 z2 (zmx A B) = zmq A (fX12_oneMinute_L84 N n z0 z1 z2 B) := by
  intro n
  induction n with
  | zero => intros; rfl
  | succ n ih =>
    intro z0 z1 z2 B
    simp (maxSteps := 2000000) (disch := first | assumption | decide) only [fX12_oneMinute_L84, zmx_1, zmx_2, zmx_ldI, zmx_ldJ, zmx_stI, zmx_stJ, zmx_stB, zmx_stZ, zmx_pI, zmx_pJ, zmp_zb2, zmp_bd, zmq_zb2, zmq_bd, zmp_if, zmq_if, zmp_some, zmq_some, zmp_none, zmq_none, zmp_let, zmq_let, zmp_gb, zmq_gb, zmb_zb2, zmb_zb2q, zmb_bd, zmb_bdq, zmx_let, zmx_letq, lm_fX12_oneMinute_L145, lm_fX12_oneMinute_L134, lm_fX12_isDropped, ih]
theorem lm_fX12_oneMinute_L51 {A : zMem} (N : Nat) : ∀ (n : Nat) (z0 : Int32) (z1 : Int32) (z2 : Int32) (B : zMem), fX12_oneMinute_L51 N n z0 z1 z2 (zmx A B) = zmq A (fX12_oneMinute_L51 N n z0 z1 z2 B) := by
  intro n
  induction n with
  | zero => intros; rfl
  | succ n ih =>
    intro z0 z1 z2 B
    simp (maxSteps := 2000000) (disch := first | assumption | decide) only [fX12_oneMinute_L51, zmx_1, zmx_2, zmx_ldI, zmx_ldJ, zmx_stI, zmx_stJ, zmx_stB, zmx_stZ, zmx_pI, zmx_pJ, zmp_zb2, zmp_bd, zmq_zb2, zmq_bd, zmp_if, zmq_if, zmp_some, zmq_some, zmp_none, zmq_none, zmp_let, zmq_let, zmp_gb, zmq_gb, zmb_zb2, zmb_zb2q, zmb_bd, zmb_bdq, zmx_let, zmx_letq, lm_fX12_oneMinute_L84, lm_fX12_oneMinute_L76, ih]
theorem lm_fX12_oneMinute_L2 {A : zMem} (N : Nat) : ∀ (n : Nat) (z0 : Int32) (z1 : Int32) (z2 : Int32) (B : zMem), fX12_oneMinute_L2 N n z0 z1 z2 (zmx A B) = zmq A (fX12_oneMinute_L2 N n z0 z1 z2 B) := by
  intro n
  induction n with
  | zero => intros; rfl
  | succ n ih =>
    intro z0 z1 z2 B
    simp (maxSteps := 2000000) (disch := first | assumption | decide) only [fX12_oneMinute_L2, zmx_1, zmx_2, zmx_ldI, zmx_ldJ, zmx_stI, zmx_stJ, zmx_stB, zmx_stZ, zmx_pI, zmx_pJ, zmp_zb2, zmp_bd, zmq_zb2, zmq_bd, zmp_if, zmq_if, zmp_some, zmq_some, zmp_none, zmq_none, zmp_let, zmq_let, zmp_gb, zmq_gb, zmb_zb2, zmb_zb2q, zmb_bd, zmb_bdq, zmx_let, zmx_letq, lm_fX12_oneMinute_L51, lm_fX12_ends, lm_fX12_oneMinute_L43, ih]
theorem lm_fX12_oneMinute {A : zMem} (N : Nat) (x1 : Int32) (x2 : Int32) (B : zMem) : fX12_oneMinute N x1 x2 (zmx A B) = zmq A (fX12_oneMinute N x1 x2 B) := by
  unfold fX12_oneMinute
  simp (maxSteps := 2000000) (disch := first | assumption | decide) only [zmx_1, zmx_2, zmx_ldI, zmx_ldJ, zmx_stI, zmx_stJ, zmx_stB, zmx_stZ, zmx_pI, zmx_pJ, zmp_zb2, zmp_bd, zmq_zb2, zmq_bd, zmp_if, zmq_if, zmp_some, zmq_some, zmp_none, zmq_none, zmp_let, zmq_let, zmp_gb, zmq_gb, zmb_zb2, zmb_zb2q, zmb_bd, zmb_bdq, zmx_let, zmx_letq, lm_fX12_oneMinute_L2]
theorem lm_fX12_go_L144 {A : zMem} (N : Nat) (k80 : Int32 → Int32 → zMem → Option (Int32 × zMem)) (hk80 : ∀ (y0 : Int32) (y1 : Int32) (B : zMem), k80 y0 y1 (zmx A B) = zmp A (k80 y0 y1 B)) (k104 : Int32 → Int32 → Int32 → zMem → Option (Int32 × zMem)) (hk104 : ∀ (y0 : Int32) (y1 : Int32) (y2 : Int32) (B : zMem), k104 y0 y1 y2 (zmx A B) = zmp A (k104 y0 y1 y2 B)) (x1 : Int32) (x2 : Int32) (x3 : Int32) (B : zMem) : fX12_go_L144 N k80 k104 x1 x2 x3 (zmx A B) = zmp A (fX12_go_L144 N k80 k104 x1 x2 x3 B) := by
  unfold fX12_go_L144
  simp (maxSteps := 2000000) (disch := first | assumption | decide) only [zmx_1, zmx_2, zmx_ldI, zmx_ldJ, zmx_stI, zmx_stJ, zmx_stB, zmx_stZ, zmx_pI, zmx_pJ, zmp_zb2, zmp_bd, zmq_zb2, zmq_bd, zmp_if, zmq_if, zmp_some, zmq_some, zmp_none, zmq_none, zmp_let, zmq_let, zmp_gb, zmq_gb, zmb_zb2, zmb_zb2q, zmb_bd, zmb_bdq, zmx_let, zmx_letq, hk80, hk104]
theorem lm_fX12_go_L104 {A : zMem} (N : Nat) (k80 : Int32 → Int32 → zMem → Option (Int32 × zMem)) (hk80 : ∀ (y0 : Int32) (y1 : Int32) (B : zMem), k80 y0 y1 (zmx A B) = zmp A (k80 y0 y1 B)) : ∀ (n : Nat) (z0 : Int32) (z1 : Int32) (z2 : Int32) (B : zMem), fX12_go_L104 N k80 n z0 z1 z2 (zmx A B) = zmp A (fX12_go_L104 N k80 n z0 z1 z2 B) := by
  intro n
  induction n with
  | zero => intros; rfl
  | succ n ih =>
    intro z0 z1 z2 B
    simp (maxSteps := 2000000) (disch := first | assumption | decide) only [fX12_go_L104, zmx_1, zmx_2, zmx_ldI, zmx_ldJ, zmx_stI, zmx_stJ, zmx_stB, zmx_stZ, zmx_pI, zmx_pJ, zmp_zb2, zmp_bd, zmq_zb2, zmq_bd, zmp_if, zmq_if, zmp_some, zmq_some, zmp_none, zmq_none, zmp_let, zmq_let, zmp_gb, zmq_gb, zmb_zb2, zmb_zb2q, zmb_bd, zmb_bdq, zmx_let, zmx_letq, lm_fX12_go_L144, ih, hk80]
theorem lm_fX12_go_L250 {A : zMem} (N : Nat) (k181 : Int32 → Int32 → zMem → Option (Int32 × zMem)) (hk181 : ∀ (y0 : Int32) (y1 : Int32) (B : zMem), k181 y0 y1 (zmx A B) = zmp A (k181 y0 y1 B)) (x2 : Int32) (x3 : Int32) (B : zMem) : fX12_go_L250 N k181 x2 x3 (zmx A B) = zmp A (fX12_go_L250 N k181 x2 x3 B) := by
  unfold fX12_go_L250
  simp (maxSteps := 2000000) (disch := first | assumption | decide) only [zmx_1, zmx_2, zmx_ldI, zmx_ldJ, zmx_stI, zmx_stJ, zmx_stB, zmx_stZ, zmx_pI, zmx_pJ, zmp_zb2, zmp_bd, zmq_zb2, zmq_bd, zmp_if, zmq_if, zmp_some, zmq_some, zmp_none, zmq_none, zmp_let, zmq_let, zmp_gb, zmq_gb, zmb_zb2, zmb_zb2q, zmb_bd, zmb_bdq, zmx_let, zmx_letq, hk181]
theorem lm_fX12_go_L205 {A : zMem} (N : Nat) (k181 : Int32 → Int32 → zMem → Option (Int32 × zMem)) (hk181 : ∀ (y0 : Int32) (y1 : Int32) (B : zMem), k181 y0 y1 (zmx A B) = zmp A (k181 y0 y1 B)) (x2 : Int32) (x3 : Int32) (B : zMem) : fX12_go_L205 N k181 x2 x3 (zmx A B) = zmp A (fX12_go_L205 N k181 x2 x3 B) := by
  unfold fX12_go_L205
  simp (maxSteps := 2000000) (disch := first | assumption | decide) only [zmx_1, zmx_2, zmx_ldI, zmx_ldJ, zmx_stI, zmx_stJ, zmx_stB, zmx_stZ, zmx_pI, zmx_pJ, zmp_zb2, zmp_bd, zmq_zb2, zmq_bd, zmp_if, zmq_if, zmp_some, zmq_some, zmp_none, zmq_none, zmp_let, zmq_let, zmp_gb, zmq_gb, zmb_zb2, zmb_zb2q, zmb_bd, zmb_bdq, zmx_let, zmx_letq, lm_fX12_go_L250, hk181]
theorem lm_fX12_go_L181 {A : zMem} (N : Nat) : ∀ (n : Nat) (z0 : Int32) (z1 : Int32) (B : zMem), fX12_go_L181 N n z0 z1 (zmx A B) = zmp A (fX12_go_L181 N n z0 z1 B) := by
  intro n
  induction n with
  | zero => intros; rfl
  | succ n ih =>
    intro z0 z1 B
    simp (maxSteps := 2000000) (disch := first | assumption | decide) only [fX12_go_L181, zmx_1, zmx_2, zmx_ldI, zmx_ldJ, zmx_stI, zmx_stJ, zmx_stB, zmx_stZ, zmx_pI, zmx_pJ, zmp_zb2, zmp_bd, zmq_zb2, zmq_bd, zmp_if, zmq_if, zmp_some, zmq_some, zmp_none, zmq_none, zmp_let, zmq_let, zmp_gb, zmq_gb, zmb_zb2, zmb_zb2q, zmb_bd, zmb_bdq, zmx_let, zmx_letq, lm_fX12_go_L205, ih]
theorem lm_fX12_go_L158 {A : zMem} (N : Nat) : ∀ (n : Nat) (z0 : Int32) (z1 : Int32) (B : zMem), fX12_go_L158 N n z0 z1 (zmx A B) = zmp A (fX12_go_L158 N n z0 z1 B) := by
  intro n
  induction n with
  | zero => intros; rfl
  | succ n ih =>
    intro z0 z1 B
    simp (maxSteps := 2000000) (disch := first | assumption | decide) only [fX12_go_L158, zmx_1, zmx_2, zmx_ldI, zmx_ldJ, zmx_stI, zmx_stJ, zmx_stB, zmx_stZ, zmx_pI, zmx_pJ, zmp_zb2, zmp_bd, zmq_zb2, zmq_bd, zmp_if, zmq_if, zmp_some, zmq_some, zmp_none, zmq_none, zmp_let, zmq_let, zmp_gb, zmq_gb, zmb_zb2, zmb_zb2q, zmb_bd, zmb_bdq, zmx_let, zmx_letq, lm_fX12_go_L181, lm_fX12_oneMinute, ih]
theorem lm_fX12_go_L80 {A : zMem} (N : Nat) : ∀ (n : Nat) (z0 : Int32) (z1 : Int32) (B : zMem), fX12_go_L80 N n z0 z1 (zmx A B) = zmp A (fX12_go_L80 N n z0 z1 B) := by
  intro n
  induction n with
  | zero => intros; rfl
  | succ n ih =>
    intro z0 z1 B
    simp (maxSteps := 2000000) (disch := first | assumption | decide) only [fX12_go_L80, zmx_1, zmx_2, zmx_ldI, zmx_ldJ, zmx_stI, zmx_stJ, zmx_stB, zmx_stZ, zmx_pI, zmx_pJ, zmp_zb2, zmp_bd, zmq_zb2, zmq_bd, zmp_if, zmq_if, zmp_some, zmq_some, zmp_none, zmq_none, zmp_let, zmq_let, zmp_gb, zmq_gb, zmb_zb2, zmb_zb2q, zmb_bd, zmb_bdq, zmx_let, zmx_letq, lm_fX12_go_L158, lm_fX12_go_L104, ih]
theorem lm_fX12_go_L78 {A : zMem} (N : Nat) (x1 : Int32) (B : zMem) : fX12_go_L78 N x1 (zmx A B) = zmp A (fX12_go_L78 N x1 B) := by
  unfold fX12_go_L78
  simp (maxSteps := 2000000) (disch := first | assumption | decide) only [zmx_1, zmx_2, zmx_ldI, zmx_ldJ, zmx_stI, zmx_stJ, zmx_stB, zmx_stZ, zmx_pI, zmx_pJ, zmp_zb2, zmp_bd, zmq_zb2, zmq_bd, zmp_if, zmq_if, zmp_some, zmq_some, zmp_none, zmq_none, zmp_let, zmq_let, zmp_gb, zmq_gb, zmb_zb2, zmb_zb2q, zmb_bd, zmb_bdq, zmx_let, zmx_letq, lm_fX12_go_L80]
theorem lm_fX12_go_L51 {A : zMem} (N : Nat) : ∀ (n : Nat) (z0 : Int32) (B : zMem), fX12_go_L51 N n z0 (zmx A B) = zmp A (fX12_go_L51 N n z0 B) := by
  intro n
  induction n with
  | zero => intros; rfl
  | succ n ih =>
    intro z0 B
    simp (maxSteps := 2000000) (disch := first | assumption | decide) only [fX12_go_L51, zmx_1, zmx_2, zmx_ldI, zmx_ldJ, zmx_stI, zmx_stJ, zmx_stB, zmx_stZ, zmx_pI, zmx_pJ, zmp_zb2, zmp_bd, zmq_zb2, zmq_bd, zmp_if, zmq_if, zmp_some, zmq_some, zmp_none, zmq_none, zmp_let, zmq_let, zmp_gb, zmq_gb, zmb_zb2, zmb_zb2q, zmb_bd, zmb_bdq, zmx_let, zmx_letq, lm_fX12_go_L78, ih]
theorem lm_fX12_go_L16 {A : zMem} (N : Nat) : ∀ (n : Nat) (z0 : Int32) (B : zMem), fX12_go_L16 N n z0 (zmx A B) = zmp A (fX12_go_L16 N n z0 B) := by
  intro n
  induction n with
  | zero => intros; rfl
  | succ n ih =>
    intro z0 B
    simp (maxSteps := 2000000) (disch := first | assumption | decide) only [fX12_go_L16, zmx_1, zmx_2, zmx_ldI, zmx_ldJ, zmx_stI, zmx_stJ, zmx_stB, zmx_stZ, zmx_pI, zmx_pJ, zmp_zb2, zmp_bd, zmq_zb2, zmq_bd, zmp_if, zmq_if, zmp_some, zmq_some, zmp_none, zmq_none, zmp_let, zmq_let, zmp_gb, zmq_gb, zmb_zb2, zmb_zb2q, zmb_bd, zmb_bdq, zmx_let, zmx_letq, lm_fX12_go_L51, ih]
theorem lm_fX12_go {A : zMem} (N : Nat) (B : zMem) : fX12_go N (zmx A B) = zmp A (fX12_go N B) := by
  unfold fX12_go
  simp (maxSteps := 2000000) (disch := first | assumption | decide) only [zmx_1, zmx_2, zmx_ldI, zmx_ldJ, zmx_stI, zmx_stJ, zmx_stB, zmx_stZ, zmx_pI, zmx_pJ, zmp_zb2, zmp_bd, zmq_zb2, zmq_bd, zmp_if, zmq_if, zmp_some, zmq_some, zmp_none, zmq_none, zmp_let, zmq_let, zmp_gb, zmq_gb, zmb_zb2, zmb_zb2q, zmb_bd, zmb_bdq, zmx_let, zmx_letq, lm_fX12_go_L16]
theorem lm_fX12_told {A : zMem} (x1 : Int32) (x2 : Int32) (B : zMem) : fX12_told x1 x2 (zmx A B) = zmp A (fX12_told x1 x2 B) := by
  unfold fX12_told
  simp (maxSteps := 2000000) (disch := first | assumption | decide) only [zmx_1, zmx_2, zmx_ldI, zmx_ldJ, zmx_stI, zmx_stJ, zmx_stB, zmx_stZ, zmx_pI, zmx_pJ, zmp_zb2, zmp_bd, zmq_zb2, zmq_bd, zmp_if, zmq_if, zmp_some, zmq_some, zmp_none, zmq_none, zmp_let, zmq_let, zmp_gb, zmq_gb, zmb_zb2, zmb_zb2q, zmb_bd, zmb_bdq, zmx_let, zmx_letq]
theorem lm_fX12_talked {A : zMem} (x1 : Int32) (x2 : Int32) (B : zMem) : fX12_talked x1 x2 (zmx A B) = zmp A (fX12_talked x1 x2 B) := by
  unfold fX12_talked
  simp (maxSteps := 2000000) (disch := first | assumption | decide) only [zmx_1, zmx_2, zmx_ldI, zmx_ldJ, zmx_stI, zmx_stJ, zmx_stB, zmx_stZ, zmx_pI, zmx_pJ, zmp_zb2, zmp_bd, zmq_zb2, zmq_bd, zmp_if, zmq_if, zmp_some, zmq_some, zmp_none, zmq_none, zmp_let, zmq_let, zmp_gb, zmq_gb, zmb_zb2, zmb_zb2q, zmb_bd, zmb_bdq, zmx_let, zmx_letq, lm_fX12_isVolunteer, lm_fX12_isNight]
theorem lm_fX12_note {A : zMem} (x1 : Int32) (x2 : Int32) (B : zMem) : fX12_note x1 x2 (zmx A B) = zmp A (fX12_note x1 x2 B) := by
  unfold fX12_note
  simp (maxSteps := 2000000) (disch := first | assumption | decide) only [zmx_1, zmx_2, zmx_ldI, zmx_ldJ, zmx_stI, zmx_stJ, zmx_stB, zmx_stZ, zmx_pI, zmx_pJ, zmp_zb2, zmp_bd, zmq_zb2, zmq_bd, zmp_if, zmq_if, zmp_some, zmq_some, zmp_none, zmq_none, zmp_let, zmq_let, zmp_gb, zmq_gb, zmb_zb2, zmb_zb2q, zmb_bd, zmb_bdq, zmx_let, zmx_letq]
theorem lm_fX12_see {A : zMem} (x1 : Int32) (x2 : Int32) (x3 : Int32) (B : zMem) : fX12_see x1 x2 x3 (zmx A B) = zmp A (fX12_see x1 x2 x3 B) := by
  unfold fX12_see
  simp (maxSteps := 2000000) (disch := first | assumption | decide) only [zmx_1, zmx_2, zmx_ldI, zmx_ldJ, zmx_stI, zmx_stJ, zmx_stB, zmx_stZ, zmx_pI, zmx_pJ, zmp_zb2, zmp_bd, zmq_zb2, zmq_bd, zmp_if, zmq_if, zmp_some, zmq_some, zmp_none, zmq_none, zmp_let, zmq_let, zmp_gb, zmq_gb, zmb_zb2, zmb_zb2q, zmb_bd, zmb_bdq, zmx_let, zmx_letq, lm_fX12_isVolunteer, lm_fX12_isNight, lm_fX12_isBarred]
theorem lm_fX12_foretold_L136 {A : zMem} (N : Nat) (k26 : Int32 → Int32 → Int32 → Int32 → Int32 → zMem → Option (Int32 × zMem)) (hk26 : ∀ (y0 : Int32) (y1 : Int32) (y2 : Int32) (y3 : Int32) (y4 : Int32) (B : zMem), k26 y0 y1 y2 y3 y4 (zmx A B) = zmp A (k26 y0 y1 y2 y3 y4 B)) (x1 : Int32) (x2 : Int32) (x3 : Int32) (x4 : Int32) (x5 : Int32) (B : zMem) : fX12_foretold_L136 N k26 x1 x2 x3 x4 x5 (zmx A B) = zmp A (fX12_foretold_L136 N k26 x1 x2 x3 x4 x5 B) := by
  unfold fX12_foretold_L136
  simp (maxSteps := 2000000) (disch := first | assumption | decide) only [zmx_1, zmx_2, zmx_ldI, zmx_ldJ, zmx_stI, zmx_stJ, zmx_stB, zmx_stZ, zmx_pI, zmx_pJ, zmp_zb2, zmp_bd, zmq_zb2, zmq_bd, zmp_if, zmq_if, zmp_some, zmq_some, zmp_none, zmq_none, zmp_let, zmq_let, zmp_gb, zmq_gb, zmb_zb2, zmb_zb2q, zmb_bd, zmb_bdq, zmx_let, zmx_letq, hk26]
