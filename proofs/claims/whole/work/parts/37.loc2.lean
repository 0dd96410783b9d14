theorem lm_fX12_foretold_L130 {A : zMem} (N : Nat) (k26 : Int32 → Int32 → Int32 → Int32 → Int32 → zMem → Option (Int32 × zMem)) (hk26 : ∀ (y0 : Int32) (y1 : Int32) (y2 : Int32) (y3 : Int32) (y4 : Int32) (B : zMem), k26 y0 y1 y2 y3 y4 (zmx A B) = zmp A (k26 y0 y1 y2 y3 y4 B)) (k92 : Int32 → Int32 → Int32 → Int32 → Int32 → Int32 → zMem → Option (Int32 × zMem)) (hk92 : ∀ (y0 : Int32) (y1 : Int32) (y2 : Int32) (y3 : Int32) (y4 : Int32) (y5 : Int32) (B : zMem), k92 y0 y1 y2 y3 y4 y5 (zmx A B) = zmp A (k92 y0 y1 y2 y3 y4 y5 B)) (x1 : Int32) (x2 : Int32) (x3 : Int32) (x4 : Int32) (x5 : Int32) (x6 : Int32) (B : zMem) : fX12_foretold_L130 N k26 k92 x1 x2 x3 x4 x5 x6 (zmx A B) = zmp A (fX12_foretold_L130 N k26 k92 x1 x2 x3 x4 x5 x6 B) := by
  unfold fX12_foretold_L130
  simp (maxSteps := 2000000) (disch := first | assumption | decide) only [zmx_1, zmx_2, zmx_ldI, zmx_ldJ, zmx_stI, zmx_stJ, zmx_stB, zmx_stZ, zmx_pI, zmx_pJ, zmp_zb2, zmp_bd, zmq_zb2, zmq_bd, zmp_if, zmq_if, zmp_some, zmq_some, zmp_none, zmq_none, zmp_let, zmq_let, zmp_gb, zmq_gb, zmb_zb2, zmb_zb2q, zmb_bd, zmb_bdq, zmx_let, zmx_letq, hk26, hk92]
theorem lm_fX12_foretold_L92 {A : zMem} (N : Nat) (k26 : Int32 → Int32 → Int32 → Int32 → Int32 → zMem → Option (Int32 × zMem)) (hk26 : ∀ (y0 : Int32) (y1 : Int32) (y2 : Int32) (y3 : Int32) (y4 : Int32) (B : zMem), k26 y0 y1 y2 y3 y4 (zmx A B) = zmp A (k26 y0 y1 y2 y3 y4 B)) : ∀ (n : Nat) (z0 : Int32) (z1 : Int32) (z2 : Int32) (z3 : Int32) (z4 : Int32) (z5 : Int32) (B : zMem), fX12_foretold_L92 N k26 n z0 z1 z2 z3 z4 z5 (zmx A B) = zmp A (fX12_foretold_L92 N k26 n z0 z1 z2 z3 z4 z5 B) := by
  intro n
  induction n with
  | zero => intros; rfl
  | succ n ih =>
    intro z0 z1 z2 z3 z4 z5 B
    simp (maxSteps := 2000000) (disch := first | assumption | decide) only [fX12_foretold_L92, zmx_1, zmx_2, zmx_ldI, zmx_ldJ, zmx_stI, zmx_stJ, zmx_stB, zmx_stZ, zmx_pI, zmx_pJ, zmp_zb2, zmp_bd, zmq_zb2, zmq_bd, zmp_if, zmq_if, zmp_some, zmq_some, zmp_none, zmq_none, zmp_let, zmq_let, zmp_gb, zmq_gb, zmb_zb2, zmb_zb2q, zmb_bd, zmb_bdq, zmx_let, zmx_letq, lm_fX12_foretold_L136, lm_fX12_foretold_L130, ih, hk26]
theorem lm_fX12_foretold_L86 {A : zMem} (N : Nat) (k26 : Int32 → Int32 → Int32 → Int32 → Int32 → zMem → Option (Int32 × zMem)) (hk26 : ∀ (y0 : Int32) (y1 : Int32) (y2 : Int32) (y3 : Int32) (y4 : Int32) (B : zMem), k26 y0 y1 y2 y3 y4 (zmx A B) = zmp A (k26 y0 y1 y2 y3 y4 B)) (x1 : Int32) (x2 : Int32) (x3 : Int32) (x4 : Int32) (x5 : Int32) (B : zMem) : fX12_foretold_L86 N k26 x1 x2 x3 x4 x5 (zmx A B) = zmp A (fX12_foretold_L86 N k26 x1 x2 x3 x4 x5 B) := by
  unfold fX12_foretold_L86
  simp (maxSteps := 2000000) (disch := first | assumption | decide) only [zmx_1, zmx_2, zmx_ldI, zmx_ldJ, zmx_stI, zmx_stJ, zmx_stB, zmx_stZ, zmx_pI, zmx_pJ, zmp_zb2, zmp_bd, zmq_zb2, zmq_bd, zmp_if, zmq_if, zmp_some, zmq_some, zmp_none, zmq_none, zmp_let, zmq_let, zmp_gb, zmq_gb, zmb_zb2, zmb_zb2q, zmb_bd, zmb_bdq, zmx_let, zmx_letq, lm_fX12_foretold_L92, hk26]
theorem lm_fX12_foretold_L26 {A : zMem} (N : Nat) : ∀ (n : Nat) (z0 : Int32) (z1 : Int32) (z2 : Int32) (z3 : Int32) (z4 : Int32) (B : zMem), fX12_foretold_L26 N n z0 z1 z2 z3 z4 (zmx A B) = zmp A (fX12_foretold_L26 N n z0 z1 z2 z3 z4 B) := by
  intro n
  induction n with
  | zero => intros; rfl
  | succ n ih =>
    intro z0 z1 z2 z3 z4 B
    simp (maxSteps := 2000000) (disch := first | assumption | decide) only [fX12_foretold_L26, zmx_1, zmx_2, zmx_ldI, zmx_ldJ, zmx_stI, zmx_stJ, zmx_stB, zmx_stZ, zmx_pI, zmx_pJ, zmp_zb2, zmp_bd, zmq_zb2, zmq_bd, zmp_if, zmq_if, zmp_some, zmq_some, zmp_none, zmq_none, zmp_let, zmq_let, zmp_gb, zmq_gb, zmb_zb2, zmb_zb2q, zmb_bd, zmb_bdq, zmx_let, zmx_letq, lm_fX12_foretold_L136, lm_fX12_foretold_L86, ih]
theorem lm_fX12_foretold {A : zMem} (N : Nat) (x1 : Int32) (x2 : Int32) (B : zMem) : fX12_foretold N x1 x2 (zmx A B) = zmp A (fX12_foretold N x1 x2 B) := by
  unfold fX12_foretold
  simp (maxSteps := 2000000) (disch := first | assumption | decide) only [zmx_1, zmx_2, zmx_ldI, zmx_ldJ, zmx_stI, zmx_stJ, zmx_stB, zmx_stZ, zmx_pI, zmx_pJ, zmp_zb2, zmp_bd, zmq_zb2, zmq_bd, zmp_if, zmq_if, zmp_some, zmq_some, zmp_none, zmq_none, zmp_let, zmq_let, zmp_gb, zmq_gb, zmb_zb2, zmb_zb2q, zmb_bd, zmb_bdq, zmx_let, zmx_letq, lm_fX12_isNight, lm_fX12_foretold_L26]
theorem lm_fX12_how_L25 {A : zMem} (N : Nat) (k4 : Int32 → Int32 → Int32 → zMem → Option (Int32 × zMem)) (hk4 : ∀ (y0 : Int32) (y1 : Int32) (y2 : Int32) (B : zMem), k4 y0 y1 y2 (zmx A B) = zmp A (k4 y0 y1 y2 B)) (x1 : Int32) (x2 : Int32) (x3 : Int32) (B : zMem) : fX12_how_L25 N k4 x1 x2 x3 (zmx A B) = zmp A (fX12_how_L25 N k4 x1 x2 x3 B) := by
  unfold fX12_how_L25
  simp (maxSteps := 2000000) (disch := first | assumption | decide) only [zmx_1, zmx_2, zmx_ldI, zmx_ldJ, zmx_stI, zmx_stJ, zmx_stB, zmx_stZ, zmx_pI, zmx_pJ, zmp_zb2, zmp_bd, zmq_zb2, zmq_bd, zmp_if, zmq_if, zmp_some, zmq_some, zmp_none, zmq_none, zmp_let, zmq_let, zmp_gb, zmq_gb, zmb_zb2, zmb_zb2q, zmb_bd, zmb_bdq, zmx_let, zmx_letq, hk4]
theorem lm_fX12_how_L4 {A : zMem} (N : Nat) : ∀ (n : Nat) (z0 : Int32) (z1 : Int32) (z2 : Int32) (B : zMem), fX12_how_L4 N n z0 z1 z2 (zmx A B) = zmp A (fX12_how_L4 N n z0 z1 z2 B) := by
  intro n
  induction n with
  | zero => intros; rfl
  | succ n ih =>
    intro z0 z1 z2 B
    simp (maxSteps := 2000000) (disch := first | assumption | decide) only [fX12_how_L4, zmx_1, zmx_2, zmx_ldI, zmx_ldJ, zmx_stI, zmx_stJ, zmx_stB, zmx_stZ, zmx_pI, zmx_pJ, zmp_zb2, zmp_bd, zmq_zb2, zmq_bd, zmp_if, zmq_if, zmp_some, zmq_some, zmp_none, zmq_none, zmp_let, zmq_let, zmp_gb, zmq_gb, zmb_zb2, zmb_zb2q, zmb_bd, zmb_bdq, zmx_let, zmx_letq, lm_fX12_how_L25, ih]
theorem lm_fX12_how {A : zMem} (N : Nat) (x1 : Int32) (B : zMem) : fX12_how N x1 (zmx A B) = zmp A (fX12_how N x1 B) := by
  unfold fX12_how
  simp (maxSteps := 2000000) (disch := first | assumption | decide) only [zmx_1, zmx_2, zmx_ldI, zmx_ldJ, zmx_stI, zmx_stJ, zmx_stB, zmx_stZ, zmx_pI, zmx_pJ, zmp_zb2, zmp_bd, zmq_zb2, zmq_bd, zmp_if, zmq_if, zmp_some, zmq_some, zmp_none, zmq_none, zmp_let, zmq_let, zmp_gb, zmq_gb, zmb_zb2, zmb_zb2q, zmb_bd, zmb_bdq, zmx_let, zmx_letq, lm_fX12_how_L4]
theorem lm_fX12_count {A : zMem} (N : Nat) (x1 : Int32) (B : zMem) : fX12_count N x1 (zmx A B) = zmp A (fX12_count N x1 B) := by
  unfold fX12_count
  simp (maxSteps := 2000000) (disch := first | assumption | decide) only [zmx_1, zmx_2, zmx_ldI, zmx_ldJ, zmx_stI, zmx_stJ, zmx_stB, zmx_stZ, zmx_pI, zmx_pJ, zmp_zb2, zmp_bd, zmq_zb2, zmq_bd, zmp_if, zmq_if, zmp_some, zmq_some, zmp_none, zmq_none, zmp_let, zmq_let, zmp_gb, zmq_gb, zmb_zb2, zmb_zb2q, zmb_bd, zmb_bdq, zmx_let, zmx_letq, lm_fX12_how]
