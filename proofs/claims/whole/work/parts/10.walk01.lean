theorem cc_X2_leaveCalls_L38 {l : Launch} {G : zG} {N : Nat} {k8 : Int32 → zMem → Option zMem} (hk8 : ∀ {x1 : Int32} {M : zMem} {M1 : zMem}, k8 x1 M = some M1 → Ex l G 2 mX2_leaveCalls 8 [(0, .ref (G.2.2.1 57)), (1, .int x1)] [] M (zqV M1)) {x1 : Int32} {M : zMem} {M1 : zMem} (hf : fX2_leaveCalls_L38 N k8 x1 M = some M1) : Ex l G 2 mX2_leaveCalls 38 [(0, .ref (G.2.2.1 57)), (1, .int x1)] [] M (zqV M1) := by
  rw [fX2_leaveCalls_L38] at hf
  obtain ⟨x1_12, ex1_12, hf⟩ := zletE hf
  refine x_iinc (c0 := 1) dX2_leaveCalls_38 rfl (Nat.le_of_ble_eq_true rfl) (by decide) ex1_12 ?_
  refine x_goto (tgt := 8) dX2_leaveCalls_41 (by decide) ?_
  exact Ex.sb (hk8 hf) ⟨rfl, rfl, trivial⟩
theorem cc_X2_leaveCalls_L8 {l : Launch} {G : zG} {N : Nat} : ∀ {n : Nat} {x1 : Int32} {M : zMem} {M1 : zMem}, fX2_leaveCalls_L8 N n x1 M = some M1 → Ex l G 2 mX2_leaveCalls 8 [(0, .ref (G.2.2.1 57)), (1, .int x1)] [] M (zqV M1) := by
  intro n
  induction n with
  | zero => intro x1 M M1 hf; cases hf
  | succ n ih =>
    intro x1 M M1 hf
    rw [fX2_leaveCalls_L8] at hf
    refine x_iload_n dX2_leaveCalls_8 rfl rfl ?_
    refine x_aload_n dX2_leaveCalls_9 rfl rfl ?_
    refine x_getS (r := 47) dX2_leaveCalls_10 fl_X2_19 rfl rfl ?_
    obtain ⟨r6, M5, hq4, hf⟩ := zb2E hf
    refine x_invVi dX2_leaveCalls_13 mk_X1_size ml_X2_123 (cc_X1_size hq4) rfl rfl rfl (Nat.le_of_ble_eq_true rfl) rfl (Nat.le_of_ble_eq_true rfl) rfl ?_
    refine x_icmp_ge (tgt := 44) dX2_leaveCalls_16 (by decide) (fun c16 => ?_) (fun c16 => ?_)
    · replace hf := zif_t c16 hf
      exact x_vret rfl dX2_leaveCalls_44 (zretV hf)
    · replace hf := zif_f c16 hf
      refine x_aload_n dX2_leaveCalls_19 rfl rfl ?_
      refine x_getS (r := 47) dX2_leaveCalls_20 fl_X2_19 rfl rfl ?_
      refine x_iload_n dX2_leaveCalls_23 rfl rfl ?_
      obtain ⟨r9, M8, hq7, hf⟩ := zb2E hf
      refine x_invVi dX2_leaveCalls_24 mk_X1_stateOf ml_X2_95 (cc_X1_stateOf hq7) rfl rfl rfl (Nat.le_of_ble_eq_true rfl) rfl (Nat.le_of_ble_eq_true rfl) rfl ?_
      refine x_if_ne (tgt := 38) dX2_leaveCalls_27 (by decide) (fun c27 => ?_) (fun c27 => ?_)
      · replace hf := zif_f c27 hf
        exact Ex.sb (cc_X2_leaveCalls_L38 ih hf) ⟨rfl, rfl, trivial⟩
      · replace hf := zif_t c27 hf
        refine x_aload_n dX2_leaveCalls_30 rfl rfl ?_
        refine x_getS (r := 47) dX2_leaveCalls_31 fl_X2_19 rfl rfl ?_
        refine x_iload_n dX2_leaveCalls_34 rfl rfl ?_
        obtain ⟨M11, hq10, hf⟩ := zbind hf
        refine x_invVv dX2_leaveCalls_35 mk_X1_leave ml_X2_177 (cc_X1_leave hq10) rfl rfl rfl (Nat.le_of_ble_eq_true rfl) rfl (Nat.le_of_ble_eq_true rfl) rfl ?_
        exact Ex.sb (cc_X2_leaveCalls_L38 ih hf) ⟨rfl, rfl, trivial⟩
theorem cc_X2_leaveCalls {l : Launch} {G : zG} {N : Nat}   {M : zMem} {M1 : zMem} (hf : fX2_leaveCalls N M = some M1) : Ca l G 2 mX2_leaveCalls [.ref (G.2.2.1 57)] M none M1 := by
  refine Ca.of (by decide +kernel) (Nat.le_of_ble_eq_true rfl) rfl ?_
  rw [fX2_leaveCalls] at hf
  refine x_aload_n dX2_leaveCalls_0 rfl rfl ?_
  refine x_getS (r := 47) dX2_leaveCalls_1 fl_X2_19 rfl rfl ?_
  obtain ⟨r3, M2, hq1, hf⟩ := zb2E hf
  refine x_invVi dX2_leaveCalls_4 mk_X1_nightStart ml_X2_88 (cc_X1_nightStart hq1) rfl rfl rfl (Nat.le_of_ble_eq_true rfl) rfl (Nat.le_of_ble_eq_true rfl) rfl ?_
  refine x_istore_n dX2_leaveCalls_7 rfl (Nat.le_of_ble_eq_true rfl) rfl ?_
  exact Ex.sb (cc_X2_leaveCalls_L8  hf) ⟨rfl, rfl, trivial⟩
theorem cc_X2_putInLine_L77 {l : Launch} {G : zG} {N : Nat} {x1 : Int32} {x2 : Int32} {x4 : Int32} {M : zMem} {M1 : zMem} (hf : fX2_putInLine_L77 N x1 x2 x4 M = some M1) : Ex l G 0 mX2_putInLine 77 [(0, .ref (G.2.2.1 57)), (1, .int x1), (2, .int x2), (4, .int x4)] [] M (zqV M1) := by
  rw [fX2_putInLine_L77] at hf
  refine x_aload_n dX2_putInLine_77 rfl rfl ?_
  refine x_getS (r := 62) dX2_putInLine_78 fl_X2_44 rfl rfl ?_
  refine x_iload dX2_putInLine_81 rfl ?_
  refine x_iload_n dX2_putInLine_83 rfl rfl ?_
  obtain ⟨M8, hM8, hf⟩ := zbind hf
  refine x_ist dX2_putInLine_84 rfl hM8 ?_
  refine x_aload_n dX2_putInLine_85 rfl rfl ?_
  refine x_getS (r := 63) dX2_putInLine_86 fl_X2_47 rfl rfl ?_
  refine x_iload dX2_putInLine_89 rfl ?_
  refine x_iload_n dX2_putInLine_91 rfl rfl ?_
  obtain ⟨M9, hM9, hf⟩ := zbind hf
  refine x_ist dX2_putInLine_92 rfl hM9 ?_
  exact x_vret rfl dX2_putInLine_93 (zretV hf)
theorem cc_X2_putInLine_L19 {l : Launch} {G : zG} {N : Nat} : ∀ {n : Nat} {x1 : Int32} {x2 : Int32} {x4 : Int32} {x5 : Int32} {M : zMem} {M1 : zMem}, fX2_putInLine_L19 N n x1 x2 x4 x5 M = some M1 → Ex l G 0 mX2_putInLine 19 [(0, .ref (G.2.2.1 57)), (1, .int x1), (2, .int x2), (4, .int x4), (5, .int x5)] [] M (zqV M1) := by
  intro n
  induction n with
  | zero => intro x1 x2 x4 x5 M M1 hf; cases hf
  | succ n ih =>
    intro x1 x2 x4 x5 M M1 hf
    rw [fX2_putInLine_L19] at hf
    refine x_iload dX2_putInLine_19 rfl ?_
    refine x_if_lt (tgt := 77) dX2_putInLine_21 (by decide) (fun c21 => ?_) (fun c21 => ?_)
    · replace hf := zif_t c21 hf
      exact Ex.sb (cc_X2_putInLine_L77  hf) ⟨rfl, rfl, rfl, rfl, trivial⟩
    · replace hf := zif_f c21 hf
      refine x_aload_n dX2_putInLine_24 rfl rfl ?_
      refine x_getS (r := 62) dX2_putInLine_25 fl_X2_44 rfl rfl ?_
      refine x_iload dX2_putInLine_28 rfl ?_
      obtain ⟨v2, hv2, hf⟩ := zbind hf
      refine x_ild dX2_putInLine_30 rfl hv2 ?_
      refine x_iload_n dX2_putInLine_31 rfl rfl ?_
      refine x_icmp_ge (tgt := 77) dX2_putInLine_32 (by decide) (fun c32 => ?_) (fun c32 => ?_)
      · replace hf := zif_t c32 hf
        exact Ex.sb (cc_X2_putInLine_L77  hf) ⟨rfl, rfl, rfl, rfl, trivial⟩
      · replace hf := zif_f c32 hf
        refine x_aload_n dX2_putInLine_35 rfl rfl ?_
        refine x_getS (r := 62) dX2_putInLine_36 fl_X2_44 rfl rfl ?_
        refine x_iload dX2_putInLine_39 rfl ?_
        refine x_iconst (v := 1) dX2_putInLine_41 (by decide) ?_
        refine x_iadd dX2_putInLine_42 ?_
        refine x_aload_n dX2_putInLine_43 rfl rfl ?_
        refine x_getS (r := 62) dX2_putInLine_44 fl_X2_44 rfl rfl ?_
        refine x_iload dX2_putInLine_47 rfl ?_
        obtain ⟨v3, hv3, hf⟩ := zbind hf
        refine x_ild dX2_putInLine_49 rfl hv3 ?_
        obtain ⟨M4, hM4, hf⟩ := zbind hf
        refine x_ist dX2_putInLine_50 rfl hM4 ?_
        refine x_aload_n dX2_putInLine_51 rfl rfl ?_
        refine x_getS (r := 63) dX2_putInLine_52 fl_X2_47 rfl rfl ?_
        refine x_iload dX2_putInLine_55 rfl ?_
        refine x_iconst (v := 1) dX2_putInLine_57 (by decide) ?_
        refine x_iadd dX2_putInLine_58 ?_
        refine x_aload_n dX2_putInLine_59 rfl rfl ?_
        refine x_getS (r := 63) dX2_putInLine_60 fl_X2_47 rfl rfl ?_
        refine x_iload dX2_putInLine_63 rfl ?_
        obtain ⟨v5, hv5, hf⟩ := zbind hf
        refine x_ild dX2_putInLine_65 rfl hv5 ?_
        obtain ⟨M6, hM6, hf⟩ := zbind hf
        refine x_ist dX2_putInLine_66 rfl hM6 ?_
        refine x_iload dX2_putInLine_67 rfl ?_
        refine x_istore dX2_putInLine_69 (Nat.le_of_ble_eq_true rfl) rfl ?_
        obtain ⟨x5_7, ex5_7, hf⟩ := zletE hf
        refine x_iinc (c0 := -1) dX2_putInLine_71 rfl (Nat.le_of_ble_eq_true rfl) (by decide) ex5_7 ?_
        refine x_goto (tgt := 19) dX2_putInLine_74 (by decide) ?_
        exact Ex.sb (ih hf) ⟨rfl, rfl, rfl, rfl, rfl, trivial⟩
theorem cc_X2_putInLine {l : Launch} {G : zG} {N : Nat} {x1 : Int32} {x2 : Int32} {x3 : Int32}  {M : zMem} {M1 : zMem} (hf : fX2_putInLine N x1 x2 x3 M = some M1) : Ca l G 0 mX2_putInLine [.ref (G.2.2.1 57), .int x1, .int x2, .int x3] M none M1 := by
  refine Ca.of (by decide +kernel) (Nat.le_of_ble_eq_true rfl) rfl ?_
  rw [fX2_putInLine] at hf
  refine x_iload_n dX2_putInLine_0 rfl rfl ?_
  refine x_if_lt (tgt := 10) dX2_putInLine_1 (by decide) (fun c1 => ?_) (fun c1 => ?_)
  · replace hf := zif_t c1 hf
    exact x_vret rfl dX2_putInLine_10 (zretV hf)
  · replace hf := zif_f c1 hf
    refine x_iload_n dX2_putInLine_4 rfl rfl ?_
    refine x_bipush (v := 40) dX2_putInLine_5 (by decide) ?_
    refine x_icmp_lt (tgt := 11) dX2_putInLine_7 (by decide) (fun c7 => ?_) (fun c7 => ?_)
    · replace hf := zif_t c7 hf
      refine x_iload_n dX2_putInLine_11 rfl rfl ?_
      refine x_istore dX2_putInLine_12 (Nat.le_of_ble_eq_true rfl) rfl ?_
      refine x_iload_n dX2_putInLine_14 rfl rfl ?_
      refine x_iconst (v := 1) dX2_putInLine_15 (by decide) ?_
      refine x_isub dX2_putInLine_16 ?_
      obtain ⟨x5_1, ex5_1, hf⟩ := zletE hf
      refine x_istore dX2_putInLine_17 (Nat.le_of_ble_eq_true rfl) ex5_1 ?_
      exact Ex.sb (cc_X2_putInLine_L19  hf) ⟨rfl, rfl, rfl, rfl, rfl, trivial⟩
    · replace hf := zif_f c7 hf
      exact x_vret rfl dX2_putInLine_10 (zretV hf)
theorem cc_X6_termOf {l : Launch} {G : zG} {N : Nat} {r0 : Nat} {x1 : Int32} (hr0 : r0 = 3 ∨ r0 = 11) {M : zMem} {r : Int32} {M1 : zMem} (hf : fX6_termOf N r0 x1 M = some (r, M1)) : Ca l G 2 mX6_termOf [.ref (G.2.2.1 r0), .int x1, .ref (G.2.2.1 64)] M (some (.int r)) M1 := by
  rcases hr0 with rfl | rfl
  · refine Ca.of (by decide +kernel) (Nat.le_of_ble_eq_true rfl) rfl ?_
    rw [fX6_termOf] at hf
    refine x_iload_n dX6_termOf_0 rfl rfl ?_
    refine x_if_lt (tgt := 32) dX6_termOf_1 (by decide) (fun c1 => ?_) (fun c1 => ?_)
    · replace hf := zif_t c1 hf
      refine x_iconst (v := 0) dX6_termOf_32 (by decide) ?_
      exact x_iret rfl dX6_termOf_33 (zretI hf)
    · replace hf := zif_f c1 hf
      refine x_iload_n dX6_termOf_4 rfl rfl ?_
      refine x_aload_n dX6_termOf_5 rfl rfl ?_
      refine x_getI dX6_termOf_6 fl_X6_33 rfl rfl ?_
      refine x_icmp_ge (tgt := 32) dX6_termOf_9 (by decide) (fun c9 => ?_) (fun c9 => ?_)
      · replace hf := zif_t c9 hf
        refine x_iconst (v := 0) dX6_termOf_32 (by decide) ?_
        exact x_iret rfl dX6_termOf_33 (zretI hf)
      · replace hf := zif_f c9 hf
        refine x_aload_n dX6_termOf_12 rfl rfl ?_
        refine x_aload_n dX6_termOf_13 rfl rfl ?_
        refine x_getS dX6_termOf_14 fl_X6_18 rfl rfl ?_
        refine x_iload_n dX6_termOf_17 rfl rfl ?_
        obtain ⟨v1, hv1, hf⟩ := zbind hf
        refine x_ild dX6_termOf_18 rfl hv1 ?_
        refine x_aload_n dX6_termOf_19 rfl rfl ?_
        refine x_getS dX6_termOf_20 fl_X6_21 rfl rfl ?_
        refine x_iload_n dX6_termOf_23 rfl rfl ?_
        obtain ⟨v2, hv2, hf⟩ := zbind hf
        refine x_ild dX6_termOf_24 rfl hv2 ?_
        refine x_aload_n dX6_termOf_25 rfl rfl ?_
        obtain ⟨r5, M4, hq3, hf⟩ := zb2E hf
        refine x_invVi dX6_termOf_26 mk_X6_workOut ml_X6_44 (cc_X6_workOut (by decide) hq3) rfl rfl rfl (Nat.le_of_ble_eq_true rfl) rfl (Nat.le_of_ble_eq_true rfl) rfl ?_
        refine x_goto (tgt := 33) dX6_termOf_29 (by decide) ?_
        exact x_iret rfl dX6_termOf_33 (zretI hf)
  · refine Ca.of (by decide +kernel) (Nat.le_of_ble_eq_true rfl) rfl ?_
    rw [fX6_termOf] at hf
    refine x_iload_n dX6_termOf_0 rfl rfl ?_
    refine x_if_lt (tgt := 32) dX6_termOf_1 (by decide) (fun c1 => ?_) (fun c1 => ?_)
    · replace hf := zif_t c1 hf
      refine x_iconst (v := 0) dX6_termOf_32 (by decide) ?_
      exact x_iret rfl dX6_termOf_33 (zretI hf)
    · replace hf := zif_f c1 hf
      refine x_iload_n dX6_termOf_4 rfl rfl ?_
      refine x_aload_n dX6_termOf_5 rfl rfl ?_
      refine x_getI dX6_termOf_6 fl_X6_33 rfl rfl ?_
      refine x_icmp_ge (tgt := 32) dX6_termOf_9 (by decide) (fun c9 => ?_) (fun c9 => ?_)
      · replace hf := zif_t c9 hf
        refine x_iconst (v := 0) dX6_termOf_32 (by decide) ?_
        exact x_iret rfl dX6_termOf_33 (zretI hf)
      · replace hf := zif_f c9 hf
        refine x_aload_n dX6_termOf_12 rfl rfl ?_
        refine x_aload_n dX6_termOf_13 rfl rfl ?_
        refine x_getS dX6_termOf_14 fl_X6_18 rfl rfl ?_
        refine x_iload_n dX6_termOf_17 rfl rfl ?_
        obtain ⟨v1, hv1, hf⟩ := zbind hf
        refine x_ild dX6_termOf_18 rfl hv1 ?_
        refine x_aload_n dX6_termOf_19 rfl rfl ?_
        refine x_getS dX6_termOf_20 fl_X6_21 rfl rfl ?_
        refine x_iload_n dX6_termOf_23 rfl rfl ?_
        obtain ⟨v2, hv2, hf⟩ := zbind hf
        refine x_ild dX6_termOf_24 rfl hv2 ?_
        refine x_aload_n dX6_termOf_25 rfl rfl ?_
        obtain ⟨r5, M4, hq3, hf⟩ := zb2E hf
        refine x_invVi dX6_termOf_26 mk_X6_workOut ml_X6_44 (cc_X6_workOut (by decide) hq3) rfl rfl rfl (Nat.le_of_ble_eq_true rfl) rfl (Nat.le_of_ble_eq_true rfl) rfl ?_
        refine x_goto (tgt := 33) dX6_termOf_29 (by decide) ?_
        exact x_iret rfl dX6_termOf_33 (zretI hf)
theorem cc_X2_lineUp_L94 {l : Launch} {G : zG} {N : Nat} {k10 : Int32 → Int32 → Int32 → zMem → Option (Int32 × zMem)} (hk10 : ∀ {x1 : Int32} {x2 : Int32} {x3 : Int32} {M : zMem} {r : Int32} {M1 : zMem}, k10 x1 x2 x3 M = some (r, M1) → Ex l G 4 mX2_lineUp 10 [(0, .ref (G.2.2.1 57)), (1, .int x1), (2, .int x2), (3, .int x3)] [] M (zqI r M1)) {x1 : Int32} {x2 : Int32} {x3 : Int32} {M : zMem} {r : Int32} {M1 : zMem} (hf : fX2_lineUp_L94 N k10 x1 x2 x3 M = some (r, M1)) : Ex l G 4 mX2_lineUp 94 [(0, .ref (G.2.2.1 57)), (1, .int x1), (2, .int x2), (3, .int x3)] [] M (zqI r M1) := by
  rw [fX2_lineUp_L94] at hf
  obtain ⟨x3_21, ex3_21, hf⟩ := zletE hf
  refine x_iinc (c0 := 1) dX2_lineUp_94 rfl (Nat.le_of_ble_eq_true rfl) (by decide) ex3_21 ?_
  refine x_goto (tgt := 10) dX2_lineUp_97 (by decide) ?_
  exact Ex.sb (hk10 hf) ⟨rfl, rfl, rfl, rfl, trivial⟩
theorem cc_X2_lineUp_L87 {l : Launch} {G : zG} {N : Nat} {k10 : Int32 → Int32 → Int32 → zMem → Option (Int32 × zMem)} (hk10 : ∀ {x1 : Int32} {x2 : Int32} {x3 : Int32} {M : zMem} {r : Int32} {M1 : zMem}, k10 x1 x2 x3 M = some (r, M1) → Ex l G 4 mX2_lineUp 10 [(0, .ref (G.2.2.1 57)), (1, .int x1), (2, .int x2), (3, .int x3)] [] M (zqI r M1)) {x1 : Int32} {x2 : Int32} {x3 : Int32} {s1 : Int32} {s2 : Int32} {M : zMem} {r : Int32} {M1 : zMem} (hf : fX2_lineUp_L87 N k10 x1 x2 x3 s1 s2 M = some (r, M1)) : Ex l G 4 mX2_lineUp 87 [(0, .ref (G.2.2.1 57)), (1, .int x1), (2, .int x2), (3, .int x3)] [.int s2, .int s1, .ref (G.2.2.1 57)] M (zqI r M1) := by
  rw [fX2_lineUp_L87] at hf
  refine x_iload_n dX2_lineUp_87 rfl rfl ?_
  obtain ⟨M23, hq22, hf⟩ := zbind hf
  refine x_invVv dX2_lineUp_88 mk_X2_putInLine ml_X2_139 (cc_X2_putInLine hq22) rfl rfl rfl (Nat.le_of_ble_eq_true rfl) rfl (Nat.le_of_ble_eq_true rfl) rfl ?_
  obtain ⟨x2_24, ex2_24, hf⟩ := zletE hf
  refine x_iinc (c0 := 1) dX2_lineUp_91 rfl (Nat.le_of_ble_eq_true rfl) (by decide) ex2_24 ?_
  exact Ex.sb (cc_X2_lineUp_L94 hk10 hf) ⟨rfl, rfl, rfl, rfl, trivial⟩
theorem cc_X2_lineUp_L10 {l : Launch} {G : zG} {N : Nat} : ∀ {n : Nat} {x1 : Int32} {x2 : Int32} {x3 : Int32} {M : zMem} {r : Int32} {M1 : zMem}, fX2_lineUp_L10 N n x1 x2 x3 M = some (r, M1) → Ex l G 4 mX2_lineUp 10 [(0, .ref (G.2.2.1 57)), (1, .int x1), (2, .int x2), (3, .int x3)] [] M (zqI r M1) := by
  intro n
  induction n with
  | zero => intro x1 x2 x3 M r M1 hf; cases hf
  | succ n ih =>
    intro x1 x2 x3 M r M1 hf
    rw [fX2_lineUp_L10] at hf
    refine x_iload_n dX2_lineUp_10 rfl rfl ?_
    refine x_aload_n dX2_lineUp_11 rfl rfl ?_
    refine x_getS (r := 47) dX2_lineUp_12 fl_X2_19 rfl rfl ?_
    obtain ⟨r6, M5, hq4, hf⟩ := zb2E hf
    refine x_invVi dX2_lineUp_15 mk_X1_size ml_X2_123 (cc_X1_size hq4) rfl rfl rfl (Nat.le_of_ble_eq_true rfl) rfl (Nat.le_of_ble_eq_true rfl) rfl ?_
    refine x_icmp_ge (tgt := 100) dX2_lineUp_18 (by decide) (fun c18 => ?_) (fun c18 => ?_)
    · replace hf := zif_t c18 hf
      refine x_iload_n dX2_lineUp_100 rfl rfl ?_
      exact x_iret rfl dX2_lineUp_101 (zretI hf)
    · replace hf := zif_f c18 hf
      refine x_aload_n dX2_lineUp_21 rfl rfl ?_
      refine x_getS (r := 47) dX2_lineUp_22 fl_X2_19 rfl rfl ?_
      refine x_iload_n dX2_lineUp_25 rfl rfl ?_
      refine x_iload_n dX2_lineUp_26 rfl rfl ?_
      obtain ⟨r9, M8, hq7, hf⟩ := zb2E hf
      refine x_invVi dX2_lineUp_27 mk_X1_isWaiting ml_X2_126 (cc_X1_isWaiting hq7) rfl rfl rfl (Nat.le_of_ble_eq_true rfl) rfl (Nat.le_of_ble_eq_true rfl) rfl ?_
      refine x_if_eq (tgt := 94) dX2_lineUp_30 (by decide) (fun c30 => ?_) (fun c30 => ?_)
      · replace hf := zif_t c30 hf
        exact Ex.sb (cc_X2_lineUp_L94 ih hf) ⟨rfl, rfl, rfl, rfl, trivial⟩
      · replace hf := zif_f c30 hf
        refine x_aload_n dX2_lineUp_33 rfl rfl ?_
        refine x_iload_n dX2_lineUp_34 rfl rfl ?_
        refine x_iload_n dX2_lineUp_35 rfl rfl ?_
        refine x_iload_n dX2_lineUp_36 rfl rfl ?_
        refine x_iconst (v := 0) dX2_lineUp_37 (by decide) ?_
        obtain ⟨M11, hq10, hf⟩ := zbind hf
        refine x_invVv dX2_lineUp_38 mk_X2_setFacts ml_X2_110 (cc_X2_setFacts hq10) rfl rfl rfl (Nat.le_of_ble_eq_true rfl) rfl (Nat.le_of_ble_eq_true rfl) rfl ?_
        refine x_aload_n dX2_lineUp_41 rfl rfl ?_
        refine x_getR dX2_lineUp_42 fl_X2_23 rfl rfl ?_
        refine x_iconst (v := 4) dX2_lineUp_45 (by decide) ?_
        refine x_aload_n dX2_lineUp_46 rfl rfl ?_
        refine x_getS (r := 64) dX2_lineUp_47 fl_X2_52 rfl rfl ?_
        obtain ⟨r14, M13, hq12, hf⟩ := zb2E hf
        obtain ⟨hdy50, hq12⟩ := zdyE hq12
        obtain ⟨cd50, hs50⟩ := zdySH hdy50
        refine x_invVi dX2_lineUp_50 mk_X6_firstHolding ml_X2_116 (cc_X6_firstHolding hdy50 hq12) hs50 rfl rfl (Nat.le_of_ble_eq_true rfl) rfl (Nat.le_of_ble_eq_true rfl) rfl ?_
        refine x_istore dX2_lineUp_53 (Nat.le_of_ble_eq_true rfl) rfl ?_
        refine x_aload_n dX2_lineUp_55 rfl rfl ?_
        refine x_iload_n dX2_lineUp_56 rfl rfl ?_
        refine x_iload dX2_lineUp_57 rfl ?_
        refine x_iconst (v := -1) dX2_lineUp_59 (by decide) ?_
        refine x_icmp_ne (tgt := 74) dX2_lineUp_60 (by decide) (fun c60 => ?_) (fun c60 => ?_)
        · replace hf := zif_f c60 hf
          refine x_aload_n dX2_lineUp_74 rfl rfl ?_
          refine x_getR dX2_lineUp_75 fl_X2_23 rfl rfl ?_
          refine x_iload dX2_lineUp_78 rfl ?_
          refine x_aload_n dX2_lineUp_80 rfl rfl ?_
          refine x_getS (r := 64) dX2_lineUp_81 fl_X2_52 rfl rfl ?_
          obtain ⟨r17, M16, hq15, hf⟩ := zb2E hf
          obtain ⟨hdy84, hq15⟩ := zdyE hq15
          obtain ⟨cd84, hs84⟩ := zdySH hdy84
          refine x_invVi dX2_lineUp_84 mk_X6_termOf ml_X2_136 (cc_X6_termOf hdy84 hq15) hs84 rfl rfl (Nat.le_of_ble_eq_true rfl) rfl (Nat.le_of_ble_eq_true rfl) rfl ?_
          exact Ex.sb (cc_X2_lineUp_L87 ih hf) ⟨rfl, rfl, rfl, rfl, trivial⟩
        · replace hf := zif_t c60 hf
          refine x_aload_n dX2_lineUp_63 rfl rfl ?_
          refine x_getS (r := 47) dX2_lineUp_64 fl_X2_19 rfl rfl ?_
          refine x_iload_n dX2_lineUp_67 rfl rfl ?_
          obtain ⟨r20, M19, hq18, hf⟩ := zb2E hf
          refine x_invVi dX2_lineUp_68 mk_X1_needOf ml_X2_133 (cc_X1_needOf hq18) rfl rfl rfl (Nat.le_of_ble_eq_true rfl) rfl (Nat.le_of_ble_eq_true rfl) rfl ?_
          refine x_goto (tgt := 87) dX2_lineUp_71 (by decide) ?_
          exact Ex.sb (cc_X2_lineUp_L87 ih hf) ⟨rfl, rfl, rfl, rfl, trivial⟩
theorem cc_X2_lineUp {l : Launch} {G : zG} {N : Nat} {x1 : Int32}  {M : zMem} {r : Int32} {M1 : zMem} (hf : fX2_lineUp N x1 M = some (r, M1)) : Ca l G 4 mX2_lineUp [.ref (G.2.2.1 57), .int x1] M (some (.int r)) M1 := by
  refine Ca.of (by decide +kernel) (Nat.le_of_ble_eq_true rfl) rfl ?_
  rw [fX2_lineUp] at hf
  refine x_iconst (v := 0) dX2_lineUp_0 (by decide) ?_
  refine x_istore_n dX2_lineUp_1 rfl (Nat.le_of_ble_eq_true rfl) rfl ?_
  refine x_aload_n dX2_lineUp_2 rfl rfl ?_
  refine x_getS (r := 47) dX2_lineUp_3 fl_X2_19 rfl rfl ?_
  obtain ⟨r3, M2, hq1, hf⟩ := zb2E hf
  refine x_invVi dX2_lineUp_6 mk_X1_nightStart ml_X2_88 (cc_X1_nightStart hq1) rfl rfl rfl (Nat.le_of_ble_eq_true rfl) rfl (Nat.le_of_ble_eq_true rfl) rfl ?_
  refine x_istore_n dX2_lineUp_9 rfl (Nat.le_of_ble_eq_true rfl) rfl ?_
  exact Ex.sb (cc_X2_lineUp_L10  hf) ⟨rfl, rfl, rfl, rfl, trivial⟩
theorem cc_X2_goThrough_L43 {l : Launch} {G : zG} {N : Nat} {k8 : Int32 → zMem → Option (Int32 × zMem)} (hk8 : ∀ {x3 : Int32} {M : zMem} {r : Int32} {M1 : zMem}, k8 x3 M = some (r, M1) → Ex l G 6 mX2_goThrough 8 [(0, .ref (G.2.2.1 57)), (3, .int x3)] [] M (zqI r M1)) {x3 : Int32} {M : zMem} {r : Int32} {M1 : zMem} (hf : fX2_goThrough_L43 N k8 x3 M = some (r, M1)) : Ex l G 6 mX2_goThrough 43 [(0, .ref (G.2.2.1 57)), (3, .int x3)] [] M (zqI r M1) := by
  rw [fX2_goThrough_L43] at hf
  obtain ⟨x3_17, ex3_17, hf⟩ := zletE hf
  refine x_iinc (c0 := 1) dX2_goThrough_43 rfl (Nat.le_of_ble_eq_true rfl) (by decide) ex3_17 ?_
  refine x_goto (tgt := 8) dX2_goThrough_46 (by decide) ?_
  exact Ex.sb (hk8 hf) ⟨rfl, rfl, trivial⟩
theorem cc_X2_goThrough_L8 {l : Launch} {G : zG} {N : Nat} : ∀ {n : Nat} {x3 : Int32} {M : zMem} {r : Int32} {M1 : zMem}, fX2_goThrough_L8 N n x3 M = some (r, M1) → Ex l G 6 mX2_goThrough 8 [(0, .ref (G.2.2.1 57)), (3, .int x3)] [] M (zqI r M1) := by
  intro n
  induction n with
  | zero => intro x3 M r M1 hf; cases hf
  | succ n ih =>
    intro x3 M r M1 hf
    rw [fX2_goThrough_L8] at hf
    refine x_iload_n dX2_goThrough_8 rfl rfl ?_
    refine x_sipush (v := 360) dX2_goThrough_9 (by decide) ?_
    refine x_icmp_ge (tgt := 49) dX2_goThrough_12 (by decide) (fun c12 => ?_) (fun c12 => ?_)
    · replace hf := zif_t c12 hf
      refine x_aload_n dX2_goThrough_49 rfl rfl ?_
      obtain ⟨M4, hq3, hf⟩ := zbind hf
      refine x_invVv dX2_goThrough_50 mk_X2_leaveCalls ml_X2_85 (cc_X2_leaveCalls hq3) rfl rfl rfl (Nat.le_of_ble_eq_true rfl) rfl (Nat.le_of_ble_eq_true rfl) rfl ?_
      refine x_aload_n dX2_goThrough_53 rfl rfl ?_
      refine x_getI dX2_goThrough_54 fl_X2_59 rfl rfl ?_
      exact x_iret rfl dX2_goThrough_57 (zretI hf)
    · replace hf := zif_f c12 hf
      refine x_aload_n dX2_goThrough_15 rfl rfl ?_
      refine x_iload_n dX2_goThrough_16 rfl rfl ?_
      obtain ⟨M6, hq5, hf⟩ := zbind hf
      refine x_invVv dX2_goThrough_17 mk_X2_endCalls ml_X2_66 (cc_X2_endCalls hq5) rfl rfl rfl (Nat.le_of_ble_eq_true rfl) rfl (Nat.le_of_ble_eq_true rfl) rfl ?_
      refine x_aload_n dX2_goThrough_20 rfl rfl ?_
      refine x_iload_n dX2_goThrough_21 rfl rfl ?_
      obtain ⟨M8, hq7, hf⟩ := zbind hf
      refine x_invVv dX2_goThrough_22 mk_X2_dropCalls ml_X2_70 (cc_X2_dropCalls hq7) rfl rfl rfl (Nat.le_of_ble_eq_true rfl) rfl (Nat.le_of_ble_eq_true rfl) rfl ?_
      refine x_aload_n dX2_goThrough_25 rfl rfl ?_
      refine x_iload_n dX2_goThrough_26 rfl rfl ?_
      obtain ⟨r11, M10, hq9, hf⟩ := zb2E hf
      refine x_invVi dX2_goThrough_27 mk_X2_isAnyFree ml_X2_73 (cc_X2_isAnyFree hq9) rfl rfl rfl (Nat.le_of_ble_eq_true rfl) rfl (Nat.le_of_ble_eq_true rfl) rfl ?_
      refine x_if_eq (tgt := 43) dX2_goThrough_30 (by decide) (fun c30 => ?_) (fun c30 => ?_)
      · replace hf := zif_t c30 hf
        exact Ex.sb (cc_X2_goThrough_L43 ih hf) ⟨rfl, rfl, trivial⟩
      · replace hf := zif_f c30 hf
        refine x_aload_n dX2_goThrough_33 rfl rfl ?_
        refine x_iload_n dX2_goThrough_34 rfl rfl ?_
        refine x_aload_n dX2_goThrough_35 rfl rfl ?_
        refine x_iload_n dX2_goThrough_36 rfl rfl ?_
        obtain ⟨r14, M13, hq12, hf⟩ := zb2E hf
        refine x_invVi dX2_goThrough_37 mk_X2_lineUp ml_X2_77 (cc_X2_lineUp hq12) rfl rfl rfl (Nat.le_of_ble_eq_true rfl) rfl (Nat.le_of_ble_eq_true rfl) rfl ?_
        obtain ⟨M16, hq15, hf⟩ := zbind hf
        refine x_invVv dX2_goThrough_40 mk_X2_giveCalls ml_X2_81 (cc_X2_giveCalls hq15) rfl rfl rfl (Nat.le_of_ble_eq_true rfl) rfl (Nat.le_of_ble_eq_true rfl) rfl ?_
        exact Ex.sb (cc_X2_goThrough_L43 ih hf) ⟨rfl, rfl, trivial⟩
theorem cc_X2_goThrough {l : Launch} {G : zG} {N : Nat} {x1 : Int32} {x2 : Nat}  {M : zMem} {r : Int32} {M1 : zMem} (hf : fX2_goThrough N x1 x2 M = some (r, M1)) : Ca l G 6 mX2_goThrough [.ref (G.2.2.1 57), .int x1, .ref (G.2.2.1 x2)] M (some (.int r)) M1 := by
  refine Ca.of (by decide +kernel) (Nat.le_of_ble_eq_true rfl) rfl ?_
  rw [fX2_goThrough] at hf
  refine x_aload_n dX2_goThrough_0 rfl rfl ?_
  refine x_iload_n dX2_goThrough_1 rfl rfl ?_
  refine x_aload_n dX2_goThrough_2 rfl rfl ?_
  obtain ⟨M2, hq1, hf⟩ := zbind hf
  refine x_invVv dX2_goThrough_3 mk_X2_begin ml_X2_62 (cc_X2_begin hq1) rfl rfl rfl (Nat.le_of_ble_eq_true rfl) rfl (Nat.le_of_ble_eq_true rfl) rfl ?_
  refine x_iconst (v := 0) dX2_goThrough_6 (by decide) ?_
  refine x_istore_n dX2_goThrough_7 rfl (Nat.le_of_ble_eq_true rfl) rfl ?_
  exact Ex.sb (cc_X2_goThrough_L8  hf) ⟨rfl, rfl, trivial⟩
theorem cc_X3_size {l : Launch} {G : zG}   {M : zMem} {r : Int32} {M1 : zMem} (hf : fX3_size M = some (r, M1)) : Ca l G 0 mX3_size [.ref (G.2.2.1 65)] M (some (.int r)) M1 := by
  refine Ca.of (by decide +kernel) (Nat.le_of_ble_eq_true rfl) rfl ?_
  rw [fX3_size] at hf
  refine x_aload_n dX3_size_0 rfl rfl ?_
  refine x_getI dX3_size_1 fl_X3_21 rfl rfl ?_
  exact x_iret rfl dX3_size_4 (zretI hf)
theorem cc_X3_isNote {l : Launch} {G : zG} {x1 : Int32}  {M : zMem} {r : Int32} {M1 : zMem} (hf : fX3_isNote x1 M = some (r, M1)) : Ca l G 0 mX3_isNote [.ref (G.2.2.1 65), .int x1] M (some (.int r)) M1 := by
  refine Ca.of (by decide +kernel) (Nat.le_of_ble_eq_true rfl) rfl ?_
  rw [fX3_isNote] at hf
  refine x_iload_n dX3_isNote_0 rfl rfl ?_
  refine x_if_lt (tgt := 16) dX3_isNote_1 (by decide) (fun c1 => ?_) (fun c1 => ?_)
  · replace hf := zif_t c1 hf
    refine x_iconst (v := 0) dX3_isNote_16 (by decide) ?_
    exact x_zret rfl rfl dX3_isNote_17 (zretI hf)
  · replace hf := zif_f c1 hf
    refine x_iload_n dX3_isNote_4 rfl rfl ?_
    refine x_aload_n dX3_isNote_5 rfl rfl ?_
    refine x_getI dX3_isNote_6 fl_X3_21 rfl rfl ?_
    refine x_icmp_ge (tgt := 16) dX3_isNote_9 (by decide) (fun c9 => ?_) (fun c9 => ?_)
    · replace hf := zif_t c9 hf
      refine x_iconst (v := 0) dX3_isNote_16 (by decide) ?_
      exact x_zret rfl rfl dX3_isNote_17 (zretI hf)
    · replace hf := zif_f c9 hf
      refine x_iconst (v := 1) dX3_isNote_12 (by decide) ?_
      refine x_goto (tgt := 17) dX3_isNote_13 (by decide) ?_
      exact x_zret rfl rfl dX3_isNote_17 (zretI hf)
theorem cc_X3_add {l : Launch} {G : zG} {x1 : Int32} {x2 : Int32} {x3 : Int32}  {M : zMem} {r : Int32} {M1 : zMem} (hf : fX3_add x1 x2 x3 M = some (r, M1)) : Ca l G 0 mX3_add [.ref (G.2.2.1 65), .int x1, .int x2, .int x3] M (some (.int r)) M1 := by
  refine Ca.of (by decide +kernel) (Nat.le_of_ble_eq_true rfl) rfl ?_
  rw [fX3_add] at hf
  refine x_aload_n dX3_add_0 rfl rfl ?_
  refine x_getI dX3_add_1 fl_X3_21 rfl rfl ?_
  refine x_bipush (v := 60) dX3_add_4 (by decide) ?_
  refine x_icmp_lt (tgt := 11) dX3_add_6 (by decide) (fun c6 => ?_) (fun c6 => ?_)
  · replace hf := zif_t c6 hf
    refine x_aload_n dX3_add_11 rfl rfl ?_
    refine x_getS (r := 66) dX3_add_12 fl_X3_11 rfl rfl ?_
    refine x_aload_n dX3_add_15 rfl rfl ?_
    refine x_getI dX3_add_16 fl_X3_21 rfl rfl ?_
    refine x_iload_n dX3_add_19 rfl rfl ?_
    obtain ⟨M1, hM1, hf⟩ := zbind hf
    refine x_ist dX3_add_20 rfl hM1 ?_
    refine x_aload_n dX3_add_21 rfl rfl ?_
    refine x_getS (r := 67) dX3_add_22 fl_X3_15 rfl rfl ?_
    refine x_aload_n dX3_add_25 rfl rfl ?_
    refine x_getI dX3_add_26 fl_X3_21 rfl rfl ?_
    refine x_iload_n dX3_add_29 rfl rfl ?_
    obtain ⟨M2, hM2, hf⟩ := zbind hf
    refine x_ist dX3_add_30 rfl hM2 ?_
    refine x_aload_n dX3_add_31 rfl rfl ?_
    refine x_getS (r := 68) dX3_add_32 fl_X3_18 rfl rfl ?_
    refine x_aload_n dX3_add_35 rfl rfl ?_
    refine x_getI dX3_add_36 fl_X3_21 rfl rfl ?_
    refine x_iload_n dX3_add_39 rfl rfl ?_
    obtain ⟨M3, hM3, hf⟩ := zbind hf
    refine x_ist dX3_add_40 rfl hM3 ?_
    refine x_aload_n dX3_add_41 rfl rfl ?_
    refine x_dup dX3_add_42 rfl ?_
    refine x_getI dX3_add_43 fl_X3_21 rfl rfl ?_
    refine x_iconst (v := 1) dX3_add_46 (by decide) ?_
    refine x_iadd dX3_add_47 ?_
    obtain ⟨M4, eM4, hf⟩ := zletE hf
    refine x_putI dX3_add_48 fp_X3_21 rfl rfl rfl rfl eM4 ?_
    refine x_aload_n dX3_add_51 rfl rfl ?_
    refine x_getI dX3_add_52 fl_X3_21 rfl rfl ?_
    refine x_iconst (v := 1) dX3_add_55 (by decide) ?_
    refine x_isub dX3_add_56 ?_
    exact x_iret rfl dX3_add_57 (zretI hf)
  · replace hf := zif_f c6 hf
    refine x_iconst (v := -1) dX3_add_9 (by decide) ?_
    exact x_iret rfl dX3_add_10 (zretI hf)
theorem cc_X3_callOf {l : Launch} {G : zG} {x1 : Int32}  {M : zMem} {r : Int32} {M1 : zMem} (hf : fX3_callOf x1 M = some (r, M1)) : Ca l G 1 mX3_callOf [.ref (G.2.2.1 65), .int x1] M (some (.int r)) M1 := by
  refine Ca.of (by decide +kernel) (Nat.le_of_ble_eq_true rfl) rfl ?_
  rw [fX3_callOf] at hf
  refine x_aload_n dX3_callOf_0 rfl rfl ?_
  refine x_iload_n dX3_callOf_1 rfl rfl ?_
  obtain ⟨r3, M2, hq1, hf⟩ := zb2E hf
  refine x_invVi dX3_callOf_2 mk_X3_isNote ml_X3_25 (cc_X3_isNote hq1) rfl rfl rfl (Nat.le_of_ble_eq_true rfl) rfl (Nat.le_of_ble_eq_true rfl) rfl ?_
  refine x_if_eq (tgt := 17) dX3_callOf_5 (by decide) (fun c5 => ?_) (fun c5 => ?_)
  · replace hf := zif_t c5 hf
    refine x_iconst (v := -1) dX3_callOf_17 (by decide) ?_
    exact x_iret rfl dX3_callOf_18 (zretI hf)
  · replace hf := zif_f c5 hf
    refine x_aload_n dX3_callOf_8 rfl rfl ?_
    refine x_getS (r := 66) dX3_callOf_9 fl_X3_11 rfl rfl ?_
    refine x_iload_n dX3_callOf_12 rfl rfl ?_
    obtain ⟨v4, hv4, hf⟩ := zbind hf
    refine x_ild dX3_callOf_13 rfl hv4 ?_
    refine x_goto (tgt := 18) dX3_callOf_14 (by decide) ?_
    exact x_iret rfl dX3_callOf_18 (zretI hf)
theorem cc_X3_rankOf {l : Launch} {G : zG} {x1 : Int32}  {M : zMem} {r : Int32} {M1 : zMem} (hf : fX3_rankOf x1 M = some (r, M1)) : Ca l G 1 mX3_rankOf [.ref (G.2.2.1 65), .int x1] M (some (.int r)) M1 := by
  refine Ca.of (by decide +kernel) (Nat.le_of_ble_eq_true rfl) rfl ?_
  rw [fX3_rankOf] at hf
  refine x_aload_n dX3_rankOf_0 rfl rfl ?_
  refine x_iload_n dX3_rankOf_1 rfl rfl ?_
  obtain ⟨r3, M2, hq1, hf⟩ := zb2E hf
  refine x_invVi dX3_rankOf_2 mk_X3_isNote ml_X3_25 (cc_X3_isNote hq1) rfl rfl rfl (Nat.le_of_ble_eq_true rfl) rfl (Nat.le_of_ble_eq_true rfl) rfl ?_
  refine x_if_eq (tgt := 17) dX3_rankOf_5 (by decide) (fun c5 => ?_) (fun c5 => ?_)
  · replace hf := zif_t c5 hf
    refine x_iconst (v := -1) dX3_rankOf_17 (by decide) ?_
    exact x_iret rfl dX3_rankOf_18 (zretI hf)
  · replace hf := zif_f c5 hf
    refine x_aload_n dX3_rankOf_8 rfl rfl ?_
    refine x_getS (r := 67) dX3_rankOf_9 fl_X3_15 rfl rfl ?_
    refine x_iload_n dX3_rankOf_12 rfl rfl ?_
    obtain ⟨v4, hv4, hf⟩ := zbind hf
    refine x_ild dX3_rankOf_13 rfl hv4 ?_
    refine x_goto (tgt := 18) dX3_rankOf_14 (by decide) ?_
    exact x_iret rfl dX3_rankOf_18 (zretI hf)
theorem cc_X3_nightOf {l : Launch} {G : zG} {x1 : Int32}  {M : zMem} {r : Int32} {M1 : zMem} (hf : fX3_nightOf x1 M = some (r, M1)) : Ca l G 1 mX3_nightOf [.ref (G.2.2.1 65), .int x1] M (some (.int r)) M1 := by
  refine Ca.of (by decide +kernel) (Nat.le_of_ble_eq_true rfl) rfl ?_
  rw [fX3_nightOf] at hf
  refine x_aload_n dX3_nightOf_0 rfl rfl ?_
  refine x_iload_n dX3_nightOf_1 rfl rfl ?_
  obtain ⟨r3, M2, hq1, hf⟩ := zb2E hf
  refine x_invVi dX3_nightOf_2 mk_X3_isNote ml_X3_25 (cc_X3_isNote hq1) rfl rfl rfl (Nat.le_of_ble_eq_true rfl) rfl (Nat.le_of_ble_eq_true rfl) rfl ?_
  refine x_if_eq (tgt := 17) dX3_nightOf_5 (by decide) (fun c5 => ?_) (fun c5 => ?_)
  · replace hf := zif_t c5 hf
    refine x_iconst (v := -1) dX3_nightOf_17 (by decide) ?_
    exact x_iret rfl dX3_nightOf_18 (zretI hf)
  · replace hf := zif_f c5 hf
    refine x_aload_n dX3_nightOf_8 rfl rfl ?_
    refine x_getS (r := 68) dX3_nightOf_9 fl_X3_18 rfl rfl ?_
    refine x_iload_n dX3_nightOf_12 rfl rfl ?_
    obtain ⟨v4, hv4, hf⟩ := zbind hf
    refine x_ild dX3_nightOf_13 rfl hv4 ?_
    refine x_goto (tgt := 18) dX3_nightOf_14 (by decide) ?_
    exact x_iret rfl dX3_nightOf_18 (zretI hf)
theorem cc_X4_clear {l : Launch} {G : zG}   {M : zMem} {M1 : zMem} (hf : fX4_clear M = some M1) : Ca l G 0 mX4_clear [.ref (G.2.2.1 32)] M none M1 := by
  refine Ca.of (by decide +kernel) (Nat.le_of_ble_eq_true rfl) rfl ?_
  rw [fX4_clear] at hf
  refine x_aload_n dX4_clear_0 rfl rfl ?_
  refine x_iconst (v := 0) dX4_clear_1 (by decide) ?_
  obtain ⟨M1, eM1, hf⟩ := zletE hf
  refine x_putI dX4_clear_2 fp_X4_21 rfl rfl rfl rfl eM1 ?_
  exact x_vret rfl dX4_clear_5 (zretV hf)
theorem cc_X4_size {l : Launch} {G : zG}   {M : zMem} {r : Int32} {M1 : zMem} (hf : fX4_size M = some (r, M1)) : Ca l G 0 mX4_size [.ref (G.2.2.1 32)] M (some (.int r)) M1 := by
  refine Ca.of (by decide +kernel) (Nat.le_of_ble_eq_true rfl) rfl ?_
  rw [fX4_size] at hf
  refine x_aload_n dX4_size_0 rfl rfl ?_
  refine x_getI dX4_size_1 fl_X4_21 rfl rfl ?_
  exact x_iret rfl dX4_size_4 (zretI hf)
theorem cc_X4_isOfOffer_L2 {l : Launch} {G : zG} {N : Nat} : ∀ {n : Nat} {x1 : Int32} {x2 : Int32} {M : zMem} {r : Int32} {M1 : zMem}, fX4_isOfOffer_L2 N n x1 x2 M = some (r, M1) → Ex l G 0 mX4_isOfOffer 2 [(0, .ref (G.2.2.1 32)), (1, .int x1), (2, .int x2)] [] M (zqI r M1) := by
  intro n
  induction n with
  | zero => intro x1 x2 M r M1 hf; cases hf
  | succ n ih =>
    intro x1 x2 M r M1 hf
    rw [fX4_isOfOffer_L2] at hf
    refine x_iload_n dX4_isOfOffer_2 rfl rfl ?_
    refine x_aload_n dX4_isOfOffer_3 rfl rfl ?_
    refine x_getI dX4_isOfOffer_4 fl_X4_21 rfl rfl ?_
    refine x_icmp_ge (tgt := 28) dX4_isOfOffer_7 (by decide) (fun c7 => ?_) (fun c7 => ?_)
    · replace hf := zif_t c7 hf
      refine x_iconst (v := 0) dX4_isOfOffer_28 (by decide) ?_
      exact x_zret rfl rfl dX4_isOfOffer_29 (zretI hf)
    · replace hf := zif_f c7 hf
      refine x_aload_n dX4_isOfOffer_10 rfl rfl ?_
      refine x_getS (r := 33) dX4_isOfOffer_11 fl_X4_11 rfl rfl ?_
      refine x_iload_n dX4_isOfOffer_14 rfl rfl ?_
      obtain ⟨v1, hv1, hf⟩ := zbind hf
      refine x_ild dX4_isOfOffer_15 rfl hv1 ?_
      refine x_iload_n dX4_isOfOffer_16 rfl rfl ?_
      refine x_icmp_ne (tgt := 22) dX4_isOfOffer_17 (by decide) (fun c17 => ?_) (fun c17 => ?_)
      · replace hf := zif_f c17 hf
        obtain ⟨x2_2, ex2_2, hf⟩ := zletE hf
        refine x_iinc (c0 := 1) dX4_isOfOffer_22 rfl (Nat.le_of_ble_eq_true rfl) (by decide) ex2_2 ?_
        refine x_goto (tgt := 2) dX4_isOfOffer_25 (by decide) ?_
        exact Ex.sb (ih hf) ⟨rfl, rfl, rfl, trivial⟩
      · replace hf := zif_t c17 hf
        refine x_iconst (v := 1) dX4_isOfOffer_20 (by decide) ?_
        exact x_zret rfl rfl dX4_isOfOffer_21 (zretI hf)
theorem cc_X4_isOfOffer {l : Launch} {G : zG} {N : Nat} {x1 : Int32}  {M : zMem} {r : Int32} {M1 : zMem} (hf : fX4_isOfOffer N x1 M = some (r, M1)) : Ca l G 0 mX4_isOfOffer [.ref (G.2.2.1 32), .int x1] M (some (.int r)) M1 := by
  refine Ca.of (by decide +kernel) (Nat.le_of_ble_eq_true rfl) rfl ?_
  rw [fX4_isOfOffer] at hf
  refine x_iconst (v := 0) dX4_isOfOffer_0 (by decide) ?_
  refine x_istore_n dX4_isOfOffer_1 rfl (Nat.le_of_ble_eq_true rfl) rfl ?_
  exact Ex.sb (cc_X4_isOfOffer_L2  hf) ⟨rfl, rfl, rfl, trivial⟩
theorem cc_X4_add {l : Launch} {G : zG} {N : Nat} {x1 : Int32} {x2 : Int32} {x3 : Int32}  {M : zMem} {r : Int32} {M1 : zMem} (hf : fX4_add N x1 x2 x3 M = some (r, M1)) : Ca l G 1 mX4_add [.ref (G.2.2.1 32), .int x1, .int x2, .int x3] M (some (.int r)) M1 := by
  refine Ca.of (by decide +kernel) (Nat.le_of_ble_eq_true rfl) rfl ?_
  rw [fX4_add] at hf
  refine x_aload_n dX4_add_0 rfl rfl ?_
  refine x_getI dX4_add_1 fl_X4_21 rfl rfl ?_
  refine x_iconst (v := 5) dX4_add_4 (by decide) ?_
  refine x_icmp_ge (tgt := 16) dX4_add_5 (by decide) (fun c5 => ?_) (fun c5 => ?_)
  · replace hf := zif_t c5 hf
    refine x_iconst (v := -1) dX4_add_16 (by decide) ?_
    exact x_iret rfl dX4_add_17 (zretI hf)
  · replace hf := zif_f c5 hf
    refine x_aload_n dX4_add_8 rfl rfl ?_
    refine x_iload_n dX4_add_9 rfl rfl ?_
    obtain ⟨r3, M2, hq1, hf⟩ := zb2E hf
    refine x_invVi dX4_add_10 mk_X4_isOfOffer ml_X4_25 (cc_X4_isOfOffer hq1) rfl rfl rfl (Nat.le_of_ble_eq_true rfl) rfl (Nat.le_of_ble_eq_true rfl) rfl ?_
    refine x_if_eq (tgt := 18) dX4_add_13 (by decide) (fun c13 => ?_) (fun c13 => ?_)
    · replace hf := zif_t c13 hf
      refine x_aload_n dX4_add_18 rfl rfl ?_
      refine x_getS (r := 33) dX4_add_19 fl_X4_11 rfl rfl ?_
      refine x_aload_n dX4_add_22 rfl rfl ?_
      refine x_getI dX4_add_23 fl_X4_21 rfl rfl ?_
      refine x_iload_n dX4_add_26 rfl rfl ?_
      obtain ⟨M4, hM4, hf⟩ := zbind hf
      refine x_ist dX4_add_27 rfl hM4 ?_
      refine x_aload_n dX4_add_28 rfl rfl ?_
      refine x_getS (r := 34) dX4_add_29 fl_X4_15 rfl rfl ?_
      refine x_aload_n dX4_add_32 rfl rfl ?_
      refine x_getI dX4_add_33 fl_X4_21 rfl rfl ?_
      refine x_iload_n dX4_add_36 rfl rfl ?_
      obtain ⟨M5, hM5, hf⟩ := zbind hf
      refine x_ist dX4_add_37 rfl hM5 ?_
      refine x_aload_n dX4_add_38 rfl rfl ?_
      refine x_getS (r := 35) dX4_add_39 fl_X4_18 rfl rfl ?_
      refine x_aload_n dX4_add_42 rfl rfl ?_
      refine x_getI dX4_add_43 fl_X4_21 rfl rfl ?_
      refine x_iload_n dX4_add_46 rfl rfl ?_
      obtain ⟨M6, hM6, hf⟩ := zbind hf
      refine x_ist dX4_add_47 rfl hM6 ?_
      refine x_aload_n dX4_add_48 rfl rfl ?_
      refine x_dup dX4_add_49 rfl ?_
      refine x_getI dX4_add_50 fl_X4_21 rfl rfl ?_
      refine x_iconst (v := 1) dX4_add_53 (by decide) ?_
      refine x_iadd dX4_add_54 ?_
      obtain ⟨M7, eM7, hf⟩ := zletE hf
      refine x_putI dX4_add_55 fp_X4_21 rfl rfl rfl rfl eM7 ?_
      refine x_aload_n dX4_add_58 rfl rfl ?_
      refine x_getI dX4_add_59 fl_X4_21 rfl rfl ?_
      refine x_iconst (v := 1) dX4_add_62 (by decide) ?_
      refine x_isub dX4_add_63 ?_
      exact x_iret rfl dX4_add_64 (zretI hf)
    · replace hf := zif_f c13 hf
      refine x_iconst (v := -1) dX4_add_16 (by decide) ?_
      exact x_iret rfl dX4_add_17 (zretI hf)
theorem cc_X4_volunteerOf {l : Launch} {G : zG} {x1 : Int32}  {M : zMem} {r : Int32} {M1 : zMem} (hf : fX4_volunteerOf x1 M = some (r, M1)) : Ca l G 0 mX4_volunteerOf [.ref (G.2.2.1 32), .int x1] M (some (.int r)) M1 := by
  refine Ca.of (by decide +kernel) (Nat.le_of_ble_eq_true rfl) rfl ?_
  rw [fX4_volunteerOf] at hf
  refine x_iload_n dX4_volunteerOf_0 rfl rfl ?_
  refine x_if_lt (tgt := 21) dX4_volunteerOf_1 (by decide) (fun c1 => ?_) (fun c1 => ?_)
  · replace hf := zif_t c1 hf
    refine x_iconst (v := -1) dX4_volunteerOf_21 (by decide) ?_
    exact x_iret rfl dX4_volunteerOf_22 (zretI hf)
  · replace hf := zif_f c1 hf
    refine x_iload_n dX4_volunteerOf_4 rfl rfl ?_
    refine x_aload_n dX4_volunteerOf_5 rfl rfl ?_
    refine x_getI dX4_volunteerOf_6 fl_X4_21 rfl rfl ?_
    refine x_icmp_ge (tgt := 21) dX4_volunteerOf_9 (by decide) (fun c9 => ?_) (fun c9 => ?_)
    · replace hf := zif_t c9 hf
      refine x_iconst (v := -1) dX4_volunteerOf_21 (by decide) ?_
      exact x_iret rfl dX4_volunteerOf_22 (zretI hf)
    · replace hf := zif_f c9 hf
      refine x_aload_n dX4_volunteerOf_12 rfl rfl ?_
      refine x_getS (r := 33) dX4_volunteerOf_13 fl_X4_11 rfl rfl ?_
      refine x_iload_n dX4_volunteerOf_16 rfl rfl ?_
      obtain ⟨v1, hv1, hf⟩ := zbind hf
      refine x_ild dX4_volunteerOf_17 rfl hv1 ?_
      refine x_goto (tgt := 22) dX4_volunteerOf_18 (by decide) ?_
      exact x_iret rfl dX4_volunteerOf_22 (zretI hf)
theorem cc_X4_hoursOf {l : Launch} {G : zG} {x1 : Int32}  {M : zMem} {r : Int32} {M1 : zMem} (hf : fX4_hoursOf x1 M = some (r, M1)) : Ca l G 0 mX4_hoursOf [.ref (G.2.2.1 32), .int x1] M (some (.int r)) M1 := by
  refine Ca.of (by decide +kernel) (Nat.le_of_ble_eq_true rfl) rfl ?_
  rw [fX4_hoursOf] at hf
  refine x_iload_n dX4_hoursOf_0 rfl rfl ?_
  refine x_if_lt (tgt := 21) dX4_hoursOf_1 (by decide) (fun c1 => ?_) (fun c1 => ?_)
  · replace hf := zif_t c1 hf
    refine x_iconst (v := 0) dX4_hoursOf_21 (by decide) ?_
    exact x_iret rfl dX4_hoursOf_22 (zretI hf)
  · replace hf := zif_f c1 hf
    refine x_iload_n dX4_hoursOf_4 rfl rfl ?_
    refine x_aload_n dX4_hoursOf_5 rfl rfl ?_
    refine x_getI dX4_hoursOf_6 fl_X4_21 rfl rfl ?_
    refine x_icmp_ge (tgt := 21) dX4_hoursOf_9 (by decide) (fun c9 => ?_) (fun c9 => ?_)
    · replace hf := zif_t c9 hf
      refine x_iconst (v := 0) dX4_hoursOf_21 (by decide) ?_
      exact x_iret rfl dX4_hoursOf_22 (zretI hf)
    · replace hf := zif_f c9 hf
      refine x_aload_n dX4_hoursOf_12 rfl rfl ?_
      refine x_getS (r := 34) dX4_hoursOf_13 fl_X4_15 rfl rfl ?_
      refine x_iload_n dX4_hoursOf_16 rfl rfl ?_
      obtain ⟨v1, hv1, hf⟩ := zbind hf
      refine x_ild dX4_hoursOf_17 rfl hv1 ?_
      refine x_goto (tgt := 22) dX4_hoursOf_18 (by decide) ?_
      exact x_iret rfl dX4_hoursOf_22 (zretI hf)
theorem cc_X4_mostOf {l : Launch} {G : zG} {x1 : Int32}  {M : zMem} {r : Int32} {M1 : zMem} (hf : fX4_mostOf x1 M = some (r, M1)) : Ca l G 0 mX4_mostOf [.ref (G.2.2.1 32), .int x1] M (some (.int r)) M1 := by
  refine Ca.of (by decide +kernel) (Nat.le_of_ble_eq_true rfl) rfl ?_
  rw [fX4_mostOf] at hf
  refine x_iload_n dX4_mostOf_0 rfl rfl ?_
  refine x_if_lt (tgt := 21) dX4_mostOf_1 (by decide) (fun c1 => ?_) (fun c1 => ?_)
  · replace hf := zif_t c1 hf
    refine x_iconst (v := 0) dX4_mostOf_21 (by decide) ?_
    exact x_iret rfl dX4_mostOf_22 (zretI hf)
  · replace hf := zif_f c1 hf
    refine x_iload_n dX4_mostOf_4 rfl rfl ?_
    refine x_aload_n dX4_mostOf_5 rfl rfl ?_
    refine x_getI dX4_mostOf_6 fl_X4_21 rfl rfl ?_
    refine x_icmp_ge (tgt := 21) dX4_mostOf_9 (by decide) (fun c9 => ?_) (fun c9 => ?_)
    · replace hf := zif_t c9 hf
      refine x_iconst (v := 0) dX4_mostOf_21 (by decide) ?_
      exact x_iret rfl dX4_mostOf_22 (zretI hf)
    · replace hf := zif_f c9 hf
      refine x_aload_n dX4_mostOf_12 rfl rfl ?_
      refine x_getS (r := 35) dX4_mostOf_13 fl_X4_18 rfl rfl ?_
      refine x_iload_n dX4_mostOf_16 rfl rfl ?_
      obtain ⟨v1, hv1, hf⟩ := zbind hf
      refine x_ild dX4_mostOf_17 rfl hv1 ?_
      refine x_goto (tgt := 22) dX4_mostOf_18 (by decide) ?_
      exact x_iret rfl dX4_mostOf_22 (zretI hf)
theorem cc_X5_faultPlace {l : Launch} {G : zG}   {M : zMem} {r : Int32} {M1 : zMem} (hf : fX5_faultPlace M = some (r, M1)) : Ca l G 0 mX5_faultPlace [.ref (G.2.2.1 19)] M (some (.int r)) M1 := by
  refine Ca.of (by decide +kernel) (Nat.le_of_ble_eq_true rfl) rfl ?_
  rw [fX5_faultPlace] at hf
  refine x_aload_n dX5_faultPlace_0 rfl rfl ?_
  refine x_getI dX5_faultPlace_1 fl_X5_26 rfl rfl ?_
  exact x_iret rfl dX5_faultPlace_4 (zretI hf)
theorem cc_X10_kind {l : Launch} {G : zG}   {M : zMem} {r : Int32} {M1 : zMem} (hf : fX10_kind M = some (r, M1)) : Ca l G 0 mX10_kind [.ref (G.2.2.1 20)] M (some (.int r)) M1 := by
  refine Ca.of (by decide +kernel) (Nat.le_of_ble_eq_true rfl) rfl ?_
  rw [fX10_kind] at hf
  refine x_aload_n dX10_kind_0 rfl rfl ?_
  refine x_getI dX10_kind_1 fl_X10_18 rfl rfl ?_
  exact x_iret rfl dX10_kind_4 (zretI hf)
theorem cc_X10_isDigit {l : Launch} {G : zG} {x0 : Int32}  {M : zMem} {r : Int32} {M1 : zMem} (hf : fX10_isDigit x0 M = some (r, M1)) : Ca l G 0 mX10_isDigit [.int x0] M (some (.int r)) M1 := by
  refine Ca.of (by decide +kernel) (Nat.le_of_ble_eq_true rfl) rfl ?_
  rw [fX10_isDigit] at hf
  refine x_iload_n dX10_isDigit_0 rfl rfl ?_
  refine x_bipush (v := 48) dX10_isDigit_1 (by decide) ?_
  refine x_icmp_lt (tgt := 16) dX10_isDigit_3 (by decide) (fun c3 => ?_) (fun c3 => ?_)
  · replace hf := zif_t c3 hf
    refine x_iconst (v := 0) dX10_isDigit_16 (by decide) ?_
    exact x_zret rfl rfl dX10_isDigit_17 (zretI hf)
  · replace hf := zif_f c3 hf
    refine x_iload_n dX10_isDigit_6 rfl rfl ?_
    refine x_bipush (v := 57) dX10_isDigit_7 (by decide) ?_
    refine x_icmp_gt (tgt := 16) dX10_isDigit_9 (by decide) (fun c9 => ?_) (fun c9 => ?_)
    · replace hf := zif_t c9 hf
      refine x_iconst (v := 0) dX10_isDigit_16 (by decide) ?_
      exact x_zret rfl rfl dX10_isDigit_17 (zretI hf)
    · replace hf := zif_f c9 hf
      refine x_iconst (v := 1) dX10_isDigit_12 (by decide) ?_
      refine x_goto (tgt := 17) dX10_isDigit_13 (by decide) ?_
      exact x_zret rfl rfl dX10_isDigit_17 (zretI hf)
theorem cc_X10_isLetter {l : Launch} {G : zG} {x0 : Int32}  {M : zMem} {r : Int32} {M1 : zMem} (hf : fX10_isLetter x0 M = some (r, M1)) : Ca l G 0 mX10_isLetter [.int x0] M (some (.int r)) M1 := by
  refine Ca.of (by decide +kernel) (Nat.le_of_ble_eq_true rfl) rfl ?_
  rw [fX10_isLetter] at hf
  refine x_iload_n dX10_isLetter_0 rfl rfl ?_
  refine x_bipush (v := 97) dX10_isLetter_1 (by decide) ?_
  refine x_icmp_lt (tgt := 16) dX10_isLetter_3 (by decide) (fun c3 => ?_) (fun c3 => ?_)
  · replace hf := zif_t c3 hf
    refine x_iconst (v := 0) dX10_isLetter_16 (by decide) ?_
    exact x_zret rfl rfl dX10_isLetter_17 (zretI hf)
  · replace hf := zif_f c3 hf
    refine x_iload_n dX10_isLetter_6 rfl rfl ?_
    refine x_bipush (v := 122) dX10_isLetter_7 (by decide) ?_
    refine x_icmp_gt (tgt := 16) dX10_isLetter_9 (by decide) (fun c9 => ?_) (fun c9 => ?_)
    · replace hf := zif_t c9 hf
      refine x_iconst (v := 0) dX10_isLetter_16 (by decide) ?_
      exact x_zret rfl rfl dX10_isLetter_17 (zretI hf)
    · replace hf := zif_f c9 hf
      refine x_iconst (v := 1) dX10_isLetter_12 (by decide) ?_
      refine x_goto (tgt := 17) dX10_isLetter_13 (by decide) ?_
      exact x_zret rfl rfl dX10_isLetter_17 (zretI hf)
theorem cc_X8_byteAt {l : Launch} {G : zG} {x1 : Int32}  {M : zMem} {r : Int32} {M1 : zMem} (hf : fX8_byteAt x1 M = some (r, M1)) : Ca l G 0 mX8_byteAt [.ref (G.2.2.1 1), .int x1] M (some (.int r)) M1 := by
  refine Ca.of (by decide +kernel) (Nat.le_of_ble_eq_true rfl) rfl ?_
  rw [fX8_byteAt] at hf
  refine x_iload_n dX8_byteAt_0 rfl rfl ?_
  refine x_if_lt (tgt := 25) dX8_byteAt_1 (by decide) (fun c1 => ?_) (fun c1 => ?_)
  · replace hf := zif_t c1 hf
    refine x_iconst (v := -1) dX8_byteAt_25 (by decide) ?_
    exact x_iret rfl dX8_byteAt_26 (zretI hf)
  · replace hf := zif_f c1 hf
    refine x_iload_n dX8_byteAt_4 rfl rfl ?_
    refine x_aload_n dX8_byteAt_5 rfl rfl ?_
    refine x_getI dX8_byteAt_6 fl_X8_15 rfl rfl ?_
    refine x_icmp_ge (tgt := 25) dX8_byteAt_9 (by decide) (fun c9 => ?_) (fun c9 => ?_)
    · replace hf := zif_t c9 hf
      refine x_iconst (v := -1) dX8_byteAt_25 (by decide) ?_
      exact x_iret rfl dX8_byteAt_26 (zretI hf)
    · replace hf := zif_f c9 hf
      refine x_aload_n dX8_byteAt_12 rfl rfl ?_
      refine x_getS (r := 2) dX8_byteAt_13 fl_X8_11 rfl rfl ?_
      refine x_iload_n dX8_byteAt_16 rfl rfl ?_
      obtain ⟨v1, hv1, hf⟩ := zbind hf
      refine x_bld dX8_byteAt_17 rfl hv1 ?_
      refine x_sipush (v := 255) dX8_byteAt_18 (by decide) ?_
      refine x_iand dX8_byteAt_21 ?_
      refine x_goto (tgt := 26) dX8_byteAt_22 (by decide) ?_
      exact x_iret rfl dX8_byteAt_26 (zretI hf)
theorem cc_X10_scanNumber_L94 {l : Launch} {G : zG} {N : Nat} {s1 : Int32} {M : zMem} {M1 : zMem} (hf : fX10_scanNumber_L94 N s1 M = some M1) : Ex l G 1 mX10_scanNumber 94 [] [.int s1, .ref (G.2.2.1 20)] M (zqV M1) := by
  rw [fX10_scanNumber_L94] at hf
  obtain ⟨M14, eM14, hf⟩ := zletE hf
  refine x_putI dX10_scanNumber_94 fp_X10_21 rfl rfl rfl rfl eM14 ?_
  exact x_vret rfl dX10_scanNumber_97 (zretV hf)
theorem cc_X10_scanNumber_L77 {l : Launch} {G : zG} {N : Nat} {x2 : Int32} {s1 : Int32} {M : zMem} {M1 : zMem} (hf : fX10_scanNumber_L77 N x2 s1 M = some M1) : Ex l G 1 mX10_scanNumber 77 [(0, .ref (G.2.2.1 20)), (2, .int x2)] [.int s1, .ref (G.2.2.1 20)] M (zqV M1) := by
  rw [fX10_scanNumber_L77] at hf
  obtain ⟨M13, eM13, hf⟩ := zletE hf
  refine x_putI dX10_scanNumber_77 fp_X10_18 rfl rfl rfl rfl eM13 ?_
  refine x_aload_n dX10_scanNumber_80 rfl rfl ?_
  refine x_aload_n dX10_scanNumber_81 rfl rfl ?_
  refine x_getI dX10_scanNumber_82 fl_X10_18 rfl rfl ?_
  refine x_iconst (v := 2) dX10_scanNumber_85 (by decide) ?_
  refine x_icmp_ne (tgt := 93) dX10_scanNumber_86 (by decide) (fun c86 => ?_) (fun c86 => ?_)
  · replace hf := zif_f c86 hf
    refine x_iconst (v := 0) dX10_scanNumber_93 (by decide) ?_
    exact Ex.sb (cc_X10_scanNumber_L94  hf) trivial
  · replace hf := zif_t c86 hf
    refine x_iload_n dX10_scanNumber_89 rfl rfl ?_
    refine x_goto (tgt := 94) dX10_scanNumber_90 (by decide) ?_
    exact Ex.sb (cc_X10_scanNumber_L94  hf) trivial
theorem cc_X10_scanNumber_L58 {l : Launch} {G : zG} {N : Nat} {x2 : Int32} {M : zMem} {M1 : zMem} (hf : fX10_scanNumber_L58 N x2 M = some M1) : Ex l G 1 mX10_scanNumber 58 [(0, .ref (G.2.2.1 20)), (2, .int x2)] [] M (zqV M1) := by
  rw [fX10_scanNumber_L58] at hf
  refine x_aload_n dX10_scanNumber_58 rfl rfl ?_
  refine x_aload_n dX10_scanNumber_59 rfl rfl ?_
  refine x_getI dX10_scanNumber_60 fl_X10_9 rfl rfl ?_
  refine x_aload_n dX10_scanNumber_63 rfl rfl ?_
  refine x_getI dX10_scanNumber_64 fl_X10_15 rfl rfl ?_
  refine x_isub dX10_scanNumber_67 ?_
  refine x_iconst (v := 4) dX10_scanNumber_68 (by decide) ?_
  refine x_icmp_le (tgt := 76) dX10_scanNumber_69 (by decide) (fun c69 => ?_) (fun c69 => ?_)
  · replace hf := zif_t c69 hf
    refine x_iconst (v := 2) dX10_scanNumber_76 (by decide) ?_
    exact Ex.sb (cc_X10_scanNumber_L77  hf) ⟨rfl, rfl, trivial⟩
  · replace hf := zif_f c69 hf
    refine x_iconst (v := 1) dX10_scanNumber_72 (by decide) ?_
    refine x_goto (tgt := 77) dX10_scanNumber_73 (by decide) ?_
    exact Ex.sb (cc_X10_scanNumber_L77  hf) ⟨rfl, rfl, trivial⟩
theorem cc_X10_scanNumber_L4 {l : Launch} {G : zG} {N : Nat} : ∀ {n : Nat} {x2 : Int32} {x3 : Int32} {M : zMem} {M1 : zMem}, fX10_scanNumber_L4 N n x2 x3 M = some M1 → Ex l G 1 mX10_scanNumber 4 [(0, .ref (G.2.2.1 20)), (1, .ref (G.2.2.1 1)), (2, .int x2), (3, .int x3)] [] M (zqV M1) := by
  intro n
  induction n with
  | zero => intro x2 x3 M M1 hf; cases hf
  | succ n ih =>
    intro x2 x3 M M1 hf
    rw [fX10_scanNumber_L4] at hf
    refine x_iload_n dX10_scanNumber_4 rfl rfl ?_
    refine x_sipush (v := 2000) dX10_scanNumber_5 (by decide) ?_
    refine x_icmp_ge (tgt := 58) dX10_scanNumber_8 (by decide) (fun c8 => ?_) (fun c8 => ?_)
    · replace hf := zif_t c8 hf
      exact Ex.sb (cc_X10_scanNumber_L58  hf) ⟨rfl, rfl, trivial⟩
    · replace hf := zif_f c8 hf
      refine x_aload_n dX10_scanNumber_11 rfl rfl ?_
      refine x_aload_n dX10_scanNumber_12 rfl rfl ?_
      refine x_getI dX10_scanNumber_13 fl_X10_9 rfl rfl ?_
      obtain ⟨r3, M2, hq1, hf⟩ := zb2E hf
      refine x_invVi dX10_scanNumber_16 mk_X8_byteAt ml_X10_28 (cc_X8_byteAt hq1) rfl rfl rfl (Nat.le_of_ble_eq_true rfl) rfl (Nat.le_of_ble_eq_true rfl) rfl ?_
      obtain ⟨r6, M5, hq4, hf⟩ := zb2E hf
      refine x_invSi dX10_scanNumber_19 mk_X10_isDigit ml_X10_41 (cc_X10_isDigit hq4) (Nat.le_of_ble_eq_true rfl) rfl (Nat.le_of_ble_eq_true rfl) rfl ?_
      refine x_if_eq (tgt := 58) dX10_scanNumber_22 (by decide) (fun c22 => ?_) (fun c22 => ?_)
      · replace hf := zif_t c22 hf
        exact Ex.sb (cc_X10_scanNumber_L58  hf) ⟨rfl, rfl, trivial⟩
      · replace hf := zif_f c22 hf
        refine x_iload_n dX10_scanNumber_25 rfl rfl ?_
        refine x_bipush (v := 10) dX10_scanNumber_26 (by decide) ?_
        refine x_imul dX10_scanNumber_28 ?_
        refine x_aload_n dX10_scanNumber_29 rfl rfl ?_
        refine x_aload_n dX10_scanNumber_30 rfl rfl ?_
        refine x_getI dX10_scanNumber_31 fl_X10_9 rfl rfl ?_
        obtain ⟨r9, M8, hq7, hf⟩ := zb2E hf
        refine x_invVi dX10_scanNumber_34 mk_X8_byteAt ml_X10_28 (cc_X8_byteAt hq7) rfl rfl rfl (Nat.le_of_ble_eq_true rfl) rfl (Nat.le_of_ble_eq_true rfl) rfl ?_
        refine x_iadd dX10_scanNumber_37 ?_
        refine x_bipush (v := 48) dX10_scanNumber_38 (by decide) ?_
        refine x_isub dX10_scanNumber_40 ?_
        obtain ⟨x2_10, ex2_10, hf⟩ := zletE hf
        refine x_istore_n dX10_scanNumber_41 rfl (Nat.le_of_ble_eq_true rfl) ex2_10 ?_
        refine x_aload_n dX10_scanNumber_42 rfl rfl ?_
        refine x_dup dX10_scanNumber_43 rfl ?_
        refine x_getI dX10_scanNumber_44 fl_X10_9 rfl rfl ?_
        refine x_iconst (v := 1) dX10_scanNumber_47 (by decide) ?_
        refine x_iadd dX10_scanNumber_48 ?_
        obtain ⟨M11, eM11, hf⟩ := zletE hf
        refine x_putI dX10_scanNumber_49 fp_X10_9 rfl rfl rfl rfl eM11 ?_
        obtain ⟨x3_12, ex3_12, hf⟩ := zletE hf
        refine x_iinc (c0 := 1) dX10_scanNumber_52 rfl (Nat.le_of_ble_eq_true rfl) (by decide) ex3_12 ?_
        refine x_goto (tgt := 4) dX10_scanNumber_55 (by decide) ?_
        exact Ex.sb (ih hf) ⟨rfl, rfl, rfl, rfl, trivial⟩
theorem cc_X10_scanNumber {l : Launch} {G : zG} {N : Nat}   {M : zMem} {M1 : zMem} (hf : fX10_scanNumber N M = some M1) : Ca l G 1 mX10_scanNumber [.ref (G.2.2.1 20), .ref (G.2.2.1 1)] M none M1 := by
  refine Ca.of (by decide +kernel) (Nat.le_of_ble_eq_true rfl) rfl ?_
  rw [fX10_scanNumber] at hf
  refine x_iconst (v := 0) dX10_scanNumber_0 (by decide) ?_
  refine x_istore_n dX10_scanNumber_1 rfl (Nat.le_of_ble_eq_true rfl) rfl ?_
  refine x_iconst (v := 0) dX10_scanNumber_2 (by decide) ?_
  refine x_istore_n dX10_scanNumber_3 rfl (Nat.le_of_ble_eq_true rfl) rfl ?_
  exact Ex.sb (cc_X10_scanNumber_L4  hf) ⟨rfl, rfl, rfl, rfl, trivial⟩
theorem cc_X10_doubleSignKind {l : Launch} {G : zG} {x0 : Int32}  {M : zMem} {r : Int32} {M1 : zMem} (hf : fX10_doubleSignKind x0 M = some (r, M1)) : Ca l G 0 mX10_doubleSignKind [.int x0] M (some (.int r)) M1 := by
  refine Ca.of (by decide +kernel) (Nat.le_of_ble_eq_true rfl) rfl ?_
  rw [fX10_doubleSignKind] at hf
  refine x_iload_n dX10_doubleSignKind_0 rfl rfl ?_
  by_cases c1_33 : x0 = (33 : Int32)
  · replace hf := zif_t c1_33 hf
    refine x_lookup (tgt := 31) (off := 30) dX10_doubleSignKind_1 (by decide) (zlo c1_33 (by decide)) (by decide) ?_
    refine x_bipush (v := 17) dX10_doubleSignKind_31 (by decide) ?_
    exact x_iret rfl dX10_doubleSignKind_33 (zretI hf)
  · replace hf := zif_f c1_33 hf
    by_cases c1_61 : x0 = (61 : Int32)
    · replace hf := zif_t c1_61 hf
      refine x_lookup (tgt := 28) (off := 27) dX10_doubleSignKind_1 (by decide) (zlo c1_61 (by decide)) (by decide) ?_
      refine x_bipush (v := 16) dX10_doubleSignKind_28 (by decide) ?_
      exact x_iret rfl dX10_doubleSignKind_30 (zretI hf)
    · replace hf := zif_f c1_61 hf
      refine x_lookup (tgt := 34) (off := 33) dX10_doubleSignKind_1 (by decide) (by (first | rw [lv_osw c1_33 (by decide)] | (show Op.lookupswitch.offset _ _ _ = _; rw [lv_osw c1_33 (by decide)])); (first | rw [lv_osw c1_61 (by decide)] | (show Op.lookupswitch.offset _ _ _ = _; rw [lv_osw c1_61 (by decide)])); rfl) (by decide) ?_
      refine x_bipush (v := 19) dX10_doubleSignKind_34 (by decide) ?_
      exact x_iret rfl dX10_doubleSignKind_36 (zretI hf)
theorem cc_X10_singleSignKind {l : Launch} {G : zG} {x0 : Int32}  {M : zMem} {r : Int32} {M1 : zMem} (hf : fX10_singleSignKind x0 M = some (r, M1)) : Ca l G 0 mX10_singleSignKind [.int x0] M (some (.int r)) M1 := by
  refine Ca.of (by decide +kernel) (Nat.le_of_ble_eq_true rfl) rfl ?_
  rw [fX10_singleSignKind] at hf
  refine x_iload_n dX10_singleSignKind_0 rfl rfl ?_
  by_cases c1_40 : x0 = (40 : Int32)
  · replace hf := zif_t c1_40 hf
    refine x_tableIn (tgt := 115) (off := 114) dX10_singleSignKind_1 (ztl c1_40 (by decide)) (ztu c1_40 (by decide)) (zto c1_40 (by decide)) (by decide) ?_
    refine x_bipush (v := 11) dX10_singleSignKind_115 (by decide) ?_
    exact x_iret rfl dX10_singleSignKind_117 (zretI hf)
  · replace hf := zif_f c1_40 hf
    by_cases c1_41 : x0 = (41 : Int32)
    · replace hf := zif_t c1_41 hf
      refine x_tableIn (tgt := 118) (off := 117) dX10_singleSignKind_1 (ztl c1_41 (by decide)) (ztu c1_41 (by decide)) (zto c1_41 (by decide)) (by decide) ?_
      refine x_bipush (v := 12) dX10_singleSignKind_118 (by decide) ?_
      exact x_iret rfl dX10_singleSignKind_120 (zretI hf)
    · replace hf := zif_f c1_41 hf
      by_cases c1_42 : x0 = (42 : Int32)
      · replace hf := zif_t c1_42 hf
        refine x_tableIn (tgt := 109) (off := 108) dX10_singleSignKind_1 (ztl c1_42 (by decide)) (ztu c1_42 (by decide)) (zto c1_42 (by decide)) (by decide) ?_
        refine x_bipush (v := 15) dX10_singleSignKind_109 (by decide) ?_
        exact x_iret rfl dX10_singleSignKind_111 (zretI hf)
      · replace hf := zif_f c1_42 hf
        by_cases c1_43 : x0 = (43 : Int32)
        · replace hf := zif_t c1_43 hf
          refine x_tableIn (tgt := 103) (off := 102) dX10_singleSignKind_1 (ztl c1_43 (by decide)) (ztu c1_43 (by decide)) (zto c1_43 (by decide)) (by decide) ?_
          refine x_bipush (v := 13) dX10_singleSignKind_103 (by decide) ?_
          exact x_iret rfl dX10_singleSignKind_105 (zretI hf)
        · replace hf := zif_f c1_43 hf
          by_cases c1_44 : x0 = (44 : Int32)
          · replace hf := zif_t c1_44 hf
            refine x_tableIn (tgt := 121) (off := 120) dX10_singleSignKind_1 (ztl c1_44 (by decide)) (ztu c1_44 (by decide)) (zto c1_44 (by decide)) (by decide) ?_
            refine x_iconst (v := 1) dX10_singleSignKind_121 (by decide) ?_
            exact x_iret rfl dX10_singleSignKind_122 (zretI hf)
          · replace hf := zif_f c1_44 hf
            by_cases c1_45 : x0 = (45 : Int32)
            · replace hf := zif_t c1_45 hf
              refine x_tableIn (tgt := 106) (off := 105) dX10_singleSignKind_1 (ztl c1_45 (by decide)) (ztu c1_45 (by decide)) (zto c1_45 (by decide)) (by decide) ?_
              refine x_bipush (v := 14) dX10_singleSignKind_106 (by decide) ?_
              exact x_iret rfl dX10_singleSignKind_108 (zretI hf)
            · replace hf := zif_f c1_45 hf
              by_cases c1_46 : x0 = (46 : Int32)
              · replace hf := zif_t c1_46 hf
                refine x_tableIn (tgt := 121) (off := 120) dX10_singleSignKind_1 (ztl c1_46 (by decide)) (ztu c1_46 (by decide)) (zto c1_46 (by decide)) (by decide) ?_
                refine x_iconst (v := 1) dX10_singleSignKind_121 (by decide) ?_
                exact x_iret rfl dX10_singleSignKind_122 (zretI hf)
              · replace hf := zif_f c1_46 hf
                by_cases c1_47 : x0 = (47 : Int32)
                · replace hf := zif_t c1_47 hf
                  refine x_tableIn (tgt := 121) (off := 120) dX10_singleSignKind_1 (ztl c1_47 (by decide)) (ztu c1_47 (by decide)) (zto c1_47 (by decide)) (by decide) ?_
                  refine x_iconst (v := 1) dX10_singleSignKind_121 (by decide) ?_
                  exact x_iret rfl dX10_singleSignKind_122 (zretI hf)
                · replace hf := zif_f c1_47 hf
                  by_cases c1_48 : x0 = (48 : Int32)
                  · replace hf := zif_t c1_48 hf
                    refine x_tableIn (tgt := 121) (off := 120) dX10_singleSignKind_1 (ztl c1_48 (by decide)) (ztu c1_48 (by decide)) (zto c1_48 (by decide)) (by decide) ?_
                    refine x_iconst (v := 1) dX10_singleSignKind_121 (by decide) ?_
                    exact x_iret rfl dX10_singleSignKind_122 (zretI hf)
                  · replace hf := zif_f c1_48 hf
                    by_cases c1_49 : x0 = (49 : Int32)
                    · replace hf := zif_t c1_49 hf
                      refine x_tableIn (tgt := 121) (off := 120) dX10_singleSignKind_1 (ztl c1_49 (by decide)) (ztu c1_49 (by decide)) (zto c1_49 (by decide)) (by decide) ?_
                      refine x_iconst (v := 1) dX10_singleSignKind_121 (by decide) ?_
                      exact x_iret rfl dX10_singleSignKind_122 (zretI hf)
                    · replace hf := zif_f c1_49 hf
                      by_cases c1_50 : x0 = (50 : Int32)
                      · replace hf := zif_t c1_50 hf
                        refine x_tableIn (tgt := 121) (off := 120) dX10_singleSignKind_1 (ztl c1_50 (by decide)) (ztu c1_50 (by decide)) (zto c1_50 (by decide)) (by decide) ?_
                        refine x_iconst (v := 1) dX10_singleSignKind_121 (by decide) ?_
                        exact x_iret rfl dX10_singleSignKind_122 (zretI hf)
                      · replace hf := zif_f c1_50 hf
                        by_cases c1_51 : x0 = (51 : Int32)
                        · replace hf := zif_t c1_51 hf
                          refine x_tableIn (tgt := 121) (off := 120) dX10_singleSignKind_1 (ztl c1_51 (by decide)) (ztu c1_51 (by decide)) (zto c1_51 (by decide)) (by decide) ?_
                          refine x_iconst (v := 1) dX10_singleSignKind_121 (by decide) ?_
                          exact x_iret rfl dX10_singleSignKind_122 (zretI hf)
                        · replace hf := zif_f c1_51 hf
                          by_cases c1_52 : x0 = (52 : Int32)
                          · replace hf := zif_t c1_52 hf
                            refine x_tableIn (tgt := 121) (off := 120) dX10_singleSignKind_1 (ztl c1_52 (by decide)) (ztu c1_52 (by decide)) (zto c1_52 (by decide)) (by decide) ?_
                            refine x_iconst (v := 1) dX10_singleSignKind_121 (by decide) ?_
                            exact x_iret rfl dX10_singleSignKind_122 (zretI hf)
                          · replace hf := zif_f c1_52 hf
                            by_cases c1_53 : x0 = (53 : Int32)
                            · replace hf := zif_t c1_53 hf
                              refine x_tableIn (tgt := 121) (off := 120) dX10_singleSignKind_1 (ztl c1_53 (by decide)) (ztu c1_53 (by decide)) (zto c1_53 (by decide)) (by decide) ?_
                              refine x_iconst (v := 1) dX10_singleSignKind_121 (by decide) ?_
                              exact x_iret rfl dX10_singleSignKind_122 (zretI hf)
                            · replace hf := zif_f c1_53 hf
                              by_cases c1_54 : x0 = (54 : Int32)
                              · replace hf := zif_t c1_54 hf
                                refine x_tableIn (tgt := 121) (off := 120) dX10_singleSignKind_1 (ztl c1_54 (by decide)) (ztu c1_54 (by decide)) (zto c1_54 (by decide)) (by decide) ?_
                                refine x_iconst (v := 1) dX10_singleSignKind_121 (by decide) ?_
                                exact x_iret rfl dX10_singleSignKind_122 (zretI hf)
                              · replace hf := zif_f c1_54 hf
                                by_cases c1_55 : x0 = (55 : Int32)
                                · replace hf := zif_t c1_55 hf
                                  refine x_tableIn (tgt := 121) (off := 120) dX10_singleSignKind_1 (ztl c1_55 (by decide)) (ztu c1_55 (by decide)) (zto c1_55 (by decide)) (by decide) ?_
                                  refine x_iconst (v := 1) dX10_singleSignKind_121 (by decide) ?_
                                  exact x_iret rfl dX10_singleSignKind_122 (zretI hf)
                                · replace hf := zif_f c1_55 hf
                                  by_cases c1_56 : x0 = (56 : Int32)
                                  · replace hf := zif_t c1_56 hf
                                    refine x_tableIn (tgt := 121) (off := 120) dX10_singleSignKind_1 (ztl c1_56 (by decide)) (ztu c1_56 (by decide)) (zto c1_56 (by decide)) (by decide) ?_
                                    refine x_iconst (v := 1) dX10_singleSignKind_121 (by decide) ?_
                                    exact x_iret rfl dX10_singleSignKind_122 (zretI hf)
                                  · replace hf := zif_f c1_56 hf
                                    by_cases c1_57 : x0 = (57 : Int32)
                                    · replace hf := zif_t c1_57 hf
                                      refine x_tableIn (tgt := 121) (off := 120) dX10_singleSignKind_1 (ztl c1_57 (by decide)) (ztu c1_57 (by decide)) (zto c1_57 (by decide)) (by decide) ?_
                                      refine x_iconst (v := 1) dX10_singleSignKind_121 (by decide) ?_
                                      exact x_iret rfl dX10_singleSignKind_122 (zretI hf)
                                    · replace hf := zif_f c1_57 hf
                                      by_cases c1_58 : x0 = (58 : Int32)
                                      · replace hf := zif_t c1_58 hf
                                        refine x_tableIn (tgt := 121) (off := 120) dX10_singleSignKind_1 (ztl c1_58 (by decide)) (ztu c1_58 (by decide)) (zto c1_58 (by decide)) (by decide) ?_
                                        refine x_iconst (v := 1) dX10_singleSignKind_121 (by decide) ?_
                                        exact x_iret rfl dX10_singleSignKind_122 (zretI hf)
                                      · replace hf := zif_f c1_58 hf
                                        by_cases c1_59 : x0 = (59 : Int32)
                                        · replace hf := zif_t c1_59 hf
                                          refine x_tableIn (tgt := 100) (off := 99) dX10_singleSignKind_1 (ztl c1_59 (by decide)) (ztu c1_59 (by decide)) (zto c1_59 (by decide)) (by decide) ?_
                                          refine x_bipush (v := 10) dX10_singleSignKind_100 (by decide) ?_
                                          exact x_iret rfl dX10_singleSignKind_102 (zretI hf)
                                        · replace hf := zif_f c1_59 hf
                                          by_cases c1_60 : x0 = (60 : Int32)
                                          · replace hf := zif_t c1_60 hf
                                            refine x_tableIn (tgt := 112) (off := 111) dX10_singleSignKind_1 (ztl c1_60 (by decide)) (ztu c1_60 (by decide)) (zto c1_60 (by decide)) (by decide) ?_
                                            refine x_bipush (v := 18) dX10_singleSignKind_112 (by decide) ?_
                                            exact x_iret rfl dX10_singleSignKind_114 (zretI hf)
                                          · replace hf := zif_f c1_60 hf
                                            refine x_tableOut (tgt := 121) dX10_singleSignKind_1 (by have q0 := ztne c1_40 (n := 40) (by decide); have q1 := ztne c1_41 (n := 41) (by decide); have q2 := ztne c1_42 (n := 42) (by decide); have q3 := ztne c1_43 (n := 43) (by decide); have q4 := ztne c1_44 (n := 44) (by decide); have q5 := ztne c1_45 (n := 45) (by decide); have q6 := ztne c1_46 (n := 46) (by decide); have q7 := ztne c1_47 (n := 47) (by decide); have q8 := ztne c1_48 (n := 48) (by decide); have q9 := ztne c1_49 (n := 49) (by decide); have q10 := ztne c1_50 (n := 50) (by decide); have q11 := ztne c1_51 (n := 51) (by decide); have q12 := ztne c1_52 (n := 52) (by decide); have q13 := ztne c1_53 (n := 53) (by decide); have q14 := ztne c1_54 (n := 54) (by decide); have q15 := ztne c1_55 (n := 55) (by decide); have q16 := ztne c1_56 (n := 56) (by decide); have q17 := ztne c1_57 (n := 57) (by decide); have q18 := ztne c1_58 (n := 58) (by decide); have q19 := ztne c1_59 (n := 59) (by decide); have q20 := ztne c1_60 (n := 60) (by decide); omega) (by decide) ?_
                                            refine x_iconst (v := 1) dX10_singleSignKind_121 (by decide) ?_
                                            exact x_iret rfl dX10_singleSignKind_122 (zretI hf)
theorem cc_X10_scanSign_L69 {l : Launch} {G : zG} {s1 : Int32} {M : zMem} {M1 : zMem} (hf : fX10_scanSign_L69 s1 M = some M1) : Ex l G 1 mX10_scanSign 69 [] [.int s1, .ref (G.2.2.1 20)] M (zqV M1) := by
  rw [fX10_scanSign_L69] at hf
  obtain ⟨M8, eM8, hf⟩ := zletE hf
  refine x_putI dX10_scanSign_69 fp_X10_18 rfl rfl rfl rfl eM8 ?_
  exact x_vret rfl dX10_scanSign_72 (zretV hf)
theorem cc_X10_scanSign_L50 {l : Launch} {G : zG} {x1 : Int32} {x3 : Int32} {s1 : Int32} {M : zMem} {M1 : zMem} (hf : fX10_scanSign_L50 x1 x3 s1 M = some M1) : Ex l G 1 mX10_scanSign 50 [(0, .ref (G.2.2.1 20)), (1, .int x1), (3, .int x3)] [.int s1, .ref (G.2.2.1 20)] M (zqV M1) := by
  rw [fX10_scanSign_L50] at hf
  obtain ⟨M1, eM1, hf⟩ := zletE hf
  refine x_putI dX10_scanSign_50 fp_X10_9 rfl rfl rfl rfl eM1 ?_
  refine x_aload_n dX10_scanSign_53 rfl rfl ?_
  refine x_iload_n dX10_scanSign_54 rfl rfl ?_
  refine x_if_eq (tgt := 65) dX10_scanSign_55 (by decide) (fun c55 => ?_) (fun c55 => ?_)
  · replace hf := zif_t c55 hf
    refine x_iload_n dX10_scanSign_65 rfl rfl ?_
    obtain ⟨r4, M3, hq2, hf⟩ := zb2E hf
    refine x_invSi dX10_scanSign_66 mk_X10_singleSignKind ml_X10_64 (cc_X10_singleSignKind hq2) (Nat.le_of_ble_eq_true rfl) rfl (Nat.le_of_ble_eq_true rfl) rfl ?_
    exact Ex.sb (cc_X10_scanSign_L69  hf) trivial
  · replace hf := zif_f c55 hf
    refine x_iload_n dX10_scanSign_58 rfl rfl ?_
    obtain ⟨r7, M6, hq5, hf⟩ := zb2E hf
    refine x_invSi dX10_scanSign_59 mk_X10_doubleSignKind ml_X10_61 (cc_X10_doubleSignKind hq5) (Nat.le_of_ble_eq_true rfl) rfl (Nat.le_of_ble_eq_true rfl) rfl ?_
    refine x_goto (tgt := 69) dX10_scanSign_62 (by decide) ?_
    exact Ex.sb (cc_X10_scanSign_L69  hf) trivial
theorem cc_X10_scanSign_L29 {l : Launch} {G : zG} {x1 : Int32} {s0 : Int32} {M : zMem} {M1 : zMem} (hf : fX10_scanSign_L29 x1 s0 M = some M1) : Ex l G 1 mX10_scanSign 29 [(0, .ref (G.2.2.1 20)), (1, .int x1)] [.int s0] M (zqV M1) := by
  rw [fX10_scanSign_L29] at hf
  refine x_istore_n dX10_scanSign_29 rfl (Nat.le_of_ble_eq_true rfl) rfl ?_
  refine x_aload_n dX10_scanSign_30 rfl rfl ?_
  refine x_iload_n dX10_scanSign_31 rfl rfl ?_
  refine x_if_eq (tgt := 44) dX10_scanSign_32 (by decide) (fun c32 => ?_) (fun c32 => ?_)
  · replace hf := zif_t c32 hf
    refine x_aload_n dX10_scanSign_44 rfl rfl ?_
    refine x_getI dX10_scanSign_45 fl_X10_15 rfl rfl ?_
    refine x_iconst (v := 1) dX10_scanSign_48 (by decide) ?_
    refine x_iadd dX10_scanSign_49 ?_
    exact Ex.sb (cc_X10_scanSign_L50  hf) ⟨rfl, rfl, rfl, trivial⟩
  · replace hf := zif_f c32 hf
    refine x_aload_n dX10_scanSign_35 rfl rfl ?_
    refine x_getI dX10_scanSign_36 fl_X10_15 rfl rfl ?_
    refine x_iconst (v := 2) dX10_scanSign_39 (by decide) ?_
    refine x_iadd dX10_scanSign_40 ?_
    refine x_goto (tgt := 50) dX10_scanSign_41 (by decide) ?_
    exact Ex.sb (cc_X10_scanSign_L50  hf) ⟨rfl, rfl, rfl, trivial⟩
theorem cc_X10_scanSign_L24 {l : Launch} {G : zG} {x1 : Int32} {M : zMem} {M1 : zMem} (hf : fX10_scanSign_L24 x1 M = some M1) : Ex l G 1 mX10_scanSign 24 [(0, .ref (G.2.2.1 20)), (1, .int x1)] [] M (zqV M1) := by
  rw [fX10_scanSign_L24] at hf
  refine x_iconst (v := 1) dX10_scanSign_24 (by decide) ?_
  refine x_goto (tgt := 29) dX10_scanSign_25 (by decide) ?_
  exact Ex.sb (cc_X10_scanSign_L29  hf) ⟨rfl, rfl, trivial⟩
theorem cc_X10_scanSign_L28 {l : Launch} {G : zG} {x1 : Int32} {M : zMem} {M1 : zMem} (hf : fX10_scanSign_L28 x1 M = some M1) : Ex l G 1 mX10_scanSign 28 [(0, .ref (G.2.2.1 20)), (1, .int x1)] [] M (zqV M1) := by
  rw [fX10_scanSign_L28] at hf
  refine x_iconst (v := 0) dX10_scanSign_28 (by decide) ?_
  exact Ex.sb (cc_X10_scanSign_L29  hf) ⟨rfl, rfl, trivial⟩
theorem cc_X10_scanSign {l : Launch} {G : zG} {x1 : Int32} {x2 : Int32}  {M : zMem} {M1 : zMem} (hf : fX10_scanSign x1 x2 M = some M1) : Ca l G 1 mX10_scanSign [.ref (G.2.2.1 20), .int x1, .int x2] M none M1 := by
  refine Ca.of (by decide +kernel) (Nat.le_of_ble_eq_true rfl) rfl ?_
  rw [fX10_scanSign] at hf
  refine x_iload_n dX10_scanSign_0 rfl rfl ?_
  refine x_bipush (v := 61) dX10_scanSign_1 (by decide) ?_
  refine x_icmp_ne (tgt := 28) dX10_scanSign_3 (by decide) (fun c3 => ?_) (fun c3 => ?_)
  · replace hf := zif_f c3 hf
    exact Ex.sb (cc_X10_scanSign_L28  hf) ⟨rfl, rfl, trivial⟩
  · replace hf := zif_t c3 hf
    refine x_iload_n dX10_scanSign_6 rfl rfl ?_
    refine x_bipush (v := 61) dX10_scanSign_7 (by decide) ?_
    refine x_icmp_eq (tgt := 24) dX10_scanSign_9 (by decide) (fun c9 => ?_) (fun c9 => ?_)
    · replace hf := zif_t c9 hf
      exact Ex.sb (cc_X10_scanSign_L24  hf) ⟨rfl, rfl, trivial⟩
    · replace hf := zif_f c9 hf
      refine x_iload_n dX10_scanSign_12 rfl rfl ?_
      refine x_bipush (v := 33) dX10_scanSign_13 (by decide) ?_
      refine x_icmp_eq (tgt := 24) dX10_scanSign_15 (by decide) (fun c15 => ?_) (fun c15 => ?_)
      · replace hf := zif_t c15 hf
        exact Ex.sb (cc_X10_scanSign_L24  hf) ⟨rfl, rfl, trivial⟩
      · replace hf := zif_f c15 hf
        refine x_iload_n dX10_scanSign_18 rfl rfl ?_
        refine x_bipush (v := 60) dX10_scanSign_19 (by decide) ?_
        refine x_icmp_ne (tgt := 28) dX10_scanSign_21 (by decide) (fun c21 => ?_) (fun c21 => ?_)
        · replace hf := zif_f c21 hf
          exact Ex.sb (cc_X10_scanSign_L28  hf) ⟨rfl, rfl, trivial⟩
        · replace hf := zif_t c21 hf
          exact Ex.sb (cc_X10_scanSign_L24  hf) ⟨rfl, rfl, trivial⟩
theorem cc_X10_spells_L20 {l : Launch} {G : zG} {N : Nat} : ∀ {n : Nat} {x2 : Nat} {x3 : Int32} {M : zMem} {r : Int32} {M1 : zMem}, fX10_spells_L20 N n x2 x3 M = some (r, M1) → Ex l G 4 mX10_spells 20 [(0, .ref (G.2.2.1 20)), (1, .ref (G.2.2.1 1)), (2, .ref (G.2.2.2.2.1 x2)), (3, .int x3)] [] M (zqI r M1) := by
  intro n
  induction n with
  | zero => intro x2 x3 M r M1 hf; cases hf
  | succ n ih =>
    intro x2 x3 M r M1 hf
    rw [fX10_spells_L20] at hf
    refine x_iload_n dX10_spells_20 rfl rfl ?_
    refine x_aload_n dX10_spells_21 rfl rfl ?_
    obtain ⟨v2, hv2, hf⟩ := zbind hf
    refine x_slen dX10_spells_22 ml_X10_97 hv2 (Nat.le_of_ble_eq_true rfl) (Nat.le_of_ble_eq_true rfl) ?_
    refine x_icmp_ge (tgt := 54) dX10_spells_25 (by decide) (fun c25 => ?_) (fun c25 => ?_)
    · replace hf := zif_t c25 hf
      refine x_iconst (v := 1) dX10_spells_54 (by decide) ?_
      exact x_zret rfl rfl dX10_spells_55 (zretI hf)
    · replace hf := zif_f c25 hf
      refine x_aload_n dX10_spells_28 rfl rfl ?_
      refine x_aload_n dX10_spells_29 rfl rfl ?_
      refine x_getI dX10_spells_30 fl_X10_15 rfl rfl ?_
      refine x_iload_n dX10_spells_33 rfl rfl ?_
      refine x_iadd dX10_spells_34 ?_
      obtain ⟨r5, M4, hq3, hf⟩ := zb2E hf
      refine x_invVi dX10_spells_35 mk_X8_byteAt ml_X10_28 (cc_X8_byteAt hq3) rfl rfl rfl (Nat.le_of_ble_eq_true rfl) rfl (Nat.le_of_ble_eq_true rfl) rfl ?_
      refine x_aload_n dX10_spells_38 rfl rfl ?_
      refine x_iload_n dX10_spells_39 rfl rfl ?_
      obtain ⟨v6, hv6, hf⟩ := zbind hf
      refine x_schr dX10_spells_40 ml_X10_103 hv6 (Nat.le_of_ble_eq_true rfl) (Nat.le_of_ble_eq_true rfl) ?_
      refine x_icmp_eq (tgt := 48) dX10_spells_43 (by decide) (fun c43 => ?_) (fun c43 => ?_)
      · replace hf := zif_t c43 hf
        obtain ⟨x3_7, ex3_7, hf⟩ := zletE hf
        refine x_iinc (c0 := 1) dX10_spells_48 rfl (Nat.le_of_ble_eq_true rfl) (by decide) ex3_7 ?_
        refine x_goto (tgt := 20) dX10_spells_51 (by decide) ?_
        exact Ex.sb (ih hf) ⟨rfl, rfl, rfl, rfl, trivial⟩
      · replace hf := zif_f c43 hf
        refine x_iconst (v := 0) dX10_spells_46 (by decide) ?_
        exact x_zret rfl rfl dX10_spells_47 (zretI hf)
theorem cc_X10_spells {l : Launch} {G : zG} {N : Nat} {x2 : Nat}  {M : zMem} {r : Int32} {M1 : zMem} (hf : fX10_spells N x2 M = some (r, M1)) : Ca l G 4 mX10_spells [.ref (G.2.2.1 20), .ref (G.2.2.1 1), .ref (G.2.2.2.2.1 x2)] M (some (.int r)) M1 := by
  refine Ca.of (by decide +kernel) (Nat.le_of_ble_eq_true rfl) rfl ?_
  rw [fX10_spells] at hf
  refine x_aload_n dX10_spells_0 rfl rfl ?_
  refine x_getI dX10_spells_1 fl_X10_9 rfl rfl ?_
  refine x_aload_n dX10_spells_4 rfl rfl ?_
  refine x_getI dX10_spells_5 fl_X10_15 rfl rfl ?_
  refine x_isub dX10_spells_8 ?_
  refine x_aload_n dX10_spells_9 rfl rfl ?_
  obtain ⟨v1, hv1, hf⟩ := zbind hf
  refine x_slen dX10_spells_10 ml_X10_97 hv1 (Nat.le_of_ble_eq_true rfl) (Nat.le_of_ble_eq_true rfl) ?_
  refine x_icmp_eq (tgt := 18) dX10_spells_13 (by decide) (fun c13 => ?_) (fun c13 => ?_)
  · replace hf := zif_t c13 hf
    refine x_iconst (v := 0) dX10_spells_18 (by decide) ?_
    refine x_istore_n dX10_spells_19 rfl (Nat.le_of_ble_eq_true rfl) rfl ?_
    exact Ex.sb (cc_X10_spells_L20  hf) ⟨rfl, rfl, rfl, rfl, trivial⟩
  · replace hf := zif_f c13 hf
    refine x_iconst (v := 0) dX10_spells_16 (by decide) ?_
    exact x_zret rfl rfl dX10_spells_17 (zretI hf)
theorem cc_X10_factIndex {l : Launch} {G : zG} {N : Nat}   {M : zMem} {r : Int32} {M1 : zMem} (hf : fX10_factIndex N M = some (r, M1)) : Ca l G 5 mX10_factIndex [.ref (G.2.2.1 20), .ref (G.2.2.1 1)] M (some (.int r)) M1 := by
  refine Ca.of (by decide +kernel) (Nat.le_of_ble_eq_true rfl) rfl ?_
  rw [fX10_factIndex] at hf
  refine x_aload_n dX10_factIndex_0 rfl rfl ?_
  refine x_aload_n dX10_factIndex_1 rfl rfl ?_
  refine x_ldcS (i := 6) dX10_factIndex_2 rfl (by decide) rfl ?_
  obtain ⟨r3, M2, hq1, hf⟩ := zb2E hf
  refine x_invVi dX10_factIndex_4 mk_X10_spells ml_X10_69 (cc_X10_spells hq1) rfl rfl rfl (Nat.le_of_ble_eq_true rfl) rfl (Nat.le_of_ble_eq_true rfl) rfl ?_
  refine x_if_eq (tgt := 12) dX10_factIndex_7 (by decide) (fun c7 => ?_) (fun c7 => ?_)
  · replace hf := zif_t c7 hf
    refine x_aload_n dX10_factIndex_12 rfl rfl ?_
    refine x_aload_n dX10_factIndex_13 rfl rfl ?_
    refine x_ldcS (i := 7) dX10_factIndex_14 rfl (by decide) rfl ?_
    obtain ⟨r6, M5, hq4, hf⟩ := zb2E hf
    refine x_invVi dX10_factIndex_16 mk_X10_spells ml_X10_69 (cc_X10_spells hq4) rfl rfl rfl (Nat.le_of_ble_eq_true rfl) rfl (Nat.le_of_ble_eq_true rfl) rfl ?_
    refine x_if_eq (tgt := 24) dX10_factIndex_19 (by decide) (fun c19 => ?_) (fun c19 => ?_)
    · replace hf := zif_t c19 hf
      refine x_aload_n dX10_factIndex_24 rfl rfl ?_
      refine x_aload_n dX10_factIndex_25 rfl rfl ?_
      refine x_ldcS (i := 8) dX10_factIndex_26 rfl (by decide) rfl ?_
      obtain ⟨r9, M8, hq7, hf⟩ := zb2E hf
      refine x_invVi dX10_factIndex_28 mk_X10_spells ml_X10_69 (cc_X10_spells hq7) rfl rfl rfl (Nat.le_of_ble_eq_true rfl) rfl (Nat.le_of_ble_eq_true rfl) rfl ?_
      refine x_if_eq (tgt := 36) dX10_factIndex_31 (by decide) (fun c31 => ?_) (fun c31 => ?_)
      · replace hf := zif_t c31 hf
        refine x_aload_n dX10_factIndex_36 rfl rfl ?_
        refine x_aload_n dX10_factIndex_37 rfl rfl ?_
        refine x_ldcS (i := 9) dX10_factIndex_38 rfl (by decide) rfl ?_
        obtain ⟨r12, M11, hq10, hf⟩ := zb2E hf
        refine x_invVi dX10_factIndex_40 mk_X10_spells ml_X10_69 (cc_X10_spells hq10) rfl rfl rfl (Nat.le_of_ble_eq_true rfl) rfl (Nat.le_of_ble_eq_true rfl) rfl ?_
        refine x_if_eq (tgt := 48) dX10_factIndex_43 (by decide) (fun c43 => ?_) (fun c43 => ?_)
        · replace hf := zif_t c43 hf
          refine x_aload_n dX10_factIndex_48 rfl rfl ?_
          refine x_aload_n dX10_factIndex_49 rfl rfl ?_
          refine x_ldcS (i := 10) dX10_factIndex_50 rfl (by decide) rfl ?_
          obtain ⟨r15, M14, hq13, hf⟩ := zb2E hf
          refine x_invVi dX10_factIndex_52 mk_X10_spells ml_X10_69 (cc_X10_spells hq13) rfl rfl rfl (Nat.le_of_ble_eq_true rfl) rfl (Nat.le_of_ble_eq_true rfl) rfl ?_
          refine x_if_eq (tgt := 60) dX10_factIndex_55 (by decide) (fun c55 => ?_) (fun c55 => ?_)
          · replace hf := zif_t c55 hf
            refine x_aload_n dX10_factIndex_60 rfl rfl ?_
            refine x_aload_n dX10_factIndex_61 rfl rfl ?_
            refine x_ldcS (i := 11) dX10_factIndex_62 rfl (by decide) rfl ?_
            obtain ⟨r18, M17, hq16, hf⟩ := zb2E hf
            refine x_invVi dX10_factIndex_64 mk_X10_spells ml_X10_69 (cc_X10_spells hq16) rfl rfl rfl (Nat.le_of_ble_eq_true rfl) rfl (Nat.le_of_ble_eq_true rfl) rfl ?_
            refine x_if_eq (tgt := 74) dX10_factIndex_67 (by decide) (fun c67 => ?_) (fun c67 => ?_)
            · replace hf := zif_t c67 hf
              refine x_iconst (v := -1) dX10_factIndex_74 (by decide) ?_
              exact x_iret rfl dX10_factIndex_75 (zretI hf)
            · replace hf := zif_f c67 hf
              refine x_iconst (v := 5) dX10_factIndex_70 (by decide) ?_
              refine x_goto (tgt := 75) dX10_factIndex_71 (by decide) ?_
              exact x_iret rfl dX10_factIndex_75 (zretI hf)
          · replace hf := zif_f c55 hf
            refine x_iconst (v := 4) dX10_factIndex_58 (by decide) ?_
            exact x_iret rfl dX10_factIndex_59 (zretI hf)
        · replace hf := zif_f c43 hf
          refine x_iconst (v := 3) dX10_factIndex_46 (by decide) ?_
          exact x_iret rfl dX10_factIndex_47 (zretI hf)
      · replace hf := zif_f c31 hf
        refine x_iconst (v := 2) dX10_factIndex_34 (by decide) ?_
        exact x_iret rfl dX10_factIndex_35 (zretI hf)
    · replace hf := zif_f c19 hf
      refine x_iconst (v := 1) dX10_factIndex_22 (by decide) ?_
      exact x_iret rfl dX10_factIndex_23 (zretI hf)
  · replace hf := zif_f c7 hf
    refine x_iconst (v := 0) dX10_factIndex_10 (by decide) ?_
    exact x_iret rfl dX10_factIndex_11 (zretI hf)
theorem cc_X10_keywordKind {l : Launch} {G : zG} {N : Nat}   {M : zMem} {r : Int32} {M1 : zMem} (hf : fX10_keywordKind N M = some (r, M1)) : Ca l G 5 mX10_keywordKind [.ref (G.2.2.1 20), .ref (G.2.2.1 1)] M (some (.int r)) M1 := by
  refine Ca.of (by decide +kernel) (Nat.le_of_ble_eq_true rfl) rfl ?_
  rw [fX10_keywordKind] at hf
  refine x_aload_n dX10_keywordKind_0 rfl rfl ?_
  refine x_aload_n dX10_keywordKind_1 rfl rfl ?_
  refine x_ldcS (i := 0) dX10_keywordKind_2 rfl (by decide) rfl ?_
  obtain ⟨r3, M2, hq1, hf⟩ := zb2E hf
  refine x_invVi dX10_keywordKind_4 mk_X10_spells ml_X10_69 (cc_X10_spells hq1) rfl rfl rfl (Nat.le_of_ble_eq_true rfl) rfl (Nat.le_of_ble_eq_true rfl) rfl ?_
  refine x_if_eq (tgt := 12) dX10_keywordKind_7 (by decide) (fun c7 => ?_) (fun c7 => ?_)
  · replace hf := zif_t c7 hf
    refine x_aload_n dX10_keywordKind_12 rfl rfl ?_
    refine x_aload_n dX10_keywordKind_13 rfl rfl ?_
    refine x_ldcS (i := 1) dX10_keywordKind_14 rfl (by decide) rfl ?_
    obtain ⟨r6, M5, hq4, hf⟩ := zb2E hf
    refine x_invVi dX10_keywordKind_16 mk_X10_spells ml_X10_69 (cc_X10_spells hq4) rfl rfl rfl (Nat.le_of_ble_eq_true rfl) rfl (Nat.le_of_ble_eq_true rfl) rfl ?_
    refine x_if_eq (tgt := 24) dX10_keywordKind_19 (by decide) (fun c19 => ?_) (fun c19 => ?_)
    · replace hf := zif_t c19 hf
      refine x_aload_n dX10_keywordKind_24 rfl rfl ?_
      refine x_aload_n dX10_keywordKind_25 rfl rfl ?_
      refine x_ldcS (i := 2) dX10_keywordKind_26 rfl (by decide) rfl ?_
      obtain ⟨r9, M8, hq7, hf⟩ := zb2E hf
      refine x_invVi dX10_keywordKind_28 mk_X10_spells ml_X10_69 (cc_X10_spells hq7) rfl rfl rfl (Nat.le_of_ble_eq_true rfl) rfl (Nat.le_of_ble_eq_true rfl) rfl ?_
      refine x_if_eq (tgt := 37) dX10_keywordKind_31 (by decide) (fun c31 => ?_) (fun c31 => ?_)
      · replace hf := zif_t c31 hf
        refine x_aload_n dX10_keywordKind_37 rfl rfl ?_
        refine x_aload_n dX10_keywordKind_38 rfl rfl ?_
        refine x_ldcS (i := 3) dX10_keywordKind_39 rfl (by decide) rfl ?_
        obtain ⟨r12, M11, hq10, hf⟩ := zb2E hf
        refine x_invVi dX10_keywordKind_41 mk_X10_spells ml_X10_69 (cc_X10_spells hq10) rfl rfl rfl (Nat.le_of_ble_eq_true rfl) rfl (Nat.le_of_ble_eq_true rfl) rfl ?_
        refine x_if_eq (tgt := 50) dX10_keywordKind_44 (by decide) (fun c44 => ?_) (fun c44 => ?_)
        · replace hf := zif_t c44 hf
          refine x_aload_n dX10_keywordKind_50 rfl rfl ?_
          refine x_aload_n dX10_keywordKind_51 rfl rfl ?_
          refine x_ldcS (i := 4) dX10_keywordKind_52 rfl (by decide) rfl ?_
          obtain ⟨r15, M14, hq13, hf⟩ := zb2E hf
          refine x_invVi dX10_keywordKind_54 mk_X10_spells ml_X10_69 (cc_X10_spells hq13) rfl rfl rfl (Nat.le_of_ble_eq_true rfl) rfl (Nat.le_of_ble_eq_true rfl) rfl ?_
          refine x_if_eq (tgt := 63) dX10_keywordKind_57 (by decide) (fun c57 => ?_) (fun c57 => ?_)
          · replace hf := zif_t c57 hf
            refine x_aload_n dX10_keywordKind_63 rfl rfl ?_
            refine x_aload_n dX10_keywordKind_64 rfl rfl ?_
            refine x_ldcS (i := 5) dX10_keywordKind_65 rfl (by decide) rfl ?_
            obtain ⟨r18, M17, hq16, hf⟩ := zb2E hf
            refine x_invVi dX10_keywordKind_67 mk_X10_spells ml_X10_69 (cc_X10_spells hq16) rfl rfl rfl (Nat.le_of_ble_eq_true rfl) rfl (Nat.le_of_ble_eq_true rfl) rfl ?_
            refine x_if_eq (tgt := 78) dX10_keywordKind_70 (by decide) (fun c70 => ?_) (fun c70 => ?_)
            · replace hf := zif_t c70 hf
              refine x_iconst (v := 1) dX10_keywordKind_78 (by decide) ?_
              exact x_iret rfl dX10_keywordKind_79 (zretI hf)
            · replace hf := zif_f c70 hf
              refine x_bipush (v := 9) dX10_keywordKind_73 (by decide) ?_
              refine x_goto (tgt := 79) dX10_keywordKind_75 (by decide) ?_
              exact x_iret rfl dX10_keywordKind_79 (zretI hf)
          · replace hf := zif_f c57 hf
            refine x_bipush (v := 8) dX10_keywordKind_60 (by decide) ?_
            exact x_iret rfl dX10_keywordKind_62 (zretI hf)
        · replace hf := zif_f c44 hf
          refine x_bipush (v := 7) dX10_keywordKind_47 (by decide) ?_
          exact x_iret rfl dX10_keywordKind_49 (zretI hf)
      · replace hf := zif_f c31 hf
        refine x_bipush (v := 6) dX10_keywordKind_34 (by decide) ?_
        exact x_iret rfl dX10_keywordKind_36 (zretI hf)
    · replace hf := zif_f c19 hf
      refine x_iconst (v := 5) dX10_keywordKind_22 (by decide) ?_
      exact x_iret rfl dX10_keywordKind_23 (zretI hf)
  · replace hf := zif_f c7 hf
    refine x_iconst (v := 4) dX10_keywordKind_10 (by decide) ?_
    exact x_iret rfl dX10_keywordKind_11 (zretI hf)
theorem cc_X10_scanWord_L97 {l : Launch} {G : zG} {N : Nat} {s1 : Int32} {M : zMem} {M1 : zMem} (hf : fX10_scanWord_L97 N s1 M = some M1) : Ex l G 6 mX10_scanWord 97 [] [.int s1, .ref (G.2.2.1 20)] M (zqV M1) := by
  rw [fX10_scanWord_L97] at hf
  obtain ⟨M17, eM17, hf⟩ := zletE hf
  refine x_putI dX10_scanWord_97 fp_X10_18 rfl rfl rfl rfl eM17 ?_
  exact x_vret rfl dX10_scanWord_100 (zretV hf)
theorem cc_X10_scanWord_L63 {l : Launch} {G : zG} {N : Nat} {s1 : Int32} {M : zMem} {M1 : zMem} (hf : fX10_scanWord_L63 N s1 M = some M1) : Ex l G 6 mX10_scanWord 63 [(0, .ref (G.2.2.1 20)), (1, .ref (G.2.2.1 1))] [.int s1, .ref (G.2.2.1 20)] M (zqV M1) := by
  rw [fX10_scanWord_L63] at hf
  obtain ⟨M12, eM12, hf⟩ := zletE hf
  refine x_putI dX10_scanWord_63 fp_X10_18 rfl rfl rfl rfl eM12 ?_
  refine x_aload_n dX10_scanWord_66 rfl rfl ?_
  refine x_getI dX10_scanWord_67 fl_X10_18 rfl rfl ?_
  refine x_iconst (v := 1) dX10_scanWord_70 (by decide) ?_
  refine x_icmp_ne (tgt := 100) dX10_scanWord_71 (by decide) (fun c71 => ?_) (fun c71 => ?_)
  · replace hf := zif_f c71 hf
    exact x_vret rfl dX10_scanWord_100 (zretV hf)
  · replace hf := zif_t c71 hf
    refine x_aload_n dX10_scanWord_74 rfl rfl ?_
    refine x_aload_n dX10_scanWord_75 rfl rfl ?_
    refine x_aload_n dX10_scanWord_76 rfl rfl ?_
    obtain ⟨r15, M14, hq13, hf⟩ := zb2E hf
    refine x_invVi dX10_scanWord_77 mk_X10_factIndex ml_X10_58 (cc_X10_factIndex hq13) rfl rfl rfl (Nat.le_of_ble_eq_true rfl) rfl (Nat.le_of_ble_eq_true rfl) rfl ?_
    obtain ⟨M16, eM16, hf⟩ := zletE hf
    refine x_putI dX10_scanWord_80 fp_X10_21 rfl rfl rfl rfl eM16 ?_
    refine x_aload_n dX10_scanWord_83 rfl rfl ?_
    refine x_aload_n dX10_scanWord_84 rfl rfl ?_
    refine x_getI dX10_scanWord_85 fl_X10_21 rfl rfl ?_
    refine x_iconst (v := -1) dX10_scanWord_88 (by decide) ?_
    refine x_icmp_ne (tgt := 96) dX10_scanWord_89 (by decide) (fun c89 => ?_) (fun c89 => ?_)
    · replace hf := zif_f c89 hf
      refine x_iconst (v := 3) dX10_scanWord_96 (by decide) ?_
      exact Ex.sb (cc_X10_scanWord_L97  hf) trivial
    · replace hf := zif_t c89 hf
      refine x_iconst (v := 1) dX10_scanWord_92 (by decide) ?_
      refine x_goto (tgt := 97) dX10_scanWord_93 (by decide) ?_
      exact Ex.sb (cc_X10_scanWord_L97  hf) trivial
theorem cc_X10_scanWord_L39 {l : Launch} {G : zG} {N : Nat}  {M : zMem} {M1 : zMem} (hf : fX10_scanWord_L39 N M = some M1) : Ex l G 6 mX10_scanWord 39 [(0, .ref (G.2.2.1 20)), (1, .ref (G.2.2.1 1))] [] M (zqV M1) := by
  rw [fX10_scanWord_L39] at hf
  refine x_aload_n dX10_scanWord_39 rfl rfl ?_
  refine x_aload_n dX10_scanWord_40 rfl rfl ?_
  refine x_getI dX10_scanWord_41 fl_X10_9 rfl rfl ?_
  refine x_aload_n dX10_scanWord_44 rfl rfl ?_
  refine x_getI dX10_scanWord_45 fl_X10_15 rfl rfl ?_
  refine x_isub dX10_scanWord_48 ?_
  refine x_bipush (v := 8) dX10_scanWord_49 (by decide) ?_
  refine x_icmp_le (tgt := 58) dX10_scanWord_51 (by decide) (fun c51 => ?_) (fun c51 => ?_)
  · replace hf := zif_t c51 hf
    refine x_aload_n dX10_scanWord_58 rfl rfl ?_
    refine x_aload_n dX10_scanWord_59 rfl rfl ?_
    obtain ⟨r11, M10, hq9, hf⟩ := zb2E hf
    refine x_invVi dX10_scanWord_60 mk_X10_keywordKind ml_X10_54 (cc_X10_keywordKind hq9) rfl rfl rfl (Nat.le_of_ble_eq_true rfl) rfl (Nat.le_of_ble_eq_true rfl) rfl ?_
    exact Ex.sb (cc_X10_scanWord_L63  hf) ⟨rfl, rfl, trivial⟩
  · replace hf := zif_f c51 hf
    refine x_iconst (v := 1) dX10_scanWord_54 (by decide) ?_
    refine x_goto (tgt := 63) dX10_scanWord_55 (by decide) ?_
    exact Ex.sb (cc_X10_scanWord_L63  hf) ⟨rfl, rfl, trivial⟩
theorem cc_X10_scanWord_L2 {l : Launch} {G : zG} {N : Nat} : ∀ {n : Nat} {x2 : Int32} {M : zMem} {M1 : zMem}, fX10_scanWord_L2 N n x2 M = some M1 → Ex l G 6 mX10_scanWord 2 [(0, .ref (G.2.2.1 20)), (1, .ref (G.2.2.1 1)), (2, .int x2)] [] M (zqV M1) := by
  intro n
  induction n with
  | zero => intro x2 M M1 hf; cases hf
  | succ n ih =>
    intro x2 M M1 hf
    rw [fX10_scanWord_L2] at hf
    refine x_iload_n dX10_scanWord_2 rfl rfl ?_
    refine x_sipush (v := 2000) dX10_scanWord_3 (by decide) ?_
    refine x_icmp_ge (tgt := 39) dX10_scanWord_6 (by decide) (fun c6 => ?_) (fun c6 => ?_)
    · replace hf := zif_t c6 hf
      exact Ex.sb (cc_X10_scanWord_L39  hf) ⟨rfl, rfl, trivial⟩
    · replace hf := zif_f c6 hf
      refine x_aload_n dX10_scanWord_9 rfl rfl ?_
      refine x_aload_n dX10_scanWord_10 rfl rfl ?_
      refine x_getI dX10_scanWord_11 fl_X10_9 rfl rfl ?_
      obtain ⟨r3, M2, hq1, hf⟩ := zb2E hf
      refine x_invVi dX10_scanWord_14 mk_X8_byteAt ml_X10_28 (cc_X8_byteAt hq1) rfl rfl rfl (Nat.le_of_ble_eq_true rfl) rfl (Nat.le_of_ble_eq_true rfl) rfl ?_
      obtain ⟨r6, M5, hq4, hf⟩ := zb2E hf
      refine x_invSi dX10_scanWord_17 mk_X10_isLetter ml_X10_34 (cc_X10_isLetter hq4) (Nat.le_of_ble_eq_true rfl) rfl (Nat.le_of_ble_eq_true rfl) rfl ?_
      refine x_if_eq (tgt := 39) dX10_scanWord_20 (by decide) (fun c20 => ?_) (fun c20 => ?_)
      · replace hf := zif_t c20 hf
        exact Ex.sb (cc_X10_scanWord_L39  hf) ⟨rfl, rfl, trivial⟩
      · replace hf := zif_f c20 hf
        refine x_aload_n dX10_scanWord_23 rfl rfl ?_
        refine x_dup dX10_scanWord_24 rfl ?_
        refine x_getI dX10_scanWord_25 fl_X10_9 rfl rfl ?_
        refine x_iconst (v := 1) dX10_scanWord_28 (by decide) ?_
        refine x_iadd dX10_scanWord_29 ?_
        obtain ⟨M7, eM7, hf⟩ := zletE hf
        refine x_putI dX10_scanWord_30 fp_X10_9 rfl rfl rfl rfl eM7 ?_
        obtain ⟨x2_8, ex2_8, hf⟩ := zletE hf
        refine x_iinc (c0 := 1) dX10_scanWord_33 rfl (Nat.le_of_ble_eq_true rfl) (by decide) ex2_8 ?_
        refine x_goto (tgt := 2) dX10_scanWord_36 (by decide) ?_
        exact Ex.sb (ih hf) ⟨rfl, rfl, rfl, trivial⟩
theorem cc_X10_scanWord {l : Launch} {G : zG} {N : Nat}   {M : zMem} {M1 : zMem} (hf : fX10_scanWord N M = some M1) : Ca l G 6 mX10_scanWord [.ref (G.2.2.1 20), .ref (G.2.2.1 1)] M none M1 := by
  refine Ca.of (by decide +kernel) (Nat.le_of_ble_eq_true rfl) rfl ?_
  rw [fX10_scanWord] at hf
  refine x_iconst (v := 0) dX10_scanWord_0 (by decide) ?_
  refine x_istore_n dX10_scanWord_1 rfl (Nat.le_of_ble_eq_true rfl) rfl ?_
  exact Ex.sb (cc_X10_scanWord_L2  hf) ⟨rfl, rfl, rfl, trivial⟩
theorem cc_X10_isBlank_L24 {l : Launch} {G : zG}  {M : zMem} {r : Int32} {M1 : zMem} (hf : fX10_isBlank_L24 M = some (r, M1)) : Ex l G 0 mX10_isBlank 24 [] [] M (zqI r M1) := by
  rw [fX10_isBlank_L24] at hf
  refine x_iconst (v := 1) dX10_isBlank_24 (by decide) ?_
  refine x_goto (tgt := 29) dX10_isBlank_25 (by decide) ?_
  exact x_zret rfl rfl dX10_isBlank_29 (zretI hf)
theorem cc_X10_isBlank {l : Launch} {G : zG} {x0 : Int32}  {M : zMem} {r : Int32} {M1 : zMem} (hf : fX10_isBlank x0 M = some (r, M1)) : Ca l G 0 mX10_isBlank [.int x0] M (some (.int r)) M1 := by
  refine Ca.of (by decide +kernel) (Nat.le_of_ble_eq_true rfl) rfl ?_
  rw [fX10_isBlank] at hf
  refine x_iload_n dX10_isBlank_0 rfl rfl ?_
  refine x_bipush (v := 9) dX10_isBlank_1 (by decide) ?_
  refine x_icmp_eq (tgt := 24) dX10_isBlank_3 (by decide) (fun c3 => ?_) (fun c3 => ?_)
  · replace hf := zif_t c3 hf
    exact Ex.sb (cc_X10_isBlank_L24  hf) trivial
  · replace hf := zif_f c3 hf
    refine x_iload_n dX10_isBlank_6 rfl rfl ?_
    refine x_bipush (v := 10) dX10_isBlank_7 (by decide) ?_
    refine x_icmp_eq (tgt := 24) dX10_isBlank_9 (by decide) (fun c9 => ?_) (fun c9 => ?_)
    · replace hf := zif_t c9 hf
      exact Ex.sb (cc_X10_isBlank_L24  hf) trivial
    · replace hf := zif_f c9 hf
      refine x_iload_n dX10_isBlank_12 rfl rfl ?_
      refine x_bipush (v := 13) dX10_isBlank_13 (by decide) ?_
      refine x_icmp_eq (tgt := 24) dX10_isBlank_15 (by decide) (fun c15 => ?_) (fun c15 => ?_)
      · replace hf := zif_t c15 hf
        exact Ex.sb (cc_X10_isBlank_L24  hf) trivial
      · replace hf := zif_f c15 hf
        refine x_iload_n dX10_isBlank_18 rfl rfl ?_
        refine x_bipush (v := 32) dX10_isBlank_19 (by decide) ?_
        refine x_icmp_ne (tgt := 28) dX10_isBlank_21 (by decide) (fun c21 => ?_) (fun c21 => ?_)
        · replace hf := zif_f c21 hf
          refine x_iconst (v := 0) dX10_isBlank_28 (by decide) ?_
          exact x_zret rfl rfl dX10_isBlank_29 (zretI hf)
        · replace hf := zif_t c21 hf
          exact Ex.sb (cc_X10_isBlank_L24  hf) trivial
theorem cc_X10_skipBlanks_L2 {l : Launch} {G : zG} {N : Nat} : ∀ {n : Nat} {x2 : Int32} {M : zMem} {M1 : zMem}, fX10_skipBlanks_L2 N n x2 M = some M1 → Ex l G 1 mX10_skipBlanks 2 [(0, .ref (G.2.2.1 20)), (1, .ref (G.2.2.1 1)), (2, .int x2)] [] M (zqV M1) := by
  intro n
  induction n with
  | zero => intro x2 M M1 hf; cases hf
  | succ n ih =>
    intro x2 M M1 hf
    rw [fX10_skipBlanks_L2] at hf
    refine x_iload_n dX10_skipBlanks_2 rfl rfl ?_
    refine x_sipush (v := 2000) dX10_skipBlanks_3 (by decide) ?_
    refine x_icmp_ge (tgt := 39) dX10_skipBlanks_6 (by decide) (fun c6 => ?_) (fun c6 => ?_)
    · replace hf := zif_t c6 hf
      exact x_vret rfl dX10_skipBlanks_39 (zretV hf)
    · replace hf := zif_f c6 hf
      refine x_aload_n dX10_skipBlanks_9 rfl rfl ?_
      refine x_aload_n dX10_skipBlanks_10 rfl rfl ?_
      refine x_getI dX10_skipBlanks_11 fl_X10_9 rfl rfl ?_
      obtain ⟨r3, M2, hq1, hf⟩ := zb2E hf
      refine x_invVi dX10_skipBlanks_14 mk_X8_byteAt ml_X10_28 (cc_X8_byteAt hq1) rfl rfl rfl (Nat.le_of_ble_eq_true rfl) rfl (Nat.le_of_ble_eq_true rfl) rfl ?_
      obtain ⟨r6, M5, hq4, hf⟩ := zb2E hf
      refine x_invSi dX10_skipBlanks_17 mk_X10_isBlank ml_X10_51 (cc_X10_isBlank hq4) (Nat.le_of_ble_eq_true rfl) rfl (Nat.le_of_ble_eq_true rfl) rfl ?_
      refine x_if_eq (tgt := 39) dX10_skipBlanks_20 (by decide) (fun c20 => ?_) (fun c20 => ?_)
      · replace hf := zif_t c20 hf
        exact x_vret rfl dX10_skipBlanks_39 (zretV hf)
      · replace hf := zif_f c20 hf
        refine x_aload_n dX10_skipBlanks_23 rfl rfl ?_
        refine x_dup dX10_skipBlanks_24 rfl ?_
        refine x_getI dX10_skipBlanks_25 fl_X10_9 rfl rfl ?_
        refine x_iconst (v := 1) dX10_skipBlanks_28 (by decide) ?_
        refine x_iadd dX10_skipBlanks_29 ?_
        obtain ⟨M7, eM7, hf⟩ := zletE hf
        refine x_putI dX10_skipBlanks_30 fp_X10_9 rfl rfl rfl rfl eM7 ?_
        obtain ⟨x2_8, ex2_8, hf⟩ := zletE hf
        refine x_iinc (c0 := 1) dX10_skipBlanks_33 rfl (Nat.le_of_ble_eq_true rfl) (by decide) ex2_8 ?_
        refine x_goto (tgt := 2) dX10_skipBlanks_36 (by decide) ?_
        exact Ex.sb (ih hf) ⟨rfl, rfl, rfl, trivial⟩
theorem cc_X10_skipBlanks {l : Launch} {G : zG} {N : Nat}   {M : zMem} {M1 : zMem} (hf : fX10_skipBlanks N M = some M1) : Ca l G 1 mX10_skipBlanks [.ref (G.2.2.1 20), .ref (G.2.2.1 1)] M none M1 := by
  refine Ca.of (by decide +kernel) (Nat.le_of_ble_eq_true rfl) rfl ?_
  rw [fX10_skipBlanks] at hf
  refine x_iconst (v := 0) dX10_skipBlanks_0 (by decide) ?_
  refine x_istore_n dX10_skipBlanks_1 rfl (Nat.le_of_ble_eq_true rfl) rfl ?_
  exact Ex.sb (cc_X10_skipBlanks_L2  hf) ⟨rfl, rfl, rfl, trivial⟩
theorem cc_X10_scan {l : Launch} {G : zG} {N : Nat}   {M : zMem} {M1 : zMem} (hf : fX10_scan N M = some M1) : Ca l G 7 mX10_scan [.ref (G.2.2.1 20), .ref (G.2.2.1 1)] M none M1 := by
  refine Ca.of (by decide +kernel) (Nat.le_of_ble_eq_true rfl) rfl ?_
  rw [fX10_scan] at hf
  refine x_aload_n dX10_scan_0 rfl rfl ?_
  refine x_aload_n dX10_scan_1 rfl rfl ?_
  obtain ⟨M2, hq1, hf⟩ := zbind hf
  refine x_invVv dX10_scan_2 mk_X10_skipBlanks ml_X10_24 (cc_X10_skipBlanks hq1) rfl rfl rfl (Nat.le_of_ble_eq_true rfl) rfl (Nat.le_of_ble_eq_true rfl) rfl ?_
  refine x_aload_n dX10_scan_5 rfl rfl ?_
  refine x_aload_n dX10_scan_6 rfl rfl ?_
  refine x_getI dX10_scan_7 fl_X10_9 rfl rfl ?_
  obtain ⟨M3, eM3, hf⟩ := zletE hf
  refine x_putI dX10_scan_10 fp_X10_15 rfl rfl rfl rfl eM3 ?_
  refine x_aload_n dX10_scan_13 rfl rfl ?_
  refine x_iconst (v := 0) dX10_scan_14 (by decide) ?_
  obtain ⟨M4, eM4, hf⟩ := zletE hf
  refine x_putI dX10_scan_15 fp_X10_21 rfl rfl rfl rfl eM4 ?_
  refine x_aload_n dX10_scan_18 rfl rfl ?_
  refine x_aload_n dX10_scan_19 rfl rfl ?_
  refine x_getI dX10_scan_20 fl_X10_15 rfl rfl ?_
  obtain ⟨r7, M6, hq5, hf⟩ := zb2E hf
  refine x_invVi dX10_scan_23 mk_X8_byteAt ml_X10_28 (cc_X8_byteAt hq5) rfl rfl rfl (Nat.le_of_ble_eq_true rfl) rfl (Nat.le_of_ble_eq_true rfl) rfl ?_
  refine x_istore_n dX10_scan_26 rfl (Nat.le_of_ble_eq_true rfl) rfl ?_
  refine x_iload_n dX10_scan_27 rfl rfl ?_
  refine x_iconst (v := -1) dX10_scan_28 (by decide) ?_
  refine x_icmp_ne (tgt := 40) dX10_scan_29 (by decide) (fun c29 => ?_) (fun c29 => ?_)
  · replace hf := zif_f c29 hf
    refine x_iload_n dX10_scan_40 rfl rfl ?_
    obtain ⟨r10, M9, hq8, hf⟩ := zb2E hf
    refine x_invSi dX10_scan_41 mk_X10_isLetter ml_X10_34 (cc_X10_isLetter hq8) (Nat.le_of_ble_eq_true rfl) rfl (Nat.le_of_ble_eq_true rfl) rfl ?_
    refine x_if_eq (tgt := 55) dX10_scan_44 (by decide) (fun c44 => ?_) (fun c44 => ?_)
    · replace hf := zif_t c44 hf
      refine x_iload_n dX10_scan_55 rfl rfl ?_
      obtain ⟨r13, M12, hq11, hf⟩ := zb2E hf
      refine x_invSi dX10_scan_56 mk_X10_isDigit ml_X10_41 (cc_X10_isDigit hq11) (Nat.le_of_ble_eq_true rfl) rfl (Nat.le_of_ble_eq_true rfl) rfl ?_
      refine x_if_eq (tgt := 70) dX10_scan_59 (by decide) (fun c59 => ?_) (fun c59 => ?_)
      · replace hf := zif_t c59 hf
        refine x_aload_n dX10_scan_70 rfl rfl ?_
        refine x_iload_n dX10_scan_71 rfl rfl ?_
        refine x_aload_n dX10_scan_72 rfl rfl ?_
        refine x_aload_n dX10_scan_73 rfl rfl ?_
        refine x_getI dX10_scan_74 fl_X10_15 rfl rfl ?_
        refine x_iconst (v := 1) dX10_scan_77 (by decide) ?_
        refine x_iadd dX10_scan_78 ?_
        obtain ⟨r16, M15, hq14, hf⟩ := zb2E hf
        refine x_invVi dX10_scan_79 mk_X8_byteAt ml_X10_28 (cc_X8_byteAt hq14) rfl rfl rfl (Nat.le_of_ble_eq_true rfl) rfl (Nat.le_of_ble_eq_true rfl) rfl ?_
        obtain ⟨M18, hq17, hf⟩ := zbind hf
        refine x_invVv dX10_scan_82 mk_X10_scanSign ml_X10_47 (cc_X10_scanSign hq17) rfl rfl rfl (Nat.le_of_ble_eq_true rfl) rfl (Nat.le_of_ble_eq_true rfl) rfl ?_
        exact x_vret rfl dX10_scan_85 (zretV hf)
      · replace hf := zif_f c59 hf
        refine x_aload_n dX10_scan_62 rfl rfl ?_
        refine x_aload_n dX10_scan_63 rfl rfl ?_
        obtain ⟨M20, hq19, hf⟩ := zbind hf
        refine x_invVv dX10_scan_64 mk_X10_scanNumber ml_X10_44 (cc_X10_scanNumber hq19) rfl rfl rfl (Nat.le_of_ble_eq_true rfl) rfl (Nat.le_of_ble_eq_true rfl) rfl ?_
        refine x_goto (tgt := 85) dX10_scan_67 (by decide) ?_
        exact x_vret rfl dX10_scan_85 (zretV hf)
    · replace hf := zif_f c44 hf
      refine x_aload_n dX10_scan_47 rfl rfl ?_
      refine x_aload_n dX10_scan_48 rfl rfl ?_
      obtain ⟨M22, hq21, hf⟩ := zbind hf
      refine x_invVv dX10_scan_49 mk_X10_scanWord ml_X10_38 (cc_X10_scanWord hq21) rfl rfl rfl (Nat.le_of_ble_eq_true rfl) rfl (Nat.le_of_ble_eq_true rfl) rfl ?_
      refine x_goto (tgt := 85) dX10_scan_52 (by decide) ?_
      exact x_vret rfl dX10_scan_85 (zretV hf)
  · replace hf := zif_t c29 hf
    refine x_aload_n dX10_scan_32 rfl rfl ?_
    refine x_iconst (v := 0) dX10_scan_33 (by decide) ?_
    obtain ⟨M23, eM23, hf⟩ := zletE hf
    refine x_putI dX10_scan_34 fp_X10_18 rfl rfl rfl rfl eM23 ?_
    refine x_goto (tgt := 85) dX10_scan_37 (by decide) ?_
    exact x_vret rfl dX10_scan_85 (zretV hf)
theorem cc_X10_start {l : Launch} {G : zG}   {M : zMem} {r : Int32} {M1 : zMem} (hf : fX10_start M = some (r, M1)) : Ca l G 0 mX10_start [.ref (G.2.2.1 20)] M (some (.int r)) M1 := by
  refine Ca.of (by decide +kernel) (Nat.le_of_ble_eq_true rfl) rfl ?_
  rw [fX10_start] at hf
  refine x_aload_n dX10_start_0 rfl rfl ?_
  refine x_getI dX10_start_1 fl_X10_15 rfl rfl ?_
  exact x_iret rfl dX10_start_4 (zretI hf)
theorem cc_X10_value {l : Launch} {G : zG}   {M : zMem} {r : Int32} {M1 : zMem} (hf : fX10_value M = some (r, M1)) : Ca l G 0 mX10_value [.ref (G.2.2.1 20)] M (some (.int r)) M1 := by
  refine Ca.of (by decide +kernel) (Nat.le_of_ble_eq_true rfl) rfl ?_
  rw [fX10_value] at hf
  refine x_aload_n dX10_value_0 rfl rfl ?_
  refine x_getI dX10_value_1 fl_X10_21 rfl rfl ?_
  exact x_iret rfl dX10_value_4 (zretI hf)
theorem cc_X10_restart {l : Launch} {G : zG}   {M : zMem} {M1 : zMem} (hf : fX10_restart M = some M1) : Ca l G 0 mX10_restart [.ref (G.2.2.1 20)] M none M1 := by
  refine Ca.of (by decide +kernel) (Nat.le_of_ble_eq_true rfl) rfl ?_
  rw [fX10_restart] at hf
  refine x_aload_n dX10_restart_0 rfl rfl ?_
  refine x_iconst (v := 0) dX10_restart_1 (by decide) ?_
  obtain ⟨M1, eM1, hf⟩ := zletE hf
  refine x_putI dX10_restart_2 fp_X10_9 rfl rfl rfl rfl eM1 ?_
  exact x_vret rfl dX10_restart_5 (zretV hf)
theorem cc_X6_clear {l : Launch} {G : zG} {r0 : Nat} (hr0 : r0 = 3 ∨ r0 = 11) {M : zMem} {M1 : zMem} (hf : fX6_clear r0 M = some M1) : Ca l G 0 mX6_clear [.ref (G.2.2.1 r0)] M none M1 := by
  rcases hr0 with rfl | rfl
  · refine Ca.of (by decide +kernel) (Nat.le_of_ble_eq_true rfl) rfl ?_
    rw [fX6_clear] at hf
    refine x_aload_n dX6_clear_0 rfl rfl ?_
    refine x_iconst (v := 0) dX6_clear_1 (by decide) ?_
    obtain ⟨M1, eM1, hf⟩ := zletE hf
    refine x_putI dX6_clear_2 fp_X6_33 rfl rfl rfl rfl eM1 ?_
    refine x_aload_n dX6_clear_5 rfl rfl ?_
    refine x_iconst (v := 0) dX6_clear_6 (by decide) ?_
    obtain ⟨M2, eM2, hf⟩ := zletE hf
    refine x_putI dX6_clear_7 fp_X6_37 rfl rfl rfl rfl eM2 ?_
    exact x_vret rfl dX6_clear_10 (zretV hf)
  · refine Ca.of (by decide +kernel) (Nat.le_of_ble_eq_true rfl) rfl ?_
    rw [fX6_clear] at hf
    refine x_aload_n dX6_clear_0 rfl rfl ?_
    refine x_iconst (v := 0) dX6_clear_1 (by decide) ?_
    obtain ⟨M1, eM1, hf⟩ := zletE hf
    refine x_putI dX6_clear_2 fp_X6_33 rfl rfl rfl rfl eM1 ?_
    refine x_aload_n dX6_clear_5 rfl rfl ?_
    refine x_iconst (v := 0) dX6_clear_6 (by decide) ?_
    obtain ⟨M2, eM2, hf⟩ := zletE hf
    refine x_putI dX6_clear_7 fp_X6_37 rfl rfl rfl rfl eM2 ?_
    exact x_vret rfl dX6_clear_10 (zretV hf)
theorem cc_X5_prepare {l : Launch} {G : zG} {x1 : Nat}  {M : zMem} {M1 : zMem} (hf : fX5_prepare x1 M = some M1) : Ca l G 1 mX5_prepare [.ref (G.2.2.1 19), .ref (G.2.2.1 x1)] M none M1 := by
  refine Ca.of (by decide +kernel) (Nat.le_of_ble_eq_true rfl) rfl ?_
  rw [fX5_prepare] at hf
  refine x_aload_n dX5_prepare_0 rfl rfl ?_
  refine x_aload_n dX5_prepare_1 rfl rfl ?_
  obtain ⟨M1, eM1, hf⟩ := zletE hf
  refine x_putR dX5_prepare_2 fp_X5_22 rfl rfl rfl rfl eM1 ?_
  refine x_aload_n dX5_prepare_5 rfl rfl ?_
  refine x_getR dX5_prepare_6 fl_X5_22 rfl rfl ?_
  obtain ⟨M3, hq2, hf⟩ := zbind hf
  obtain ⟨hdy9, hq2⟩ := zdyE hq2
  obtain ⟨cd9, hs9⟩ := zdySH hdy9
  refine x_invVv dX5_prepare_9 mk_X6_clear ml_X5_60 (cc_X6_clear hdy9 hq2) hs9 rfl rfl (Nat.le_of_ble_eq_true rfl) rfl (Nat.le_of_ble_eq_true rfl) rfl ?_
  refine x_aload_n dX5_prepare_12 rfl rfl ?_
  refine x_getS (r := 20) dX5_prepare_13 fl_X5_12 rfl rfl ?_
  obtain ⟨M5, hq4, hf⟩ := zbind hf
  refine x_invVv dX5_prepare_16 mk_X10_restart ml_X5_65 (cc_X10_restart hq4) rfl rfl rfl (Nat.le_of_ble_eq_true rfl) rfl (Nat.le_of_ble_eq_true rfl) rfl ?_
  refine x_aload_n dX5_prepare_19 rfl rfl ?_
  refine x_iconst (v := 0) dX5_prepare_20 (by decide) ?_
  obtain ⟨M6, eM6, hf⟩ := zletE hf
  refine x_putI dX5_prepare_21 fp_X5_68 rfl rfl rfl rfl eM6 ?_
  refine x_aload_n dX5_prepare_24 rfl rfl ?_
  refine x_iconst (v := 0) dX5_prepare_25 (by decide) ?_
  obtain ⟨M7, eM7, hf⟩ := zletE hf
  refine x_putI dX5_prepare_26 fp_X5_71 rfl rfl rfl rfl eM7 ?_
  refine x_aload_n dX5_prepare_29 rfl rfl ?_
  refine x_iconst (v := 0) dX5_prepare_30 (by decide) ?_
  obtain ⟨M8, eM8, hf⟩ := zletE hf
  refine x_putI dX5_prepare_31 fp_X5_44 rfl rfl rfl rfl eM8 ?_
  refine x_aload_n dX5_prepare_34 rfl rfl ?_
  refine x_iconst (v := 0) dX5_prepare_35 (by decide) ?_
  obtain ⟨M9, eM9, hf⟩ := zletE hf
  refine x_putI dX5_prepare_36 fp_X5_74 rfl rfl rfl rfl eM9 ?_
  refine x_aload_n dX5_prepare_39 rfl rfl ?_
  refine x_iconst (v := 0) dX5_prepare_40 (by decide) ?_
  obtain ⟨M10, eM10, hf⟩ := zletE hf
  refine x_putI dX5_prepare_41 fp_X5_77 rfl rfl rfl rfl eM10 ?_
  refine x_aload_n dX5_prepare_44 rfl rfl ?_
  refine x_iconst (v := 0) dX5_prepare_45 (by decide) ?_
  obtain ⟨M11, eM11, hf⟩ := zletE hf
  refine x_putI dX5_prepare_46 fp_X5_80 rfl rfl rfl rfl eM11 ?_
  refine x_aload_n dX5_prepare_49 rfl rfl ?_
  refine x_iconst (v := -1) dX5_prepare_50 (by decide) ?_
  obtain ⟨M12, eM12, hf⟩ := zletE hf
  refine x_putI dX5_prepare_51 fp_X5_57 rfl rfl rfl rfl eM12 ?_
  exact x_vret rfl dX5_prepare_54 (zretV hf)
theorem cc_X5_rankOf {l : Launch} {G : zG} {x0 : Int32}  {M : zMem} {r : Int32} {M1 : zMem} (hf : fX5_rankOf x0 M = some (r, M1)) : Ca l G 0 mX5_rankOf [.int x0] M (some (.int r)) M1 := by
  refine Ca.of (by decide +kernel) (Nat.le_of_ble_eq_true rfl) rfl ?_
  rw [fX5_rankOf] at hf
  refine x_iload_n dX5_rankOf_0 rfl rfl ?_
  by_cases c1_13 : x0 = (13 : Int32)
  · replace hf := zif_t c1_13 hf
    refine x_tableIn (tgt := 30) (off := 29) dX5_rankOf_1 (ztl c1_13 (by decide)) (ztu c1_13 (by decide)) (zto c1_13 (by decide)) (by decide) ?_
    refine x_iconst (v := 1) dX5_rankOf_30 (by decide) ?_
    exact x_iret rfl dX5_rankOf_31 (zretI hf)
  · replace hf := zif_f c1_13 hf
    by_cases c1_14 : x0 = (14 : Int32)
    · replace hf := zif_t c1_14 hf
      refine x_tableIn (tgt := 30) (off := 29) dX5_rankOf_1 (ztl c1_14 (by decide)) (ztu c1_14 (by decide)) (zto c1_14 (by decide)) (by decide) ?_
      refine x_iconst (v := 1) dX5_rankOf_30 (by decide) ?_
      exact x_iret rfl dX5_rankOf_31 (zretI hf)
    · replace hf := zif_f c1_14 hf
      by_cases c1_15 : x0 = (15 : Int32)
      · replace hf := zif_t c1_15 hf
        refine x_tableIn (tgt := 28) (off := 27) dX5_rankOf_1 (ztl c1_15 (by decide)) (ztu c1_15 (by decide)) (zto c1_15 (by decide)) (by decide) ?_
        refine x_iconst (v := 2) dX5_rankOf_28 (by decide) ?_
        exact x_iret rfl dX5_rankOf_29 (zretI hf)
      · replace hf := zif_f c1_15 hf
        refine x_tableOut (tgt := 32) dX5_rankOf_1 (by have q0 := ztne c1_13 (n := 13) (by decide); have q1 := ztne c1_14 (n := 14) (by decide); have q2 := ztne c1_15 (n := 15) (by decide); omega) (by decide) ?_
        refine x_iconst (v := 0) dX5_rankOf_32 (by decide) ?_
        exact x_iret rfl dX5_rankOf_33 (zretI hf)
theorem cc_X5_isArithmetic {l : Launch} {G : zG} {x0 : Int32}  {M : zMem} {r : Int32} {M1 : zMem} (hf : fX5_isArithmetic x0 M = some (r, M1)) : Ca l G 1 mX5_isArithmetic [.int x0] M (some (.int r)) M1 := by
  refine Ca.of (by decide +kernel) (Nat.le_of_ble_eq_true rfl) rfl ?_
  rw [fX5_isArithmetic] at hf
  refine x_iload_n dX5_isArithmetic_0 rfl rfl ?_
  obtain ⟨r3, M2, hq1, hf⟩ := zb2E hf
  refine x_invSi dX5_isArithmetic_1 mk_X5_rankOf ml_X5_128 (cc_X5_rankOf hq1) (Nat.le_of_ble_eq_true rfl) rfl (Nat.le_of_ble_eq_true rfl) rfl ?_
  refine x_if_le (tgt := 11) dX5_isArithmetic_4 (by decide) (fun c4 => ?_) (fun c4 => ?_)
  · replace hf := zif_t c4 hf
    refine x_iconst (v := 0) dX5_isArithmetic_11 (by decide) ?_
    exact x_zret rfl rfl dX5_isArithmetic_12 (zretI hf)
  · replace hf := zif_f c4 hf
    refine x_iconst (v := 1) dX5_isArithmetic_7 (by decide) ?_
    refine x_goto (tgt := 12) dX5_isArithmetic_8 (by decide) ?_
    exact x_zret rfl rfl dX5_isArithmetic_12 (zretI hf)
theorem cc_X5_push {l : Launch} {G : zG} {x1 : Int32}  {M : zMem} {M1 : zMem} (hf : fX5_push x1 M = some M1) : Ca l G 0 mX5_push [.ref (G.2.2.1 19), .int x1] M none M1 := by
  refine Ca.of (by decide +kernel) (Nat.le_of_ble_eq_true rfl) rfl ?_
  rw [fX5_push] at hf
  refine x_aload_n dX5_push_0 rfl rfl ?_
  refine x_getI dX5_push_1 fl_X5_68 rfl rfl ?_
  refine x_bipush (v := 20) dX5_push_4 (by decide) ?_
  refine x_icmp_ge (tgt := 29) dX5_push_6 (by decide) (fun c6 => ?_) (fun c6 => ?_)
  · replace hf := zif_t c6 hf
    exact x_vret rfl dX5_push_29 (zretV hf)
  · replace hf := zif_f c6 hf
    refine x_aload_n dX5_push_9 rfl rfl ?_
    refine x_getS (r := 21) dX5_push_10 fl_X5_18 rfl rfl ?_
    refine x_aload_n dX5_push_13 rfl rfl ?_
    refine x_getI dX5_push_14 fl_X5_68 rfl rfl ?_
    refine x_iload_n dX5_push_17 rfl rfl ?_
    obtain ⟨M1, hM1, hf⟩ := zbind hf
    refine x_ist dX5_push_18 rfl hM1 ?_
    refine x_aload_n dX5_push_19 rfl rfl ?_
    refine x_dup dX5_push_20 rfl ?_
    refine x_getI dX5_push_21 fl_X5_68 rfl rfl ?_
    refine x_iconst (v := 1) dX5_push_24 (by decide) ?_
    refine x_iadd dX5_push_25 ?_
    obtain ⟨M2, eM2, hf⟩ := zletE hf
    refine x_putI dX5_push_26 fp_X5_68 rfl rfl rfl rfl eM2 ?_
    exact x_vret rfl dX5_push_29 (zretV hf)
theorem cc_X6_beginCondition {l : Launch} {G : zG} {r0 : Nat} (hr0 : r0 = 3 ∨ r0 = 11) {M : zMem} {M1 : zMem} (hf : fX6_beginCondition r0 M = some M1) : Ca l G 0 mX6_beginCondition [.ref (G.2.2.1 r0)] M none M1 := by
  rcases hr0 with rfl | rfl
  · refine Ca.of (by decide +kernel) (Nat.le_of_ble_eq_true rfl) rfl ?_
    rw [fX6_beginCondition] at hf
    refine x_aload_n dX6_beginCondition_0 rfl rfl ?_
    refine x_getI dX6_beginCondition_1 fl_X6_33 rfl rfl ?_
    refine x_if_le (tgt := 22) dX6_beginCondition_4 (by decide) (fun c4 => ?_) (fun c4 => ?_)
    · replace hf := zif_t c4 hf
      exact x_vret rfl dX6_beginCondition_22 (zretV hf)
    · replace hf := zif_f c4 hf
      refine x_aload_n dX6_beginCondition_7 rfl rfl ?_
      refine x_getS dX6_beginCondition_8 fl_X6_21 rfl rfl ?_
      refine x_aload_n dX6_beginCondition_11 rfl rfl ?_
      refine x_getI dX6_beginCondition_12 fl_X6_33 rfl rfl ?_
      refine x_iconst (v := 1) dX6_beginCondition_15 (by decide) ?_
      refine x_isub dX6_beginCondition_16 ?_
      refine x_aload_n dX6_beginCondition_17 rfl rfl ?_
      refine x_getI dX6_beginCondition_18 fl_X6_37 rfl rfl ?_
      obtain ⟨M1, hM1, hf⟩ := zbind hf
      refine x_ist dX6_beginCondition_21 rfl hM1 ?_
      exact x_vret rfl dX6_beginCondition_22 (zretV hf)
  · refine Ca.of (by decide +kernel) (Nat.le_of_ble_eq_true rfl) rfl ?_
    rw [fX6_beginCondition] at hf
    refine x_aload_n dX6_beginCondition_0 rfl rfl ?_
    refine x_getI dX6_beginCondition_1 fl_X6_33 rfl rfl ?_
    refine x_if_le (tgt := 22) dX6_beginCondition_4 (by decide) (fun c4 => ?_) (fun c4 => ?_)
    · replace hf := zif_t c4 hf
      exact x_vret rfl dX6_beginCondition_22 (zretV hf)
    · replace hf := zif_f c4 hf
      refine x_aload_n dX6_beginCondition_7 rfl rfl ?_
      refine x_getS dX6_beginCondition_8 fl_X6_21 rfl rfl ?_
      refine x_aload_n dX6_beginCondition_11 rfl rfl ?_
      refine x_getI dX6_beginCondition_12 fl_X6_33 rfl rfl ?_
      refine x_iconst (v := 1) dX6_beginCondition_15 (by decide) ?_
      refine x_isub dX6_beginCondition_16 ?_
      refine x_aload_n dX6_beginCondition_17 rfl rfl ?_
      refine x_getI dX6_beginCondition_18 fl_X6_37 rfl rfl ?_
      obtain ⟨M1, hM1, hf⟩ := zbind hf
      refine x_ist dX6_beginCondition_21 rfl hM1 ?_
      exact x_vret rfl dX6_beginCondition_22 (zretV hf)
theorem cc_X5_beginCondition {l : Launch} {G : zG}   {M : zMem} {M1 : zMem} (hf : fX5_beginCondition M = some M1) : Ca l G 1 mX5_beginCondition [.ref (G.2.2.1 19)] M none M1 := by
  refine Ca.of (by decide +kernel) (Nat.le_of_ble_eq_true rfl) rfl ?_
  rw [fX5_beginCondition] at hf
  refine x_aload_n dX5_beginCondition_0 rfl rfl ?_
  refine x_getR dX5_beginCondition_1 fl_X5_22 rfl rfl ?_
  obtain ⟨M2, hq1, hf⟩ := zbind hf
  obtain ⟨hdy4, hq1⟩ := zdyE hq1
  obtain ⟨cd4, hs4⟩ := zdySH hdy4
  refine x_invVv dX5_beginCondition_4 mk_X6_beginCondition ml_X5_146 (cc_X6_beginCondition hdy4 hq1) hs4 rfl rfl (Nat.le_of_ble_eq_true rfl) rfl (Nat.le_of_ble_eq_true rfl) rfl ?_
  refine x_aload_n dX5_beginCondition_7 rfl rfl ?_
  refine x_iconst (v := 0) dX5_beginCondition_8 (by decide) ?_
  obtain ⟨M3, eM3, hf⟩ := zletE hf
  refine x_putI dX5_beginCondition_9 fp_X5_80 rfl rfl rfl rfl eM3 ?_
  refine x_aload_n dX5_beginCondition_12 rfl rfl ?_
  refine x_iconst (v := 1) dX5_beginCondition_13 (by decide) ?_
  obtain ⟨M4, eM4, hf⟩ := zletE hf
  refine x_putI dX5_beginCondition_14 fp_X5_74 rfl rfl rfl rfl eM4 ?_
  refine x_aload_n dX5_beginCondition_17 rfl rfl ?_
  refine x_iconst (v := 3) dX5_beginCondition_18 (by decide) ?_
  obtain ⟨M5, eM5, hf⟩ := zletE hf
  refine x_putI dX5_beginCondition_19 fp_X5_44 rfl rfl rfl rfl eM5 ?_
  exact x_vret rfl dX5_beginCondition_22 (zretV hf)
theorem cc_X6_end {l : Launch} {G : zG} {r0 : Nat} (hr0 : r0 = 3 ∨ r0 = 11) {M : zMem} {M1 : zMem} (hf : fX6_end r0 M = some M1) : Ca l G 0 mX6_end [.ref (G.2.2.1 r0)] M none M1 := by
  rcases hr0 with rfl | rfl
  · refine Ca.of (by decide +kernel) (Nat.le_of_ble_eq_true rfl) rfl ?_
    rw [fX6_end] at hf
    refine x_aload_n dX6_end_0 rfl rfl ?_
    refine x_getI dX6_end_1 fl_X6_33 rfl rfl ?_
    refine x_if_le (tgt := 22) dX6_end_4 (by decide) (fun c4 => ?_) (fun c4 => ?_)
    · replace hf := zif_t c4 hf
      exact x_vret rfl dX6_end_22 (zretV hf)
    · replace hf := zif_f c4 hf
      refine x_aload_n dX6_end_7 rfl rfl ?_
      refine x_getS dX6_end_8 fl_X6_24 rfl rfl ?_
      refine x_aload_n dX6_end_11 rfl rfl ?_
      refine x_getI dX6_end_12 fl_X6_33 rfl rfl ?_
      refine x_iconst (v := 1) dX6_end_15 (by decide) ?_
      refine x_isub dX6_end_16 ?_
      refine x_aload_n dX6_end_17 rfl rfl ?_
      refine x_getI dX6_end_18 fl_X6_37 rfl rfl ?_
      obtain ⟨M1, hM1, hf⟩ := zbind hf
      refine x_ist dX6_end_21 rfl hM1 ?_
      exact x_vret rfl dX6_end_22 (zretV hf)
  · refine Ca.of (by decide +kernel) (Nat.le_of_ble_eq_true rfl) rfl ?_
    rw [fX6_end] at hf
    refine x_aload_n dX6_end_0 rfl rfl ?_
    refine x_getI dX6_end_1 fl_X6_33 rfl rfl ?_
    refine x_if_le (tgt := 22) dX6_end_4 (by decide) (fun c4 => ?_) (fun c4 => ?_)
    · replace hf := zif_t c4 hf
      exact x_vret rfl dX6_end_22 (zretV hf)
    · replace hf := zif_f c4 hf
      refine x_aload_n dX6_end_7 rfl rfl ?_
      refine x_getS dX6_end_8 fl_X6_24 rfl rfl ?_
      refine x_aload_n dX6_end_11 rfl rfl ?_
      refine x_getI dX6_end_12 fl_X6_33 rfl rfl ?_
      refine x_iconst (v := 1) dX6_end_15 (by decide) ?_
      refine x_isub dX6_end_16 ?_
      refine x_aload_n dX6_end_17 rfl rfl ?_
      refine x_getI dX6_end_18 fl_X6_37 rfl rfl ?_
      obtain ⟨M1, hM1, hf⟩ := zbind hf
      refine x_ist dX6_end_21 rfl hM1 ?_
      exact x_vret rfl dX6_end_22 (zretV hf)
theorem cc_X5_endRule {l : Launch} {G : zG}   {M : zMem} {M1 : zMem} (hf : fX5_endRule M = some M1) : Ca l G 1 mX5_endRule [.ref (G.2.2.1 19)] M none M1 := by
  refine Ca.of (by decide +kernel) (Nat.le_of_ble_eq_true rfl) rfl ?_
  rw [fX5_endRule] at hf
  refine x_aload_n dX5_endRule_0 rfl rfl ?_
  refine x_getR dX5_endRule_1 fl_X5_22 rfl rfl ?_
  obtain ⟨M2, hq1, hf⟩ := zbind hf
  obtain ⟨hdy4, hq1⟩ := zdyE hq1
  obtain ⟨cd4, hs4⟩ := zdySH hdy4
  refine x_invVv dX5_endRule_4 mk_X6_end ml_X5_153 (cc_X6_end hdy4 hq1) hs4 rfl rfl (Nat.le_of_ble_eq_true rfl) rfl (Nat.le_of_ble_eq_true rfl) rfl ?_
  refine x_aload_n dX5_endRule_7 rfl rfl ?_
  refine x_iconst (v := 0) dX5_endRule_8 (by decide) ?_
  obtain ⟨M3, eM3, hf⟩ := zletE hf
  refine x_putI dX5_endRule_9 fp_X5_44 rfl rfl rfl rfl eM3 ?_
  exact x_vret rfl dX5_endRule_12 (zretV hf)
theorem cc_X6_write {l : Launch} {G : zG} {r0 : Nat} {x1 : Int32} {x2 : Int32} (hr0 : r0 = 3 ∨ r0 = 11) {M : zMem} {M1 : zMem} (hf : fX6_write r0 x1 x2 M = some M1) : Ca l G 0 mX6_write [.ref (G.2.2.1 r0), .int x1, .int x2] M none M1 := by
  rcases hr0 with rfl | rfl
  · refine Ca.of (by decide +kernel) (Nat.le_of_ble_eq_true rfl) rfl ?_
    rw [fX6_write] at hf
    refine x_aload_n dX6_write_0 rfl rfl ?_
    refine x_getI dX6_write_1 fl_X6_37 rfl rfl ?_
    refine x_sipush (v := 400) dX6_write_4 (by decide) ?_
    refine x_icmp_ge (tgt := 34) dX6_write_7 (by decide) (fun c7 => ?_) (fun c7 => ?_)
    · replace hf := zif_t c7 hf
      exact x_vret rfl dX6_write_34 (zretV hf)
    · replace hf := zif_f c7 hf
      refine x_aload_n dX6_write_10 rfl rfl ?_
      refine x_getS dX6_write_11 fl_X6_27 rfl rfl ?_
      refine x_aload_n dX6_write_14 rfl rfl ?_
      refine x_getI dX6_write_15 fl_X6_37 rfl rfl ?_
      refine x_iload_n dX6_write_18 rfl rfl ?_
      refine x_iconst (v := 5) dX6_write_19 (by decide) ?_
      refine x_ishl dX6_write_20 ?_
      refine x_iload_n dX6_write_21 rfl rfl ?_
      refine x_ior dX6_write_22 ?_
      obtain ⟨M1, hM1, hf⟩ := zbind hf
      refine x_ist dX6_write_23 rfl hM1 ?_
      refine x_aload_n dX6_write_24 rfl rfl ?_
      refine x_dup dX6_write_25 rfl ?_
      refine x_getI dX6_write_26 fl_X6_37 rfl rfl ?_
      refine x_iconst (v := 1) dX6_write_29 (by decide) ?_
      refine x_iadd dX6_write_30 ?_
      obtain ⟨M2, eM2, hf⟩ := zletE hf
      refine x_putI dX6_write_31 fp_X6_37 rfl rfl rfl rfl eM2 ?_
      exact x_vret rfl dX6_write_34 (zretV hf)
  · refine Ca.of (by decide +kernel) (Nat.le_of_ble_eq_true rfl) rfl ?_
    rw [fX6_write] at hf
    refine x_aload_n dX6_write_0 rfl rfl ?_
    refine x_getI dX6_write_1 fl_X6_37 rfl rfl ?_
    refine x_sipush (v := 400) dX6_write_4 (by decide) ?_
    refine x_icmp_ge (tgt := 34) dX6_write_7 (by decide) (fun c7 => ?_) (fun c7 => ?_)
    · replace hf := zif_t c7 hf
      exact x_vret rfl dX6_write_34 (zretV hf)
    · replace hf := zif_f c7 hf
      refine x_aload_n dX6_write_10 rfl rfl ?_
      refine x_getS dX6_write_11 fl_X6_27 rfl rfl ?_
      refine x_aload_n dX6_write_14 rfl rfl ?_
      refine x_getI dX6_write_15 fl_X6_37 rfl rfl ?_
      refine x_iload_n dX6_write_18 rfl rfl ?_
      refine x_iconst (v := 5) dX6_write_19 (by decide) ?_
      refine x_ishl dX6_write_20 ?_
      refine x_iload_n dX6_write_21 rfl rfl ?_
      refine x_ior dX6_write_22 ?_
      obtain ⟨M1, hM1, hf⟩ := zbind hf
      refine x_ist dX6_write_23 rfl hM1 ?_
      refine x_aload_n dX6_write_24 rfl rfl ?_
      refine x_dup dX6_write_25 rfl ?_
      refine x_getI dX6_write_26 fl_X6_37 rfl rfl ?_
      refine x_iconst (v := 1) dX6_write_29 (by decide) ?_
      refine x_iadd dX6_write_30 ?_
      obtain ⟨M2, eM2, hf⟩ := zletE hf
      refine x_putI dX6_write_31 fp_X6_37 rfl rfl rfl rfl eM2 ?_
      exact x_vret rfl dX6_write_34 (zretV hf)
theorem cc_X5_writeOperators_L7 {l : Launch} {G : zG} {N : Nat} : ∀ {n : Nat} {x1 : Int32} {x2 : Int32} {M : zMem} {M1 : zMem}, fX5_writeOperators_L7 N n x1 x2 M = some M1 → Ex l G 1 mX5_writeOperators 7 [(0, .ref (G.2.2.1 19)), (1, .int x1), (2, .int x2)] [] M (zqV M1) := by
  intro n
  induction n with
  | zero => intro x1 x2 M M1 hf; cases hf
  | succ n ih =>
    intro x1 x2 M M1 hf
    rw [fX5_writeOperators_L7] at hf
    refine x_iload_n dX5_writeOperators_7 rfl rfl ?_
    refine x_if_lt (tgt := 49) dX5_writeOperators_8 (by decide) (fun c8 => ?_) (fun c8 => ?_)
    · replace hf := zif_t c8 hf
      exact x_vret rfl dX5_writeOperators_49 (zretV hf)
    · replace hf := zif_f c8 hf
      refine x_aload_n dX5_writeOperators_11 rfl rfl ?_
      refine x_getS (r := 21) dX5_writeOperators_12 fl_X5_18 rfl rfl ?_
      refine x_iload_n dX5_writeOperators_15 rfl rfl ?_
      obtain ⟨v2, hv2, hf⟩ := zbind hf
      refine x_ild dX5_writeOperators_16 rfl hv2 ?_
      obtain ⟨r5, M4, hq3, hf⟩ := zb2E hf
      refine x_invSi dX5_writeOperators_17 mk_X5_rankOf ml_X5_128 (cc_X5_rankOf hq3) (Nat.le_of_ble_eq_true rfl) rfl (Nat.le_of_ble_eq_true rfl) rfl ?_
      refine x_iload_n dX5_writeOperators_20 rfl rfl ?_
      refine x_icmp_lt (tgt := 49) dX5_writeOperators_21 (by decide) (fun c21 => ?_) (fun c21 => ?_)
      · replace hf := zif_t c21 hf
        exact x_vret rfl dX5_writeOperators_49 (zretV hf)
      · replace hf := zif_f c21 hf
        refine x_aload_n dX5_writeOperators_24 rfl rfl ?_
        refine x_getR dX5_writeOperators_25 fl_X5_22 rfl rfl ?_
        refine x_aload_n dX5_writeOperators_28 rfl rfl ?_
        refine x_getS (r := 21) dX5_writeOperators_29 fl_X5_18 rfl rfl ?_
        refine x_iload_n dX5_writeOperators_32 rfl rfl ?_
        obtain ⟨v6, hv6, hf⟩ := zbind hf
        refine x_ild dX5_writeOperators_33 rfl hv6 ?_
        refine x_iconst (v := 0) dX5_writeOperators_34 (by decide) ?_
        obtain ⟨M8, hq7, hf⟩ := zbind hf
        obtain ⟨hdy35, hq7⟩ := zdyE hq7
        obtain ⟨cd35, hs35⟩ := zdySH hdy35
        refine x_invVv dX5_writeOperators_35 mk_X6_write ml_X5_118 (cc_X6_write hdy35 hq7) hs35 rfl rfl (Nat.le_of_ble_eq_true rfl) rfl (Nat.le_of_ble_eq_true rfl) rfl ?_
        refine x_aload_n dX5_writeOperators_38 rfl rfl ?_
        refine x_iload_n dX5_writeOperators_39 rfl rfl ?_
        obtain ⟨M9, eM9, hf⟩ := zletE hf
        refine x_putI dX5_writeOperators_40 fp_X5_68 rfl rfl rfl rfl eM9 ?_
        obtain ⟨x2_10, ex2_10, hf⟩ := zletE hf
        refine x_iinc (c0 := -1) dX5_writeOperators_43 rfl (Nat.le_of_ble_eq_true rfl) (by decide) ex2_10 ?_
        refine x_goto (tgt := 7) dX5_writeOperators_46 (by decide) ?_
        exact Ex.sb (ih hf) ⟨rfl, rfl, rfl, trivial⟩
theorem cc_X5_writeOperators {l : Launch} {G : zG} {N : Nat} {x1 : Int32}  {M : zMem} {M1 : zMem} (hf : fX5_writeOperators N x1 M = some M1) : Ca l G 1 mX5_writeOperators [.ref (G.2.2.1 19), .int x1] M none M1 := by
  refine Ca.of (by decide +kernel) (Nat.le_of_ble_eq_true rfl) rfl ?_
  rw [fX5_writeOperators] at hf
  refine x_aload_n dX5_writeOperators_0 rfl rfl ?_
  refine x_getI dX5_writeOperators_1 fl_X5_68 rfl rfl ?_
  refine x_iconst (v := 1) dX5_writeOperators_4 (by decide) ?_
  refine x_isub dX5_writeOperators_5 ?_
  obtain ⟨x2_1, ex2_1, hf⟩ := zletE hf
  refine x_istore_n dX5_writeOperators_6 rfl (Nat.le_of_ble_eq_true rfl) ex2_1 ?_
  exact Ex.sb (cc_X5_writeOperators_L7  hf) ⟨rfl, rfl, rfl, trivial⟩
theorem cc_X5_takeBehindFirst_L14 {l : Launch} {G : zG} {N : Nat} {x1 : Int32} {M : zMem} {r : Int32} {M1 : zMem} (hf : fX5_takeBehindFirst_L14 N x1 M = some (r, M1)) : Ex l G 2 mX5_takeBehindFirst 14 [(0, .ref (G.2.2.1 19)), (1, .int x1)] [] M (zqI r M1) := by
  rw [fX5_takeBehindFirst_L14] at hf
  refine x_aload_n dX5_takeBehindFirst_14 rfl rfl ?_
  refine x_iconst (v := 1) dX5_takeBehindFirst_15 (by decide) ?_
  obtain ⟨M2, hq1, hf⟩ := zbind hf
  refine x_invVv dX5_takeBehindFirst_16 mk_X5_writeOperators ml_X5_131 (cc_X5_writeOperators hq1) rfl rfl rfl (Nat.le_of_ble_eq_true rfl) rfl (Nat.le_of_ble_eq_true rfl) rfl ?_
  refine x_iload_n dX5_takeBehindFirst_19 rfl rfl ?_
  refine x_bipush (v := 8) dX5_takeBehindFirst_20 (by decide) ?_
  refine x_icmp_ne (tgt := 32) dX5_takeBehindFirst_22 (by decide) (fun c22 => ?_) (fun c22 => ?_)
  · replace hf := zif_f c22 hf
    refine x_aload_n dX5_takeBehindFirst_32 rfl rfl ?_
    refine x_getR dX5_takeBehindFirst_33 fl_X5_22 rfl rfl ?_
    obtain ⟨M4, hq3, hf⟩ := zbind hf
    obtain ⟨hdy36, hq3⟩ := zdyE hq3
    obtain ⟨cd36, hs36⟩ := zdySH hdy36
    refine x_invVv dX5_takeBehindFirst_36 mk_X6_beginCondition ml_X5_146 (cc_X6_beginCondition hdy36 hq3) hs36 rfl rfl (Nat.le_of_ble_eq_true rfl) rfl (Nat.le_of_ble_eq_true rfl) rfl ?_
    refine x_aload_n dX5_takeBehindFirst_39 rfl rfl ?_
    obtain ⟨M6, hq5, hf⟩ := zbind hf
    refine x_invVv dX5_takeBehindFirst_40 mk_X5_endRule ml_X5_147 (cc_X5_endRule hq5) rfl rfl rfl (Nat.le_of_ble_eq_true rfl) rfl (Nat.le_of_ble_eq_true rfl) rfl ?_
    refine x_iconst (v := 0) dX5_takeBehindFirst_43 (by decide) ?_
    exact x_iret rfl dX5_takeBehindFirst_44 (zretI hf)
  · replace hf := zif_t c22 hf
    refine x_aload_n dX5_takeBehindFirst_25 rfl rfl ?_
    obtain ⟨M8, hq7, hf⟩ := zbind hf
    refine x_invVv dX5_takeBehindFirst_26 mk_X5_beginCondition ml_X5_115 (cc_X5_beginCondition hq7) rfl rfl rfl (Nat.le_of_ble_eq_true rfl) rfl (Nat.le_of_ble_eq_true rfl) rfl ?_
    refine x_goto (tgt := 43) dX5_takeBehindFirst_29 (by decide) ?_
    refine x_iconst (v := 0) dX5_takeBehindFirst_43 (by decide) ?_
    exact x_iret rfl dX5_takeBehindFirst_44 (zretI hf)
theorem cc_X5_takeBehindFirst {l : Launch} {G : zG} {N : Nat} {x1 : Int32}  {M : zMem} {r : Int32} {M1 : zMem} (hf : fX5_takeBehindFirst N x1 M = some (r, M1)) : Ca l G 2 mX5_takeBehindFirst [.ref (G.2.2.1 19), .int x1] M (some (.int r)) M1 := by
  refine Ca.of (by decide +kernel) (Nat.le_of_ble_eq_true rfl) rfl ?_
  rw [fX5_takeBehindFirst] at hf
  refine x_iload_n dX5_takeBehindFirst_0 rfl rfl ?_
  refine x_bipush (v := 8) dX5_takeBehindFirst_1 (by decide) ?_
  refine x_icmp_eq (tgt := 14) dX5_takeBehindFirst_3 (by decide) (fun c3 => ?_) (fun c3 => ?_)
  · replace hf := zif_t c3 hf
    exact Ex.sb (cc_X5_takeBehindFirst_L14  hf) ⟨rfl, rfl, trivial⟩
  · replace hf := zif_f c3 hf
    refine x_iload_n dX5_takeBehindFirst_6 rfl rfl ?_
    refine x_bipush (v := 10) dX5_takeBehindFirst_7 (by decide) ?_
    refine x_icmp_eq (tgt := 14) dX5_takeBehindFirst_9 (by decide) (fun c9 => ?_) (fun c9 => ?_)
    · replace hf := zif_t c9 hf
      exact Ex.sb (cc_X5_takeBehindFirst_L14  hf) ⟨rfl, rfl, trivial⟩
    · replace hf := zif_f c9 hf
      refine x_iconst (v := 1) dX5_takeBehindFirst_12 (by decide) ?_
      exact x_iret rfl dX5_takeBehindFirst_13 (zretI hf)
theorem cc_X5_takeBehindRelation_L48 {l : Launch} {G : zG} {N : Nat} {x1 : Int32} {M : zMem} {r : Int32} {M1 : zMem} (hf : fX5_takeBehindRelation_L48 N x1 M = some (r, M1)) : Ex l G 2 mX5_takeBehindRelation 48 [(0, .ref (G.2.2.1 19)), (1, .int x1)] [] M (zqI r M1) := by
  rw [fX5_takeBehindRelation_L48] at hf
  refine x_iload_n dX5_takeBehindRelation_48 rfl rfl ?_
  refine x_bipush (v := 9) dX5_takeBehindRelation_49 (by decide) ?_
  refine x_icmp_ne (tgt := 72) dX5_takeBehindRelation_51 (by decide) (fun c51 => ?_) (fun c51 => ?_)
  · replace hf := zif_f c51 hf
    refine x_aload_n dX5_takeBehindRelation_72 rfl rfl ?_
    obtain ⟨M8, hq7, hf⟩ := zbind hf
    refine x_invVv dX5_takeBehindRelation_73 mk_X5_endRule ml_X5_147 (cc_X5_endRule hq7) rfl rfl rfl (Nat.le_of_ble_eq_true rfl) rfl (Nat.le_of_ble_eq_true rfl) rfl ?_
    refine x_iconst (v := 0) dX5_takeBehindRelation_76 (by decide) ?_
    exact x_iret rfl dX5_takeBehindRelation_77 (zretI hf)
  · replace hf := zif_t c51 hf
    refine x_aload_n dX5_takeBehindRelation_54 rfl rfl ?_
    refine x_iconst (v := 1) dX5_takeBehindRelation_55 (by decide) ?_
    obtain ⟨M9, eM9, hf⟩ := zletE hf
    refine x_putI dX5_takeBehindRelation_56 fp_X5_80 rfl rfl rfl rfl eM9 ?_
    refine x_aload_n dX5_takeBehindRelation_59 rfl rfl ?_
    refine x_iconst (v := 1) dX5_takeBehindRelation_60 (by decide) ?_
    obtain ⟨M10, eM10, hf⟩ := zletE hf
    refine x_putI dX5_takeBehindRelation_61 fp_X5_74 rfl rfl rfl rfl eM10 ?_
    refine x_aload_n dX5_takeBehindRelation_64 rfl rfl ?_
    refine x_iconst (v := 3) dX5_takeBehindRelation_65 (by decide) ?_
    obtain ⟨M11, eM11, hf⟩ := zletE hf
    refine x_putI dX5_takeBehindRelation_66 fp_X5_44 rfl rfl rfl rfl eM11 ?_
    refine x_goto (tgt := 76) dX5_takeBehindRelation_69 (by decide) ?_
    refine x_iconst (v := 0) dX5_takeBehindRelation_76 (by decide) ?_
    exact x_iret rfl dX5_takeBehindRelation_77 (zretI hf)
theorem cc_X5_takeBehindRelation_L14 {l : Launch} {G : zG} {N : Nat} {x1 : Int32} {M : zMem} {r : Int32} {M1 : zMem} (hf : fX5_takeBehindRelation_L14 N x1 M = some (r, M1)) : Ex l G 2 mX5_takeBehindRelation 14 [(0, .ref (G.2.2.1 19)), (1, .int x1)] [] M (zqI r M1) := by
  rw [fX5_takeBehindRelation_L14] at hf
  refine x_aload_n dX5_takeBehindRelation_14 rfl rfl ?_
  refine x_iconst (v := 1) dX5_takeBehindRelation_15 (by decide) ?_
  obtain ⟨M2, hq1, hf⟩ := zbind hf
  refine x_invVv dX5_takeBehindRelation_16 mk_X5_writeOperators ml_X5_131 (cc_X5_writeOperators hq1) rfl rfl rfl (Nat.le_of_ble_eq_true rfl) rfl (Nat.le_of_ble_eq_true rfl) rfl ?_
  refine x_aload_n dX5_takeBehindRelation_19 rfl rfl ?_
  refine x_getR dX5_takeBehindRelation_20 fl_X5_22 rfl rfl ?_
  refine x_aload_n dX5_takeBehindRelation_23 rfl rfl ?_
  refine x_getI dX5_takeBehindRelation_24 fl_X5_77 rfl rfl ?_
  refine x_iconst (v := 0) dX5_takeBehindRelation_27 (by decide) ?_
  obtain ⟨M4, hq3, hf⟩ := zbind hf
  obtain ⟨hdy28, hq3⟩ := zdyE hq3
  obtain ⟨cd28, hs28⟩ := zdySH hdy28
  refine x_invVv dX5_takeBehindRelation_28 mk_X6_write ml_X5_118 (cc_X6_write hdy28 hq3) hs28 rfl rfl (Nat.le_of_ble_eq_true rfl) rfl (Nat.le_of_ble_eq_true rfl) rfl ?_
  refine x_aload_n dX5_takeBehindRelation_31 rfl rfl ?_
  refine x_getI dX5_takeBehindRelation_32 fl_X5_80 rfl rfl ?_
  refine x_if_eq (tgt := 48) dX5_takeBehindRelation_35 (by decide) (fun c35 => ?_) (fun c35 => ?_)
  · replace hf := zif_t c35 hf
    exact Ex.sb (cc_X5_takeBehindRelation_L48  hf) ⟨rfl, rfl, trivial⟩
  · replace hf := zif_f c35 hf
    refine x_aload_n dX5_takeBehindRelation_38 rfl rfl ?_
    refine x_getR dX5_takeBehindRelation_39 fl_X5_22 rfl rfl ?_
    refine x_bipush (v := 9) dX5_takeBehindRelation_42 (by decide) ?_
    refine x_iconst (v := 0) dX5_takeBehindRelation_44 (by decide) ?_
    obtain ⟨M6, hq5, hf⟩ := zbind hf
    obtain ⟨hdy45, hq5⟩ := zdyE hq5
    obtain ⟨cd45, hs45⟩ := zdySH hdy45
    refine x_invVv dX5_takeBehindRelation_45 mk_X6_write ml_X5_118 (cc_X6_write hdy45 hq5) hs45 rfl rfl (Nat.le_of_ble_eq_true rfl) rfl (Nat.le_of_ble_eq_true rfl) rfl ?_
    exact Ex.sb (cc_X5_takeBehindRelation_L48  hf) ⟨rfl, rfl, trivial⟩
theorem cc_X5_takeBehindRelation {l : Launch} {G : zG} {N : Nat} {x1 : Int32}  {M : zMem} {r : Int32} {M1 : zMem} (hf : fX5_takeBehindRelation N x1 M = some (r, M1)) : Ca l G 2 mX5_takeBehindRelation [.ref (G.2.2.1 19), .int x1] M (some (.int r)) M1 := by
  refine Ca.of (by decide +kernel) (Nat.le_of_ble_eq_true rfl) rfl ?_
  rw [fX5_takeBehindRelation] at hf
  refine x_iload_n dX5_takeBehindRelation_0 rfl rfl ?_
  refine x_bipush (v := 9) dX5_takeBehindRelation_1 (by decide) ?_
  refine x_icmp_eq (tgt := 14) dX5_takeBehindRelation_3 (by decide) (fun c3 => ?_) (fun c3 => ?_)
  · replace hf := zif_t c3 hf
    exact Ex.sb (cc_X5_takeBehindRelation_L14  hf) ⟨rfl, rfl, trivial⟩
  · replace hf := zif_f c3 hf
    refine x_iload_n dX5_takeBehindRelation_6 rfl rfl ?_
    refine x_bipush (v := 10) dX5_takeBehindRelation_7 (by decide) ?_
    refine x_icmp_eq (tgt := 14) dX5_takeBehindRelation_9 (by decide) (fun c9 => ?_) (fun c9 => ?_)
    · replace hf := zif_t c9 hf
      exact Ex.sb (cc_X5_takeBehindRelation_L14  hf) ⟨rfl, rfl, trivial⟩
    · replace hf := zif_f c9 hf
      refine x_iconst (v := 1) dX5_takeBehindRelation_12 (by decide) ?_
      exact x_iret rfl dX5_takeBehindRelation_13 (zretI hf)
theorem cc_X5_takeClose_L30 {l : Launch} {G : zG} {N : Nat}  {M : zMem} {r : Int32} {M1 : zMem} (hf : fX5_takeClose_L30 N M = some (r, M1)) : Ex l G 2 mX5_takeClose 30 [(0, .ref (G.2.2.1 19))] [] M (zqI r M1) := by
  rw [fX5_takeClose_L30] at hf
  refine x_aload_n dX5_takeClose_30 rfl rfl ?_
  refine x_dup dX5_takeClose_31 rfl ?_
  refine x_getI dX5_takeClose_32 fl_X5_71 rfl rfl ?_
  refine x_iconst (v := 1) dX5_takeClose_35 (by decide) ?_
  refine x_isub dX5_takeClose_36 ?_
  obtain ⟨M4, eM4, hf⟩ := zletE hf
  refine x_putI dX5_takeClose_37 fp_X5_71 rfl rfl rfl rfl eM4 ?_
  refine x_iconst (v := 0) dX5_takeClose_40 (by decide) ?_
  exact x_iret rfl dX5_takeClose_41 (zretI hf)
theorem cc_X5_takeClose {l : Launch} {G : zG} {N : Nat} {x1 : Int32}  {M : zMem} {r : Int32} {M1 : zMem} (hf : fX5_takeClose N x1 M = some (r, M1)) : Ca l G 2 mX5_takeClose [.ref (G.2.2.1 19), .int x1] M (some (.int r)) M1 := by
  refine Ca.of (by decide +kernel) (Nat.le_of_ble_eq_true rfl) rfl ?_
  rw [fX5_takeClose] at hf
  refine x_iload_n dX5_takeClose_0 rfl rfl ?_
  refine x_bipush (v := 12) dX5_takeClose_1 (by decide) ?_
  refine x_icmp_eq (tgt := 8) dX5_takeClose_3 (by decide) (fun c3 => ?_) (fun c3 => ?_)
  · replace hf := zif_t c3 hf
    refine x_aload_n dX5_takeClose_8 rfl rfl ?_
    refine x_iconst (v := 1) dX5_takeClose_9 (by decide) ?_
    obtain ⟨M2, hq1, hf⟩ := zbind hf
    refine x_invVv dX5_takeClose_10 mk_X5_writeOperators ml_X5_131 (cc_X5_writeOperators hq1) rfl rfl rfl (Nat.le_of_ble_eq_true rfl) rfl (Nat.le_of_ble_eq_true rfl) rfl ?_
    refine x_aload_n dX5_takeClose_13 rfl rfl ?_
    refine x_getI dX5_takeClose_14 fl_X5_68 rfl rfl ?_
    refine x_if_le (tgt := 30) dX5_takeClose_17 (by decide) (fun c17 => ?_) (fun c17 => ?_)
    · replace hf := zif_t c17 hf
      exact Ex.sb (cc_X5_takeClose_L30  hf) ⟨rfl, trivial⟩
    · replace hf := zif_f c17 hf
      refine x_aload_n dX5_takeClose_20 rfl rfl ?_
      refine x_dup dX5_takeClose_21 rfl ?_
      refine x_getI dX5_takeClose_22 fl_X5_68 rfl rfl ?_
      refine x_iconst (v := 1) dX5_takeClose_25 (by decide) ?_
      refine x_isub dX5_takeClose_26 ?_
      obtain ⟨M3, eM3, hf⟩ := zletE hf
      refine x_putI dX5_takeClose_27 fp_X5_68 rfl rfl rfl rfl eM3 ?_
      exact Ex.sb (cc_X5_takeClose_L30  hf) ⟨rfl, trivial⟩
  · replace hf := zif_f c3 hf
    refine x_iconst (v := 1) dX5_takeClose_6 (by decide) ?_
    exact x_iret rfl dX5_takeClose_7 (zretI hf)
theorem cc_X11_isWithin {l : Launch} {G : zG} {x0 : Int32} {x1 : Int32} {x2 : Int32}  {M : zMem} {r : Int32} {M1 : zMem} (hf : fX11_isWithin x0 x1 x2 M = some (r, M1)) : Ca l G 0 mX11_isWithin [.int x0, .int x1, .int x2] M (some (.int r)) M1 := by
  refine Ca.of (by decide +kernel) (Nat.le_of_ble_eq_true rfl) rfl ?_
  rw [fX11_isWithin] at hf
  refine x_iload_n dX11_isWithin_0 rfl rfl ?_
  refine x_iload_n dX11_isWithin_1 rfl rfl ?_
  refine x_icmp_lt (tgt := 14) dX11_isWithin_2 (by decide) (fun c2 => ?_) (fun c2 => ?_)
  · replace hf := zif_t c2 hf
    refine x_iconst (v := 0) dX11_isWithin_14 (by decide) ?_
    exact x_zret rfl rfl dX11_isWithin_15 (zretI hf)
  · replace hf := zif_f c2 hf
    refine x_iload_n dX11_isWithin_5 rfl rfl ?_
    refine x_iload_n dX11_isWithin_6 rfl rfl ?_
    refine x_icmp_gt (tgt := 14) dX11_isWithin_7 (by decide) (fun c7 => ?_) (fun c7 => ?_)
    · replace hf := zif_t c7 hf
      refine x_iconst (v := 0) dX11_isWithin_14 (by decide) ?_
      exact x_zret rfl rfl dX11_isWithin_15 (zretI hf)
    · replace hf := zif_f c7 hf
      refine x_iconst (v := 1) dX11_isWithin_10 (by decide) ?_
      refine x_goto (tgt := 15) dX11_isWithin_11 (by decide) ?_
      exact x_zret rfl rfl dX11_isWithin_15 (zretI hf)
theorem cc_X5_isRelation {l : Launch} {G : zG} {x0 : Int32}  {M : zMem} {r : Int32} {M1 : zMem} (hf : fX5_isRelation x0 M = some (r, M1)) : Ca l G 1 mX5_isRelation [.int x0] M (some (.int r)) M1 := by
  refine Ca.of (by decide +kernel) (Nat.le_of_ble_eq_true rfl) rfl ?_
  rw [fX5_isRelation] at hf
  refine x_iload_n dX5_isRelation_0 rfl rfl ?_
  refine x_bipush (v := 16) dX5_isRelation_1 (by decide) ?_
  refine x_bipush (v := 19) dX5_isRelation_3 (by decide) ?_
  obtain ⟨r3, M2, hq1, hf⟩ := zb2E hf
  refine x_invNi (host := "FriendLine") dX5_isRelation_5 mk_X11_isWithin (List.mem_of_getElem? (i := 0) rfl) (cc_X11_isWithin hq1) (Nat.le_of_ble_eq_true rfl) rfl (Nat.le_of_ble_eq_true rfl) rfl ?_
  obtain ⟨hb8, hf⟩ := zgbE hf
  exact x_zret rfl (znb hb8) dX5_isRelation_8 (zretI hf)
theorem cc_X5_takeRelation {l : Launch} {G : zG} {N : Nat} {x1 : Int32}  {M : zMem} {r : Int32} {M1 : zMem} (hf : fX5_takeRelation N x1 M = some (r, M1)) : Ca l G 2 mX5_takeRelation [.ref (G.2.2.1 19), .int x1] M (some (.int r)) M1 := by
  refine Ca.of (by decide +kernel) (Nat.le_of_ble_eq_true rfl) rfl ?_
  rw [fX5_takeRelation] at hf
  refine x_iload_n dX5_takeRelation_0 rfl rfl ?_
  obtain ⟨r3, M2, hq1, hf⟩ := zb2E hf
  refine x_invSi dX5_takeRelation_1 mk_X5_isRelation ml_X5_150 (cc_X5_isRelation hq1) (Nat.le_of_ble_eq_true rfl) rfl (Nat.le_of_ble_eq_true rfl) rfl ?_
  refine x_if_ne (tgt := 9) dX5_takeRelation_4 (by decide) (fun c4 => ?_) (fun c4 => ?_)
  · replace hf := zif_f c4 hf
    refine x_aload_n dX5_takeRelation_9 rfl rfl ?_
    refine x_iconst (v := 1) dX5_takeRelation_10 (by decide) ?_
    obtain ⟨M5, hq4, hf⟩ := zbind hf
    refine x_invVv dX5_takeRelation_11 mk_X5_writeOperators ml_X5_131 (cc_X5_writeOperators hq4) rfl rfl rfl (Nat.le_of_ble_eq_true rfl) rfl (Nat.le_of_ble_eq_true rfl) rfl ?_
    refine x_aload_n dX5_takeRelation_14 rfl rfl ?_
    refine x_iload_n dX5_takeRelation_15 rfl rfl ?_
    obtain ⟨M6, eM6, hf⟩ := zletE hf
    refine x_putI dX5_takeRelation_16 fp_X5_77 rfl rfl rfl rfl eM6 ?_
    refine x_aload_n dX5_takeRelation_19 rfl rfl ?_
    refine x_iconst (v := 2) dX5_takeRelation_20 (by decide) ?_
    obtain ⟨M7, eM7, hf⟩ := zletE hf
    refine x_putI dX5_takeRelation_21 fp_X5_74 rfl rfl rfl rfl eM7 ?_
    refine x_aload_n dX5_takeRelation_24 rfl rfl ?_
    refine x_iconst (v := 3) dX5_takeRelation_25 (by decide) ?_
    obtain ⟨M8, eM8, hf⟩ := zletE hf
    refine x_putI dX5_takeRelation_26 fp_X5_44 rfl rfl rfl rfl eM8 ?_
    refine x_iconst (v := 0) dX5_takeRelation_29 (by decide) ?_
    exact x_iret rfl dX5_takeRelation_30 (zretI hf)
  · replace hf := zif_t c4 hf
    refine x_iconst (v := 1) dX5_takeRelation_7 (by decide) ?_
    exact x_iret rfl dX5_takeRelation_8 (zretI hf)
theorem cc_X5_takeBehindOperand {l : Launch} {G : zG} {N : Nat} {x1 : Int32}  {M : zMem} {r : Int32} {M1 : zMem} (hf : fX5_takeBehindOperand N x1 M = some (r, M1)) : Ca l G 3 mX5_takeBehindOperand [.ref (G.2.2.1 19), .int x1] M (some (.int r)) M1 := by
  refine Ca.of (by decide +kernel) (Nat.le_of_ble_eq_true rfl) rfl ?_
  rw [fX5_takeBehindOperand] at hf
  refine x_iload_n dX5_takeBehindOperand_0 rfl rfl ?_
  obtain ⟨r3, M2, hq1, hf⟩ := zb2E hf
  refine x_invSi dX5_takeBehindOperand_1 mk_X5_isArithmetic ml_X5_125 (cc_X5_isArithmetic hq1) (Nat.le_of_ble_eq_true rfl) rfl (Nat.le_of_ble_eq_true rfl) rfl ?_
  refine x_if_eq (tgt := 27) dX5_takeBehindOperand_4 (by decide) (fun c4 => ?_) (fun c4 => ?_)
  · replace hf := zif_t c4 hf
    refine x_aload_n dX5_takeBehindOperand_27 rfl rfl ?_
    refine x_getI dX5_takeBehindOperand_28 fl_X5_71 rfl rfl ?_
    refine x_if_le (tgt := 40) dX5_takeBehindOperand_31 (by decide) (fun c31 => ?_) (fun c31 => ?_)
    · replace hf := zif_t c31 hf
      refine x_aload_n dX5_takeBehindOperand_40 rfl rfl ?_
      refine x_getI dX5_takeBehindOperand_41 fl_X5_74 rfl rfl ?_
      by_cases c44_0 : (M2.1 19 5) = (0 : Int32)
      · replace hf := zif_t c44_0 hf
        refine x_lookup (tgt := 72) (off := 28) dX5_takeBehindOperand_44 (by decide) (zlo c44_0 (by decide)) (by decide) ?_
        refine x_aload_n dX5_takeBehindOperand_72 rfl rfl ?_
        refine x_iload_n dX5_takeBehindOperand_73 rfl rfl ?_
        obtain ⟨r6, M5, hq4, hf⟩ := zb2E hf
        refine x_invVi dX5_takeBehindOperand_74 mk_X5_takeBehindFirst ml_X5_137 (cc_X5_takeBehindFirst hq4) rfl rfl rfl (Nat.le_of_ble_eq_true rfl) rfl (Nat.le_of_ble_eq_true rfl) rfl ?_
        exact x_iret rfl dX5_takeBehindOperand_77 (zretI hf)
      · replace hf := zif_f c44_0 hf
        by_cases c44_1 : (M2.1 19 5) = (1 : Int32)
        · replace hf := zif_t c44_1 hf
          refine x_lookup (tgt := 78) (off := 34) dX5_takeBehindOperand_44 (by decide) (zlo c44_1 (by decide)) (by decide) ?_
          refine x_aload_n dX5_takeBehindOperand_78 rfl rfl ?_
          refine x_iload_n dX5_takeBehindOperand_79 rfl rfl ?_
          obtain ⟨r9, M8, hq7, hf⟩ := zb2E hf
          refine x_invVi dX5_takeBehindOperand_80 mk_X5_takeRelation ml_X5_140 (cc_X5_takeRelation hq7) rfl rfl rfl (Nat.le_of_ble_eq_true rfl) rfl (Nat.le_of_ble_eq_true rfl) rfl ?_
          exact x_iret rfl dX5_takeBehindOperand_83 (zretI hf)
        · replace hf := zif_f c44_1 hf
          refine x_lookup (tgt := 84) (off := 40) dX5_takeBehindOperand_44 (by decide) (by (first | rw [lv_osw c44_0 (by decide)] | (show Op.lookupswitch.offset _ _ _ = _; rw [lv_osw c44_0 (by decide)])); (first | rw [lv_osw c44_1 (by decide)] | (show Op.lookupswitch.offset _ _ _ = _; rw [lv_osw c44_1 (by decide)])); rfl) (by decide) ?_
          refine x_aload_n dX5_takeBehindOperand_84 rfl rfl ?_
          refine x_iload_n dX5_takeBehindOperand_85 rfl rfl ?_
          obtain ⟨r12, M11, hq10, hf⟩ := zb2E hf
          refine x_invVi dX5_takeBehindOperand_86 mk_X5_takeBehindRelation ml_X5_143 (cc_X5_takeBehindRelation hq10) rfl rfl rfl (Nat.le_of_ble_eq_true rfl) rfl (Nat.le_of_ble_eq_true rfl) rfl ?_
          exact x_iret rfl dX5_takeBehindOperand_89 (zretI hf)
    · replace hf := zif_f c31 hf
      refine x_aload_n dX5_takeBehindOperand_34 rfl rfl ?_
      refine x_iload_n dX5_takeBehindOperand_35 rfl rfl ?_
      obtain ⟨r15, M14, hq13, hf⟩ := zb2E hf
      refine x_invVi dX5_takeBehindOperand_36 mk_X5_takeClose ml_X5_134 (cc_X5_takeClose hq13) rfl rfl rfl (Nat.le_of_ble_eq_true rfl) rfl (Nat.le_of_ble_eq_true rfl) rfl ?_
      exact x_iret rfl dX5_takeBehindOperand_39 (zretI hf)
  · replace hf := zif_f c4 hf
    refine x_aload_n dX5_takeBehindOperand_7 rfl rfl ?_
    refine x_iload_n dX5_takeBehindOperand_8 rfl rfl ?_
    obtain ⟨r18, M17, hq16, hf⟩ := zb2E hf
    refine x_invSi dX5_takeBehindOperand_9 mk_X5_rankOf ml_X5_128 (cc_X5_rankOf hq16) (Nat.le_of_ble_eq_true rfl) rfl (Nat.le_of_ble_eq_true rfl) rfl ?_
    obtain ⟨M20, hq19, hf⟩ := zbind hf
    refine x_invVv dX5_takeBehindOperand_12 mk_X5_writeOperators ml_X5_131 (cc_X5_writeOperators hq19) rfl rfl rfl (Nat.le_of_ble_eq_true rfl) rfl (Nat.le_of_ble_eq_true rfl) rfl ?_
    refine x_aload_n dX5_takeBehindOperand_15 rfl rfl ?_
    refine x_iload_n dX5_takeBehindOperand_16 rfl rfl ?_
    obtain ⟨M22, hq21, hf⟩ := zbind hf
    refine x_invVv dX5_takeBehindOperand_17 mk_X5_push ml_X5_122 (cc_X5_push hq21) rfl rfl rfl (Nat.le_of_ble_eq_true rfl) rfl (Nat.le_of_ble_eq_true rfl) rfl ?_
    refine x_aload_n dX5_takeBehindOperand_20 rfl rfl ?_
    refine x_iconst (v := 3) dX5_takeBehindOperand_21 (by decide) ?_
    obtain ⟨M23, eM23, hf⟩ := zletE hf
    refine x_putI dX5_takeBehindOperand_22 fp_X5_44 rfl rfl rfl rfl eM23 ?_
    refine x_iconst (v := 0) dX5_takeBehindOperand_25 (by decide) ?_
    exact x_iret rfl dX5_takeBehindOperand_26 (zretI hf)
theorem cc_X5_takeIf {l : Launch} {G : zG} {x1 : Int32}  {M : zMem} {r : Int32} {M1 : zMem} (hf : fX5_takeIf x1 M = some (r, M1)) : Ca l G 2 mX5_takeIf [.ref (G.2.2.1 19), .int x1] M (some (.int r)) M1 := by
  refine Ca.of (by decide +kernel) (Nat.le_of_ble_eq_true rfl) rfl ?_
  rw [fX5_takeIf] at hf
  refine x_iload_n dX5_takeIf_0 rfl rfl ?_
  refine x_bipush (v := 8) dX5_takeIf_1 (by decide) ?_
  refine x_icmp_eq (tgt := 8) dX5_takeIf_3 (by decide) (fun c3 => ?_) (fun c3 => ?_)
  · replace hf := zif_t c3 hf
    refine x_aload_n dX5_takeIf_8 rfl rfl ?_
    obtain ⟨M2, hq1, hf⟩ := zbind hf
    refine x_invVv dX5_takeIf_9 mk_X5_beginCondition ml_X5_115 (cc_X5_beginCondition hq1) rfl rfl rfl (Nat.le_of_ble_eq_true rfl) rfl (Nat.le_of_ble_eq_true rfl) rfl ?_
    refine x_iconst (v := 0) dX5_takeIf_12 (by decide) ?_
    exact x_iret rfl dX5_takeIf_13 (zretI hf)
  · replace hf := zif_f c3 hf
    refine x_iconst (v := 1) dX5_takeIf_6 (by decide) ?_
    exact x_iret rfl dX5_takeIf_7 (zretI hf)
theorem cc_X6_lastKind {l : Launch} {G : zG} {r0 : Nat} (hr0 : r0 = 3 ∨ r0 = 11) {M : zMem} {r : Int32} {M1 : zMem} (hf : fX6_lastKind r0 M = some (r, M1)) : Ca l G 1 mX6_lastKind [.ref (G.2.2.1 r0)] M (some (.int r)) M1 := by
  rcases hr0 with rfl | rfl
  · refine Ca.of (by decide +kernel) (Nat.le_of_ble_eq_true rfl) rfl ?_
    rw [fX6_lastKind] at hf
    refine x_aload_n dX6_lastKind_0 rfl rfl ?_
    refine x_aload_n dX6_lastKind_1 rfl rfl ?_
    refine x_getI dX6_lastKind_2 fl_X6_33 rfl rfl ?_
    refine x_iconst (v := 1) dX6_lastKind_5 (by decide) ?_
    refine x_isub dX6_lastKind_6 ?_
    obtain ⟨r3, M2, hq1, hf⟩ := zb2E hf
    refine x_invVi dX6_lastKind_7 mk_X6_kindOf ml_X6_40 (cc_X6_kindOf (by decide) hq1) rfl rfl rfl (Nat.le_of_ble_eq_true rfl) rfl (Nat.le_of_ble_eq_true rfl) rfl ?_
    exact x_iret rfl dX6_lastKind_10 (zretI hf)
  · refine Ca.of (by decide +kernel) (Nat.le_of_ble_eq_true rfl) rfl ?_
    rw [fX6_lastKind] at hf
    refine x_aload_n dX6_lastKind_0 rfl rfl ?_
    refine x_aload_n dX6_lastKind_1 rfl rfl ?_
    refine x_getI dX6_lastKind_2 fl_X6_33 rfl rfl ?_
    refine x_iconst (v := 1) dX6_lastKind_5 (by decide) ?_
    refine x_isub dX6_lastKind_6 ?_
    obtain ⟨r3, M2, hq1, hf⟩ := zb2E hf
    refine x_invVi dX6_lastKind_7 mk_X6_kindOf ml_X6_40 (cc_X6_kindOf (by decide) hq1) rfl rfl rfl (Nat.le_of_ble_eq_true rfl) rfl (Nat.le_of_ble_eq_true rfl) rfl ?_
    exact x_iret rfl dX6_lastKind_10 (zretI hf)
theorem cc_X6_setNumber {l : Launch} {G : zG} {r0 : Nat} {x1 : Int32} (hr0 : r0 = 3 ∨ r0 = 11) {M : zMem} {M1 : zMem} (hf : fX6_setNumber r0 x1 M = some M1) : Ca l G 0 mX6_setNumber [.ref (G.2.2.1 r0), .int x1] M none M1 := by
  rcases hr0 with rfl | rfl
  · refine Ca.of (by decide +kernel) (Nat.le_of_ble_eq_true rfl) rfl ?_
    rw [fX6_setNumber] at hf
    refine x_aload_n dX6_setNumber_0 rfl rfl ?_
    refine x_getI dX6_setNumber_1 fl_X6_33 rfl rfl ?_
    refine x_if_le (tgt := 19) dX6_setNumber_4 (by decide) (fun c4 => ?_) (fun c4 => ?_)
    · replace hf := zif_t c4 hf
      exact x_vret rfl dX6_setNumber_19 (zretV hf)
    · replace hf := zif_f c4 hf
      refine x_aload_n dX6_setNumber_7 rfl rfl ?_
      refine x_getS dX6_setNumber_8 fl_X6_15 rfl rfl ?_
      refine x_aload_n dX6_setNumber_11 rfl rfl ?_
      refine x_getI dX6_setNumber_12 fl_X6_33 rfl rfl ?_
      refine x_iconst (v := 1) dX6_setNumber_15 (by decide) ?_
      refine x_isub dX6_setNumber_16 ?_
      refine x_iload_n dX6_setNumber_17 rfl rfl ?_
      obtain ⟨M1, hM1, hf⟩ := zbind hf
      refine x_ist dX6_setNumber_18 rfl hM1 ?_
      exact x_vret rfl dX6_setNumber_19 (zretV hf)
  · refine Ca.of (by decide +kernel) (Nat.le_of_ble_eq_true rfl) rfl ?_
    rw [fX6_setNumber] at hf
    refine x_aload_n dX6_setNumber_0 rfl rfl ?_
    refine x_getI dX6_setNumber_1 fl_X6_33 rfl rfl ?_
    refine x_if_le (tgt := 19) dX6_setNumber_4 (by decide) (fun c4 => ?_) (fun c4 => ?_)
    · replace hf := zif_t c4 hf
      exact x_vret rfl dX6_setNumber_19 (zretV hf)
    · replace hf := zif_f c4 hf
      refine x_aload_n dX6_setNumber_7 rfl rfl ?_
      refine x_getS dX6_setNumber_8 fl_X6_15 rfl rfl ?_
      refine x_aload_n dX6_setNumber_11 rfl rfl ?_
      refine x_getI dX6_setNumber_12 fl_X6_33 rfl rfl ?_
      refine x_iconst (v := 1) dX6_setNumber_15 (by decide) ?_
      refine x_isub dX6_setNumber_16 ?_
      refine x_iload_n dX6_setNumber_17 rfl rfl ?_
      obtain ⟨M1, hM1, hf⟩ := zbind hf
      refine x_ist dX6_setNumber_18 rfl hM1 ?_
      exact x_vret rfl dX6_setNumber_19 (zretV hf)
theorem cc_X5_takeNumber_L76 {l : Launch} {G : zG} {x2 : Int32} {M : zMem} {r : Int32} {M1 : zMem} (hf : fX5_takeNumber_L76 x2 M = some (r, M1)) : Ex l G 2 mX5_takeNumber 76 [(0, .ref (G.2.2.1 19)), (2, .int x2)] [] M (zqI r M1) := by
  rw [fX5_takeNumber_L76] at hf
  refine x_aload_n dX5_takeNumber_76 rfl rfl ?_
  refine x_getR dX5_takeNumber_77 fl_X5_22 rfl rfl ?_
  refine x_iload_n dX5_takeNumber_80 rfl rfl ?_
  obtain ⟨M12, hq11, hf⟩ := zbind hf
  obtain ⟨hdy81, hq11⟩ := zdyE hq11
  obtain ⟨cd81, hs81⟩ := zdySH hdy81
  refine x_invVv dX5_takeNumber_81 mk_X6_setNumber ml_X5_111 (cc_X6_setNumber hdy81 hq11) hs81 rfl rfl (Nat.le_of_ble_eq_true rfl) rfl (Nat.le_of_ble_eq_true rfl) rfl ?_
  refine x_aload_n dX5_takeNumber_84 rfl rfl ?_
  refine x_iconst (v := 2) dX5_takeNumber_85 (by decide) ?_
  obtain ⟨M13, eM13, hf⟩ := zletE hf
  refine x_putI dX5_takeNumber_86 fp_X5_44 rfl rfl rfl rfl eM13 ?_
  refine x_iconst (v := 0) dX5_takeNumber_89 (by decide) ?_
  exact x_iret rfl dX5_takeNumber_90 (zretI hf)
theorem cc_X5_takeNumber_L50 {l : Launch} {G : zG} {x2 : Int32} {s0 : Int32} {M : zMem} {r : Int32} {M1 : zMem} (hf : fX5_takeNumber_L50 x2 s0 M = some (r, M1)) : Ex l G 2 mX5_takeNumber 50 [(0, .ref (G.2.2.1 19)), (2, .int x2)] [.int s0] M (zqI r M1) := by
  rw [fX5_takeNumber_L50] at hf
  refine x_istore dX5_takeNumber_50 (Nat.le_of_ble_eq_true rfl) rfl ?_
  refine x_iload dX5_takeNumber_52 rfl ?_
  refine x_if_ne (tgt := 76) dX5_takeNumber_54 (by decide) (fun c54 => ?_) (fun c54 => ?_)
  · replace hf := zif_f c54 hf
    exact Ex.sb (cc_X5_takeNumber_L76  hf) ⟨rfl, rfl, trivial⟩
  · replace hf := zif_t c54 hf
    refine x_aload_n dX5_takeNumber_57 rfl rfl ?_
    refine x_getI dX5_takeNumber_58 fl_X5_57 rfl rfl ?_
    refine x_iconst (v := -1) dX5_takeNumber_61 (by decide) ?_
    refine x_icmp_ne (tgt := 76) dX5_takeNumber_62 (by decide) (fun c62 => ?_) (fun c62 => ?_)
    · replace hf := zif_f c62 hf
      exact Ex.sb (cc_X5_takeNumber_L76  hf) ⟨rfl, rfl, trivial⟩
    · replace hf := zif_t c62 hf
      refine x_aload_n dX5_takeNumber_65 rfl rfl ?_
      refine x_aload_n dX5_takeNumber_66 rfl rfl ?_
      refine x_getS (r := 20) dX5_takeNumber_67 fl_X5_12 rfl rfl ?_
      obtain ⟨r9, M8, hq7, hf⟩ := zb2E hf
      refine x_invVi dX5_takeNumber_70 mk_X10_start ml_X5_54 (cc_X10_start hq7) rfl rfl rfl (Nat.le_of_ble_eq_true rfl) rfl (Nat.le_of_ble_eq_true rfl) rfl ?_
      obtain ⟨M10, eM10, hf⟩ := zletE hf
      refine x_putI dX5_takeNumber_73 fp_X5_57 rfl rfl rfl rfl eM10 ?_
      exact Ex.sb (cc_X5_takeNumber_L76  hf) ⟨rfl, rfl, trivial⟩
theorem cc_X5_takeNumber_L24 {l : Launch} {G : zG} {x2 : Int32} {s0 : Int32} {M : zMem} {r : Int32} {M1 : zMem} (hf : fX5_takeNumber_L24 x2 s0 M = some (r, M1)) : Ex l G 2 mX5_takeNumber 24 [(0, .ref (G.2.2.1 19)), (2, .int x2)] [.int s0] M (zqI r M1) := by
  rw [fX5_takeNumber_L24] at hf
  refine x_istore_n dX5_takeNumber_24 rfl (Nat.le_of_ble_eq_true rfl) rfl ?_
  refine x_iload_n dX5_takeNumber_25 rfl rfl ?_
  refine x_if_eq (tgt := 39) dX5_takeNumber_26 (by decide) (fun c26 => ?_) (fun c26 => ?_)
  · replace hf := zif_t c26 hf
    refine x_iload_n dX5_takeNumber_39 rfl rfl ?_
    refine x_bipush (v := 7) dX5_takeNumber_40 (by decide) ?_
    refine x_icmp_gt (tgt := 49) dX5_takeNumber_42 (by decide) (fun c42 => ?_) (fun c42 => ?_)
    · replace hf := zif_t c42 hf
      refine x_iconst (v := 0) dX5_takeNumber_49 (by decide) ?_
      exact Ex.sb (cc_X5_takeNumber_L50  hf) ⟨rfl, rfl, trivial⟩
    · replace hf := zif_f c42 hf
      refine x_iconst (v := 1) dX5_takeNumber_45 (by decide) ?_
      refine x_goto (tgt := 50) dX5_takeNumber_46 (by decide) ?_
      exact Ex.sb (cc_X5_takeNumber_L50  hf) ⟨rfl, rfl, trivial⟩
  · replace hf := zif_f c26 hf
    refine x_iload_n dX5_takeNumber_29 rfl rfl ?_
    refine x_iconst (v := 1) dX5_takeNumber_30 (by decide) ?_
    refine x_bipush (v := 60) dX5_takeNumber_31 (by decide) ?_
    obtain ⟨r6, M5, hq4, hf⟩ := zb2E hf
    refine x_invNi (host := "FriendLine") dX5_takeNumber_33 mk_X11_isWithin (List.mem_of_getElem? (i := 0) rfl) (cc_X11_isWithin hq4) (Nat.le_of_ble_eq_true rfl) rfl (Nat.le_of_ble_eq_true rfl) rfl ?_
    refine x_goto (tgt := 50) dX5_takeNumber_36 (by decide) ?_
    exact Ex.sb (cc_X5_takeNumber_L50  hf) ⟨rfl, rfl, trivial⟩
theorem cc_X5_takeNumber {l : Launch} {G : zG} {x1 : Int32} {x2 : Int32}  {M : zMem} {r : Int32} {M1 : zMem} (hf : fX5_takeNumber x1 x2 M = some (r, M1)) : Ca l G 2 mX5_takeNumber [.ref (G.2.2.1 19), .int x1, .int x2] M (some (.int r)) M1 := by
  refine Ca.of (by decide +kernel) (Nat.le_of_ble_eq_true rfl) rfl ?_
  rw [fX5_takeNumber] at hf
  refine x_iload_n dX5_takeNumber_0 rfl rfl ?_
  refine x_iconst (v := 2) dX5_takeNumber_1 (by decide) ?_
  refine x_icmp_eq (tgt := 7) dX5_takeNumber_2 (by decide) (fun c2 => ?_) (fun c2 => ?_)
  · replace hf := zif_t c2 hf
    refine x_aload_n dX5_takeNumber_7 rfl rfl ?_
    refine x_getR dX5_takeNumber_8 fl_X5_22 rfl rfl ?_
    obtain ⟨r3, M2, hq1, hf⟩ := zb2E hf
    obtain ⟨hdy11, hq1⟩ := zdyE hq1
    obtain ⟨cd11, hs11⟩ := zdySH hdy11
    refine x_invVi dX5_takeNumber_11 mk_X6_lastKind ml_X5_104 (cc_X6_lastKind hdy11 hq1) hs11 rfl rfl (Nat.le_of_ble_eq_true rfl) rfl (Nat.le_of_ble_eq_true rfl) rfl ?_
    refine x_bipush (v := 7) dX5_takeNumber_14 (by decide) ?_
    refine x_icmp_ne (tgt := 23) dX5_takeNumber_16 (by decide) (fun c16 => ?_) (fun c16 => ?_)
    · replace hf := zif_f c16 hf
      refine x_iconst (v := 0) dX5_takeNumber_23 (by decide) ?_
      exact Ex.sb (cc_X5_takeNumber_L24  hf) ⟨rfl, rfl, trivial⟩
    · replace hf := zif_t c16 hf
      refine x_iconst (v := 1) dX5_takeNumber_19 (by decide) ?_
      refine x_goto (tgt := 24) dX5_takeNumber_20 (by decide) ?_
      exact Ex.sb (cc_X5_takeNumber_L24  hf) ⟨rfl, rfl, trivial⟩
  · replace hf := zif_f c2 hf
    refine x_iconst (v := 1) dX5_takeNumber_5 (by decide) ?_
    exact x_iret rfl dX5_takeNumber_6 (zretI hf)
theorem cc_X5_takeOperand_L10 {l : Launch} {G : zG} {x1 : Int32} {x2 : Int32} {M : zMem} {r : Int32} {M1 : zMem} (hf : fX5_takeOperand_L10 x1 x2 M = some (r, M1)) : Ex l G 1 mX5_takeOperand 10 [(0, .ref (G.2.2.1 19)), (1, .int x1), (2, .int x2)] [] M (zqI r M1) := by
  rw [fX5_takeOperand_L10] at hf
  refine x_aload_n dX5_takeOperand_10 rfl rfl ?_
  refine x_getR dX5_takeOperand_11 fl_X5_22 rfl rfl ?_
  refine x_iload_n dX5_takeOperand_14 rfl rfl ?_
  refine x_iload_n dX5_takeOperand_15 rfl rfl ?_
  obtain ⟨M5, hq4, hf⟩ := zbind hf
  obtain ⟨hdy16, hq4⟩ := zdyE hq4
  obtain ⟨cd16, hs16⟩ := zdySH hdy16
  refine x_invVv dX5_takeOperand_16 mk_X6_write ml_X5_118 (cc_X6_write hdy16 hq4) hs16 rfl rfl (Nat.le_of_ble_eq_true rfl) rfl (Nat.le_of_ble_eq_true rfl) rfl ?_
  refine x_aload_n dX5_takeOperand_19 rfl rfl ?_
  refine x_iconst (v := 4) dX5_takeOperand_20 (by decide) ?_
  obtain ⟨M6, eM6, hf⟩ := zletE hf
  refine x_putI dX5_takeOperand_21 fp_X5_44 rfl rfl rfl rfl eM6 ?_
  refine x_iconst (v := 0) dX5_takeOperand_24 (by decide) ?_
  exact x_iret rfl dX5_takeOperand_25 (zretI hf)
theorem cc_X5_takeOperand {l : Launch} {G : zG} {x1 : Int32} {x2 : Int32}  {M : zMem} {r : Int32} {M1 : zMem} (hf : fX5_takeOperand x1 x2 M = some (r, M1)) : Ca l G 1 mX5_takeOperand [.ref (G.2.2.1 19), .int x1, .int x2] M (some (.int r)) M1 := by
  refine Ca.of (by decide +kernel) (Nat.le_of_ble_eq_true rfl) rfl ?_
  rw [fX5_takeOperand] at hf
  refine x_iload_n dX5_takeOperand_0 rfl rfl ?_
  refine x_iconst (v := 2) dX5_takeOperand_1 (by decide) ?_
  refine x_icmp_eq (tgt := 10) dX5_takeOperand_2 (by decide) (fun c2 => ?_) (fun c2 => ?_)
  · replace hf := zif_t c2 hf
    exact Ex.sb (cc_X5_takeOperand_L10  hf) ⟨rfl, rfl, rfl, trivial⟩
  · replace hf := zif_f c2 hf
    refine x_iload_n dX5_takeOperand_5 rfl rfl ?_
    refine x_iconst (v := 3) dX5_takeOperand_6 (by decide) ?_
    refine x_icmp_ne (tgt := 26) dX5_takeOperand_7 (by decide) (fun c7 => ?_) (fun c7 => ?_)
    · replace hf := zif_f c7 hf
      refine x_iload_n dX5_takeOperand_26 rfl rfl ?_
      refine x_bipush (v := 11) dX5_takeOperand_27 (by decide) ?_
      refine x_icmp_eq (tgt := 34) dX5_takeOperand_29 (by decide) (fun c29 => ?_) (fun c29 => ?_)
      · replace hf := zif_t c29 hf
        refine x_aload_n dX5_takeOperand_34 rfl rfl ?_
        refine x_getI dX5_takeOperand_35 fl_X5_71 rfl rfl ?_
        refine x_bipush (v := 6) dX5_takeOperand_38 (by decide) ?_
        refine x_icmp_ne (tgt := 45) dX5_takeOperand_40 (by decide) (fun c40 => ?_) (fun c40 => ?_)
        · replace hf := zif_f c40 hf
          refine x_aload_n dX5_takeOperand_45 rfl rfl ?_
          refine x_dup dX5_takeOperand_46 rfl ?_
          refine x_getI dX5_takeOperand_47 fl_X5_71 rfl rfl ?_
          refine x_iconst (v := 1) dX5_takeOperand_50 (by decide) ?_
          refine x_iadd dX5_takeOperand_51 ?_
          obtain ⟨M1, eM1, hf⟩ := zletE hf
          refine x_putI dX5_takeOperand_52 fp_X5_71 rfl rfl rfl rfl eM1 ?_
          refine x_aload_n dX5_takeOperand_55 rfl rfl ?_
          refine x_iload_n dX5_takeOperand_56 rfl rfl ?_
          obtain ⟨M3, hq2, hf⟩ := zbind hf
          refine x_invVv dX5_takeOperand_57 mk_X5_push ml_X5_122 (cc_X5_push hq2) rfl rfl rfl (Nat.le_of_ble_eq_true rfl) rfl (Nat.le_of_ble_eq_true rfl) rfl ?_
          refine x_iconst (v := 0) dX5_takeOperand_60 (by decide) ?_
          exact x_iret rfl dX5_takeOperand_61 (zretI hf)
        · replace hf := zif_t c40 hf
          refine x_iconst (v := 2) dX5_takeOperand_43 (by decide) ?_
          exact x_iret rfl dX5_takeOperand_44 (zretI hf)
      · replace hf := zif_f c29 hf
        refine x_iconst (v := 1) dX5_takeOperand_32 (by decide) ?_
        exact x_iret rfl dX5_takeOperand_33 (zretI hf)
    · replace hf := zif_t c7 hf
      exact Ex.sb (cc_X5_takeOperand_L10  hf) ⟨rfl, rfl, rfl, trivial⟩
theorem cc_X6_begin {l : Launch} {G : zG} {r0 : Nat} {x1 : Int32} (hr0 : r0 = 3 ∨ r0 = 11) {M : zMem} {r : Int32} {M1 : zMem} (hf : fX6_begin r0 x1 M = some (r, M1)) : Ca l G 0 mX6_begin [.ref (G.2.2.1 r0), .int x1] M (some (.int r)) M1 := by
  rcases hr0 with rfl | rfl
  · refine Ca.of (by decide +kernel) (Nat.le_of_ble_eq_true rfl) rfl ?_
    rw [fX6_begin] at hf
    refine x_aload_n dX6_begin_0 rfl rfl ?_
    refine x_getI dX6_begin_1 fl_X6_33 rfl rfl ?_
    refine x_bipush (v := 20) dX6_begin_4 (by decide) ?_
    refine x_icmp_lt (tgt := 11) dX6_begin_6 (by decide) (fun c6 => ?_) (fun c6 => ?_)
    · replace hf := zif_t c6 hf
      refine x_aload_n dX6_begin_11 rfl rfl ?_
      refine x_getS dX6_begin_12 fl_X6_11 rfl rfl ?_
      refine x_aload_n dX6_begin_15 rfl rfl ?_
      refine x_getI dX6_begin_16 fl_X6_33 rfl rfl ?_
      refine x_iload_n dX6_begin_19 rfl rfl ?_
      obtain ⟨M1, hM1, hf⟩ := zbind hf
      refine x_ist dX6_begin_20 rfl hM1 ?_
      refine x_aload_n dX6_begin_21 rfl rfl ?_
      refine x_getS dX6_begin_22 fl_X6_15 rfl rfl ?_
      refine x_aload_n dX6_begin_25 rfl rfl ?_
      refine x_getI dX6_begin_26 fl_X6_33 rfl rfl ?_
      refine x_iconst (v := 0) dX6_begin_29 (by decide) ?_
      obtain ⟨M2, hM2, hf⟩ := zbind hf
      refine x_ist dX6_begin_30 rfl hM2 ?_
      refine x_aload_n dX6_begin_31 rfl rfl ?_
      refine x_getS dX6_begin_32 fl_X6_18 rfl rfl ?_
      refine x_aload_n dX6_begin_35 rfl rfl ?_
      refine x_getI dX6_begin_36 fl_X6_33 rfl rfl ?_
      refine x_aload_n dX6_begin_39 rfl rfl ?_
      refine x_getI dX6_begin_40 fl_X6_37 rfl rfl ?_
      obtain ⟨M3, hM3, hf⟩ := zbind hf
      refine x_ist dX6_begin_43 rfl hM3 ?_
      refine x_aload_n dX6_begin_44 rfl rfl ?_
      refine x_getS dX6_begin_45 fl_X6_21 rfl rfl ?_
      refine x_aload_n dX6_begin_48 rfl rfl ?_
      refine x_getI dX6_begin_49 fl_X6_33 rfl rfl ?_
      refine x_aload_n dX6_begin_52 rfl rfl ?_
      refine x_getI dX6_begin_53 fl_X6_37 rfl rfl ?_
      obtain ⟨M4, hM4, hf⟩ := zbind hf
      refine x_ist dX6_begin_56 rfl hM4 ?_
      refine x_aload_n dX6_begin_57 rfl rfl ?_
      refine x_getS dX6_begin_58 fl_X6_24 rfl rfl ?_
      refine x_aload_n dX6_begin_61 rfl rfl ?_
      refine x_getI dX6_begin_62 fl_X6_33 rfl rfl ?_
      refine x_aload_n dX6_begin_65 rfl rfl ?_
      refine x_getI dX6_begin_66 fl_X6_37 rfl rfl ?_
      obtain ⟨M5, hM5, hf⟩ := zbind hf
      refine x_ist dX6_begin_69 rfl hM5 ?_
      refine x_aload_n dX6_begin_70 rfl rfl ?_
      refine x_dup dX6_begin_71 rfl ?_
      refine x_getI dX6_begin_72 fl_X6_33 rfl rfl ?_
      refine x_iconst (v := 1) dX6_begin_75 (by decide) ?_
      refine x_iadd dX6_begin_76 ?_
      obtain ⟨M6, eM6, hf⟩ := zletE hf
      refine x_putI dX6_begin_77 fp_X6_33 rfl rfl rfl rfl eM6 ?_
      refine x_iconst (v := 1) dX6_begin_80 (by decide) ?_
      exact x_zret rfl rfl dX6_begin_81 (zretI hf)
    · replace hf := zif_f c6 hf
      refine x_iconst (v := 0) dX6_begin_9 (by decide) ?_
      exact x_zret rfl rfl dX6_begin_10 (zretI hf)
  · refine Ca.of (by decide +kernel) (Nat.le_of_ble_eq_true rfl) rfl ?_
    rw [fX6_begin] at hf
    refine x_aload_n dX6_begin_0 rfl rfl ?_
    refine x_getI dX6_begin_1 fl_X6_33 rfl rfl ?_
    refine x_bipush (v := 20) dX6_begin_4 (by decide) ?_
    refine x_icmp_lt (tgt := 11) dX6_begin_6 (by decide) (fun c6 => ?_) (fun c6 => ?_)
    · replace hf := zif_t c6 hf
      refine x_aload_n dX6_begin_11 rfl rfl ?_
      refine x_getS dX6_begin_12 fl_X6_11 rfl rfl ?_
      refine x_aload_n dX6_begin_15 rfl rfl ?_
      refine x_getI dX6_begin_16 fl_X6_33 rfl rfl ?_
      refine x_iload_n dX6_begin_19 rfl rfl ?_
      obtain ⟨M1, hM1, hf⟩ := zbind hf
      refine x_ist dX6_begin_20 rfl hM1 ?_
      refine x_aload_n dX6_begin_21 rfl rfl ?_
      refine x_getS dX6_begin_22 fl_X6_15 rfl rfl ?_
      refine x_aload_n dX6_begin_25 rfl rfl ?_
      refine x_getI dX6_begin_26 fl_X6_33 rfl rfl ?_
      refine x_iconst (v := 0) dX6_begin_29 (by decide) ?_
      obtain ⟨M2, hM2, hf⟩ := zbind hf
      refine x_ist dX6_begin_30 rfl hM2 ?_
      refine x_aload_n dX6_begin_31 rfl rfl ?_
      refine x_getS dX6_begin_32 fl_X6_18 rfl rfl ?_
      refine x_aload_n dX6_begin_35 rfl rfl ?_
      refine x_getI dX6_begin_36 fl_X6_33 rfl rfl ?_
      refine x_aload_n dX6_begin_39 rfl rfl ?_
      refine x_getI dX6_begin_40 fl_X6_37 rfl rfl ?_
      obtain ⟨M3, hM3, hf⟩ := zbind hf
      refine x_ist dX6_begin_43 rfl hM3 ?_
      refine x_aload_n dX6_begin_44 rfl rfl ?_
      refine x_getS dX6_begin_45 fl_X6_21 rfl rfl ?_
      refine x_aload_n dX6_begin_48 rfl rfl ?_
      refine x_getI dX6_begin_49 fl_X6_33 rfl rfl ?_
      refine x_aload_n dX6_begin_52 rfl rfl ?_
      refine x_getI dX6_begin_53 fl_X6_37 rfl rfl ?_
      obtain ⟨M4, hM4, hf⟩ := zbind hf
      refine x_ist dX6_begin_56 rfl hM4 ?_
      refine x_aload_n dX6_begin_57 rfl rfl ?_
      refine x_getS dX6_begin_58 fl_X6_24 rfl rfl ?_
      refine x_aload_n dX6_begin_61 rfl rfl ?_
      refine x_getI dX6_begin_62 fl_X6_33 rfl rfl ?_
      refine x_aload_n dX6_begin_65 rfl rfl ?_
      refine x_getI dX6_begin_66 fl_X6_37 rfl rfl ?_
      obtain ⟨M5, hM5, hf⟩ := zbind hf
      refine x_ist dX6_begin_69 rfl hM5 ?_
      refine x_aload_n dX6_begin_70 rfl rfl ?_
      refine x_dup dX6_begin_71 rfl ?_
      refine x_getI dX6_begin_72 fl_X6_33 rfl rfl ?_
      refine x_iconst (v := 1) dX6_begin_75 (by decide) ?_
      refine x_iadd dX6_begin_76 ?_
      obtain ⟨M6, eM6, hf⟩ := zletE hf
      refine x_putI dX6_begin_77 fp_X6_33 rfl rfl rfl rfl eM6 ?_
      refine x_iconst (v := 1) dX6_begin_80 (by decide) ?_
      exact x_zret rfl rfl dX6_begin_81 (zretI hf)
    · replace hf := zif_f c6 hf
      refine x_iconst (v := 0) dX6_begin_9 (by decide) ?_
      exact x_zret rfl rfl dX6_begin_10 (zretI hf)
theorem cc_X5_takeRuleStart_L58 {l : Launch} {G : zG} {x1 : Int32} {M : zMem} {r : Int32} {M1 : zMem} (hf : fX5_takeRuleStart_L58 x1 M = some (r, M1)) : Ex l G 1 mX5_takeRuleStart 58 [(0, .ref (G.2.2.1 19)), (1, .int x1)] [] M (zqI r M1) := by
  rw [fX5_takeRuleStart_L58] at hf
  refine x_aload_n dX5_takeRuleStart_58 rfl rfl ?_
  refine x_iconst (v := 0) dX5_takeRuleStart_59 (by decide) ?_
  obtain ⟨M5, eM5, hf⟩ := zletE hf
  refine x_putI dX5_takeRuleStart_60 fp_X5_74 rfl rfl rfl rfl eM5 ?_
  refine x_aload_n dX5_takeRuleStart_63 rfl rfl ?_
  refine x_getR dX5_takeRuleStart_64 fl_X5_22 rfl rfl ?_
  refine x_iload_n dX5_takeRuleStart_67 rfl rfl ?_
  obtain ⟨r8, M7, hq6, hf⟩ := zb2E hf
  obtain ⟨hdy68, hq6⟩ := zdyE hq6
  obtain ⟨cd68, hs68⟩ := zdySH hdy68
  refine x_invVi dX5_takeRuleStart_68 mk_X6_begin ml_X5_100 (cc_X6_begin hdy68 hq6) hs68 rfl rfl (Nat.le_of_ble_eq_true rfl) rfl (Nat.le_of_ble_eq_true rfl) rfl ?_
  refine x_if_eq (tgt := 78) dX5_takeRuleStart_71 (by decide) (fun c71 => ?_) (fun c71 => ?_)
  · replace hf := zif_t c71 hf
    refine x_iconst (v := 2) dX5_takeRuleStart_78 (by decide) ?_
    exact x_iret rfl dX5_takeRuleStart_79 (zretI hf)
  · replace hf := zif_f c71 hf
    refine x_iconst (v := 0) dX5_takeRuleStart_74 (by decide) ?_
    refine x_goto (tgt := 79) dX5_takeRuleStart_75 (by decide) ?_
    exact x_iret rfl dX5_takeRuleStart_79 (zretI hf)
theorem cc_X5_takeRuleStart {l : Launch} {G : zG} {x1 : Int32}  {M : zMem} {r : Int32} {M1 : zMem} (hf : fX5_takeRuleStart x1 M = some (r, M1)) : Ca l G 1 mX5_takeRuleStart [.ref (G.2.2.1 19), .int x1] M (some (.int r)) M1 := by
  refine Ca.of (by decide +kernel) (Nat.le_of_ble_eq_true rfl) rfl ?_
  rw [fX5_takeRuleStart] at hf
  refine x_iload_n dX5_takeRuleStart_0 rfl rfl ?_
  by_cases c1_4 : x1 = (4 : Int32)
  · replace hf := zif_t c1_4 hf
    refine x_tableIn (tgt := 32) (off := 31) dX5_takeRuleStart_1 (ztl c1_4 (by decide)) (ztu c1_4 (by decide)) (zto c1_4 (by decide)) (by decide) ?_
    refine x_aload_n dX5_takeRuleStart_32 rfl rfl ?_
    refine x_iconst (v := 3) dX5_takeRuleStart_33 (by decide) ?_
    obtain ⟨M1, eM1, hf⟩ := zletE hf
    refine x_putI dX5_takeRuleStart_34 fp_X5_44 rfl rfl rfl rfl eM1 ?_
    refine x_goto (tgt := 58) dX5_takeRuleStart_37 (by decide) ?_
    exact Ex.sb (cc_X5_takeRuleStart_L58  hf) ⟨rfl, rfl, trivial⟩
  · replace hf := zif_f c1_4 hf
    by_cases c1_5 : x1 = (5 : Int32)
    · replace hf := zif_t c1_5 hf
      refine x_tableIn (tgt := 40) (off := 39) dX5_takeRuleStart_1 (ztl c1_5 (by decide)) (ztu c1_5 (by decide)) (zto c1_5 (by decide)) (by decide) ?_
      refine x_aload_n dX5_takeRuleStart_40 rfl rfl ?_
      refine x_iconst (v := 1) dX5_takeRuleStart_41 (by decide) ?_
      obtain ⟨M2, eM2, hf⟩ := zletE hf
      refine x_putI dX5_takeRuleStart_42 fp_X5_44 rfl rfl rfl rfl eM2 ?_
      refine x_goto (tgt := 58) dX5_takeRuleStart_45 (by decide) ?_
      exact Ex.sb (cc_X5_takeRuleStart_L58  hf) ⟨rfl, rfl, trivial⟩
    · replace hf := zif_f c1_5 hf
      by_cases c1_6 : x1 = (6 : Int32)
      · replace hf := zif_t c1_6 hf
        refine x_tableIn (tgt := 48) (off := 47) dX5_takeRuleStart_1 (ztl c1_6 (by decide)) (ztu c1_6 (by decide)) (zto c1_6 (by decide)) (by decide) ?_
        refine x_aload_n dX5_takeRuleStart_48 rfl rfl ?_
        refine x_iconst (v := 2) dX5_takeRuleStart_49 (by decide) ?_
        obtain ⟨M3, eM3, hf⟩ := zletE hf
        refine x_putI dX5_takeRuleStart_50 fp_X5_44 rfl rfl rfl rfl eM3 ?_
        refine x_goto (tgt := 58) dX5_takeRuleStart_53 (by decide) ?_
        exact Ex.sb (cc_X5_takeRuleStart_L58  hf) ⟨rfl, rfl, trivial⟩
      · replace hf := zif_f c1_6 hf
        by_cases c1_7 : x1 = (7 : Int32)
        · replace hf := zif_t c1_7 hf
          refine x_tableIn (tgt := 40) (off := 39) dX5_takeRuleStart_1 (ztl c1_7 (by decide)) (ztu c1_7 (by decide)) (zto c1_7 (by decide)) (by decide) ?_
          refine x_aload_n dX5_takeRuleStart_40 rfl rfl ?_
          refine x_iconst (v := 1) dX5_takeRuleStart_41 (by decide) ?_
          obtain ⟨M4, eM4, hf⟩ := zletE hf
          refine x_putI dX5_takeRuleStart_42 fp_X5_44 rfl rfl rfl rfl eM4 ?_
          refine x_goto (tgt := 58) dX5_takeRuleStart_45 (by decide) ?_
          exact Ex.sb (cc_X5_takeRuleStart_L58  hf) ⟨rfl, rfl, trivial⟩
        · replace hf := zif_f c1_7 hf
          refine x_tableOut (tgt := 56) dX5_takeRuleStart_1 (by have q0 := ztne c1_4 (n := 4) (by decide); have q1 := ztne c1_5 (n := 5) (by decide); have q2 := ztne c1_6 (n := 6) (by decide); have q3 := ztne c1_7 (n := 7) (by decide); omega) (by decide) ?_
          refine x_iconst (v := 1) dX5_takeRuleStart_56 (by decide) ?_
          exact x_iret rfl dX5_takeRuleStart_57 (zretI hf)
theorem cc_X5_take {l : Launch} {G : zG} {N : Nat} {x1 : Int32} {x2 : Int32}  {M : zMem} {r : Int32} {M1 : zMem} (hf : fX5_take N x1 x2 M = some (r, M1)) : Ca l G 4 mX5_take [.ref (G.2.2.1 19), .int x1, .int x2] M (some (.int r)) M1 := by
  refine Ca.of (by decide +kernel) (Nat.le_of_ble_eq_true rfl) rfl ?_
  rw [fX5_take] at hf
  refine x_aload_n dX5_take_0 rfl rfl ?_
  refine x_getI dX5_take_1 fl_X5_44 rfl rfl ?_
  by_cases c4_0 : (M.1 19 4) = (0 : Int32)
  · replace hf := zif_t c4_0 hf
    refine x_tableIn (tgt := 36) (off := 32) dX5_take_4 (ztl c4_0 (by decide)) (ztu c4_0 (by decide)) (zto c4_0 (by decide)) (by decide) ?_
    refine x_aload_n dX5_take_36 rfl rfl ?_
    refine x_iload_n dX5_take_37 rfl rfl ?_
    obtain ⟨r3, M2, hq1, hf⟩ := zb2E hf
    refine x_invVi dX5_take_38 mk_X5_takeRuleStart ml_X5_84 (cc_X5_takeRuleStart hq1) rfl rfl rfl (Nat.le_of_ble_eq_true rfl) rfl (Nat.le_of_ble_eq_true rfl) rfl ?_
    exact x_iret rfl dX5_take_41 (zretI hf)
  · replace hf := zif_f c4_0 hf
    by_cases c4_1 : (M.1 19 4) = (1 : Int32)
    · replace hf := zif_t c4_1 hf
      refine x_tableIn (tgt := 42) (off := 38) dX5_take_4 (ztl c4_1 (by decide)) (ztu c4_1 (by decide)) (zto c4_1 (by decide)) (by decide) ?_
      refine x_aload_n dX5_take_42 rfl rfl ?_
      refine x_iload_n dX5_take_43 rfl rfl ?_
      refine x_iload_n dX5_take_44 rfl rfl ?_
      obtain ⟨r6, M5, hq4, hf⟩ := zb2E hf
      refine x_invVi dX5_take_45 mk_X5_takeNumber ml_X5_88 (cc_X5_takeNumber hq4) rfl rfl rfl (Nat.le_of_ble_eq_true rfl) rfl (Nat.le_of_ble_eq_true rfl) rfl ?_
      exact x_iret rfl dX5_take_48 (zretI hf)
    · replace hf := zif_f c4_1 hf
      by_cases c4_2 : (M.1 19 4) = (2 : Int32)
      · replace hf := zif_t c4_2 hf
        refine x_tableIn (tgt := 49) (off := 45) dX5_take_4 (ztl c4_2 (by decide)) (ztu c4_2 (by decide)) (zto c4_2 (by decide)) (by decide) ?_
        refine x_aload_n dX5_take_49 rfl rfl ?_
        refine x_iload_n dX5_take_50 rfl rfl ?_
        obtain ⟨r9, M8, hq7, hf⟩ := zb2E hf
        refine x_invVi dX5_take_51 mk_X5_takeIf ml_X5_91 (cc_X5_takeIf hq7) rfl rfl rfl (Nat.le_of_ble_eq_true rfl) rfl (Nat.le_of_ble_eq_true rfl) rfl ?_
        exact x_iret rfl dX5_take_54 (zretI hf)
      · replace hf := zif_f c4_2 hf
        by_cases c4_3 : (M.1 19 4) = (3 : Int32)
        · replace hf := zif_t c4_3 hf
          refine x_tableIn (tgt := 55) (off := 51) dX5_take_4 (ztl c4_3 (by decide)) (ztu c4_3 (by decide)) (zto c4_3 (by decide)) (by decide) ?_
          refine x_aload_n dX5_take_55 rfl rfl ?_
          refine x_iload_n dX5_take_56 rfl rfl ?_
          refine x_iload_n dX5_take_57 rfl rfl ?_
          obtain ⟨r12, M11, hq10, hf⟩ := zb2E hf
          refine x_invVi dX5_take_58 mk_X5_takeOperand ml_X5_94 (cc_X5_takeOperand hq10) rfl rfl rfl (Nat.le_of_ble_eq_true rfl) rfl (Nat.le_of_ble_eq_true rfl) rfl ?_
          exact x_iret rfl dX5_take_61 (zretI hf)
        · replace hf := zif_f c4_3 hf
          refine x_tableOut (tgt := 62) dX5_take_4 (by have q0 := ztne c4_0 (n := 0) (by decide); have q1 := ztne c4_1 (n := 1) (by decide); have q2 := ztne c4_2 (n := 2) (by decide); have q3 := ztne c4_3 (n := 3) (by decide); omega) (by decide) ?_
          refine x_aload_n dX5_take_62 rfl rfl ?_
          refine x_iload_n dX5_take_63 rfl rfl ?_
          obtain ⟨r15, M14, hq13, hf⟩ := zb2E hf
          refine x_invVi dX5_take_64 mk_X5_takeBehindOperand ml_X5_97 (cc_X5_takeBehindOperand hq13) rfl rfl rfl (Nat.le_of_ble_eq_true rfl) rfl (Nat.le_of_ble_eq_true rfl) rfl ?_
          exact x_iret rfl dX5_take_67 (zretI hf)
