theorem cc_X5_readRules_L100 {l : Launch} {G : zG} {N : Nat} {k13 : Int32 → Int32 → Int32 → zMem → Option (Int32 × zMem)} (hk13 : ∀ {x3 : Int32} {x4 : Int32} {x5 : Int32} {M : zMem} {r : Int32} {M1 : zMem}, k13 x3 x4 x5 M = some (r, M1) → Ex l G 8 mX5_readRules 13 [(0, .ref (G.2.2.1 19)), (1, .ref (G.2.2.1 1)), (3, .int x3), (4, .int x4), (5, .int x5)] [] M (zqI r M1)) {x3 : Int32} {x4 : Int32} {x5 : Int32} {M : zMem} {r : Int32} {M1 : zMem} (hf : fX5_readRules_L100 N k13 x3 x4 x5 M = some (r, M1)) : Ex l G 8 mX5_readRules 100 [(0, .ref (G.2.2.1 19)), (1, .ref (G.2.2.1 1)), (3, .int x3), (4, .int x4), (5, .int x5)] [] M (zqI r M1) := by
  rw [fX5_readRules_L100] at hf
  obtain ⟨x5_22, ex5_22, hf⟩ := zletE hf
  refine x_iinc (c0 := 1) dX5_readRules_100 rfl (Nat.le_of_ble_eq_true rfl) (by decide) ex5_22 ?_
  refine x_goto (tgt := 13) dX5_readRules_103 (by decide) ?_
  exact Ex.sb (hk13 hf) ⟨rfl, rfl, rfl, rfl, rfl, trivial⟩
theorem cc_X5_readRules_L60 {l : Launch} {G : zG} {N : Nat} {k13 : Int32 → Int32 → Int32 → zMem → Option (Int32 × zMem)} (hk13 : ∀ {x3 : Int32} {x4 : Int32} {x5 : Int32} {M : zMem} {r : Int32} {M1 : zMem}, k13 x3 x4 x5 M = some (r, M1) → Ex l G 8 mX5_readRules 13 [(0, .ref (G.2.2.1 19)), (1, .ref (G.2.2.1 1)), (3, .int x3), (4, .int x4), (5, .int x5)] [] M (zqI r M1)) {x3 : Int32} {x5 : Int32} {s0 : Int32} {M : zMem} {r : Int32} {M1 : zMem} (hf : fX5_readRules_L60 N k13 x3 x5 s0 M = some (r, M1)) : Ex l G 8 mX5_readRules 60 [(0, .ref (G.2.2.1 19)), (1, .ref (G.2.2.1 1)), (3, .int x3), (5, .int x5)] [.int s0] M (zqI r M1) := by
  rw [fX5_readRules_L60] at hf
  refine x_istore dX5_readRules_60 (Nat.le_of_ble_eq_true rfl) rfl ?_
  refine x_iload dX5_readRules_62 rfl ?_
  refine x_if_ne (tgt := 100) dX5_readRules_64 (by decide) (fun c64 => ?_) (fun c64 => ?_)
  · replace hf := zif_f c64 hf
    exact Ex.sb (cc_X5_readRules_L100 hk13 hf) ⟨rfl, rfl, rfl, rfl, rfl, trivial⟩
  · replace hf := zif_t c64 hf
    refine x_aload_n dX5_readRules_67 rfl rfl ?_
    refine x_aload_n dX5_readRules_68 rfl rfl ?_
    refine x_getS (r := 20) dX5_readRules_69 fl_X5_12 rfl rfl ?_
    obtain ⟨r15, M14, hq13, hf⟩ := zb2E hf
    refine x_invVi dX5_readRules_72 mk_X10_kind ml_X5_40 (cc_X10_kind hq13) rfl rfl rfl (Nat.le_of_ble_eq_true rfl) rfl (Nat.le_of_ble_eq_true rfl) rfl ?_
    refine x_aload_n dX5_readRules_75 rfl rfl ?_
    refine x_getS (r := 20) dX5_readRules_76 fl_X5_12 rfl rfl ?_
    obtain ⟨r18, M17, hq16, hf⟩ := zb2E hf
    refine x_invVi dX5_readRules_79 mk_X10_value ml_X5_47 (cc_X10_value hq16) rfl rfl rfl (Nat.le_of_ble_eq_true rfl) rfl (Nat.le_of_ble_eq_true rfl) rfl ?_
    obtain ⟨r21, M20, hq19, hf⟩ := zb2E hf
    refine x_invVi dX5_readRules_82 mk_X5_take ml_X5_50 (cc_X5_take hq19) rfl rfl rfl (Nat.le_of_ble_eq_true rfl) rfl (Nat.le_of_ble_eq_true rfl) rfl ?_
    refine x_istore_n dX5_readRules_85 rfl (Nat.le_of_ble_eq_true rfl) rfl ?_
    refine x_iload_n dX5_readRules_86 rfl rfl ?_
    refine x_if_ne (tgt := 100) dX5_readRules_87 (by decide) (fun c87 => ?_) (fun c87 => ?_)
    · replace hf := zif_f c87 hf
      exact Ex.sb (cc_X5_readRules_L100 hk13 hf) ⟨rfl, rfl, rfl, rfl, rfl, trivial⟩
    · replace hf := zif_t c87 hf
      refine x_iload dX5_readRules_90 rfl ?_
      refine x_sipush (v := 400) dX5_readRules_92 (by decide) ?_
      refine x_icmp_le (tgt := 100) dX5_readRules_95 (by decide) (fun c95 => ?_) (fun c95 => ?_)
      · replace hf := zif_t c95 hf
        exact Ex.sb (cc_X5_readRules_L100 hk13 hf) ⟨rfl, rfl, rfl, rfl, rfl, trivial⟩
      · replace hf := zif_f c95 hf
        refine x_iconst (v := 2) dX5_readRules_98 (by decide) ?_
        refine x_istore_n dX5_readRules_99 rfl (Nat.le_of_ble_eq_true rfl) rfl ?_
        exact Ex.sb (cc_X5_readRules_L100 hk13 hf) ⟨rfl, rfl, rfl, rfl, rfl, trivial⟩
theorem cc_X5_readRules_L59 {l : Launch} {G : zG} {N : Nat} {k13 : Int32 → Int32 → Int32 → zMem → Option (Int32 × zMem)} (hk13 : ∀ {x3 : Int32} {x4 : Int32} {x5 : Int32} {M : zMem} {r : Int32} {M1 : zMem}, k13 x3 x4 x5 M = some (r, M1) → Ex l G 8 mX5_readRules 13 [(0, .ref (G.2.2.1 19)), (1, .ref (G.2.2.1 1)), (3, .int x3), (4, .int x4), (5, .int x5)] [] M (zqI r M1)) {x3 : Int32} {x5 : Int32} {M : zMem} {r : Int32} {M1 : zMem} (hf : fX5_readRules_L59 N k13 x3 x5 M = some (r, M1)) : Ex l G 8 mX5_readRules 59 [(0, .ref (G.2.2.1 19)), (1, .ref (G.2.2.1 1)), (3, .int x3), (5, .int x5)] [] M (zqI r M1) := by
  rw [fX5_readRules_L59] at hf
  refine x_iconst (v := 0) dX5_readRules_59 (by decide) ?_
  exact Ex.sb (cc_X5_readRules_L60 hk13 hf) ⟨rfl, rfl, rfl, rfl, trivial⟩
theorem cc_X5_readRules_L106 {l : Launch} {G : zG} {N : Nat} {x3 : Int32} {M : zMem} {r : Int32} {M1 : zMem} (hf : fX5_readRules_L106 N x3 M = some (r, M1)) : Ex l G 8 mX5_readRules 106 [(0, .ref (G.2.2.1 19)), (3, .int x3)] [] M (zqI r M1) := by
  rw [fX5_readRules_L106] at hf
  refine x_iload_n dX5_readRules_106 rfl rfl ?_
  refine x_if_eq (tgt := 123) dX5_readRules_107 (by decide) (fun c107 => ?_) (fun c107 => ?_)
  · replace hf := zif_t c107 hf
    refine x_aload_n dX5_readRules_123 rfl rfl ?_
    refine x_aload_n dX5_readRules_124 rfl rfl ?_
    refine x_getI dX5_readRules_125 fl_X5_57 rfl rfl ?_
    obtain ⟨M8, eM8, hf⟩ := zletE hf
    refine x_putI dX5_readRules_128 fp_X5_26 rfl rfl rfl rfl eM8 ?_
    refine x_aload_n dX5_readRules_131 rfl rfl ?_
    refine x_getI dX5_readRules_132 fl_X5_57 rfl rfl ?_
    refine x_iconst (v := -1) dX5_readRules_135 (by decide) ?_
    refine x_icmp_ne (tgt := 143) dX5_readRules_136 (by decide) (fun c136 => ?_) (fun c136 => ?_)
    · replace hf := zif_f c136 hf
      refine x_iconst (v := 5) dX5_readRules_143 (by decide) ?_
      exact x_iret rfl dX5_readRules_144 (zretI hf)
    · replace hf := zif_t c136 hf
      refine x_iconst (v := 0) dX5_readRules_139 (by decide) ?_
      refine x_goto (tgt := 144) dX5_readRules_140 (by decide) ?_
      exact x_iret rfl dX5_readRules_144 (zretI hf)
  · replace hf := zif_f c107 hf
    refine x_aload_n dX5_readRules_110 rfl rfl ?_
    refine x_aload_n dX5_readRules_111 rfl rfl ?_
    refine x_getS (r := 20) dX5_readRules_112 fl_X5_12 rfl rfl ?_
    obtain ⟨r11, M10, hq9, hf⟩ := zb2E hf
    refine x_invVi dX5_readRules_115 mk_X10_start ml_X5_54 (cc_X10_start hq9) rfl rfl rfl (Nat.le_of_ble_eq_true rfl) rfl (Nat.le_of_ble_eq_true rfl) rfl ?_
    obtain ⟨M12, eM12, hf⟩ := zletE hf
    refine x_putI dX5_readRules_118 fp_X5_26 rfl rfl rfl rfl eM12 ?_
    refine x_iload_n dX5_readRules_121 rfl rfl ?_
    exact x_iret rfl dX5_readRules_122 (zretI hf)
theorem cc_X5_readRules_L13 {l : Launch} {G : zG} {N : Nat} : ∀ {n : Nat} {x3 : Int32} {x4 : Int32} {x5 : Int32} {M : zMem} {r : Int32} {M1 : zMem}, fX5_readRules_L13 N n x3 x4 x5 M = some (r, M1) → Ex l G 8 mX5_readRules 13 [(0, .ref (G.2.2.1 19)), (1, .ref (G.2.2.1 1)), (3, .int x3), (4, .int x4), (5, .int x5)] [] M (zqI r M1) := by
  intro n
  induction n with
  | zero => intro x3 x4 x5 M r M1 hf; cases hf
  | succ n ih =>
    intro x3 x4 x5 M r M1 hf
    rw [fX5_readRules_L13] at hf
    refine x_iload dX5_readRules_13 rfl ?_
    refine x_sipush (v := 2001) dX5_readRules_15 (by decide) ?_
    refine x_icmp_gt (tgt := 106) dX5_readRules_18 (by decide) (fun c18 => ?_) (fun c18 => ?_)
    · replace hf := zif_t c18 hf
      exact Ex.sb (cc_X5_readRules_L106  hf) ⟨rfl, rfl, trivial⟩
    · replace hf := zif_f c18 hf
      refine x_iload_n dX5_readRules_21 rfl rfl ?_
      refine x_if_ne (tgt := 106) dX5_readRules_22 (by decide) (fun c22 => ?_) (fun c22 => ?_)
      · replace hf := zif_f c22 hf
        exact Ex.sb (cc_X5_readRules_L106  hf) ⟨rfl, rfl, trivial⟩
      · replace hf := zif_t c22 hf
        refine x_iload dX5_readRules_25 rfl ?_
        refine x_if_ne (tgt := 106) dX5_readRules_27 (by decide) (fun c27 => ?_) (fun c27 => ?_)
        · replace hf := zif_f c27 hf
          exact Ex.sb (cc_X5_readRules_L106  hf) ⟨rfl, rfl, trivial⟩
        · replace hf := zif_t c27 hf
          refine x_aload_n dX5_readRules_30 rfl rfl ?_
          refine x_getS (r := 20) dX5_readRules_31 fl_X5_12 rfl rfl ?_
          refine x_aload_n dX5_readRules_34 rfl rfl ?_
          obtain ⟨M4, hq3, hf⟩ := zbind hf
          refine x_invVv dX5_readRules_35 mk_X10_scan ml_X5_36 (cc_X10_scan hq3) rfl rfl rfl (Nat.le_of_ble_eq_true rfl) rfl (Nat.le_of_ble_eq_true rfl) rfl ?_
          refine x_aload_n dX5_readRules_38 rfl rfl ?_
          refine x_getS (r := 20) dX5_readRules_39 fl_X5_12 rfl rfl ?_
          obtain ⟨r7, M6, hq5, hf⟩ := zb2E hf
          refine x_invVi dX5_readRules_42 mk_X10_kind ml_X5_40 (cc_X10_kind hq5) rfl rfl rfl (Nat.le_of_ble_eq_true rfl) rfl (Nat.le_of_ble_eq_true rfl) rfl ?_
          refine x_if_ne (tgt := 59) dX5_readRules_45 (by decide) (fun c45 => ?_) (fun c45 => ?_)
          · replace hf := zif_f c45 hf
            exact Ex.sb (cc_X5_readRules_L59 ih hf) ⟨rfl, rfl, rfl, rfl, trivial⟩
          · replace hf := zif_t c45 hf
            refine x_aload_n dX5_readRules_48 rfl rfl ?_
            refine x_getI dX5_readRules_49 fl_X5_44 rfl rfl ?_
            refine x_if_ne (tgt := 59) dX5_readRules_52 (by decide) (fun c52 => ?_) (fun c52 => ?_)
            · replace hf := zif_f c52 hf
              exact Ex.sb (cc_X5_readRules_L59 ih hf) ⟨rfl, rfl, rfl, rfl, trivial⟩
            · replace hf := zif_t c52 hf
              refine x_iconst (v := 1) dX5_readRules_55 (by decide) ?_
              refine x_goto (tgt := 60) dX5_readRules_56 (by decide) ?_
              exact Ex.sb (cc_X5_readRules_L60 ih hf) ⟨rfl, rfl, rfl, rfl, trivial⟩
theorem cc_X5_readRules {l : Launch} {G : zG} {N : Nat} {x2 : Nat}  {M : zMem} {r : Int32} {M1 : zMem} (hf : fX5_readRules N x2 M = some (r, M1)) : Ca l G 8 mX5_readRules [.ref (G.2.2.1 19), .ref (G.2.2.1 1), .ref (G.2.2.1 x2)] M (some (.int r)) M1 := by
  refine Ca.of (by decide +kernel) (Nat.le_of_ble_eq_true rfl) rfl ?_
  rw [fX5_readRules] at hf
  refine x_aload_n dX5_readRules_0 rfl rfl ?_
  refine x_aload_n dX5_readRules_1 rfl rfl ?_
  obtain ⟨M2, hq1, hf⟩ := zbind hf
  refine x_invVv dX5_readRules_2 mk_X5_prepare ml_X5_30 (cc_X5_prepare hq1) rfl rfl rfl (Nat.le_of_ble_eq_true rfl) rfl (Nat.le_of_ble_eq_true rfl) rfl ?_
  refine x_iconst (v := 0) dX5_readRules_5 (by decide) ?_
  refine x_istore_n dX5_readRules_6 rfl (Nat.le_of_ble_eq_true rfl) rfl ?_
  refine x_iconst (v := 0) dX5_readRules_7 (by decide) ?_
  refine x_istore dX5_readRules_8 (Nat.le_of_ble_eq_true rfl) rfl ?_
  refine x_iconst (v := 1) dX5_readRules_10 (by decide) ?_
  refine x_istore dX5_readRules_11 (Nat.le_of_ble_eq_true rfl) rfl ?_
  exact Ex.sb (cc_X5_readRules_L13  hf) ⟨rfl, rfl, rfl, rfl, rfl, trivial⟩
theorem cc_X7_clear {l : Launch} {G : zG}   {M : zMem} {M1 : zMem} (hf : fX7_clear M = some M1) : Ca l G 0 mX7_clear [.ref (G.2.2.1 36)] M none M1 := by
  refine Ca.of (by decide +kernel) (Nat.le_of_ble_eq_true rfl) rfl ?_
  rw [fX7_clear] at hf
  refine x_aload_n dX7_clear_0 rfl rfl ?_
  refine x_iconst (v := 0) dX7_clear_1 (by decide) ?_
  obtain ⟨M1, eM1, hf⟩ := zletE hf
  refine x_putI dX7_clear_2 fp_X7_45 rfl rfl rfl rfl eM1 ?_
  exact x_vret rfl dX7_clear_5 (zretV hf)
theorem cc_X7_add {l : Launch} {G : zG} {x1 : Int32} {x2 : Int32} {x3 : Int32}  {M : zMem} {M1 : zMem} (hf : fX7_add x1 x2 x3 M = some M1) : Ca l G 0 mX7_add [.ref (G.2.2.1 36), .int x1, .int x2, .int x3] M none M1 := by
  refine Ca.of (by decide +kernel) (Nat.le_of_ble_eq_true rfl) rfl ?_
  rw [fX7_add] at hf
  refine x_aload_n dX7_add_0 rfl rfl ?_
  refine x_getI dX7_add_1 fl_X7_45 rfl rfl ?_
  refine x_iconst (v := 5) dX7_add_4 (by decide) ?_
  refine x_icmp_ge (tgt := 48) dX7_add_5 (by decide) (fun c5 => ?_) (fun c5 => ?_)
  · replace hf := zif_t c5 hf
    exact x_vret rfl dX7_add_48 (zretV hf)
  · replace hf := zif_f c5 hf
    refine x_aload_n dX7_add_8 rfl rfl ?_
    refine x_getS (r := 37) dX7_add_9 fl_X7_11 rfl rfl ?_
    refine x_aload_n dX7_add_12 rfl rfl ?_
    refine x_getI dX7_add_13 fl_X7_45 rfl rfl ?_
    refine x_iload_n dX7_add_16 rfl rfl ?_
    obtain ⟨M1, hM1, hf⟩ := zbind hf
    refine x_ist dX7_add_17 rfl hM1 ?_
    refine x_aload_n dX7_add_18 rfl rfl ?_
    refine x_getS (r := 38) dX7_add_19 fl_X7_17 rfl rfl ?_
    refine x_aload_n dX7_add_22 rfl rfl ?_
    refine x_getI dX7_add_23 fl_X7_45 rfl rfl ?_
    refine x_iload_n dX7_add_26 rfl rfl ?_
    obtain ⟨M2, hM2, hf⟩ := zbind hf
    refine x_ist dX7_add_27 rfl hM2 ?_
    refine x_aload_n dX7_add_28 rfl rfl ?_
    refine x_getS (r := 39) dX7_add_29 fl_X7_20 rfl rfl ?_
    refine x_aload_n dX7_add_32 rfl rfl ?_
    refine x_getI dX7_add_33 fl_X7_45 rfl rfl ?_
    refine x_iload_n dX7_add_36 rfl rfl ?_
    obtain ⟨M3, hM3, hf⟩ := zbind hf
    refine x_zst dX7_add_37 rfl hM3 ?_
    refine x_aload_n dX7_add_38 rfl rfl ?_
    refine x_dup dX7_add_39 rfl ?_
    refine x_getI dX7_add_40 fl_X7_45 rfl rfl ?_
    refine x_iconst (v := 1) dX7_add_43 (by decide) ?_
    refine x_iadd dX7_add_44 ?_
    obtain ⟨M4, eM4, hf⟩ := zletE hf
    refine x_putI dX7_add_45 fp_X7_45 rfl rfl rfl rfl eM4 ?_
    exact x_vret rfl dX7_add_48 (zretV hf)
theorem cc_X7_shiftOf {l : Launch} {G : zG} {x1 : Int32}  {M : zMem} {r : Int32} {M1 : zMem} (hf : fX7_shiftOf x1 M = some (r, M1)) : Ca l G 0 mX7_shiftOf [.ref (G.2.2.1 36), .int x1] M (some (.int r)) M1 := by
  refine Ca.of (by decide +kernel) (Nat.le_of_ble_eq_true rfl) rfl ?_
  rw [fX7_shiftOf] at hf
  refine x_iload_n dX7_shiftOf_0 rfl rfl ?_
  refine x_if_lt (tgt := 21) dX7_shiftOf_1 (by decide) (fun c1 => ?_) (fun c1 => ?_)
  · replace hf := zif_t c1 hf
    refine x_iconst (v := 0) dX7_shiftOf_21 (by decide) ?_
    exact x_iret rfl dX7_shiftOf_22 (zretI hf)
  · replace hf := zif_f c1 hf
    refine x_iload_n dX7_shiftOf_4 rfl rfl ?_
    refine x_aload_n dX7_shiftOf_5 rfl rfl ?_
    refine x_getI dX7_shiftOf_6 fl_X7_45 rfl rfl ?_
    refine x_icmp_ge (tgt := 21) dX7_shiftOf_9 (by decide) (fun c9 => ?_) (fun c9 => ?_)
    · replace hf := zif_t c9 hf
      refine x_iconst (v := 0) dX7_shiftOf_21 (by decide) ?_
      exact x_iret rfl dX7_shiftOf_22 (zretI hf)
    · replace hf := zif_f c9 hf
      refine x_aload_n dX7_shiftOf_12 rfl rfl ?_
      refine x_getS (r := 46) dX7_shiftOf_13 fl_X7_42 rfl rfl ?_
      refine x_iload_n dX7_shiftOf_16 rfl rfl ?_
      obtain ⟨v1, hv1, hf⟩ := zbind hf
      refine x_ild dX7_shiftOf_17 rfl hv1 ?_
      refine x_goto (tgt := 22) dX7_shiftOf_18 (by decide) ?_
      exact x_iret rfl dX7_shiftOf_22 (zretI hf)
theorem cc_J6_bitCount_0f7a4 {l : Launch} {G : zG} {x0 : Int32}  {M : zMem} {r : Int32} {M1 : zMem} (hf : fJ6_bitCount_0f7a4 x0 M = some (r, M1)) : Ca l G 0 mJ6_bitCount_0f7a4 [.int x0] M (some (.int r)) M1 := by
  refine Ca.of (by decide +kernel) (Nat.le_of_ble_eq_true rfl) rfl ?_
  rw [fJ6_bitCount_0f7a4] at hf
  refine x_iload_n dJ6_bitCount_0f7a4_0 rfl rfl ?_
  refine x_iload_n dJ6_bitCount_0f7a4_1 rfl rfl ?_
  refine x_iconst (v := 1) dJ6_bitCount_0f7a4_2 (by decide) ?_
  refine x_iushr dJ6_bitCount_0f7a4_3 ?_
  refine x_ldcw (v := 1431655765) cw_J6_265 dJ6_bitCount_0f7a4_4 ?_
  refine x_iand dJ6_bitCount_0f7a4_7 ?_
  refine x_isub dJ6_bitCount_0f7a4_8 ?_
  obtain ⟨x0_1, ex0_1, hf⟩ := zletE hf
  refine x_istore_n dJ6_bitCount_0f7a4_9 rfl (Nat.le_of_ble_eq_true rfl) ex0_1 ?_
  refine x_iload_n dJ6_bitCount_0f7a4_10 rfl rfl ?_
  refine x_ldcw (v := 858993459) cw_J6_266 dJ6_bitCount_0f7a4_11 ?_
  refine x_iand dJ6_bitCount_0f7a4_14 ?_
  refine x_iload_n dJ6_bitCount_0f7a4_15 rfl rfl ?_
  refine x_iconst (v := 2) dJ6_bitCount_0f7a4_16 (by decide) ?_
  refine x_iushr dJ6_bitCount_0f7a4_17 ?_
  refine x_ldcw (v := 858993459) cw_J6_266 dJ6_bitCount_0f7a4_18 ?_
  refine x_iand dJ6_bitCount_0f7a4_21 ?_
  refine x_iadd dJ6_bitCount_0f7a4_22 ?_
  obtain ⟨x0_2, ex0_2, hf⟩ := zletE hf
  refine x_istore_n dJ6_bitCount_0f7a4_23 rfl (Nat.le_of_ble_eq_true rfl) ex0_2 ?_
  refine x_iload_n dJ6_bitCount_0f7a4_24 rfl rfl ?_
  refine x_iload_n dJ6_bitCount_0f7a4_25 rfl rfl ?_
  refine x_iconst (v := 4) dJ6_bitCount_0f7a4_26 (by decide) ?_
  refine x_iushr dJ6_bitCount_0f7a4_27 ?_
  refine x_iadd dJ6_bitCount_0f7a4_28 ?_
  refine x_ldcw (v := 252645135) cw_J6_267 dJ6_bitCount_0f7a4_29 ?_
  refine x_iand dJ6_bitCount_0f7a4_32 ?_
  obtain ⟨x0_3, ex0_3, hf⟩ := zletE hf
  refine x_istore_n dJ6_bitCount_0f7a4_33 rfl (Nat.le_of_ble_eq_true rfl) ex0_3 ?_
  refine x_iload_n dJ6_bitCount_0f7a4_34 rfl rfl ?_
  refine x_iload_n dJ6_bitCount_0f7a4_35 rfl rfl ?_
  refine x_bipush (v := 8) dJ6_bitCount_0f7a4_36 (by decide) ?_
  refine x_iushr dJ6_bitCount_0f7a4_38 ?_
  refine x_iadd dJ6_bitCount_0f7a4_39 ?_
  obtain ⟨x0_4, ex0_4, hf⟩ := zletE hf
  refine x_istore_n dJ6_bitCount_0f7a4_40 rfl (Nat.le_of_ble_eq_true rfl) ex0_4 ?_
  refine x_iload_n dJ6_bitCount_0f7a4_41 rfl rfl ?_
  refine x_iload_n dJ6_bitCount_0f7a4_42 rfl rfl ?_
  refine x_bipush (v := 16) dJ6_bitCount_0f7a4_43 (by decide) ?_
  refine x_iushr dJ6_bitCount_0f7a4_45 ?_
  refine x_iadd dJ6_bitCount_0f7a4_46 ?_
  obtain ⟨x0_5, ex0_5, hf⟩ := zletE hf
  refine x_istore_n dJ6_bitCount_0f7a4_47 rfl (Nat.le_of_ble_eq_true rfl) ex0_5 ?_
  refine x_iload_n dJ6_bitCount_0f7a4_48 rfl rfl ?_
  refine x_bipush (v := 63) dJ6_bitCount_0f7a4_49 (by decide) ?_
  refine x_iand dJ6_bitCount_0f7a4_51 ?_
  exact x_iret rfl dJ6_bitCount_0f7a4_52 (zretI hf)
theorem cc_X7_lookAhead_L208 {l : Launch} {G : zG} {N : Nat} {k57 : Int32 → zMem → Option zMem} (hk57 : ∀ {x1 : Int32} {M : zMem} {M1 : zMem}, k57 x1 M = some M1 → Ex l G 1 mX7_lookAhead 57 [(0, .ref (G.2.2.1 36)), (1, .int x1)] [] M (zqV M1)) {x1 : Int32} {s1 : Int32} {s2 : Int32} {s3 : Int32} {M : zMem} {M1 : zMem} (hf : fX7_lookAhead_L208 N k57 x1 s1 s2 s3 M = some M1) : Ex l G 1 mX7_lookAhead 208 [(0, .ref (G.2.2.1 36)), (1, .int x1)] [.int s3, .int s2, .int s1, .ref (G.2.2.1 44)] M (zqV M1) := by
  rw [fX7_lookAhead_L208] at hf
  refine x_iadd dX7_lookAhead_208 ?_
  obtain ⟨M28, hM28, hf⟩ := zbind hf
  refine x_ist dX7_lookAhead_209 rfl hM28 ?_
  obtain ⟨x1_29, ex1_29, hf⟩ := zletE hf
  refine x_iinc (c0 := -1) dX7_lookAhead_210 rfl (Nat.le_of_ble_eq_true rfl) (by decide) ex1_29 ?_
  refine x_goto (tgt := 57) dX7_lookAhead_213 (by decide) ?_
  exact Ex.sb (hk57 hf) ⟨rfl, rfl, trivial⟩
theorem cc_X7_lookAhead_L163 {l : Launch} {G : zG} {N : Nat} {k57 : Int32 → zMem → Option zMem} (hk57 : ∀ {x1 : Int32} {M : zMem} {M1 : zMem}, k57 x1 M = some M1 → Ex l G 1 mX7_lookAhead 57 [(0, .ref (G.2.2.1 36)), (1, .int x1)] [] M (zqV M1)) {x1 : Int32} {x2 : Int32} {s1 : Int32} {s2 : Int32} {s3 : Int32} {M : zMem} {M1 : zMem} (hf : fX7_lookAhead_L163 N k57 x1 x2 s1 s2 s3 M = some M1) : Ex l G 1 mX7_lookAhead 163 [(0, .ref (G.2.2.1 36)), (1, .int x1), (2, .int x2)] [.int s3, .int s2, .int s1, .ref (G.2.2.1 42)] M (zqV M1) := by
  rw [fX7_lookAhead_L163] at hf
  refine x_ior dX7_lookAhead_163 ?_
  obtain ⟨M23, hM23, hf⟩ := zbind hf
  refine x_ist dX7_lookAhead_164 rfl hM23 ?_
  refine x_aload_n dX7_lookAhead_165 rfl rfl ?_
  refine x_getS (r := 43) dX7_lookAhead_166 fl_X7_33 rfl rfl ?_
  refine x_iload_n dX7_lookAhead_169 rfl rfl ?_
  refine x_aload_n dX7_lookAhead_170 rfl rfl ?_
  refine x_getS (r := 43) dX7_lookAhead_171 fl_X7_33 rfl rfl ?_
  refine x_iload_n dX7_lookAhead_174 rfl rfl ?_
  refine x_iconst (v := 1) dX7_lookAhead_175 (by decide) ?_
  refine x_iadd dX7_lookAhead_176 ?_
  obtain ⟨v24, hv24, hf⟩ := zbind hf
  refine x_ild dX7_lookAhead_177 rfl hv24 ?_
  refine x_iload_n dX7_lookAhead_178 rfl rfl ?_
  refine x_iadd dX7_lookAhead_179 ?_
  obtain ⟨M25, hM25, hf⟩ := zbind hf
  refine x_ist dX7_lookAhead_180 rfl hM25 ?_
  refine x_aload_n dX7_lookAhead_181 rfl rfl ?_
  refine x_getS (r := 44) dX7_lookAhead_182 fl_X7_36 rfl rfl ?_
  refine x_iload_n dX7_lookAhead_185 rfl rfl ?_
  refine x_aload_n dX7_lookAhead_186 rfl rfl ?_
  refine x_getS (r := 44) dX7_lookAhead_187 fl_X7_36 rfl rfl ?_
  refine x_iload_n dX7_lookAhead_190 rfl rfl ?_
  refine x_iconst (v := 1) dX7_lookAhead_191 (by decide) ?_
  refine x_iadd dX7_lookAhead_192 ?_
  obtain ⟨v26, hv26, hf⟩ := zbind hf
  refine x_ild dX7_lookAhead_193 rfl hv26 ?_
  refine x_aload_n dX7_lookAhead_194 rfl rfl ?_
  refine x_getS (r := 39) dX7_lookAhead_195 fl_X7_20 rfl rfl ?_
  refine x_iload_n dX7_lookAhead_198 rfl rfl ?_
  obtain ⟨v27, hv27, hf⟩ := zbind hf
  refine x_zld dX7_lookAhead_199 rfl hv27 ?_
  refine x_if_eq (tgt := 207) dX7_lookAhead_200 (by decide) (fun c200 => ?_) (fun c200 => ?_)
  · replace hf := zif_t c200 hf
    refine x_iconst (v := 0) dX7_lookAhead_207 (by decide) ?_
    exact Ex.sb (cc_X7_lookAhead_L208 hk57 hf) ⟨rfl, rfl, trivial⟩
  · replace hf := zif_f c200 hf
    refine x_iload_n dX7_lookAhead_203 rfl rfl ?_
    refine x_goto (tgt := 208) dX7_lookAhead_204 (by decide) ?_
    exact Ex.sb (cc_X7_lookAhead_L208 hk57 hf) ⟨rfl, rfl, trivial⟩
theorem cc_X7_lookAhead_L57 {l : Launch} {G : zG} {N : Nat} : ∀ {n : Nat} {x1 : Int32} {M : zMem} {M1 : zMem}, fX7_lookAhead_L57 N n x1 M = some M1 → Ex l G 1 mX7_lookAhead 57 [(0, .ref (G.2.2.1 36)), (1, .int x1)] [] M (zqV M1) := by
  intro n
  induction n with
  | zero => intro x1 M M1 hf; cases hf
  | succ n ih =>
    intro x1 M M1 hf
    rw [fX7_lookAhead_L57] at hf
    refine x_iload_n dX7_lookAhead_57 rfl rfl ?_
    refine x_if_lt (tgt := 216) dX7_lookAhead_58 (by decide) (fun c58 => ?_) (fun c58 => ?_)
    · replace hf := zif_t c58 hf
      exact x_vret rfl dX7_lookAhead_216 (zretV hf)
    · replace hf := zif_f c58 hf
      refine x_aload_n dX7_lookAhead_61 rfl rfl ?_
      refine x_getS (r := 38) dX7_lookAhead_62 fl_X7_17 rfl rfl ?_
      refine x_iload_n dX7_lookAhead_65 rfl rfl ?_
      obtain ⟨v7, hv7, hf⟩ := zbind hf
      refine x_ild dX7_lookAhead_66 rfl hv7 ?_
      refine x_aload_n dX7_lookAhead_67 rfl rfl ?_
      refine x_getS (r := 37) dX7_lookAhead_68 fl_X7_11 rfl rfl ?_
      refine x_iload_n dX7_lookAhead_71 rfl rfl ?_
      obtain ⟨v8, hv8, hf⟩ := zbind hf
      refine x_ild dX7_lookAhead_72 rfl hv8 ?_
      obtain ⟨r11, M10, hq9, hf⟩ := zb2E hf
      refine x_invSi dX7_lookAhead_73 mk_J6_bitCount_0f7a4 ml_X7_62 (cc_J6_bitCount_0f7a4 hq9) (Nat.le_of_ble_eq_true rfl) rfl (Nat.le_of_ble_eq_true rfl) rfl ?_
      refine x_mmin dX7_lookAhead_76 ml_X7_68 (Nat.le_of_ble_eq_true rfl) (Nat.le_of_ble_eq_true rfl) ?_
      obtain ⟨x2_12, ex2_12, hf⟩ := zletE hf
      refine x_istore_n dX7_lookAhead_79 rfl (Nat.le_of_ble_eq_true rfl) ex2_12 ?_
      refine x_aload_n dX7_lookAhead_80 rfl rfl ?_
      refine x_getS (r := 40) dX7_lookAhead_81 fl_X7_24 rfl rfl ?_
      refine x_iload_n dX7_lookAhead_84 rfl rfl ?_
      refine x_aload_n dX7_lookAhead_85 rfl rfl ?_
      refine x_getS (r := 40) dX7_lookAhead_86 fl_X7_24 rfl rfl ?_
      refine x_iload_n dX7_lookAhead_89 rfl rfl ?_
      refine x_iconst (v := 1) dX7_lookAhead_90 (by decide) ?_
      refine x_iadd dX7_lookAhead_91 ?_
      obtain ⟨v13, hv13, hf⟩ := zbind hf
      refine x_ild dX7_lookAhead_92 rfl hv13 ?_
      refine x_aload_n dX7_lookAhead_93 rfl rfl ?_
      refine x_getS (r := 37) dX7_lookAhead_94 fl_X7_11 rfl rfl ?_
      refine x_iload_n dX7_lookAhead_97 rfl rfl ?_
      obtain ⟨v14, hv14, hf⟩ := zbind hf
      refine x_ild dX7_lookAhead_98 rfl hv14 ?_
      refine x_ior dX7_lookAhead_99 ?_
      obtain ⟨M15, hM15, hf⟩ := zbind hf
      refine x_ist dX7_lookAhead_100 rfl hM15 ?_
      refine x_aload_n dX7_lookAhead_101 rfl rfl ?_
      refine x_getS (r := 41) dX7_lookAhead_102 fl_X7_27 rfl rfl ?_
      refine x_iload_n dX7_lookAhead_105 rfl rfl ?_
      refine x_aload_n dX7_lookAhead_106 rfl rfl ?_
      refine x_getS (r := 41) dX7_lookAhead_107 fl_X7_27 rfl rfl ?_
      refine x_iload_n dX7_lookAhead_110 rfl rfl ?_
      refine x_iconst (v := 1) dX7_lookAhead_111 (by decide) ?_
      refine x_iadd dX7_lookAhead_112 ?_
      obtain ⟨v16, hv16, hf⟩ := zbind hf
      refine x_ild dX7_lookAhead_113 rfl hv16 ?_
      refine x_aload_n dX7_lookAhead_114 rfl rfl ?_
      refine x_getS (r := 40) dX7_lookAhead_115 fl_X7_24 rfl rfl ?_
      refine x_iload_n dX7_lookAhead_118 rfl rfl ?_
      refine x_iconst (v := 1) dX7_lookAhead_119 (by decide) ?_
      refine x_iadd dX7_lookAhead_120 ?_
      obtain ⟨v17, hv17, hf⟩ := zbind hf
      refine x_ild dX7_lookAhead_121 rfl hv17 ?_
      refine x_aload_n dX7_lookAhead_122 rfl rfl ?_
      refine x_getS (r := 37) dX7_lookAhead_123 fl_X7_11 rfl rfl ?_
      refine x_iload_n dX7_lookAhead_126 rfl rfl ?_
      obtain ⟨v18, hv18, hf⟩ := zbind hf
      refine x_ild dX7_lookAhead_127 rfl hv18 ?_
      refine x_iand dX7_lookAhead_128 ?_
      refine x_ior dX7_lookAhead_129 ?_
      obtain ⟨M19, hM19, hf⟩ := zbind hf
      refine x_ist dX7_lookAhead_130 rfl hM19 ?_
      refine x_aload_n dX7_lookAhead_131 rfl rfl ?_
      refine x_getS (r := 42) dX7_lookAhead_132 fl_X7_30 rfl rfl ?_
      refine x_iload_n dX7_lookAhead_135 rfl rfl ?_
      refine x_aload_n dX7_lookAhead_136 rfl rfl ?_
      refine x_getS (r := 42) dX7_lookAhead_137 fl_X7_30 rfl rfl ?_
      refine x_iload_n dX7_lookAhead_140 rfl rfl ?_
      refine x_iconst (v := 1) dX7_lookAhead_141 (by decide) ?_
      refine x_iadd dX7_lookAhead_142 ?_
      obtain ⟨v20, hv20, hf⟩ := zbind hf
      refine x_ild dX7_lookAhead_143 rfl hv20 ?_
      refine x_aload_n dX7_lookAhead_144 rfl rfl ?_
      refine x_getS (r := 39) dX7_lookAhead_145 fl_X7_20 rfl rfl ?_
      refine x_iload_n dX7_lookAhead_148 rfl rfl ?_
      obtain ⟨v21, hv21, hf⟩ := zbind hf
      refine x_zld dX7_lookAhead_149 rfl hv21 ?_
      refine x_if_eq (tgt := 162) dX7_lookAhead_150 (by decide) (fun c150 => ?_) (fun c150 => ?_)
      · replace hf := zif_t c150 hf
        refine x_iconst (v := 0) dX7_lookAhead_162 (by decide) ?_
        exact Ex.sb (cc_X7_lookAhead_L163 ih hf) ⟨rfl, rfl, rfl, trivial⟩
      · replace hf := zif_f c150 hf
        refine x_aload_n dX7_lookAhead_153 rfl rfl ?_
        refine x_getS (r := 37) dX7_lookAhead_154 fl_X7_11 rfl rfl ?_
        refine x_iload_n dX7_lookAhead_157 rfl rfl ?_
        obtain ⟨v22, hv22, hf⟩ := zbind hf
        refine x_ild dX7_lookAhead_158 rfl hv22 ?_
        refine x_goto (tgt := 163) dX7_lookAhead_159 (by decide) ?_
        exact Ex.sb (cc_X7_lookAhead_L163 ih hf) ⟨rfl, rfl, rfl, trivial⟩
theorem cc_X7_lookAhead {l : Launch} {G : zG} {N : Nat}   {M : zMem} {M1 : zMem} (hf : fX7_lookAhead N M = some M1) : Ca l G 1 mX7_lookAhead [.ref (G.2.2.1 36)] M none M1 := by
  refine Ca.of (by decide +kernel) (Nat.le_of_ble_eq_true rfl) rfl ?_
  rw [fX7_lookAhead] at hf
  refine x_aload_n dX7_lookAhead_0 rfl rfl ?_
  refine x_getS (r := 40) dX7_lookAhead_1 fl_X7_24 rfl rfl ?_
  refine x_aload_n dX7_lookAhead_4 rfl rfl ?_
  refine x_getI dX7_lookAhead_5 fl_X7_45 rfl rfl ?_
  refine x_iconst (v := 0) dX7_lookAhead_8 (by decide) ?_
  obtain ⟨M1, hM1, hf⟩ := zbind hf
  refine x_ist dX7_lookAhead_9 rfl hM1 ?_
  refine x_aload_n dX7_lookAhead_10 rfl rfl ?_
  refine x_getS (r := 41) dX7_lookAhead_11 fl_X7_27 rfl rfl ?_
  refine x_aload_n dX7_lookAhead_14 rfl rfl ?_
  refine x_getI dX7_lookAhead_15 fl_X7_45 rfl rfl ?_
  refine x_iconst (v := 0) dX7_lookAhead_18 (by decide) ?_
  obtain ⟨M2, hM2, hf⟩ := zbind hf
  refine x_ist dX7_lookAhead_19 rfl hM2 ?_
  refine x_aload_n dX7_lookAhead_20 rfl rfl ?_
  refine x_getS (r := 42) dX7_lookAhead_21 fl_X7_30 rfl rfl ?_
  refine x_aload_n dX7_lookAhead_24 rfl rfl ?_
  refine x_getI dX7_lookAhead_25 fl_X7_45 rfl rfl ?_
  refine x_iconst (v := 0) dX7_lookAhead_28 (by decide) ?_
  obtain ⟨M3, hM3, hf⟩ := zbind hf
  refine x_ist dX7_lookAhead_29 rfl hM3 ?_
  refine x_aload_n dX7_lookAhead_30 rfl rfl ?_
  refine x_getS (r := 43) dX7_lookAhead_31 fl_X7_33 rfl rfl ?_
  refine x_aload_n dX7_lookAhead_34 rfl rfl ?_
  refine x_getI dX7_lookAhead_35 fl_X7_45 rfl rfl ?_
  refine x_iconst (v := 0) dX7_lookAhead_38 (by decide) ?_
  obtain ⟨M4, hM4, hf⟩ := zbind hf
  refine x_ist dX7_lookAhead_39 rfl hM4 ?_
  refine x_aload_n dX7_lookAhead_40 rfl rfl ?_
  refine x_getS (r := 44) dX7_lookAhead_41 fl_X7_36 rfl rfl ?_
  refine x_aload_n dX7_lookAhead_44 rfl rfl ?_
  refine x_getI dX7_lookAhead_45 fl_X7_45 rfl rfl ?_
  refine x_iconst (v := 0) dX7_lookAhead_48 (by decide) ?_
  obtain ⟨M5, hM5, hf⟩ := zbind hf
  refine x_ist dX7_lookAhead_49 rfl hM5 ?_
  refine x_aload_n dX7_lookAhead_50 rfl rfl ?_
  refine x_getI dX7_lookAhead_51 fl_X7_45 rfl rfl ?_
  refine x_iconst (v := 1) dX7_lookAhead_54 (by decide) ?_
  refine x_isub dX7_lookAhead_55 ?_
  obtain ⟨x1_6, ex1_6, hf⟩ := zletE hf
  refine x_istore_n dX7_lookAhead_56 rfl (Nat.le_of_ble_eq_true rfl) ex1_6 ?_
  exact Ex.sb (cc_X7_lookAhead_L57  hf) ⟨rfl, rfl, trivial⟩
theorem cc_X7_canBeBetter {l : Launch} {G : zG} {x1 : Int32} {x2 : Int32} {x3 : Int32} {x4 : Int32} {x5 : Int32}  {M : zMem} {r : Int32} {M1 : zMem} (hf : fX7_canBeBetter x1 x2 x3 x4 x5 M = some (r, M1)) : Ca l G 1 mX7_canBeBetter [.ref (G.2.2.1 36), .int x1, .int x2, .int x3, .int x4, .int x5] M (some (.int r)) M1 := by
  refine Ca.of (by decide +kernel) (Nat.le_of_ble_eq_true rfl) rfl ?_
  rw [fX7_canBeBetter] at hf
  refine x_iload_n dX7_canBeBetter_0 rfl rfl ?_
  refine x_iload_n dX7_canBeBetter_1 rfl rfl ?_
  refine x_aload_n dX7_canBeBetter_2 rfl rfl ?_
  refine x_getS (r := 40) dX7_canBeBetter_3 fl_X7_24 rfl rfl ?_
  refine x_iload_n dX7_canBeBetter_6 rfl rfl ?_
  obtain ⟨v1, hv1, hf⟩ := zbind hf
  refine x_ild dX7_canBeBetter_7 rfl hv1 ?_
  refine x_iand dX7_canBeBetter_8 ?_
  refine x_ior dX7_canBeBetter_9 ?_
  refine x_aload_n dX7_canBeBetter_10 rfl rfl ?_
  refine x_getS (r := 41) dX7_canBeBetter_11 fl_X7_27 rfl rfl ?_
  refine x_iload_n dX7_canBeBetter_14 rfl rfl ?_
  obtain ⟨v2, hv2, hf⟩ := zbind hf
  refine x_ild dX7_canBeBetter_15 rfl hv2 ?_
  refine x_ior dX7_canBeBetter_16 ?_
  refine x_iload dX7_canBeBetter_17 rfl ?_
  refine x_aload_n dX7_canBeBetter_19 rfl rfl ?_
  refine x_getS (r := 42) dX7_canBeBetter_20 fl_X7_30 rfl rfl ?_
  refine x_iload_n dX7_canBeBetter_23 rfl rfl ?_
  obtain ⟨v3, hv3, hf⟩ := zbind hf
  refine x_ild dX7_canBeBetter_24 rfl hv3 ?_
  refine x_ior dX7_canBeBetter_25 ?_
  refine x_iand dX7_canBeBetter_26 ?_
  obtain ⟨x6_4, ex6_4, hf⟩ := zletE hf
  refine x_istore dX7_canBeBetter_27 (Nat.le_of_ble_eq_true rfl) ex6_4 ?_
  refine x_iload_n dX7_canBeBetter_29 rfl rfl ?_
  refine x_iload dX7_canBeBetter_30 rfl ?_
  refine x_iand dX7_canBeBetter_32 ?_
  obtain ⟨r7, M6, hq5, hf⟩ := zb2E hf
  refine x_invSi dX7_canBeBetter_33 mk_J6_bitCount_0f7a4 ml_X7_62 (cc_J6_bitCount_0f7a4 hq5) (Nat.le_of_ble_eq_true rfl) rfl (Nat.le_of_ble_eq_true rfl) rfl ?_
  refine x_iload_n dX7_canBeBetter_36 rfl rfl ?_
  refine x_iload dX7_canBeBetter_37 rfl ?_
  refine x_iand dX7_canBeBetter_39 ?_
  obtain ⟨r10, M9, hq8, hf⟩ := zb2E hf
  refine x_invSi dX7_canBeBetter_40 mk_J6_bitCount_0f7a4 ml_X7_62 (cc_J6_bitCount_0f7a4 hq8) (Nat.le_of_ble_eq_true rfl) rfl (Nat.le_of_ble_eq_true rfl) rfl ?_
  refine x_iadd dX7_canBeBetter_43 ?_
  obtain ⟨x7_11, ex7_11, hf⟩ := zletE hf
  refine x_istore dX7_canBeBetter_44 (Nat.le_of_ble_eq_true rfl) ex7_11 ?_
  refine x_iload dX7_canBeBetter_46 rfl ?_
  obtain ⟨r14, M13, hq12, hf⟩ := zb2E hf
  refine x_invSi dX7_canBeBetter_48 mk_J6_bitCount_0f7a4 ml_X7_62 (cc_J6_bitCount_0f7a4 hq12) (Nat.le_of_ble_eq_true rfl) rfl (Nat.le_of_ble_eq_true rfl) rfl ?_
  refine x_iload dX7_canBeBetter_51 rfl ?_
  refine x_aload_n dX7_canBeBetter_53 rfl rfl ?_
  refine x_getS (r := 43) dX7_canBeBetter_54 fl_X7_33 rfl rfl ?_
  refine x_iload_n dX7_canBeBetter_57 rfl rfl ?_
  obtain ⟨v15, hv15, hf⟩ := zbind hf
  refine x_ild dX7_canBeBetter_58 rfl hv15 ?_
  refine x_iadd dX7_canBeBetter_59 ?_
  refine x_iconst (v := 2) dX7_canBeBetter_60 (by decide) ?_
  refine x_idiv dX7_canBeBetter_61 (by decide) ?_
  refine x_mmin dX7_canBeBetter_62 ml_X7_68 (Nat.le_of_ble_eq_true rfl) (Nat.le_of_ble_eq_true rfl) ?_
  obtain ⟨x8_16, ex8_16, hf⟩ := zletE hf
  refine x_istore dX7_canBeBetter_65 (Nat.le_of_ble_eq_true rfl) ex8_16 ?_
  refine x_iload dX7_canBeBetter_67 rfl ?_
  refine x_iload dX7_canBeBetter_69 rfl ?_
  refine x_iload dX7_canBeBetter_71 rfl ?_
  refine x_iand dX7_canBeBetter_73 ?_
  obtain ⟨r19, M18, hq17, hf⟩ := zb2E hf
  refine x_invSi dX7_canBeBetter_74 mk_J6_bitCount_0f7a4 ml_X7_62 (cc_J6_bitCount_0f7a4 hq17) (Nat.le_of_ble_eq_true rfl) rfl (Nat.le_of_ble_eq_true rfl) rfl ?_
  refine x_aload_n dX7_canBeBetter_77 rfl rfl ?_
  refine x_getS (r := 44) dX7_canBeBetter_78 fl_X7_36 rfl rfl ?_
  refine x_iload_n dX7_canBeBetter_81 rfl rfl ?_
  obtain ⟨v20, hv20, hf⟩ := zbind hf
  refine x_ild dX7_canBeBetter_82 rfl hv20 ?_
  refine x_iadd dX7_canBeBetter_83 ?_
  refine x_mmin dX7_canBeBetter_84 ml_X7_68 (Nat.le_of_ble_eq_true rfl) (Nat.le_of_ble_eq_true rfl) ?_
  obtain ⟨x8_21, ex8_21, hf⟩ := zletE hf
  refine x_istore dX7_canBeBetter_87 (Nat.le_of_ble_eq_true rfl) ex8_21 ?_
  refine x_iload dX7_canBeBetter_89 rfl ?_
  refine x_aload_n dX7_canBeBetter_91 rfl rfl ?_
  refine x_getI dX7_canBeBetter_92 fl_X7_49 rfl rfl ?_
  refine x_icmp_eq (tgt := 113) dX7_canBeBetter_95 (by decide) (fun c95 => ?_) (fun c95 => ?_)
  · replace hf := zif_t c95 hf
    refine x_iload dX7_canBeBetter_113 rfl ?_
    refine x_iconst (v := 0) dX7_canBeBetter_115 (by decide) ?_
    refine x_iconst (v := 2) dX7_canBeBetter_116 (by decide) ?_
    refine x_aload_n dX7_canBeBetter_117 rfl rfl ?_
    refine x_getI dX7_canBeBetter_118 fl_X7_49 rfl rfl ?_
    refine x_imul dX7_canBeBetter_121 ?_
    refine x_iload dX7_canBeBetter_122 rfl ?_
    refine x_isub dX7_canBeBetter_124 ?_
    refine x_mmax dX7_canBeBetter_125 ml_X7_84 (Nat.le_of_ble_eq_true rfl) (Nat.le_of_ble_eq_true rfl) ?_
    refine x_iadd dX7_canBeBetter_128 ?_
    refine x_aload_n dX7_canBeBetter_129 rfl rfl ?_
    refine x_getI dX7_canBeBetter_130 fl_X7_52 rfl rfl ?_
    refine x_icmp_ge (tgt := 140) dX7_canBeBetter_133 (by decide) (fun c133 => ?_) (fun c133 => ?_)
    · replace hf := zif_t c133 hf
      refine x_iconst (v := 0) dX7_canBeBetter_140 (by decide) ?_
      exact x_zret rfl rfl dX7_canBeBetter_141 (zretI hf)
    · replace hf := zif_f c133 hf
      refine x_iconst (v := 1) dX7_canBeBetter_136 (by decide) ?_
      refine x_goto (tgt := 141) dX7_canBeBetter_137 (by decide) ?_
      exact x_zret rfl rfl dX7_canBeBetter_141 (zretI hf)
  · replace hf := zif_f c95 hf
    refine x_iload dX7_canBeBetter_98 rfl ?_
    refine x_aload_n dX7_canBeBetter_100 rfl rfl ?_
    refine x_getI dX7_canBeBetter_101 fl_X7_49 rfl rfl ?_
    refine x_icmp_le (tgt := 111) dX7_canBeBetter_104 (by decide) (fun c104 => ?_) (fun c104 => ?_)
    · replace hf := zif_t c104 hf
      refine x_iconst (v := 0) dX7_canBeBetter_111 (by decide) ?_
      exact x_zret rfl rfl dX7_canBeBetter_112 (zretI hf)
    · replace hf := zif_f c104 hf
      refine x_iconst (v := 1) dX7_canBeBetter_107 (by decide) ?_
      refine x_goto (tgt := 112) dX7_canBeBetter_108 (by decide) ?_
      exact x_zret rfl rfl dX7_canBeBetter_112 (zretI hf)
theorem cc_X7_tryFrom_L201 {l : Launch} {G : zG} {N : Nat} {D : Nat} {rc : Int32 → Int32 → Int32 → Int32 → Int32 → zMem → Option zMem} {k93 : Int32 → Int32 → Int32 → Int32 → Int32 → Int32 → zMem → Option zMem} (hrc : ∀ {x1 : Int32} {x2 : Int32} {x3 : Int32} {x4 : Int32} {x5 : Int32} {M : zMem} {M1 : zMem}, rc x1 x2 x3 x4 x5 M = some M1 → Ca l G (D + 2) mX7_tryFrom [.ref (G.2.2.1 36), .int x1, .int x2, .int x3, .int x4, .int x5] M none M1) (hk93 : ∀ {x1 : Int32} {x2 : Int32} {x3 : Int32} {x4 : Int32} {x5 : Int32} {x6 : Int32} {M : zMem} {M1 : zMem}, k93 x1 x2 x3 x4 x5 x6 M = some M1 → Ex l G (D + 1 + 2) mX7_tryFrom 93 [(0, .ref (G.2.2.1 36)), (1, .int x1), (2, .int x2), (3, .int x3), (4, .int x4), (5, .int x5), (6, .int x6)] [] M (zqV M1)) {x1 : Int32} {x2 : Int32} {x3 : Int32} {x4 : Int32} {x5 : Int32} {x6 : Int32} {M : zMem} {M1 : zMem} (hf : fX7_tryFrom_L201 N rc k93 x1 x2 x3 x4 x5 x6 M = some M1) : Ex l G (D + 1 + 2) mX7_tryFrom 201 [(0, .ref (G.2.2.1 36)), (1, .int x1), (2, .int x2), (3, .int x3), (4, .int x4), (5, .int x5), (6, .int x6)] [] M (zqV M1) := by
  rw [fX7_tryFrom_L201] at hf
  obtain ⟨x6_18, ex6_18, hf⟩ := zletE hf
  refine x_iinc (c0 := 1) dX7_tryFrom_201 rfl (Nat.le_of_ble_eq_true rfl) (by decide) ex6_18 ?_
  refine x_goto (tgt := 93) dX7_tryFrom_204 (by decide) ?_
  exact Ex.sb (hk93 hf) ⟨rfl, rfl, rfl, rfl, rfl, rfl, rfl, trivial⟩
theorem cc_X7_tryFrom_L169 {l : Launch} {G : zG} {N : Nat} {D : Nat} {rc : Int32 → Int32 → Int32 → Int32 → Int32 → zMem → Option zMem} {k93 : Int32 → Int32 → Int32 → Int32 → Int32 → Int32 → zMem → Option zMem} {k103 : Int32 → Int32 → Int32 → Int32 → Int32 → Int32 → Int32 → zMem → Option zMem} (hrc : ∀ {x1 : Int32} {x2 : Int32} {x3 : Int32} {x4 : Int32} {x5 : Int32} {M : zMem} {M1 : zMem}, rc x1 x2 x3 x4 x5 M = some M1 → Ca l G (D + 2) mX7_tryFrom [.ref (G.2.2.1 36), .int x1, .int x2, .int x3, .int x4, .int x5] M none M1) (hk93 : ∀ {x1 : Int32} {x2 : Int32} {x3 : Int32} {x4 : Int32} {x5 : Int32} {x6 : Int32} {M : zMem} {M1 : zMem}, k93 x1 x2 x3 x4 x5 x6 M = some M1 → Ex l G (D + 1 + 2) mX7_tryFrom 93 [(0, .ref (G.2.2.1 36)), (1, .int x1), (2, .int x2), (3, .int x3), (4, .int x4), (5, .int x5), (6, .int x6)] [] M (zqV M1)) (hk103 : ∀ {x1 : Int32} {x2 : Int32} {x3 : Int32} {x4 : Int32} {x5 : Int32} {x6 : Int32} {x7 : Int32} {M : zMem} {M1 : zMem}, k103 x1 x2 x3 x4 x5 x6 x7 M = some M1 → Ex l G (D + 1 + 2) mX7_tryFrom 103 [(0, .ref (G.2.2.1 36)), (1, .int x1), (2, .int x2), (3, .int x3), (4, .int x4), (5, .int x5), (6, .int x6), (7, .int x7)] [] M (zqV M1)) {x1 : Int32} {x2 : Int32} {x3 : Int32} {x4 : Int32} {x5 : Int32} {x6 : Int32} {x7 : Int32} {x8 : Int32} {s0 : Int32} {M : zMem} {M1 : zMem} (hf : fX7_tryFrom_L169 N rc k93 k103 x1 x2 x3 x4 x5 x6 x7 x8 s0 M = some M1) : Ex l G (D + 1 + 2) mX7_tryFrom 169 [(0, .ref (G.2.2.1 36)), (1, .int x1), (2, .int x2), (3, .int x3), (4, .int x4), (5, .int x5), (6, .int x6), (7, .int x7), (8, .int x8)] [.int s0] M (zqV M1) := by
  rw [fX7_tryFrom_L169] at hf
  refine x_istore dX7_tryFrom_169 (Nat.le_of_ble_eq_true rfl) rfl ?_
  refine x_aload_n dX7_tryFrom_171 rfl rfl ?_
  refine x_iload_n dX7_tryFrom_172 rfl rfl ?_
  refine x_iconst (v := 1) dX7_tryFrom_173 (by decide) ?_
  refine x_iadd dX7_tryFrom_174 ?_
  refine x_iload_n dX7_tryFrom_175 rfl rfl ?_
  refine x_iload dX7_tryFrom_176 rfl ?_
  refine x_ior dX7_tryFrom_178 ?_
  refine x_iload_n dX7_tryFrom_179 rfl rfl ?_
  refine x_iload_n dX7_tryFrom_180 rfl rfl ?_
  refine x_iload dX7_tryFrom_181 rfl ?_
  refine x_iand dX7_tryFrom_183 ?_
  refine x_ior dX7_tryFrom_184 ?_
  refine x_iload dX7_tryFrom_185 rfl ?_
  refine x_iload dX7_tryFrom_187 rfl ?_
  refine x_iload dX7_tryFrom_189 rfl ?_
  refine x_iadd dX7_tryFrom_191 ?_
  obtain ⟨M20, hq19, hf⟩ := zbind hf
  refine x_invVv dX7_tryFrom_192 mk_X7_tryFrom ml_X7_58 (hrc hq19) rfl rfl rfl (by omega) rfl (Nat.le_of_ble_eq_true rfl) rfl ?_
  obtain ⟨x7_21, ex7_21, hf⟩ := zletE hf
  refine x_iinc (c0 := 1) dX7_tryFrom_195 rfl (Nat.le_of_ble_eq_true rfl) (by decide) ex7_21 ?_
  refine x_goto (tgt := 103) dX7_tryFrom_198 (by decide) ?_
  exact Ex.sb (hk103 hf) ⟨rfl, rfl, rfl, rfl, rfl, rfl, rfl, rfl, trivial⟩
theorem cc_X7_tryFrom_L103 {l : Launch} {G : zG} {N : Nat} {D : Nat} {rc : Int32 → Int32 → Int32 → Int32 → Int32 → zMem → Option zMem} {k93 : Int32 → Int32 → Int32 → Int32 → Int32 → Int32 → zMem → Option zMem} (hrc : ∀ {x1 : Int32} {x2 : Int32} {x3 : Int32} {x4 : Int32} {x5 : Int32} {M : zMem} {M1 : zMem}, rc x1 x2 x3 x4 x5 M = some M1 → Ca l G (D + 2) mX7_tryFrom [.ref (G.2.2.1 36), .int x1, .int x2, .int x3, .int x4, .int x5] M none M1) (hk93 : ∀ {x1 : Int32} {x2 : Int32} {x3 : Int32} {x4 : Int32} {x5 : Int32} {x6 : Int32} {M : zMem} {M1 : zMem}, k93 x1 x2 x3 x4 x5 x6 M = some M1 → Ex l G (D + 1 + 2) mX7_tryFrom 93 [(0, .ref (G.2.2.1 36)), (1, .int x1), (2, .int x2), (3, .int x3), (4, .int x4), (5, .int x5), (6, .int x6)] [] M (zqV M1)) : ∀ {n : Nat} {x1 : Int32} {x2 : Int32} {x3 : Int32} {x4 : Int32} {x5 : Int32} {x6 : Int32} {x7 : Int32} {M : zMem} {M1 : zMem}, fX7_tryFrom_L103 N rc k93 n x1 x2 x3 x4 x5 x6 x7 M = some M1 → Ex l G (D + 1 + 2) mX7_tryFrom 103 [(0, .ref (G.2.2.1 36)), (1, .int x1), (2, .int x2), (3, .int x3), (4, .int x4), (5, .int x5), (6, .int x6), (7, .int x7)] [] M (zqV M1) := by
  intro n
  induction n with
  | zero => intro x1 x2 x3 x4 x5 x6 x7 M M1 hf; cases hf
  | succ n ih =>
    intro x1 x2 x3 x4 x5 x6 x7 M M1 hf
    rw [fX7_tryFrom_L103] at hf
    refine x_iload dX7_tryFrom_103 rfl ?_
    refine x_aload_n dX7_tryFrom_105 rfl rfl ?_
    refine x_getS (r := 38) dX7_tryFrom_106 fl_X7_17 rfl rfl ?_
    refine x_iload_n dX7_tryFrom_109 rfl rfl ?_
    obtain ⟨v13, hv13, hf⟩ := zbind hf
    refine x_ild dX7_tryFrom_110 rfl hv13 ?_
    refine x_icmp_gt (tgt := 201) dX7_tryFrom_111 (by decide) (fun c111 => ?_) (fun c111 => ?_)
    · replace hf := zif_t c111 hf
      exact Ex.sb (cc_X7_tryFrom_L201 hrc hk93 hf) ⟨rfl, rfl, rfl, rfl, rfl, rfl, rfl, trivial⟩
    · replace hf := zif_f c111 hf
      refine x_iconst (v := 1) dX7_tryFrom_114 (by decide) ?_
      refine x_iload dX7_tryFrom_115 rfl ?_
      refine x_ishl dX7_tryFrom_117 ?_
      refine x_iconst (v := 1) dX7_tryFrom_118 (by decide) ?_
      refine x_isub dX7_tryFrom_119 ?_
      refine x_iload dX7_tryFrom_120 rfl ?_
      refine x_ishl dX7_tryFrom_122 ?_
      obtain ⟨x8_14, ex8_14, hf⟩ := zletE hf
      refine x_istore dX7_tryFrom_123 (Nat.le_of_ble_eq_true rfl) ex8_14 ?_
      refine x_iload dX7_tryFrom_125 rfl ?_
      refine x_aload_n dX7_tryFrom_127 rfl rfl ?_
      refine x_getS (r := 37) dX7_tryFrom_128 fl_X7_11 rfl rfl ?_
      refine x_iload_n dX7_tryFrom_131 rfl rfl ?_
      obtain ⟨v15, hv15, hf⟩ := zbind hf
      refine x_ild dX7_tryFrom_132 rfl hv15 ?_
      refine x_iconst (v := -1) dX7_tryFrom_133 (by decide) ?_
      refine x_ixor dX7_tryFrom_134 ?_
      refine x_iand dX7_tryFrom_135 ?_
      refine x_if_eq (tgt := 142) dX7_tryFrom_136 (by decide) (fun c136 => ?_) (fun c136 => ?_)
      · replace hf := zif_t c136 hf
        refine x_aload_n dX7_tryFrom_142 rfl rfl ?_
        refine x_getS (r := 45) dX7_tryFrom_143 fl_X7_39 rfl rfl ?_
        refine x_iload_n dX7_tryFrom_146 rfl rfl ?_
        refine x_iload dX7_tryFrom_147 rfl ?_
        obtain ⟨M16, hM16, hf⟩ := zbind hf
        refine x_ist dX7_tryFrom_149 rfl hM16 ?_
        refine x_aload_n dX7_tryFrom_150 rfl rfl ?_
        refine x_getS (r := 39) dX7_tryFrom_151 fl_X7_20 rfl rfl ?_
        refine x_iload_n dX7_tryFrom_154 rfl rfl ?_
        obtain ⟨v17, hv17, hf⟩ := zbind hf
        refine x_zld dX7_tryFrom_155 rfl hv17 ?_
        refine x_if_eq (tgt := 167) dX7_tryFrom_156 (by decide) (fun c156 => ?_) (fun c156 => ?_)
        · replace hf := zif_t c156 hf
          refine x_iload dX7_tryFrom_167 rfl ?_
          exact Ex.sb (cc_X7_tryFrom_L169 hrc hk93 ih hf) ⟨rfl, rfl, rfl, rfl, rfl, rfl, rfl, rfl, rfl, trivial⟩
        · replace hf := zif_f c156 hf
          refine x_iload dX7_tryFrom_159 rfl ?_
          refine x_iload dX7_tryFrom_161 rfl ?_
          refine x_ior dX7_tryFrom_163 ?_
          refine x_goto (tgt := 169) dX7_tryFrom_164 (by decide) ?_
          exact Ex.sb (cc_X7_tryFrom_L169 hrc hk93 ih hf) ⟨rfl, rfl, rfl, rfl, rfl, rfl, rfl, rfl, rfl, trivial⟩
      · replace hf := zif_f c136 hf
        refine x_goto (tgt := 201) dX7_tryFrom_139 (by decide) ?_
        exact Ex.sb (cc_X7_tryFrom_L201 hrc hk93 hf) ⟨rfl, rfl, rfl, rfl, rfl, rfl, rfl, trivial⟩
theorem cc_X7_tryFrom_L93 {l : Launch} {G : zG} {N : Nat} {D : Nat} {rc : Int32 → Int32 → Int32 → Int32 → Int32 → zMem → Option zMem} (hrc : ∀ {x1 : Int32} {x2 : Int32} {x3 : Int32} {x4 : Int32} {x5 : Int32} {M : zMem} {M1 : zMem}, rc x1 x2 x3 x4 x5 M = some M1 → Ca l G (D + 2) mX7_tryFrom [.ref (G.2.2.1 36), .int x1, .int x2, .int x3, .int x4, .int x5] M none M1) : ∀ {n : Nat} {x1 : Int32} {x2 : Int32} {x3 : Int32} {x4 : Int32} {x5 : Int32} {x6 : Int32} {M : zMem} {M1 : zMem}, fX7_tryFrom_L93 N rc n x1 x2 x3 x4 x5 x6 M = some M1 → Ex l G (D + 1 + 2) mX7_tryFrom 93 [(0, .ref (G.2.2.1 36)), (1, .int x1), (2, .int x2), (3, .int x3), (4, .int x4), (5, .int x5), (6, .int x6)] [] M (zqV M1) := by
  intro n
  induction n with
  | zero => intro x1 x2 x3 x4 x5 x6 M M1 hf; cases hf
  | succ n ih =>
    intro x1 x2 x3 x4 x5 x6 M M1 hf
    rw [fX7_tryFrom_L93] at hf
    refine x_iload dX7_tryFrom_93 rfl ?_
    refine x_bipush (v := 6) dX7_tryFrom_95 (by decide) ?_
    refine x_icmp_ge (tgt := 207) dX7_tryFrom_97 (by decide) (fun c97 => ?_) (fun c97 => ?_)
    · replace hf := zif_t c97 hf
      exact x_vret rfl dX7_tryFrom_207 (zretV hf)
    · replace hf := zif_f c97 hf
      refine x_iconst (v := 1) dX7_tryFrom_100 (by decide) ?_
      refine x_istore dX7_tryFrom_101 (Nat.le_of_ble_eq_true rfl) rfl ?_
      exact Ex.sb (cc_X7_tryFrom_L103 hrc ih hf) ⟨rfl, rfl, rfl, rfl, rfl, rfl, rfl, rfl, trivial⟩
theorem cc_X7_tryFrom {l : Launch} {G : zG} {N : Nat} : ∀ {D : Nat} {x1 : Int32} {x2 : Int32} {x3 : Int32} {x4 : Int32} {x5 : Int32} {M : zMem} {M1 : zMem}, fX7_tryFrom N D x1 x2 x3 x4 x5 M = some M1 → Ca l G (D + 2) mX7_tryFrom [.ref (G.2.2.1 36), .int x1, .int x2, .int x3, .int x4, .int x5] M none M1 := by
  intro D
  induction D with
  | zero => intro x1 x2 x3 x4 x5 M M1 hf; cases hf
  | succ D ih =>
    intro x1 x2 x3 x4 x5 M M1 hf
    rw [fX7_tryFrom] at hf
    obtain ⟨rc, erc, hf⟩ := zletE hf
    have hrc := @ih
    rw [← erc] at hrc
    refine Ca.of (by decide +kernel) (Nat.le_of_ble_eq_true rfl) rfl ?_
    refine x_iload_n dX7_tryFrom_0 rfl rfl ?_
    refine x_if_lt (tgt := 26) dX7_tryFrom_1 (by decide) (fun c1 => ?_) (fun c1 => ?_)
    · replace hf := zif_t c1 hf
      exact x_vret rfl dX7_tryFrom_26 (zretV hf)
    · replace hf := zif_f c1 hf
      refine x_iload_n dX7_tryFrom_4 rfl rfl ?_
      refine x_aload_n dX7_tryFrom_5 rfl rfl ?_
      refine x_getI dX7_tryFrom_6 fl_X7_45 rfl rfl ?_
      refine x_icmp_gt (tgt := 26) dX7_tryFrom_9 (by decide) (fun c9 => ?_) (fun c9 => ?_)
      · replace hf := zif_t c9 hf
        exact x_vret rfl dX7_tryFrom_26 (zretV hf)
      · replace hf := zif_f c9 hf
        refine x_aload_n dX7_tryFrom_12 rfl rfl ?_
        refine x_iload_n dX7_tryFrom_13 rfl rfl ?_
        refine x_iload_n dX7_tryFrom_14 rfl rfl ?_
        refine x_iload_n dX7_tryFrom_15 rfl rfl ?_
        refine x_iload dX7_tryFrom_16 rfl ?_
        refine x_iload dX7_tryFrom_18 rfl ?_
        obtain ⟨r3, M2, hq1, hf⟩ := zb2E hf
        refine x_invVi dX7_tryFrom_20 mk_X7_canBeBetter ml_X7_74 (cc_X7_canBeBetter hq1) rfl rfl rfl (by omega) rfl (Nat.le_of_ble_eq_true rfl) rfl ?_
        refine x_if_ne (tgt := 27) dX7_tryFrom_23 (by decide) (fun c23 => ?_) (fun c23 => ?_)
        · replace hf := zif_f c23 hf
          refine x_iload_n dX7_tryFrom_27 rfl rfl ?_
          refine x_aload_n dX7_tryFrom_28 rfl rfl ?_
          refine x_getI dX7_tryFrom_29 fl_X7_45 rfl rfl ?_
          refine x_icmp_ne (tgt := 70) dX7_tryFrom_32 (by decide) (fun c32 => ?_) (fun c32 => ?_)
          · replace hf := zif_f c32 hf
            refine x_aload_n dX7_tryFrom_70 rfl rfl ?_
            refine x_getS (r := 45) dX7_tryFrom_71 fl_X7_39 rfl rfl ?_
            refine x_iload_n dX7_tryFrom_74 rfl rfl ?_
            refine x_iconst (v := 0) dX7_tryFrom_75 (by decide) ?_
            obtain ⟨M4, hM4, hf⟩ := zbind hf
            refine x_ist dX7_tryFrom_76 rfl hM4 ?_
            refine x_aload_n dX7_tryFrom_77 rfl rfl ?_
            refine x_iload_n dX7_tryFrom_78 rfl rfl ?_
            refine x_iconst (v := 1) dX7_tryFrom_79 (by decide) ?_
            refine x_iadd dX7_tryFrom_80 ?_
            refine x_iload_n dX7_tryFrom_81 rfl rfl ?_
            refine x_iload_n dX7_tryFrom_82 rfl rfl ?_
            refine x_iload dX7_tryFrom_83 rfl ?_
            refine x_iload dX7_tryFrom_85 rfl ?_
            obtain ⟨M6, hq5, hf⟩ := zbind hf
            refine x_invVv dX7_tryFrom_87 mk_X7_tryFrom ml_X7_58 (hrc hq5) rfl rfl rfl (by omega) rfl (Nat.le_of_ble_eq_true rfl) rfl ?_
            refine x_iconst (v := 0) dX7_tryFrom_90 (by decide) ?_
            refine x_istore dX7_tryFrom_91 (Nat.le_of_ble_eq_true rfl) rfl ?_
            exact Ex.sb (cc_X7_tryFrom_L93 hrc hf) ⟨rfl, rfl, rfl, rfl, rfl, rfl, rfl, trivial⟩
          · replace hf := zif_t c32 hf
            refine x_aload_n dX7_tryFrom_35 rfl rfl ?_
            refine x_iload_n dX7_tryFrom_36 rfl rfl ?_
            refine x_iload dX7_tryFrom_37 rfl ?_
            refine x_iand dX7_tryFrom_39 ?_
            obtain ⟨r9, M8, hq7, hf⟩ := zb2E hf
            refine x_invSi dX7_tryFrom_40 mk_J6_bitCount_0f7a4 ml_X7_62 (cc_J6_bitCount_0f7a4 hq7) (by omega) rfl (Nat.le_of_ble_eq_true rfl) rfl ?_
            obtain ⟨M10, eM10, hf⟩ := zletE hf
            refine x_putI dX7_tryFrom_43 fp_X7_49 rfl rfl rfl rfl eM10 ?_
            refine x_aload_n dX7_tryFrom_46 rfl rfl ?_
            refine x_iload dX7_tryFrom_47 rfl ?_
            obtain ⟨M11, eM11, hf⟩ := zletE hf
            refine x_putI dX7_tryFrom_49 fp_X7_52 rfl rfl rfl rfl eM11 ?_
            refine x_aload_n dX7_tryFrom_52 rfl rfl ?_
            refine x_getS (r := 45) dX7_tryFrom_53 fl_X7_39 rfl rfl ?_
            refine x_iconst (v := 0) dX7_tryFrom_56 (by decide) ?_
            refine x_aload_n dX7_tryFrom_57 rfl rfl ?_
            refine x_getS (r := 46) dX7_tryFrom_58 fl_X7_42 rfl rfl ?_
            refine x_iconst (v := 0) dX7_tryFrom_61 (by decide) ?_
            refine x_aload_n dX7_tryFrom_62 rfl rfl ?_
            refine x_getI dX7_tryFrom_63 fl_X7_45 rfl rfl ?_
            obtain ⟨M12, hM12, hf⟩ := zbind hf
            refine x_copy (sa := 45) (da := 46) dX7_tryFrom_66 ml_X7_78 rfl rfl hM12 (by omega) (Nat.le_of_ble_eq_true rfl) ?_
            exact x_vret rfl dX7_tryFrom_69 (zretV hf)
        · replace hf := zif_t c23 hf
          exact x_vret rfl dX7_tryFrom_26 (zretV hf)
theorem cc_X7_findBest {l : Launch} {G : zG} {N : Nat}   {M : zMem} {r : Int32} {M1 : zMem} (hf : fX7_findBest N M = some (r, M1)) : Ca l G 10 mX7_findBest [.ref (G.2.2.1 36)] M (some (.int r)) M1 := by
  refine Ca.of (by decide +kernel) (Nat.le_of_ble_eq_true rfl) rfl ?_
  rw [fX7_findBest] at hf
  refine x_aload_n dX7_findBest_0 rfl rfl ?_
  obtain ⟨M2, hq1, hf⟩ := zbind hf
  refine x_invVv dX7_findBest_1 mk_X7_lookAhead ml_X7_55 (cc_X7_lookAhead hq1) rfl rfl rfl (Nat.le_of_ble_eq_true rfl) rfl (Nat.le_of_ble_eq_true rfl) rfl ?_
  refine x_aload_n dX7_findBest_4 rfl rfl ?_
  refine x_iconst (v := -1) dX7_findBest_5 (by decide) ?_
  obtain ⟨M3, eM3, hf⟩ := zletE hf
  refine x_putI dX7_findBest_6 fp_X7_49 rfl rfl rfl rfl eM3 ?_
  refine x_aload_n dX7_findBest_9 rfl rfl ?_
  refine x_iconst (v := 0) dX7_findBest_10 (by decide) ?_
  obtain ⟨M4, eM4, hf⟩ := zletE hf
  refine x_putI dX7_findBest_11 fp_X7_52 rfl rfl rfl rfl eM4 ?_
  refine x_aload_n dX7_findBest_14 rfl rfl ?_
  refine x_iconst (v := 0) dX7_findBest_15 (by decide) ?_
  refine x_iconst (v := 0) dX7_findBest_16 (by decide) ?_
  refine x_iconst (v := 0) dX7_findBest_17 (by decide) ?_
  refine x_iconst (v := 0) dX7_findBest_18 (by decide) ?_
  refine x_iconst (v := 0) dX7_findBest_19 (by decide) ?_
  obtain ⟨M6, hq5, hf⟩ := zbind hf
  refine x_invVv dX7_findBest_20 mk_X7_tryFrom ml_X7_58 (cc_X7_tryFrom hq5) rfl rfl rfl (Nat.le_of_ble_eq_true rfl) rfl (Nat.le_of_ble_eq_true rfl) rfl ?_
  refine x_aload_n dX7_findBest_23 rfl rfl ?_
  refine x_getI dX7_findBest_24 fl_X7_49 rfl rfl ?_
  exact x_iret rfl dX7_findBest_27 (zretI hf)
theorem cc_X8_length {l : Launch} {G : zG}   {M : zMem} {r : Int32} {M1 : zMem} (hf : fX8_length M = some (r, M1)) : Ca l G 0 mX8_length [.ref (G.2.2.1 1)] M (some (.int r)) M1 := by
  refine Ca.of (by decide +kernel) (Nat.le_of_ble_eq_true rfl) rfl ?_
  rw [fX8_length] at hf
  refine x_aload_n dX8_length_0 rfl rfl ?_
  refine x_getI dX8_length_1 fl_X8_15 rfl rfl ?_
  exact x_iret rfl dX8_length_4 (zretI hf)
theorem cc_X8_hasRoomFor {l : Launch} {G : zG} {x1 : Int32}  {M : zMem} {r : Int32} {M1 : zMem} (hf : fX8_hasRoomFor x1 M = some (r, M1)) : Ca l G 0 mX8_hasRoomFor [.ref (G.2.2.1 1), .int x1] M (some (.int r)) M1 := by
  refine Ca.of (by decide +kernel) (Nat.le_of_ble_eq_true rfl) rfl ?_
  rw [fX8_hasRoomFor] at hf
  refine x_aload_n dX8_hasRoomFor_0 rfl rfl ?_
  refine x_getI dX8_hasRoomFor_1 fl_X8_15 rfl rfl ?_
  refine x_iload_n dX8_hasRoomFor_4 rfl rfl ?_
  refine x_iadd dX8_hasRoomFor_5 ?_
  refine x_sipush (v := 2000) dX8_hasRoomFor_6 (by decide) ?_
  refine x_icmp_gt (tgt := 16) dX8_hasRoomFor_9 (by decide) (fun c9 => ?_) (fun c9 => ?_)
  · replace hf := zif_t c9 hf
    refine x_iconst (v := 0) dX8_hasRoomFor_16 (by decide) ?_
    exact x_zret rfl rfl dX8_hasRoomFor_17 (zretI hf)
  · replace hf := zif_f c9 hf
    refine x_iconst (v := 1) dX8_hasRoomFor_12 (by decide) ?_
    refine x_goto (tgt := 17) dX8_hasRoomFor_13 (by decide) ?_
    exact x_zret rfl rfl dX8_hasRoomFor_17 (zretI hf)
theorem cc_X8_append_L40 {l : Launch} {G : zG} {N : Nat} {k3 : Int32 → Int32 → zMem → Option zMem} (hk3 : ∀ {x1 : Int32} {x2 : Int32} {M : zMem} {M1 : zMem}, k3 x1 x2 M = some M1 → Ex l G 0 mX8_append 3 [(0, .ref (G.2.2.1 1)), (1, .int x1), (2, .int x2)] [] M (zqV M1)) {x1 : Int32} {x2 : Int32} {M : zMem} {M1 : zMem} (hf : fX8_append_L40 N k3 x1 x2 M = some M1) : Ex l G 0 mX8_append 40 [(0, .ref (G.2.2.1 1)), (1, .int x1), (2, .int x2)] [] M (zqV M1) := by
  rw [fX8_append_L40] at hf
  obtain ⟨x2_3, ex2_3, hf⟩ := zletE hf
  refine x_iinc (c0 := -8) dX8_append_40 rfl (Nat.le_of_ble_eq_true rfl) (by decide) ex2_3 ?_
  refine x_goto (tgt := 3) dX8_append_43 (by decide) ?_
  exact Ex.sb (hk3 hf) ⟨rfl, rfl, rfl, trivial⟩
theorem cc_X8_append_L3 {l : Launch} {G : zG} {N : Nat} : ∀ {n : Nat} {x1 : Int32} {x2 : Int32} {M : zMem} {M1 : zMem}, fX8_append_L3 N n x1 x2 M = some M1 → Ex l G 0 mX8_append 3 [(0, .ref (G.2.2.1 1)), (1, .int x1), (2, .int x2)] [] M (zqV M1) := by
  intro n
  induction n with
  | zero => intro x1 x2 M M1 hf; cases hf
  | succ n ih =>
    intro x1 x2 M M1 hf
    rw [fX8_append_L3] at hf
    refine x_iload_n dX8_append_3 rfl rfl ?_
    refine x_if_lt (tgt := 46) dX8_append_4 (by decide) (fun c4 => ?_) (fun c4 => ?_)
    · replace hf := zif_t c4 hf
      exact x_vret rfl dX8_append_46 (zretV hf)
    · replace hf := zif_f c4 hf
      refine x_aload_n dX8_append_7 rfl rfl ?_
      refine x_getI dX8_append_8 fl_X8_15 rfl rfl ?_
      refine x_sipush (v := 2000) dX8_append_11 (by decide) ?_
      refine x_icmp_ge (tgt := 40) dX8_append_14 (by decide) (fun c14 => ?_) (fun c14 => ?_)
      · replace hf := zif_t c14 hf
        exact Ex.sb (cc_X8_append_L40 ih hf) ⟨rfl, rfl, rfl, trivial⟩
      · replace hf := zif_f c14 hf
        refine x_aload_n dX8_append_17 rfl rfl ?_
        refine x_getS (r := 2) dX8_append_18 fl_X8_11 rfl rfl ?_
        refine x_aload_n dX8_append_21 rfl rfl ?_
        refine x_getI dX8_append_22 fl_X8_15 rfl rfl ?_
        refine x_iload_n dX8_append_25 rfl rfl ?_
        refine x_iload_n dX8_append_26 rfl rfl ?_
        refine x_iushr dX8_append_27 ?_
        refine x_i2b dX8_append_28 ?_
        obtain ⟨M1, hM1, hf⟩ := zbind hf
        refine x_bst dX8_append_29 rfl hM1 ?_
        refine x_aload_n dX8_append_30 rfl rfl ?_
        refine x_dup dX8_append_31 rfl ?_
        refine x_getI dX8_append_32 fl_X8_15 rfl rfl ?_
        refine x_iconst (v := 1) dX8_append_35 (by decide) ?_
        refine x_iadd dX8_append_36 ?_
        obtain ⟨M2, eM2, hf⟩ := zletE hf
        refine x_putI dX8_append_37 fp_X8_15 rfl rfl rfl rfl eM2 ?_
        exact Ex.sb (cc_X8_append_L40 ih hf) ⟨rfl, rfl, rfl, trivial⟩
theorem cc_X8_append {l : Launch} {G : zG} {N : Nat} {x1 : Int32}  {M : zMem} {M1 : zMem} (hf : fX8_append N x1 M = some M1) : Ca l G 0 mX8_append [.ref (G.2.2.1 1), .int x1] M none M1 := by
  refine Ca.of (by decide +kernel) (Nat.le_of_ble_eq_true rfl) rfl ?_
  rw [fX8_append] at hf
  refine x_bipush (v := 24) dX8_append_0 (by decide) ?_
  refine x_istore_n dX8_append_2 rfl (Nat.le_of_ble_eq_true rfl) rfl ?_
  exact Ex.sb (cc_X8_append_L3  hf) ⟨rfl, rfl, rfl, trivial⟩
theorem cc_X8_cutTo {l : Launch} {G : zG} {x1 : Int32}  {M : zMem} {M1 : zMem} (hf : fX8_cutTo x1 M = some M1) : Ca l G 0 mX8_cutTo [.ref (G.2.2.1 1), .int x1] M none M1 := by
  refine Ca.of (by decide +kernel) (Nat.le_of_ble_eq_true rfl) rfl ?_
  rw [fX8_cutTo] at hf
  refine x_iload_n dX8_cutTo_0 rfl rfl ?_
  refine x_if_lt (tgt := 17) dX8_cutTo_1 (by decide) (fun c1 => ?_) (fun c1 => ?_)
  · replace hf := zif_t c1 hf
    exact x_vret rfl dX8_cutTo_17 (zretV hf)
  · replace hf := zif_f c1 hf
    refine x_iload_n dX8_cutTo_4 rfl rfl ?_
    refine x_aload_n dX8_cutTo_5 rfl rfl ?_
    refine x_getI dX8_cutTo_6 fl_X8_15 rfl rfl ?_
    refine x_icmp_gt (tgt := 17) dX8_cutTo_9 (by decide) (fun c9 => ?_) (fun c9 => ?_)
    · replace hf := zif_t c9 hf
      exact x_vret rfl dX8_cutTo_17 (zretV hf)
    · replace hf := zif_f c9 hf
      refine x_aload_n dX8_cutTo_12 rfl rfl ?_
      refine x_iload_n dX8_cutTo_13 rfl rfl ?_
      obtain ⟨M1, eM1, hf⟩ := zletE hf
      refine x_putI dX8_cutTo_14 fp_X8_15 rfl rfl rfl rfl eM1 ?_
      exact x_vret rfl dX8_cutTo_17 (zretV hf)
theorem cc_X9_stepCount {l : Launch} {G : zG}   {M : zMem} {r : Int32} {M1 : zMem} (hf : fX9_stepCount M = some (r, M1)) : Ca l G 0 mX9_stepCount [.ref (G.2.2.1 22)] M (some (.int r)) M1 := by
  refine Ca.of (by decide +kernel) (Nat.le_of_ble_eq_true rfl) rfl ?_
  rw [fX9_stepCount] at hf
  refine x_aload_n dX9_stepCount_0 rfl rfl ?_
  refine x_getI dX9_stepCount_1 fl_X9_28 rfl rfl ?_
  exact x_iret rfl dX9_stepCount_4 (zretI hf)
theorem cc_X9_addVolunteer {l : Launch} {G : zG} {x1 : Int32}  {M : zMem} {r : Int32} {M1 : zMem} (hf : fX9_addVolunteer x1 M = some (r, M1)) : Ca l G 0 mX9_addVolunteer [.ref (G.2.2.1 22), .int x1] M (some (.int r)) M1 := by
  refine Ca.of (by decide +kernel) (Nat.le_of_ble_eq_true rfl) rfl ?_
  rw [fX9_addVolunteer] at hf
  refine x_aload_n dX9_addVolunteer_0 rfl rfl ?_
  refine x_getI dX9_addVolunteer_1 fl_X9_18 rfl rfl ?_
  refine x_bipush (v := 8) dX9_addVolunteer_4 (by decide) ?_
  refine x_icmp_lt (tgt := 11) dX9_addVolunteer_6 (by decide) (fun c6 => ?_) (fun c6 => ?_)
  · replace hf := zif_t c6 hf
    refine x_aload_n dX9_addVolunteer_11 rfl rfl ?_
    refine x_getS (r := 23) dX9_addVolunteer_12 fl_X9_11 rfl rfl ?_
    refine x_aload_n dX9_addVolunteer_15 rfl rfl ?_
    refine x_getI dX9_addVolunteer_16 fl_X9_18 rfl rfl ?_
    refine x_iload_n dX9_addVolunteer_19 rfl rfl ?_
    obtain ⟨M1, hM1, hf⟩ := zbind hf
    refine x_ist dX9_addVolunteer_20 rfl hM1 ?_
    refine x_aload_n dX9_addVolunteer_21 rfl rfl ?_
    refine x_dup dX9_addVolunteer_22 rfl ?_
    refine x_getI dX9_addVolunteer_23 fl_X9_18 rfl rfl ?_
    refine x_iconst (v := 1) dX9_addVolunteer_26 (by decide) ?_
    refine x_iadd dX9_addVolunteer_27 ?_
    obtain ⟨M2, eM2, hf⟩ := zletE hf
    refine x_putI dX9_addVolunteer_28 fp_X9_18 rfl rfl rfl rfl eM2 ?_
    refine x_aload_n dX9_addVolunteer_31 rfl rfl ?_
    refine x_getI dX9_addVolunteer_32 fl_X9_18 rfl rfl ?_
    refine x_iconst (v := 1) dX9_addVolunteer_35 (by decide) ?_
    refine x_isub dX9_addVolunteer_36 ?_
    exact x_iret rfl dX9_addVolunteer_37 (zretI hf)
  · replace hf := zif_f c6 hf
    refine x_iconst (v := -1) dX9_addVolunteer_9 (by decide) ?_
    exact x_iret rfl dX9_addVolunteer_10 (zretI hf)
theorem cc_X9_addStep {l : Launch} {G : zG} {x1 : Int32} {x2 : Int32}  {M : zMem} {r : Int32} {M1 : zMem} (hf : fX9_addStep x1 x2 M = some (r, M1)) : Ca l G 0 mX9_addStep [.ref (G.2.2.1 22), .int x1, .int x2] M (some (.int r)) M1 := by
  refine Ca.of (by decide +kernel) (Nat.le_of_ble_eq_true rfl) rfl ?_
  rw [fX9_addStep] at hf
  refine x_aload_n dX9_addStep_0 rfl rfl ?_
  refine x_getI dX9_addStep_1 fl_X9_28 rfl rfl ?_
  refine x_bipush (v := 8) dX9_addStep_4 (by decide) ?_
  refine x_icmp_lt (tgt := 11) dX9_addStep_6 (by decide) (fun c6 => ?_) (fun c6 => ?_)
  · replace hf := zif_t c6 hf
    refine x_aload_n dX9_addStep_11 rfl rfl ?_
    refine x_getS (r := 25) dX9_addStep_12 fl_X9_22 rfl rfl ?_
    refine x_aload_n dX9_addStep_15 rfl rfl ?_
    refine x_getI dX9_addStep_16 fl_X9_28 rfl rfl ?_
    refine x_iload_n dX9_addStep_19 rfl rfl ?_
    obtain ⟨M1, hM1, hf⟩ := zbind hf
    refine x_ist dX9_addStep_20 rfl hM1 ?_
    refine x_aload_n dX9_addStep_21 rfl rfl ?_
    refine x_getS (r := 26) dX9_addStep_22 fl_X9_25 rfl rfl ?_
    refine x_aload_n dX9_addStep_25 rfl rfl ?_
    refine x_getI dX9_addStep_26 fl_X9_28 rfl rfl ?_
    refine x_iload_n dX9_addStep_29 rfl rfl ?_
    obtain ⟨M2, hM2, hf⟩ := zbind hf
    refine x_ist dX9_addStep_30 rfl hM2 ?_
    refine x_aload_n dX9_addStep_31 rfl rfl ?_
    refine x_dup dX9_addStep_32 rfl ?_
    refine x_getI dX9_addStep_33 fl_X9_28 rfl rfl ?_
    refine x_iconst (v := 1) dX9_addStep_36 (by decide) ?_
    refine x_iadd dX9_addStep_37 ?_
    obtain ⟨M3, eM3, hf⟩ := zletE hf
    refine x_putI dX9_addStep_38 fp_X9_28 rfl rfl rfl rfl eM3 ?_
    refine x_aload_n dX9_addStep_41 rfl rfl ?_
    refine x_getI dX9_addStep_42 fl_X9_28 rfl rfl ?_
    refine x_iconst (v := 1) dX9_addStep_45 (by decide) ?_
    refine x_isub dX9_addStep_46 ?_
    exact x_iret rfl dX9_addStep_47 (zretI hf)
  · replace hf := zif_f c6 hf
    refine x_iconst (v := -1) dX9_addStep_9 (by decide) ?_
    exact x_iret rfl dX9_addStep_10 (zretI hf)
theorem cc_X9_rankOf {l : Launch} {G : zG} {x1 : Int32}  {M : zMem} {r : Int32} {M1 : zMem} (hf : fX9_rankOf x1 M = some (r, M1)) : Ca l G 1 mX9_rankOf [.ref (G.2.2.1 22), .int x1] M (some (.int r)) M1 := by
  refine Ca.of (by decide +kernel) (Nat.le_of_ble_eq_true rfl) rfl ?_
  rw [fX9_rankOf] at hf
  refine x_aload_n dX9_rankOf_0 rfl rfl ?_
  refine x_iload_n dX9_rankOf_1 rfl rfl ?_
  obtain ⟨r3, M2, hq1, hf⟩ := zb2E hf
  refine x_invVi dX9_rankOf_2 mk_X9_isVolunteer ml_X9_38 (cc_X9_isVolunteer hq1) rfl rfl rfl (Nat.le_of_ble_eq_true rfl) rfl (Nat.le_of_ble_eq_true rfl) rfl ?_
  refine x_if_eq (tgt := 17) dX9_rankOf_5 (by decide) (fun c5 => ?_) (fun c5 => ?_)
  · replace hf := zif_t c5 hf
    refine x_iconst (v := -1) dX9_rankOf_17 (by decide) ?_
    exact x_iret rfl dX9_rankOf_18 (zretI hf)
  · replace hf := zif_f c5 hf
    refine x_aload_n dX9_rankOf_8 rfl rfl ?_
    refine x_getS (r := 23) dX9_rankOf_9 fl_X9_11 rfl rfl ?_
    refine x_iload_n dX9_rankOf_12 rfl rfl ?_
    obtain ⟨v4, hv4, hf⟩ := zbind hf
    refine x_ild dX9_rankOf_13 rfl hv4 ?_
    refine x_goto (tgt := 18) dX9_rankOf_14 (by decide) ?_
    exact x_iret rfl dX9_rankOf_18 (zretI hf)
theorem cc_X9_teach_L48 {l : Launch} {G : zG} {N : Nat} : ∀ {n : Nat} {x1 : Int32} {x2 : Int32} {x3 : Int32} {x4 : Int32} {M : zMem} {r : Int32} {M1 : zMem}, fX9_teach_L48 N n x1 x2 x3 x4 M = some (r, M1) → Ex l G 2 mX9_teach 48 [(0, .ref (G.2.2.1 22)), (1, .int x1), (2, .int x2), (3, .int x3), (4, .int x4)] [] M (zqI r M1) := by
  intro n
  induction n with
  | zero => intro x1 x2 x3 x4 M r M1 hf; cases hf
  | succ n ih =>
    intro x1 x2 x3 x4 M r M1 hf
    rw [fX9_teach_L48] at hf
    refine x_iload dX9_teach_48 rfl ?_
    refine x_iload_n dX9_teach_50 rfl rfl ?_
    refine x_aload_n dX9_teach_51 rfl rfl ?_
    refine x_getS (r := 26) dX9_teach_52 fl_X9_25 rfl rfl ?_
    refine x_iload_n dX9_teach_55 rfl rfl ?_
    obtain ⟨v12, hv12, hf⟩ := zbind hf
    refine x_ild dX9_teach_56 rfl hv12 ?_
    refine x_iadd dX9_teach_57 ?_
    refine x_icmp_ge (tgt := 90) dX9_teach_58 (by decide) (fun c58 => ?_) (fun c58 => ?_)
    · replace hf := zif_t c58 hf
      refine x_iconst (v := 1) dX9_teach_90 (by decide) ?_
      exact x_zret rfl rfl dX9_teach_91 (zretI hf)
    · replace hf := zif_f c58 hf
      refine x_iload dX9_teach_61 rfl ?_
      obtain ⟨r15, M14, hq13, hf⟩ := zb2E hf
      refine x_invNi (host := "FriendLine") dX9_teach_63 mk_X11_isNight (List.mem_of_getElem? (i := 1) rfl) (cc_X11_isNight hq13) (Nat.le_of_ble_eq_true rfl) rfl (Nat.le_of_ble_eq_true rfl) rfl ?_
      refine x_if_eq (tgt := 90) dX9_teach_66 (by decide) (fun c66 => ?_) (fun c66 => ?_)
      · replace hf := zif_t c66 hf
        refine x_iconst (v := 1) dX9_teach_90 (by decide) ?_
        exact x_zret rfl rfl dX9_teach_91 (zretI hf)
      · replace hf := zif_f c66 hf
        refine x_aload_n dX9_teach_69 rfl rfl ?_
        refine x_getS (r := 27) dX9_teach_70 fl_X9_31 rfl rfl ?_
        refine x_iload dX9_teach_73 rfl ?_
        refine x_dup2 dX9_teach_75 rfl rfl ?_
        obtain ⟨v16, hv16, hf⟩ := zbind hf
        refine x_jld dX9_teach_76 rfl hv16 ?_
        refine x_iload_n dX9_teach_77 rfl rfl ?_
        refine x_iload_n dX9_teach_78 rfl rfl ?_
        obtain ⟨r19, M18, hq17, hf⟩ := zb2E hf
        refine x_invSj dX9_teach_79 mk_X9_learnedBit ml_X9_52 (cc_X9_learnedBit hq17) (Nat.le_of_ble_eq_true rfl) rfl (Nat.le_of_ble_eq_true rfl) rfl ?_
        refine x_lor dX9_teach_82 ?_
        obtain ⟨M20, hM20, hf⟩ := zbind hf
        refine x_jst dX9_teach_83 rfl hM20 ?_
        obtain ⟨x4_21, ex4_21, hf⟩ := zletE hf
        refine x_iinc (c0 := 1) dX9_teach_84 rfl (Nat.le_of_ble_eq_true rfl) (by decide) ex4_21 ?_
        refine x_goto (tgt := 48) dX9_teach_87 (by decide) ?_
        exact Ex.sb (ih hf) ⟨rfl, rfl, rfl, rfl, rfl, trivial⟩
theorem cc_X9_teach_L45 {l : Launch} {G : zG} {N : Nat} {x1 : Int32} {x2 : Int32} {x3 : Int32} {M : zMem} {r : Int32} {M1 : zMem} (hf : fX9_teach_L45 N x1 x2 x3 M = some (r, M1)) : Ex l G 2 mX9_teach 45 [(0, .ref (G.2.2.1 22)), (1, .int x1), (2, .int x2), (3, .int x3)] [] M (zqI r M1) := by
  rw [fX9_teach_L45] at hf
  refine x_iload_n dX9_teach_45 rfl rfl ?_
  refine x_istore dX9_teach_46 (Nat.le_of_ble_eq_true rfl) rfl ?_
  exact Ex.sb (cc_X9_teach_L48  hf) ⟨rfl, rfl, rfl, rfl, rfl, trivial⟩
theorem cc_X9_teach {l : Launch} {G : zG} {N : Nat} {x1 : Int32} {x2 : Int32} {x3 : Int32}  {M : zMem} {r : Int32} {M1 : zMem} (hf : fX9_teach N x1 x2 x3 M = some (r, M1)) : Ca l G 2 mX9_teach [.ref (G.2.2.1 22), .int x1, .int x2, .int x3] M (some (.int r)) M1 := by
  refine Ca.of (by decide +kernel) (Nat.le_of_ble_eq_true rfl) rfl ?_
  rw [fX9_teach] at hf
  refine x_aload_n dX9_teach_0 rfl rfl ?_
  refine x_iload_n dX9_teach_1 rfl rfl ?_
  obtain ⟨r3, M2, hq1, hf⟩ := zb2E hf
  refine x_invVi dX9_teach_2 mk_X9_isVolunteer ml_X9_38 (cc_X9_isVolunteer hq1) rfl rfl rfl (Nat.le_of_ble_eq_true rfl) rfl (Nat.le_of_ble_eq_true rfl) rfl ?_
  refine x_if_eq (tgt := 16) dX9_teach_5 (by decide) (fun c5 => ?_) (fun c5 => ?_)
  · replace hf := zif_t c5 hf
    refine x_iconst (v := 0) dX9_teach_16 (by decide) ?_
    exact x_zret rfl rfl dX9_teach_17 (zretI hf)
  · replace hf := zif_f c5 hf
    refine x_aload_n dX9_teach_8 rfl rfl ?_
    refine x_iload_n dX9_teach_9 rfl rfl ?_
    obtain ⟨r6, M5, hq4, hf⟩ := zb2E hf
    refine x_invVi dX9_teach_10 mk_X9_isStep ml_X9_42 (cc_X9_isStep hq4) rfl rfl rfl (Nat.le_of_ble_eq_true rfl) rfl (Nat.le_of_ble_eq_true rfl) rfl ?_
    refine x_if_ne (tgt := 18) dX9_teach_13 (by decide) (fun c13 => ?_) (fun c13 => ?_)
    · replace hf := zif_f c13 hf
      refine x_aload_n dX9_teach_18 rfl rfl ?_
      refine x_getS (r := 25) dX9_teach_19 fl_X9_22 rfl rfl ?_
      refine x_iload_n dX9_teach_22 rfl rfl ?_
      obtain ⟨v7, hv7, hf⟩ := zbind hf
      refine x_ild dX9_teach_23 rfl hv7 ?_
      refine x_iconst (v := -1) dX9_teach_24 (by decide) ?_
      refine x_icmp_eq (tgt := 45) dX9_teach_25 (by decide) (fun c25 => ?_) (fun c25 => ?_)
      · replace hf := zif_t c25 hf
        exact Ex.sb (cc_X9_teach_L45  hf) ⟨rfl, rfl, rfl, rfl, trivial⟩
      · replace hf := zif_f c25 hf
        refine x_aload_n dX9_teach_28 rfl rfl ?_
        refine x_iload_n dX9_teach_29 rfl rfl ?_
        refine x_aload_n dX9_teach_30 rfl rfl ?_
        refine x_getS (r := 25) dX9_teach_31 fl_X9_22 rfl rfl ?_
        refine x_iload_n dX9_teach_34 rfl rfl ?_
        obtain ⟨v8, hv8, hf⟩ := zbind hf
        refine x_ild dX9_teach_35 rfl hv8 ?_
        refine x_iload_n dX9_teach_36 rfl rfl ?_
        obtain ⟨r11, M10, hq9, hf⟩ := zb2E hf
        refine x_invVi dX9_teach_37 mk_X9_hasStep ml_X9_45 (cc_X9_hasStep hq9) rfl rfl rfl (Nat.le_of_ble_eq_true rfl) rfl (Nat.le_of_ble_eq_true rfl) rfl ?_
        refine x_if_ne (tgt := 45) dX9_teach_40 (by decide) (fun c40 => ?_) (fun c40 => ?_)
        · replace hf := zif_f c40 hf
          exact Ex.sb (cc_X9_teach_L45  hf) ⟨rfl, rfl, rfl, rfl, trivial⟩
        · replace hf := zif_t c40 hf
          refine x_iconst (v := 0) dX9_teach_43 (by decide) ?_
          exact x_zret rfl rfl dX9_teach_44 (zretI hf)
    · replace hf := zif_t c13 hf
      refine x_iconst (v := 0) dX9_teach_16 (by decide) ?_
      exact x_zret rfl rfl dX9_teach_17 (zretI hf)
theorem cc_X9_addBar {l : Launch} {G : zG} {x1 : Int32} {x2 : Int32} {x3 : Int32}  {M : zMem} {r : Int32} {M1 : zMem} (hf : fX9_addBar x1 x2 x3 M = some (r, M1)) : Ca l G 1 mX9_addBar [.ref (G.2.2.1 22), .int x1, .int x2, .int x3] M (some (.int r)) M1 := by
  refine Ca.of (by decide +kernel) (Nat.le_of_ble_eq_true rfl) rfl ?_
  rw [fX9_addBar] at hf
  refine x_iload_n dX9_addBar_0 rfl rfl ?_
  obtain ⟨r3, M2, hq1, hf⟩ := zb2E hf
  refine x_invNi (host := "FriendLine") dX9_addBar_1 mk_X11_isCaller (List.mem_of_getElem? (i := 2) rfl) (cc_X11_isCaller hq1) (Nat.le_of_ble_eq_true rfl) rfl (Nat.le_of_ble_eq_true rfl) rfl ?_
  refine x_if_eq (tgt := 29) dX9_addBar_4 (by decide) (fun c4 => ?_) (fun c4 => ?_)
  · replace hf := zif_t c4 hf
    refine x_iconst (v := 0) dX9_addBar_29 (by decide) ?_
    exact x_zret rfl rfl dX9_addBar_30 (zretI hf)
  · replace hf := zif_f c4 hf
    refine x_aload_n dX9_addBar_7 rfl rfl ?_
    refine x_iload_n dX9_addBar_8 rfl rfl ?_
    obtain ⟨r6, M5, hq4, hf⟩ := zb2E hf
    refine x_invVi dX9_addBar_9 mk_X9_isVolunteer ml_X9_38 (cc_X9_isVolunteer hq4) rfl rfl rfl (Nat.le_of_ble_eq_true rfl) rfl (Nat.le_of_ble_eq_true rfl) rfl ?_
    refine x_if_eq (tgt := 29) dX9_addBar_12 (by decide) (fun c12 => ?_) (fun c12 => ?_)
    · replace hf := zif_t c12 hf
      refine x_iconst (v := 0) dX9_addBar_29 (by decide) ?_
      exact x_zret rfl rfl dX9_addBar_30 (zretI hf)
    · replace hf := zif_f c12 hf
      refine x_aload_n dX9_addBar_15 rfl rfl ?_
      refine x_getS (r := 28) dX9_addBar_16 fl_X9_35 rfl rfl ?_
      refine x_iload_n dX9_addBar_19 rfl rfl ?_
      refine x_iload_n dX9_addBar_20 rfl rfl ?_
      obtain ⟨r9, M8, hq7, hf⟩ := zb2E hf
      refine x_invSi dX9_addBar_21 mk_X9_barIndex ml_X9_59 (cc_X9_barIndex hq7) (Nat.le_of_ble_eq_true rfl) rfl (Nat.le_of_ble_eq_true rfl) rfl ?_
      obtain ⟨v10, hv10, hf⟩ := zbind hf
      refine x_ild dX9_addBar_24 rfl hv10 ?_
      refine x_iconst (v := -1) dX9_addBar_25 (by decide) ?_
      refine x_icmp_eq (tgt := 31) dX9_addBar_26 (by decide) (fun c26 => ?_) (fun c26 => ?_)
      · replace hf := zif_t c26 hf
        refine x_aload_n dX9_addBar_31 rfl rfl ?_
        refine x_getS (r := 28) dX9_addBar_32 fl_X9_35 rfl rfl ?_
        refine x_iload_n dX9_addBar_35 rfl rfl ?_
        refine x_iload_n dX9_addBar_36 rfl rfl ?_
        obtain ⟨r13, M12, hq11, hf⟩ := zb2E hf
        refine x_invSi dX9_addBar_37 mk_X9_barIndex ml_X9_59 (cc_X9_barIndex hq11) (Nat.le_of_ble_eq_true rfl) rfl (Nat.le_of_ble_eq_true rfl) rfl ?_
        refine x_iload_n dX9_addBar_40 rfl rfl ?_
        obtain ⟨M14, hM14, hf⟩ := zbind hf
        refine x_ist dX9_addBar_41 rfl hM14 ?_
        refine x_iconst (v := 1) dX9_addBar_42 (by decide) ?_
        exact x_zret rfl rfl dX9_addBar_43 (zretI hf)
      · replace hf := zif_f c26 hf
        refine x_iconst (v := 0) dX9_addBar_29 (by decide) ?_
        exact x_zret rfl rfl dX9_addBar_30 (zretI hf)
theorem cc_X9_giveCare {l : Launch} {G : zG} {x1 : Int32} {x2 : Int32}  {M : zMem} {M1 : zMem} (hf : fX9_giveCare x1 x2 M = some M1) : Ca l G 1 mX9_giveCare [.ref (G.2.2.1 22), .int x1, .int x2] M none M1 := by
  refine Ca.of (by decide +kernel) (Nat.le_of_ble_eq_true rfl) rfl ?_
  rw [fX9_giveCare] at hf
  refine x_aload_n dX9_giveCare_0 rfl rfl ?_
  refine x_iload_n dX9_giveCare_1 rfl rfl ?_
  obtain ⟨r3, M2, hq1, hf⟩ := zb2E hf
  refine x_invVi dX9_giveCare_2 mk_X9_isVolunteer ml_X9_38 (cc_X9_isVolunteer hq1) rfl rfl rfl (Nat.le_of_ble_eq_true rfl) rfl (Nat.le_of_ble_eq_true rfl) rfl ?_
  refine x_if_eq (tgt := 15) dX9_giveCare_5 (by decide) (fun c5 => ?_) (fun c5 => ?_)
  · replace hf := zif_t c5 hf
    exact x_vret rfl dX9_giveCare_15 (zretV hf)
  · replace hf := zif_f c5 hf
    refine x_aload_n dX9_giveCare_8 rfl rfl ?_
    refine x_getS (r := 24) dX9_giveCare_9 fl_X9_15 rfl rfl ?_
    refine x_iload_n dX9_giveCare_12 rfl rfl ?_
    refine x_iload_n dX9_giveCare_13 rfl rfl ?_
    obtain ⟨M4, hM4, hf⟩ := zbind hf
    refine x_ist dX9_giveCare_14 rfl hM4 ?_
    exact x_vret rfl dX9_giveCare_15 (zretV hf)
theorem cc_X9_caredFrom {l : Launch} {G : zG} {x1 : Int32}  {M : zMem} {r : Int32} {M1 : zMem} (hf : fX9_caredFrom x1 M = some (r, M1)) : Ca l G 1 mX9_caredFrom [.ref (G.2.2.1 22), .int x1] M (some (.int r)) M1 := by
  refine Ca.of (by decide +kernel) (Nat.le_of_ble_eq_true rfl) rfl ?_
  rw [fX9_caredFrom] at hf
  refine x_aload_n dX9_caredFrom_0 rfl rfl ?_
  refine x_iload_n dX9_caredFrom_1 rfl rfl ?_
  obtain ⟨r3, M2, hq1, hf⟩ := zb2E hf
  refine x_invVi dX9_caredFrom_2 mk_X9_isVolunteer ml_X9_38 (cc_X9_isVolunteer hq1) rfl rfl rfl (Nat.le_of_ble_eq_true rfl) rfl (Nat.le_of_ble_eq_true rfl) rfl ?_
  refine x_if_eq (tgt := 17) dX9_caredFrom_5 (by decide) (fun c5 => ?_) (fun c5 => ?_)
  · replace hf := zif_t c5 hf
    refine x_iconst (v := 0) dX9_caredFrom_17 (by decide) ?_
    exact x_iret rfl dX9_caredFrom_18 (zretI hf)
  · replace hf := zif_f c5 hf
    refine x_aload_n dX9_caredFrom_8 rfl rfl ?_
    refine x_getS (r := 24) dX9_caredFrom_9 fl_X9_15 rfl rfl ?_
    refine x_iload_n dX9_caredFrom_12 rfl rfl ?_
    obtain ⟨v4, hv4, hf⟩ := zbind hf
    refine x_ild dX9_caredFrom_13 rfl hv4 ?_
    refine x_goto (tgt := 18) dX9_caredFrom_14 (by decide) ?_
    exact x_iret rfl dX9_caredFrom_18 (zretI hf)
theorem cc_X11_feed {l : Launch} {G : zG} {N : Nat} {x1 : Int32} {x2 : Int32} {x3 : Int32} {x4 : Int32} {x5 : Int32}  {M : zMem} {r : Int32} {M1 : zMem} (hf : fX11_feed N x1 x2 x3 x4 x5 M = some (r, M1)) : Ca l G 1 mX11_feed [.ref (G.2.2.1 0), .int x1, .int x2, .int x3, .int x4, .int x5] M (some (.int r)) M1 := by
  refine Ca.of (by decide +kernel) (Nat.le_of_ble_eq_true rfl) rfl ?_
  rw [fX11_feed] at hf
  refine x_aload_n dX11_feed_0 rfl rfl ?_
  refine x_getS (r := 1) dX11_feed_1 fl_X11_10 rfl rfl ?_
  refine x_bipush (v := 20) dX11_feed_4 (by decide) ?_
  obtain ⟨r3, M2, hq1, hf⟩ := zb2E hf
  refine x_invVi dX11_feed_6 mk_X8_hasRoomFor ml_X11_90 (cc_X8_hasRoomFor hq1) rfl rfl rfl (Nat.le_of_ble_eq_true rfl) rfl (Nat.le_of_ble_eq_true rfl) rfl ?_
  refine x_if_ne (tgt := 14) dX11_feed_9 (by decide) (fun c9 => ?_) (fun c9 => ?_)
  · replace hf := zif_f c9 hf
    refine x_aload_n dX11_feed_14 rfl rfl ?_
    refine x_getS (r := 1) dX11_feed_15 fl_X11_10 rfl rfl ?_
    refine x_iload_n dX11_feed_18 rfl rfl ?_
    obtain ⟨M5, hq4, hf⟩ := zbind hf
    refine x_invVv dX11_feed_19 mk_X8_append ml_X11_94 (cc_X8_append hq4) rfl rfl rfl (Nat.le_of_ble_eq_true rfl) rfl (Nat.le_of_ble_eq_true rfl) rfl ?_
    refine x_aload_n dX11_feed_22 rfl rfl ?_
    refine x_getS (r := 1) dX11_feed_23 fl_X11_10 rfl rfl ?_
    refine x_iload_n dX11_feed_26 rfl rfl ?_
    obtain ⟨M7, hq6, hf⟩ := zbind hf
    refine x_invVv dX11_feed_27 mk_X8_append ml_X11_94 (cc_X8_append hq6) rfl rfl rfl (Nat.le_of_ble_eq_true rfl) rfl (Nat.le_of_ble_eq_true rfl) rfl ?_
    refine x_aload_n dX11_feed_30 rfl rfl ?_
    refine x_getS (r := 1) dX11_feed_31 fl_X11_10 rfl rfl ?_
    refine x_iload_n dX11_feed_34 rfl rfl ?_
    obtain ⟨M9, hq8, hf⟩ := zbind hf
    refine x_invVv dX11_feed_35 mk_X8_append ml_X11_94 (cc_X8_append hq8) rfl rfl rfl (Nat.le_of_ble_eq_true rfl) rfl (Nat.le_of_ble_eq_true rfl) rfl ?_
    refine x_aload_n dX11_feed_38 rfl rfl ?_
    refine x_getS (r := 1) dX11_feed_39 fl_X11_10 rfl rfl ?_
    refine x_iload dX11_feed_42 rfl ?_
    obtain ⟨M11, hq10, hf⟩ := zbind hf
    refine x_invVv dX11_feed_44 mk_X8_append ml_X11_94 (cc_X8_append hq10) rfl rfl rfl (Nat.le_of_ble_eq_true rfl) rfl (Nat.le_of_ble_eq_true rfl) rfl ?_
    refine x_aload_n dX11_feed_47 rfl rfl ?_
    refine x_getS (r := 1) dX11_feed_48 fl_X11_10 rfl rfl ?_
    refine x_iload dX11_feed_51 rfl ?_
    obtain ⟨M13, hq12, hf⟩ := zbind hf
    refine x_invVv dX11_feed_53 mk_X8_append ml_X11_94 (cc_X8_append hq12) rfl rfl rfl (Nat.le_of_ble_eq_true rfl) rfl (Nat.le_of_ble_eq_true rfl) rfl ?_
    refine x_aload_n dX11_feed_56 rfl rfl ?_
    refine x_getS (r := 1) dX11_feed_57 fl_X11_10 rfl rfl ?_
    obtain ⟨r16, M15, hq14, hf⟩ := zb2E hf
    refine x_invVi dX11_feed_60 mk_X8_length ml_X11_98 (cc_X8_length hq14) rfl rfl rfl (Nat.le_of_ble_eq_true rfl) rfl (Nat.le_of_ble_eq_true rfl) rfl ?_
    exact x_iret rfl dX11_feed_63 (zretI hf)
  · replace hf := zif_t c9 hf
    refine x_iconst (v := -1) dX11_feed_12 (by decide) ?_
    exact x_iret rfl dX11_feed_13 (zretI hf)
theorem cc_X11_back {l : Launch} {G : zG} {x1 : Int32}  {M : zMem} {r : Int32} {M1 : zMem} (hf : fX11_back x1 M = some (r, M1)) : Ca l G 1 mX11_back [.ref (G.2.2.1 0), .int x1] M (some (.int r)) M1 := by
  refine Ca.of (by decide +kernel) (Nat.le_of_ble_eq_true rfl) rfl ?_
  rw [fX11_back] at hf
  refine x_iload_n dX11_back_0 rfl rfl ?_
  refine x_iconst (v := 0) dX11_back_1 (by decide) ?_
  refine x_aload_n dX11_back_2 rfl rfl ?_
  refine x_getS (r := 1) dX11_back_3 fl_X11_10 rfl rfl ?_
  obtain ⟨r3, M2, hq1, hf⟩ := zb2E hf
  refine x_invVi dX11_back_6 mk_X8_length ml_X11_98 (cc_X8_length hq1) rfl rfl rfl (Nat.le_of_ble_eq_true rfl) rfl (Nat.le_of_ble_eq_true rfl) rfl ?_
  obtain ⟨r6, M5, hq4, hf⟩ := zb2E hf
  refine x_invSi dX11_back_9 mk_X11_isWithin ml_X11_102 (cc_X11_isWithin hq4) (Nat.le_of_ble_eq_true rfl) rfl (Nat.le_of_ble_eq_true rfl) rfl ?_
  refine x_if_ne (tgt := 17) dX11_back_12 (by decide) (fun c12 => ?_) (fun c12 => ?_)
  · replace hf := zif_f c12 hf
    refine x_aload_n dX11_back_17 rfl rfl ?_
    refine x_getS (r := 1) dX11_back_18 fl_X11_10 rfl rfl ?_
    refine x_aload_n dX11_back_21 rfl rfl ?_
    refine x_getS (r := 1) dX11_back_22 fl_X11_10 rfl rfl ?_
    obtain ⟨r9, M8, hq7, hf⟩ := zb2E hf
    refine x_invVi dX11_back_25 mk_X8_length ml_X11_98 (cc_X8_length hq7) rfl rfl rfl (Nat.le_of_ble_eq_true rfl) rfl (Nat.le_of_ble_eq_true rfl) rfl ?_
    refine x_iload_n dX11_back_28 rfl rfl ?_
    refine x_isub dX11_back_29 ?_
    obtain ⟨M11, hq10, hf⟩ := zbind hf
    refine x_invVv dX11_back_30 mk_X8_cutTo ml_X11_106 (cc_X8_cutTo hq10) rfl rfl rfl (Nat.le_of_ble_eq_true rfl) rfl (Nat.le_of_ble_eq_true rfl) rfl ?_
    refine x_aload_n dX11_back_33 rfl rfl ?_
    refine x_getS (r := 1) dX11_back_34 fl_X11_10 rfl rfl ?_
    obtain ⟨r14, M13, hq12, hf⟩ := zb2E hf
    refine x_invVi dX11_back_37 mk_X8_length ml_X11_98 (cc_X8_length hq12) rfl rfl rfl (Nat.le_of_ble_eq_true rfl) rfl (Nat.le_of_ble_eq_true rfl) rfl ?_
    exact x_iret rfl dX11_back_40 (zretI hf)
  · replace hf := zif_t c12 hf
    refine x_iconst (v := -1) dX11_back_15 (by decide) ?_
    exact x_iret rfl dX11_back_16 (zretI hf)
theorem cc_X11_read {l : Launch} {G : zG} {N : Nat}   {M : zMem} {r : Int32} {M1 : zMem} (hf : fX11_read N M = some (r, M1)) : Ca l G 9 mX11_read [.ref (G.2.2.1 0)] M (some (.int r)) M1 := by
  refine Ca.of (by decide +kernel) (Nat.le_of_ble_eq_true rfl) rfl ?_
  rw [fX11_read] at hf
  refine x_aload_n dX11_read_0 rfl rfl ?_
  refine x_getS (r := 19) dX11_read_1 fl_X11_31 rfl rfl ?_
  refine x_aload_n dX11_read_4 rfl rfl ?_
  refine x_getS (r := 1) dX11_read_5 fl_X11_10 rfl rfl ?_
  refine x_aload_n dX11_read_8 rfl rfl ?_
  refine x_getR dX11_read_9 fl_X11_23 rfl rfl ?_
  obtain ⟨r3, M2, hq1, hf⟩ := zb2E hf
  refine x_invVi dX11_read_12 mk_X5_readRules ml_X11_109 (cc_X5_readRules hq1) rfl rfl rfl (Nat.le_of_ble_eq_true rfl) rfl (Nat.le_of_ble_eq_true rfl) rfl ?_
  refine x_istore_n dX11_read_15 rfl (Nat.le_of_ble_eq_true rfl) rfl ?_
  refine x_aload_n dX11_read_16 rfl rfl ?_
  refine x_getS (r := 1) dX11_read_17 fl_X11_10 rfl rfl ?_
  refine x_iconst (v := 0) dX11_read_20 (by decide) ?_
  obtain ⟨M5, hq4, hf⟩ := zbind hf
  refine x_invVv dX11_read_21 mk_X8_cutTo ml_X11_106 (cc_X8_cutTo hq4) rfl rfl rfl (Nat.le_of_ble_eq_true rfl) rfl (Nat.le_of_ble_eq_true rfl) rfl ?_
  refine x_iload_n dX11_read_24 rfl rfl ?_
  refine x_if_ne (tgt := 46) dX11_read_25 (by decide) (fun c25 => ?_) (fun c25 => ?_)
  · replace hf := zif_f c25 hf
    refine x_iload_n dX11_read_46 rfl rfl ?_
    exact x_iret rfl dX11_read_47 (zretI hf)
  · replace hf := zif_t c25 hf
    refine x_aload_n dX11_read_28 rfl rfl ?_
    refine x_getR dX11_read_29 fl_X11_19 rfl rfl ?_
    refine x_astore_n dX11_read_32 rfl (Nat.le_of_ble_eq_true rfl) rfl ?_
    refine x_aload_n dX11_read_33 rfl rfl ?_
    refine x_aload_n dX11_read_34 rfl rfl ?_
    refine x_getR dX11_read_35 fl_X11_23 rfl rfl ?_
    obtain ⟨M6, eM6, hf⟩ := zletE hf
    refine x_putR dX11_read_38 fp_X11_19 rfl rfl rfl rfl eM6 ?_
    refine x_aload_n dX11_read_41 rfl rfl ?_
    refine x_aload_n dX11_read_42 rfl rfl ?_
    obtain ⟨M7, eM7, hf⟩ := zletE hf
    refine x_putR dX11_read_43 fp_X11_23 rfl rfl rfl rfl eM7 ?_
    refine x_iload_n dX11_read_46 rfl rfl ?_
    exact x_iret rfl dX11_read_47 (zretI hf)
theorem cc_X11_place {l : Launch} {G : zG}   {M : zMem} {r : Int32} {M1 : zMem} (hf : fX11_place M = some (r, M1)) : Ca l G 1 mX11_place [.ref (G.2.2.1 0)] M (some (.int r)) M1 := by
  refine Ca.of (by decide +kernel) (Nat.le_of_ble_eq_true rfl) rfl ?_
  rw [fX11_place] at hf
  refine x_aload_n dX11_place_0 rfl rfl ?_
  refine x_getS (r := 19) dX11_place_1 fl_X11_31 rfl rfl ?_
  obtain ⟨r3, M2, hq1, hf⟩ := zb2E hf
  refine x_invVi dX11_place_4 mk_X5_faultPlace ml_X11_113 (cc_X5_faultPlace hq1) rfl rfl rfl (Nat.le_of_ble_eq_true rfl) rfl (Nat.le_of_ble_eq_true rfl) rfl ?_
  exact x_iret rfl dX11_place_7 (zretI hf)
theorem cc_X11_volunteer {l : Launch} {G : zG} {x1 : Int32}  {M : zMem} {r : Int32} {M1 : zMem} (hf : fX11_volunteer x1 M = some (r, M1)) : Ca l G 1 mX11_volunteer [.ref (G.2.2.1 0), .int x1] M (some (.int r)) M1 := by
  refine Ca.of (by decide +kernel) (Nat.le_of_ble_eq_true rfl) rfl ?_
  rw [fX11_volunteer] at hf
  refine x_iload_n dX11_volunteer_0 rfl rfl ?_
  refine x_iconst (v := 0) dX11_volunteer_1 (by decide) ?_
  refine x_iconst (v := 3) dX11_volunteer_2 (by decide) ?_
  obtain ⟨r3, M2, hq1, hf⟩ := zb2E hf
  refine x_invSi dX11_volunteer_3 mk_X11_isWithin ml_X11_102 (cc_X11_isWithin hq1) (Nat.le_of_ble_eq_true rfl) rfl (Nat.le_of_ble_eq_true rfl) rfl ?_
  refine x_if_eq (tgt := 20) dX11_volunteer_6 (by decide) (fun c6 => ?_) (fun c6 => ?_)
  · replace hf := zif_t c6 hf
    refine x_iconst (v := -1) dX11_volunteer_20 (by decide) ?_
    exact x_iret rfl dX11_volunteer_21 (zretI hf)
  · replace hf := zif_f c6 hf
    refine x_aload_n dX11_volunteer_9 rfl rfl ?_
    refine x_getS (r := 22) dX11_volunteer_10 fl_X11_38 rfl rfl ?_
    refine x_iload_n dX11_volunteer_13 rfl rfl ?_
    obtain ⟨r6, M5, hq4, hf⟩ := zb2E hf
    refine x_invVi dX11_volunteer_14 mk_X9_addVolunteer ml_X11_116 (cc_X9_addVolunteer hq4) rfl rfl rfl (Nat.le_of_ble_eq_true rfl) rfl (Nat.le_of_ble_eq_true rfl) rfl ?_
    refine x_goto (tgt := 21) dX11_volunteer_17 (by decide) ?_
    exact x_iret rfl dX11_volunteer_21 (zretI hf)
theorem cc_X11_step_L21 {l : Launch} {G : zG} {x1 : Int32} {x2 : Int32} {s0 : Int32} {M : zMem} {r : Int32} {M1 : zMem} (hf : fX11_step_L21 x1 x2 s0 M = some (r, M1)) : Ex l G 1 mX11_step 21 [(0, .ref (G.2.2.1 0)), (1, .int x1), (2, .int x2)] [.int s0] M (zqI r M1) := by
  rw [fX11_step_L21] at hf
  refine x_istore_n dX11_step_21 rfl (Nat.le_of_ble_eq_true rfl) rfl ?_
  refine x_iload_n dX11_step_22 rfl rfl ?_
  refine x_if_eq (tgt := 49) dX11_step_23 (by decide) (fun c23 => ?_) (fun c23 => ?_)
  · replace hf := zif_t c23 hf
    refine x_iconst (v := -1) dX11_step_49 (by decide) ?_
    exact x_iret rfl dX11_step_50 (zretI hf)
  · replace hf := zif_f c23 hf
    refine x_iload_n dX11_step_26 rfl rfl ?_
    refine x_iconst (v := 1) dX11_step_27 (by decide) ?_
    refine x_sipush (v := 200) dX11_step_28 (by decide) ?_
    obtain ⟨r6, M5, hq4, hf⟩ := zb2E hf
    refine x_invSi dX11_step_31 mk_X11_isWithin ml_X11_102 (cc_X11_isWithin hq4) (Nat.le_of_ble_eq_true rfl) rfl (Nat.le_of_ble_eq_true rfl) rfl ?_
    refine x_if_eq (tgt := 49) dX11_step_34 (by decide) (fun c34 => ?_) (fun c34 => ?_)
    · replace hf := zif_t c34 hf
      refine x_iconst (v := -1) dX11_step_49 (by decide) ?_
      exact x_iret rfl dX11_step_50 (zretI hf)
    · replace hf := zif_f c34 hf
      refine x_aload_n dX11_step_37 rfl rfl ?_
      refine x_getS (r := 22) dX11_step_38 fl_X11_38 rfl rfl ?_
      refine x_iload_n dX11_step_41 rfl rfl ?_
      refine x_iload_n dX11_step_42 rfl rfl ?_
      obtain ⟨r9, M8, hq7, hf⟩ := zb2E hf
      refine x_invVi dX11_step_43 mk_X9_addStep ml_X11_123 (cc_X9_addStep hq7) rfl rfl rfl (Nat.le_of_ble_eq_true rfl) rfl (Nat.le_of_ble_eq_true rfl) rfl ?_
      refine x_goto (tgt := 50) dX11_step_46 (by decide) ?_
      exact x_iret rfl dX11_step_50 (zretI hf)
theorem cc_X11_step_L16 {l : Launch} {G : zG} {x1 : Int32} {x2 : Int32} {M : zMem} {r : Int32} {M1 : zMem} (hf : fX11_step_L16 x1 x2 M = some (r, M1)) : Ex l G 1 mX11_step 16 [(0, .ref (G.2.2.1 0)), (1, .int x1), (2, .int x2)] [] M (zqI r M1) := by
  rw [fX11_step_L16] at hf
  refine x_iconst (v := 1) dX11_step_16 (by decide) ?_
  refine x_goto (tgt := 21) dX11_step_17 (by decide) ?_
  exact Ex.sb (cc_X11_step_L21  hf) ⟨rfl, rfl, rfl, trivial⟩
theorem cc_X11_step {l : Launch} {G : zG} {x1 : Int32} {x2 : Int32}  {M : zMem} {r : Int32} {M1 : zMem} (hf : fX11_step x1 x2 M = some (r, M1)) : Ca l G 1 mX11_step [.ref (G.2.2.1 0), .int x1, .int x2] M (some (.int r)) M1 := by
  refine Ca.of (by decide +kernel) (Nat.le_of_ble_eq_true rfl) rfl ?_
  rw [fX11_step] at hf
  refine x_iload_n dX11_step_0 rfl rfl ?_
  refine x_iconst (v := -1) dX11_step_1 (by decide) ?_
  refine x_icmp_eq (tgt := 16) dX11_step_2 (by decide) (fun c2 => ?_) (fun c2 => ?_)
  · replace hf := zif_t c2 hf
    exact Ex.sb (cc_X11_step_L16  hf) ⟨rfl, rfl, rfl, trivial⟩
  · replace hf := zif_f c2 hf
    refine x_aload_n dX11_step_5 rfl rfl ?_
    refine x_getS (r := 22) dX11_step_6 fl_X11_38 rfl rfl ?_
    refine x_iload_n dX11_step_9 rfl rfl ?_
    obtain ⟨r3, M2, hq1, hf⟩ := zb2E hf
    refine x_invVi dX11_step_10 mk_X9_isStep ml_X11_120 (cc_X9_isStep hq1) rfl rfl rfl (Nat.le_of_ble_eq_true rfl) rfl (Nat.le_of_ble_eq_true rfl) rfl ?_
    refine x_if_eq (tgt := 20) dX11_step_13 (by decide) (fun c13 => ?_) (fun c13 => ?_)
    · replace hf := zif_t c13 hf
      refine x_iconst (v := 0) dX11_step_20 (by decide) ?_
      exact Ex.sb (cc_X11_step_L21  hf) ⟨rfl, rfl, rfl, trivial⟩
    · replace hf := zif_f c13 hf
      exact Ex.sb (cc_X11_step_L16  hf) ⟨rfl, rfl, rfl, trivial⟩
theorem cc_X11_learn {l : Launch} {G : zG} {N : Nat} {x1 : Int32} {x2 : Int32}  {M : zMem} {r : Int32} {M1 : zMem} (hf : fX11_learn N x1 x2 M = some (r, M1)) : Ca l G 3 mX11_learn [.ref (G.2.2.1 0), .int x1, .int x2] M (some (.int r)) M1 := by
  refine Ca.of (by decide +kernel) (Nat.le_of_ble_eq_true rfl) rfl ?_
  rw [fX11_learn] at hf
  refine x_aload_n dX11_learn_0 rfl rfl ?_
  refine x_getS (r := 22) dX11_learn_1 fl_X11_38 rfl rfl ?_
  refine x_iload_n dX11_learn_4 rfl rfl ?_
  refine x_iload_n dX11_learn_5 rfl rfl ?_
  refine x_aload_n dX11_learn_6 rfl rfl ?_
  refine x_getI dX11_learn_7 fl_X11_86 rfl rfl ?_
  obtain ⟨r3, M2, hq1, hf⟩ := zb2E hf
  refine x_invVi dX11_learn_10 mk_X9_teach ml_X11_127 (cc_X9_teach hq1) rfl rfl rfl (Nat.le_of_ble_eq_true rfl) rfl (Nat.le_of_ble_eq_true rfl) rfl ?_
  obtain ⟨hb13, hf⟩ := zgbE hf
  exact x_zret rfl (znb hb13) dX11_learn_13 (zretI hf)
theorem cc_X11_has {l : Launch} {G : zG} {N : Nat} {x1 : Int32} {x2 : Int32} {x3 : Int32}  {M : zMem} {r : Int32} {M1 : zMem} (hf : fX11_has N x1 x2 x3 M = some (r, M1)) : Ca l G 2 mX11_has [.ref (G.2.2.1 0), .int x1, .int x2, .int x3] M (some (.int r)) M1 := by
  refine Ca.of (by decide +kernel) (Nat.le_of_ble_eq_true rfl) rfl ?_
  rw [fX11_has] at hf
  refine x_aload_n dX11_has_0 rfl rfl ?_
  refine x_getS (r := 22) dX11_has_1 fl_X11_38 rfl rfl ?_
  refine x_iload_n dX11_has_4 rfl rfl ?_
  obtain ⟨r3, M2, hq1, hf⟩ := zb2E hf
  refine x_invVi dX11_has_5 mk_X9_isVolunteer ml_X11_130 (cc_X9_isVolunteer hq1) rfl rfl rfl (Nat.le_of_ble_eq_true rfl) rfl (Nat.le_of_ble_eq_true rfl) rfl ?_
  refine x_if_eq (tgt := 29) dX11_has_8 (by decide) (fun c8 => ?_) (fun c8 => ?_)
  · replace hf := zif_t c8 hf
    refine x_iconst (v := -1) dX11_has_29 (by decide) ?_
    exact x_iret rfl dX11_has_30 (zretI hf)
  · replace hf := zif_f c8 hf
    refine x_aload_n dX11_has_11 rfl rfl ?_
    refine x_getS (r := 22) dX11_has_12 fl_X11_38 rfl rfl ?_
    refine x_iload_n dX11_has_15 rfl rfl ?_
    obtain ⟨r6, M5, hq4, hf⟩ := zb2E hf
    refine x_invVi dX11_has_16 mk_X9_isStep ml_X11_120 (cc_X9_isStep hq4) rfl rfl rfl (Nat.le_of_ble_eq_true rfl) rfl (Nat.le_of_ble_eq_true rfl) rfl ?_
    refine x_if_eq (tgt := 29) dX11_has_19 (by decide) (fun c19 => ?_) (fun c19 => ?_)
    · replace hf := zif_t c19 hf
      refine x_iconst (v := -1) dX11_has_29 (by decide) ?_
      exact x_iret rfl dX11_has_30 (zretI hf)
    · replace hf := zif_f c19 hf
      refine x_iload_n dX11_has_22 rfl rfl ?_
      obtain ⟨r9, M8, hq7, hf⟩ := zb2E hf
      refine x_invSi dX11_has_23 mk_X11_isNight ml_X11_133 (cc_X11_isNight hq7) (Nat.le_of_ble_eq_true rfl) rfl (Nat.le_of_ble_eq_true rfl) rfl ?_
      refine x_if_ne (tgt := 31) dX11_has_26 (by decide) (fun c26 => ?_) (fun c26 => ?_)
      · replace hf := zif_f c26 hf
        refine x_aload_n dX11_has_31 rfl rfl ?_
        refine x_getS (r := 22) dX11_has_32 fl_X11_38 rfl rfl ?_
        refine x_iload_n dX11_has_35 rfl rfl ?_
        refine x_iload_n dX11_has_36 rfl rfl ?_
        refine x_iload_n dX11_has_37 rfl rfl ?_
        obtain ⟨r12, M11, hq10, hf⟩ := zb2E hf
        refine x_invVi dX11_has_38 mk_X9_hasStep ml_X11_136 (cc_X9_hasStep hq10) rfl rfl rfl (Nat.le_of_ble_eq_true rfl) rfl (Nat.le_of_ble_eq_true rfl) rfl ?_
        refine x_if_eq (tgt := 48) dX11_has_41 (by decide) (fun c41 => ?_) (fun c41 => ?_)
        · replace hf := zif_t c41 hf
          refine x_iconst (v := 0) dX11_has_48 (by decide) ?_
          exact x_iret rfl dX11_has_49 (zretI hf)
        · replace hf := zif_f c41 hf
          refine x_iconst (v := 1) dX11_has_44 (by decide) ?_
          refine x_goto (tgt := 49) dX11_has_45 (by decide) ?_
          exact x_iret rfl dX11_has_49 (zretI hf)
      · replace hf := zif_t c26 hf
        refine x_iconst (v := -1) dX11_has_29 (by decide) ?_
        exact x_iret rfl dX11_has_30 (zretI hf)
theorem cc_X11_bar {l : Launch} {G : zG} {x1 : Int32} {x2 : Int32}  {M : zMem} {r : Int32} {M1 : zMem} (hf : fX11_bar x1 x2 M = some (r, M1)) : Ca l G 2 mX11_bar [.ref (G.2.2.1 0), .int x1, .int x2] M (some (.int r)) M1 := by
  refine Ca.of (by decide +kernel) (Nat.le_of_ble_eq_true rfl) rfl ?_
  rw [fX11_bar] at hf
  refine x_aload_n dX11_bar_0 rfl rfl ?_
  refine x_getS (r := 22) dX11_bar_1 fl_X11_38 rfl rfl ?_
  refine x_iload_n dX11_bar_4 rfl rfl ?_
  refine x_iload_n dX11_bar_5 rfl rfl ?_
  refine x_aload_n dX11_bar_6 rfl rfl ?_
  refine x_getI dX11_bar_7 fl_X11_86 rfl rfl ?_
  obtain ⟨r3, M2, hq1, hf⟩ := zb2E hf
  refine x_invVi dX11_bar_10 mk_X9_addBar ml_X11_139 (cc_X9_addBar hq1) rfl rfl rfl (Nat.le_of_ble_eq_true rfl) rfl (Nat.le_of_ble_eq_true rfl) rfl ?_
  obtain ⟨hb13, hf⟩ := zgbE hf
  exact x_zret rfl (znb hb13) dX11_bar_13 (zretI hf)
theorem cc_X11_careIsDue {l : Launch} {G : zG} {N : Nat} {x1 : Int32}  {M : zMem} {r : Int32} {M1 : zMem} (hf : fX11_careIsDue N x1 M = some (r, M1)) : Ca l G 2 mX11_careIsDue [.ref (G.2.2.1 0), .int x1] M (some (.int r)) M1 := by
  refine Ca.of (by decide +kernel) (Nat.le_of_ble_eq_true rfl) rfl ?_
  rw [fX11_careIsDue] at hf
  refine x_aload_n dX11_careIsDue_0 rfl rfl ?_
  refine x_getS (r := 47) dX11_careIsDue_1 fl_X11_66 rfl rfl ?_
  refine x_iload_n dX11_careIsDue_4 rfl rfl ?_
  refine x_aload_n dX11_careIsDue_5 rfl rfl ?_
  refine x_getS (r := 22) dX11_careIsDue_6 fl_X11_38 rfl rfl ?_
  refine x_iload_n dX11_careIsDue_9 rfl rfl ?_
  obtain ⟨r3, M2, hq1, hf⟩ := zb2E hf
  refine x_invVi dX11_careIsDue_10 mk_X9_caredFrom ml_X11_269 (cc_X9_caredFrom hq1) rfl rfl rfl (Nat.le_of_ble_eq_true rfl) rfl (Nat.le_of_ble_eq_true rfl) rfl ?_
  refine x_aload_n dX11_careIsDue_13 rfl rfl ?_
  refine x_getI dX11_careIsDue_14 fl_X11_86 rfl rfl ?_
  obtain ⟨r6, M5, hq4, hf⟩ := zb2E hf
  refine x_invVi dX11_careIsDue_17 mk_X1_hasHardCall ml_X11_272 (cc_X1_hasHardCall hq4) rfl rfl rfl (Nat.le_of_ble_eq_true rfl) rfl (Nat.le_of_ble_eq_true rfl) rfl ?_
  obtain ⟨hb20, hf⟩ := zgbE hf
  exact x_zret rfl (znb hb20) dX11_careIsDue_20 (zretI hf)
theorem cc_X11_care {l : Launch} {G : zG} {N : Nat} {x1 : Int32}  {M : zMem} {r : Int32} {M1 : zMem} (hf : fX11_care N x1 M = some (r, M1)) : Ca l G 3 mX11_care [.ref (G.2.2.1 0), .int x1] M (some (.int r)) M1 := by
  refine Ca.of (by decide +kernel) (Nat.le_of_ble_eq_true rfl) rfl ?_
  rw [fX11_care] at hf
  refine x_aload_n dX11_care_0 rfl rfl ?_
  refine x_getS (r := 22) dX11_care_1 fl_X11_38 rfl rfl ?_
  refine x_iload_n dX11_care_4 rfl rfl ?_
  obtain ⟨r3, M2, hq1, hf⟩ := zb2E hf
  refine x_invVi dX11_care_5 mk_X9_isVolunteer ml_X11_130 (cc_X9_isVolunteer hq1) rfl rfl rfl (Nat.le_of_ble_eq_true rfl) rfl (Nat.le_of_ble_eq_true rfl) rfl ?_
  refine x_if_eq (tgt := 19) dX11_care_8 (by decide) (fun c8 => ?_) (fun c8 => ?_)
  · replace hf := zif_t c8 hf
    refine x_iconst (v := 0) dX11_care_19 (by decide) ?_
    exact x_zret rfl rfl dX11_care_20 (zretI hf)
  · replace hf := zif_f c8 hf
    refine x_aload_n dX11_care_11 rfl rfl ?_
    refine x_iload_n dX11_care_12 rfl rfl ?_
    obtain ⟨r6, M5, hq4, hf⟩ := zb2E hf
    refine x_invVi dX11_care_13 mk_X11_careIsDue ml_X11_142 (cc_X11_careIsDue hq4) rfl rfl rfl (Nat.le_of_ble_eq_true rfl) rfl (Nat.le_of_ble_eq_true rfl) rfl ?_
    refine x_if_ne (tgt := 21) dX11_care_16 (by decide) (fun c16 => ?_) (fun c16 => ?_)
    · replace hf := zif_f c16 hf
      refine x_aload_n dX11_care_21 rfl rfl ?_
      refine x_getS (r := 22) dX11_care_22 fl_X11_38 rfl rfl ?_
      refine x_iload_n dX11_care_25 rfl rfl ?_
      refine x_aload_n dX11_care_26 rfl rfl ?_
      refine x_getI dX11_care_27 fl_X11_86 rfl rfl ?_
      obtain ⟨M8, hq7, hf⟩ := zbind hf
      refine x_invVv dX11_care_30 mk_X9_giveCare ml_X11_145 (cc_X9_giveCare hq7) rfl rfl rfl (Nat.le_of_ble_eq_true rfl) rfl (Nat.le_of_ble_eq_true rfl) rfl ?_
      refine x_iconst (v := 1) dX11_care_33 (by decide) ?_
      exact x_zret rfl rfl dX11_care_34 (zretI hf)
    · replace hf := zif_t c16 hf
      refine x_iconst (v := 0) dX11_care_19 (by decide) ?_
      exact x_zret rfl rfl dX11_care_20 (zretI hf)
theorem cc_X11_due {l : Launch} {G : zG} {N : Nat} {x1 : Int32}  {M : zMem} {r : Int32} {M1 : zMem} (hf : fX11_due N x1 M = some (r, M1)) : Ca l G 3 mX11_due [.ref (G.2.2.1 0), .int x1] M (some (.int r)) M1 := by
  refine Ca.of (by decide +kernel) (Nat.le_of_ble_eq_true rfl) rfl ?_
  rw [fX11_due] at hf
  refine x_aload_n dX11_due_0 rfl rfl ?_
  refine x_getS (r := 22) dX11_due_1 fl_X11_38 rfl rfl ?_
  refine x_iload_n dX11_due_4 rfl rfl ?_
  obtain ⟨r3, M2, hq1, hf⟩ := zb2E hf
  refine x_invVi dX11_due_5 mk_X9_isVolunteer ml_X11_130 (cc_X9_isVolunteer hq1) rfl rfl rfl (Nat.le_of_ble_eq_true rfl) rfl (Nat.le_of_ble_eq_true rfl) rfl ?_
  refine x_if_ne (tgt := 13) dX11_due_8 (by decide) (fun c8 => ?_) (fun c8 => ?_)
  · replace hf := zif_f c8 hf
    refine x_aload_n dX11_due_13 rfl rfl ?_
    refine x_iload_n dX11_due_14 rfl rfl ?_
    obtain ⟨r6, M5, hq4, hf⟩ := zb2E hf
    refine x_invVi dX11_due_15 mk_X11_careIsDue ml_X11_142 (cc_X11_careIsDue hq4) rfl rfl rfl (Nat.le_of_ble_eq_true rfl) rfl (Nat.le_of_ble_eq_true rfl) rfl ?_
    refine x_if_eq (tgt := 25) dX11_due_18 (by decide) (fun c18 => ?_) (fun c18 => ?_)
    · replace hf := zif_t c18 hf
      refine x_iconst (v := 0) dX11_due_25 (by decide) ?_
      exact x_iret rfl dX11_due_26 (zretI hf)
    · replace hf := zif_f c18 hf
      refine x_iconst (v := 1) dX11_due_21 (by decide) ?_
      refine x_goto (tgt := 26) dX11_due_22 (by decide) ?_
      exact x_iret rfl dX11_due_26 (zretI hf)
  · replace hf := zif_t c8 hf
    refine x_iconst (v := -1) dX11_due_11 (by decide) ?_
    exact x_iret rfl dX11_due_12 (zretI hf)
theorem cc_X11_clock {l : Launch} {G : zG} {x1 : Int32}  {M : zMem} {r : Int32} {M1 : zMem} (hf : fX11_clock x1 M = some (r, M1)) : Ca l G 1 mX11_clock [.ref (G.2.2.1 0), .int x1] M (some (.int r)) M1 := by
  refine Ca.of (by decide +kernel) (Nat.le_of_ble_eq_true rfl) rfl ?_
  rw [fX11_clock] at hf
  refine x_iload_n dX11_clock_0 rfl rfl ?_
  refine x_aload_n dX11_clock_1 rfl rfl ?_
  refine x_getI dX11_clock_2 fl_X11_86 rfl rfl ?_
  refine x_sipush (v := 199) dX11_clock_5 (by decide) ?_
  obtain ⟨r3, M2, hq1, hf⟩ := zb2E hf
  refine x_invSi dX11_clock_8 mk_X11_isWithin ml_X11_102 (cc_X11_isWithin hq1) (Nat.le_of_ble_eq_true rfl) rfl (Nat.le_of_ble_eq_true rfl) rfl ?_
  refine x_if_ne (tgt := 16) dX11_clock_11 (by decide) (fun c11 => ?_) (fun c11 => ?_)
  · replace hf := zif_f c11 hf
    refine x_iload_n dX11_clock_16 rfl rfl ?_
    refine x_aload_n dX11_clock_17 rfl rfl ?_
    refine x_getI dX11_clock_18 fl_X11_86 rfl rfl ?_
    refine x_icmp_eq (tgt := 43) dX11_clock_21 (by decide) (fun c21 => ?_) (fun c21 => ?_)
    · replace hf := zif_t c21 hf
      refine x_iconst (v := 1) dX11_clock_43 (by decide) ?_
      exact x_zret rfl rfl dX11_clock_44 (zretI hf)
    · replace hf := zif_f c21 hf
      refine x_aload_n dX11_clock_24 rfl rfl ?_
      refine x_iload_n dX11_clock_25 rfl rfl ?_
      obtain ⟨M4, eM4, hf⟩ := zletE hf
      refine x_putI dX11_clock_26 fp_X11_86 rfl rfl rfl rfl eM4 ?_
      refine x_aload_n dX11_clock_29 rfl rfl ?_
      refine x_getS (r := 32) dX11_clock_30 fl_X11_52 rfl rfl ?_
      obtain ⟨M6, hq5, hf⟩ := zbind hf
      refine x_invVv dX11_clock_33 mk_X4_clear ml_X11_149 (cc_X4_clear hq5) rfl rfl rfl (Nat.le_of_ble_eq_true rfl) rfl (Nat.le_of_ble_eq_true rfl) rfl ?_
      refine x_aload_n dX11_clock_36 rfl rfl ?_
      refine x_getS (r := 47) dX11_clock_37 fl_X11_66 rfl rfl ?_
      obtain ⟨M8, hq7, hf⟩ := zbind hf
      refine x_invVv dX11_clock_40 mk_X1_beginNight ml_X11_152 (cc_X1_beginNight hq7) rfl rfl rfl (Nat.le_of_ble_eq_true rfl) rfl (Nat.le_of_ble_eq_true rfl) rfl ?_
      refine x_iconst (v := 1) dX11_clock_43 (by decide) ?_
      exact x_zret rfl rfl dX11_clock_44 (zretI hf)
  · replace hf := zif_t c11 hf
    refine x_iconst (v := 0) dX11_clock_14 (by decide) ?_
    exact x_zret rfl rfl dX11_clock_15 (zretI hf)
theorem cc_X11_holiday {l : Launch} {G : zG} {x1 : Int32}  {M : zMem} {r : Int32} {M1 : zMem} (hf : fX11_holiday x1 M = some (r, M1)) : Ca l G 3 mX11_holiday [.ref (G.2.2.1 0), .int x1] M (some (.int r)) M1 := by
  refine Ca.of (by decide +kernel) (Nat.le_of_ble_eq_true rfl) rfl ?_
  rw [fX11_holiday] at hf
  refine x_iload_n dX11_holiday_0 rfl rfl ?_
  obtain ⟨r3, M2, hq1, hf⟩ := zb2E hf
  refine x_invSi dX11_holiday_1 mk_X11_isNight ml_X11_133 (cc_X11_isNight hq1) (Nat.le_of_ble_eq_true rfl) rfl (Nat.le_of_ble_eq_true rfl) rfl ?_
  refine x_if_eq (tgt := 29) dX11_holiday_4 (by decide) (fun c4 => ?_) (fun c4 => ?_)
  · replace hf := zif_t c4 hf
    refine x_iconst (v := 0) dX11_holiday_29 (by decide) ?_
    exact x_zret rfl rfl dX11_holiday_30 (zretI hf)
  · replace hf := zif_f c4 hf
    refine x_aload_n dX11_holiday_7 rfl rfl ?_
    refine x_getS (r := 29) dX11_holiday_8 fl_X11_45 rfl rfl ?_
    refine x_iload_n dX11_holiday_11 rfl rfl ?_
    obtain ⟨r6, M5, hq4, hf⟩ := zb2E hf
    refine x_invVi dX11_holiday_12 mk_X0_isHoliday ml_X11_155 (cc_X0_isHoliday hq4) rfl rfl rfl (Nat.le_of_ble_eq_true rfl) rfl (Nat.le_of_ble_eq_true rfl) rfl ?_
    refine x_if_ne (tgt := 29) dX11_holiday_15 (by decide) (fun c15 => ?_) (fun c15 => ?_)
    · replace hf := zif_f c15 hf
      refine x_iconst (v := 0) dX11_holiday_29 (by decide) ?_
      exact x_zret rfl rfl dX11_holiday_30 (zretI hf)
    · replace hf := zif_t c15 hf
      refine x_aload_n dX11_holiday_18 rfl rfl ?_
      refine x_getS (r := 29) dX11_holiday_19 fl_X11_45 rfl rfl ?_
      refine x_iload_n dX11_holiday_22 rfl rfl ?_
      obtain ⟨r9, M8, hq7, hf⟩ := zb2E hf
      refine x_invVi dX11_holiday_23 mk_X0_isGone ml_X11_158 (cc_X0_isGone hq7) rfl rfl rfl (Nat.le_of_ble_eq_true rfl) rfl (Nat.le_of_ble_eq_true rfl) rfl ?_
      refine x_if_eq (tgt := 31) dX11_holiday_26 (by decide) (fun c26 => ?_) (fun c26 => ?_)
      · replace hf := zif_t c26 hf
        refine x_aload_n dX11_holiday_31 rfl rfl ?_
        refine x_getS (r := 29) dX11_holiday_32 fl_X11_45 rfl rfl ?_
        refine x_iload_n dX11_holiday_35 rfl rfl ?_
        obtain ⟨M11, hq10, hf⟩ := zbind hf
        refine x_invVv dX11_holiday_36 mk_X0_setHoliday ml_X11_161 (cc_X0_setHoliday hq10) rfl rfl rfl (Nat.le_of_ble_eq_true rfl) rfl (Nat.le_of_ble_eq_true rfl) rfl ?_
        refine x_iconst (v := 1) dX11_holiday_39 (by decide) ?_
        exact x_zret rfl rfl dX11_holiday_40 (zretI hf)
      · replace hf := zif_f c26 hf
        refine x_iconst (v := 0) dX11_holiday_29 (by decide) ?_
        exact x_zret rfl rfl dX11_holiday_30 (zretI hf)
theorem cc_X11_offer_L35 {l : Launch} {G : zG} {N : Nat} {x1 : Int32} {x2 : Int32} {x3 : Int32} {s0 : Int32} {M : zMem} {r : Int32} {M1 : zMem} (hf : fX11_offer_L35 N x1 x2 x3 s0 M = some (r, M1)) : Ex l G 3 mX11_offer 35 [(0, .ref (G.2.2.1 0)), (1, .int x1), (2, .int x2), (3, .int x3)] [.int s0] M (zqI r M1) := by
  rw [fX11_offer_L35] at hf
  refine x_istore dX11_offer_35 (Nat.le_of_ble_eq_true rfl) rfl ?_
  refine x_iload dX11_offer_37 rfl ?_
  refine x_if_eq (tgt := 70) dX11_offer_39 (by decide) (fun c39 => ?_) (fun c39 => ?_)
  · replace hf := zif_t c39 hf
    refine x_iconst (v := -1) dX11_offer_70 (by decide) ?_
    exact x_iret rfl dX11_offer_71 (zretI hf)
  · replace hf := zif_f c39 hf
    refine x_aload_n dX11_offer_42 rfl rfl ?_
    refine x_getS (r := 29) dX11_offer_43 fl_X11_45 rfl rfl ?_
    refine x_aload_n dX11_offer_46 rfl rfl ?_
    refine x_getI dX11_offer_47 fl_X11_86 rfl rfl ?_
    obtain ⟨r12, M11, hq10, hf⟩ := zb2E hf
    refine x_invVi dX11_offer_50 mk_X0_isFound ml_X11_164 (cc_X0_isFound hq10) rfl rfl rfl (Nat.le_of_ble_eq_true rfl) rfl (Nat.le_of_ble_eq_true rfl) rfl ?_
    refine x_if_ne (tgt := 70) dX11_offer_53 (by decide) (fun c53 => ?_) (fun c53 => ?_)
    · replace hf := zif_f c53 hf
      refine x_iconst (v := -1) dX11_offer_70 (by decide) ?_
      exact x_iret rfl dX11_offer_71 (zretI hf)
    · replace hf := zif_t c53 hf
      refine x_aload_n dX11_offer_56 rfl rfl ?_
      refine x_getS (r := 29) dX11_offer_57 fl_X11_45 rfl rfl ?_
      refine x_aload_n dX11_offer_60 rfl rfl ?_
      refine x_getI dX11_offer_61 fl_X11_86 rfl rfl ?_
      obtain ⟨r15, M14, hq13, hf⟩ := zb2E hf
      refine x_invVi dX11_offer_64 mk_X0_isGone ml_X11_158 (cc_X0_isGone hq13) rfl rfl rfl (Nat.le_of_ble_eq_true rfl) rfl (Nat.le_of_ble_eq_true rfl) rfl ?_
      refine x_if_eq (tgt := 72) dX11_offer_67 (by decide) (fun c67 => ?_) (fun c67 => ?_)
      · replace hf := zif_t c67 hf
        refine x_aload_n dX11_offer_72 rfl rfl ?_
        refine x_getS (r := 32) dX11_offer_73 fl_X11_52 rfl rfl ?_
        refine x_iload_n dX11_offer_76 rfl rfl ?_
        refine x_iload_n dX11_offer_77 rfl rfl ?_
        refine x_iload_n dX11_offer_78 rfl rfl ?_
        obtain ⟨r18, M17, hq16, hf⟩ := zb2E hf
        refine x_invVi dX11_offer_79 mk_X4_add ml_X11_167 (cc_X4_add hq16) rfl rfl rfl (Nat.le_of_ble_eq_true rfl) rfl (Nat.le_of_ble_eq_true rfl) rfl ?_
        exact x_iret rfl dX11_offer_82 (zretI hf)
      · replace hf := zif_f c67 hf
        refine x_iconst (v := -1) dX11_offer_70 (by decide) ?_
        exact x_iret rfl dX11_offer_71 (zretI hf)
theorem cc_X11_offer_L34 {l : Launch} {G : zG} {N : Nat} {x1 : Int32} {x2 : Int32} {x3 : Int32} {M : zMem} {r : Int32} {M1 : zMem} (hf : fX11_offer_L34 N x1 x2 x3 M = some (r, M1)) : Ex l G 3 mX11_offer 34 [(0, .ref (G.2.2.1 0)), (1, .int x1), (2, .int x2), (3, .int x3)] [] M (zqI r M1) := by
  rw [fX11_offer_L34] at hf
  refine x_iconst (v := 0) dX11_offer_34 (by decide) ?_
  exact Ex.sb (cc_X11_offer_L35  hf) ⟨rfl, rfl, rfl, rfl, trivial⟩
theorem cc_X11_offer {l : Launch} {G : zG} {N : Nat} {x1 : Int32} {x2 : Int32} {x3 : Int32}  {M : zMem} {r : Int32} {M1 : zMem} (hf : fX11_offer N x1 x2 x3 M = some (r, M1)) : Ca l G 3 mX11_offer [.ref (G.2.2.1 0), .int x1, .int x2, .int x3] M (some (.int r)) M1 := by
  refine Ca.of (by decide +kernel) (Nat.le_of_ble_eq_true rfl) rfl ?_
  rw [fX11_offer] at hf
  refine x_aload_n dX11_offer_0 rfl rfl ?_
  refine x_getS (r := 22) dX11_offer_1 fl_X11_38 rfl rfl ?_
  refine x_iload_n dX11_offer_4 rfl rfl ?_
  obtain ⟨r3, M2, hq1, hf⟩ := zb2E hf
  refine x_invVi dX11_offer_5 mk_X9_isVolunteer ml_X11_130 (cc_X9_isVolunteer hq1) rfl rfl rfl (Nat.le_of_ble_eq_true rfl) rfl (Nat.le_of_ble_eq_true rfl) rfl ?_
  refine x_if_eq (tgt := 34) dX11_offer_8 (by decide) (fun c8 => ?_) (fun c8 => ?_)
  · replace hf := zif_t c8 hf
    exact Ex.sb (cc_X11_offer_L34  hf) ⟨rfl, rfl, rfl, rfl, trivial⟩
  · replace hf := zif_f c8 hf
    refine x_iload_n dX11_offer_11 rfl rfl ?_
    refine x_iconst (v := 1) dX11_offer_12 (by decide) ?_
    refine x_bipush (v := 63) dX11_offer_13 (by decide) ?_
    obtain ⟨r6, M5, hq4, hf⟩ := zb2E hf
    refine x_invSi dX11_offer_15 mk_X11_isWithin ml_X11_102 (cc_X11_isWithin hq4) (Nat.le_of_ble_eq_true rfl) rfl (Nat.le_of_ble_eq_true rfl) rfl ?_
    refine x_if_eq (tgt := 34) dX11_offer_18 (by decide) (fun c18 => ?_) (fun c18 => ?_)
    · replace hf := zif_t c18 hf
      exact Ex.sb (cc_X11_offer_L34  hf) ⟨rfl, rfl, rfl, rfl, trivial⟩
    · replace hf := zif_f c18 hf
      refine x_iload_n dX11_offer_21 rfl rfl ?_
      refine x_iconst (v := 1) dX11_offer_22 (by decide) ?_
      refine x_iconst (v := 3) dX11_offer_23 (by decide) ?_
      obtain ⟨r9, M8, hq7, hf⟩ := zb2E hf
      refine x_invSi dX11_offer_24 mk_X11_isWithin ml_X11_102 (cc_X11_isWithin hq7) (Nat.le_of_ble_eq_true rfl) rfl (Nat.le_of_ble_eq_true rfl) rfl ?_
      refine x_if_eq (tgt := 34) dX11_offer_27 (by decide) (fun c27 => ?_) (fun c27 => ?_)
      · replace hf := zif_t c27 hf
        exact Ex.sb (cc_X11_offer_L34  hf) ⟨rfl, rfl, rfl, rfl, trivial⟩
      · replace hf := zif_f c27 hf
        refine x_iconst (v := 1) dX11_offer_30 (by decide) ?_
        refine x_goto (tgt := 35) dX11_offer_31 (by decide) ?_
        exact Ex.sb (cc_X11_offer_L35  hf) ⟨rfl, rfl, rfl, rfl, trivial⟩
theorem cc_X11_shifts_L79 {l : Launch} {G : zG} {N : Nat} {k39 : Int32 → zMem → Option (Int32 × zMem)} (hk39 : ∀ {x1 : Int32} {M : zMem} {r : Int32} {M1 : zMem}, k39 x1 M = some (r, M1) → Ex l G 11 mX11_shifts 39 [(0, .ref (G.2.2.1 0)), (1, .int x1)] [] M (zqI r M1)) {x1 : Int32} {x2 : Int32} {s0 : Int32} {M : zMem} {r : Int32} {M1 : zMem} (hf : fX11_shifts_L79 N k39 x1 x2 s0 M = some (r, M1)) : Ex l G 11 mX11_shifts 79 [(0, .ref (G.2.2.1 0)), (1, .int x1), (2, .int x2)] [.int s0] M (zqI r M1) := by
  rw [fX11_shifts_L79] at hf
  refine x_istore_n dX11_shifts_79 rfl (Nat.le_of_ble_eq_true rfl) rfl ?_
  refine x_aload_n dX11_shifts_80 rfl rfl ?_
  refine x_getS (r := 36) dX11_shifts_81 fl_X11_59 rfl rfl ?_
  refine x_iload_n dX11_shifts_84 rfl rfl ?_
  refine x_aload_n dX11_shifts_85 rfl rfl ?_
  refine x_getS (r := 32) dX11_shifts_86 fl_X11_52 rfl rfl ?_
  refine x_iload_n dX11_shifts_89 rfl rfl ?_
  obtain ⟨r40, M39, hq38, hf⟩ := zb2E hf
  refine x_invVi dX11_shifts_90 mk_X4_mostOf ml_X11_181 (cc_X4_mostOf hq38) rfl rfl rfl (Nat.le_of_ble_eq_true rfl) rfl (Nat.le_of_ble_eq_true rfl) rfl ?_
  refine x_aload_n dX11_shifts_93 rfl rfl ?_
  refine x_getS (r := 22) dX11_shifts_94 fl_X11_38 rfl rfl ?_
  refine x_iload_n dX11_shifts_97 rfl rfl ?_
  refine x_iconst (v := 0) dX11_shifts_98 (by decide) ?_
  refine x_aload_n dX11_shifts_99 rfl rfl ?_
  refine x_getI dX11_shifts_100 fl_X11_86 rfl rfl ?_
  obtain ⟨r43, M42, hq41, hf⟩ := zb2E hf
  refine x_invVi dX11_shifts_103 mk_X9_hasStep ml_X11_136 (cc_X9_hasStep hq41) rfl rfl rfl (Nat.le_of_ble_eq_true rfl) rfl (Nat.le_of_ble_eq_true rfl) rfl ?_
  obtain ⟨M45, hq44, hf⟩ := zbind hf
  refine x_invVv dX11_shifts_106 mk_X7_add ml_X11_184 (cc_X7_add hq44) rfl rfl rfl (Nat.le_of_ble_eq_true rfl) rfl (Nat.le_of_ble_eq_true rfl) rfl ?_
  obtain ⟨x1_46, ex1_46, hf⟩ := zletE hf
  refine x_iinc (c0 := 1) dX11_shifts_109 rfl (Nat.le_of_ble_eq_true rfl) (by decide) ex1_46 ?_
  refine x_goto (tgt := 39) dX11_shifts_112 (by decide) ?_
  exact Ex.sb (hk39 hf) ⟨rfl, rfl, trivial⟩
theorem cc_X11_shifts_L125 {l : Launch} {G : zG} {N : Nat} : ∀ {n : Nat} {x1 : Int32} {x2 : Int32} {M : zMem} {r : Int32} {M1 : zMem}, fX11_shifts_L125 N n x1 x2 M = some (r, M1) → Ex l G 11 mX11_shifts 125 [(0, .ref (G.2.2.1 0)), (1, .int x1), (2, .int x2)] [] M (zqI r M1) := by
  intro n
  induction n with
  | zero => intro x1 x2 M r M1 hf; cases hf
  | succ n ih =>
    intro x1 x2 M r M1 hf
    rw [fX11_shifts_L125] at hf
    refine x_iload_n dX11_shifts_125 rfl rfl ?_
    refine x_aload_n dX11_shifts_126 rfl rfl ?_
    refine x_getS (r := 32) dX11_shifts_127 fl_X11_52 rfl rfl ?_
    obtain ⟨r26, M25, hq24, hf⟩ := zb2E hf
    refine x_invVi dX11_shifts_130 mk_X4_size ml_X11_172 (cc_X4_size hq24) rfl rfl rfl (Nat.le_of_ble_eq_true rfl) rfl (Nat.le_of_ble_eq_true rfl) rfl ?_
    refine x_icmp_ge (tgt := 169) dX11_shifts_133 (by decide) (fun c133 => ?_) (fun c133 => ?_)
    · replace hf := zif_t c133 hf
      refine x_aload_n dX11_shifts_169 rfl rfl ?_
      refine x_getS (r := 29) dX11_shifts_170 fl_X11_45 rfl rfl ?_
      refine x_aload_n dX11_shifts_173 rfl rfl ?_
      refine x_getI dX11_shifts_174 fl_X11_86 rfl rfl ?_
      obtain ⟨M28, hq27, hf⟩ := zbind hf
      refine x_invVv dX11_shifts_177 mk_X0_setFound ml_X11_197 (cc_X0_setFound hq27) rfl rfl rfl (Nat.le_of_ble_eq_true rfl) rfl (Nat.le_of_ble_eq_true rfl) rfl ?_
      refine x_iload_n dX11_shifts_180 rfl rfl ?_
      exact x_iret rfl dX11_shifts_181 (zretI hf)
    · replace hf := zif_f c133 hf
      refine x_aload_n dX11_shifts_136 rfl rfl ?_
      refine x_getS (r := 29) dX11_shifts_137 fl_X11_45 rfl rfl ?_
      refine x_aload_n dX11_shifts_140 rfl rfl ?_
      refine x_getS (r := 32) dX11_shifts_141 fl_X11_52 rfl rfl ?_
      refine x_iload_n dX11_shifts_144 rfl rfl ?_
      obtain ⟨r31, M30, hq29, hf⟩ := zb2E hf
      refine x_invVi dX11_shifts_145 mk_X4_volunteerOf ml_X11_175 (cc_X4_volunteerOf hq29) rfl rfl rfl (Nat.le_of_ble_eq_true rfl) rfl (Nat.le_of_ble_eq_true rfl) rfl ?_
      refine x_aload_n dX11_shifts_148 rfl rfl ?_
      refine x_getI dX11_shifts_149 fl_X11_86 rfl rfl ?_
      refine x_aload_n dX11_shifts_152 rfl rfl ?_
      refine x_getS (r := 36) dX11_shifts_153 fl_X11_59 rfl rfl ?_
      refine x_iload_n dX11_shifts_156 rfl rfl ?_
      obtain ⟨r34, M33, hq32, hf⟩ := zb2E hf
      refine x_invVi dX11_shifts_157 mk_X7_shiftOf ml_X11_190 (cc_X7_shiftOf hq32) rfl rfl rfl (Nat.le_of_ble_eq_true rfl) rfl (Nat.le_of_ble_eq_true rfl) rfl ?_
      obtain ⟨M36, hq35, hf⟩ := zbind hf
      refine x_invVv dX11_shifts_160 mk_X0_setHours ml_X11_193 (cc_X0_setHours hq35) rfl rfl rfl (Nat.le_of_ble_eq_true rfl) rfl (Nat.le_of_ble_eq_true rfl) rfl ?_
      obtain ⟨x2_37, ex2_37, hf⟩ := zletE hf
      refine x_iinc (c0 := 1) dX11_shifts_163 rfl (Nat.le_of_ble_eq_true rfl) (by decide) ex2_37 ?_
      refine x_goto (tgt := 125) dX11_shifts_166 (by decide) ?_
      exact Ex.sb (ih hf) ⟨rfl, rfl, rfl, trivial⟩
theorem cc_X11_shifts_L39 {l : Launch} {G : zG} {N : Nat} : ∀ {n : Nat} {x1 : Int32} {M : zMem} {r : Int32} {M1 : zMem}, fX11_shifts_L39 N n x1 M = some (r, M1) → Ex l G 11 mX11_shifts 39 [(0, .ref (G.2.2.1 0)), (1, .int x1)] [] M (zqI r M1) := by
  intro n
  induction n with
  | zero => intro x1 M r M1 hf; cases hf
  | succ n ih =>
    intro x1 M r M1 hf
    rw [fX11_shifts_L39] at hf
    refine x_iload_n dX11_shifts_39 rfl rfl ?_
    refine x_aload_n dX11_shifts_40 rfl rfl ?_
    refine x_getS (r := 32) dX11_shifts_41 fl_X11_52 rfl rfl ?_
    obtain ⟨r11, M10, hq9, hf⟩ := zb2E hf
    refine x_invVi dX11_shifts_44 mk_X4_size ml_X11_172 (cc_X4_size hq9) rfl rfl rfl (Nat.le_of_ble_eq_true rfl) rfl (Nat.le_of_ble_eq_true rfl) rfl ?_
    refine x_icmp_ge (tgt := 115) dX11_shifts_47 (by decide) (fun c47 => ?_) (fun c47 => ?_)
    · replace hf := zif_t c47 hf
      refine x_aload_n dX11_shifts_115 rfl rfl ?_
      refine x_getS (r := 36) dX11_shifts_116 fl_X11_59 rfl rfl ?_
      obtain ⟨r14, M13, hq12, hf⟩ := zb2E hf
      refine x_invVi dX11_shifts_119 mk_X7_findBest ml_X11_187 (cc_X7_findBest hq12) rfl rfl rfl (Nat.le_of_ble_eq_true rfl) rfl (Nat.le_of_ble_eq_true rfl) rfl ?_
      refine x_istore_n dX11_shifts_122 rfl (Nat.le_of_ble_eq_true rfl) rfl ?_
      refine x_iconst (v := 0) dX11_shifts_123 (by decide) ?_
      refine x_istore_n dX11_shifts_124 rfl (Nat.le_of_ble_eq_true rfl) rfl ?_
      exact Ex.sb (cc_X11_shifts_L125  hf) ⟨rfl, rfl, rfl, trivial⟩
    · replace hf := zif_f c47 hf
      refine x_aload_n dX11_shifts_50 rfl rfl ?_
      refine x_getS (r := 32) dX11_shifts_51 fl_X11_52 rfl rfl ?_
      refine x_iload_n dX11_shifts_54 rfl rfl ?_
      obtain ⟨r17, M16, hq15, hf⟩ := zb2E hf
      refine x_invVi dX11_shifts_55 mk_X4_volunteerOf ml_X11_175 (cc_X4_volunteerOf hq15) rfl rfl rfl (Nat.le_of_ble_eq_true rfl) rfl (Nat.le_of_ble_eq_true rfl) rfl ?_
      refine x_istore_n dX11_shifts_58 rfl (Nat.le_of_ble_eq_true rfl) rfl ?_
      refine x_aload_n dX11_shifts_59 rfl rfl ?_
      refine x_iload_n dX11_shifts_60 rfl rfl ?_
      obtain ⟨r20, M19, hq18, hf⟩ := zb2E hf
      refine x_invVi dX11_shifts_61 mk_X11_careIsDue ml_X11_142 (cc_X11_careIsDue hq18) rfl rfl rfl (Nat.le_of_ble_eq_true rfl) rfl (Nat.le_of_ble_eq_true rfl) rfl ?_
      refine x_if_eq (tgt := 71) dX11_shifts_64 (by decide) (fun c64 => ?_) (fun c64 => ?_)
      · replace hf := zif_t c64 hf
        refine x_aload_n dX11_shifts_71 rfl rfl ?_
        refine x_getS (r := 32) dX11_shifts_72 fl_X11_52 rfl rfl ?_
        refine x_iload_n dX11_shifts_75 rfl rfl ?_
        obtain ⟨r23, M22, hq21, hf⟩ := zb2E hf
        refine x_invVi dX11_shifts_76 mk_X4_hoursOf ml_X11_178 (cc_X4_hoursOf hq21) rfl rfl rfl (Nat.le_of_ble_eq_true rfl) rfl (Nat.le_of_ble_eq_true rfl) rfl ?_
        exact Ex.sb (cc_X11_shifts_L79 ih hf) ⟨rfl, rfl, rfl, trivial⟩
      · replace hf := zif_f c64 hf
        refine x_iconst (v := 0) dX11_shifts_67 (by decide) ?_
        refine x_goto (tgt := 79) dX11_shifts_68 (by decide) ?_
        exact Ex.sb (cc_X11_shifts_L79 ih hf) ⟨rfl, rfl, rfl, trivial⟩
theorem cc_X11_shifts {l : Launch} {G : zG} {N : Nat}   {M : zMem} {r : Int32} {M1 : zMem} (hf : fX11_shifts N M = some (r, M1)) : Ca l G 11 mX11_shifts [.ref (G.2.2.1 0)] M (some (.int r)) M1 := by
  refine Ca.of (by decide +kernel) (Nat.le_of_ble_eq_true rfl) rfl ?_
  rw [fX11_shifts] at hf
  refine x_aload_n dX11_shifts_0 rfl rfl ?_
  refine x_getS (r := 29) dX11_shifts_1 fl_X11_45 rfl rfl ?_
  refine x_aload_n dX11_shifts_4 rfl rfl ?_
  refine x_getI dX11_shifts_5 fl_X11_86 rfl rfl ?_
  obtain ⟨r3, M2, hq1, hf⟩ := zb2E hf
  refine x_invVi dX11_shifts_8 mk_X0_isFound ml_X11_164 (cc_X0_isFound hq1) rfl rfl rfl (Nat.le_of_ble_eq_true rfl) rfl (Nat.le_of_ble_eq_true rfl) rfl ?_
  refine x_if_ne (tgt := 28) dX11_shifts_11 (by decide) (fun c11 => ?_) (fun c11 => ?_)
  · replace hf := zif_f c11 hf
    refine x_iconst (v := -1) dX11_shifts_28 (by decide) ?_
    exact x_iret rfl dX11_shifts_29 (zretI hf)
  · replace hf := zif_t c11 hf
    refine x_aload_n dX11_shifts_14 rfl rfl ?_
    refine x_getS (r := 29) dX11_shifts_15 fl_X11_45 rfl rfl ?_
    refine x_aload_n dX11_shifts_18 rfl rfl ?_
    refine x_getI dX11_shifts_19 fl_X11_86 rfl rfl ?_
    obtain ⟨r6, M5, hq4, hf⟩ := zb2E hf
    refine x_invVi dX11_shifts_22 mk_X0_isGone ml_X11_158 (cc_X0_isGone hq4) rfl rfl rfl (Nat.le_of_ble_eq_true rfl) rfl (Nat.le_of_ble_eq_true rfl) rfl ?_
    refine x_if_eq (tgt := 30) dX11_shifts_25 (by decide) (fun c25 => ?_) (fun c25 => ?_)
    · replace hf := zif_t c25 hf
      refine x_aload_n dX11_shifts_30 rfl rfl ?_
      refine x_getS (r := 36) dX11_shifts_31 fl_X11_59 rfl rfl ?_
      obtain ⟨M8, hq7, hf⟩ := zbind hf
      refine x_invVv dX11_shifts_34 mk_X7_clear ml_X11_171 (cc_X7_clear hq7) rfl rfl rfl (Nat.le_of_ble_eq_true rfl) rfl (Nat.le_of_ble_eq_true rfl) rfl ?_
      refine x_iconst (v := 0) dX11_shifts_37 (by decide) ?_
      refine x_istore_n dX11_shifts_38 rfl (Nat.le_of_ble_eq_true rfl) rfl ?_
      exact Ex.sb (cc_X11_shifts_L39  hf) ⟨rfl, rfl, trivial⟩
    · replace hf := zif_f c25 hf
      refine x_iconst (v := -1) dX11_shifts_28 (by decide) ?_
      exact x_iret rfl dX11_shifts_29 (zretI hf)
theorem cc_X11_there {l : Launch} {G : zG} {x1 : Int32} {x2 : Int32}  {M : zMem} {r : Int32} {M1 : zMem} (hf : fX11_there x1 x2 M = some (r, M1)) : Ca l G 2 mX11_there [.ref (G.2.2.1 0), .int x1, .int x2] M (some (.int r)) M1 := by
  refine Ca.of (by decide +kernel) (Nat.le_of_ble_eq_true rfl) rfl ?_
  rw [fX11_there] at hf
  refine x_aload_n dX11_there_0 rfl rfl ?_
  refine x_getS (r := 22) dX11_there_1 fl_X11_38 rfl rfl ?_
  refine x_iload_n dX11_there_4 rfl rfl ?_
  obtain ⟨r3, M2, hq1, hf⟩ := zb2E hf
  refine x_invVi dX11_there_5 mk_X9_isVolunteer ml_X11_130 (cc_X9_isVolunteer hq1) rfl rfl rfl (Nat.le_of_ble_eq_true rfl) rfl (Nat.le_of_ble_eq_true rfl) rfl ?_
  refine x_if_eq (tgt := 30) dX11_there_8 (by decide) (fun c8 => ?_) (fun c8 => ?_)
  · replace hf := zif_t c8 hf
    refine x_iconst (v := -1) dX11_there_30 (by decide) ?_
    exact x_iret rfl dX11_there_31 (zretI hf)
  · replace hf := zif_f c8 hf
    refine x_iload_n dX11_there_11 rfl rfl ?_
    obtain ⟨r6, M5, hq4, hf⟩ := zb2E hf
    refine x_invSi dX11_there_12 mk_X11_isNight ml_X11_133 (cc_X11_isNight hq4) (Nat.le_of_ble_eq_true rfl) rfl (Nat.le_of_ble_eq_true rfl) rfl ?_
    refine x_if_eq (tgt := 30) dX11_there_15 (by decide) (fun c15 => ?_) (fun c15 => ?_)
    · replace hf := zif_t c15 hf
      refine x_iconst (v := -1) dX11_there_30 (by decide) ?_
      exact x_iret rfl dX11_there_31 (zretI hf)
    · replace hf := zif_f c15 hf
      refine x_aload_n dX11_there_18 rfl rfl ?_
      refine x_getS (r := 29) dX11_there_19 fl_X11_45 rfl rfl ?_
      refine x_iload_n dX11_there_22 rfl rfl ?_
      refine x_iload_n dX11_there_23 rfl rfl ?_
      obtain ⟨r9, M8, hq7, hf⟩ := zb2E hf
      refine x_invVi dX11_there_24 mk_X0_hoursOf ml_X11_200 (cc_X0_hoursOf hq7) rfl rfl rfl (Nat.le_of_ble_eq_true rfl) rfl (Nat.le_of_ble_eq_true rfl) rfl ?_
      refine x_goto (tgt := 31) dX11_there_27 (by decide) ?_
      exact x_iret rfl dX11_there_31 (zretI hf)
theorem cc_X11_keptHours_L68 {l : Launch} {G : zG} {N : Nat} {k10 : Int32 → Int32 → Int32 → Int32 → Int32 → zMem → Option (Int32 × zMem)} (hk10 : ∀ {x1 : Int32} {x2 : Int32} {x3 : Int32} {x4 : Int32} {x5 : Int32} {M : zMem} {r : Int32} {M1 : zMem}, k10 x1 x2 x3 x4 x5 M = some (r, M1) → Ex l G 2 mX11_keptHours 10 [(0, .ref (G.2.2.1 0)), (1, .int x1), (2, .int x2), (3, .int x3), (4, .int x4), (5, .int x5)] [] M (zqI r M1)) {x1 : Int32} {x2 : Int32} {x3 : Int32} {x5 : Int32} {s0 : Int32} {s1 : Int32} {M : zMem} {r : Int32} {M1 : zMem} (hf : fX11_keptHours_L68 N k10 x1 x2 x3 x5 s0 s1 M = some (r, M1)) : Ex l G 2 mX11_keptHours 68 [(0, .ref (G.2.2.1 0)), (1, .int x1), (2, .int x2), (3, .int x3), (5, .int x5)] [.int s1, .int s0] M (zqI r M1) := by
  rw [fX11_keptHours_L68] at hf
  refine x_ior dX11_keptHours_68 ?_
  obtain ⟨x4_12, ex4_12, hf⟩ := zletE hf
  refine x_istore dX11_keptHours_69 (Nat.le_of_ble_eq_true rfl) ex4_12 ?_
  obtain ⟨x5_13, ex5_13, hf⟩ := zletE hf
  refine x_iinc (c0 := 1) dX11_keptHours_71 rfl (Nat.le_of_ble_eq_true rfl) (by decide) ex5_13 ?_
  refine x_goto (tgt := 10) dX11_keptHours_74 (by decide) ?_
  exact Ex.sb (hk10 hf) ⟨rfl, rfl, rfl, rfl, rfl, rfl, trivial⟩
theorem cc_X11_keptHours_L10 {l : Launch} {G : zG} {N : Nat} : ∀ {n : Nat} {x1 : Int32} {x2 : Int32} {x3 : Int32} {x4 : Int32} {x5 : Int32} {M : zMem} {r : Int32} {M1 : zMem}, fX11_keptHours_L10 N n x1 x2 x3 x4 x5 M = some (r, M1) → Ex l G 2 mX11_keptHours 10 [(0, .ref (G.2.2.1 0)), (1, .int x1), (2, .int x2), (3, .int x3), (4, .int x4), (5, .int x5)] [] M (zqI r M1) := by
  intro n
  induction n with
  | zero => intro x1 x2 x3 x4 x5 M r M1 hf; cases hf
  | succ n ih =>
    intro x1 x2 x3 x4 x5 M r M1 hf
    rw [fX11_keptHours_L10] at hf
    refine x_iload dX11_keptHours_10 rfl ?_
    refine x_aload_n dX11_keptHours_12 rfl rfl ?_
    refine x_getS (r := 22) dX11_keptHours_13 fl_X11_38 rfl rfl ?_
    obtain ⟨r3, M2, hq1, hf⟩ := zb2E hf
    refine x_invVi dX11_keptHours_16 mk_X9_size ml_X11_257 (cc_X9_size hq1) rfl rfl rfl (Nat.le_of_ble_eq_true rfl) rfl (Nat.le_of_ble_eq_true rfl) rfl ?_
    refine x_icmp_ge (tgt := 77) dX11_keptHours_19 (by decide) (fun c19 => ?_) (fun c19 => ?_)
    · replace hf := zif_t c19 hf
      refine x_iload_n dX11_keptHours_77 rfl rfl ?_
      refine x_iload dX11_keptHours_78 rfl ?_
      refine x_iand dX11_keptHours_80 ?_
      exact x_iret rfl dX11_keptHours_81 (zretI hf)
    · replace hf := zif_f c19 hf
      refine x_aload_n dX11_keptHours_22 rfl rfl ?_
      refine x_getS (r := 29) dX11_keptHours_23 fl_X11_45 rfl rfl ?_
      refine x_iload dX11_keptHours_26 rfl ?_
      refine x_iload_n dX11_keptHours_28 rfl rfl ?_
      obtain ⟨r6, M5, hq4, hf⟩ := zb2E hf
      refine x_invVi dX11_keptHours_29 mk_X0_hoursOf ml_X11_200 (cc_X0_hoursOf hq4) rfl rfl rfl (Nat.le_of_ble_eq_true rfl) rfl (Nat.le_of_ble_eq_true rfl) rfl ?_
      refine x_istore dX11_keptHours_32 (Nat.le_of_ble_eq_true rfl) rfl ?_
      refine x_iload_n dX11_keptHours_34 rfl rfl ?_
      refine x_iload_n dX11_keptHours_35 rfl rfl ?_
      refine x_iload dX11_keptHours_36 rfl ?_
      refine x_iand dX11_keptHours_38 ?_
      refine x_ior dX11_keptHours_39 ?_
      obtain ⟨x3_7, ex3_7, hf⟩ := zletE hf
      refine x_istore_n dX11_keptHours_40 rfl (Nat.le_of_ble_eq_true rfl) ex3_7 ?_
      refine x_iload_n dX11_keptHours_41 rfl rfl ?_
      refine x_iload dX11_keptHours_42 rfl ?_
      refine x_ior dX11_keptHours_44 ?_
      obtain ⟨x2_8, ex2_8, hf⟩ := zletE hf
      refine x_istore_n dX11_keptHours_45 rfl (Nat.le_of_ble_eq_true rfl) ex2_8 ?_
      refine x_iload dX11_keptHours_46 rfl ?_
      refine x_aload_n dX11_keptHours_48 rfl rfl ?_
      refine x_getS (r := 22) dX11_keptHours_49 fl_X11_38 rfl rfl ?_
      refine x_iload dX11_keptHours_52 rfl ?_
      refine x_iconst (v := 0) dX11_keptHours_54 (by decide) ?_
      refine x_iload_n dX11_keptHours_55 rfl rfl ?_
      obtain ⟨r11, M10, hq9, hf⟩ := zb2E hf
      refine x_invVi dX11_keptHours_56 mk_X9_hasStep ml_X11_136 (cc_X9_hasStep hq9) rfl rfl rfl (Nat.le_of_ble_eq_true rfl) rfl (Nat.le_of_ble_eq_true rfl) rfl ?_
      refine x_if_eq (tgt := 67) dX11_keptHours_59 (by decide) (fun c59 => ?_) (fun c59 => ?_)
      · replace hf := zif_t c59 hf
        refine x_iconst (v := 0) dX11_keptHours_67 (by decide) ?_
        exact Ex.sb (cc_X11_keptHours_L68 ih hf) ⟨rfl, rfl, rfl, rfl, rfl, trivial⟩
      · replace hf := zif_f c59 hf
        refine x_iload dX11_keptHours_62 rfl ?_
        refine x_goto (tgt := 68) dX11_keptHours_64 (by decide) ?_
        exact Ex.sb (cc_X11_keptHours_L68 ih hf) ⟨rfl, rfl, rfl, rfl, rfl, trivial⟩
theorem cc_X11_keptHours {l : Launch} {G : zG} {N : Nat} {x1 : Int32}  {M : zMem} {r : Int32} {M1 : zMem} (hf : fX11_keptHours N x1 M = some (r, M1)) : Ca l G 2 mX11_keptHours [.ref (G.2.2.1 0), .int x1] M (some (.int r)) M1 := by
  refine Ca.of (by decide +kernel) (Nat.le_of_ble_eq_true rfl) rfl ?_
  rw [fX11_keptHours] at hf
  refine x_iconst (v := 0) dX11_keptHours_0 (by decide) ?_
  refine x_istore_n dX11_keptHours_1 rfl (Nat.le_of_ble_eq_true rfl) rfl ?_
  refine x_iconst (v := 0) dX11_keptHours_2 (by decide) ?_
  refine x_istore_n dX11_keptHours_3 rfl (Nat.le_of_ble_eq_true rfl) rfl ?_
  refine x_iconst (v := 0) dX11_keptHours_4 (by decide) ?_
  refine x_istore dX11_keptHours_5 (Nat.le_of_ble_eq_true rfl) rfl ?_
  refine x_iconst (v := 0) dX11_keptHours_7 (by decide) ?_
  refine x_istore dX11_keptHours_8 (Nat.le_of_ble_eq_true rfl) rfl ?_
  exact Ex.sb (cc_X11_keptHours_L10  hf) ⟨rfl, rfl, rfl, rfl, rfl, rfl, trivial⟩
theorem cc_X11_lacks {l : Launch} {G : zG} {N : Nat} {x1 : Int32}  {M : zMem} {r : Int32} {M1 : zMem} (hf : fX11_lacks N x1 M = some (r, M1)) : Ca l G 3 mX11_lacks [.ref (G.2.2.1 0), .int x1] M (some (.int r)) M1 := by
  refine Ca.of (by decide +kernel) (Nat.le_of_ble_eq_true rfl) rfl ?_
  rw [fX11_lacks] at hf
  refine x_iload_n dX11_lacks_0 rfl rfl ?_
  obtain ⟨r3, M2, hq1, hf⟩ := zb2E hf
  refine x_invSi dX11_lacks_1 mk_X11_isNight ml_X11_133 (cc_X11_isNight hq1) (Nat.le_of_ble_eq_true rfl) rfl (Nat.le_of_ble_eq_true rfl) rfl ?_
  refine x_if_eq (tgt := 31) dX11_lacks_4 (by decide) (fun c4 => ?_) (fun c4 => ?_)
  · replace hf := zif_t c4 hf
    refine x_iconst (v := -1) dX11_lacks_31 (by decide) ?_
    exact x_iret rfl dX11_lacks_32 (zretI hf)
  · replace hf := zif_f c4 hf
    refine x_aload_n dX11_lacks_7 rfl rfl ?_
    refine x_getS (r := 29) dX11_lacks_8 fl_X11_45 rfl rfl ?_
    refine x_iload_n dX11_lacks_11 rfl rfl ?_
    obtain ⟨r6, M5, hq4, hf⟩ := zb2E hf
    refine x_invVi dX11_lacks_12 mk_X0_isFound ml_X11_164 (cc_X0_isFound hq4) rfl rfl rfl (Nat.le_of_ble_eq_true rfl) rfl (Nat.le_of_ble_eq_true rfl) rfl ?_
    refine x_if_eq (tgt := 31) dX11_lacks_15 (by decide) (fun c15 => ?_) (fun c15 => ?_)
    · replace hf := zif_t c15 hf
      refine x_iconst (v := -1) dX11_lacks_31 (by decide) ?_
      exact x_iret rfl dX11_lacks_32 (zretI hf)
    · replace hf := zif_f c15 hf
      refine x_bipush (v := 63) dX11_lacks_18 (by decide) ?_
      refine x_aload_n dX11_lacks_20 rfl rfl ?_
      refine x_iload_n dX11_lacks_21 rfl rfl ?_
      obtain ⟨r9, M8, hq7, hf⟩ := zb2E hf
      refine x_invVi dX11_lacks_22 mk_X11_keptHours ml_X11_202 (cc_X11_keptHours hq7) rfl rfl rfl (Nat.le_of_ble_eq_true rfl) rfl (Nat.le_of_ble_eq_true rfl) rfl ?_
      refine x_iconst (v := -1) dX11_lacks_25 (by decide) ?_
      refine x_ixor dX11_lacks_26 ?_
      refine x_iand dX11_lacks_27 ?_
      refine x_goto (tgt := 32) dX11_lacks_28 (by decide) ?_
      exact x_iret rfl dX11_lacks_32 (zretI hf)
theorem cc_X11_call_L55 {l : Launch} {G : zG} {x1 : Int32} {x2 : Int32} {x3 : Int32} {x4 : Int32} {x5 : Int32} {s0 : Int32} {M : zMem} {r : Int32} {M1 : zMem} (hf : fX11_call_L55 x1 x2 x3 x4 x5 s0 M = some (r, M1)) : Ex l G 3 mX11_call 55 [(0, .ref (G.2.2.1 0)), (1, .int x1), (2, .int x2), (3, .int x3), (4, .int x4), (5, .int x5)] [.int s0] M (zqI r M1) := by
  rw [fX11_call_L55] at hf
  refine x_istore dX11_call_55 (Nat.le_of_ble_eq_true rfl) rfl ?_
  refine x_iload dX11_call_57 rfl ?_
  refine x_if_eq (tgt := 76) dX11_call_59 (by decide) (fun c59 => ?_) (fun c59 => ?_)
  · replace hf := zif_t c59 hf
    refine x_iconst (v := -1) dX11_call_76 (by decide) ?_
    exact x_iret rfl dX11_call_77 (zretI hf)
  · replace hf := zif_f c59 hf
    refine x_aload_n dX11_call_62 rfl rfl ?_
    refine x_getS (r := 29) dX11_call_63 fl_X11_45 rfl rfl ?_
    refine x_aload_n dX11_call_66 rfl rfl ?_
    refine x_getI dX11_call_67 fl_X11_86 rfl rfl ?_
    obtain ⟨r18, M17, hq16, hf⟩ := zb2E hf
    refine x_invVi dX11_call_70 mk_X0_isGone ml_X11_158 (cc_X0_isGone hq16) rfl rfl rfl (Nat.le_of_ble_eq_true rfl) rfl (Nat.le_of_ble_eq_true rfl) rfl ?_
    refine x_if_eq (tgt := 78) dX11_call_73 (by decide) (fun c73 => ?_) (fun c73 => ?_)
    · replace hf := zif_t c73 hf
      refine x_aload_n dX11_call_78 rfl rfl ?_
      refine x_getS (r := 47) dX11_call_79 fl_X11_66 rfl rfl ?_
      refine x_aload_n dX11_call_82 rfl rfl ?_
      refine x_getI dX11_call_83 fl_X11_86 rfl rfl ?_
      refine x_iload_n dX11_call_86 rfl rfl ?_
      refine x_iload_n dX11_call_87 rfl rfl ?_
      refine x_iload_n dX11_call_88 rfl rfl ?_
      refine x_iload dX11_call_89 rfl ?_
      refine x_iload dX11_call_91 rfl ?_
      obtain ⟨r21, M20, hq19, hf⟩ := zb2E hf
      refine x_invVi dX11_call_93 mk_X1_add ml_X11_208 (cc_X1_add hq19) rfl rfl rfl (Nat.le_of_ble_eq_true rfl) rfl (Nat.le_of_ble_eq_true rfl) rfl ?_
      exact x_iret rfl dX11_call_96 (zretI hf)
    · replace hf := zif_f c73 hf
      refine x_iconst (v := -1) dX11_call_76 (by decide) ?_
      exact x_iret rfl dX11_call_77 (zretI hf)
theorem cc_X11_call_L54 {l : Launch} {G : zG} {x1 : Int32} {x2 : Int32} {x3 : Int32} {x4 : Int32} {x5 : Int32} {M : zMem} {r : Int32} {M1 : zMem} (hf : fX11_call_L54 x1 x2 x3 x4 x5 M = some (r, M1)) : Ex l G 3 mX11_call 54 [(0, .ref (G.2.2.1 0)), (1, .int x1), (2, .int x2), (3, .int x3), (4, .int x4), (5, .int x5)] [] M (zqI r M1) := by
  rw [fX11_call_L54] at hf
  refine x_iconst (v := 0) dX11_call_54 (by decide) ?_
  exact Ex.sb (cc_X11_call_L55  hf) ⟨rfl, rfl, rfl, rfl, rfl, rfl, trivial⟩
theorem cc_X11_call {l : Launch} {G : zG} {x1 : Int32} {x2 : Int32} {x3 : Int32} {x4 : Int32} {x5 : Int32}  {M : zMem} {r : Int32} {M1 : zMem} (hf : fX11_call x1 x2 x3 x4 x5 M = some (r, M1)) : Ca l G 3 mX11_call [.ref (G.2.2.1 0), .int x1, .int x2, .int x3, .int x4, .int x5] M (some (.int r)) M1 := by
  refine Ca.of (by decide +kernel) (Nat.le_of_ble_eq_true rfl) rfl ?_
  rw [fX11_call] at hf
  refine x_iload_n dX11_call_0 rfl rfl ?_
  refine x_iconst (v := 0) dX11_call_1 (by decide) ?_
  refine x_sipush (v := 359) dX11_call_2 (by decide) ?_
  obtain ⟨r3, M2, hq1, hf⟩ := zb2E hf
  refine x_invSi dX11_call_5 mk_X11_isWithin ml_X11_102 (cc_X11_isWithin hq1) (Nat.le_of_ble_eq_true rfl) rfl (Nat.le_of_ble_eq_true rfl) rfl ?_
  refine x_if_eq (tgt := 54) dX11_call_8 (by decide) (fun c8 => ?_) (fun c8 => ?_)
  · replace hf := zif_t c8 hf
    exact Ex.sb (cc_X11_call_L54  hf) ⟨rfl, rfl, rfl, rfl, rfl, rfl, trivial⟩
  · replace hf := zif_f c8 hf
    refine x_iload_n dX11_call_11 rfl rfl ?_
    obtain ⟨r6, M5, hq4, hf⟩ := zb2E hf
    refine x_invSi dX11_call_12 mk_X11_isCaller ml_X11_205 (cc_X11_isCaller hq4) (Nat.le_of_ble_eq_true rfl) rfl (Nat.le_of_ble_eq_true rfl) rfl ?_
    refine x_if_eq (tgt := 54) dX11_call_15 (by decide) (fun c15 => ?_) (fun c15 => ?_)
    · replace hf := zif_t c15 hf
      exact Ex.sb (cc_X11_call_L54  hf) ⟨rfl, rfl, rfl, rfl, rfl, rfl, trivial⟩
    · replace hf := zif_f c15 hf
      refine x_iload_n dX11_call_18 rfl rfl ?_
      refine x_iconst (v := 0) dX11_call_19 (by decide) ?_
      refine x_bipush (v := 9) dX11_call_20 (by decide) ?_
      obtain ⟨r9, M8, hq7, hf⟩ := zb2E hf
      refine x_invSi dX11_call_22 mk_X11_isWithin ml_X11_102 (cc_X11_isWithin hq7) (Nat.le_of_ble_eq_true rfl) rfl (Nat.le_of_ble_eq_true rfl) rfl ?_
      refine x_if_eq (tgt := 54) dX11_call_25 (by decide) (fun c25 => ?_) (fun c25 => ?_)
      · replace hf := zif_t c25 hf
        exact Ex.sb (cc_X11_call_L54  hf) ⟨rfl, rfl, rfl, rfl, rfl, rfl, trivial⟩
      · replace hf := zif_f c25 hf
        refine x_iload dX11_call_28 rfl ?_
        refine x_iconst (v := 0) dX11_call_30 (by decide) ?_
        refine x_bipush (v := 7) dX11_call_31 (by decide) ?_
        obtain ⟨r12, M11, hq10, hf⟩ := zb2E hf
        refine x_invSi dX11_call_33 mk_X11_isWithin ml_X11_102 (cc_X11_isWithin hq10) (Nat.le_of_ble_eq_true rfl) rfl (Nat.le_of_ble_eq_true rfl) rfl ?_
        refine x_if_eq (tgt := 54) dX11_call_36 (by decide) (fun c36 => ?_) (fun c36 => ?_)
        · replace hf := zif_t c36 hf
          exact Ex.sb (cc_X11_call_L54  hf) ⟨rfl, rfl, rfl, rfl, rfl, rfl, trivial⟩
        · replace hf := zif_f c36 hf
          refine x_iload dX11_call_39 rfl ?_
          refine x_iconst (v := 1) dX11_call_41 (by decide) ?_
          refine x_bipush (v := 90) dX11_call_42 (by decide) ?_
          obtain ⟨r15, M14, hq13, hf⟩ := zb2E hf
          refine x_invSi dX11_call_44 mk_X11_isWithin ml_X11_102 (cc_X11_isWithin hq13) (Nat.le_of_ble_eq_true rfl) rfl (Nat.le_of_ble_eq_true rfl) rfl ?_
          refine x_if_eq (tgt := 54) dX11_call_47 (by decide) (fun c47 => ?_) (fun c47 => ?_)
          · replace hf := zif_t c47 hf
            exact Ex.sb (cc_X11_call_L54  hf) ⟨rfl, rfl, rfl, rfl, rfl, rfl, trivial⟩
          · replace hf := zif_f c47 hf
            refine x_iconst (v := 1) dX11_call_50 (by decide) ?_
            refine x_goto (tgt := 55) dX11_call_51 (by decide) ?_
            exact Ex.sb (cc_X11_call_L55  hf) ⟨rfl, rfl, rfl, rfl, rfl, rfl, trivial⟩
theorem cc_X11_go {l : Launch} {G : zG} {N : Nat}   {M : zMem} {r : Int32} {M1 : zMem} (hf : fX11_go N M = some (r, M1)) : Ca l G 7 mX11_go [.ref (G.2.2.1 0)] M (some (.int r)) M1 := by
  refine Ca.of (by decide +kernel) (Nat.le_of_ble_eq_true rfl) rfl ?_
  rw [fX11_go] at hf
  refine x_aload_n dX11_go_0 rfl rfl ?_
  refine x_getS (r := 29) dX11_go_1 fl_X11_45 rfl rfl ?_
  refine x_aload_n dX11_go_4 rfl rfl ?_
  refine x_getI dX11_go_5 fl_X11_86 rfl rfl ?_
  obtain ⟨r3, M2, hq1, hf⟩ := zb2E hf
  refine x_invVi dX11_go_8 mk_X0_isGone ml_X11_158 (cc_X0_isGone hq1) rfl rfl rfl (Nat.le_of_ble_eq_true rfl) rfl (Nat.le_of_ble_eq_true rfl) rfl ?_
  refine x_if_eq (tgt := 16) dX11_go_11 (by decide) (fun c11 => ?_) (fun c11 => ?_)
  · replace hf := zif_t c11 hf
    refine x_aload_n dX11_go_16 rfl rfl ?_
    refine x_getS (r := 29) dX11_go_17 fl_X11_45 rfl rfl ?_
    refine x_aload_n dX11_go_20 rfl rfl ?_
    refine x_getI dX11_go_21 fl_X11_86 rfl rfl ?_
    obtain ⟨M5, hq4, hf⟩ := zbind hf
    refine x_invVv dX11_go_24 mk_X0_setGone ml_X11_211 (cc_X0_setGone hq4) rfl rfl rfl (Nat.le_of_ble_eq_true rfl) rfl (Nat.le_of_ble_eq_true rfl) rfl ?_
    refine x_aload_n dX11_go_27 rfl rfl ?_
    refine x_getS (r := 57) dX11_go_28 fl_X11_75 rfl rfl ?_
    refine x_aload_n dX11_go_31 rfl rfl ?_
    refine x_getI dX11_go_32 fl_X11_86 rfl rfl ?_
    refine x_aload_n dX11_go_35 rfl rfl ?_
    refine x_getR dX11_go_36 fl_X11_19 rfl rfl ?_
    obtain ⟨r8, M7, hq6, hf⟩ := zb2E hf
    refine x_invVi dX11_go_39 mk_X2_goThrough ml_X11_214 (cc_X2_goThrough hq6) rfl rfl rfl (Nat.le_of_ble_eq_true rfl) rfl (Nat.le_of_ble_eq_true rfl) rfl ?_
    exact x_iret rfl dX11_go_42 (zretI hf)
  · replace hf := zif_f c11 hf
    refine x_iconst (v := -1) dX11_go_14 (by decide) ?_
    exact x_iret rfl dX11_go_15 (zretI hf)
theorem cc_X11_told {l : Launch} {G : zG} {x1 : Int32} {x2 : Int32}  {M : zMem} {r : Int32} {M1 : zMem} (hf : fX11_told x1 x2 M = some (r, M1)) : Ca l G 2 mX11_told [.ref (G.2.2.1 0), .int x1, .int x2] M (some (.int r)) M1 := by
  refine Ca.of (by decide +kernel) (Nat.le_of_ble_eq_true rfl) rfl ?_
  rw [fX11_told] at hf
  refine x_aload_n dX11_told_0 rfl rfl ?_
  refine x_getS (r := 47) dX11_told_1 fl_X11_66 rfl rfl ?_
  refine x_iload_n dX11_told_4 rfl rfl ?_
  obtain ⟨r3, M2, hq1, hf⟩ := zb2E hf
  refine x_invVi dX11_told_5 mk_X1_isCall ml_X11_218 (cc_X1_isCall hq1) rfl rfl rfl (Nat.le_of_ble_eq_true rfl) rfl (Nat.le_of_ble_eq_true rfl) rfl ?_
  refine x_if_ne (tgt := 13) dX11_told_8 (by decide) (fun c8 => ?_) (fun c8 => ?_)
  · replace hf := zif_f c8 hf
    refine x_iload_n dX11_told_13 rfl rfl ?_
    by_cases c14_0 : x2 = (0 : Int32)
    · replace hf := zif_t c14_0 hf
      refine x_tableIn (tgt := 52) (off := 38) dX11_told_14 (ztl c14_0 (by decide)) (ztu c14_0 (by decide)) (zto c14_0 (by decide)) (by decide) ?_
      refine x_aload_n dX11_told_52 rfl rfl ?_
      refine x_getS (r := 47) dX11_told_53 fl_X11_66 rfl rfl ?_
      refine x_iload_n dX11_told_56 rfl rfl ?_
      obtain ⟨r6, M5, hq4, hf⟩ := zb2E hf
      refine x_invVi dX11_told_57 mk_X1_nightOf ml_X11_221 (cc_X1_nightOf hq4) rfl rfl rfl (Nat.le_of_ble_eq_true rfl) rfl (Nat.le_of_ble_eq_true rfl) rfl ?_
      exact x_iret rfl dX11_told_60 (zretI hf)
    · replace hf := zif_f c14_0 hf
      by_cases c14_1 : x2 = (1 : Int32)
      · replace hf := zif_t c14_1 hf
        refine x_tableIn (tgt := 61) (off := 47) dX11_told_14 (ztl c14_1 (by decide)) (ztu c14_1 (by decide)) (zto c14_1 (by decide)) (by decide) ?_
        refine x_aload_n dX11_told_61 rfl rfl ?_
        refine x_getS (r := 47) dX11_told_62 fl_X11_66 rfl rfl ?_
        refine x_iload_n dX11_told_65 rfl rfl ?_
        obtain ⟨r9, M8, hq7, hf⟩ := zb2E hf
        refine x_invVi dX11_told_66 mk_X1_stateOf ml_X11_224 (cc_X1_stateOf hq7) rfl rfl rfl (Nat.le_of_ble_eq_true rfl) rfl (Nat.le_of_ble_eq_true rfl) rfl ?_
        exact x_iret rfl dX11_told_69 (zretI hf)
      · replace hf := zif_f c14_1 hf
        by_cases c14_2 : x2 = (2 : Int32)
        · replace hf := zif_t c14_2 hf
          refine x_tableIn (tgt := 70) (off := 56) dX11_told_14 (ztl c14_2 (by decide)) (ztu c14_2 (by decide)) (zto c14_2 (by decide)) (by decide) ?_
          refine x_aload_n dX11_told_70 rfl rfl ?_
          refine x_getS (r := 47) dX11_told_71 fl_X11_66 rfl rfl ?_
          refine x_iload_n dX11_told_74 rfl rfl ?_
          obtain ⟨r12, M11, hq10, hf⟩ := zb2E hf
          refine x_invVi dX11_told_75 mk_X1_takerOf ml_X11_227 (cc_X1_takerOf hq10) rfl rfl rfl (Nat.le_of_ble_eq_true rfl) rfl (Nat.le_of_ble_eq_true rfl) rfl ?_
          exact x_iret rfl dX11_told_78 (zretI hf)
        · replace hf := zif_f c14_2 hf
          by_cases c14_3 : x2 = (3 : Int32)
          · replace hf := zif_t c14_3 hf
            refine x_tableIn (tgt := 79) (off := 65) dX11_told_14 (ztl c14_3 (by decide)) (ztu c14_3 (by decide)) (zto c14_3 (by decide)) (by decide) ?_
            refine x_aload_n dX11_told_79 rfl rfl ?_
            refine x_getS (r := 47) dX11_told_80 fl_X11_66 rfl rfl ?_
            refine x_iload_n dX11_told_83 rfl rfl ?_
            obtain ⟨r15, M14, hq13, hf⟩ := zb2E hf
            refine x_invVi dX11_told_84 mk_X1_sinceOf ml_X11_230 (cc_X1_sinceOf hq13) rfl rfl rfl (Nat.le_of_ble_eq_true rfl) rfl (Nat.le_of_ble_eq_true rfl) rfl ?_
            exact x_iret rfl dX11_told_87 (zretI hf)
          · replace hf := zif_f c14_3 hf
            by_cases c14_4 : x2 = (4 : Int32)
            · replace hf := zif_t c14_4 hf
              refine x_tableIn (tgt := 88) (off := 74) dX11_told_14 (ztl c14_4 (by decide)) (ztu c14_4 (by decide)) (zto c14_4 (by decide)) (by decide) ?_
              refine x_aload_n dX11_told_88 rfl rfl ?_
              refine x_getS (r := 47) dX11_told_89 fl_X11_66 rfl rfl ?_
              refine x_iload_n dX11_told_92 rfl rfl ?_
              obtain ⟨r18, M17, hq16, hf⟩ := zb2E hf
              refine x_invVi dX11_told_93 mk_X1_endOf ml_X11_233 (cc_X1_endOf hq16) rfl rfl rfl (Nat.le_of_ble_eq_true rfl) rfl (Nat.le_of_ble_eq_true rfl) rfl ?_
              exact x_iret rfl dX11_told_96 (zretI hf)
            · replace hf := zif_f c14_4 hf
              by_cases c14_5 : x2 = (5 : Int32)
              · replace hf := zif_t c14_5 hf
                refine x_tableIn (tgt := 97) (off := 83) dX11_told_14 (ztl c14_5 (by decide)) (ztu c14_5 (by decide)) (zto c14_5 (by decide)) (by decide) ?_
                refine x_aload_n dX11_told_97 rfl rfl ?_
                refine x_getS (r := 47) dX11_told_98 fl_X11_66 rfl rfl ?_
                refine x_iload_n dX11_told_101 rfl rfl ?_
                obtain ⟨r21, M20, hq19, hf⟩ := zb2E hf
                refine x_invVi dX11_told_102 mk_X1_callerOf ml_X11_236 (cc_X1_callerOf hq19) rfl rfl rfl (Nat.le_of_ble_eq_true rfl) rfl (Nat.le_of_ble_eq_true rfl) rfl ?_
                exact x_iret rfl dX11_told_105 (zretI hf)
              · replace hf := zif_f c14_5 hf
                refine x_tableOut (tgt := 106) dX11_told_14 (by have q0 := ztne c14_0 (n := 0) (by decide); have q1 := ztne c14_1 (n := 1) (by decide); have q2 := ztne c14_2 (n := 2) (by decide); have q3 := ztne c14_3 (n := 3) (by decide); have q4 := ztne c14_4 (n := 4) (by decide); have q5 := ztne c14_5 (n := 5) (by decide); omega) (by decide) ?_
                refine x_iconst (v := -1) dX11_told_106 (by decide) ?_
                exact x_iret rfl dX11_told_107 (zretI hf)
  · replace hf := zif_t c8 hf
    refine x_iconst (v := -1) dX11_told_11 (by decide) ?_
    exact x_iret rfl dX11_told_12 (zretI hf)
theorem cc_X11_talked {l : Launch} {G : zG} {N : Nat} {x1 : Int32} {x2 : Int32}  {M : zMem} {r : Int32} {M1 : zMem} (hf : fX11_talked N x1 x2 M = some (r, M1)) : Ca l G 3 mX11_talked [.ref (G.2.2.1 0), .int x1, .int x2] M (some (.int r)) M1 := by
  refine Ca.of (by decide +kernel) (Nat.le_of_ble_eq_true rfl) rfl ?_
  rw [fX11_talked] at hf
  refine x_aload_n dX11_talked_0 rfl rfl ?_
  refine x_getS (r := 22) dX11_talked_1 fl_X11_38 rfl rfl ?_
  refine x_iload_n dX11_talked_4 rfl rfl ?_
  obtain ⟨r3, M2, hq1, hf⟩ := zb2E hf
  refine x_invVi dX11_talked_5 mk_X9_isVolunteer ml_X11_130 (cc_X9_isVolunteer hq1) rfl rfl rfl (Nat.le_of_ble_eq_true rfl) rfl (Nat.le_of_ble_eq_true rfl) rfl ?_
  refine x_if_eq (tgt := 34) dX11_talked_8 (by decide) (fun c8 => ?_) (fun c8 => ?_)
  · replace hf := zif_t c8 hf
    refine x_iconst (v := -1) dX11_talked_34 (by decide) ?_
    exact x_iret rfl dX11_talked_35 (zretI hf)
  · replace hf := zif_f c8 hf
    refine x_aload_n dX11_talked_11 rfl rfl ?_
    refine x_getS (r := 29) dX11_talked_12 fl_X11_45 rfl rfl ?_
    refine x_iload_n dX11_talked_15 rfl rfl ?_
    obtain ⟨r6, M5, hq4, hf⟩ := zb2E hf
    refine x_invVi dX11_talked_16 mk_X0_isGone ml_X11_158 (cc_X0_isGone hq4) rfl rfl rfl (Nat.le_of_ble_eq_true rfl) rfl (Nat.le_of_ble_eq_true rfl) rfl ?_
    refine x_if_eq (tgt := 34) dX11_talked_19 (by decide) (fun c19 => ?_) (fun c19 => ?_)
    · replace hf := zif_t c19 hf
      refine x_iconst (v := -1) dX11_talked_34 (by decide) ?_
      exact x_iret rfl dX11_talked_35 (zretI hf)
    · replace hf := zif_f c19 hf
      refine x_aload_n dX11_talked_22 rfl rfl ?_
      refine x_getS (r := 47) dX11_talked_23 fl_X11_66 rfl rfl ?_
      refine x_iload_n dX11_talked_26 rfl rfl ?_
      refine x_iload_n dX11_talked_27 rfl rfl ?_
      obtain ⟨r9, M8, hq7, hf⟩ := zb2E hf
      refine x_invVi dX11_talked_28 mk_X1_minutesOf ml_X11_239 (cc_X1_minutesOf hq7) rfl rfl rfl (Nat.le_of_ble_eq_true rfl) rfl (Nat.le_of_ble_eq_true rfl) rfl ?_
      refine x_goto (tgt := 35) dX11_talked_31 (by decide) ?_
      exact x_iret rfl dX11_talked_35 (zretI hf)
theorem cc_X11_note {l : Launch} {G : zG} {x1 : Int32} {x2 : Int32}  {M : zMem} {r : Int32} {M1 : zMem} (hf : fX11_note x1 x2 M = some (r, M1)) : Ca l G 2 mX11_note [.ref (G.2.2.1 0), .int x1, .int x2] M (some (.int r)) M1 := by
  refine Ca.of (by decide +kernel) (Nat.le_of_ble_eq_true rfl) rfl ?_
  rw [fX11_note] at hf
  refine x_iload_n dX11_note_0 rfl rfl ?_
  refine x_iconst (v := 0) dX11_note_1 (by decide) ?_
  refine x_iconst (v := 3) dX11_note_2 (by decide) ?_
  obtain ⟨r3, M2, hq1, hf⟩ := zb2E hf
  refine x_invSi dX11_note_3 mk_X11_isWithin ml_X11_102 (cc_X11_isWithin hq1) (Nat.le_of_ble_eq_true rfl) rfl (Nat.le_of_ble_eq_true rfl) rfl ?_
  refine x_if_eq (tgt := 21) dX11_note_6 (by decide) (fun c6 => ?_) (fun c6 => ?_)
  · replace hf := zif_t c6 hf
    refine x_iconst (v := -1) dX11_note_21 (by decide) ?_
    exact x_iret rfl dX11_note_22 (zretI hf)
  · replace hf := zif_f c6 hf
    refine x_aload_n dX11_note_9 rfl rfl ?_
    refine x_getS (r := 47) dX11_note_10 fl_X11_66 rfl rfl ?_
    refine x_iload_n dX11_note_13 rfl rfl ?_
    obtain ⟨r6, M5, hq4, hf⟩ := zb2E hf
    refine x_invVi dX11_note_14 mk_X1_stateOf ml_X11_224 (cc_X1_stateOf hq4) rfl rfl rfl (Nat.le_of_ble_eq_true rfl) rfl (Nat.le_of_ble_eq_true rfl) rfl ?_
    refine x_iconst (v := 1) dX11_note_17 (by decide) ?_
    refine x_icmp_eq (tgt := 23) dX11_note_18 (by decide) (fun c18 => ?_) (fun c18 => ?_)
    · replace hf := zif_t c18 hf
      refine x_aload_n dX11_note_23 rfl rfl ?_
      refine x_getS (r := 65) dX11_note_24 fl_X11_82 rfl rfl ?_
      refine x_iload_n dX11_note_27 rfl rfl ?_
      refine x_iload_n dX11_note_28 rfl rfl ?_
      refine x_aload_n dX11_note_29 rfl rfl ?_
      refine x_getI dX11_note_30 fl_X11_86 rfl rfl ?_
      obtain ⟨r9, M8, hq7, hf⟩ := zb2E hf
      refine x_invVi dX11_note_33 mk_X3_add ml_X11_242 (cc_X3_add hq7) rfl rfl rfl (Nat.le_of_ble_eq_true rfl) rfl (Nat.le_of_ble_eq_true rfl) rfl ?_
      exact x_iret rfl dX11_note_36 (zretI hf)
    · replace hf := zif_f c18 hf
      refine x_iconst (v := -1) dX11_note_21 (by decide) ?_
      exact x_iret rfl dX11_note_22 (zretI hf)
theorem cc_X11_maySee {l : Launch} {G : zG} {x1 : Int32} {x2 : Int32} {x3 : Int32}  {M : zMem} {r : Int32} {M1 : zMem} (hf : fX11_maySee x1 x2 x3 M = some (r, M1)) : Ca l G 2 mX11_maySee [.ref (G.2.2.1 0), .int x1, .int x2, .int x3] M (some (.int r)) M1 := by
  refine Ca.of (by decide +kernel) (Nat.le_of_ble_eq_true rfl) rfl ?_
  rw [fX11_maySee] at hf
  refine x_iload_n dX11_maySee_0 rfl rfl ?_
  refine x_aload_n dX11_maySee_1 rfl rfl ?_
  refine x_getS (r := 65) dX11_maySee_2 fl_X11_82 rfl rfl ?_
  refine x_iload_n dX11_maySee_5 rfl rfl ?_
  obtain ⟨r3, M2, hq1, hf⟩ := zb2E hf
  refine x_invVi dX11_maySee_6 mk_X3_nightOf ml_X11_275 (cc_X3_nightOf hq1) rfl rfl rfl (Nat.le_of_ble_eq_true rfl) rfl (Nat.le_of_ble_eq_true rfl) rfl ?_
  refine x_icmp_ge (tgt := 14) dX11_maySee_9 (by decide) (fun c9 => ?_) (fun c9 => ?_)
  · replace hf := zif_t c9 hf
    refine x_aload_n dX11_maySee_14 rfl rfl ?_
    refine x_getS (r := 65) dX11_maySee_15 fl_X11_82 rfl rfl ?_
    refine x_iload_n dX11_maySee_18 rfl rfl ?_
    obtain ⟨r6, M5, hq4, hf⟩ := zb2E hf
    refine x_invVi dX11_maySee_19 mk_X3_callOf ml_X11_276 (cc_X3_callOf hq4) rfl rfl rfl (Nat.le_of_ble_eq_true rfl) rfl (Nat.le_of_ble_eq_true rfl) rfl ?_
    refine x_istore dX11_maySee_22 (Nat.le_of_ble_eq_true rfl) rfl ?_
    refine x_aload_n dX11_maySee_24 rfl rfl ?_
    refine x_getS (r := 47) dX11_maySee_25 fl_X11_66 rfl rfl ?_
    refine x_iload dX11_maySee_28 rfl ?_
    obtain ⟨r9, M8, hq7, hf⟩ := zb2E hf
    refine x_invVi dX11_maySee_30 mk_X1_takerOf ml_X11_227 (cc_X1_takerOf hq7) rfl rfl rfl (Nat.le_of_ble_eq_true rfl) rfl (Nat.le_of_ble_eq_true rfl) rfl ?_
    refine x_iload_n dX11_maySee_33 rfl rfl ?_
    refine x_icmp_ne (tgt := 39) dX11_maySee_34 (by decide) (fun c34 => ?_) (fun c34 => ?_)
    · replace hf := zif_f c34 hf
      refine x_aload_n dX11_maySee_39 rfl rfl ?_
      refine x_getS (r := 22) dX11_maySee_40 fl_X11_38 rfl rfl ?_
      refine x_iload_n dX11_maySee_43 rfl rfl ?_
      obtain ⟨r12, M11, hq10, hf⟩ := zb2E hf
      refine x_invVi dX11_maySee_44 mk_X9_rankOf ml_X11_279 (cc_X9_rankOf hq10) rfl rfl rfl (Nat.le_of_ble_eq_true rfl) rfl (Nat.le_of_ble_eq_true rfl) rfl ?_
      refine x_aload_n dX11_maySee_47 rfl rfl ?_
      refine x_getS (r := 65) dX11_maySee_48 fl_X11_82 rfl rfl ?_
      refine x_iload_n dX11_maySee_51 rfl rfl ?_
      obtain ⟨r15, M14, hq13, hf⟩ := zb2E hf
      refine x_invVi dX11_maySee_52 mk_X3_rankOf ml_X11_282 (cc_X3_rankOf hq13) rfl rfl rfl (Nat.le_of_ble_eq_true rfl) rfl (Nat.le_of_ble_eq_true rfl) rfl ?_
      refine x_icmp_lt (tgt := 83) dX11_maySee_55 (by decide) (fun c55 => ?_) (fun c55 => ?_)
      · replace hf := zif_t c55 hf
        refine x_iconst (v := 0) dX11_maySee_83 (by decide) ?_
        exact x_zret rfl rfl dX11_maySee_84 (zretI hf)
      · replace hf := zif_f c55 hf
        refine x_aload_n dX11_maySee_58 rfl rfl ?_
        refine x_getS (r := 22) dX11_maySee_59 fl_X11_38 rfl rfl ?_
        refine x_aload_n dX11_maySee_62 rfl rfl ?_
        refine x_getS (r := 47) dX11_maySee_63 fl_X11_66 rfl rfl ?_
        refine x_iload dX11_maySee_66 rfl ?_
        obtain ⟨r18, M17, hq16, hf⟩ := zb2E hf
        refine x_invVi dX11_maySee_68 mk_X1_callerOf ml_X11_236 (cc_X1_callerOf hq16) rfl rfl rfl (Nat.le_of_ble_eq_true rfl) rfl (Nat.le_of_ble_eq_true rfl) rfl ?_
        refine x_iload_n dX11_maySee_71 rfl rfl ?_
        refine x_iload_n dX11_maySee_72 rfl rfl ?_
        obtain ⟨r21, M20, hq19, hf⟩ := zb2E hf
        refine x_invVi dX11_maySee_73 mk_X9_isBarred ml_X11_283 (cc_X9_isBarred hq19) rfl rfl rfl (Nat.le_of_ble_eq_true rfl) rfl (Nat.le_of_ble_eq_true rfl) rfl ?_
        refine x_if_ne (tgt := 83) dX11_maySee_76 (by decide) (fun c76 => ?_) (fun c76 => ?_)
        · replace hf := zif_f c76 hf
          refine x_iconst (v := 0) dX11_maySee_83 (by decide) ?_
          exact x_zret rfl rfl dX11_maySee_84 (zretI hf)
        · replace hf := zif_t c76 hf
          refine x_iconst (v := 1) dX11_maySee_79 (by decide) ?_
          refine x_goto (tgt := 84) dX11_maySee_80 (by decide) ?_
          exact x_zret rfl rfl dX11_maySee_84 (zretI hf)
    · replace hf := zif_t c34 hf
      refine x_iconst (v := 1) dX11_maySee_37 (by decide) ?_
      exact x_zret rfl rfl dX11_maySee_38 (zretI hf)
  · replace hf := zif_f c9 hf
    refine x_iconst (v := 0) dX11_maySee_12 (by decide) ?_
    exact x_zret rfl rfl dX11_maySee_13 (zretI hf)
theorem cc_X11_see {l : Launch} {G : zG} {x1 : Int32} {x2 : Int32} {x3 : Int32}  {M : zMem} {r : Int32} {M1 : zMem} (hf : fX11_see x1 x2 x3 M = some (r, M1)) : Ca l G 3 mX11_see [.ref (G.2.2.1 0), .int x1, .int x2, .int x3] M (some (.int r)) M1 := by
  refine Ca.of (by decide +kernel) (Nat.le_of_ble_eq_true rfl) rfl ?_
  rw [fX11_see] at hf
  refine x_aload_n dX11_see_0 rfl rfl ?_
  refine x_getS (r := 22) dX11_see_1 fl_X11_38 rfl rfl ?_
  refine x_iload_n dX11_see_4 rfl rfl ?_
  obtain ⟨r3, M2, hq1, hf⟩ := zb2E hf
  refine x_invVi dX11_see_5 mk_X9_isVolunteer ml_X11_130 (cc_X9_isVolunteer hq1) rfl rfl rfl (Nat.le_of_ble_eq_true rfl) rfl (Nat.le_of_ble_eq_true rfl) rfl ?_
  refine x_if_eq (tgt := 29) dX11_see_8 (by decide) (fun c8 => ?_) (fun c8 => ?_)
  · replace hf := zif_t c8 hf
    refine x_iconst (v := -1) dX11_see_29 (by decide) ?_
    exact x_iret rfl dX11_see_30 (zretI hf)
  · replace hf := zif_f c8 hf
    refine x_aload_n dX11_see_11 rfl rfl ?_
    refine x_getS (r := 65) dX11_see_12 fl_X11_82 rfl rfl ?_
    refine x_iload_n dX11_see_15 rfl rfl ?_
    obtain ⟨r6, M5, hq4, hf⟩ := zb2E hf
    refine x_invVi dX11_see_16 mk_X3_isNote ml_X11_243 (cc_X3_isNote hq4) rfl rfl rfl (Nat.le_of_ble_eq_true rfl) rfl (Nat.le_of_ble_eq_true rfl) rfl ?_
    refine x_if_eq (tgt := 29) dX11_see_19 (by decide) (fun c19 => ?_) (fun c19 => ?_)
    · replace hf := zif_t c19 hf
      refine x_iconst (v := -1) dX11_see_29 (by decide) ?_
      exact x_iret rfl dX11_see_30 (zretI hf)
    · replace hf := zif_f c19 hf
      refine x_iload_n dX11_see_22 rfl rfl ?_
      obtain ⟨r9, M8, hq7, hf⟩ := zb2E hf
      refine x_invSi dX11_see_23 mk_X11_isNight ml_X11_133 (cc_X11_isNight hq7) (Nat.le_of_ble_eq_true rfl) rfl (Nat.le_of_ble_eq_true rfl) rfl ?_
      refine x_if_ne (tgt := 31) dX11_see_26 (by decide) (fun c26 => ?_) (fun c26 => ?_)
      · replace hf := zif_f c26 hf
        refine x_aload_n dX11_see_31 rfl rfl ?_
        refine x_iload_n dX11_see_32 rfl rfl ?_
        refine x_iload_n dX11_see_33 rfl rfl ?_
        refine x_iload_n dX11_see_34 rfl rfl ?_
        obtain ⟨r12, M11, hq10, hf⟩ := zb2E hf
        refine x_invVi dX11_see_35 mk_X11_maySee ml_X11_246 (cc_X11_maySee hq10) rfl rfl rfl (Nat.le_of_ble_eq_true rfl) rfl (Nat.le_of_ble_eq_true rfl) rfl ?_
        refine x_if_eq (tgt := 45) dX11_see_38 (by decide) (fun c38 => ?_) (fun c38 => ?_)
        · replace hf := zif_t c38 hf
          refine x_iconst (v := 0) dX11_see_45 (by decide) ?_
          exact x_iret rfl dX11_see_46 (zretI hf)
        · replace hf := zif_f c38 hf
          refine x_iconst (v := 1) dX11_see_41 (by decide) ?_
          refine x_goto (tgt := 46) dX11_see_42 (by decide) ?_
          exact x_iret rfl dX11_see_46 (zretI hf)
      · replace hf := zif_t c26 hf
        refine x_iconst (v := -1) dX11_see_29 (by decide) ?_
        exact x_iret rfl dX11_see_30 (zretI hf)
theorem cc_X11_isForerunner {l : Launch} {G : zG} {x1 : Int32} {x2 : Int32}  {M : zMem} {r : Int32} {M1 : zMem} (hf : fX11_isForerunner x1 x2 M = some (r, M1)) : Ca l G 4 mX11_isForerunner [.ref (G.2.2.1 0), .int x1, .int x2] M (some (.int r)) M1 := by
  refine Ca.of (by decide +kernel) (Nat.le_of_ble_eq_true rfl) rfl ?_
  rw [fX11_isForerunner] at hf
  refine x_iload_n dX11_isForerunner_0 rfl rfl ?_
  refine x_aload_n dX11_isForerunner_1 rfl rfl ?_
  refine x_getI dX11_isForerunner_2 fl_X11_86 rfl rfl ?_
  refine x_icmp_ge (tgt := 35) dX11_isForerunner_5 (by decide) (fun c5 => ?_) (fun c5 => ?_)
  · replace hf := zif_t c5 hf
    refine x_iconst (v := 0) dX11_isForerunner_35 (by decide) ?_
    exact x_zret rfl rfl dX11_isForerunner_36 (zretI hf)
  · replace hf := zif_f c5 hf
    refine x_aload_n dX11_isForerunner_8 rfl rfl ?_
    refine x_getS (r := 29) dX11_isForerunner_9 fl_X11_45 rfl rfl ?_
    refine x_iload_n dX11_isForerunner_12 rfl rfl ?_
    obtain ⟨r3, M2, hq1, hf⟩ := zb2E hf
    refine x_invVi dX11_isForerunner_13 mk_X0_isGone ml_X11_158 (cc_X0_isGone hq1) rfl rfl rfl (Nat.le_of_ble_eq_true rfl) rfl (Nat.le_of_ble_eq_true rfl) rfl ?_
    refine x_if_eq (tgt := 35) dX11_isForerunner_16 (by decide) (fun c16 => ?_) (fun c16 => ?_)
    · replace hf := zif_t c16 hf
      refine x_iconst (v := 0) dX11_isForerunner_35 (by decide) ?_
      exact x_zret rfl rfl dX11_isForerunner_36 (zretI hf)
    · replace hf := zif_f c16 hf
      refine x_aload_n dX11_isForerunner_19 rfl rfl ?_
      refine x_getS (r := 29) dX11_isForerunner_20 fl_X11_45 rfl rfl ?_
      refine x_iload_n dX11_isForerunner_23 rfl rfl ?_
      refine x_iload_n dX11_isForerunner_24 rfl rfl ?_
      obtain ⟨r6, M5, hq4, hf⟩ := zb2E hf
      refine x_invVi dX11_isForerunner_25 mk_X0_areAlike ml_X11_286 (cc_X0_areAlike hq4) rfl rfl rfl (Nat.le_of_ble_eq_true rfl) rfl (Nat.le_of_ble_eq_true rfl) rfl ?_
      refine x_if_eq (tgt := 35) dX11_isForerunner_28 (by decide) (fun c28 => ?_) (fun c28 => ?_)
      · replace hf := zif_t c28 hf
        refine x_iconst (v := 0) dX11_isForerunner_35 (by decide) ?_
        exact x_zret rfl rfl dX11_isForerunner_36 (zretI hf)
      · replace hf := zif_f c28 hf
        refine x_iconst (v := 1) dX11_isForerunner_31 (by decide) ?_
        refine x_goto (tgt := 36) dX11_isForerunner_32 (by decide) ?_
        exact x_zret rfl rfl dX11_isForerunner_36 (zretI hf)
theorem cc_X11_foretold_L45 {l : Launch} {G : zG} {N : Nat} {k23 : Int32 → Int32 → Int32 → Int32 → zMem → Option (Int32 × zMem)} (hk23 : ∀ {x1 : Int32} {x2 : Int32} {x3 : Int32} {x4 : Int32} {M : zMem} {r : Int32} {M1 : zMem}, k23 x1 x2 x3 x4 M = some (r, M1) → Ex l G 5 mX11_foretold 23 [(0, .ref (G.2.2.1 0)), (1, .int x1), (2, .int x2), (3, .int x3), (4, .int x4)] [] M (zqI r M1)) {x1 : Int32} {x2 : Int32} {x3 : Int32} {x4 : Int32} {M : zMem} {r : Int32} {M1 : zMem} (hf : fX11_foretold_L45 N k23 x1 x2 x3 x4 M = some (r, M1)) : Ex l G 5 mX11_foretold 45 [(0, .ref (G.2.2.1 0)), (1, .int x1), (2, .int x2), (3, .int x3), (4, .int x4)] [] M (zqI r M1) := by
  rw [fX11_foretold_L45] at hf
  obtain ⟨x4_24, ex4_24, hf⟩ := zletE hf
  refine x_iinc (c0 := 1) dX11_foretold_45 rfl (Nat.le_of_ble_eq_true rfl) (by decide) ex4_24 ?_
  refine x_goto (tgt := 23) dX11_foretold_48 (by decide) ?_
  exact Ex.sb (hk23 hf) ⟨rfl, rfl, rfl, rfl, rfl, trivial⟩
theorem cc_X11_foretold_L105 {l : Launch} {G : zG} {N : Nat} {k57 : Int32 → Int32 → Int32 → Int32 → Int32 → zMem → Option (Int32 × zMem)} (hk57 : ∀ {x1 : Int32} {x2 : Int32} {x3 : Int32} {x4 : Int32} {x5 : Int32} {M : zMem} {r : Int32} {M1 : zMem}, k57 x1 x2 x3 x4 x5 M = some (r, M1) → Ex l G 5 mX11_foretold 57 [(0, .ref (G.2.2.1 0)), (1, .int x1), (2, .int x2), (3, .int x3), (4, .int x4), (5, .int x5)] [] M (zqI r M1)) {x1 : Int32} {x2 : Int32} {x3 : Int32} {x4 : Int32} {x5 : Int32} {M : zMem} {r : Int32} {M1 : zMem} (hf : fX11_foretold_L105 N k57 x1 x2 x3 x4 x5 M = some (r, M1)) : Ex l G 5 mX11_foretold 105 [(0, .ref (G.2.2.1 0)), (1, .int x1), (2, .int x2), (3, .int x3), (4, .int x4), (5, .int x5)] [] M (zqI r M1) := by
  rw [fX11_foretold_L105] at hf
  obtain ⟨x5_25, ex5_25, hf⟩ := zletE hf
  refine x_iinc (c0 := 1) dX11_foretold_105 rfl (Nat.le_of_ble_eq_true rfl) (by decide) ex5_25 ?_
  refine x_goto (tgt := 57) dX11_foretold_108 (by decide) ?_
  exact Ex.sb (hk57 hf) ⟨rfl, rfl, rfl, rfl, rfl, rfl, trivial⟩
theorem cc_X11_foretold_L57 {l : Launch} {G : zG} {N : Nat} : ∀ {n : Nat} {x1 : Int32} {x2 : Int32} {x3 : Int32} {x4 : Int32} {x5 : Int32} {M : zMem} {r : Int32} {M1 : zMem}, fX11_foretold_L57 N n x1 x2 x3 x4 x5 M = some (r, M1) → Ex l G 5 mX11_foretold 57 [(0, .ref (G.2.2.1 0)), (1, .int x1), (2, .int x2), (3, .int x3), (4, .int x4), (5, .int x5)] [] M (zqI r M1) := by
  intro n
  induction n with
  | zero => intro x1 x2 x3 x4 x5 M r M1 hf; cases hf
  | succ n ih =>
    intro x1 x2 x3 x4 x5 M r M1 hf
    rw [fX11_foretold_L57] at hf
    refine x_iload dX11_foretold_57 rfl ?_
    refine x_aload_n dX11_foretold_59 rfl rfl ?_
    refine x_getS (r := 47) dX11_foretold_60 fl_X11_66 rfl rfl ?_
    obtain ⟨r13, M12, hq11, hf⟩ := zb2E hf
    refine x_invVi dX11_foretold_63 mk_X1_size ml_X11_253 (cc_X1_size hq11) rfl rfl rfl (Nat.le_of_ble_eq_true rfl) rfl (Nat.le_of_ble_eq_true rfl) rfl ?_
    refine x_icmp_ge (tgt := 111) dX11_foretold_66 (by decide) (fun c66 => ?_) (fun c66 => ?_)
    · replace hf := zif_t c66 hf
      refine x_iload_n dX11_foretold_111 rfl rfl ?_
      refine x_if_ne (tgt := 119) dX11_foretold_112 (by decide) (fun c112 => ?_) (fun c112 => ?_)
      · replace hf := zif_f c112 hf
        refine x_iload dX11_foretold_119 rfl ?_
        refine x_bipush (v := 100) dX11_foretold_121 (by decide) ?_
        refine x_imul dX11_foretold_123 ?_
        refine x_iload_n dX11_foretold_124 rfl rfl ?_
        obtain ⟨hb125, hf⟩ := zgd hf
        refine x_idiv dX11_foretold_125 hb125 ?_
        exact x_iret rfl dX11_foretold_126 (zretI hf)
      · replace hf := zif_t c112 hf
        refine x_iconst (v := -1) dX11_foretold_115 (by decide) ?_
        refine x_goto (tgt := 126) dX11_foretold_116 (by decide) ?_
        exact x_iret rfl dX11_foretold_126 (zretI hf)
    · replace hf := zif_f c66 hf
      refine x_aload_n dX11_foretold_69 rfl rfl ?_
      refine x_getS (r := 47) dX11_foretold_70 fl_X11_66 rfl rfl ?_
      refine x_iload dX11_foretold_73 rfl ?_
      obtain ⟨r16, M15, hq14, hf⟩ := zb2E hf
      refine x_invVi dX11_foretold_75 mk_X1_minuteOf ml_X11_254 (cc_X1_minuteOf hq14) rfl rfl rfl (Nat.le_of_ble_eq_true rfl) rfl (Nat.le_of_ble_eq_true rfl) rfl ?_
      refine x_bipush (v := 60) dX11_foretold_78 (by decide) ?_
      refine x_idiv dX11_foretold_80 (by decide) ?_
      refine x_iload_n dX11_foretold_81 rfl rfl ?_
      refine x_icmp_ne (tgt := 105) dX11_foretold_82 (by decide) (fun c82 => ?_) (fun c82 => ?_)
      · replace hf := zif_f c82 hf
        exact Ex.sb (cc_X11_foretold_L105 ih hf) ⟨rfl, rfl, rfl, rfl, rfl, rfl, trivial⟩
      · replace hf := zif_t c82 hf
        refine x_aload_n dX11_foretold_85 rfl rfl ?_
        refine x_aload_n dX11_foretold_86 rfl rfl ?_
        refine x_getS (r := 47) dX11_foretold_87 fl_X11_66 rfl rfl ?_
        refine x_iload dX11_foretold_90 rfl ?_
        obtain ⟨r19, M18, hq17, hf⟩ := zb2E hf
        refine x_invVi dX11_foretold_92 mk_X1_nightOf ml_X11_221 (cc_X1_nightOf hq17) rfl rfl rfl (Nat.le_of_ble_eq_true rfl) rfl (Nat.le_of_ble_eq_true rfl) rfl ?_
        refine x_iload_n dX11_foretold_95 rfl rfl ?_
        obtain ⟨r22, M21, hq20, hf⟩ := zb2E hf
        refine x_invVi dX11_foretold_96 mk_X11_isForerunner ml_X11_249 (cc_X11_isForerunner hq20) rfl rfl rfl (Nat.le_of_ble_eq_true rfl) rfl (Nat.le_of_ble_eq_true rfl) rfl ?_
        refine x_if_eq (tgt := 105) dX11_foretold_99 (by decide) (fun c99 => ?_) (fun c99 => ?_)
        · replace hf := zif_t c99 hf
          exact Ex.sb (cc_X11_foretold_L105 ih hf) ⟨rfl, rfl, rfl, rfl, rfl, rfl, trivial⟩
        · replace hf := zif_f c99 hf
          obtain ⟨x4_23, ex4_23, hf⟩ := zletE hf
          refine x_iinc (c0 := 1) dX11_foretold_102 rfl (Nat.le_of_ble_eq_true rfl) (by decide) ex4_23 ?_
          exact Ex.sb (cc_X11_foretold_L105 ih hf) ⟨rfl, rfl, rfl, rfl, rfl, rfl, trivial⟩
theorem cc_X11_foretold_L23 {l : Launch} {G : zG} {N : Nat} : ∀ {n : Nat} {x1 : Int32} {x2 : Int32} {x3 : Int32} {x4 : Int32} {M : zMem} {r : Int32} {M1 : zMem}, fX11_foretold_L23 N n x1 x2 x3 x4 M = some (r, M1) → Ex l G 5 mX11_foretold 23 [(0, .ref (G.2.2.1 0)), (1, .int x1), (2, .int x2), (3, .int x3), (4, .int x4)] [] M (zqI r M1) := by
  intro n
  induction n with
  | zero => intro x1 x2 x3 x4 M r M1 hf; cases hf
  | succ n ih =>
    intro x1 x2 x3 x4 M r M1 hf
    rw [fX11_foretold_L23] at hf
    refine x_iload dX11_foretold_23 rfl ?_
    refine x_aload_n dX11_foretold_25 rfl rfl ?_
    refine x_getI dX11_foretold_26 fl_X11_86 rfl rfl ?_
    refine x_icmp_ge (tgt := 51) dX11_foretold_29 (by decide) (fun c29 => ?_) (fun c29 => ?_)
    · replace hf := zif_t c29 hf
      refine x_iconst (v := 0) dX11_foretold_51 (by decide) ?_
      refine x_istore dX11_foretold_52 (Nat.le_of_ble_eq_true rfl) rfl ?_
      refine x_iconst (v := 0) dX11_foretold_54 (by decide) ?_
      refine x_istore dX11_foretold_55 (Nat.le_of_ble_eq_true rfl) rfl ?_
      exact Ex.sb (cc_X11_foretold_L57  hf) ⟨rfl, rfl, rfl, rfl, rfl, rfl, trivial⟩
    · replace hf := zif_f c29 hf
      refine x_aload_n dX11_foretold_32 rfl rfl ?_
      refine x_iload dX11_foretold_33 rfl ?_
      refine x_iload_n dX11_foretold_35 rfl rfl ?_
      obtain ⟨r9, M8, hq7, hf⟩ := zb2E hf
      refine x_invVi dX11_foretold_36 mk_X11_isForerunner ml_X11_249 (cc_X11_isForerunner hq7) rfl rfl rfl (Nat.le_of_ble_eq_true rfl) rfl (Nat.le_of_ble_eq_true rfl) rfl ?_
      refine x_if_eq (tgt := 45) dX11_foretold_39 (by decide) (fun c39 => ?_) (fun c39 => ?_)
      · replace hf := zif_t c39 hf
        exact Ex.sb (cc_X11_foretold_L45 ih hf) ⟨rfl, rfl, rfl, rfl, rfl, trivial⟩
      · replace hf := zif_f c39 hf
        obtain ⟨x3_10, ex3_10, hf⟩ := zletE hf
        refine x_iinc (c0 := 1) dX11_foretold_42 rfl (Nat.le_of_ble_eq_true rfl) (by decide) ex3_10 ?_
        exact Ex.sb (cc_X11_foretold_L45 ih hf) ⟨rfl, rfl, rfl, rfl, rfl, trivial⟩
theorem cc_X11_foretold {l : Launch} {G : zG} {N : Nat} {x1 : Int32} {x2 : Int32}  {M : zMem} {r : Int32} {M1 : zMem} (hf : fX11_foretold N x1 x2 M = some (r, M1)) : Ca l G 5 mX11_foretold [.ref (G.2.2.1 0), .int x1, .int x2] M (some (.int r)) M1 := by
  refine Ca.of (by decide +kernel) (Nat.le_of_ble_eq_true rfl) rfl ?_
  rw [fX11_foretold] at hf
  refine x_iload_n dX11_foretold_0 rfl rfl ?_
  refine x_iconst (v := 0) dX11_foretold_1 (by decide) ?_
  refine x_iconst (v := 5) dX11_foretold_2 (by decide) ?_
  obtain ⟨r3, M2, hq1, hf⟩ := zb2E hf
  refine x_invSi dX11_foretold_3 mk_X11_isWithin ml_X11_102 (cc_X11_isWithin hq1) (Nat.le_of_ble_eq_true rfl) rfl (Nat.le_of_ble_eq_true rfl) rfl ?_
  refine x_if_eq (tgt := 16) dX11_foretold_6 (by decide) (fun c6 => ?_) (fun c6 => ?_)
  · replace hf := zif_t c6 hf
    refine x_iconst (v := -1) dX11_foretold_16 (by decide) ?_
    exact x_iret rfl dX11_foretold_17 (zretI hf)
  · replace hf := zif_f c6 hf
    refine x_iload_n dX11_foretold_9 rfl rfl ?_
    obtain ⟨r6, M5, hq4, hf⟩ := zb2E hf
    refine x_invSi dX11_foretold_10 mk_X11_isNight ml_X11_133 (cc_X11_isNight hq4) (Nat.le_of_ble_eq_true rfl) rfl (Nat.le_of_ble_eq_true rfl) rfl ?_
    refine x_if_ne (tgt := 18) dX11_foretold_13 (by decide) (fun c13 => ?_) (fun c13 => ?_)
    · replace hf := zif_f c13 hf
      refine x_iconst (v := 0) dX11_foretold_18 (by decide) ?_
      refine x_istore_n dX11_foretold_19 rfl (Nat.le_of_ble_eq_true rfl) rfl ?_
      refine x_iconst (v := 0) dX11_foretold_20 (by decide) ?_
      refine x_istore dX11_foretold_21 (Nat.le_of_ble_eq_true rfl) rfl ?_
      exact Ex.sb (cc_X11_foretold_L23  hf) ⟨rfl, rfl, rfl, rfl, rfl, trivial⟩
    · replace hf := zif_t c13 hf
      refine x_iconst (v := -1) dX11_foretold_16 (by decide) ?_
      exact x_iret rfl dX11_foretold_17 (zretI hf)
theorem cc_X11_count {l : Launch} {G : zG} {N : Nat} {x1 : Int32}  {M : zMem} {r : Int32} {M1 : zMem} (hf : fX11_count N x1 M = some (r, M1)) : Ca l G 4 mX11_count [.ref (G.2.2.1 0), .int x1] M (some (.int r)) M1 := by
  refine Ca.of (by decide +kernel) (Nat.le_of_ble_eq_true rfl) rfl ?_
  rw [fX11_count] at hf
  refine x_iload_n dX11_count_0 rfl rfl ?_
  by_cases c1_0 : x1 = (0 : Int32)
  · replace hf := zif_t c1_0 hf
    refine x_tableIn (tgt := 60) (off := 59) dX11_count_1 (ztl c1_0 (by decide)) (ztu c1_0 (by decide)) (zto c1_0 (by decide)) (by decide) ?_
    refine x_aload_n dX11_count_60 rfl rfl ?_
    refine x_getS (r := 22) dX11_count_61 fl_X11_38 rfl rfl ?_
    obtain ⟨r3, M2, hq1, hf⟩ := zb2E hf
    refine x_invVi dX11_count_64 mk_X9_size ml_X11_257 (cc_X9_size hq1) rfl rfl rfl (Nat.le_of_ble_eq_true rfl) rfl (Nat.le_of_ble_eq_true rfl) rfl ?_
    exact x_iret rfl dX11_count_67 (zretI hf)
  · replace hf := zif_f c1_0 hf
    by_cases c1_1 : x1 = (1 : Int32)
    · replace hf := zif_t c1_1 hf
      refine x_tableIn (tgt := 68) (off := 67) dX11_count_1 (ztl c1_1 (by decide)) (ztu c1_1 (by decide)) (zto c1_1 (by decide)) (by decide) ?_
      refine x_aload_n dX11_count_68 rfl rfl ?_
      refine x_getS (r := 22) dX11_count_69 fl_X11_38 rfl rfl ?_
      obtain ⟨r6, M5, hq4, hf⟩ := zb2E hf
      refine x_invVi dX11_count_72 mk_X9_stepCount ml_X11_258 (cc_X9_stepCount hq4) rfl rfl rfl (Nat.le_of_ble_eq_true rfl) rfl (Nat.le_of_ble_eq_true rfl) rfl ?_
      exact x_iret rfl dX11_count_75 (zretI hf)
    · replace hf := zif_f c1_1 hf
      by_cases c1_2 : x1 = (2 : Int32)
      · replace hf := zif_t c1_2 hf
        refine x_tableIn (tgt := 76) (off := 75) dX11_count_1 (ztl c1_2 (by decide)) (ztu c1_2 (by decide)) (zto c1_2 (by decide)) (by decide) ?_
        refine x_aload_n dX11_count_76 rfl rfl ?_
        refine x_getI dX11_count_77 fl_X11_86 rfl rfl ?_
        exact x_iret rfl dX11_count_80 (zretI hf)
      · replace hf := zif_f c1_2 hf
        by_cases c1_3 : x1 = (3 : Int32)
        · replace hf := zif_t c1_3 hf
          refine x_tableIn (tgt := 81) (off := 80) dX11_count_1 (ztl c1_3 (by decide)) (ztu c1_3 (by decide)) (zto c1_3 (by decide)) (by decide) ?_
          refine x_aload_n dX11_count_81 rfl rfl ?_
          refine x_getS (r := 47) dX11_count_82 fl_X11_66 rfl rfl ?_
          obtain ⟨r9, M8, hq7, hf⟩ := zb2E hf
          refine x_invVi dX11_count_85 mk_X1_size ml_X11_253 (cc_X1_size hq7) rfl rfl rfl (Nat.le_of_ble_eq_true rfl) rfl (Nat.le_of_ble_eq_true rfl) rfl ?_
          exact x_iret rfl dX11_count_88 (zretI hf)
        · replace hf := zif_f c1_3 hf
          by_cases c1_4 : x1 = (4 : Int32)
          · replace hf := zif_t c1_4 hf
            refine x_tableIn (tgt := 89) (off := 88) dX11_count_1 (ztl c1_4 (by decide)) (ztu c1_4 (by decide)) (zto c1_4 (by decide)) (by decide) ?_
            refine x_aload_n dX11_count_89 rfl rfl ?_
            refine x_getS (r := 47) dX11_count_90 fl_X11_66 rfl rfl ?_
            refine x_iconst (v := 1) dX11_count_93 (by decide) ?_
            obtain ⟨r12, M11, hq10, hf⟩ := zb2E hf
            refine x_invVi dX11_count_94 mk_X1_countState ml_X11_261 (cc_X1_countState hq10) rfl rfl rfl (Nat.le_of_ble_eq_true rfl) rfl (Nat.le_of_ble_eq_true rfl) rfl ?_
            exact x_iret rfl dX11_count_97 (zretI hf)
          · replace hf := zif_f c1_4 hf
            by_cases c1_5 : x1 = (5 : Int32)
            · replace hf := zif_t c1_5 hf
              refine x_tableIn (tgt := 98) (off := 97) dX11_count_1 (ztl c1_5 (by decide)) (ztu c1_5 (by decide)) (zto c1_5 (by decide)) (by decide) ?_
              refine x_aload_n dX11_count_98 rfl rfl ?_
              refine x_getS (r := 47) dX11_count_99 fl_X11_66 rfl rfl ?_
              refine x_iconst (v := 2) dX11_count_102 (by decide) ?_
              obtain ⟨r15, M14, hq13, hf⟩ := zb2E hf
              refine x_invVi dX11_count_103 mk_X1_countState ml_X11_261 (cc_X1_countState hq13) rfl rfl rfl (Nat.le_of_ble_eq_true rfl) rfl (Nat.le_of_ble_eq_true rfl) rfl ?_
              exact x_iret rfl dX11_count_106 (zretI hf)
            · replace hf := zif_f c1_5 hf
              by_cases c1_6 : x1 = (6 : Int32)
              · replace hf := zif_t c1_6 hf
                refine x_tableIn (tgt := 107) (off := 106) dX11_count_1 (ztl c1_6 (by decide)) (ztu c1_6 (by decide)) (zto c1_6 (by decide)) (by decide) ?_
                refine x_aload_n dX11_count_107 rfl rfl ?_
                refine x_getS (r := 47) dX11_count_108 fl_X11_66 rfl rfl ?_
                refine x_iconst (v := 3) dX11_count_111 (by decide) ?_
                obtain ⟨r18, M17, hq16, hf⟩ := zb2E hf
                refine x_invVi dX11_count_112 mk_X1_countState ml_X11_261 (cc_X1_countState hq16) rfl rfl rfl (Nat.le_of_ble_eq_true rfl) rfl (Nat.le_of_ble_eq_true rfl) rfl ?_
                exact x_iret rfl dX11_count_115 (zretI hf)
              · replace hf := zif_f c1_6 hf
                by_cases c1_7 : x1 = (7 : Int32)
                · replace hf := zif_t c1_7 hf
                  refine x_tableIn (tgt := 116) (off := 115) dX11_count_1 (ztl c1_7 (by decide)) (ztu c1_7 (by decide)) (zto c1_7 (by decide)) (by decide) ?_
                  refine x_aload_n dX11_count_116 rfl rfl ?_
                  refine x_getS (r := 65) dX11_count_117 fl_X11_82 rfl rfl ?_
                  obtain ⟨r21, M20, hq19, hf⟩ := zb2E hf
                  refine x_invVi dX11_count_120 mk_X3_size ml_X11_264 (cc_X3_size hq19) rfl rfl rfl (Nat.le_of_ble_eq_true rfl) rfl (Nat.le_of_ble_eq_true rfl) rfl ?_
                  exact x_iret rfl dX11_count_123 (zretI hf)
                · replace hf := zif_f c1_7 hf
                  by_cases c1_8 : x1 = (8 : Int32)
                  · replace hf := zif_t c1_8 hf
                    refine x_tableIn (tgt := 124) (off := 123) dX11_count_1 (ztl c1_8 (by decide)) (ztu c1_8 (by decide)) (zto c1_8 (by decide)) (by decide) ?_
                    refine x_aload_n dX11_count_124 rfl rfl ?_
                    refine x_getR dX11_count_125 fl_X11_19 rfl rfl ?_
                    obtain ⟨r24, M23, hq22, hf⟩ := zb2E hf
                    obtain ⟨hdy128, hq22⟩ := zdyE hq22
                    obtain ⟨cd128, hs128⟩ := zdySH hdy128
                    refine x_invVi dX11_count_128 mk_X6_size ml_X11_265 (cc_X6_size hdy128 hq22) hs128 rfl rfl (Nat.le_of_ble_eq_true rfl) rfl (Nat.le_of_ble_eq_true rfl) rfl ?_
                    exact x_iret rfl dX11_count_131 (zretI hf)
                  · replace hf := zif_f c1_8 hf
                    by_cases c1_9 : x1 = (9 : Int32)
                    · replace hf := zif_t c1_9 hf
                      refine x_tableIn (tgt := 132) (off := 131) dX11_count_1 (ztl c1_9 (by decide)) (ztu c1_9 (by decide)) (zto c1_9 (by decide)) (by decide) ?_
                      refine x_aload_n dX11_count_132 rfl rfl ?_
                      refine x_getS (r := 29) dX11_count_133 fl_X11_45 rfl rfl ?_
                      obtain ⟨r27, M26, hq25, hf⟩ := zb2E hf
                      refine x_invVi dX11_count_136 mk_X0_countGone ml_X11_266 (cc_X0_countGone hq25) rfl rfl rfl (Nat.le_of_ble_eq_true rfl) rfl (Nat.le_of_ble_eq_true rfl) rfl ?_
                      exact x_iret rfl dX11_count_139 (zretI hf)
                    · replace hf := zif_f c1_9 hf
                      by_cases c1_10 : x1 = (10 : Int32)
                      · replace hf := zif_t c1_10 hf
                        refine x_tableIn (tgt := 140) (off := 139) dX11_count_1 (ztl c1_10 (by decide)) (ztu c1_10 (by decide)) (zto c1_10 (by decide)) (by decide) ?_
                        refine x_aload_n dX11_count_140 rfl rfl ?_
                        refine x_getS (r := 1) dX11_count_141 fl_X11_10 rfl rfl ?_
                        obtain ⟨r30, M29, hq28, hf⟩ := zb2E hf
                        refine x_invVi dX11_count_144 mk_X8_length ml_X11_98 (cc_X8_length hq28) rfl rfl rfl (Nat.le_of_ble_eq_true rfl) rfl (Nat.le_of_ble_eq_true rfl) rfl ?_
                        exact x_iret rfl dX11_count_147 (zretI hf)
                      · replace hf := zif_f c1_10 hf
                        refine x_tableOut (tgt := 148) dX11_count_1 (by have q0 := ztne c1_0 (n := 0) (by decide); have q1 := ztne c1_1 (n := 1) (by decide); have q2 := ztne c1_2 (n := 2) (by decide); have q3 := ztne c1_3 (n := 3) (by decide); have q4 := ztne c1_4 (n := 4) (by decide); have q5 := ztne c1_5 (n := 5) (by decide); have q6 := ztne c1_6 (n := 6) (by decide); have q7 := ztne c1_7 (n := 7) (by decide); have q8 := ztne c1_8 (n := 8) (by decide); have q9 := ztne c1_9 (n := 9) (by decide); have q10 := ztne c1_10 (n := 10) (by decide); omega) (by decide) ?_
                        refine x_iconst (v := -1) dX11_count_148 (by decide) ?_
                        exact x_iret rfl dX11_count_149 (zretI hf)
theorem cc_X12_put_L3 {l : Launch} {G : zG} {N : Nat} : ∀ {n : Nat} {x1 : Int32} {x2 : Int32} {M : zMem} {M1 : zMem}, fX12_put_L3 N n x1 x2 M = some M1 → Ex l G 0 mX12_put 3 [(0, .ref (G.2.2.1 69)), (1, .int x1), (2, .int x2)] [] M (zqV M1) := by
  intro n
  induction n with
  | zero => intro x1 x2 M M1 hf; cases hf
  | succ n ih =>
    intro x1 x2 M M1 hf
    rw [fX12_put_L3] at hf
    refine x_iload_n dX12_put_3 rfl rfl ?_
    refine x_if_lt (tgt := 36) dX12_put_4 (by decide) (fun c4 => ?_) (fun c4 => ?_)
    · replace hf := zif_t c4 hf
      exact x_vret rfl dX12_put_36 (zretV hf)
    · replace hf := zif_f c4 hf
      refine x_aload_n dX12_put_7 rfl rfl ?_
      refine x_getS (r := 70) dX12_put_8 fl_X12_13 rfl rfl ?_
      refine x_aload_n dX12_put_11 rfl rfl ?_
      refine x_getI dX12_put_12 fl_X12_216 rfl rfl ?_
      refine x_iload_n dX12_put_15 rfl rfl ?_
      refine x_iload_n dX12_put_16 rfl rfl ?_
      refine x_ishr dX12_put_17 ?_
      refine x_i2b dX12_put_18 ?_
      obtain ⟨M1, hM1, hf⟩ := zbind hf
      refine x_bst dX12_put_19 rfl hM1 ?_
      refine x_aload_n dX12_put_20 rfl rfl ?_
      refine x_dup dX12_put_21 rfl ?_
      refine x_getI dX12_put_22 fl_X12_216 rfl rfl ?_
      refine x_iconst (v := 1) dX12_put_25 (by decide) ?_
      refine x_iadd dX12_put_26 ?_
      obtain ⟨M2, eM2, hf⟩ := zletE hf
      refine x_putI dX12_put_27 fp_X12_216 rfl rfl rfl rfl eM2 ?_
      obtain ⟨x2_3, ex2_3, hf⟩ := zletE hf
      refine x_iinc (c0 := -8) dX12_put_30 rfl (Nat.le_of_ble_eq_true rfl) (by decide) ex2_3 ?_
      refine x_goto (tgt := 3) dX12_put_33 (by decide) ?_
      exact Ex.sb (ih hf) ⟨rfl, rfl, rfl, trivial⟩
theorem cc_X12_put {l : Launch} {G : zG} {N : Nat} {x1 : Int32}  {M : zMem} {M1 : zMem} (hf : fX12_put N x1 M = some M1) : Ca l G 0 mX12_put [.ref (G.2.2.1 69), .int x1] M none M1 := by
  refine Ca.of (by decide +kernel) (Nat.le_of_ble_eq_true rfl) rfl ?_
  rw [fX12_put] at hf
  refine x_bipush (v := 24) dX12_put_0 (by decide) ?_
  refine x_istore_n dX12_put_2 rfl (Nat.le_of_ble_eq_true rfl) rfl ?_
  exact Ex.sb (cc_X12_put_L3  hf) ⟨rfl, rfl, rfl, trivial⟩
theorem cc_X12_feed {l : Launch} {G : zG} {N : Nat} {x1 : Int32} {x2 : Int32} {x3 : Int32} {x4 : Int32} {x5 : Int32}  {M : zMem} {r : Int32} {M1 : zMem} (hf : fX12_feed N x1 x2 x3 x4 x5 M = some (r, M1)) : Ca l G 1 mX12_feed [.ref (G.2.2.1 69), .int x1, .int x2, .int x3, .int x4, .int x5] M (some (.int r)) M1 := by
  refine Ca.of (by decide +kernel) (Nat.le_of_ble_eq_true rfl) rfl ?_
  rw [fX12_feed] at hf
  refine x_aload_n dX12_feed_0 rfl rfl ?_
  refine x_getI dX12_feed_1 fl_X12_216 rfl rfl ?_
  refine x_bipush (v := 20) dX12_feed_4 (by decide) ?_
  refine x_iadd dX12_feed_6 ?_
  refine x_sipush (v := 2000) dX12_feed_7 (by decide) ?_
  refine x_icmp_le (tgt := 15) dX12_feed_10 (by decide) (fun c10 => ?_) (fun c10 => ?_)
  · replace hf := zif_t c10 hf
    refine x_aload_n dX12_feed_15 rfl rfl ?_
    refine x_iload_n dX12_feed_16 rfl rfl ?_
    obtain ⟨M2, hq1, hf⟩ := zbind hf
    refine x_invVv dX12_feed_17 mk_X12_put ml_X12_219 (cc_X12_put hq1) rfl rfl rfl (Nat.le_of_ble_eq_true rfl) rfl (Nat.le_of_ble_eq_true rfl) rfl ?_
    refine x_aload_n dX12_feed_20 rfl rfl ?_
    refine x_iload_n dX12_feed_21 rfl rfl ?_
    obtain ⟨M4, hq3, hf⟩ := zbind hf
    refine x_invVv dX12_feed_22 mk_X12_put ml_X12_219 (cc_X12_put hq3) rfl rfl rfl (Nat.le_of_ble_eq_true rfl) rfl (Nat.le_of_ble_eq_true rfl) rfl ?_
    refine x_aload_n dX12_feed_25 rfl rfl ?_
    refine x_iload_n dX12_feed_26 rfl rfl ?_
    obtain ⟨M6, hq5, hf⟩ := zbind hf
    refine x_invVv dX12_feed_27 mk_X12_put ml_X12_219 (cc_X12_put hq5) rfl rfl rfl (Nat.le_of_ble_eq_true rfl) rfl (Nat.le_of_ble_eq_true rfl) rfl ?_
    refine x_aload_n dX12_feed_30 rfl rfl ?_
    refine x_iload dX12_feed_31 rfl ?_
    obtain ⟨M8, hq7, hf⟩ := zbind hf
    refine x_invVv dX12_feed_33 mk_X12_put ml_X12_219 (cc_X12_put hq7) rfl rfl rfl (Nat.le_of_ble_eq_true rfl) rfl (Nat.le_of_ble_eq_true rfl) rfl ?_
    refine x_aload_n dX12_feed_36 rfl rfl ?_
    refine x_iload dX12_feed_37 rfl ?_
    obtain ⟨M10, hq9, hf⟩ := zbind hf
    refine x_invVv dX12_feed_39 mk_X12_put ml_X12_219 (cc_X12_put hq9) rfl rfl rfl (Nat.le_of_ble_eq_true rfl) rfl (Nat.le_of_ble_eq_true rfl) rfl ?_
    refine x_aload_n dX12_feed_42 rfl rfl ?_
    refine x_getI dX12_feed_43 fl_X12_216 rfl rfl ?_
    exact x_iret rfl dX12_feed_46 (zretI hf)
  · replace hf := zif_f c10 hf
    refine x_iconst (v := -1) dX12_feed_13 (by decide) ?_
    exact x_iret rfl dX12_feed_14 (zretI hf)
