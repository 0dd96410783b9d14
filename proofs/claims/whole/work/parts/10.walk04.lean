theorem cc_X12_lists_L129 {l : Launch} {G : zG} {N : Nat} {k33 : Int32 → Int32 → Int32 → zMem → Option zMem} (hk33 : ∀ {x1 : Int32} {x2 : Int32} {x3 : Int32} {M : zMem} {M1 : zMem}, k33 x1 x2 x3 M = some M1 → Ex l G 1 mX12_lists 33 [(0, .ref (G.2.2.1 69)), (1, .int x1), (2, .int x2), (3, .int x3)] [] M (zqV M1)) {x1 : Int32} {x2 : Int32} {x3 : Int32} {M : zMem} {M1 : zMem} (hf : fX12_lists_L129 N k33 x1 x2 x3 M = some M1) : Ex l G 1 mX12_lists 129 [(0, .ref (G.2.2.1 69)), (1, .int x1), (2, .int x2), (3, .int x3)] [] M (zqV M1) := by
  rw [fX12_lists_L129] at hf
  obtain ⟨x3_15, ex3_15, hf⟩ := zletE hf
  refine x_iinc (c0 := 1) dX12_lists_129 rfl (Nat.le_of_ble_eq_true rfl) (by decide) ex3_15 ?_
  refine x_goto (tgt := 33) dX12_lists_132 (by decide) ?_
  exact Ex.sb (hk33 hf) ⟨rfl, rfl, rfl, rfl, trivial⟩
theorem cc_X12_lists_L45 {l : Launch} {G : zG} {N : Nat} {k33 : Int32 → Int32 → Int32 → zMem → Option zMem} (hk33 : ∀ {x1 : Int32} {x2 : Int32} {x3 : Int32} {M : zMem} {M1 : zMem}, k33 x1 x2 x3 M = some M1 → Ex l G 1 mX12_lists 33 [(0, .ref (G.2.2.1 69)), (1, .int x1), (2, .int x2), (3, .int x3)] [] M (zqV M1)) : ∀ {n : Nat} {x1 : Int32} {x2 : Int32} {x3 : Int32} {x4 : Int32} {x5 : Int32} {M : zMem} {M1 : zMem}, fX12_lists_L45 N k33 n x1 x2 x3 x4 x5 M = some M1 → Ex l G 1 mX12_lists 45 [(0, .ref (G.2.2.1 69)), (1, .int x1), (2, .int x2), (3, .int x3), (4, .int x4), (5, .int x5)] [] M (zqV M1) := by
  intro n
  induction n with
  | zero => intro x1 x2 x3 x4 x5 M M1 hf; cases hf
  | succ n ih =>
    intro x1 x2 x3 x4 x5 M M1 hf
    rw [fX12_lists_L45] at hf
    refine x_iload dX12_lists_45 rfl ?_
    refine x_aload_n dX12_lists_47 rfl rfl ?_
    refine x_getS (r := 105) dX12_lists_48 fl_X12_125 rfl rfl ?_
    refine x_iload_n dX12_lists_51 rfl rfl ?_
    obtain ⟨v7, hv7, hf⟩ := zbind hf
    refine x_ild dX12_lists_52 rfl hv7 ?_
    refine x_icmp_gt (tgt := 129) dX12_lists_53 (by decide) (fun c53 => ?_) (fun c53 => ?_)
    · replace hf := zif_t c53 hf
      exact Ex.sb (cc_X12_lists_L129 hk33 hf) ⟨rfl, rfl, rfl, rfl, trivial⟩
    · replace hf := zif_f c53 hf
      refine x_iload_n dX12_lists_56 rfl rfl ?_
      refine x_iload dX12_lists_57 rfl ?_
      refine x_iadd dX12_lists_59 ?_
      refine x_bipush (v := 6) dX12_lists_60 (by decide) ?_
      refine x_icmp_gt (tgt := 129) dX12_lists_62 (by decide) (fun c62 => ?_) (fun c62 => ?_)
      · replace hf := zif_t c62 hf
        exact Ex.sb (cc_X12_lists_L129 hk33 hf) ⟨rfl, rfl, rfl, rfl, trivial⟩
      · replace hf := zif_f c62 hf
        refine x_iload dX12_lists_65 rfl ?_
        refine x_iconst (v := 1) dX12_lists_67 (by decide) ?_
        refine x_iload_n dX12_lists_68 rfl rfl ?_
        refine x_iload dX12_lists_69 rfl ?_
        refine x_iadd dX12_lists_71 ?_
        refine x_iconst (v := 1) dX12_lists_72 (by decide) ?_
        refine x_isub dX12_lists_73 ?_
        refine x_ishl dX12_lists_74 ?_
        refine x_ior dX12_lists_75 ?_
        obtain ⟨x4_8, ex4_8, hf⟩ := zletE hf
        refine x_istore dX12_lists_76 (Nat.le_of_ble_eq_true rfl) ex4_8 ?_
        refine x_aload_n dX12_lists_78 rfl rfl ?_
        refine x_getS (r := 104) dX12_lists_79 fl_X12_122 rfl rfl ?_
        refine x_iload_n dX12_lists_82 rfl rfl ?_
        obtain ⟨v9, hv9, hf⟩ := zbind hf
        refine x_ild dX12_lists_83 rfl hv9 ?_
        refine x_iload dX12_lists_84 rfl ?_
        refine x_iand dX12_lists_86 ?_
        refine x_iload dX12_lists_87 rfl ?_
        refine x_icmp_eq (tgt := 95) dX12_lists_89 (by decide) (fun c89 => ?_) (fun c89 => ?_)
        · replace hf := zif_t c89 hf
          refine x_aload_n dX12_lists_95 rfl rfl ?_
          refine x_getS (r := 109) dX12_lists_96 fl_X12_137 rfl rfl ?_
          refine x_bipush (v := 20) dX12_lists_99 (by decide) ?_
          refine x_iload_n dX12_lists_101 rfl rfl ?_
          refine x_imul dX12_lists_102 ?_
          refine x_aload_n dX12_lists_103 rfl rfl ?_
          refine x_getS (r := 108) dX12_lists_104 fl_X12_134 rfl rfl ?_
          refine x_iload_n dX12_lists_107 rfl rfl ?_
          obtain ⟨v10, hv10, hf⟩ := zbind hf
          refine x_ild dX12_lists_108 rfl hv10 ?_
          refine x_iadd dX12_lists_109 ?_
          refine x_iload dX12_lists_110 rfl ?_
          obtain ⟨M11, hM11, hf⟩ := zbind hf
          refine x_ist dX12_lists_112 rfl hM11 ?_
          refine x_aload_n dX12_lists_113 rfl rfl ?_
          refine x_getS (r := 108) dX12_lists_114 fl_X12_134 rfl rfl ?_
          refine x_iload_n dX12_lists_117 rfl rfl ?_
          refine x_dup2 dX12_lists_118 rfl rfl ?_
          obtain ⟨v12, hv12, hf⟩ := zbind hf
          refine x_ild dX12_lists_119 rfl hv12 ?_
          refine x_iconst (v := 1) dX12_lists_120 (by decide) ?_
          refine x_iadd dX12_lists_121 ?_
          obtain ⟨M13, hM13, hf⟩ := zbind hf
          refine x_ist dX12_lists_122 rfl hM13 ?_
          obtain ⟨x5_14, ex5_14, hf⟩ := zletE hf
          refine x_iinc (c0 := 1) dX12_lists_123 rfl (Nat.le_of_ble_eq_true rfl) (by decide) ex5_14 ?_
          refine x_goto (tgt := 45) dX12_lists_126 (by decide) ?_
          exact Ex.sb (ih hf) ⟨rfl, rfl, rfl, rfl, rfl, rfl, trivial⟩
        · replace hf := zif_f c89 hf
          refine x_goto (tgt := 129) dX12_lists_92 (by decide) ?_
          exact Ex.sb (cc_X12_lists_L129 hk33 hf) ⟨rfl, rfl, rfl, rfl, trivial⟩
theorem cc_X12_lists_L33 {l : Launch} {G : zG} {N : Nat} : ∀ {n : Nat} {x1 : Int32} {x2 : Int32} {x3 : Int32} {M : zMem} {M1 : zMem}, fX12_lists_L33 N n x1 x2 x3 M = some M1 → Ex l G 1 mX12_lists 33 [(0, .ref (G.2.2.1 69)), (1, .int x1), (2, .int x2), (3, .int x3)] [] M (zqV M1) := by
  intro n
  induction n with
  | zero => intro x1 x2 x3 M M1 hf; cases hf
  | succ n ih =>
    intro x1 x2 x3 M M1 hf
    rw [fX12_lists_L33] at hf
    refine x_iload_n dX12_lists_33 rfl rfl ?_
    refine x_bipush (v := 6) dX12_lists_34 (by decide) ?_
    refine x_icmp_ge (tgt := 135) dX12_lists_36 (by decide) (fun c36 => ?_) (fun c36 => ?_)
    · replace hf := zif_t c36 hf
      exact x_vret rfl dX12_lists_135 (zretV hf)
    · replace hf := zif_f c36 hf
      refine x_iconst (v := 0) dX12_lists_39 (by decide) ?_
      refine x_istore dX12_lists_40 (Nat.le_of_ble_eq_true rfl) rfl ?_
      refine x_iconst (v := 1) dX12_lists_42 (by decide) ?_
      refine x_istore dX12_lists_43 (Nat.le_of_ble_eq_true rfl) rfl ?_
      exact Ex.sb (cc_X12_lists_L45 ih hf) ⟨rfl, rfl, rfl, rfl, rfl, rfl, trivial⟩
theorem cc_X12_lists {l : Launch} {G : zG} {N : Nat} {x1 : Int32} {x2 : Int32}  {M : zMem} {M1 : zMem} (hf : fX12_lists N x1 x2 M = some M1) : Ca l G 1 mX12_lists [.ref (G.2.2.1 69), .int x1, .int x2] M none M1 := by
  refine Ca.of (by decide +kernel) (Nat.le_of_ble_eq_true rfl) rfl ?_
  rw [fX12_lists] at hf
  refine x_aload_n dX12_lists_0 rfl rfl ?_
  refine x_getS (r := 109) dX12_lists_1 fl_X12_137 rfl rfl ?_
  refine x_bipush (v := 20) dX12_lists_4 (by decide) ?_
  refine x_iload_n dX12_lists_6 rfl rfl ?_
  refine x_imul dX12_lists_7 ?_
  refine x_iconst (v := 0) dX12_lists_8 (by decide) ?_
  obtain ⟨M1, hM1, hf⟩ := zbind hf
  refine x_ist dX12_lists_9 rfl hM1 ?_
  refine x_aload_n dX12_lists_10 rfl rfl ?_
  refine x_getS (r := 108) dX12_lists_11 fl_X12_134 rfl rfl ?_
  refine x_iload_n dX12_lists_14 rfl rfl ?_
  refine x_iconst (v := 1) dX12_lists_15 (by decide) ?_
  obtain ⟨M2, hM2, hf⟩ := zbind hf
  refine x_ist dX12_lists_16 rfl hM2 ?_
  refine x_aload_n dX12_lists_17 rfl rfl ?_
  refine x_aload_n dX12_lists_18 rfl rfl ?_
  refine x_getS (r := 103) dX12_lists_19 fl_X12_119 rfl rfl ?_
  refine x_iload_n dX12_lists_22 rfl rfl ?_
  obtain ⟨v3, hv3, hf⟩ := zbind hf
  refine x_ild dX12_lists_23 rfl hv3 ?_
  obtain ⟨r6, M5, hq4, hf⟩ := zb2E hf
  refine x_invVi dX12_lists_24 mk_X12_isDue ml_X12_337 (cc_X12_isDue hq4) rfl rfl rfl (Nat.le_of_ble_eq_true rfl) rfl (Nat.le_of_ble_eq_true rfl) rfl ?_
  refine x_if_eq (tgt := 31) dX12_lists_27 (by decide) (fun c27 => ?_) (fun c27 => ?_)
  · replace hf := zif_t c27 hf
    refine x_iconst (v := 0) dX12_lists_31 (by decide) ?_
    refine x_istore_n dX12_lists_32 rfl (Nat.le_of_ble_eq_true rfl) rfl ?_
    exact Ex.sb (cc_X12_lists_L33  hf) ⟨rfl, rfl, rfl, rfl, trivial⟩
  · replace hf := zif_f c27 hf
    exact x_vret rfl dX12_lists_30 (zretV hf)
theorem cc_X12_bits_L4 {l : Launch} {G : zG} {N : Nat} : ∀ {n : Nat} {x0 : Int32} {x1 : Int32} {x2 : Int32} {M : zMem} {r : Int32} {M1 : zMem}, fX12_bits_L4 N n x0 x1 x2 M = some (r, M1) → Ex l G 0 mX12_bits 4 [(0, .int x0), (1, .int x1), (2, .int x2)] [] M (zqI r M1) := by
  intro n
  induction n with
  | zero => intro x0 x1 x2 M r M1 hf; cases hf
  | succ n ih =>
    intro x0 x1 x2 M r M1 hf
    rw [fX12_bits_L4] at hf
    refine x_iload_n dX12_bits_4 rfl rfl ?_
    refine x_bipush (v := 6) dX12_bits_5 (by decide) ?_
    refine x_icmp_ge (tgt := 24) dX12_bits_7 (by decide) (fun c7 => ?_) (fun c7 => ?_)
    · replace hf := zif_t c7 hf
      refine x_iload_n dX12_bits_24 rfl rfl ?_
      exact x_iret rfl dX12_bits_25 (zretI hf)
    · replace hf := zif_f c7 hf
      refine x_iload_n dX12_bits_10 rfl rfl ?_
      refine x_iload_n dX12_bits_11 rfl rfl ?_
      refine x_iload_n dX12_bits_12 rfl rfl ?_
      refine x_ishr dX12_bits_13 ?_
      refine x_iconst (v := 1) dX12_bits_14 (by decide) ?_
      refine x_iand dX12_bits_15 ?_
      refine x_iadd dX12_bits_16 ?_
      obtain ⟨x1_1, ex1_1, hf⟩ := zletE hf
      refine x_istore_n dX12_bits_17 rfl (Nat.le_of_ble_eq_true rfl) ex1_1 ?_
      obtain ⟨x2_2, ex2_2, hf⟩ := zletE hf
      refine x_iinc (c0 := 1) dX12_bits_18 rfl (Nat.le_of_ble_eq_true rfl) (by decide) ex2_2 ?_
      refine x_goto (tgt := 4) dX12_bits_21 (by decide) ?_
      exact Ex.sb (ih hf) ⟨rfl, rfl, rfl, trivial⟩
theorem cc_X12_bits {l : Launch} {G : zG} {N : Nat} {x0 : Int32}  {M : zMem} {r : Int32} {M1 : zMem} (hf : fX12_bits N x0 M = some (r, M1)) : Ca l G 0 mX12_bits [.int x0] M (some (.int r)) M1 := by
  refine Ca.of (by decide +kernel) (Nat.le_of_ble_eq_true rfl) rfl ?_
  rw [fX12_bits] at hf
  refine x_iconst (v := 0) dX12_bits_0 (by decide) ?_
  refine x_istore_n dX12_bits_1 rfl (Nat.le_of_ble_eq_true rfl) rfl ?_
  refine x_iconst (v := 0) dX12_bits_2 (by decide) ?_
  refine x_istore_n dX12_bits_3 rfl (Nat.le_of_ble_eq_true rfl) rfl ?_
  exact Ex.sb (cc_X12_bits_L4  hf) ⟨rfl, rfl, rfl, trivial⟩
theorem cc_X12_keeps_L68 {l : Launch} {G : zG} {N : Nat} {k11 : Int32 → Int32 → Int32 → Int32 → Int32 → Int32 → zMem → Option (Int32 × zMem)} (hk11 : ∀ {x1 : Int32} {x2 : Int32} {x3 : Int32} {x4 : Int32} {x5 : Int32} {x6 : Int32} {M : zMem} {r : Int32} {M1 : zMem}, k11 x1 x2 x3 x4 x5 x6 M = some (r, M1) → Ex l G 0 mX12_keeps 11 [(0, .ref (G.2.2.1 69)), (1, .int x1), (2, .int x2), (3, .int x3), (4, .int x4), (5, .int x5), (6, .int x6)] [] M (zqI r M1)) {x1 : Int32} {x2 : Int32} {x3 : Int32} {x4 : Int32} {x5 : Int32} {x6 : Int32} {M : zMem} {r : Int32} {M1 : zMem} (hf : fX12_keeps_L68 N k11 x1 x2 x3 x4 x5 x6 M = some (r, M1)) : Ex l G 0 mX12_keeps 68 [(0, .ref (G.2.2.1 69)), (1, .int x1), (2, .int x2), (3, .int x3), (4, .int x4), (5, .int x5), (6, .int x6)] [] M (zqI r M1) := by
  rw [fX12_keeps_L68] at hf
  obtain ⟨x6_6, ex6_6, hf⟩ := zletE hf
  refine x_iinc (c0 := 1) dX12_keeps_68 rfl (Nat.le_of_ble_eq_true rfl) (by decide) ex6_6 ?_
  refine x_goto (tgt := 11) dX12_keeps_71 (by decide) ?_
  exact Ex.sb (hk11 hf) ⟨rfl, rfl, rfl, rfl, rfl, rfl, rfl, trivial⟩
theorem cc_X12_keeps_L11 {l : Launch} {G : zG} {N : Nat} : ∀ {n : Nat} {x1 : Int32} {x2 : Int32} {x3 : Int32} {x4 : Int32} {x5 : Int32} {x6 : Int32} {M : zMem} {r : Int32} {M1 : zMem}, fX12_keeps_L11 N n x1 x2 x3 x4 x5 x6 M = some (r, M1) → Ex l G 0 mX12_keeps 11 [(0, .ref (G.2.2.1 69)), (1, .int x1), (2, .int x2), (3, .int x3), (4, .int x4), (5, .int x5), (6, .int x6)] [] M (zqI r M1) := by
  intro n
  induction n with
  | zero => intro x1 x2 x3 x4 x5 x6 M r M1 hf; cases hf
  | succ n ih =>
    intro x1 x2 x3 x4 x5 x6 M r M1 hf
    rw [fX12_keeps_L11] at hf
    refine x_iload dX12_keeps_11 rfl ?_
    refine x_iload_n dX12_keeps_13 rfl rfl ?_
    refine x_icmp_ge (tgt := 74) dX12_keeps_14 (by decide) (fun c14 => ?_) (fun c14 => ?_)
    · replace hf := zif_t c14 hf
      refine x_iload dX12_keeps_74 rfl ?_
      refine x_iload dX12_keeps_76 rfl ?_
      refine x_iand dX12_keeps_78 ?_
      exact x_iret rfl dX12_keeps_79 (zretI hf)
    · replace hf := zif_f c14 hf
      refine x_aload_n dX12_keeps_17 rfl rfl ?_
      refine x_getS (r := 109) dX12_keeps_18 fl_X12_137 rfl rfl ?_
      refine x_bipush (v := 20) dX12_keeps_21 (by decide) ?_
      refine x_iload dX12_keeps_23 rfl ?_
      refine x_imul dX12_keeps_25 ?_
      refine x_aload_n dX12_keeps_26 rfl rfl ?_
      refine x_getS (r := 110) dX12_keeps_27 fl_X12_140 rfl rfl ?_
      refine x_iload dX12_keeps_30 rfl ?_
      obtain ⟨v1, hv1, hf⟩ := zbind hf
      refine x_ild dX12_keeps_32 rfl hv1 ?_
      refine x_iadd dX12_keeps_33 ?_
      obtain ⟨v2, hv2, hf⟩ := zbind hf
      refine x_ild dX12_keeps_34 rfl hv2 ?_
      refine x_istore dX12_keeps_35 (Nat.le_of_ble_eq_true rfl) rfl ?_
      refine x_iload dX12_keeps_37 rfl ?_
      refine x_iload_n dX12_keeps_39 rfl rfl ?_
      refine x_iload dX12_keeps_40 rfl ?_
      refine x_iand dX12_keeps_42 ?_
      refine x_ior dX12_keeps_43 ?_
      obtain ⟨x4_3, ex4_3, hf⟩ := zletE hf
      refine x_istore dX12_keeps_44 (Nat.le_of_ble_eq_true rfl) ex4_3 ?_
      refine x_iload_n dX12_keeps_46 rfl rfl ?_
      refine x_iload dX12_keeps_47 rfl ?_
      refine x_ior dX12_keeps_49 ?_
      obtain ⟨x3_4, ex3_4, hf⟩ := zletE hf
      refine x_istore_n dX12_keeps_50 rfl (Nat.le_of_ble_eq_true rfl) ex3_4 ?_
      refine x_iload_n dX12_keeps_51 rfl rfl ?_
      refine x_iload dX12_keeps_52 rfl ?_
      refine x_ishr dX12_keeps_54 ?_
      refine x_iconst (v := 1) dX12_keeps_55 (by decide) ?_
      refine x_iand dX12_keeps_56 ?_
      refine x_iconst (v := 1) dX12_keeps_57 (by decide) ?_
      refine x_icmp_ne (tgt := 68) dX12_keeps_58 (by decide) (fun c58 => ?_) (fun c58 => ?_)
      · replace hf := zif_f c58 hf
        exact Ex.sb (cc_X12_keeps_L68 ih hf) ⟨rfl, rfl, rfl, rfl, rfl, rfl, rfl, trivial⟩
      · replace hf := zif_t c58 hf
        refine x_iload dX12_keeps_61 rfl ?_
        refine x_iload dX12_keeps_63 rfl ?_
        refine x_ior dX12_keeps_65 ?_
        obtain ⟨x5_5, ex5_5, hf⟩ := zletE hf
        refine x_istore dX12_keeps_66 (Nat.le_of_ble_eq_true rfl) ex5_5 ?_
        exact Ex.sb (cc_X12_keeps_L68 ih hf) ⟨rfl, rfl, rfl, rfl, rfl, rfl, rfl, trivial⟩
theorem cc_X12_keeps {l : Launch} {G : zG} {N : Nat} {x1 : Int32} {x2 : Int32}  {M : zMem} {r : Int32} {M1 : zMem} (hf : fX12_keeps N x1 x2 M = some (r, M1)) : Ca l G 0 mX12_keeps [.ref (G.2.2.1 69), .int x1, .int x2] M (some (.int r)) M1 := by
  refine Ca.of (by decide +kernel) (Nat.le_of_ble_eq_true rfl) rfl ?_
  rw [fX12_keeps] at hf
  refine x_iconst (v := 0) dX12_keeps_0 (by decide) ?_
  refine x_istore_n dX12_keeps_1 rfl (Nat.le_of_ble_eq_true rfl) rfl ?_
  refine x_iconst (v := 0) dX12_keeps_2 (by decide) ?_
  refine x_istore dX12_keeps_3 (Nat.le_of_ble_eq_true rfl) rfl ?_
  refine x_iconst (v := 0) dX12_keeps_5 (by decide) ?_
  refine x_istore dX12_keeps_6 (Nat.le_of_ble_eq_true rfl) rfl ?_
  refine x_iconst (v := 0) dX12_keeps_8 (by decide) ?_
  refine x_istore dX12_keeps_9 (Nat.le_of_ble_eq_true rfl) rfl ?_
  exact Ex.sb (cc_X12_keeps_L11  hf) ⟨rfl, rfl, rfl, rfl, rfl, rfl, rfl, trivial⟩
theorem cc_X12_shifts_L103 {l : Launch} {G : zG} {N : Nat} {k40 : Int32 → Int32 → Int32 → zMem → Option (Int32 × zMem)} (hk40 : ∀ {x1 : Int32} {x2 : Int32} {x3 : Int32} {M : zMem} {r : Int32} {M1 : zMem}, k40 x1 x2 x3 M = some (r, M1) → Ex l G 2 mX12_shifts 40 [(0, .ref (G.2.2.1 69)), (1, .int x1), (2, .int x2), (3, .int x3)] [] M (zqI r M1)) {x1 : Int32} {x2 : Int32} {x3 : Int32} {M : zMem} {r : Int32} {M1 : zMem} (hf : fX12_shifts_L103 N k40 x1 x2 x3 M = some (r, M1)) : Ex l G 2 mX12_shifts 103 [(0, .ref (G.2.2.1 69)), (1, .int x1), (2, .int x2), (3, .int x3)] [] M (zqI r M1) := by
  rw [fX12_shifts_L103] at hf
  obtain ⟨x3_18, ex3_18, hf⟩ := zletE hf
  refine x_iinc (c0 := 1) dX12_shifts_103 rfl (Nat.le_of_ble_eq_true rfl) (by decide) ex3_18 ?_
  refine x_goto (tgt := 40) dX12_shifts_106 (by decide) ?_
  exact Ex.sb (hk40 hf) ⟨rfl, rfl, rfl, rfl, trivial⟩
theorem cc_X12_shifts_L303 {l : Launch} {G : zG} {N : Nat} {k117 : Int32 → Int32 → Int32 → Int32 → Int32 → zMem → Option (Int32 × zMem)} (hk117 : ∀ {x1 : Int32} {x2 : Int32} {x3 : Int32} {x4 : Int32} {x5 : Int32} {M : zMem} {r : Int32} {M1 : zMem}, k117 x1 x2 x3 x4 x5 M = some (r, M1) → Ex l G 2 mX12_shifts 117 [(0, .ref (G.2.2.1 69)), (1, .int x1), (2, .int x2), (3, .int x3), (4, .int x4), (5, .int x5)] [] M (zqI r M1)) {x1 : Int32} {x2 : Int32} {x3 : Int32} {x4 : Int32} {x5 : Int32} {M : zMem} {r : Int32} {M1 : zMem} (hf : fX12_shifts_L303 N k117 x1 x2 x3 x4 x5 M = some (r, M1)) : Ex l G 2 mX12_shifts 303 [(0, .ref (G.2.2.1 69)), (1, .int x1), (2, .int x2), (3, .int x3), (4, .int x4), (5, .int x5)] [] M (zqI r M1) := by
  rw [fX12_shifts_L303] at hf
  refine x_goto (tgt := 117) dX12_shifts_303 (by decide) ?_
  exact Ex.sb (hk117 hf) ⟨rfl, rfl, rfl, rfl, rfl, rfl, trivial⟩
theorem cc_X12_shifts_L285 {l : Launch} {G : zG} {N : Nat} {k117 : Int32 → Int32 → Int32 → Int32 → Int32 → zMem → Option (Int32 × zMem)} (hk117 : ∀ {x1 : Int32} {x2 : Int32} {x3 : Int32} {x4 : Int32} {x5 : Int32} {M : zMem} {r : Int32} {M1 : zMem}, k117 x1 x2 x3 x4 x5 M = some (r, M1) → Ex l G 2 mX12_shifts 117 [(0, .ref (G.2.2.1 69)), (1, .int x1), (2, .int x2), (3, .int x3), (4, .int x4), (5, .int x5)] [] M (zqI r M1)) {x1 : Int32} {x2 : Int32} {x3 : Int32} {x4 : Int32} {x8 : Int32} {s0 : Int32} {M : zMem} {r : Int32} {M1 : zMem} (hf : fX12_shifts_L285 N k117 x1 x2 x3 x4 x8 s0 M = some (r, M1)) : Ex l G 2 mX12_shifts 285 [(0, .ref (G.2.2.1 69)), (1, .int x1), (2, .int x2), (3, .int x3), (4, .int x4), (8, .int x8)] [.int s0] M (zqI r M1) := by
  rw [fX12_shifts_L285] at hf
  refine x_istore dX12_shifts_285 (Nat.le_of_ble_eq_true rfl) rfl ?_
  refine x_iload dX12_shifts_287 rfl ?_
  refine x_if_eq (tgt := 303) dX12_shifts_289 (by decide) (fun c289 => ?_) (fun c289 => ?_)
  · replace hf := zif_t c289 hf
    exact Ex.sb (cc_X12_shifts_L303 hk117 hf) ⟨rfl, rfl, rfl, rfl, rfl, rfl, trivial⟩
  · replace hf := zif_f c289 hf
    refine x_aload_n dX12_shifts_292 rfl rfl ?_
    refine x_getS (r := 110) dX12_shifts_293 fl_X12_140 rfl rfl ?_
    refine x_iload dX12_shifts_296 rfl ?_
    refine x_dup2 dX12_shifts_298 rfl rfl ?_
    obtain ⟨v46, hv46, hf⟩ := zbind hf
    refine x_ild dX12_shifts_299 rfl hv46 ?_
    refine x_iconst (v := 1) dX12_shifts_300 (by decide) ?_
    refine x_iadd dX12_shifts_301 ?_
    obtain ⟨M47, hM47, hf⟩ := zbind hf
    refine x_ist dX12_shifts_302 rfl hM47 ?_
    exact Ex.sb (cc_X12_shifts_L303 hk117 hf) ⟨rfl, rfl, rfl, rfl, rfl, rfl, trivial⟩
theorem cc_X12_shifts_L275 {l : Launch} {G : zG} {N : Nat} {k117 : Int32 → Int32 → Int32 → Int32 → Int32 → zMem → Option (Int32 × zMem)} (hk117 : ∀ {x1 : Int32} {x2 : Int32} {x3 : Int32} {x4 : Int32} {x5 : Int32} {M : zMem} {r : Int32} {M1 : zMem}, k117 x1 x2 x3 x4 x5 M = some (r, M1) → Ex l G 2 mX12_shifts 117 [(0, .ref (G.2.2.1 69)), (1, .int x1), (2, .int x2), (3, .int x3), (4, .int x4), (5, .int x5)] [] M (zqI r M1)) {x1 : Int32} {x2 : Int32} {x3 : Int32} {x4 : Int32} {x8 : Int32} {M : zMem} {r : Int32} {M1 : zMem} (hf : fX12_shifts_L275 N k117 x1 x2 x3 x4 x8 M = some (r, M1)) : Ex l G 2 mX12_shifts 275 [(0, .ref (G.2.2.1 69)), (1, .int x1), (2, .int x2), (3, .int x3), (4, .int x4), (8, .int x8)] [] M (zqI r M1) := by
  rw [fX12_shifts_L275] at hf
  refine x_iload dX12_shifts_275 rfl ?_
  refine x_if_lt (tgt := 284) dX12_shifts_277 (by decide) (fun c277 => ?_) (fun c277 => ?_)
  · replace hf := zif_t c277 hf
    refine x_iconst (v := 0) dX12_shifts_284 (by decide) ?_
    exact Ex.sb (cc_X12_shifts_L285 hk117 hf) ⟨rfl, rfl, rfl, rfl, rfl, rfl, trivial⟩
  · replace hf := zif_f c277 hf
    refine x_iconst (v := 1) dX12_shifts_280 (by decide) ?_
    refine x_goto (tgt := 285) dX12_shifts_281 (by decide) ?_
    exact Ex.sb (cc_X12_shifts_L285 hk117 hf) ⟨rfl, rfl, rfl, rfl, rfl, rfl, trivial⟩
theorem cc_X12_shifts_L237 {l : Launch} {G : zG} {N : Nat} {k117 : Int32 → Int32 → Int32 → Int32 → Int32 → zMem → Option (Int32 × zMem)} (hk117 : ∀ {x1 : Int32} {x2 : Int32} {x3 : Int32} {x4 : Int32} {x5 : Int32} {M : zMem} {r : Int32} {M1 : zMem}, k117 x1 x2 x3 x4 x5 M = some (r, M1) → Ex l G 2 mX12_shifts 117 [(0, .ref (G.2.2.1 69)), (1, .int x1), (2, .int x2), (3, .int x3), (4, .int x4), (5, .int x5)] [] M (zqI r M1)) : ∀ {n : Nat} {x1 : Int32} {x2 : Int32} {x3 : Int32} {x4 : Int32} {x8 : Int32} {M : zMem} {r : Int32} {M1 : zMem}, fX12_shifts_L237 N k117 n x1 x2 x3 x4 x8 M = some (r, M1) → Ex l G 2 mX12_shifts 237 [(0, .ref (G.2.2.1 69)), (1, .int x1), (2, .int x2), (3, .int x3), (4, .int x4), (8, .int x8)] [] M (zqI r M1) := by
  intro n
  induction n with
  | zero => intro x1 x2 x3 x4 x8 M r M1 hf; cases hf
  | succ n ih =>
    intro x1 x2 x3 x4 x8 M r M1 hf
    rw [fX12_shifts_L237] at hf
    refine x_iload dX12_shifts_237 rfl ?_
    refine x_if_lt (tgt := 275) dX12_shifts_239 (by decide) (fun c239 => ?_) (fun c239 => ?_)
    · replace hf := zif_t c239 hf
      exact Ex.sb (cc_X12_shifts_L275 hk117 hf) ⟨rfl, rfl, rfl, rfl, rfl, rfl, trivial⟩
    · replace hf := zif_f c239 hf
      refine x_aload_n dX12_shifts_242 rfl rfl ?_
      refine x_getS (r := 110) dX12_shifts_243 fl_X12_140 rfl rfl ?_
      refine x_iload dX12_shifts_246 rfl ?_
      obtain ⟨v42, hv42, hf⟩ := zbind hf
      refine x_ild dX12_shifts_248 rfl hv42 ?_
      refine x_aload_n dX12_shifts_249 rfl rfl ?_
      refine x_getS (r := 108) dX12_shifts_250 fl_X12_134 rfl rfl ?_
      refine x_iload dX12_shifts_253 rfl ?_
      obtain ⟨v43, hv43, hf⟩ := zbind hf
      refine x_ild dX12_shifts_255 rfl hv43 ?_
      refine x_iconst (v := 1) dX12_shifts_256 (by decide) ?_
      refine x_isub dX12_shifts_257 ?_
      refine x_icmp_ne (tgt := 275) dX12_shifts_258 (by decide) (fun c258 => ?_) (fun c258 => ?_)
      · replace hf := zif_f c258 hf
        exact Ex.sb (cc_X12_shifts_L275 hk117 hf) ⟨rfl, rfl, rfl, rfl, rfl, rfl, trivial⟩
      · replace hf := zif_t c258 hf
        refine x_aload_n dX12_shifts_261 rfl rfl ?_
        refine x_getS (r := 110) dX12_shifts_262 fl_X12_140 rfl rfl ?_
        refine x_iload dX12_shifts_265 rfl ?_
        refine x_iconst (v := 0) dX12_shifts_267 (by decide) ?_
        obtain ⟨M44, hM44, hf⟩ := zbind hf
        refine x_ist dX12_shifts_268 rfl hM44 ?_
        obtain ⟨x8_45, ex8_45, hf⟩ := zletE hf
        refine x_iinc (c0 := -1) dX12_shifts_269 rfl (Nat.le_of_ble_eq_true rfl) (by decide) ex8_45 ?_
        refine x_goto (tgt := 237) dX12_shifts_272 (by decide) ?_
        exact Ex.sb (ih hf) ⟨rfl, rfl, rfl, rfl, rfl, rfl, trivial⟩
theorem cc_X12_shifts_L232 {l : Launch} {G : zG} {N : Nat} {k117 : Int32 → Int32 → Int32 → Int32 → Int32 → zMem → Option (Int32 × zMem)} (hk117 : ∀ {x1 : Int32} {x2 : Int32} {x3 : Int32} {x4 : Int32} {x5 : Int32} {M : zMem} {r : Int32} {M1 : zMem}, k117 x1 x2 x3 x4 x5 M = some (r, M1) → Ex l G 2 mX12_shifts 117 [(0, .ref (G.2.2.1 69)), (1, .int x1), (2, .int x2), (3, .int x3), (4, .int x4), (5, .int x5)] [] M (zqI r M1)) {x1 : Int32} {x2 : Int32} {x3 : Int32} {x4 : Int32} {M : zMem} {r : Int32} {M1 : zMem} (hf : fX12_shifts_L232 N k117 x1 x2 x3 x4 M = some (r, M1)) : Ex l G 2 mX12_shifts 232 [(0, .ref (G.2.2.1 69)), (1, .int x1), (2, .int x2), (3, .int x3), (4, .int x4)] [] M (zqI r M1) := by
  rw [fX12_shifts_L232] at hf
  refine x_iload_n dX12_shifts_232 rfl rfl ?_
  refine x_iconst (v := 1) dX12_shifts_233 (by decide) ?_
  refine x_isub dX12_shifts_234 ?_
  obtain ⟨x8_38, ex8_38, hf⟩ := zletE hf
  refine x_istore dX12_shifts_235 (Nat.le_of_ble_eq_true rfl) ex8_38 ?_
  exact Ex.sb (cc_X12_shifts_L237 hk117 hf) ⟨rfl, rfl, rfl, rfl, rfl, rfl, trivial⟩
theorem cc_X12_shifts_L206 {l : Launch} {G : zG} {N : Nat} {k117 : Int32 → Int32 → Int32 → Int32 → Int32 → zMem → Option (Int32 × zMem)} (hk117 : ∀ {x1 : Int32} {x2 : Int32} {x3 : Int32} {x4 : Int32} {x5 : Int32} {M : zMem} {r : Int32} {M1 : zMem}, k117 x1 x2 x3 x4 x5 M = some (r, M1) → Ex l G 2 mX12_shifts 117 [(0, .ref (G.2.2.1 69)), (1, .int x1), (2, .int x2), (3, .int x3), (4, .int x4), (5, .int x5)] [] M (zqI r M1)) : ∀ {n : Nat} {x1 : Int32} {x2 : Int32} {x3 : Int32} {x4 : Int32} {x8 : Int32} {M : zMem} {r : Int32} {M1 : zMem}, fX12_shifts_L206 N k117 n x1 x2 x3 x4 x8 M = some (r, M1) → Ex l G 2 mX12_shifts 206 [(0, .ref (G.2.2.1 69)), (1, .int x1), (2, .int x2), (3, .int x3), (4, .int x4), (8, .int x8)] [] M (zqI r M1) := by
  intro n
  induction n with
  | zero => intro x1 x2 x3 x4 x8 M r M1 hf; cases hf
  | succ n ih =>
    intro x1 x2 x3 x4 x8 M r M1 hf
    rw [fX12_shifts_L206] at hf
    refine x_iload dX12_shifts_206 rfl ?_
    refine x_iload_n dX12_shifts_208 rfl rfl ?_
    refine x_icmp_ge (tgt := 232) dX12_shifts_209 (by decide) (fun c209 => ?_) (fun c209 => ?_)
    · replace hf := zif_t c209 hf
      exact Ex.sb (cc_X12_shifts_L232 hk117 hf) ⟨rfl, rfl, rfl, rfl, rfl, trivial⟩
    · replace hf := zif_f c209 hf
      refine x_aload_n dX12_shifts_212 rfl rfl ?_
      refine x_getS (r := 111) dX12_shifts_213 fl_X12_143 rfl rfl ?_
      refine x_iload dX12_shifts_216 rfl ?_
      refine x_aload_n dX12_shifts_218 rfl rfl ?_
      refine x_getS (r := 110) dX12_shifts_219 fl_X12_140 rfl rfl ?_
      refine x_iload dX12_shifts_222 rfl ?_
      obtain ⟨v39, hv39, hf⟩ := zbind hf
      refine x_ild dX12_shifts_224 rfl hv39 ?_
      obtain ⟨M40, hM40, hf⟩ := zbind hf
      refine x_ist dX12_shifts_225 rfl hM40 ?_
      obtain ⟨x8_41, ex8_41, hf⟩ := zletE hf
      refine x_iinc (c0 := 1) dX12_shifts_226 rfl (Nat.le_of_ble_eq_true rfl) (by decide) ex8_41 ?_
      refine x_goto (tgt := 206) dX12_shifts_229 (by decide) ?_
      exact Ex.sb (ih hf) ⟨rfl, rfl, rfl, rfl, rfl, rfl, trivial⟩
theorem cc_X12_shifts_L196 {l : Launch} {G : zG} {N : Nat} {k117 : Int32 → Int32 → Int32 → Int32 → Int32 → zMem → Option (Int32 × zMem)} (hk117 : ∀ {x1 : Int32} {x2 : Int32} {x3 : Int32} {x4 : Int32} {x5 : Int32} {M : zMem} {r : Int32} {M1 : zMem}, k117 x1 x2 x3 x4 x5 M = some (r, M1) → Ex l G 2 mX12_shifts 117 [(0, .ref (G.2.2.1 69)), (1, .int x1), (2, .int x2), (3, .int x3), (4, .int x4), (5, .int x5)] [] M (zqI r M1)) {x1 : Int32} {x2 : Int32} {x6 : Int32} {x7 : Int32} {M : zMem} {r : Int32} {M1 : zMem} (hf : fX12_shifts_L196 N k117 x1 x2 x6 x7 M = some (r, M1)) : Ex l G 2 mX12_shifts 196 [(0, .ref (G.2.2.1 69)), (1, .int x1), (2, .int x2), (6, .int x6), (7, .int x7)] [] M (zqI r M1) := by
  rw [fX12_shifts_L196] at hf
  refine x_iload dX12_shifts_196 rfl ?_
  refine x_istore_n dX12_shifts_198 rfl (Nat.le_of_ble_eq_true rfl) rfl ?_
  refine x_iload dX12_shifts_199 rfl ?_
  refine x_istore dX12_shifts_201 (Nat.le_of_ble_eq_true rfl) rfl ?_
  refine x_iconst (v := 0) dX12_shifts_203 (by decide) ?_
  refine x_istore dX12_shifts_204 (Nat.le_of_ble_eq_true rfl) rfl ?_
  exact Ex.sb (cc_X12_shifts_L206 hk117 hf) ⟨rfl, rfl, rfl, rfl, rfl, rfl, trivial⟩
theorem cc_X12_shifts_L139 {l : Launch} {G : zG} {N : Nat} {k117 : Int32 → Int32 → Int32 → Int32 → Int32 → zMem → Option (Int32 × zMem)} (hk117 : ∀ {x1 : Int32} {x2 : Int32} {x3 : Int32} {x4 : Int32} {x5 : Int32} {M : zMem} {r : Int32} {M1 : zMem}, k117 x1 x2 x3 x4 x5 M = some (r, M1) → Ex l G 2 mX12_shifts 117 [(0, .ref (G.2.2.1 69)), (1, .int x1), (2, .int x2), (3, .int x3), (4, .int x4), (5, .int x5)] [] M (zqI r M1)) : ∀ {n : Nat} {x1 : Int32} {x2 : Int32} {x3 : Int32} {x4 : Int32} {x6 : Int32} {x7 : Int32} {x8 : Int32} {M : zMem} {r : Int32} {M1 : zMem}, fX12_shifts_L139 N k117 n x1 x2 x3 x4 x6 x7 x8 M = some (r, M1) → Ex l G 2 mX12_shifts 139 [(0, .ref (G.2.2.1 69)), (1, .int x1), (2, .int x2), (3, .int x3), (4, .int x4), (6, .int x6), (7, .int x7), (8, .int x8)] [] M (zqI r M1) := by
  intro n
  induction n with
  | zero => intro x1 x2 x3 x4 x6 x7 x8 M r M1 hf; cases hf
  | succ n ih =>
    intro x1 x2 x3 x4 x6 x7 x8 M r M1 hf
    rw [fX12_shifts_L139] at hf
    refine x_iload dX12_shifts_139 rfl ?_
    refine x_iload_n dX12_shifts_141 rfl rfl ?_
    refine x_icmp_ge (tgt := 177) dX12_shifts_142 (by decide) (fun c142 => ?_) (fun c142 => ?_)
    · replace hf := zif_t c142 hf
      refine x_iload dX12_shifts_177 rfl ?_
      refine x_iload_n dX12_shifts_179 rfl rfl ?_
      refine x_icmp_gt (tgt := 196) dX12_shifts_180 (by decide) (fun c180 => ?_) (fun c180 => ?_)
      · replace hf := zif_t c180 hf
        exact Ex.sb (cc_X12_shifts_L196 hk117 hf) ⟨rfl, rfl, rfl, rfl, rfl, trivial⟩
      · replace hf := zif_f c180 hf
        refine x_iload dX12_shifts_183 rfl ?_
        refine x_iload_n dX12_shifts_185 rfl rfl ?_
        refine x_icmp_ne (tgt := 232) dX12_shifts_186 (by decide) (fun c186 => ?_) (fun c186 => ?_)
        · replace hf := zif_f c186 hf
          exact Ex.sb (cc_X12_shifts_L232 hk117 hf) ⟨rfl, rfl, rfl, rfl, rfl, trivial⟩
        · replace hf := zif_t c186 hf
          refine x_iload dX12_shifts_189 rfl ?_
          refine x_iload dX12_shifts_191 rfl ?_
          refine x_icmp_ge (tgt := 232) dX12_shifts_193 (by decide) (fun c193 => ?_) (fun c193 => ?_)
          · replace hf := zif_t c193 hf
            exact Ex.sb (cc_X12_shifts_L232 hk117 hf) ⟨rfl, rfl, rfl, rfl, rfl, trivial⟩
          · replace hf := zif_f c193 hf
            exact Ex.sb (cc_X12_shifts_L196 hk117 hf) ⟨rfl, rfl, rfl, rfl, rfl, trivial⟩
    · replace hf := zif_f c142 hf
      refine x_iload dX12_shifts_145 rfl ?_
      refine x_aload_n dX12_shifts_147 rfl rfl ?_
      refine x_getS (r := 109) dX12_shifts_148 fl_X12_137 rfl rfl ?_
      refine x_bipush (v := 20) dX12_shifts_151 (by decide) ?_
      refine x_iload dX12_shifts_153 rfl ?_
      refine x_imul dX12_shifts_155 ?_
      refine x_aload_n dX12_shifts_156 rfl rfl ?_
      refine x_getS (r := 110) dX12_shifts_157 fl_X12_140 rfl rfl ?_
      refine x_iload dX12_shifts_160 rfl ?_
      obtain ⟨v31, hv31, hf⟩ := zbind hf
      refine x_ild dX12_shifts_162 rfl hv31 ?_
      refine x_iadd dX12_shifts_163 ?_
      obtain ⟨v32, hv32, hf⟩ := zbind hf
      refine x_ild dX12_shifts_164 rfl hv32 ?_
      obtain ⟨r35, M34, hq33, hf⟩ := zb2E hf
      refine x_invSi dX12_shifts_165 mk_X12_bits ml_X12_347 (cc_X12_bits hq33) (Nat.le_of_ble_eq_true rfl) rfl (Nat.le_of_ble_eq_true rfl) rfl ?_
      refine x_iadd dX12_shifts_168 ?_
      obtain ⟨x7_36, ex7_36, hf⟩ := zletE hf
      refine x_istore dX12_shifts_169 (Nat.le_of_ble_eq_true rfl) ex7_36 ?_
      obtain ⟨x8_37, ex8_37, hf⟩ := zletE hf
      refine x_iinc (c0 := 1) dX12_shifts_171 rfl (Nat.le_of_ble_eq_true rfl) (by decide) ex8_37 ?_
      refine x_goto (tgt := 139) dX12_shifts_174 (by decide) ?_
      exact Ex.sb (ih hf) ⟨rfl, rfl, rfl, rfl, rfl, rfl, rfl, rfl, trivial⟩
theorem cc_X12_shifts_L309 {l : Launch} {G : zG} {N : Nat} : ∀ {n : Nat} {x1 : Int32} {x2 : Int32} {x3 : Int32} {x6 : Int32} {M : zMem} {r : Int32} {M1 : zMem}, fX12_shifts_L309 N n x1 x2 x3 x6 M = some (r, M1) → Ex l G 2 mX12_shifts 309 [(0, .ref (G.2.2.1 69)), (1, .int x1), (2, .int x2), (3, .int x3), (6, .int x6)] [] M (zqI r M1) := by
  intro n
  induction n with
  | zero => intro x1 x2 x3 x6 M r M1 hf; cases hf
  | succ n ih =>
    intro x1 x2 x3 x6 M r M1 hf
    rw [fX12_shifts_L309] at hf
    refine x_iload dX12_shifts_309 rfl ?_
    refine x_iload_n dX12_shifts_311 rfl rfl ?_
    refine x_icmp_ge (tgt := 380) dX12_shifts_312 (by decide) (fun c312 => ?_) (fun c312 => ?_)
    · replace hf := zif_t c312 hf
      refine x_aload_n dX12_shifts_380 rfl rfl ?_
      refine x_getS (r := 107) dX12_shifts_381 fl_X12_131 rfl rfl ?_
      refine x_aload_n dX12_shifts_384 rfl rfl ?_
      refine x_getI dX12_shifts_385 fl_X12_327 rfl rfl ?_
      refine x_aload_n dX12_shifts_388 rfl rfl ?_
      refine x_iload_n dX12_shifts_389 rfl rfl ?_
      refine x_iload_n dX12_shifts_390 rfl rfl ?_
      obtain ⟨r21, M20, hq19, hf⟩ := zb2E hf
      refine x_invVi dX12_shifts_391 mk_X12_keeps ml_X12_343 (cc_X12_keeps hq19) rfl rfl rfl (Nat.le_of_ble_eq_true rfl) rfl (Nat.le_of_ble_eq_true rfl) rfl ?_
      obtain ⟨M22, hM22, hf⟩ := zbind hf
      refine x_ist dX12_shifts_394 rfl hM22 ?_
      refine x_aload_n dX12_shifts_395 rfl rfl ?_
      refine x_getS (r := 101) dX12_shifts_396 fl_X12_113 rfl rfl ?_
      refine x_aload_n dX12_shifts_399 rfl rfl ?_
      refine x_getI dX12_shifts_400 fl_X12_327 rfl rfl ?_
      refine x_iconst (v := 1) dX12_shifts_403 (by decide) ?_
      obtain ⟨M23, hM23, hf⟩ := zbind hf
      refine x_zst dX12_shifts_404 rfl hM23 ?_
      refine x_iload_n dX12_shifts_405 rfl rfl ?_
      exact x_iret rfl dX12_shifts_406 (zretI hf)
    · replace hf := zif_f c312 hf
      refine x_aload_n dX12_shifts_315 rfl rfl ?_
      refine x_getS (r := 110) dX12_shifts_316 fl_X12_140 rfl rfl ?_
      refine x_iload dX12_shifts_319 rfl ?_
      refine x_aload_n dX12_shifts_321 rfl rfl ?_
      refine x_getS (r := 111) dX12_shifts_322 fl_X12_143 rfl rfl ?_
      refine x_iload dX12_shifts_325 rfl ?_
      obtain ⟨v24, hv24, hf⟩ := zbind hf
      refine x_ild dX12_shifts_327 rfl hv24 ?_
      obtain ⟨M25, hM25, hf⟩ := zbind hf
      refine x_ist dX12_shifts_328 rfl hM25 ?_
      refine x_aload_n dX12_shifts_329 rfl rfl ?_
      refine x_getS (r := 106) dX12_shifts_330 fl_X12_128 rfl rfl ?_
      refine x_bipush (v := 8) dX12_shifts_333 (by decide) ?_
      refine x_aload_n dX12_shifts_335 rfl rfl ?_
      refine x_getI dX12_shifts_336 fl_X12_327 rfl rfl ?_
      refine x_imul dX12_shifts_339 ?_
      refine x_aload_n dX12_shifts_340 rfl rfl ?_
      refine x_getS (r := 103) dX12_shifts_341 fl_X12_119 rfl rfl ?_
      refine x_iconst (v := 5) dX12_shifts_344 (by decide) ?_
      refine x_aload_n dX12_shifts_345 rfl rfl ?_
      refine x_getI dX12_shifts_346 fl_X12_327 rfl rfl ?_
      refine x_imul dX12_shifts_349 ?_
      refine x_iload dX12_shifts_350 rfl ?_
      refine x_iadd dX12_shifts_352 ?_
      obtain ⟨v26, hv26, hf⟩ := zbind hf
      refine x_ild dX12_shifts_353 rfl hv26 ?_
      refine x_iadd dX12_shifts_354 ?_
      refine x_aload_n dX12_shifts_355 rfl rfl ?_
      refine x_getS (r := 109) dX12_shifts_356 fl_X12_137 rfl rfl ?_
      refine x_bipush (v := 20) dX12_shifts_359 (by decide) ?_
      refine x_iload dX12_shifts_361 rfl ?_
      refine x_imul dX12_shifts_363 ?_
      refine x_aload_n dX12_shifts_364 rfl rfl ?_
      refine x_getS (r := 111) dX12_shifts_365 fl_X12_143 rfl rfl ?_
      refine x_iload dX12_shifts_368 rfl ?_
      obtain ⟨v27, hv27, hf⟩ := zbind hf
      refine x_ild dX12_shifts_370 rfl hv27 ?_
      refine x_iadd dX12_shifts_371 ?_
      obtain ⟨v28, hv28, hf⟩ := zbind hf
      refine x_ild dX12_shifts_372 rfl hv28 ?_
      obtain ⟨M29, hM29, hf⟩ := zbind hf
      refine x_ist dX12_shifts_373 rfl hM29 ?_
      obtain ⟨x6_30, ex6_30, hf⟩ := zletE hf
      refine x_iinc (c0 := 1) dX12_shifts_374 rfl (Nat.le_of_ble_eq_true rfl) (by decide) ex6_30 ?_
      refine x_goto (tgt := 309) dX12_shifts_377 (by decide) ?_
      exact Ex.sb (ih hf) ⟨rfl, rfl, rfl, rfl, rfl, trivial⟩
theorem cc_X12_shifts_L117 {l : Launch} {G : zG} {N : Nat} : ∀ {n : Nat} {x1 : Int32} {x2 : Int32} {x3 : Int32} {x4 : Int32} {x5 : Int32} {M : zMem} {r : Int32} {M1 : zMem}, fX12_shifts_L117 N n x1 x2 x3 x4 x5 M = some (r, M1) → Ex l G 2 mX12_shifts 117 [(0, .ref (G.2.2.1 69)), (1, .int x1), (2, .int x2), (3, .int x3), (4, .int x4), (5, .int x5)] [] M (zqI r M1) := by
  intro n
  induction n with
  | zero => intro x1 x2 x3 x4 x5 M r M1 hf; cases hf
  | succ n ih =>
    intro x1 x2 x3 x4 x5 M r M1 hf
    rw [fX12_shifts_L117] at hf
    refine x_iload dX12_shifts_117 rfl ?_
    refine x_if_eq (tgt := 306) dX12_shifts_119 (by decide) (fun c119 => ?_) (fun c119 => ?_)
    · replace hf := zif_t c119 hf
      refine x_iconst (v := 0) dX12_shifts_306 (by decide) ?_
      refine x_istore dX12_shifts_307 (Nat.le_of_ble_eq_true rfl) rfl ?_
      exact Ex.sb (cc_X12_shifts_L309  hf) ⟨rfl, rfl, rfl, rfl, rfl, trivial⟩
    · replace hf := zif_f c119 hf
      refine x_aload_n dX12_shifts_122 rfl rfl ?_
      refine x_iload_n dX12_shifts_123 rfl rfl ?_
      refine x_iload_n dX12_shifts_124 rfl rfl ?_
      obtain ⟨r14, M13, hq12, hf⟩ := zb2E hf
      refine x_invVi dX12_shifts_125 mk_X12_keeps ml_X12_343 (cc_X12_keeps hq12) rfl rfl rfl (Nat.le_of_ble_eq_true rfl) rfl (Nat.le_of_ble_eq_true rfl) rfl ?_
      obtain ⟨r17, M16, hq15, hf⟩ := zb2E hf
      refine x_invSi dX12_shifts_128 mk_X12_bits ml_X12_347 (cc_X12_bits hq15) (Nat.le_of_ble_eq_true rfl) rfl (Nat.le_of_ble_eq_true rfl) rfl ?_
      refine x_istore dX12_shifts_131 (Nat.le_of_ble_eq_true rfl) rfl ?_
      refine x_iconst (v := 0) dX12_shifts_133 (by decide) ?_
      refine x_istore dX12_shifts_134 (Nat.le_of_ble_eq_true rfl) rfl ?_
      refine x_iconst (v := 0) dX12_shifts_136 (by decide) ?_
      refine x_istore dX12_shifts_137 (Nat.le_of_ble_eq_true rfl) rfl ?_
      exact Ex.sb (cc_X12_shifts_L139 ih hf) ⟨rfl, rfl, rfl, rfl, rfl, rfl, rfl, rfl, trivial⟩
theorem cc_X12_shifts_L40 {l : Launch} {G : zG} {N : Nat} : ∀ {n : Nat} {x1 : Int32} {x2 : Int32} {x3 : Int32} {M : zMem} {r : Int32} {M1 : zMem}, fX12_shifts_L40 N n x1 x2 x3 M = some (r, M1) → Ex l G 2 mX12_shifts 40 [(0, .ref (G.2.2.1 69)), (1, .int x1), (2, .int x2), (3, .int x3)] [] M (zqI r M1) := by
  intro n
  induction n with
  | zero => intro x1 x2 x3 M r M1 hf; cases hf
  | succ n ih =>
    intro x1 x2 x3 M r M1 hf
    rw [fX12_shifts_L40] at hf
    refine x_iload_n dX12_shifts_40 rfl rfl ?_
    refine x_iload_n dX12_shifts_41 rfl rfl ?_
    refine x_icmp_ge (tgt := 109) dX12_shifts_42 (by decide) (fun c42 => ?_) (fun c42 => ?_)
    · replace hf := zif_t c42 hf
      refine x_iconst (v := -1) dX12_shifts_109 (by decide) ?_
      refine x_istore_n dX12_shifts_110 rfl (Nat.le_of_ble_eq_true rfl) rfl ?_
      refine x_iconst (v := 0) dX12_shifts_111 (by decide) ?_
      refine x_istore dX12_shifts_112 (Nat.le_of_ble_eq_true rfl) rfl ?_
      refine x_iconst (v := 1) dX12_shifts_114 (by decide) ?_
      refine x_istore dX12_shifts_115 (Nat.le_of_ble_eq_true rfl) rfl ?_
      exact Ex.sb (cc_X12_shifts_L117  hf) ⟨rfl, rfl, rfl, rfl, rfl, rfl, trivial⟩
    · replace hf := zif_f c42 hf
      refine x_aload_n dX12_shifts_45 rfl rfl ?_
      refine x_iload_n dX12_shifts_46 rfl rfl ?_
      refine x_iconst (v := 5) dX12_shifts_47 (by decide) ?_
      refine x_aload_n dX12_shifts_48 rfl rfl ?_
      refine x_getI dX12_shifts_49 fl_X12_327 rfl rfl ?_
      refine x_imul dX12_shifts_52 ?_
      refine x_iload_n dX12_shifts_53 rfl rfl ?_
      refine x_iadd dX12_shifts_54 ?_
      obtain ⟨M5, hq4, hf⟩ := zbind hf
      refine x_invVv dX12_shifts_55 mk_X12_lists ml_X12_340 (cc_X12_lists hq4) rfl rfl rfl (Nat.le_of_ble_eq_true rfl) rfl (Nat.le_of_ble_eq_true rfl) rfl ?_
      refine x_aload_n dX12_shifts_58 rfl rfl ?_
      refine x_getS (r := 110) dX12_shifts_59 fl_X12_140 rfl rfl ?_
      refine x_iload_n dX12_shifts_62 rfl rfl ?_
      refine x_iconst (v := 0) dX12_shifts_63 (by decide) ?_
      obtain ⟨M6, hM6, hf⟩ := zbind hf
      refine x_ist dX12_shifts_64 rfl hM6 ?_
      refine x_aload_n dX12_shifts_65 rfl rfl ?_
      refine x_getI dX12_shifts_66 fl_X12_321 rfl rfl ?_
      refine x_if_le (tgt := 103) dX12_shifts_69 (by decide) (fun c69 => ?_) (fun c69 => ?_)
      · replace hf := zif_t c69 hf
        exact Ex.sb (cc_X12_shifts_L103 ih hf) ⟨rfl, rfl, rfl, rfl, trivial⟩
      · replace hf := zif_f c69 hf
        refine x_aload_n dX12_shifts_72 rfl rfl ?_
        refine x_aload_n dX12_shifts_73 rfl rfl ?_
        refine x_getS (r := 103) dX12_shifts_74 fl_X12_119 rfl rfl ?_
        refine x_iconst (v := 5) dX12_shifts_77 (by decide) ?_
        refine x_aload_n dX12_shifts_78 rfl rfl ?_
        refine x_getI dX12_shifts_79 fl_X12_327 rfl rfl ?_
        refine x_imul dX12_shifts_82 ?_
        refine x_iload_n dX12_shifts_83 rfl rfl ?_
        refine x_iadd dX12_shifts_84 ?_
        obtain ⟨v7, hv7, hf⟩ := zbind hf
        refine x_ild dX12_shifts_85 rfl hv7 ?_
        refine x_iconst (v := 0) dX12_shifts_86 (by decide) ?_
        refine x_aload_n dX12_shifts_87 rfl rfl ?_
        refine x_getI dX12_shifts_88 fl_X12_327 rfl rfl ?_
        obtain ⟨r10, M9, hq8, hf⟩ := zb2E hf
        refine x_invVi dX12_shifts_91 mk_X12_hasStep ml_X12_330 (cc_X12_hasStep hq8) rfl rfl rfl (Nat.le_of_ble_eq_true rfl) rfl (Nat.le_of_ble_eq_true rfl) rfl ?_
        refine x_if_eq (tgt := 103) dX12_shifts_94 (by decide) (fun c94 => ?_) (fun c94 => ?_)
        · replace hf := zif_t c94 hf
          exact Ex.sb (cc_X12_shifts_L103 ih hf) ⟨rfl, rfl, rfl, rfl, trivial⟩
        · replace hf := zif_f c94 hf
          refine x_iload_n dX12_shifts_97 rfl rfl ?_
          refine x_iconst (v := 1) dX12_shifts_98 (by decide) ?_
          refine x_iload_n dX12_shifts_99 rfl rfl ?_
          refine x_ishl dX12_shifts_100 ?_
          refine x_ior dX12_shifts_101 ?_
          obtain ⟨x2_11, ex2_11, hf⟩ := zletE hf
          refine x_istore_n dX12_shifts_102 rfl (Nat.le_of_ble_eq_true rfl) ex2_11 ?_
          exact Ex.sb (cc_X12_shifts_L103 ih hf) ⟨rfl, rfl, rfl, rfl, trivial⟩
theorem cc_X12_shifts {l : Launch} {G : zG} {N : Nat}   {M : zMem} {r : Int32} {M1 : zMem} (hf : fX12_shifts N M = some (r, M1)) : Ca l G 2 mX12_shifts [.ref (G.2.2.1 69)] M (some (.int r)) M1 := by
  refine Ca.of (by decide +kernel) (Nat.le_of_ble_eq_true rfl) rfl ?_
  rw [fX12_shifts] at hf
  refine x_aload_n dX12_shifts_0 rfl rfl ?_
  refine x_getS (r := 101) dX12_shifts_1 fl_X12_113 rfl rfl ?_
  refine x_aload_n dX12_shifts_4 rfl rfl ?_
  refine x_getI dX12_shifts_5 fl_X12_327 rfl rfl ?_
  obtain ⟨v1, hv1, hf⟩ := zbind hf
  refine x_zld dX12_shifts_8 rfl hv1 ?_
  refine x_if_ne (tgt := 24) dX12_shifts_9 (by decide) (fun c9 => ?_) (fun c9 => ?_)
  · replace hf := zif_f c9 hf
    refine x_iconst (v := -1) dX12_shifts_24 (by decide) ?_
    exact x_iret rfl dX12_shifts_25 (zretI hf)
  · replace hf := zif_t c9 hf
    refine x_aload_n dX12_shifts_12 rfl rfl ?_
    refine x_getS (r := 100) dX12_shifts_13 fl_X12_110 rfl rfl ?_
    refine x_aload_n dX12_shifts_16 rfl rfl ?_
    refine x_getI dX12_shifts_17 fl_X12_327 rfl rfl ?_
    obtain ⟨v2, hv2, hf⟩ := zbind hf
    refine x_zld dX12_shifts_20 rfl hv2 ?_
    refine x_if_eq (tgt := 26) dX12_shifts_21 (by decide) (fun c21 => ?_) (fun c21 => ?_)
    · replace hf := zif_t c21 hf
      refine x_aload_n dX12_shifts_26 rfl rfl ?_
      refine x_getS (r := 102) dX12_shifts_27 fl_X12_116 rfl rfl ?_
      refine x_aload_n dX12_shifts_30 rfl rfl ?_
      refine x_getI dX12_shifts_31 fl_X12_327 rfl rfl ?_
      obtain ⟨v3, hv3, hf⟩ := zbind hf
      refine x_ild dX12_shifts_34 rfl hv3 ?_
      refine x_istore_n dX12_shifts_35 rfl (Nat.le_of_ble_eq_true rfl) rfl ?_
      refine x_iconst (v := 0) dX12_shifts_36 (by decide) ?_
      refine x_istore_n dX12_shifts_37 rfl (Nat.le_of_ble_eq_true rfl) rfl ?_
      refine x_iconst (v := 0) dX12_shifts_38 (by decide) ?_
      refine x_istore_n dX12_shifts_39 rfl (Nat.le_of_ble_eq_true rfl) rfl ?_
      exact Ex.sb (cc_X12_shifts_L40  hf) ⟨rfl, rfl, rfl, rfl, trivial⟩
    · replace hf := zif_f c21 hf
      refine x_iconst (v := -1) dX12_shifts_24 (by decide) ?_
      exact x_iret rfl dX12_shifts_25 (zretI hf)
theorem cc_X12_there {l : Launch} {G : zG} {x1 : Int32} {x2 : Int32}  {M : zMem} {r : Int32} {M1 : zMem} (hf : fX12_there x1 x2 M = some (r, M1)) : Ca l G 1 mX12_there [.ref (G.2.2.1 69), .int x1, .int x2] M (some (.int r)) M1 := by
  refine Ca.of (by decide +kernel) (Nat.le_of_ble_eq_true rfl) rfl ?_
  rw [fX12_there] at hf
  refine x_aload_n dX12_there_0 rfl rfl ?_
  refine x_iload_n dX12_there_1 rfl rfl ?_
  obtain ⟨r3, M2, hq1, hf⟩ := zb2E hf
  refine x_invVi dX12_there_2 mk_X12_isVolunteer ml_X12_324 (cc_X12_isVolunteer hq1) rfl rfl rfl (Nat.le_of_ble_eq_true rfl) rfl (Nat.le_of_ble_eq_true rfl) rfl ?_
  refine x_if_eq (tgt := 29) dX12_there_5 (by decide) (fun c5 => ?_) (fun c5 => ?_)
  · replace hf := zif_t c5 hf
    refine x_iconst (v := -1) dX12_there_29 (by decide) ?_
    exact x_iret rfl dX12_there_30 (zretI hf)
  · replace hf := zif_f c5 hf
    refine x_iload_n dX12_there_8 rfl rfl ?_
    obtain ⟨r6, M5, hq4, hf⟩ := zb2E hf
    refine x_invSi dX12_there_9 mk_X12_isNight ml_X12_334 (cc_X12_isNight hq4) (Nat.le_of_ble_eq_true rfl) rfl (Nat.le_of_ble_eq_true rfl) rfl ?_
    refine x_if_eq (tgt := 29) dX12_there_12 (by decide) (fun c12 => ?_) (fun c12 => ?_)
    · replace hf := zif_t c12 hf
      refine x_iconst (v := -1) dX12_there_29 (by decide) ?_
      exact x_iret rfl dX12_there_30 (zretI hf)
    · replace hf := zif_f c12 hf
      refine x_aload_n dX12_there_15 rfl rfl ?_
      refine x_getS (r := 106) dX12_there_16 fl_X12_128 rfl rfl ?_
      refine x_bipush (v := 8) dX12_there_19 (by decide) ?_
      refine x_iload_n dX12_there_21 rfl rfl ?_
      refine x_imul dX12_there_22 ?_
      refine x_iload_n dX12_there_23 rfl rfl ?_
      refine x_iadd dX12_there_24 ?_
      obtain ⟨v7, hv7, hf⟩ := zbind hf
      refine x_ild dX12_there_25 rfl hv7 ?_
      refine x_goto (tgt := 30) dX12_there_26 (by decide) ?_
      exact x_iret rfl dX12_there_30 (zretI hf)
theorem cc_X12_lacks {l : Launch} {G : zG} {x1 : Int32}  {M : zMem} {r : Int32} {M1 : zMem} (hf : fX12_lacks x1 M = some (r, M1)) : Ca l G 1 mX12_lacks [.ref (G.2.2.1 69), .int x1] M (some (.int r)) M1 := by
  refine Ca.of (by decide +kernel) (Nat.le_of_ble_eq_true rfl) rfl ?_
  rw [fX12_lacks] at hf
  refine x_iload_n dX12_lacks_0 rfl rfl ?_
  obtain ⟨r3, M2, hq1, hf⟩ := zb2E hf
  refine x_invSi dX12_lacks_1 mk_X12_isNight ml_X12_334 (cc_X12_isNight hq1) (Nat.le_of_ble_eq_true rfl) rfl (Nat.le_of_ble_eq_true rfl) rfl ?_
  refine x_if_eq (tgt := 30) dX12_lacks_4 (by decide) (fun c4 => ?_) (fun c4 => ?_)
  · replace hf := zif_t c4 hf
    refine x_iconst (v := -1) dX12_lacks_30 (by decide) ?_
    exact x_iret rfl dX12_lacks_31 (zretI hf)
  · replace hf := zif_f c4 hf
    refine x_aload_n dX12_lacks_7 rfl rfl ?_
    refine x_getS (r := 101) dX12_lacks_8 fl_X12_113 rfl rfl ?_
    refine x_iload_n dX12_lacks_11 rfl rfl ?_
    obtain ⟨v4, hv4, hf⟩ := zbind hf
    refine x_zld dX12_lacks_12 rfl hv4 ?_
    refine x_if_eq (tgt := 30) dX12_lacks_13 (by decide) (fun c13 => ?_) (fun c13 => ?_)
    · replace hf := zif_t c13 hf
      refine x_iconst (v := -1) dX12_lacks_30 (by decide) ?_
      exact x_iret rfl dX12_lacks_31 (zretI hf)
    · replace hf := zif_f c13 hf
      refine x_bipush (v := 63) dX12_lacks_16 (by decide) ?_
      refine x_aload_n dX12_lacks_18 rfl rfl ?_
      refine x_getS (r := 107) dX12_lacks_19 fl_X12_131 rfl rfl ?_
      refine x_iload_n dX12_lacks_22 rfl rfl ?_
      obtain ⟨v5, hv5, hf⟩ := zbind hf
      refine x_ild dX12_lacks_23 rfl hv5 ?_
      refine x_iconst (v := -1) dX12_lacks_24 (by decide) ?_
      refine x_ixor dX12_lacks_25 ?_
      refine x_iand dX12_lacks_26 ?_
      refine x_goto (tgt := 31) dX12_lacks_27 (by decide) ?_
      exact x_iret rfl dX12_lacks_31 (zretI hf)
theorem cc_X12_call_L112 {l : Launch} {G : zG} {N : Nat} {k86 : Int32 → Int32 → Int32 → Int32 → Int32 → Int32 → Int32 → zMem → Option (Int32 × zMem)} (hk86 : ∀ {x1 : Int32} {x2 : Int32} {x3 : Int32} {x4 : Int32} {x5 : Int32} {x6 : Int32} {x7 : Int32} {M : zMem} {r : Int32} {M1 : zMem}, k86 x1 x2 x3 x4 x5 x6 x7 M = some (r, M1) → Ex l G 0 mX12_call 86 [(0, .ref (G.2.2.1 69)), (1, .int x1), (2, .int x2), (3, .int x3), (4, .int x4), (5, .int x5), (6, .int x6), (7, .int x7)] [] M (zqI r M1)) {x1 : Int32} {x2 : Int32} {x3 : Int32} {x4 : Int32} {x5 : Int32} {x6 : Int32} {x7 : Int32} {M : zMem} {r : Int32} {M1 : zMem} (hf : fX12_call_L112 N k86 x1 x2 x3 x4 x5 x6 x7 M = some (r, M1)) : Ex l G 0 mX12_call 112 [(0, .ref (G.2.2.1 69)), (1, .int x1), (2, .int x2), (3, .int x3), (4, .int x4), (5, .int x5), (6, .int x6), (7, .int x7)] [] M (zqI r M1) := by
  rw [fX12_call_L112] at hf
  obtain ⟨x7_14, ex7_14, hf⟩ := zletE hf
  refine x_iinc (c0 := 1) dX12_call_112 rfl (Nat.le_of_ble_eq_true rfl) (by decide) ex7_14 ?_
  refine x_goto (tgt := 86) dX12_call_115 (by decide) ?_
  exact Ex.sb (hk86 hf) ⟨rfl, rfl, rfl, rfl, rfl, rfl, rfl, rfl, trivial⟩
theorem cc_X12_call_L86 {l : Launch} {G : zG} {N : Nat} : ∀ {n : Nat} {x1 : Int32} {x2 : Int32} {x3 : Int32} {x4 : Int32} {x5 : Int32} {x6 : Int32} {x7 : Int32} {M : zMem} {r : Int32} {M1 : zMem}, fX12_call_L86 N n x1 x2 x3 x4 x5 x6 x7 M = some (r, M1) → Ex l G 0 mX12_call 86 [(0, .ref (G.2.2.1 69)), (1, .int x1), (2, .int x2), (3, .int x3), (4, .int x4), (5, .int x5), (6, .int x6), (7, .int x7)] [] M (zqI r M1) := by
  intro n
  induction n with
  | zero => intro x1 x2 x3 x4 x5 x6 x7 M r M1 hf; cases hf
  | succ n ih =>
    intro x1 x2 x3 x4 x5 x6 x7 M r M1 hf
    rw [fX12_call_L86] at hf
    refine x_iload dX12_call_86 rfl ?_
    refine x_aload_n dX12_call_88 rfl rfl ?_
    refine x_getI dX12_call_89 fl_X12_350 rfl rfl ?_
    refine x_icmp_ge (tgt := 118) dX12_call_92 (by decide) (fun c92 => ?_) (fun c92 => ?_)
    · replace hf := zif_t c92 hf
      refine x_iload dX12_call_118 rfl ?_
      refine x_bipush (v := 40) dX12_call_120 (by decide) ?_
      refine x_icmp_ne (tgt := 127) dX12_call_122 (by decide) (fun c122 => ?_) (fun c122 => ?_)
      · replace hf := zif_f c122 hf
        refine x_aload_n dX12_call_127 rfl rfl ?_
        refine x_getS (r := 112) dX12_call_128 fl_X12_146 rfl rfl ?_
        refine x_aload_n dX12_call_131 rfl rfl ?_
        refine x_getI dX12_call_132 fl_X12_350 rfl rfl ?_
        refine x_aload_n dX12_call_135 rfl rfl ?_
        refine x_getI dX12_call_136 fl_X12_327 rfl rfl ?_
        obtain ⟨M2, hM2, hf⟩ := zbind hf
        refine x_ist dX12_call_139 rfl hM2 ?_
        refine x_aload_n dX12_call_140 rfl rfl ?_
        refine x_getS (r := 113) dX12_call_141 fl_X12_149 rfl rfl ?_
        refine x_aload_n dX12_call_144 rfl rfl ?_
        refine x_getI dX12_call_145 fl_X12_350 rfl rfl ?_
        refine x_iload_n dX12_call_148 rfl rfl ?_
        obtain ⟨M3, hM3, hf⟩ := zbind hf
        refine x_ist dX12_call_149 rfl hM3 ?_
        refine x_aload_n dX12_call_150 rfl rfl ?_
        refine x_getS (r := 114) dX12_call_151 fl_X12_152 rfl rfl ?_
        refine x_aload_n dX12_call_154 rfl rfl ?_
        refine x_getI dX12_call_155 fl_X12_350 rfl rfl ?_
        refine x_iload_n dX12_call_158 rfl rfl ?_
        obtain ⟨M4, hM4, hf⟩ := zbind hf
        refine x_ist dX12_call_159 rfl hM4 ?_
        refine x_aload_n dX12_call_160 rfl rfl ?_
        refine x_getS (r := 115) dX12_call_161 fl_X12_155 rfl rfl ?_
        refine x_aload_n dX12_call_164 rfl rfl ?_
        refine x_getI dX12_call_165 fl_X12_350 rfl rfl ?_
        refine x_iload_n dX12_call_168 rfl rfl ?_
        obtain ⟨M5, hM5, hf⟩ := zbind hf
        refine x_ist dX12_call_169 rfl hM5 ?_
        refine x_aload_n dX12_call_170 rfl rfl ?_
        refine x_getS (r := 116) dX12_call_171 fl_X12_158 rfl rfl ?_
        refine x_aload_n dX12_call_174 rfl rfl ?_
        refine x_getI dX12_call_175 fl_X12_350 rfl rfl ?_
        refine x_iload dX12_call_178 rfl ?_
        obtain ⟨M6, hM6, hf⟩ := zbind hf
        refine x_ist dX12_call_180 rfl hM6 ?_
        refine x_aload_n dX12_call_181 rfl rfl ?_
        refine x_getS (r := 117) dX12_call_182 fl_X12_161 rfl rfl ?_
        refine x_aload_n dX12_call_185 rfl rfl ?_
        refine x_getI dX12_call_186 fl_X12_350 rfl rfl ?_
        refine x_iload dX12_call_189 rfl ?_
        obtain ⟨M7, hM7, hf⟩ := zbind hf
        refine x_ist dX12_call_191 rfl hM7 ?_
        refine x_aload_n dX12_call_192 rfl rfl ?_
        refine x_getS (r := 118) dX12_call_193 fl_X12_164 rfl rfl ?_
        refine x_aload_n dX12_call_196 rfl rfl ?_
        refine x_getI dX12_call_197 fl_X12_350 rfl rfl ?_
        refine x_iconst (v := 0) dX12_call_200 (by decide) ?_
        obtain ⟨M8, hM8, hf⟩ := zbind hf
        refine x_ist dX12_call_201 rfl hM8 ?_
        refine x_aload_n dX12_call_202 rfl rfl ?_
        refine x_getS (r := 119) dX12_call_203 fl_X12_167 rfl rfl ?_
        refine x_aload_n dX12_call_206 rfl rfl ?_
        refine x_getI dX12_call_207 fl_X12_350 rfl rfl ?_
        refine x_iconst (v := -1) dX12_call_210 (by decide) ?_
        obtain ⟨M9, hM9, hf⟩ := zbind hf
        refine x_ist dX12_call_211 rfl hM9 ?_
        refine x_aload_n dX12_call_212 rfl rfl ?_
        refine x_getS (r := 120) dX12_call_213 fl_X12_170 rfl rfl ?_
        refine x_aload_n dX12_call_216 rfl rfl ?_
        refine x_getI dX12_call_217 fl_X12_350 rfl rfl ?_
        refine x_iconst (v := -1) dX12_call_220 (by decide) ?_
        obtain ⟨M10, hM10, hf⟩ := zbind hf
        refine x_ist dX12_call_221 rfl hM10 ?_
        refine x_aload_n dX12_call_222 rfl rfl ?_
        refine x_dup dX12_call_223 rfl ?_
        refine x_getI dX12_call_224 fl_X12_350 rfl rfl ?_
        refine x_iconst (v := 1) dX12_call_227 (by decide) ?_
        refine x_iadd dX12_call_228 ?_
        obtain ⟨M11, eM11, hf⟩ := zletE hf
        refine x_putI dX12_call_229 fp_X12_350 rfl rfl rfl rfl eM11 ?_
        refine x_aload_n dX12_call_232 rfl rfl ?_
        refine x_getI dX12_call_233 fl_X12_350 rfl rfl ?_
        refine x_iconst (v := 1) dX12_call_236 (by decide) ?_
        refine x_isub dX12_call_237 ?_
        exact x_iret rfl dX12_call_238 (zretI hf)
      · replace hf := zif_t c122 hf
        refine x_iconst (v := -1) dX12_call_125 (by decide) ?_
        exact x_iret rfl dX12_call_126 (zretI hf)
    · replace hf := zif_f c92 hf
      refine x_aload_n dX12_call_95 rfl rfl ?_
      refine x_getS (r := 112) dX12_call_96 fl_X12_146 rfl rfl ?_
      refine x_iload dX12_call_99 rfl ?_
      obtain ⟨v12, hv12, hf⟩ := zbind hf
      refine x_ild dX12_call_101 rfl hv12 ?_
      refine x_aload_n dX12_call_102 rfl rfl ?_
      refine x_getI dX12_call_103 fl_X12_327 rfl rfl ?_
      refine x_icmp_ne (tgt := 112) dX12_call_106 (by decide) (fun c106 => ?_) (fun c106 => ?_)
      · replace hf := zif_f c106 hf
        exact Ex.sb (cc_X12_call_L112 ih hf) ⟨rfl, rfl, rfl, rfl, rfl, rfl, rfl, rfl, trivial⟩
      · replace hf := zif_t c106 hf
        obtain ⟨x6_13, ex6_13, hf⟩ := zletE hf
        refine x_iinc (c0 := 1) dX12_call_109 rfl (Nat.le_of_ble_eq_true rfl) (by decide) ex6_13 ?_
        exact Ex.sb (cc_X12_call_L112 ih hf) ⟨rfl, rfl, rfl, rfl, rfl, rfl, rfl, rfl, trivial⟩
theorem cc_X12_call {l : Launch} {G : zG} {N : Nat} {x1 : Int32} {x2 : Int32} {x3 : Int32} {x4 : Int32} {x5 : Int32}  {M : zMem} {r : Int32} {M1 : zMem} (hf : fX12_call N x1 x2 x3 x4 x5 M = some (r, M1)) : Ca l G 0 mX12_call [.ref (G.2.2.1 69), .int x1, .int x2, .int x3, .int x4, .int x5] M (some (.int r)) M1 := by
  refine Ca.of (by decide +kernel) (Nat.le_of_ble_eq_true rfl) rfl ?_
  rw [fX12_call] at hf
  refine x_aload_n dX12_call_0 rfl rfl ?_
  refine x_getI dX12_call_1 fl_X12_350 rfl rfl ?_
  refine x_sipush (v := 400) dX12_call_4 (by decide) ?_
  refine x_icmp_eq (tgt := 78) dX12_call_7 (by decide) (fun c7 => ?_) (fun c7 => ?_)
  · replace hf := zif_t c7 hf
    refine x_iconst (v := -1) dX12_call_78 (by decide) ?_
    exact x_iret rfl dX12_call_79 (zretI hf)
  · replace hf := zif_f c7 hf
    refine x_aload_n dX12_call_10 rfl rfl ?_
    refine x_getS (r := 100) dX12_call_11 fl_X12_110 rfl rfl ?_
    refine x_aload_n dX12_call_14 rfl rfl ?_
    refine x_getI dX12_call_15 fl_X12_327 rfl rfl ?_
    obtain ⟨v1, hv1, hf⟩ := zbind hf
    refine x_zld dX12_call_18 rfl hv1 ?_
    refine x_if_ne (tgt := 78) dX12_call_19 (by decide) (fun c19 => ?_) (fun c19 => ?_)
    · replace hf := zif_f c19 hf
      refine x_iconst (v := -1) dX12_call_78 (by decide) ?_
      exact x_iret rfl dX12_call_79 (zretI hf)
    · replace hf := zif_t c19 hf
      refine x_iload_n dX12_call_22 rfl rfl ?_
      refine x_if_lt (tgt := 78) dX12_call_23 (by decide) (fun c23 => ?_) (fun c23 => ?_)
      · replace hf := zif_t c23 hf
        refine x_iconst (v := -1) dX12_call_78 (by decide) ?_
        exact x_iret rfl dX12_call_79 (zretI hf)
      · replace hf := zif_f c23 hf
        refine x_iload_n dX12_call_26 rfl rfl ?_
        refine x_sipush (v := 359) dX12_call_27 (by decide) ?_
        refine x_icmp_gt (tgt := 78) dX12_call_30 (by decide) (fun c30 => ?_) (fun c30 => ?_)
        · replace hf := zif_t c30 hf
          refine x_iconst (v := -1) dX12_call_78 (by decide) ?_
          exact x_iret rfl dX12_call_79 (zretI hf)
        · replace hf := zif_f c30 hf
          refine x_iload_n dX12_call_33 rfl rfl ?_
          refine x_if_lt (tgt := 78) dX12_call_34 (by decide) (fun c34 => ?_) (fun c34 => ?_)
          · replace hf := zif_t c34 hf
            refine x_iconst (v := -1) dX12_call_78 (by decide) ?_
            exact x_iret rfl dX12_call_79 (zretI hf)
          · replace hf := zif_f c34 hf
            refine x_iload_n dX12_call_37 rfl rfl ?_
            refine x_bipush (v := 19) dX12_call_38 (by decide) ?_
            refine x_icmp_gt (tgt := 78) dX12_call_40 (by decide) (fun c40 => ?_) (fun c40 => ?_)
            · replace hf := zif_t c40 hf
              refine x_iconst (v := -1) dX12_call_78 (by decide) ?_
              exact x_iret rfl dX12_call_79 (zretI hf)
            · replace hf := zif_f c40 hf
              refine x_iload_n dX12_call_43 rfl rfl ?_
              refine x_if_lt (tgt := 78) dX12_call_44 (by decide) (fun c44 => ?_) (fun c44 => ?_)
              · replace hf := zif_t c44 hf
                refine x_iconst (v := -1) dX12_call_78 (by decide) ?_
                exact x_iret rfl dX12_call_79 (zretI hf)
              · replace hf := zif_f c44 hf
                refine x_iload_n dX12_call_47 rfl rfl ?_
                refine x_bipush (v := 9) dX12_call_48 (by decide) ?_
                refine x_icmp_gt (tgt := 78) dX12_call_50 (by decide) (fun c50 => ?_) (fun c50 => ?_)
                · replace hf := zif_t c50 hf
                  refine x_iconst (v := -1) dX12_call_78 (by decide) ?_
                  exact x_iret rfl dX12_call_79 (zretI hf)
                · replace hf := zif_f c50 hf
                  refine x_iload dX12_call_53 rfl ?_
                  refine x_if_lt (tgt := 78) dX12_call_55 (by decide) (fun c55 => ?_) (fun c55 => ?_)
                  · replace hf := zif_t c55 hf
                    refine x_iconst (v := -1) dX12_call_78 (by decide) ?_
                    exact x_iret rfl dX12_call_79 (zretI hf)
                  · replace hf := zif_f c55 hf
                    refine x_iload dX12_call_58 rfl ?_
                    refine x_bipush (v := 7) dX12_call_60 (by decide) ?_
                    refine x_icmp_gt (tgt := 78) dX12_call_62 (by decide) (fun c62 => ?_) (fun c62 => ?_)
                    · replace hf := zif_t c62 hf
                      refine x_iconst (v := -1) dX12_call_78 (by decide) ?_
                      exact x_iret rfl dX12_call_79 (zretI hf)
                    · replace hf := zif_f c62 hf
                      refine x_iload dX12_call_65 rfl ?_
                      refine x_iconst (v := 1) dX12_call_67 (by decide) ?_
                      refine x_icmp_lt (tgt := 78) dX12_call_68 (by decide) (fun c68 => ?_) (fun c68 => ?_)
                      · replace hf := zif_t c68 hf
                        refine x_iconst (v := -1) dX12_call_78 (by decide) ?_
                        exact x_iret rfl dX12_call_79 (zretI hf)
                      · replace hf := zif_f c68 hf
                        refine x_iload dX12_call_71 rfl ?_
                        refine x_bipush (v := 90) dX12_call_73 (by decide) ?_
                        refine x_icmp_le (tgt := 80) dX12_call_75 (by decide) (fun c75 => ?_) (fun c75 => ?_)
                        · replace hf := zif_t c75 hf
                          refine x_iconst (v := 0) dX12_call_80 (by decide) ?_
                          refine x_istore dX12_call_81 (Nat.le_of_ble_eq_true rfl) rfl ?_
                          refine x_iconst (v := 0) dX12_call_83 (by decide) ?_
                          refine x_istore dX12_call_84 (Nat.le_of_ble_eq_true rfl) rfl ?_
                          exact Ex.sb (cc_X12_call_L86  hf) ⟨rfl, rfl, rfl, rfl, rfl, rfl, rfl, rfl, trivial⟩
                        · replace hf := zif_f c75 hf
                          refine x_iconst (v := -1) dX12_call_78 (by decide) ?_
                          exact x_iret rfl dX12_call_79 (zretI hf)
theorem cc_X12_value_L138 {l : Launch} {G : zG} {N : Nat} {k5 : Int32 → Int32 → Int32 → zMem → Option (Int32 × zMem)} (hk5 : ∀ {x2 : Int32} {x3 : Int32} {x4 : Int32} {M : zMem} {r : Int32} {M1 : zMem}, k5 x2 x3 x4 M = some (r, M1) → Ex l G 0 mX12_value 5 [(0, .ref (G.2.2.1 69)), (2, .int x2), (3, .int x3), (4, .int x4)] [] M (zqI r M1)) {x2 : Int32} {x3 : Int32} {x4 : Int32} {M : zMem} {r : Int32} {M1 : zMem} (hf : fX12_value_L138 N k5 x2 x3 x4 M = some (r, M1)) : Ex l G 0 mX12_value 138 [(0, .ref (G.2.2.1 69)), (2, .int x2), (3, .int x3), (4, .int x4)] [] M (zqI r M1) := by
  rw [fX12_value_L138] at hf
  obtain ⟨x4_15, ex4_15, hf⟩ := zletE hf
  refine x_iinc (c0 := 1) dX12_value_138 rfl (Nat.le_of_ble_eq_true rfl) (by decide) ex4_15 ?_
  refine x_goto (tgt := 5) dX12_value_141 (by decide) ?_
  exact Ex.sb (hk5 hf) ⟨rfl, rfl, rfl, rfl, trivial⟩
theorem cc_X12_value_L59 {l : Launch} {G : zG} {N : Nat} {k5 : Int32 → Int32 → Int32 → zMem → Option (Int32 × zMem)} (hk5 : ∀ {x2 : Int32} {x3 : Int32} {x4 : Int32} {M : zMem} {r : Int32} {M1 : zMem}, k5 x2 x3 x4 M = some (r, M1) → Ex l G 0 mX12_value 5 [(0, .ref (G.2.2.1 69)), (2, .int x2), (3, .int x3), (4, .int x4)] [] M (zqI r M1)) {x2 : Int32} {x3 : Int32} {x4 : Int32} {s1 : Int32} {s2 : Int32} {M : zMem} {r : Int32} {M1 : zMem} (hf : fX12_value_L59 N k5 x2 x3 x4 s1 s2 M = some (r, M1)) : Ex l G 0 mX12_value 59 [(0, .ref (G.2.2.1 69)), (2, .int x2), (3, .int x3), (4, .int x4)] [.int s2, .int s1, .ref (G.2.2.1 123)] M (zqI r M1) := by
  rw [fX12_value_L59] at hf
  obtain ⟨M13, hM13, hf⟩ := zbind hf
  refine x_ist dX12_value_59 rfl hM13 ?_
  obtain ⟨x3_14, ex3_14, hf⟩ := zletE hf
  refine x_iinc (c0 := 1) dX12_value_60 rfl (Nat.le_of_ble_eq_true rfl) (by decide) ex3_14 ?_
  refine x_goto (tgt := 138) dX12_value_63 (by decide) ?_
  exact Ex.sb (cc_X12_value_L138 hk5 hf) ⟨rfl, rfl, rfl, rfl, trivial⟩
theorem cc_X12_value_L137 {l : Launch} {G : zG} {N : Nat} {k5 : Int32 → Int32 → Int32 → zMem → Option (Int32 × zMem)} (hk5 : ∀ {x2 : Int32} {x3 : Int32} {x4 : Int32} {M : zMem} {r : Int32} {M1 : zMem}, k5 x2 x3 x4 M = some (r, M1) → Ex l G 0 mX12_value 5 [(0, .ref (G.2.2.1 69)), (2, .int x2), (3, .int x3), (4, .int x4)] [] M (zqI r M1)) {x2 : Int32} {x3 : Int32} {x4 : Int32} {s1 : Int32} {s2 : Int32} {M : zMem} {r : Int32} {M1 : zMem} (hf : fX12_value_L137 N k5 x2 x3 x4 s1 s2 M = some (r, M1)) : Ex l G 0 mX12_value 137 [(0, .ref (G.2.2.1 69)), (2, .int x2), (3, .int x3), (4, .int x4)] [.int s2, .int s1, .ref (G.2.2.1 123)] M (zqI r M1) := by
  rw [fX12_value_L137] at hf
  obtain ⟨M12, hM12, hf⟩ := zbind hf
  refine x_ist dX12_value_137 rfl hM12 ?_
  exact Ex.sb (cc_X12_value_L138 hk5 hf) ⟨rfl, rfl, rfl, rfl, trivial⟩
theorem cc_X12_value_L5 {l : Launch} {G : zG} {N : Nat} : ∀ {n : Nat} {x2 : Int32} {x3 : Int32} {x4 : Int32} {M : zMem} {r : Int32} {M1 : zMem}, fX12_value_L5 N n x2 x3 x4 M = some (r, M1) → Ex l G 0 mX12_value 5 [(0, .ref (G.2.2.1 69)), (2, .int x2), (3, .int x3), (4, .int x4)] [] M (zqI r M1) := by
  intro n
  induction n with
  | zero => intro x2 x3 x4 M r M1 hf; cases hf
  | succ n ih =>
    intro x2 x3 x4 M r M1 hf
    rw [fX12_value_L5] at hf
    refine x_iload dX12_value_5 rfl ?_
    refine x_iload_n dX12_value_7 rfl rfl ?_
    refine x_icmp_ge (tgt := 144) dX12_value_8 (by decide) (fun c8 => ?_) (fun c8 => ?_)
    · replace hf := zif_t c8 hf
      refine x_aload_n dX12_value_144 rfl rfl ?_
      refine x_getS (r := 123) dX12_value_145 fl_X12_179 rfl rfl ?_
      refine x_iconst (v := 0) dX12_value_148 (by decide) ?_
      obtain ⟨v1, hv1, hf⟩ := zbind hf
      refine x_ild dX12_value_149 rfl hv1 ?_
      exact x_iret rfl dX12_value_150 (zretI hf)
    · replace hf := zif_f c8 hf
      refine x_aload_n dX12_value_11 rfl rfl ?_
      refine x_getS (r := 89) dX12_value_12 fl_X12_76 rfl rfl ?_
      refine x_iload dX12_value_15 rfl ?_
      obtain ⟨v2, hv2, hf⟩ := zbind hf
      refine x_ild dX12_value_17 rfl hv2 ?_
      refine x_iconst (v := 2) dX12_value_18 (by decide) ?_
      refine x_icmp_ge (tgt := 66) dX12_value_19 (by decide) (fun c19 => ?_) (fun c19 => ?_)
      · replace hf := zif_t c19 hf
        obtain ⟨x3_3, ex3_3, hf⟩ := zletE hf
        refine x_iinc (c0 := -1) dX12_value_66 rfl (Nat.le_of_ble_eq_true rfl) (by decide) ex3_3 ?_
        refine x_aload_n dX12_value_69 rfl rfl ?_
        refine x_getS (r := 123) dX12_value_70 fl_X12_179 rfl rfl ?_
        refine x_iload_n dX12_value_73 rfl rfl ?_
        refine x_iconst (v := 1) dX12_value_74 (by decide) ?_
        refine x_isub dX12_value_75 ?_
        obtain ⟨v4, hv4, hf⟩ := zbind hf
        refine x_ild dX12_value_76 rfl hv4 ?_
        refine x_istore dX12_value_77 (Nat.le_of_ble_eq_true rfl) rfl ?_
        refine x_aload_n dX12_value_79 rfl rfl ?_
        refine x_getS (r := 123) dX12_value_80 fl_X12_179 rfl rfl ?_
        refine x_iload_n dX12_value_83 rfl rfl ?_
        obtain ⟨v5, hv5, hf⟩ := zbind hf
        refine x_ild dX12_value_84 rfl hv5 ?_
        refine x_istore dX12_value_85 (Nat.le_of_ble_eq_true rfl) rfl ?_
        refine x_aload_n dX12_value_87 rfl rfl ?_
        refine x_getS (r := 123) dX12_value_88 fl_X12_179 rfl rfl ?_
        refine x_iload_n dX12_value_91 rfl rfl ?_
        refine x_iconst (v := 1) dX12_value_92 (by decide) ?_
        refine x_isub dX12_value_93 ?_
        refine x_aload_n dX12_value_94 rfl rfl ?_
        refine x_getS (r := 89) dX12_value_95 fl_X12_76 rfl rfl ?_
        refine x_iload dX12_value_98 rfl ?_
        obtain ⟨v6, hv6, hf⟩ := zbind hf
        refine x_ild dX12_value_100 rfl hv6 ?_
        refine x_iconst (v := 2) dX12_value_101 (by decide) ?_
        refine x_icmp_ne (tgt := 113) dX12_value_102 (by decide) (fun c102 => ?_) (fun c102 => ?_)
        · replace hf := zif_f c102 hf
          refine x_aload_n dX12_value_113 rfl rfl ?_
          refine x_getS (r := 89) dX12_value_114 fl_X12_76 rfl rfl ?_
          refine x_iload dX12_value_117 rfl ?_
          obtain ⟨v7, hv7, hf⟩ := zbind hf
          refine x_ild dX12_value_119 rfl hv7 ?_
          refine x_iconst (v := 3) dX12_value_120 (by decide) ?_
          refine x_icmp_ne (tgt := 132) dX12_value_121 (by decide) (fun c121 => ?_) (fun c121 => ?_)
          · replace hf := zif_f c121 hf
            refine x_iload dX12_value_132 rfl ?_
            refine x_iload dX12_value_134 rfl ?_
            refine x_imul dX12_value_136 ?_
            exact Ex.sb (cc_X12_value_L137 ih hf) ⟨rfl, rfl, rfl, rfl, trivial⟩
          · replace hf := zif_t c121 hf
            refine x_iload dX12_value_124 rfl ?_
            refine x_iload dX12_value_126 rfl ?_
            refine x_isub dX12_value_128 ?_
            refine x_goto (tgt := 137) dX12_value_129 (by decide) ?_
            exact Ex.sb (cc_X12_value_L137 ih hf) ⟨rfl, rfl, rfl, rfl, trivial⟩
        · replace hf := zif_t c102 hf
          refine x_iload dX12_value_105 rfl ?_
          refine x_iload dX12_value_107 rfl ?_
          refine x_iadd dX12_value_109 ?_
          refine x_goto (tgt := 137) dX12_value_110 (by decide) ?_
          exact Ex.sb (cc_X12_value_L137 ih hf) ⟨rfl, rfl, rfl, rfl, trivial⟩
      · replace hf := zif_f c19 hf
        refine x_aload_n dX12_value_22 rfl rfl ?_
        refine x_getS (r := 123) dX12_value_23 fl_X12_179 rfl rfl ?_
        refine x_iload_n dX12_value_26 rfl rfl ?_
        refine x_aload_n dX12_value_27 rfl rfl ?_
        refine x_getS (r := 89) dX12_value_28 fl_X12_76 rfl rfl ?_
        refine x_iload dX12_value_31 rfl ?_
        obtain ⟨v8, hv8, hf⟩ := zbind hf
        refine x_ild dX12_value_33 rfl hv8 ?_
        refine x_if_ne (tgt := 47) dX12_value_34 (by decide) (fun c34 => ?_) (fun c34 => ?_)
        · replace hf := zif_f c34 hf
          refine x_aload_n dX12_value_47 rfl rfl ?_
          refine x_getS (r := 122) dX12_value_48 fl_X12_176 rfl rfl ?_
          refine x_aload_n dX12_value_51 rfl rfl ?_
          refine x_getS (r := 90) dX12_value_52 fl_X12_79 rfl rfl ?_
          refine x_iload dX12_value_55 rfl ?_
          obtain ⟨v9, hv9, hf⟩ := zbind hf
          refine x_ild dX12_value_57 rfl hv9 ?_
          obtain ⟨v10, hv10, hf⟩ := zbind hf
          refine x_ild dX12_value_58 rfl hv10 ?_
          exact Ex.sb (cc_X12_value_L59 ih hf) ⟨rfl, rfl, rfl, rfl, trivial⟩
        · replace hf := zif_t c34 hf
          refine x_aload_n dX12_value_37 rfl rfl ?_
          refine x_getS (r := 90) dX12_value_38 fl_X12_79 rfl rfl ?_
          refine x_iload dX12_value_41 rfl ?_
          obtain ⟨v11, hv11, hf⟩ := zbind hf
          refine x_ild dX12_value_43 rfl hv11 ?_
          refine x_goto (tgt := 59) dX12_value_44 (by decide) ?_
          exact Ex.sb (cc_X12_value_L59 ih hf) ⟨rfl, rfl, rfl, rfl, trivial⟩
theorem cc_X12_value {l : Launch} {G : zG} {N : Nat} {x1 : Int32} {x2 : Int32}  {M : zMem} {r : Int32} {M1 : zMem} (hf : fX12_value N x1 x2 M = some (r, M1)) : Ca l G 0 mX12_value [.ref (G.2.2.1 69), .int x1, .int x2] M (some (.int r)) M1 := by
  refine Ca.of (by decide +kernel) (Nat.le_of_ble_eq_true rfl) rfl ?_
  rw [fX12_value] at hf
  refine x_iconst (v := 0) dX12_value_0 (by decide) ?_
  refine x_istore_n dX12_value_1 rfl (Nat.le_of_ble_eq_true rfl) rfl ?_
  refine x_iload_n dX12_value_2 rfl rfl ?_
  refine x_istore dX12_value_3 (Nat.le_of_ble_eq_true rfl) rfl ?_
  exact Ex.sb (cc_X12_value_L5  hf) ⟨rfl, rfl, rfl, rfl, trivial⟩
theorem cc_X12_holds_L150 {l : Launch} {G : zG} {N : Nat} {k7 : Int32 → Int32 → zMem → Option (Int32 × zMem)} (hk7 : ∀ {x1 : Int32} {x2 : Int32} {M : zMem} {r : Int32} {M1 : zMem}, k7 x1 x2 M = some (r, M1) → Ex l G 1 mX12_holds 7 [(0, .ref (G.2.2.1 69)), (1, .int x1), (2, .int x2)] [] M (zqI r M1)) {x1 : Int32} {x2 : Int32} {s0 : Int32} {M : zMem} {r : Int32} {M1 : zMem} (hf : fX12_holds_L150 N k7 x1 x2 s0 M = some (r, M1)) : Ex l G 1 mX12_holds 150 [(0, .ref (G.2.2.1 69)), (1, .int x1), (2, .int x2)] [.int s0] M (zqI r M1) := by
  rw [fX12_holds_L150] at hf
  refine x_istore dX12_holds_150 (Nat.le_of_ble_eq_true rfl) rfl ?_
  refine x_iload dX12_holds_152 rfl ?_
  refine x_if_ne (tgt := 159) dX12_holds_154 (by decide) (fun c154 => ?_) (fun c154 => ?_)
  · replace hf := zif_f c154 hf
    obtain ⟨x2_17, ex2_17, hf⟩ := zletE hf
    refine x_iinc (c0 := 1) dX12_holds_159 rfl (Nat.le_of_ble_eq_true rfl) (by decide) ex2_17 ?_
    refine x_goto (tgt := 7) dX12_holds_162 (by decide) ?_
    exact Ex.sb (hk7 hf) ⟨rfl, rfl, rfl, trivial⟩
  · replace hf := zif_t c154 hf
    refine x_iconst (v := 0) dX12_holds_157 (by decide) ?_
    exact x_zret rfl rfl dX12_holds_158 (zretI hf)
theorem cc_X12_holds_L7 {l : Launch} {G : zG} {N : Nat} : ∀ {n : Nat} {x1 : Int32} {x2 : Int32} {M : zMem} {r : Int32} {M1 : zMem}, fX12_holds_L7 N n x1 x2 M = some (r, M1) → Ex l G 1 mX12_holds 7 [(0, .ref (G.2.2.1 69)), (1, .int x1), (2, .int x2)] [] M (zqI r M1) := by
  intro n
  induction n with
  | zero => intro x1 x2 M r M1 hf; cases hf
  | succ n ih =>
    intro x1 x2 M r M1 hf
    rw [fX12_holds_L7] at hf
    refine x_iload_n dX12_holds_7 rfl rfl ?_
    refine x_aload_n dX12_holds_8 rfl rfl ?_
    refine x_getS (r := 83) dX12_holds_9 fl_X12_58 rfl rfl ?_
    refine x_iload_n dX12_holds_12 rfl rfl ?_
    obtain ⟨v2, hv2, hf⟩ := zbind hf
    refine x_ild dX12_holds_13 rfl hv2 ?_
    refine x_icmp_ge (tgt := 165) dX12_holds_14 (by decide) (fun c14 => ?_) (fun c14 => ?_)
    · replace hf := zif_t c14 hf
      refine x_iconst (v := 1) dX12_holds_165 (by decide) ?_
      exact x_zret rfl rfl dX12_holds_166 (zretI hf)
    · replace hf := zif_f c14 hf
      refine x_sipush (v := 200) dX12_holds_17 (by decide) ?_
      refine x_aload_n dX12_holds_20 rfl rfl ?_
      refine x_getI dX12_holds_21 fl_X12_283 rfl rfl ?_
      refine x_imul dX12_holds_24 ?_
      refine x_iload_n dX12_holds_25 rfl rfl ?_
      refine x_iadd dX12_holds_26 ?_
      obtain ⟨x3_3, ex3_3, hf⟩ := zletE hf
      refine x_istore_n dX12_holds_27 rfl (Nat.le_of_ble_eq_true rfl) ex3_3 ?_
      refine x_aload_n dX12_holds_28 rfl rfl ?_
      refine x_aload_n dX12_holds_29 rfl rfl ?_
      refine x_getS (r := 86) dX12_holds_30 fl_X12_67 rfl rfl ?_
      refine x_iload_n dX12_holds_33 rfl rfl ?_
      obtain ⟨v4, hv4, hf⟩ := zbind hf
      refine x_ild dX12_holds_34 rfl hv4 ?_
      refine x_aload_n dX12_holds_35 rfl rfl ?_
      refine x_getS (r := 87) dX12_holds_36 fl_X12_70 rfl rfl ?_
      refine x_iload_n dX12_holds_39 rfl rfl ?_
      obtain ⟨v5, hv5, hf⟩ := zbind hf
      refine x_ild dX12_holds_40 rfl hv5 ?_
      obtain ⟨r8, M7, hq6, hf⟩ := zb2E hf
      refine x_invVi dX12_holds_41 mk_X12_value ml_X12_353 (cc_X12_value hq6) rfl rfl rfl (Nat.le_of_ble_eq_true rfl) rfl (Nat.le_of_ble_eq_true rfl) rfl ?_
      refine x_istore dX12_holds_44 (Nat.le_of_ble_eq_true rfl) rfl ?_
      refine x_aload_n dX12_holds_46 rfl rfl ?_
      refine x_aload_n dX12_holds_47 rfl rfl ?_
      refine x_getS (r := 87) dX12_holds_48 fl_X12_70 rfl rfl ?_
      refine x_iload_n dX12_holds_51 rfl rfl ?_
      obtain ⟨v9, hv9, hf⟩ := zbind hf
      refine x_ild dX12_holds_52 rfl hv9 ?_
      refine x_aload_n dX12_holds_53 rfl rfl ?_
      refine x_getS (r := 88) dX12_holds_54 fl_X12_73 rfl rfl ?_
      refine x_iload_n dX12_holds_57 rfl rfl ?_
      obtain ⟨v10, hv10, hf⟩ := zbind hf
      refine x_ild dX12_holds_58 rfl hv10 ?_
      obtain ⟨r13, M12, hq11, hf⟩ := zb2E hf
      refine x_invVi dX12_holds_59 mk_X12_value ml_X12_353 (cc_X12_value hq11) rfl rfl rfl (Nat.le_of_ble_eq_true rfl) rfl (Nat.le_of_ble_eq_true rfl) rfl ?_
      refine x_istore dX12_holds_62 (Nat.le_of_ble_eq_true rfl) rfl ?_
      refine x_aload_n dX12_holds_64 rfl rfl ?_
      refine x_getS (r := 85) dX12_holds_65 fl_X12_64 rfl rfl ?_
      refine x_iload_n dX12_holds_68 rfl rfl ?_
      obtain ⟨v14, hv14, hf⟩ := zbind hf
      refine x_ild dX12_holds_69 rfl hv14 ?_
      refine x_if_ne (tgt := 88) dX12_holds_70 (by decide) (fun c70 => ?_) (fun c70 => ?_)
      · replace hf := zif_f c70 hf
        refine x_aload_n dX12_holds_88 rfl rfl ?_
        refine x_getS (r := 85) dX12_holds_89 fl_X12_64 rfl rfl ?_
        refine x_iload_n dX12_holds_92 rfl rfl ?_
        obtain ⟨v15, hv15, hf⟩ := zbind hf
        refine x_ild dX12_holds_93 rfl hv15 ?_
        refine x_iconst (v := 1) dX12_holds_94 (by decide) ?_
        refine x_icmp_ne (tgt := 113) dX12_holds_95 (by decide) (fun c95 => ?_) (fun c95 => ?_)
        · replace hf := zif_f c95 hf
          refine x_aload_n dX12_holds_113 rfl rfl ?_
          refine x_getS (r := 85) dX12_holds_114 fl_X12_64 rfl rfl ?_
          refine x_iload_n dX12_holds_117 rfl rfl ?_
          obtain ⟨v16, hv16, hf⟩ := zbind hf
          refine x_ild dX12_holds_118 rfl hv16 ?_
          refine x_iconst (v := 2) dX12_holds_119 (by decide) ?_
          refine x_icmp_ne (tgt := 138) dX12_holds_120 (by decide) (fun c120 => ?_) (fun c120 => ?_)
          · replace hf := zif_f c120 hf
            refine x_iload dX12_holds_138 rfl ?_
            refine x_iload dX12_holds_140 rfl ?_
            refine x_icmp_gt (tgt := 149) dX12_holds_142 (by decide) (fun c142 => ?_) (fun c142 => ?_)
            · replace hf := zif_t c142 hf
              refine x_iconst (v := 0) dX12_holds_149 (by decide) ?_
              exact Ex.sb (cc_X12_holds_L150 ih hf) ⟨rfl, rfl, rfl, trivial⟩
            · replace hf := zif_f c142 hf
              refine x_iconst (v := 1) dX12_holds_145 (by decide) ?_
              refine x_goto (tgt := 150) dX12_holds_146 (by decide) ?_
              exact Ex.sb (cc_X12_holds_L150 ih hf) ⟨rfl, rfl, rfl, trivial⟩
          · replace hf := zif_t c120 hf
            refine x_iload dX12_holds_123 rfl ?_
            refine x_iload dX12_holds_125 rfl ?_
            refine x_icmp_ge (tgt := 134) dX12_holds_127 (by decide) (fun c127 => ?_) (fun c127 => ?_)
            · replace hf := zif_t c127 hf
              refine x_iconst (v := 0) dX12_holds_134 (by decide) ?_
              refine x_goto (tgt := 150) dX12_holds_135 (by decide) ?_
              exact Ex.sb (cc_X12_holds_L150 ih hf) ⟨rfl, rfl, rfl, trivial⟩
            · replace hf := zif_f c127 hf
              refine x_iconst (v := 1) dX12_holds_130 (by decide) ?_
              refine x_goto (tgt := 150) dX12_holds_131 (by decide) ?_
              exact Ex.sb (cc_X12_holds_L150 ih hf) ⟨rfl, rfl, rfl, trivial⟩
        · replace hf := zif_t c95 hf
          refine x_iload dX12_holds_98 rfl ?_
          refine x_iload dX12_holds_100 rfl ?_
          refine x_icmp_eq (tgt := 109) dX12_holds_102 (by decide) (fun c102 => ?_) (fun c102 => ?_)
          · replace hf := zif_t c102 hf
            refine x_iconst (v := 0) dX12_holds_109 (by decide) ?_
            refine x_goto (tgt := 150) dX12_holds_110 (by decide) ?_
            exact Ex.sb (cc_X12_holds_L150 ih hf) ⟨rfl, rfl, rfl, trivial⟩
          · replace hf := zif_f c102 hf
            refine x_iconst (v := 1) dX12_holds_105 (by decide) ?_
            refine x_goto (tgt := 150) dX12_holds_106 (by decide) ?_
            exact Ex.sb (cc_X12_holds_L150 ih hf) ⟨rfl, rfl, rfl, trivial⟩
      · replace hf := zif_t c70 hf
        refine x_iload dX12_holds_73 rfl ?_
        refine x_iload dX12_holds_75 rfl ?_
        refine x_icmp_ne (tgt := 84) dX12_holds_77 (by decide) (fun c77 => ?_) (fun c77 => ?_)
        · replace hf := zif_f c77 hf
          refine x_iconst (v := 0) dX12_holds_84 (by decide) ?_
          refine x_goto (tgt := 150) dX12_holds_85 (by decide) ?_
          exact Ex.sb (cc_X12_holds_L150 ih hf) ⟨rfl, rfl, rfl, trivial⟩
        · replace hf := zif_t c77 hf
          refine x_iconst (v := 1) dX12_holds_80 (by decide) ?_
          refine x_goto (tgt := 150) dX12_holds_81 (by decide) ?_
          exact Ex.sb (cc_X12_holds_L150 ih hf) ⟨rfl, rfl, rfl, trivial⟩
theorem cc_X12_holds {l : Launch} {G : zG} {N : Nat} {x1 : Int32}  {M : zMem} {r : Int32} {M1 : zMem} (hf : fX12_holds N x1 M = some (r, M1)) : Ca l G 1 mX12_holds [.ref (G.2.2.1 69), .int x1] M (some (.int r)) M1 := by
  refine Ca.of (by decide +kernel) (Nat.le_of_ble_eq_true rfl) rfl ?_
  rw [fX12_holds] at hf
  refine x_aload_n dX12_holds_0 rfl rfl ?_
  refine x_getS (r := 82) dX12_holds_1 fl_X12_55 rfl rfl ?_
  refine x_iload_n dX12_holds_4 rfl rfl ?_
  obtain ⟨v1, hv1, hf⟩ := zbind hf
  refine x_ild dX12_holds_5 rfl hv1 ?_
  refine x_istore_n dX12_holds_6 rfl (Nat.le_of_ble_eq_true rfl) rfl ?_
  exact Ex.sb (cc_X12_holds_L7  hf) ⟨rfl, rfl, rfl, trivial⟩
theorem cc_X12_asks_L49 {l : Launch} {G : zG} {x1 : Int32} {x2 : Int32} {x3 : Int32} {s1 : Int32} {s2 : Int32} {M : zMem} {M1 : zMem} (hf : fX12_asks_L49 x1 x2 x3 s1 s2 M = some M1) : Ex l G 0 mX12_asks 49 [(0, .ref (G.2.2.1 69)), (1, .int x1), (2, .int x2), (3, .int x3)] [.int s2, .int s1, .ref (G.2.2.1 122)] M (zqV M1) := by
  rw [fX12_asks_L49] at hf
  refine x_aload_n dX12_asks_49 rfl rfl ?_
  refine x_getS (r := 113) dX12_asks_50 fl_X12_149 rfl rfl ?_
  refine x_iload_n dX12_asks_53 rfl rfl ?_
  obtain ⟨v7, hv7, hf⟩ := zbind hf
  refine x_ild dX12_asks_54 rfl hv7 ?_
  refine x_isub dX12_asks_55 ?_
  obtain ⟨M8, hM8, hf⟩ := zbind hf
  refine x_ist dX12_asks_56 rfl hM8 ?_
  refine x_aload_n dX12_asks_57 rfl rfl ?_
  refine x_getS (r := 122) dX12_asks_58 fl_X12_176 rfl rfl ?_
  refine x_iconst (v := 3) dX12_asks_61 (by decide) ?_
  refine x_iload_n dX12_asks_62 rfl rfl ?_
  refine x_bipush (v := 60) dX12_asks_63 (by decide) ?_
  refine x_idiv dX12_asks_65 (by decide) ?_
  obtain ⟨M9, hM9, hf⟩ := zbind hf
  refine x_ist dX12_asks_66 rfl hM9 ?_
  refine x_aload_n dX12_asks_67 rfl rfl ?_
  refine x_getS (r := 122) dX12_asks_68 fl_X12_176 rfl rfl ?_
  refine x_iconst (v := 4) dX12_asks_71 (by decide) ?_
  refine x_aload_n dX12_asks_72 rfl rfl ?_
  refine x_getS (r := 124) dX12_asks_73 fl_X12_182 rfl rfl ?_
  refine x_iload_n dX12_asks_76 rfl rfl ?_
  obtain ⟨v10, hv10, hf⟩ := zbind hf
  refine x_ild dX12_asks_77 rfl hv10 ?_
  obtain ⟨M11, hM11, hf⟩ := zbind hf
  refine x_ist dX12_asks_78 rfl hM11 ?_
  refine x_aload_n dX12_asks_79 rfl rfl ?_
  refine x_getS (r := 122) dX12_asks_80 fl_X12_176 rfl rfl ?_
  refine x_iconst (v := 5) dX12_asks_83 (by decide) ?_
  refine x_iload_n dX12_asks_84 rfl rfl ?_
  obtain ⟨M12, hM12, hf⟩ := zbind hf
  refine x_ist dX12_asks_85 rfl hM12 ?_
  exact x_vret rfl dX12_asks_86 (zretV hf)
theorem cc_X12_asks {l : Launch} {G : zG} {x1 : Int32} {x2 : Int32} {x3 : Int32}  {M : zMem} {M1 : zMem} (hf : fX12_asks x1 x2 x3 M = some M1) : Ca l G 0 mX12_asks [.ref (G.2.2.1 69), .int x1, .int x2, .int x3] M none M1 := by
  refine Ca.of (by decide +kernel) (Nat.le_of_ble_eq_true rfl) rfl ?_
  rw [fX12_asks] at hf
  refine x_aload_n dX12_asks_0 rfl rfl ?_
  refine x_getS (r := 122) dX12_asks_1 fl_X12_176 rfl rfl ?_
  refine x_iconst (v := 0) dX12_asks_4 (by decide) ?_
  refine x_aload_n dX12_asks_5 rfl rfl ?_
  refine x_getS (r := 115) dX12_asks_6 fl_X12_155 rfl rfl ?_
  refine x_iload_n dX12_asks_9 rfl rfl ?_
  obtain ⟨v1, hv1, hf⟩ := zbind hf
  refine x_ild dX12_asks_10 rfl hv1 ?_
  obtain ⟨M2, hM2, hf⟩ := zbind hf
  refine x_ist dX12_asks_11 rfl hM2 ?_
  refine x_aload_n dX12_asks_12 rfl rfl ?_
  refine x_getS (r := 122) dX12_asks_13 fl_X12_176 rfl rfl ?_
  refine x_iconst (v := 1) dX12_asks_16 (by decide) ?_
  refine x_aload_n dX12_asks_17 rfl rfl ?_
  refine x_getS (r := 116) dX12_asks_18 fl_X12_158 rfl rfl ?_
  refine x_iload_n dX12_asks_21 rfl rfl ?_
  obtain ⟨v3, hv3, hf⟩ := zbind hf
  refine x_ild dX12_asks_22 rfl hv3 ?_
  obtain ⟨M4, hM4, hf⟩ := zbind hf
  refine x_ist dX12_asks_23 rfl hM4 ?_
  refine x_aload_n dX12_asks_24 rfl rfl ?_
  refine x_getS (r := 122) dX12_asks_25 fl_X12_176 rfl rfl ?_
  refine x_iconst (v := 2) dX12_asks_28 (by decide) ?_
  refine x_aload_n dX12_asks_29 rfl rfl ?_
  refine x_getS (r := 118) dX12_asks_30 fl_X12_164 rfl rfl ?_
  refine x_iload_n dX12_asks_33 rfl rfl ?_
  obtain ⟨v5, hv5, hf⟩ := zbind hf
  refine x_ild dX12_asks_34 rfl hv5 ?_
  refine x_iconst (v := 1) dX12_asks_35 (by decide) ?_
  refine x_icmp_ne (tgt := 48) dX12_asks_36 (by decide) (fun c36 => ?_) (fun c36 => ?_)
  · replace hf := zif_f c36 hf
    refine x_iload_n dX12_asks_48 rfl rfl ?_
    exact Ex.sb (cc_X12_asks_L49  hf) ⟨rfl, rfl, rfl, rfl, trivial⟩
  · replace hf := zif_t c36 hf
    refine x_aload_n dX12_asks_39 rfl rfl ?_
    refine x_getS (r := 120) dX12_asks_40 fl_X12_170 rfl rfl ?_
    refine x_iload_n dX12_asks_43 rfl rfl ?_
    obtain ⟨v6, hv6, hf⟩ := zbind hf
    refine x_ild dX12_asks_44 rfl hv6 ?_
    refine x_goto (tgt := 49) dX12_asks_45 (by decide) ?_
    exact Ex.sb (cc_X12_asks_L49  hf) ⟨rfl, rfl, rfl, rfl, trivial⟩
theorem cc_X12_ends_L111 {l : Launch} {G : zG} {N : Nat} {k50 : Int32 → Int32 → Int32 → zMem → Option zMem} (hk50 : ∀ {x2 : Int32} {x3 : Int32} {x4 : Int32} {M : zMem} {M1 : zMem}, k50 x2 x3 x4 M = some M1 → Ex l G 2 mX12_ends 50 [(0, .ref (G.2.2.1 69)), (2, .int x2), (3, .int x3), (4, .int x4)] [] M (zqV M1)) {x2 : Int32} {x3 : Int32} {x4 : Int32} {M : zMem} {M1 : zMem} (hf : fX12_ends_L111 N k50 x2 x3 x4 M = some M1) : Ex l G 2 mX12_ends 111 [(0, .ref (G.2.2.1 69)), (2, .int x2), (3, .int x3), (4, .int x4)] [] M (zqV M1) := by
  rw [fX12_ends_L111] at hf
  obtain ⟨x4_17, ex4_17, hf⟩ := zletE hf
  refine x_iinc (c0 := 1) dX12_ends_111 rfl (Nat.le_of_ble_eq_true rfl) (by decide) ex4_17 ?_
  refine x_goto (tgt := 50) dX12_ends_114 (by decide) ?_
  exact Ex.sb (hk50 hf) ⟨rfl, rfl, rfl, rfl, trivial⟩
theorem cc_X12_ends_L50 {l : Launch} {G : zG} {N : Nat} : ∀ {n : Nat} {x2 : Int32} {x3 : Int32} {x4 : Int32} {M : zMem} {M1 : zMem}, fX12_ends_L50 N n x2 x3 x4 M = some M1 → Ex l G 2 mX12_ends 50 [(0, .ref (G.2.2.1 69)), (2, .int x2), (3, .int x3), (4, .int x4)] [] M (zqV M1) := by
  intro n
  induction n with
  | zero => intro x2 x3 x4 M M1 hf; cases hf
  | succ n ih =>
    intro x2 x3 x4 M M1 hf
    rw [fX12_ends_L50] at hf
    refine x_iload dX12_ends_50 rfl ?_
    refine x_bipush (v := 20) dX12_ends_52 (by decide) ?_
    refine x_aload_n dX12_ends_54 rfl rfl ?_
    refine x_getI dX12_ends_55 fl_X12_283 rfl rfl ?_
    refine x_imul dX12_ends_58 ?_
    refine x_aload_n dX12_ends_59 rfl rfl ?_
    refine x_getS (r := 77) dX12_ends_60 fl_X12_40 rfl rfl ?_
    refine x_aload_n dX12_ends_63 rfl rfl ?_
    refine x_getI dX12_ends_64 fl_X12_283 rfl rfl ?_
    obtain ⟨v10, hv10, hf⟩ := zbind hf
    refine x_ild dX12_ends_67 rfl hv10 ?_
    refine x_iadd dX12_ends_68 ?_
    refine x_icmp_ge (tgt := 117) dX12_ends_69 (by decide) (fun c69 => ?_) (fun c69 => ?_)
    · replace hf := zif_t c69 hf
      exact x_vret rfl dX12_ends_117 (zretV hf)
    · replace hf := zif_f c69 hf
      refine x_aload_n dX12_ends_72 rfl rfl ?_
      refine x_getS (r := 78) dX12_ends_73 fl_X12_43 rfl rfl ?_
      refine x_iload dX12_ends_76 rfl ?_
      obtain ⟨v11, hv11, hf⟩ := zbind hf
      refine x_ild dX12_ends_78 rfl hv11 ?_
      refine x_iconst (v := 4) dX12_ends_79 (by decide) ?_
      refine x_icmp_ne (tgt := 111) dX12_ends_80 (by decide) (fun c80 => ?_) (fun c80 => ?_)
      · replace hf := zif_f c80 hf
        exact Ex.sb (cc_X12_ends_L111 ih hf) ⟨rfl, rfl, rfl, rfl, trivial⟩
      · replace hf := zif_t c80 hf
        refine x_aload_n dX12_ends_83 rfl rfl ?_
        refine x_iload dX12_ends_84 rfl ?_
        obtain ⟨r14, M13, hq12, hf⟩ := zb2E hf
        refine x_invVi dX12_ends_86 mk_X12_holds ml_X12_360 (cc_X12_holds hq12) rfl rfl rfl (Nat.le_of_ble_eq_true rfl) rfl (Nat.le_of_ble_eq_true rfl) rfl ?_
        refine x_if_ne (tgt := 95) dX12_ends_89 (by decide) (fun c89 => ?_) (fun c89 => ?_)
        · replace hf := zif_f c89 hf
          refine x_aload_n dX12_ends_95 rfl rfl ?_
          refine x_getS (r := 128) dX12_ends_96 fl_X12_194 rfl rfl ?_
          refine x_iload_n dX12_ends_99 rfl rfl ?_
          refine x_iload_n dX12_ends_100 rfl rfl ?_
          refine x_aload_n dX12_ends_101 rfl rfl ?_
          refine x_getS (r := 79) dX12_ends_102 fl_X12_46 rfl rfl ?_
          refine x_iload dX12_ends_105 rfl ?_
          obtain ⟨v15, hv15, hf⟩ := zbind hf
          refine x_ild dX12_ends_107 rfl hv15 ?_
          refine x_iadd dX12_ends_108 ?_
          obtain ⟨M16, hM16, hf⟩ := zbind hf
          refine x_ist dX12_ends_109 rfl hM16 ?_
          exact x_vret rfl dX12_ends_110 (zretV hf)
        · replace hf := zif_t c89 hf
          refine x_goto (tgt := 111) dX12_ends_92 (by decide) ?_
          exact Ex.sb (cc_X12_ends_L111 ih hf) ⟨rfl, rfl, rfl, rfl, trivial⟩
theorem cc_X12_ends {l : Launch} {G : zG} {N : Nat} {x1 : Int32} {x2 : Int32}  {M : zMem} {M1 : zMem} (hf : fX12_ends N x1 x2 M = some M1) : Ca l G 2 mX12_ends [.ref (G.2.2.1 69), .int x1, .int x2] M none M1 := by
  refine Ca.of (by decide +kernel) (Nat.le_of_ble_eq_true rfl) rfl ?_
  rw [fX12_ends] at hf
  refine x_aload_n dX12_ends_0 rfl rfl ?_
  refine x_getS (r := 119) dX12_ends_1 fl_X12_167 rfl rfl ?_
  refine x_iload_n dX12_ends_4 rfl rfl ?_
  obtain ⟨v1, hv1, hf⟩ := zbind hf
  refine x_ild dX12_ends_5 rfl hv1 ?_
  refine x_istore_n dX12_ends_6 rfl (Nat.le_of_ble_eq_true rfl) rfl ?_
  refine x_aload_n dX12_ends_7 rfl rfl ?_
  refine x_getS (r := 129) dX12_ends_8 fl_X12_197 rfl rfl ?_
  refine x_iload_n dX12_ends_11 rfl rfl ?_
  refine x_dup2 dX12_ends_12 rfl rfl ?_
  obtain ⟨v2, hv2, hf⟩ := zbind hf
  refine x_ild dX12_ends_13 rfl hv2 ?_
  refine x_aload_n dX12_ends_14 rfl rfl ?_
  refine x_getS (r := 117) dX12_ends_15 fl_X12_161 rfl rfl ?_
  refine x_iload_n dX12_ends_18 rfl rfl ?_
  obtain ⟨v3, hv3, hf⟩ := zbind hf
  refine x_ild dX12_ends_19 rfl hv3 ?_
  refine x_iadd dX12_ends_20 ?_
  obtain ⟨M4, hM4, hf⟩ := zbind hf
  refine x_ist dX12_ends_21 rfl hM4 ?_
  refine x_aload_n dX12_ends_22 rfl rfl ?_
  refine x_getS (r := 127) dX12_ends_23 fl_X12_191 rfl rfl ?_
  refine x_iload_n dX12_ends_26 rfl rfl ?_
  refine x_iconst (v := -1) dX12_ends_27 (by decide) ?_
  obtain ⟨M5, hM5, hf⟩ := zbind hf
  refine x_ist dX12_ends_28 rfl hM5 ?_
  refine x_aload_n dX12_ends_29 rfl rfl ?_
  refine x_iload_n dX12_ends_30 rfl rfl ?_
  refine x_iload_n dX12_ends_31 rfl rfl ?_
  refine x_aload_n dX12_ends_32 rfl rfl ?_
  refine x_getS (r := 129) dX12_ends_33 fl_X12_197 rfl rfl ?_
  refine x_iload_n dX12_ends_36 rfl rfl ?_
  obtain ⟨v6, hv6, hf⟩ := zbind hf
  refine x_ild dX12_ends_37 rfl hv6 ?_
  obtain ⟨M8, hq7, hf⟩ := zbind hf
  refine x_invVv dX12_ends_38 mk_X12_asks ml_X12_356 (cc_X12_asks hq7) rfl rfl rfl (Nat.le_of_ble_eq_true rfl) rfl (Nat.le_of_ble_eq_true rfl) rfl ?_
  refine x_bipush (v := 20) dX12_ends_41 (by decide) ?_
  refine x_aload_n dX12_ends_43 rfl rfl ?_
  refine x_getI dX12_ends_44 fl_X12_283 rfl rfl ?_
  refine x_imul dX12_ends_47 ?_
  obtain ⟨x4_9, ex4_9, hf⟩ := zletE hf
  refine x_istore dX12_ends_48 (Nat.le_of_ble_eq_true rfl) ex4_9 ?_
  exact Ex.sb (cc_X12_ends_L50  hf) ⟨rfl, rfl, rfl, rfl, trivial⟩
theorem cc_X12_isDropped_L56 {l : Launch} {G : zG} {N : Nat} {k15 : Int32 → zMem → Option (Int32 × zMem)} (hk15 : ∀ {x3 : Int32} {M : zMem} {r : Int32} {M1 : zMem}, k15 x3 M = some (r, M1) → Ex l G 2 mX12_isDropped 15 [(0, .ref (G.2.2.1 69)), (3, .int x3)] [] M (zqI r M1)) {x3 : Int32} {M : zMem} {r : Int32} {M1 : zMem} (hf : fX12_isDropped_L56 N k15 x3 M = some (r, M1)) : Ex l G 2 mX12_isDropped 56 [(0, .ref (G.2.2.1 69)), (3, .int x3)] [] M (zqI r M1) := by
  rw [fX12_isDropped_L56] at hf
  obtain ⟨x3_9, ex3_9, hf⟩ := zletE hf
  refine x_iinc (c0 := 1) dX12_isDropped_56 rfl (Nat.le_of_ble_eq_true rfl) (by decide) ex3_9 ?_
  refine x_goto (tgt := 15) dX12_isDropped_59 (by decide) ?_
  exact Ex.sb (hk15 hf) ⟨rfl, rfl, trivial⟩
theorem cc_X12_isDropped_L15 {l : Launch} {G : zG} {N : Nat} : ∀ {n : Nat} {x3 : Int32} {M : zMem} {r : Int32} {M1 : zMem}, fX12_isDropped_L15 N n x3 M = some (r, M1) → Ex l G 2 mX12_isDropped 15 [(0, .ref (G.2.2.1 69)), (3, .int x3)] [] M (zqI r M1) := by
  intro n
  induction n with
  | zero => intro x3 M r M1 hf; cases hf
  | succ n ih =>
    intro x3 M r M1 hf
    rw [fX12_isDropped_L15] at hf
    refine x_iload_n dX12_isDropped_15 rfl rfl ?_
    refine x_bipush (v := 20) dX12_isDropped_16 (by decide) ?_
    refine x_aload_n dX12_isDropped_18 rfl rfl ?_
    refine x_getI dX12_isDropped_19 fl_X12_283 rfl rfl ?_
    refine x_imul dX12_isDropped_22 ?_
    refine x_aload_n dX12_isDropped_23 rfl rfl ?_
    refine x_getS (r := 77) dX12_isDropped_24 fl_X12_40 rfl rfl ?_
    refine x_aload_n dX12_isDropped_27 rfl rfl ?_
    refine x_getI dX12_isDropped_28 fl_X12_283 rfl rfl ?_
    obtain ⟨v4, hv4, hf⟩ := zbind hf
    refine x_ild dX12_isDropped_31 rfl hv4 ?_
    refine x_iadd dX12_isDropped_32 ?_
    refine x_icmp_ge (tgt := 62) dX12_isDropped_33 (by decide) (fun c33 => ?_) (fun c33 => ?_)
    · replace hf := zif_t c33 hf
      refine x_iconst (v := 0) dX12_isDropped_62 (by decide) ?_
      exact x_zret rfl rfl dX12_isDropped_63 (zretI hf)
    · replace hf := zif_f c33 hf
      refine x_aload_n dX12_isDropped_36 rfl rfl ?_
      refine x_getS (r := 78) dX12_isDropped_37 fl_X12_43 rfl rfl ?_
      refine x_iload_n dX12_isDropped_40 rfl rfl ?_
      obtain ⟨v5, hv5, hf⟩ := zbind hf
      refine x_ild dX12_isDropped_41 rfl hv5 ?_
      refine x_iconst (v := 3) dX12_isDropped_42 (by decide) ?_
      refine x_icmp_ne (tgt := 56) dX12_isDropped_43 (by decide) (fun c43 => ?_) (fun c43 => ?_)
      · replace hf := zif_f c43 hf
        exact Ex.sb (cc_X12_isDropped_L56 ih hf) ⟨rfl, rfl, trivial⟩
      · replace hf := zif_t c43 hf
        refine x_aload_n dX12_isDropped_46 rfl rfl ?_
        refine x_iload_n dX12_isDropped_47 rfl rfl ?_
        obtain ⟨r8, M7, hq6, hf⟩ := zb2E hf
        refine x_invVi dX12_isDropped_48 mk_X12_holds ml_X12_360 (cc_X12_holds hq6) rfl rfl rfl (Nat.le_of_ble_eq_true rfl) rfl (Nat.le_of_ble_eq_true rfl) rfl ?_
        refine x_if_eq (tgt := 56) dX12_isDropped_51 (by decide) (fun c51 => ?_) (fun c51 => ?_)
        · replace hf := zif_t c51 hf
          exact Ex.sb (cc_X12_isDropped_L56 ih hf) ⟨rfl, rfl, trivial⟩
        · replace hf := zif_f c51 hf
          refine x_iconst (v := 1) dX12_isDropped_54 (by decide) ?_
          exact x_zret rfl rfl dX12_isDropped_55 (zretI hf)
theorem cc_X12_isDropped {l : Launch} {G : zG} {N : Nat} {x1 : Int32} {x2 : Int32}  {M : zMem} {r : Int32} {M1 : zMem} (hf : fX12_isDropped N x1 x2 M = some (r, M1)) : Ca l G 2 mX12_isDropped [.ref (G.2.2.1 69), .int x1, .int x2] M (some (.int r)) M1 := by
  refine Ca.of (by decide +kernel) (Nat.le_of_ble_eq_true rfl) rfl ?_
  rw [fX12_isDropped] at hf
  refine x_aload_n dX12_isDropped_0 rfl rfl ?_
  refine x_iload_n dX12_isDropped_1 rfl rfl ?_
  refine x_iload_n dX12_isDropped_2 rfl rfl ?_
  refine x_iconst (v := 0) dX12_isDropped_3 (by decide) ?_
  obtain ⟨M2, hq1, hf⟩ := zbind hf
  refine x_invVv dX12_isDropped_4 mk_X12_asks ml_X12_356 (cc_X12_asks hq1) rfl rfl rfl (Nat.le_of_ble_eq_true rfl) rfl (Nat.le_of_ble_eq_true rfl) rfl ?_
  refine x_bipush (v := 20) dX12_isDropped_7 (by decide) ?_
  refine x_aload_n dX12_isDropped_9 rfl rfl ?_
  refine x_getI dX12_isDropped_10 fl_X12_283 rfl rfl ?_
  refine x_imul dX12_isDropped_13 ?_
  obtain ⟨x3_3, ex3_3, hf⟩ := zletE hf
  refine x_istore_n dX12_isDropped_14 rfl (Nat.le_of_ble_eq_true rfl) ex3_3 ?_
  exact Ex.sb (cc_X12_isDropped_L15  hf) ⟨rfl, rfl, trivial⟩
theorem cc_X12_firstOf_L70 {l : Launch} {G : zG} {N : Nat} {k15 : Int32 → Int32 → zMem → Option (Int32 × zMem)} (hk15 : ∀ {x1 : Int32} {x3 : Int32} {M : zMem} {r : Int32} {M1 : zMem}, k15 x1 x3 M = some (r, M1) → Ex l G 2 mX12_firstOf 15 [(0, .ref (G.2.2.1 69)), (1, .int x1), (3, .int x3)] [] M (zqI r M1)) {x1 : Int32} {x3 : Int32} {M : zMem} {r : Int32} {M1 : zMem} (hf : fX12_firstOf_L70 N k15 x1 x3 M = some (r, M1)) : Ex l G 2 mX12_firstOf 70 [(0, .ref (G.2.2.1 69)), (1, .int x1), (3, .int x3)] [] M (zqI r M1) := by
  rw [fX12_firstOf_L70] at hf
  obtain ⟨x3_15, ex3_15, hf⟩ := zletE hf
  refine x_iinc (c0 := 1) dX12_firstOf_70 rfl (Nat.le_of_ble_eq_true rfl) (by decide) ex3_15 ?_
  refine x_goto (tgt := 15) dX12_firstOf_73 (by decide) ?_
  exact Ex.sb (hk15 hf) ⟨rfl, rfl, rfl, trivial⟩
theorem cc_X12_firstOf_L15 {l : Launch} {G : zG} {N : Nat} : ∀ {n : Nat} {x1 : Int32} {x3 : Int32} {M : zMem} {r : Int32} {M1 : zMem}, fX12_firstOf_L15 N n x1 x3 M = some (r, M1) → Ex l G 2 mX12_firstOf 15 [(0, .ref (G.2.2.1 69)), (1, .int x1), (3, .int x3)] [] M (zqI r M1) := by
  intro n
  induction n with
  | zero => intro x1 x3 M r M1 hf; cases hf
  | succ n ih =>
    intro x1 x3 M r M1 hf
    rw [fX12_firstOf_L15] at hf
    refine x_iload_n dX12_firstOf_15 rfl rfl ?_
    refine x_bipush (v := 20) dX12_firstOf_16 (by decide) ?_
    refine x_aload_n dX12_firstOf_18 rfl rfl ?_
    refine x_getI dX12_firstOf_19 fl_X12_283 rfl rfl ?_
    refine x_imul dX12_firstOf_22 ?_
    refine x_aload_n dX12_firstOf_23 rfl rfl ?_
    refine x_getS (r := 77) dX12_firstOf_24 fl_X12_40 rfl rfl ?_
    refine x_aload_n dX12_firstOf_27 rfl rfl ?_
    refine x_getI dX12_firstOf_28 fl_X12_283 rfl rfl ?_
    obtain ⟨v4, hv4, hf⟩ := zbind hf
    refine x_ild dX12_firstOf_31 rfl hv4 ?_
    refine x_iadd dX12_firstOf_32 ?_
    refine x_icmp_ge (tgt := 76) dX12_firstOf_33 (by decide) (fun c33 => ?_) (fun c33 => ?_)
    · replace hf := zif_t c33 hf
      refine x_aload_n dX12_firstOf_76 rfl rfl ?_
      refine x_getS (r := 115) dX12_firstOf_77 fl_X12_155 rfl rfl ?_
      refine x_iload_n dX12_firstOf_80 rfl rfl ?_
      obtain ⟨v5, hv5, hf⟩ := zbind hf
      refine x_ild dX12_firstOf_81 rfl hv5 ?_
      exact x_iret rfl dX12_firstOf_82 (zretI hf)
    · replace hf := zif_f c33 hf
      refine x_aload_n dX12_firstOf_36 rfl rfl ?_
      refine x_getS (r := 78) dX12_firstOf_37 fl_X12_43 rfl rfl ?_
      refine x_iload_n dX12_firstOf_40 rfl rfl ?_
      obtain ⟨v6, hv6, hf⟩ := zbind hf
      refine x_ild dX12_firstOf_41 rfl hv6 ?_
      refine x_if_ne (tgt := 70) dX12_firstOf_42 (by decide) (fun c42 => ?_) (fun c42 => ?_)
      · replace hf := zif_f c42 hf
        exact Ex.sb (cc_X12_firstOf_L70 ih hf) ⟨rfl, rfl, rfl, trivial⟩
      · replace hf := zif_t c42 hf
        refine x_aload_n dX12_firstOf_45 rfl rfl ?_
        refine x_iload_n dX12_firstOf_46 rfl rfl ?_
        obtain ⟨r9, M8, hq7, hf⟩ := zb2E hf
        refine x_invVi dX12_firstOf_47 mk_X12_holds ml_X12_360 (cc_X12_holds hq7) rfl rfl rfl (Nat.le_of_ble_eq_true rfl) rfl (Nat.le_of_ble_eq_true rfl) rfl ?_
        refine x_if_eq (tgt := 70) dX12_firstOf_50 (by decide) (fun c50 => ?_) (fun c50 => ?_)
        · replace hf := zif_t c50 hf
          exact Ex.sb (cc_X12_firstOf_L70 ih hf) ⟨rfl, rfl, rfl, trivial⟩
        · replace hf := zif_f c50 hf
          refine x_aload_n dX12_firstOf_53 rfl rfl ?_
          refine x_aload_n dX12_firstOf_54 rfl rfl ?_
          refine x_getS (r := 80) dX12_firstOf_55 fl_X12_49 rfl rfl ?_
          refine x_iload_n dX12_firstOf_58 rfl rfl ?_
          obtain ⟨v10, hv10, hf⟩ := zbind hf
          refine x_ild dX12_firstOf_59 rfl hv10 ?_
          refine x_aload_n dX12_firstOf_60 rfl rfl ?_
          refine x_getS (r := 81) dX12_firstOf_61 fl_X12_52 rfl rfl ?_
          refine x_iload_n dX12_firstOf_64 rfl rfl ?_
          obtain ⟨v11, hv11, hf⟩ := zbind hf
          refine x_ild dX12_firstOf_65 rfl hv11 ?_
          obtain ⟨r14, M13, hq12, hf⟩ := zb2E hf
          refine x_invVi dX12_firstOf_66 mk_X12_value ml_X12_353 (cc_X12_value hq12) rfl rfl rfl (Nat.le_of_ble_eq_true rfl) rfl (Nat.le_of_ble_eq_true rfl) rfl ?_
          exact x_iret rfl dX12_firstOf_69 (zretI hf)
theorem cc_X12_firstOf {l : Launch} {G : zG} {N : Nat} {x1 : Int32} {x2 : Int32}  {M : zMem} {r : Int32} {M1 : zMem} (hf : fX12_firstOf N x1 x2 M = some (r, M1)) : Ca l G 2 mX12_firstOf [.ref (G.2.2.1 69), .int x1, .int x2] M (some (.int r)) M1 := by
  refine Ca.of (by decide +kernel) (Nat.le_of_ble_eq_true rfl) rfl ?_
  rw [fX12_firstOf] at hf
  refine x_aload_n dX12_firstOf_0 rfl rfl ?_
  refine x_iload_n dX12_firstOf_1 rfl rfl ?_
  refine x_iload_n dX12_firstOf_2 rfl rfl ?_
  refine x_iconst (v := 0) dX12_firstOf_3 (by decide) ?_
  obtain ⟨M2, hq1, hf⟩ := zbind hf
  refine x_invVv dX12_firstOf_4 mk_X12_asks ml_X12_356 (cc_X12_asks hq1) rfl rfl rfl (Nat.le_of_ble_eq_true rfl) rfl (Nat.le_of_ble_eq_true rfl) rfl ?_
  refine x_bipush (v := 20) dX12_firstOf_7 (by decide) ?_
  refine x_aload_n dX12_firstOf_9 rfl rfl ?_
  refine x_getI dX12_firstOf_10 fl_X12_283 rfl rfl ?_
  refine x_imul dX12_firstOf_13 ?_
  obtain ⟨x3_3, ex3_3, hf⟩ := zletE hf
  refine x_istore_n dX12_firstOf_14 rfl (Nat.le_of_ble_eq_true rfl) ex3_3 ?_
  exact Ex.sb (cc_X12_firstOf_L15  hf) ⟨rfl, rfl, rfl, trivial⟩
theorem cc_X12_mayTake_L162 {l : Launch} {G : zG} {N : Nat} {k85 : Int32 → Int32 → zMem → Option (Int32 × zMem)} (hk85 : ∀ {x1 : Int32} {x4 : Int32} {M : zMem} {r : Int32} {M1 : zMem}, k85 x1 x4 M = some (r, M1) → Ex l G 2 mX12_mayTake 85 [(0, .ref (G.2.2.1 69)), (1, .int x1), (4, .int x4)] [] M (zqI r M1)) {x1 : Int32} {x4 : Int32} {M : zMem} {r : Int32} {M1 : zMem} (hf : fX12_mayTake_L162 N k85 x1 x4 M = some (r, M1)) : Ex l G 2 mX12_mayTake 162 [(0, .ref (G.2.2.1 69)), (1, .int x1), (4, .int x4)] [] M (zqI r M1) := by
  rw [fX12_mayTake_L162] at hf
  obtain ⟨x4_22, ex4_22, hf⟩ := zletE hf
  refine x_iinc (c0 := 1) dX12_mayTake_162 rfl (Nat.le_of_ble_eq_true rfl) (by decide) ex4_22 ?_
  refine x_goto (tgt := 85) dX12_mayTake_165 (by decide) ?_
  exact Ex.sb (hk85 hf) ⟨rfl, rfl, rfl, trivial⟩
theorem cc_X12_mayTake_L85 {l : Launch} {G : zG} {N : Nat} : ∀ {n : Nat} {x1 : Int32} {x4 : Int32} {M : zMem} {r : Int32} {M1 : zMem}, fX12_mayTake_L85 N n x1 x4 M = some (r, M1) → Ex l G 2 mX12_mayTake 85 [(0, .ref (G.2.2.1 69)), (1, .int x1), (4, .int x4)] [] M (zqI r M1) := by
  intro n
  induction n with
  | zero => intro x1 x4 M r M1 hf; cases hf
  | succ n ih =>
    intro x1 x4 M r M1 hf
    rw [fX12_mayTake_L85] at hf
    refine x_iload dX12_mayTake_85 rfl ?_
    refine x_bipush (v := 20) dX12_mayTake_87 (by decide) ?_
    refine x_aload_n dX12_mayTake_89 rfl rfl ?_
    refine x_getI dX12_mayTake_90 fl_X12_283 rfl rfl ?_
    refine x_imul dX12_mayTake_93 ?_
    refine x_aload_n dX12_mayTake_94 rfl rfl ?_
    refine x_getS (r := 77) dX12_mayTake_95 fl_X12_40 rfl rfl ?_
    refine x_aload_n dX12_mayTake_98 rfl rfl ?_
    refine x_getI dX12_mayTake_99 fl_X12_283 rfl rfl ?_
    obtain ⟨v12, hv12, hf⟩ := zbind hf
    refine x_ild dX12_mayTake_102 rfl hv12 ?_
    refine x_iadd dX12_mayTake_103 ?_
    refine x_icmp_ge (tgt := 168) dX12_mayTake_104 (by decide) (fun c104 => ?_) (fun c104 => ?_)
    · replace hf := zif_t c104 hf
      refine x_iconst (v := 1) dX12_mayTake_168 (by decide) ?_
      exact x_zret rfl rfl dX12_mayTake_169 (zretI hf)
    · replace hf := zif_f c104 hf
      refine x_aload_n dX12_mayTake_107 rfl rfl ?_
      refine x_getS (r := 78) dX12_mayTake_108 fl_X12_43 rfl rfl ?_
      refine x_iload dX12_mayTake_111 rfl ?_
      obtain ⟨v13, hv13, hf⟩ := zbind hf
      refine x_ild dX12_mayTake_113 rfl hv13 ?_
      refine x_iconst (v := 2) dX12_mayTake_114 (by decide) ?_
      refine x_icmp_ne (tgt := 162) dX12_mayTake_115 (by decide) (fun c115 => ?_) (fun c115 => ?_)
      · replace hf := zif_f c115 hf
        exact Ex.sb (cc_X12_mayTake_L162 ih hf) ⟨rfl, rfl, rfl, trivial⟩
      · replace hf := zif_t c115 hf
        refine x_aload_n dX12_mayTake_118 rfl rfl ?_
        refine x_iload dX12_mayTake_119 rfl ?_
        obtain ⟨r16, M15, hq14, hf⟩ := zb2E hf
        refine x_invVi dX12_mayTake_121 mk_X12_holds ml_X12_360 (cc_X12_holds hq14) rfl rfl rfl (Nat.le_of_ble_eq_true rfl) rfl (Nat.le_of_ble_eq_true rfl) rfl ?_
        refine x_if_eq (tgt := 162) dX12_mayTake_124 (by decide) (fun c124 => ?_) (fun c124 => ?_)
        · replace hf := zif_t c124 hf
          exact Ex.sb (cc_X12_mayTake_L162 ih hf) ⟨rfl, rfl, rfl, trivial⟩
        · replace hf := zif_f c124 hf
          refine x_aload_n dX12_mayTake_127 rfl rfl ?_
          refine x_getS (r := 79) dX12_mayTake_128 fl_X12_46 rfl rfl ?_
          refine x_iload dX12_mayTake_131 rfl ?_
          obtain ⟨v17, hv17, hf⟩ := zbind hf
          refine x_ild dX12_mayTake_133 rfl hv17 ?_
          refine x_aload_n dX12_mayTake_134 rfl rfl ?_
          refine x_getI dX12_mayTake_135 fl_X12_321 rfl rfl ?_
          refine x_icmp_ge (tgt := 160) dX12_mayTake_138 (by decide) (fun c138 => ?_) (fun c138 => ?_)
          · replace hf := zif_t c138 hf
            refine x_iconst (v := 0) dX12_mayTake_160 (by decide) ?_
            exact x_zret rfl rfl dX12_mayTake_161 (zretI hf)
          · replace hf := zif_f c138 hf
            refine x_aload_n dX12_mayTake_141 rfl rfl ?_
            refine x_iload_n dX12_mayTake_142 rfl rfl ?_
            refine x_aload_n dX12_mayTake_143 rfl rfl ?_
            refine x_getS (r := 79) dX12_mayTake_144 fl_X12_46 rfl rfl ?_
            refine x_iload dX12_mayTake_147 rfl ?_
            obtain ⟨v18, hv18, hf⟩ := zbind hf
            refine x_ild dX12_mayTake_149 rfl hv18 ?_
            refine x_aload_n dX12_mayTake_150 rfl rfl ?_
            refine x_getI dX12_mayTake_151 fl_X12_327 rfl rfl ?_
            obtain ⟨r21, M20, hq19, hf⟩ := zb2E hf
            refine x_invVi dX12_mayTake_154 mk_X12_hasStep ml_X12_330 (cc_X12_hasStep hq19) rfl rfl rfl (Nat.le_of_ble_eq_true rfl) rfl (Nat.le_of_ble_eq_true rfl) rfl ?_
            refine x_if_ne (tgt := 162) dX12_mayTake_157 (by decide) (fun c157 => ?_) (fun c157 => ?_)
            · replace hf := zif_f c157 hf
              exact Ex.sb (cc_X12_mayTake_L162 ih hf) ⟨rfl, rfl, rfl, trivial⟩
            · replace hf := zif_t c157 hf
              refine x_iconst (v := 0) dX12_mayTake_160 (by decide) ?_
              exact x_zret rfl rfl dX12_mayTake_161 (zretI hf)
theorem cc_X12_mayTake {l : Launch} {G : zG} {N : Nat} {x1 : Int32} {x2 : Int32} {x3 : Int32}  {M : zMem} {r : Int32} {M1 : zMem} (hf : fX12_mayTake N x1 x2 x3 M = some (r, M1)) : Ca l G 2 mX12_mayTake [.ref (G.2.2.1 69), .int x1, .int x2, .int x3] M (some (.int r)) M1 := by
  refine Ca.of (by decide +kernel) (Nat.le_of_ble_eq_true rfl) rfl ?_
  rw [fX12_mayTake] at hf
  refine x_aload_n dX12_mayTake_0 rfl rfl ?_
  refine x_getS (r := 106) dX12_mayTake_1 fl_X12_128 rfl rfl ?_
  refine x_bipush (v := 8) dX12_mayTake_4 (by decide) ?_
  refine x_aload_n dX12_mayTake_6 rfl rfl ?_
  refine x_getI dX12_mayTake_7 fl_X12_327 rfl rfl ?_
  refine x_imul dX12_mayTake_10 ?_
  refine x_iload_n dX12_mayTake_11 rfl rfl ?_
  refine x_iadd dX12_mayTake_12 ?_
  obtain ⟨v1, hv1, hf⟩ := zbind hf
  refine x_ild dX12_mayTake_13 rfl hv1 ?_
  refine x_iload_n dX12_mayTake_14 rfl rfl ?_
  refine x_bipush (v := 60) dX12_mayTake_15 (by decide) ?_
  refine x_idiv dX12_mayTake_17 (by decide) ?_
  refine x_ishr dX12_mayTake_18 ?_
  refine x_iconst (v := 1) dX12_mayTake_19 (by decide) ?_
  refine x_iand dX12_mayTake_20 ?_
  refine x_if_eq (tgt := 62) dX12_mayTake_21 (by decide) (fun c21 => ?_) (fun c21 => ?_)
  · replace hf := zif_t c21 hf
    refine x_iconst (v := 0) dX12_mayTake_62 (by decide) ?_
    exact x_zret rfl rfl dX12_mayTake_63 (zretI hf)
  · replace hf := zif_f c21 hf
    refine x_aload_n dX12_mayTake_24 rfl rfl ?_
    refine x_getS (r := 127) dX12_mayTake_25 fl_X12_191 rfl rfl ?_
    refine x_iload_n dX12_mayTake_28 rfl rfl ?_
    obtain ⟨v2, hv2, hf⟩ := zbind hf
    refine x_ild dX12_mayTake_29 rfl hv2 ?_
    refine x_iconst (v := -1) dX12_mayTake_30 (by decide) ?_
    refine x_icmp_ne (tgt := 62) dX12_mayTake_31 (by decide) (fun c31 => ?_) (fun c31 => ?_)
    · replace hf := zif_f c31 hf
      refine x_iconst (v := 0) dX12_mayTake_62 (by decide) ?_
      exact x_zret rfl rfl dX12_mayTake_63 (zretI hf)
    · replace hf := zif_t c31 hf
      refine x_iload_n dX12_mayTake_34 rfl rfl ?_
      refine x_aload_n dX12_mayTake_35 rfl rfl ?_
      refine x_getS (r := 128) dX12_mayTake_36 fl_X12_194 rfl rfl ?_
      refine x_iload_n dX12_mayTake_39 rfl rfl ?_
      obtain ⟨v3, hv3, hf⟩ := zbind hf
      refine x_ild dX12_mayTake_40 rfl hv3 ?_
      refine x_icmp_lt (tgt := 62) dX12_mayTake_41 (by decide) (fun c41 => ?_) (fun c41 => ?_)
      · replace hf := zif_t c41 hf
        refine x_iconst (v := 0) dX12_mayTake_62 (by decide) ?_
        exact x_zret rfl rfl dX12_mayTake_63 (zretI hf)
      · replace hf := zif_f c41 hf
        refine x_aload_n dX12_mayTake_44 rfl rfl ?_
        refine x_aload_n dX12_mayTake_45 rfl rfl ?_
        refine x_getS (r := 114) dX12_mayTake_46 fl_X12_152 rfl rfl ?_
        refine x_iload_n dX12_mayTake_49 rfl rfl ?_
        obtain ⟨v4, hv4, hf⟩ := zbind hf
        refine x_ild dX12_mayTake_50 rfl hv4 ?_
        refine x_iload_n dX12_mayTake_51 rfl rfl ?_
        refine x_aload_n dX12_mayTake_52 rfl rfl ?_
        refine x_getI dX12_mayTake_53 fl_X12_327 rfl rfl ?_
        obtain ⟨r7, M6, hq5, hf⟩ := zb2E hf
        refine x_invVi dX12_mayTake_56 mk_X12_isBarred ml_X12_363 (cc_X12_isBarred hq5) rfl rfl rfl (Nat.le_of_ble_eq_true rfl) rfl (Nat.le_of_ble_eq_true rfl) rfl ?_
        refine x_if_eq (tgt := 64) dX12_mayTake_59 (by decide) (fun c59 => ?_) (fun c59 => ?_)
        · replace hf := zif_t c59 hf
          refine x_aload_n dX12_mayTake_64 rfl rfl ?_
          refine x_iload_n dX12_mayTake_65 rfl rfl ?_
          refine x_iload_n dX12_mayTake_66 rfl rfl ?_
          refine x_aload_n dX12_mayTake_67 rfl rfl ?_
          refine x_getS (r := 129) dX12_mayTake_68 fl_X12_197 rfl rfl ?_
          refine x_iload_n dX12_mayTake_71 rfl rfl ?_
          obtain ⟨v8, hv8, hf⟩ := zbind hf
          refine x_ild dX12_mayTake_72 rfl hv8 ?_
          obtain ⟨M10, hq9, hf⟩ := zbind hf
          refine x_invVv dX12_mayTake_73 mk_X12_asks ml_X12_356 (cc_X12_asks hq9) rfl rfl rfl (Nat.le_of_ble_eq_true rfl) rfl (Nat.le_of_ble_eq_true rfl) rfl ?_
          refine x_bipush (v := 20) dX12_mayTake_76 (by decide) ?_
          refine x_aload_n dX12_mayTake_78 rfl rfl ?_
          refine x_getI dX12_mayTake_79 fl_X12_283 rfl rfl ?_
          refine x_imul dX12_mayTake_82 ?_
          obtain ⟨x4_11, ex4_11, hf⟩ := zletE hf
          refine x_istore dX12_mayTake_83 (Nat.le_of_ble_eq_true rfl) ex4_11 ?_
          exact Ex.sb (cc_X12_mayTake_L85  hf) ⟨rfl, rfl, rfl, trivial⟩
        · replace hf := zif_f c59 hf
          refine x_iconst (v := 0) dX12_mayTake_62 (by decide) ?_
          exact x_zret rfl rfl dX12_mayTake_63 (zretI hf)
theorem cc_X12_takes_L49 {l : Launch} {G : zG} {N : Nat} {k5 : Int32 → Int32 → Int32 → Int32 → zMem → Option zMem} (hk5 : ∀ {x1 : Int32} {x2 : Int32} {x3 : Int32} {x4 : Int32} {M : zMem} {M1 : zMem}, k5 x1 x2 x3 x4 M = some M1 → Ex l G 3 mX12_takes 5 [(0, .ref (G.2.2.1 69)), (1, .int x1), (2, .int x2), (3, .int x3), (4, .int x4)] [] M (zqV M1)) {x1 : Int32} {x2 : Int32} {x3 : Int32} {x4 : Int32} {M : zMem} {M1 : zMem} (hf : fX12_takes_L49 N k5 x1 x2 x3 x4 M = some M1) : Ex l G 3 mX12_takes 49 [(0, .ref (G.2.2.1 69)), (1, .int x1), (2, .int x2), (3, .int x3), (4, .int x4)] [] M (zqV M1) := by
  rw [fX12_takes_L49] at hf
  obtain ⟨x4_13, ex4_13, hf⟩ := zletE hf
  refine x_iinc (c0 := 1) dX12_takes_49 rfl (Nat.le_of_ble_eq_true rfl) (by decide) ex4_13 ?_
  refine x_goto (tgt := 5) dX12_takes_52 (by decide) ?_
  exact Ex.sb (hk5 hf) ⟨rfl, rfl, rfl, rfl, rfl, trivial⟩
theorem cc_X12_takes_L35 {l : Launch} {G : zG} {N : Nat} {k5 : Int32 → Int32 → Int32 → Int32 → zMem → Option zMem} (hk5 : ∀ {x1 : Int32} {x2 : Int32} {x3 : Int32} {x4 : Int32} {M : zMem} {M1 : zMem}, k5 x1 x2 x3 x4 M = some M1 → Ex l G 3 mX12_takes 5 [(0, .ref (G.2.2.1 69)), (1, .int x1), (2, .int x2), (3, .int x3), (4, .int x4)] [] M (zqV M1)) {x1 : Int32} {x2 : Int32} {x3 : Int32} {x4 : Int32} {M : zMem} {M1 : zMem} (hf : fX12_takes_L35 N k5 x1 x2 x3 x4 M = some M1) : Ex l G 3 mX12_takes 35 [(0, .ref (G.2.2.1 69)), (1, .int x1), (2, .int x2), (3, .int x3), (4, .int x4)] [] M (zqV M1) := by
  rw [fX12_takes_L35] at hf
  refine x_aload_n dX12_takes_35 rfl rfl ?_
  refine x_iload dX12_takes_36 rfl ?_
  refine x_iload_n dX12_takes_38 rfl rfl ?_
  refine x_iload_n dX12_takes_39 rfl rfl ?_
  obtain ⟨r12, M11, hq10, hf⟩ := zb2E hf
  refine x_invVi dX12_takes_40 mk_X12_mayTake ml_X12_366 (cc_X12_mayTake hq10) rfl rfl rfl (Nat.le_of_ble_eq_true rfl) rfl (Nat.le_of_ble_eq_true rfl) rfl ?_
  refine x_if_eq (tgt := 49) dX12_takes_43 (by decide) (fun c43 => ?_) (fun c43 => ?_)
  · replace hf := zif_t c43 hf
    exact Ex.sb (cc_X12_takes_L49 hk5 hf) ⟨rfl, rfl, rfl, rfl, rfl, trivial⟩
  · replace hf := zif_f c43 hf
    refine x_iload dX12_takes_46 rfl ?_
    refine x_istore_n dX12_takes_48 rfl (Nat.le_of_ble_eq_true rfl) rfl ?_
    exact Ex.sb (cc_X12_takes_L49 hk5 hf) ⟨rfl, rfl, rfl, rfl, rfl, trivial⟩
theorem cc_X12_takes_L5 {l : Launch} {G : zG} {N : Nat} : ∀ {n : Nat} {x1 : Int32} {x2 : Int32} {x3 : Int32} {x4 : Int32} {M : zMem} {M1 : zMem}, fX12_takes_L5 N n x1 x2 x3 x4 M = some M1 → Ex l G 3 mX12_takes 5 [(0, .ref (G.2.2.1 69)), (1, .int x1), (2, .int x2), (3, .int x3), (4, .int x4)] [] M (zqV M1) := by
  intro n
  induction n with
  | zero => intro x1 x2 x3 x4 M M1 hf; cases hf
  | succ n ih =>
    intro x1 x2 x3 x4 M M1 hf
    rw [fX12_takes_L5] at hf
    refine x_iload dX12_takes_5 rfl ?_
    refine x_aload_n dX12_takes_7 rfl rfl ?_
    refine x_getI dX12_takes_8 fl_X12_318 rfl rfl ?_
    refine x_icmp_ge (tgt := 55) dX12_takes_11 (by decide) (fun c11 => ?_) (fun c11 => ?_)
    · replace hf := zif_t c11 hf
      refine x_iload_n dX12_takes_55 rfl rfl ?_
      refine x_iconst (v := -1) dX12_takes_56 (by decide) ?_
      refine x_icmp_ne (tgt := 61) dX12_takes_57 (by decide) (fun c57 => ?_) (fun c57 => ?_)
      · replace hf := zif_f c57 hf
        refine x_aload_n dX12_takes_61 rfl rfl ?_
        refine x_getS (r := 118) dX12_takes_62 fl_X12_164 rfl rfl ?_
        refine x_iload_n dX12_takes_65 rfl rfl ?_
        refine x_iconst (v := 1) dX12_takes_66 (by decide) ?_
        obtain ⟨M1, hM1, hf⟩ := zbind hf
        refine x_ist dX12_takes_67 rfl hM1 ?_
        refine x_aload_n dX12_takes_68 rfl rfl ?_
        refine x_getS (r := 119) dX12_takes_69 fl_X12_167 rfl rfl ?_
        refine x_iload_n dX12_takes_72 rfl rfl ?_
        refine x_iload_n dX12_takes_73 rfl rfl ?_
        obtain ⟨M2, hM2, hf⟩ := zbind hf
        refine x_ist dX12_takes_74 rfl hM2 ?_
        refine x_aload_n dX12_takes_75 rfl rfl ?_
        refine x_getS (r := 120) dX12_takes_76 fl_X12_170 rfl rfl ?_
        refine x_iload_n dX12_takes_79 rfl rfl ?_
        refine x_iload_n dX12_takes_80 rfl rfl ?_
        obtain ⟨M3, hM3, hf⟩ := zbind hf
        refine x_ist dX12_takes_81 rfl hM3 ?_
        refine x_aload_n dX12_takes_82 rfl rfl ?_
        refine x_getS (r := 126) dX12_takes_83 fl_X12_188 rfl rfl ?_
        refine x_iload_n dX12_takes_86 rfl rfl ?_
        refine x_iconst (v := 0) dX12_takes_87 (by decide) ?_
        obtain ⟨M4, hM4, hf⟩ := zbind hf
        refine x_zst dX12_takes_88 rfl hM4 ?_
        refine x_aload_n dX12_takes_89 rfl rfl ?_
        refine x_getS (r := 127) dX12_takes_90 fl_X12_191 rfl rfl ?_
        refine x_iload_n dX12_takes_93 rfl rfl ?_
        refine x_iload_n dX12_takes_94 rfl rfl ?_
        obtain ⟨M5, hM5, hf⟩ := zbind hf
        refine x_ist dX12_takes_95 rfl hM5 ?_
        refine x_aload_n dX12_takes_96 rfl rfl ?_
        refine x_getS (r := 115) dX12_takes_97 fl_X12_155 rfl rfl ?_
        refine x_iload_n dX12_takes_100 rfl rfl ?_
        obtain ⟨v6, hv6, hf⟩ := zbind hf
        refine x_ild dX12_takes_101 rfl hv6 ?_
        refine x_bipush (v := 7) dX12_takes_102 (by decide) ?_
        refine x_icmp_le (tgt := 123) dX12_takes_104 (by decide) (fun c104 => ?_) (fun c104 => ?_)
        · replace hf := zif_t c104 hf
          exact x_vret rfl dX12_takes_123 (zretV hf)
        · replace hf := zif_f c104 hf
          refine x_aload_n dX12_takes_107 rfl rfl ?_
          refine x_getS (r := 97) dX12_takes_108 fl_X12_101 rfl rfl ?_
          refine x_sipush (v := 200) dX12_takes_111 (by decide) ?_
          refine x_iload_n dX12_takes_114 rfl rfl ?_
          refine x_imul dX12_takes_115 ?_
          refine x_aload_n dX12_takes_116 rfl rfl ?_
          refine x_getI dX12_takes_117 fl_X12_327 rfl rfl ?_
          refine x_iadd dX12_takes_120 ?_
          refine x_iconst (v := 1) dX12_takes_121 (by decide) ?_
          obtain ⟨M7, hM7, hf⟩ := zbind hf
          refine x_zst dX12_takes_122 rfl hM7 ?_
          exact x_vret rfl dX12_takes_123 (zretV hf)
      · replace hf := zif_t c57 hf
        exact x_vret rfl dX12_takes_60 (zretV hf)
    · replace hf := zif_f c11 hf
      refine x_iload_n dX12_takes_14 rfl rfl ?_
      refine x_iconst (v := -1) dX12_takes_15 (by decide) ?_
      refine x_icmp_eq (tgt := 35) dX12_takes_16 (by decide) (fun c16 => ?_) (fun c16 => ?_)
      · replace hf := zif_t c16 hf
        exact Ex.sb (cc_X12_takes_L35 ih hf) ⟨rfl, rfl, rfl, rfl, rfl, trivial⟩
      · replace hf := zif_f c16 hf
        refine x_aload_n dX12_takes_19 rfl rfl ?_
        refine x_getS (r := 129) dX12_takes_20 fl_X12_197 rfl rfl ?_
        refine x_iload dX12_takes_23 rfl ?_
        obtain ⟨v8, hv8, hf⟩ := zbind hf
        refine x_ild dX12_takes_25 rfl hv8 ?_
        refine x_aload_n dX12_takes_26 rfl rfl ?_
        refine x_getS (r := 129) dX12_takes_27 fl_X12_197 rfl rfl ?_
        refine x_iload_n dX12_takes_30 rfl rfl ?_
        obtain ⟨v9, hv9, hf⟩ := zbind hf
        refine x_ild dX12_takes_31 rfl hv9 ?_
        refine x_icmp_ge (tgt := 49) dX12_takes_32 (by decide) (fun c32 => ?_) (fun c32 => ?_)
        · replace hf := zif_t c32 hf
          exact Ex.sb (cc_X12_takes_L49 ih hf) ⟨rfl, rfl, rfl, rfl, rfl, trivial⟩
        · replace hf := zif_f c32 hf
          exact Ex.sb (cc_X12_takes_L35 ih hf) ⟨rfl, rfl, rfl, rfl, rfl, trivial⟩
theorem cc_X12_takes {l : Launch} {G : zG} {N : Nat} {x1 : Int32} {x2 : Int32}  {M : zMem} {M1 : zMem} (hf : fX12_takes N x1 x2 M = some M1) : Ca l G 3 mX12_takes [.ref (G.2.2.1 69), .int x1, .int x2] M none M1 := by
  refine Ca.of (by decide +kernel) (Nat.le_of_ble_eq_true rfl) rfl ?_
  rw [fX12_takes] at hf
  refine x_iconst (v := -1) dX12_takes_0 (by decide) ?_
  refine x_istore_n dX12_takes_1 rfl (Nat.le_of_ble_eq_true rfl) rfl ?_
  refine x_iconst (v := 0) dX12_takes_2 (by decide) ?_
  refine x_istore dX12_takes_3 (Nat.le_of_ble_eq_true rfl) rfl ?_
  exact Ex.sb (cc_X12_takes_L5  hf) ⟨rfl, rfl, rfl, rfl, rfl, trivial⟩
theorem cc_X12_oneMinute_L43 {l : Launch} {G : zG} {N : Nat} {k2 : Int32 → Int32 → Int32 → zMem → Option zMem} (hk2 : ∀ {x1 : Int32} {x2 : Int32} {x3 : Int32} {M : zMem} {M1 : zMem}, k2 x1 x2 x3 M = some M1 → Ex l G 4 mX12_oneMinute 2 [(0, .ref (G.2.2.1 69)), (1, .int x1), (2, .int x2), (3, .int x3)] [] M (zqV M1)) {x1 : Int32} {x2 : Int32} {x3 : Int32} {M : zMem} {M1 : zMem} (hf : fX12_oneMinute_L43 N k2 x1 x2 x3 M = some M1) : Ex l G 4 mX12_oneMinute 43 [(0, .ref (G.2.2.1 69)), (1, .int x1), (2, .int x2), (3, .int x3)] [] M (zqV M1) := by
  rw [fX12_oneMinute_L43] at hf
  obtain ⟨x3_8, ex3_8, hf⟩ := zletE hf
  refine x_iinc (c0 := 1) dX12_oneMinute_43 rfl (Nat.le_of_ble_eq_true rfl) (by decide) ex3_8 ?_
  refine x_goto (tgt := 2) dX12_oneMinute_46 (by decide) ?_
  exact Ex.sb (hk2 hf) ⟨rfl, rfl, rfl, rfl, trivial⟩
theorem cc_X12_oneMinute_L76 {l : Launch} {G : zG} {N : Nat} {k51 : Int32 → Int32 → Int32 → zMem → Option zMem} (hk51 : ∀ {x1 : Int32} {x2 : Int32} {x3 : Int32} {M : zMem} {M1 : zMem}, k51 x1 x2 x3 M = some M1 → Ex l G 4 mX12_oneMinute 51 [(0, .ref (G.2.2.1 69)), (1, .int x1), (2, .int x2), (3, .int x3)] [] M (zqV M1)) {x1 : Int32} {x2 : Int32} {x3 : Int32} {M : zMem} {M1 : zMem} (hf : fX12_oneMinute_L76 N k51 x1 x2 x3 M = some M1) : Ex l G 4 mX12_oneMinute 76 [(0, .ref (G.2.2.1 69)), (1, .int x1), (2, .int x2), (3, .int x3)] [] M (zqV M1) := by
  rw [fX12_oneMinute_L76] at hf
  obtain ⟨x3_16, ex3_16, hf⟩ := zletE hf
  refine x_iinc (c0 := 1) dX12_oneMinute_76 rfl (Nat.le_of_ble_eq_true rfl) (by decide) ex3_16 ?_
  refine x_goto (tgt := 51) dX12_oneMinute_79 (by decide) ?_
  exact Ex.sb (hk51 hf) ⟨rfl, rfl, rfl, rfl, trivial⟩
theorem cc_X12_oneMinute_L134 {l : Launch} {G : zG} {N : Nat} {k84 : Int32 → Int32 → Int32 → zMem → Option zMem} (hk84 : ∀ {x1 : Int32} {x2 : Int32} {x3 : Int32} {M : zMem} {M1 : zMem}, k84 x1 x2 x3 M = some M1 → Ex l G 4 mX12_oneMinute 84 [(0, .ref (G.2.2.1 69)), (1, .int x1), (2, .int x2), (3, .int x3)] [] M (zqV M1)) {x1 : Int32} {x2 : Int32} {x3 : Int32} {M : zMem} {M1 : zMem} (hf : fX12_oneMinute_L134 N k84 x1 x2 x3 M = some M1) : Ex l G 4 mX12_oneMinute 134 [(0, .ref (G.2.2.1 69)), (1, .int x1), (2, .int x2), (3, .int x3)] [] M (zqV M1) := by
  rw [fX12_oneMinute_L134] at hf
  obtain ⟨x3_24, ex3_24, hf⟩ := zletE hf
  refine x_iinc (c0 := 1) dX12_oneMinute_134 rfl (Nat.le_of_ble_eq_true rfl) (by decide) ex3_24 ?_
  refine x_goto (tgt := 84) dX12_oneMinute_137 (by decide) ?_
  exact Ex.sb (hk84 hf) ⟨rfl, rfl, rfl, rfl, trivial⟩
theorem cc_X12_oneMinute_L192 {l : Launch} {G : zG} {N : Nat} {k145 : Int32 → Int32 → Int32 → Int32 → zMem → Option zMem} (hk145 : ∀ {x1 : Int32} {x2 : Int32} {x3 : Int32} {x4 : Int32} {M : zMem} {M1 : zMem}, k145 x1 x2 x3 x4 M = some M1 → Ex l G 4 mX12_oneMinute 145 [(0, .ref (G.2.2.1 69)), (1, .int x1), (2, .int x2), (3, .int x3), (4, .int x4)] [] M (zqV M1)) {x1 : Int32} {x2 : Int32} {x3 : Int32} {x4 : Int32} {M : zMem} {M1 : zMem} (hf : fX12_oneMinute_L192 N k145 x1 x2 x3 x4 M = some M1) : Ex l G 4 mX12_oneMinute 192 [(0, .ref (G.2.2.1 69)), (1, .int x1), (2, .int x2), (3, .int x3), (4, .int x4)] [] M (zqV M1) := by
  rw [fX12_oneMinute_L192] at hf
  obtain ⟨x4_25, ex4_25, hf⟩ := zletE hf
  refine x_iinc (c0 := 1) dX12_oneMinute_192 rfl (Nat.le_of_ble_eq_true rfl) (by decide) ex4_25 ?_
  refine x_goto (tgt := 145) dX12_oneMinute_195 (by decide) ?_
  exact Ex.sb (hk145 hf) ⟨rfl, rfl, rfl, rfl, rfl, trivial⟩
theorem cc_X12_oneMinute_L264 {l : Launch} {G : zG} {N : Nat} {k198 : Int32 → Int32 → Int32 → zMem → Option zMem} {k208 : Int32 → Int32 → Int32 → Int32 → Int32 → zMem → Option zMem} (hk198 : ∀ {x1 : Int32} {x2 : Int32} {x3 : Int32} {M : zMem} {M1 : zMem}, k198 x1 x2 x3 M = some M1 → Ex l G 4 mX12_oneMinute 198 [(0, .ref (G.2.2.1 69)), (1, .int x1), (2, .int x2), (3, .int x3)] [] M (zqV M1)) (hk208 : ∀ {x1 : Int32} {x2 : Int32} {x3 : Int32} {x4 : Int32} {x5 : Int32} {M : zMem} {M1 : zMem}, k208 x1 x2 x3 x4 x5 M = some M1 → Ex l G 4 mX12_oneMinute 208 [(0, .ref (G.2.2.1 69)), (1, .int x1), (2, .int x2), (3, .int x3), (4, .int x4), (5, .int x5)] [] M (zqV M1)) {x1 : Int32} {x2 : Int32} {x3 : Int32} {x4 : Int32} {x5 : Int32} {M : zMem} {M1 : zMem} (hf : fX12_oneMinute_L264 N k198 k208 x1 x2 x3 x4 x5 M = some M1) : Ex l G 4 mX12_oneMinute 264 [(0, .ref (G.2.2.1 69)), (1, .int x1), (2, .int x2), (3, .int x3), (4, .int x4), (5, .int x5)] [] M (zqV M1) := by
  rw [fX12_oneMinute_L264] at hf
  obtain ⟨x5_34, ex5_34, hf⟩ := zletE hf
  refine x_iinc (c0 := 1) dX12_oneMinute_264 rfl (Nat.le_of_ble_eq_true rfl) (by decide) ex5_34 ?_
  refine x_goto (tgt := 208) dX12_oneMinute_267 (by decide) ?_
  exact Ex.sb (hk208 hf) ⟨rfl, rfl, rfl, rfl, rfl, rfl, trivial⟩
theorem cc_X12_oneMinute_L260 {l : Launch} {G : zG} {N : Nat} {k198 : Int32 → Int32 → Int32 → zMem → Option zMem} {k208 : Int32 → Int32 → Int32 → Int32 → Int32 → zMem → Option zMem} (hk198 : ∀ {x1 : Int32} {x2 : Int32} {x3 : Int32} {M : zMem} {M1 : zMem}, k198 x1 x2 x3 M = some M1 → Ex l G 4 mX12_oneMinute 198 [(0, .ref (G.2.2.1 69)), (1, .int x1), (2, .int x2), (3, .int x3)] [] M (zqV M1)) (hk208 : ∀ {x1 : Int32} {x2 : Int32} {x3 : Int32} {x4 : Int32} {x5 : Int32} {M : zMem} {M1 : zMem}, k208 x1 x2 x3 x4 x5 M = some M1 → Ex l G 4 mX12_oneMinute 208 [(0, .ref (G.2.2.1 69)), (1, .int x1), (2, .int x2), (3, .int x3), (4, .int x4), (5, .int x5)] [] M (zqV M1)) {x1 : Int32} {x2 : Int32} {x3 : Int32} {x5 : Int32} {M : zMem} {M1 : zMem} (hf : fX12_oneMinute_L260 N k198 k208 x1 x2 x3 x5 M = some M1) : Ex l G 4 mX12_oneMinute 260 [(0, .ref (G.2.2.1 69)), (1, .int x1), (2, .int x2), (3, .int x3), (5, .int x5)] [] M (zqV M1) := by
  rw [fX12_oneMinute_L260] at hf
  refine x_iload dX12_oneMinute_260 rfl ?_
  refine x_istore dX12_oneMinute_262 (Nat.le_of_ble_eq_true rfl) rfl ?_
  exact Ex.sb (cc_X12_oneMinute_L264 hk198 hk208 hf) ⟨rfl, rfl, rfl, rfl, rfl, rfl, trivial⟩
theorem cc_X12_oneMinute_L208 {l : Launch} {G : zG} {N : Nat} {k198 : Int32 → Int32 → Int32 → zMem → Option zMem} (hk198 : ∀ {x1 : Int32} {x2 : Int32} {x3 : Int32} {M : zMem} {M1 : zMem}, k198 x1 x2 x3 M = some M1 → Ex l G 4 mX12_oneMinute 198 [(0, .ref (G.2.2.1 69)), (1, .int x1), (2, .int x2), (3, .int x3)] [] M (zqV M1)) : ∀ {n : Nat} {x1 : Int32} {x2 : Int32} {x3 : Int32} {x4 : Int32} {x5 : Int32} {M : zMem} {M1 : zMem}, fX12_oneMinute_L208 N k198 n x1 x2 x3 x4 x5 M = some M1 → Ex l G 4 mX12_oneMinute 208 [(0, .ref (G.2.2.1 69)), (1, .int x1), (2, .int x2), (3, .int x3), (4, .int x4), (5, .int x5)] [] M (zqV M1) := by
  intro n
  induction n with
  | zero => intro x1 x2 x3 x4 x5 M M1 hf; cases hf
  | succ n ih =>
    intro x1 x2 x3 x4 x5 M M1 hf
    rw [fX12_oneMinute_L208] at hf
    refine x_iload dX12_oneMinute_208 rfl ?_
    refine x_aload_n dX12_oneMinute_210 rfl rfl ?_
    refine x_getI dX12_oneMinute_211 fl_X12_350 rfl rfl ?_
    refine x_icmp_ge (tgt := 270) dX12_oneMinute_214 (by decide) (fun c214 => ?_) (fun c214 => ?_)
    · replace hf := zif_t c214 hf
      refine x_aload_n dX12_oneMinute_270 rfl rfl ?_
      refine x_getS (r := 130) dX12_oneMinute_271 fl_X12_200 rfl rfl ?_
      refine x_iload dX12_oneMinute_274 rfl ?_
      refine x_iconst (v := 1) dX12_oneMinute_276 (by decide) ?_
      obtain ⟨M26, hM26, hf⟩ := zbind hf
      refine x_zst dX12_oneMinute_277 rfl hM26 ?_
      refine x_aload_n dX12_oneMinute_278 rfl rfl ?_
      refine x_iload dX12_oneMinute_279 rfl ?_
      refine x_iload_n dX12_oneMinute_281 rfl rfl ?_
      obtain ⟨M28, hq27, hf⟩ := zbind hf
      refine x_invVv dX12_oneMinute_282 mk_X12_takes ml_X12_385 (cc_X12_takes hq27) rfl rfl rfl (Nat.le_of_ble_eq_true rfl) rfl (Nat.le_of_ble_eq_true rfl) rfl ?_
      obtain ⟨x3_29, ex3_29, hf⟩ := zletE hf
      refine x_iinc (c0 := -1) dX12_oneMinute_285 rfl (Nat.le_of_ble_eq_true rfl) (by decide) ex3_29 ?_
      refine x_goto (tgt := 198) dX12_oneMinute_288 (by decide) ?_
      exact Ex.sb (hk198 hf) ⟨rfl, rfl, rfl, rfl, trivial⟩
    · replace hf := zif_f c214 hf
      refine x_aload_n dX12_oneMinute_217 rfl rfl ?_
      refine x_getS (r := 126) dX12_oneMinute_218 fl_X12_188 rfl rfl ?_
      refine x_iload dX12_oneMinute_221 rfl ?_
      obtain ⟨v30, hv30, hf⟩ := zbind hf
      refine x_zld dX12_oneMinute_223 rfl hv30 ?_
      refine x_if_eq (tgt := 264) dX12_oneMinute_224 (by decide) (fun c224 => ?_) (fun c224 => ?_)
      · replace hf := zif_t c224 hf
        exact Ex.sb (cc_X12_oneMinute_L264 hk198 ih hf) ⟨rfl, rfl, rfl, rfl, rfl, rfl, trivial⟩
      · replace hf := zif_f c224 hf
        refine x_aload_n dX12_oneMinute_227 rfl rfl ?_
        refine x_getS (r := 130) dX12_oneMinute_228 fl_X12_200 rfl rfl ?_
        refine x_iload dX12_oneMinute_231 rfl ?_
        obtain ⟨v31, hv31, hf⟩ := zbind hf
        refine x_zld dX12_oneMinute_233 rfl hv31 ?_
        refine x_if_ne (tgt := 264) dX12_oneMinute_234 (by decide) (fun c234 => ?_) (fun c234 => ?_)
        · replace hf := zif_f c234 hf
          exact Ex.sb (cc_X12_oneMinute_L264 hk198 ih hf) ⟨rfl, rfl, rfl, rfl, rfl, rfl, trivial⟩
        · replace hf := zif_t c234 hf
          refine x_iload dX12_oneMinute_237 rfl ?_
          refine x_iconst (v := -1) dX12_oneMinute_239 (by decide) ?_
          refine x_icmp_eq (tgt := 260) dX12_oneMinute_240 (by decide) (fun c240 => ?_) (fun c240 => ?_)
          · replace hf := zif_t c240 hf
            exact Ex.sb (cc_X12_oneMinute_L260 hk198 ih hf) ⟨rfl, rfl, rfl, rfl, rfl, trivial⟩
          · replace hf := zif_f c240 hf
            refine x_aload_n dX12_oneMinute_243 rfl rfl ?_
            refine x_getS (r := 125) dX12_oneMinute_244 fl_X12_185 rfl rfl ?_
            refine x_iload dX12_oneMinute_247 rfl ?_
            obtain ⟨v32, hv32, hf⟩ := zbind hf
            refine x_ild dX12_oneMinute_249 rfl hv32 ?_
            refine x_aload_n dX12_oneMinute_250 rfl rfl ?_
            refine x_getS (r := 125) dX12_oneMinute_251 fl_X12_185 rfl rfl ?_
            refine x_iload dX12_oneMinute_254 rfl ?_
            obtain ⟨v33, hv33, hf⟩ := zbind hf
            refine x_ild dX12_oneMinute_256 rfl hv33 ?_
            refine x_icmp_le (tgt := 264) dX12_oneMinute_257 (by decide) (fun c257 => ?_) (fun c257 => ?_)
            · replace hf := zif_t c257 hf
              exact Ex.sb (cc_X12_oneMinute_L264 hk198 ih hf) ⟨rfl, rfl, rfl, rfl, rfl, rfl, trivial⟩
            · replace hf := zif_f c257 hf
              exact Ex.sb (cc_X12_oneMinute_L260 hk198 ih hf) ⟨rfl, rfl, rfl, rfl, rfl, trivial⟩
theorem cc_X12_oneMinute_L198 {l : Launch} {G : zG} {N : Nat} : ∀ {n : Nat} {x1 : Int32} {x2 : Int32} {x3 : Int32} {M : zMem} {M1 : zMem}, fX12_oneMinute_L198 N n x1 x2 x3 M = some M1 → Ex l G 4 mX12_oneMinute 198 [(0, .ref (G.2.2.1 69)), (1, .int x1), (2, .int x2), (3, .int x3)] [] M (zqV M1) := by
  intro n
  induction n with
  | zero => intro x1 x2 x3 M M1 hf; cases hf
  | succ n ih =>
    intro x1 x2 x3 M M1 hf
    rw [fX12_oneMinute_L198] at hf
    refine x_iload_n dX12_oneMinute_198 rfl rfl ?_
    refine x_if_le (tgt := 291) dX12_oneMinute_199 (by decide) (fun c199 => ?_) (fun c199 => ?_)
    · replace hf := zif_t c199 hf
      exact x_vret rfl dX12_oneMinute_291 (zretV hf)
    · replace hf := zif_f c199 hf
      refine x_iconst (v := -1) dX12_oneMinute_202 (by decide) ?_
      refine x_istore dX12_oneMinute_203 (Nat.le_of_ble_eq_true rfl) rfl ?_
      refine x_iload_n dX12_oneMinute_205 rfl rfl ?_
      refine x_istore dX12_oneMinute_206 (Nat.le_of_ble_eq_true rfl) rfl ?_
      exact Ex.sb (cc_X12_oneMinute_L208 ih hf) ⟨rfl, rfl, rfl, rfl, rfl, rfl, trivial⟩
theorem cc_X12_oneMinute_L145 {l : Launch} {G : zG} {N : Nat} : ∀ {n : Nat} {x1 : Int32} {x2 : Int32} {x3 : Int32} {x4 : Int32} {M : zMem} {M1 : zMem}, fX12_oneMinute_L145 N n x1 x2 x3 x4 M = some M1 → Ex l G 4 mX12_oneMinute 145 [(0, .ref (G.2.2.1 69)), (1, .int x1), (2, .int x2), (3, .int x3), (4, .int x4)] [] M (zqV M1) := by
  intro n
  induction n with
  | zero => intro x1 x2 x3 x4 M M1 hf; cases hf
  | succ n ih =>
    intro x1 x2 x3 x4 M M1 hf
    rw [fX12_oneMinute_L145] at hf
    refine x_iload dX12_oneMinute_145 rfl ?_
    refine x_aload_n dX12_oneMinute_147 rfl rfl ?_
    refine x_getI dX12_oneMinute_148 fl_X12_350 rfl rfl ?_
    refine x_icmp_ge (tgt := 198) dX12_oneMinute_151 (by decide) (fun c151 => ?_) (fun c151 => ?_)
    · replace hf := zif_t c151 hf
      exact Ex.sb (cc_X12_oneMinute_L198  hf) ⟨rfl, rfl, rfl, rfl, trivial⟩
    · replace hf := zif_f c151 hf
      refine x_aload_n dX12_oneMinute_154 rfl rfl ?_
      refine x_getS (r := 126) dX12_oneMinute_155 fl_X12_188 rfl rfl ?_
      refine x_iload dX12_oneMinute_158 rfl ?_
      obtain ⟨v17, hv17, hf⟩ := zbind hf
      refine x_zld dX12_oneMinute_160 rfl hv17 ?_
      refine x_if_ne (tgt := 167) dX12_oneMinute_161 (by decide) (fun c161 => ?_) (fun c161 => ?_)
      · replace hf := zif_f c161 hf
        refine x_aload_n dX12_oneMinute_167 rfl rfl ?_
        refine x_getS (r := 125) dX12_oneMinute_168 fl_X12_185 rfl rfl ?_
        refine x_iload dX12_oneMinute_171 rfl ?_
        refine x_aload_n dX12_oneMinute_173 rfl rfl ?_
        refine x_iload dX12_oneMinute_174 rfl ?_
        refine x_iload_n dX12_oneMinute_176 rfl rfl ?_
        obtain ⟨r20, M19, hq18, hf⟩ := zb2E hf
        refine x_invVi dX12_oneMinute_177 mk_X12_firstOf ml_X12_382 (cc_X12_firstOf hq18) rfl rfl rfl (Nat.le_of_ble_eq_true rfl) rfl (Nat.le_of_ble_eq_true rfl) rfl ?_
        obtain ⟨M21, hM21, hf⟩ := zbind hf
        refine x_ist dX12_oneMinute_180 rfl hM21 ?_
        refine x_aload_n dX12_oneMinute_181 rfl rfl ?_
        refine x_getS (r := 130) dX12_oneMinute_182 fl_X12_200 rfl rfl ?_
        refine x_iload dX12_oneMinute_185 rfl ?_
        refine x_iconst (v := 0) dX12_oneMinute_187 (by decide) ?_
        obtain ⟨M22, hM22, hf⟩ := zbind hf
        refine x_zst dX12_oneMinute_188 rfl hM22 ?_
        obtain ⟨x3_23, ex3_23, hf⟩ := zletE hf
        refine x_iinc (c0 := 1) dX12_oneMinute_189 rfl (Nat.le_of_ble_eq_true rfl) (by decide) ex3_23 ?_
        exact Ex.sb (cc_X12_oneMinute_L192 ih hf) ⟨rfl, rfl, rfl, rfl, rfl, trivial⟩
      · replace hf := zif_t c161 hf
        refine x_goto (tgt := 192) dX12_oneMinute_164 (by decide) ?_
        exact Ex.sb (cc_X12_oneMinute_L192 ih hf) ⟨rfl, rfl, rfl, rfl, rfl, trivial⟩
theorem cc_X12_oneMinute_L84 {l : Launch} {G : zG} {N : Nat} : ∀ {n : Nat} {x1 : Int32} {x2 : Int32} {x3 : Int32} {M : zMem} {M1 : zMem}, fX12_oneMinute_L84 N n x1 x2 x3 M = some M1 → Ex l G 4 mX12_oneMinute 84 [(0, .ref (G.2.2.1 69)), (1, .int x1), (2, .int x2), (3, .int x3)] [] M (zqV M1) := by
  intro n
  induction n with
  | zero => intro x1 x2 x3 M M1 hf; cases hf
  | succ n ih =>
    intro x1 x2 x3 M M1 hf
    rw [fX12_oneMinute_L84] at hf
    refine x_iload_n dX12_oneMinute_84 rfl rfl ?_
    refine x_aload_n dX12_oneMinute_85 rfl rfl ?_
    refine x_getI dX12_oneMinute_86 fl_X12_350 rfl rfl ?_
    refine x_icmp_ge (tgt := 140) dX12_oneMinute_89 (by decide) (fun c89 => ?_) (fun c89 => ?_)
    · replace hf := zif_t c89 hf
      refine x_iconst (v := 0) dX12_oneMinute_140 (by decide) ?_
      refine x_istore_n dX12_oneMinute_141 rfl (Nat.le_of_ble_eq_true rfl) rfl ?_
      refine x_iload_n dX12_oneMinute_142 rfl rfl ?_
      refine x_istore dX12_oneMinute_143 (Nat.le_of_ble_eq_true rfl) rfl ?_
      exact Ex.sb (cc_X12_oneMinute_L145  hf) ⟨rfl, rfl, rfl, rfl, rfl, trivial⟩
    · replace hf := zif_f c89 hf
      refine x_aload_n dX12_oneMinute_92 rfl rfl ?_
      refine x_getS (r := 126) dX12_oneMinute_93 fl_X12_188 rfl rfl ?_
      refine x_iload_n dX12_oneMinute_96 rfl rfl ?_
      obtain ⟨v9, hv9, hf⟩ := zbind hf
      refine x_zld dX12_oneMinute_97 rfl hv9 ?_
      refine x_if_eq (tgt := 134) dX12_oneMinute_98 (by decide) (fun c98 => ?_) (fun c98 => ?_)
      · replace hf := zif_t c98 hf
        exact Ex.sb (cc_X12_oneMinute_L134 ih hf) ⟨rfl, rfl, rfl, rfl, trivial⟩
      · replace hf := zif_f c98 hf
        refine x_aload_n dX12_oneMinute_101 rfl rfl ?_
        refine x_iload_n dX12_oneMinute_102 rfl rfl ?_
        refine x_iload_n dX12_oneMinute_103 rfl rfl ?_
        obtain ⟨r12, M11, hq10, hf⟩ := zb2E hf
        refine x_invVi dX12_oneMinute_104 mk_X12_isDropped ml_X12_378 (cc_X12_isDropped hq10) rfl rfl rfl (Nat.le_of_ble_eq_true rfl) rfl (Nat.le_of_ble_eq_true rfl) rfl ?_
        refine x_if_ne (tgt := 113) dX12_oneMinute_107 (by decide) (fun c107 => ?_) (fun c107 => ?_)
        · replace hf := zif_f c107 hf
          refine x_aload_n dX12_oneMinute_113 rfl rfl ?_
          refine x_getS (r := 126) dX12_oneMinute_114 fl_X12_188 rfl rfl ?_
          refine x_iload_n dX12_oneMinute_117 rfl rfl ?_
          refine x_iconst (v := 0) dX12_oneMinute_118 (by decide) ?_
          obtain ⟨M13, hM13, hf⟩ := zbind hf
          refine x_zst dX12_oneMinute_119 rfl hM13 ?_
          refine x_aload_n dX12_oneMinute_120 rfl rfl ?_
          refine x_getS (r := 118) dX12_oneMinute_121 fl_X12_164 rfl rfl ?_
          refine x_iload_n dX12_oneMinute_124 rfl rfl ?_
          refine x_iconst (v := 2) dX12_oneMinute_125 (by decide) ?_
          obtain ⟨M14, hM14, hf⟩ := zbind hf
          refine x_ist dX12_oneMinute_126 rfl hM14 ?_
          refine x_aload_n dX12_oneMinute_127 rfl rfl ?_
          refine x_getS (r := 120) dX12_oneMinute_128 fl_X12_170 rfl rfl ?_
          refine x_iload_n dX12_oneMinute_131 rfl rfl ?_
          refine x_iload_n dX12_oneMinute_132 rfl rfl ?_
          obtain ⟨M15, hM15, hf⟩ := zbind hf
          refine x_ist dX12_oneMinute_133 rfl hM15 ?_
          exact Ex.sb (cc_X12_oneMinute_L134 ih hf) ⟨rfl, rfl, rfl, rfl, trivial⟩
        · replace hf := zif_t c107 hf
          refine x_goto (tgt := 134) dX12_oneMinute_110 (by decide) ?_
          exact Ex.sb (cc_X12_oneMinute_L134 ih hf) ⟨rfl, rfl, rfl, rfl, trivial⟩
theorem cc_X12_oneMinute_L51 {l : Launch} {G : zG} {N : Nat} : ∀ {n : Nat} {x1 : Int32} {x2 : Int32} {x3 : Int32} {M : zMem} {M1 : zMem}, fX12_oneMinute_L51 N n x1 x2 x3 M = some M1 → Ex l G 4 mX12_oneMinute 51 [(0, .ref (G.2.2.1 69)), (1, .int x1), (2, .int x2), (3, .int x3)] [] M (zqV M1) := by
  intro n
  induction n with
  | zero => intro x1 x2 x3 M M1 hf; cases hf
  | succ n ih =>
    intro x1 x2 x3 M M1 hf
    rw [fX12_oneMinute_L51] at hf
    refine x_iload_n dX12_oneMinute_51 rfl rfl ?_
    refine x_aload_n dX12_oneMinute_52 rfl rfl ?_
    refine x_getI dX12_oneMinute_53 fl_X12_350 rfl rfl ?_
    refine x_icmp_ge (tgt := 82) dX12_oneMinute_56 (by decide) (fun c56 => ?_) (fun c56 => ?_)
    · replace hf := zif_t c56 hf
      refine x_iload_n dX12_oneMinute_82 rfl rfl ?_
      refine x_istore_n dX12_oneMinute_83 rfl (Nat.le_of_ble_eq_true rfl) rfl ?_
      exact Ex.sb (cc_X12_oneMinute_L84  hf) ⟨rfl, rfl, rfl, rfl, trivial⟩
    · replace hf := zif_f c56 hf
      refine x_aload_n dX12_oneMinute_59 rfl rfl ?_
      refine x_getS (r := 113) dX12_oneMinute_60 fl_X12_149 rfl rfl ?_
      refine x_iload_n dX12_oneMinute_63 rfl rfl ?_
      obtain ⟨v6, hv6, hf⟩ := zbind hf
      refine x_ild dX12_oneMinute_64 rfl hv6 ?_
      refine x_iload_n dX12_oneMinute_65 rfl rfl ?_
      refine x_icmp_ne (tgt := 76) dX12_oneMinute_66 (by decide) (fun c66 => ?_) (fun c66 => ?_)
      · replace hf := zif_f c66 hf
        exact Ex.sb (cc_X12_oneMinute_L76 ih hf) ⟨rfl, rfl, rfl, rfl, trivial⟩
      · replace hf := zif_t c66 hf
        refine x_aload_n dX12_oneMinute_69 rfl rfl ?_
        refine x_getS (r := 126) dX12_oneMinute_70 fl_X12_188 rfl rfl ?_
        refine x_iload_n dX12_oneMinute_73 rfl rfl ?_
        refine x_iconst (v := 1) dX12_oneMinute_74 (by decide) ?_
        obtain ⟨M7, hM7, hf⟩ := zbind hf
        refine x_zst dX12_oneMinute_75 rfl hM7 ?_
        exact Ex.sb (cc_X12_oneMinute_L76 ih hf) ⟨rfl, rfl, rfl, rfl, trivial⟩
theorem cc_X12_oneMinute_L2 {l : Launch} {G : zG} {N : Nat} : ∀ {n : Nat} {x1 : Int32} {x2 : Int32} {x3 : Int32} {M : zMem} {M1 : zMem}, fX12_oneMinute_L2 N n x1 x2 x3 M = some M1 → Ex l G 4 mX12_oneMinute 2 [(0, .ref (G.2.2.1 69)), (1, .int x1), (2, .int x2), (3, .int x3)] [] M (zqV M1) := by
  intro n
  induction n with
  | zero => intro x1 x2 x3 M M1 hf; cases hf
  | succ n ih =>
    intro x1 x2 x3 M M1 hf
    rw [fX12_oneMinute_L2] at hf
    refine x_iload_n dX12_oneMinute_2 rfl rfl ?_
    refine x_aload_n dX12_oneMinute_3 rfl rfl ?_
    refine x_getI dX12_oneMinute_4 fl_X12_350 rfl rfl ?_
    refine x_icmp_ge (tgt := 49) dX12_oneMinute_7 (by decide) (fun c7 => ?_) (fun c7 => ?_)
    · replace hf := zif_t c7 hf
      refine x_iload_n dX12_oneMinute_49 rfl rfl ?_
      refine x_istore_n dX12_oneMinute_50 rfl (Nat.le_of_ble_eq_true rfl) rfl ?_
      exact Ex.sb (cc_X12_oneMinute_L51  hf) ⟨rfl, rfl, rfl, rfl, trivial⟩
    · replace hf := zif_f c7 hf
      refine x_aload_n dX12_oneMinute_10 rfl rfl ?_
      refine x_getS (r := 118) dX12_oneMinute_11 fl_X12_164 rfl rfl ?_
      refine x_iload_n dX12_oneMinute_14 rfl rfl ?_
      obtain ⟨v1, hv1, hf⟩ := zbind hf
      refine x_ild dX12_oneMinute_15 rfl hv1 ?_
      refine x_iconst (v := 1) dX12_oneMinute_16 (by decide) ?_
      refine x_icmp_ne (tgt := 43) dX12_oneMinute_17 (by decide) (fun c17 => ?_) (fun c17 => ?_)
      · replace hf := zif_f c17 hf
        exact Ex.sb (cc_X12_oneMinute_L43 ih hf) ⟨rfl, rfl, rfl, rfl, trivial⟩
      · replace hf := zif_t c17 hf
        refine x_aload_n dX12_oneMinute_20 rfl rfl ?_
        refine x_getS (r := 120) dX12_oneMinute_21 fl_X12_170 rfl rfl ?_
        refine x_iload_n dX12_oneMinute_24 rfl rfl ?_
        obtain ⟨v2, hv2, hf⟩ := zbind hf
        refine x_ild dX12_oneMinute_25 rfl hv2 ?_
        refine x_aload_n dX12_oneMinute_26 rfl rfl ?_
        refine x_getS (r := 117) dX12_oneMinute_27 fl_X12_161 rfl rfl ?_
        refine x_iload_n dX12_oneMinute_30 rfl rfl ?_
        obtain ⟨v3, hv3, hf⟩ := zbind hf
        refine x_ild dX12_oneMinute_31 rfl hv3 ?_
        refine x_iadd dX12_oneMinute_32 ?_
        refine x_iload_n dX12_oneMinute_33 rfl rfl ?_
        refine x_icmp_ne (tgt := 43) dX12_oneMinute_34 (by decide) (fun c34 => ?_) (fun c34 => ?_)
        · replace hf := zif_f c34 hf
          exact Ex.sb (cc_X12_oneMinute_L43 ih hf) ⟨rfl, rfl, rfl, rfl, trivial⟩
        · replace hf := zif_t c34 hf
          refine x_aload_n dX12_oneMinute_37 rfl rfl ?_
          refine x_iload_n dX12_oneMinute_38 rfl rfl ?_
          refine x_iload_n dX12_oneMinute_39 rfl rfl ?_
          obtain ⟨M5, hq4, hf⟩ := zbind hf
          refine x_invVv dX12_oneMinute_40 mk_X12_ends ml_X12_375 (cc_X12_ends hq4) rfl rfl rfl (Nat.le_of_ble_eq_true rfl) rfl (Nat.le_of_ble_eq_true rfl) rfl ?_
          exact Ex.sb (cc_X12_oneMinute_L43 ih hf) ⟨rfl, rfl, rfl, rfl, trivial⟩
theorem cc_X12_oneMinute {l : Launch} {G : zG} {N : Nat} {x1 : Int32} {x2 : Int32}  {M : zMem} {M1 : zMem} (hf : fX12_oneMinute N x1 x2 M = some M1) : Ca l G 4 mX12_oneMinute [.ref (G.2.2.1 69), .int x1, .int x2] M none M1 := by
  refine Ca.of (by decide +kernel) (Nat.le_of_ble_eq_true rfl) rfl ?_
  rw [fX12_oneMinute] at hf
  refine x_iload_n dX12_oneMinute_0 rfl rfl ?_
  refine x_istore_n dX12_oneMinute_1 rfl (Nat.le_of_ble_eq_true rfl) rfl ?_
  exact Ex.sb (cc_X12_oneMinute_L2  hf) ⟨rfl, rfl, rfl, rfl, trivial⟩
theorem cc_X12_go_L144 {l : Launch} {G : zG} {N : Nat} {k80 : Int32 → Int32 → zMem → Option (Int32 × zMem)} {k104 : Int32 → Int32 → Int32 → zMem → Option (Int32 × zMem)} (hk80 : ∀ {x1 : Int32} {x2 : Int32} {M : zMem} {r : Int32} {M1 : zMem}, k80 x1 x2 M = some (r, M1) → Ex l G 5 mX12_go 80 [(0, .ref (G.2.2.1 69)), (1, .int x1), (2, .int x2)] [] M (zqI r M1)) (hk104 : ∀ {x1 : Int32} {x2 : Int32} {x3 : Int32} {M : zMem} {r : Int32} {M1 : zMem}, k104 x1 x2 x3 M = some (r, M1) → Ex l G 5 mX12_go 104 [(0, .ref (G.2.2.1 69)), (1, .int x1), (2, .int x2), (3, .int x3)] [] M (zqI r M1)) {x1 : Int32} {x2 : Int32} {x3 : Int32} {M : zMem} {r : Int32} {M1 : zMem} (hf : fX12_go_L144 N k80 k104 x1 x2 x3 M = some (r, M1)) : Ex l G 5 mX12_go 144 [(0, .ref (G.2.2.1 69)), (1, .int x1), (2, .int x2), (3, .int x3)] [] M (zqI r M1) := by
  rw [fX12_go_L144] at hf
  obtain ⟨x3_23, ex3_23, hf⟩ := zletE hf
  refine x_iinc (c0 := 1) dX12_go_144 rfl (Nat.le_of_ble_eq_true rfl) (by decide) ex3_23 ?_
  refine x_goto (tgt := 104) dX12_go_147 (by decide) ?_
  exact Ex.sb (hk104 hf) ⟨rfl, rfl, rfl, rfl, trivial⟩
theorem cc_X12_go_L104 {l : Launch} {G : zG} {N : Nat} {k80 : Int32 → Int32 → zMem → Option (Int32 × zMem)} (hk80 : ∀ {x1 : Int32} {x2 : Int32} {M : zMem} {r : Int32} {M1 : zMem}, k80 x1 x2 M = some (r, M1) → Ex l G 5 mX12_go 80 [(0, .ref (G.2.2.1 69)), (1, .int x1), (2, .int x2)] [] M (zqI r M1)) : ∀ {n : Nat} {x1 : Int32} {x2 : Int32} {x3 : Int32} {M : zMem} {r : Int32} {M1 : zMem}, fX12_go_L104 N k80 n x1 x2 x3 M = some (r, M1) → Ex l G 5 mX12_go 104 [(0, .ref (G.2.2.1 69)), (1, .int x1), (2, .int x2), (3, .int x3)] [] M (zqI r M1) := by
  intro n
  induction n with
  | zero => intro x1 x2 x3 M r M1 hf; cases hf
  | succ n ih =>
    intro x1 x2 x3 M r M1 hf
    rw [fX12_go_L104] at hf
    refine x_iload_n dX12_go_104 rfl rfl ?_
    refine x_iload_n dX12_go_105 rfl rfl ?_
    refine x_icmp_ge (tgt := 150) dX12_go_106 (by decide) (fun c106 => ?_) (fun c106 => ?_)
    · replace hf := zif_t c106 hf
      obtain ⟨x2_13, ex2_13, hf⟩ := zletE hf
      refine x_iinc (c0 := 1) dX12_go_150 rfl (Nat.le_of_ble_eq_true rfl) (by decide) ex2_13 ?_
      refine x_goto (tgt := 80) dX12_go_153 (by decide) ?_
      exact Ex.sb (hk80 hf) ⟨rfl, rfl, rfl, trivial⟩
    · replace hf := zif_f c106 hf
      refine x_aload_n dX12_go_109 rfl rfl ?_
      refine x_getS (r := 114) dX12_go_110 fl_X12_152 rfl rfl ?_
      refine x_iload_n dX12_go_113 rfl rfl ?_
      obtain ⟨v14, hv14, hf⟩ := zbind hf
      refine x_ild dX12_go_114 rfl hv14 ?_
      refine x_aload_n dX12_go_115 rfl rfl ?_
      refine x_getS (r := 114) dX12_go_116 fl_X12_152 rfl rfl ?_
      refine x_iload_n dX12_go_119 rfl rfl ?_
      obtain ⟨v15, hv15, hf⟩ := zbind hf
      refine x_ild dX12_go_120 rfl hv15 ?_
      refine x_icmp_ne (tgt := 144) dX12_go_121 (by decide) (fun c121 => ?_) (fun c121 => ?_)
      · replace hf := zif_f c121 hf
        exact Ex.sb (cc_X12_go_L144 hk80 ih hf) ⟨rfl, rfl, rfl, rfl, trivial⟩
      · replace hf := zif_t c121 hf
        refine x_aload_n dX12_go_124 rfl rfl ?_
        refine x_getS (r := 118) dX12_go_125 fl_X12_164 rfl rfl ?_
        refine x_iload_n dX12_go_128 rfl rfl ?_
        obtain ⟨v16, hv16, hf⟩ := zbind hf
        refine x_ild dX12_go_129 rfl hv16 ?_
        refine x_iconst (v := 1) dX12_go_130 (by decide) ?_
        refine x_icmp_ne (tgt := 144) dX12_go_131 (by decide) (fun c131 => ?_) (fun c131 => ?_)
        · replace hf := zif_f c131 hf
          exact Ex.sb (cc_X12_go_L144 hk80 ih hf) ⟨rfl, rfl, rfl, rfl, trivial⟩
        · replace hf := zif_t c131 hf
          refine x_aload_n dX12_go_134 rfl rfl ?_
          refine x_getS (r := 124) dX12_go_135 fl_X12_182 rfl rfl ?_
          refine x_iload_n dX12_go_138 rfl rfl ?_
          refine x_dup2 dX12_go_139 rfl rfl ?_
          obtain ⟨v17, hv17, hf⟩ := zbind hf
          refine x_ild dX12_go_140 rfl hv17 ?_
          refine x_iconst (v := 1) dX12_go_141 (by decide) ?_
          refine x_iadd dX12_go_142 ?_
          obtain ⟨M18, hM18, hf⟩ := zbind hf
          refine x_ist dX12_go_143 rfl hM18 ?_
          exact Ex.sb (cc_X12_go_L144 hk80 ih hf) ⟨rfl, rfl, rfl, rfl, trivial⟩
theorem cc_X12_go_L250 {l : Launch} {G : zG} {N : Nat} {k181 : Int32 → Int32 → zMem → Option (Int32 × zMem)} (hk181 : ∀ {x2 : Int32} {x3 : Int32} {M : zMem} {r : Int32} {M1 : zMem}, k181 x2 x3 M = some (r, M1) → Ex l G 5 mX12_go 181 [(0, .ref (G.2.2.1 69)), (2, .int x2), (3, .int x3)] [] M (zqI r M1)) {x2 : Int32} {x3 : Int32} {M : zMem} {r : Int32} {M1 : zMem} (hf : fX12_go_L250 N k181 x2 x3 M = some (r, M1)) : Ex l G 5 mX12_go 250 [(0, .ref (G.2.2.1 69)), (2, .int x2), (3, .int x3)] [] M (zqI r M1) := by
  rw [fX12_go_L250] at hf
  obtain ⟨x3_30, ex3_30, hf⟩ := zletE hf
  refine x_iinc (c0 := 1) dX12_go_250 rfl (Nat.le_of_ble_eq_true rfl) (by decide) ex3_30 ?_
  refine x_goto (tgt := 181) dX12_go_253 (by decide) ?_
  exact Ex.sb (hk181 hf) ⟨rfl, rfl, rfl, trivial⟩
theorem cc_X12_go_L205 {l : Launch} {G : zG} {N : Nat} {k181 : Int32 → Int32 → zMem → Option (Int32 × zMem)} (hk181 : ∀ {x2 : Int32} {x3 : Int32} {M : zMem} {r : Int32} {M1 : zMem}, k181 x2 x3 M = some (r, M1) → Ex l G 5 mX12_go 181 [(0, .ref (G.2.2.1 69)), (2, .int x2), (3, .int x3)] [] M (zqI r M1)) {x2 : Int32} {x3 : Int32} {M : zMem} {r : Int32} {M1 : zMem} (hf : fX12_go_L205 N k181 x2 x3 M = some (r, M1)) : Ex l G 5 mX12_go 205 [(0, .ref (G.2.2.1 69)), (2, .int x2), (3, .int x3)] [] M (zqI r M1) := by
  rw [fX12_go_L205] at hf
  refine x_aload_n dX12_go_205 rfl rfl ?_
  refine x_getS (r := 118) dX12_go_206 fl_X12_164 rfl rfl ?_
  refine x_iload_n dX12_go_209 rfl rfl ?_
  obtain ⟨v24, hv24, hf⟩ := zbind hf
  refine x_ild dX12_go_210 rfl hv24 ?_
  refine x_iconst (v := 1) dX12_go_211 (by decide) ?_
  refine x_icmp_eq (tgt := 218) dX12_go_212 (by decide) (fun c212 => ?_) (fun c212 => ?_)
  · replace hf := zif_t c212 hf
    obtain ⟨x2_25, ex2_25, hf⟩ := zletE hf
    refine x_iinc (c0 := 1) dX12_go_218 rfl (Nat.le_of_ble_eq_true rfl) (by decide) ex2_25 ?_
    refine x_aload_n dX12_go_221 rfl rfl ?_
    refine x_getS (r := 121) dX12_go_222 fl_X12_173 rfl rfl ?_
    refine x_sipush (v := 200) dX12_go_225 (by decide) ?_
    refine x_aload_n dX12_go_228 rfl rfl ?_
    refine x_getS (r := 119) dX12_go_229 fl_X12_167 rfl rfl ?_
    refine x_iload_n dX12_go_232 rfl rfl ?_
    obtain ⟨v26, hv26, hf⟩ := zbind hf
    refine x_ild dX12_go_233 rfl hv26 ?_
    refine x_imul dX12_go_234 ?_
    refine x_aload_n dX12_go_235 rfl rfl ?_
    refine x_getI dX12_go_236 fl_X12_327 rfl rfl ?_
    refine x_iadd dX12_go_239 ?_
    refine x_dup2 dX12_go_240 rfl rfl ?_
    obtain ⟨v27, hv27, hf⟩ := zbind hf
    refine x_ild dX12_go_241 rfl hv27 ?_
    refine x_aload_n dX12_go_242 rfl rfl ?_
    refine x_getS (r := 117) dX12_go_243 fl_X12_161 rfl rfl ?_
    refine x_iload_n dX12_go_246 rfl rfl ?_
    obtain ⟨v28, hv28, hf⟩ := zbind hf
    refine x_ild dX12_go_247 rfl hv28 ?_
    refine x_iadd dX12_go_248 ?_
    obtain ⟨M29, hM29, hf⟩ := zbind hf
    refine x_ist dX12_go_249 rfl hM29 ?_
    exact Ex.sb (cc_X12_go_L250 hk181 hf) ⟨rfl, rfl, rfl, trivial⟩
  · replace hf := zif_f c212 hf
    refine x_goto (tgt := 250) dX12_go_215 (by decide) ?_
    exact Ex.sb (cc_X12_go_L250 hk181 hf) ⟨rfl, rfl, rfl, trivial⟩
theorem cc_X12_go_L181 {l : Launch} {G : zG} {N : Nat} : ∀ {n : Nat} {x2 : Int32} {x3 : Int32} {M : zMem} {r : Int32} {M1 : zMem}, fX12_go_L181 N n x2 x3 M = some (r, M1) → Ex l G 5 mX12_go 181 [(0, .ref (G.2.2.1 69)), (2, .int x2), (3, .int x3)] [] M (zqI r M1) := by
  intro n
  induction n with
  | zero => intro x2 x3 M r M1 hf; cases hf
  | succ n ih =>
    intro x2 x3 M r M1 hf
    rw [fX12_go_L181] at hf
    refine x_iload_n dX12_go_181 rfl rfl ?_
    refine x_aload_n dX12_go_182 rfl rfl ?_
    refine x_getI dX12_go_183 fl_X12_350 rfl rfl ?_
    refine x_icmp_ge (tgt := 256) dX12_go_186 (by decide) (fun c186 => ?_) (fun c186 => ?_)
    · replace hf := zif_t c186 hf
      refine x_aload_n dX12_go_256 rfl rfl ?_
      refine x_getS (r := 100) dX12_go_257 fl_X12_110 rfl rfl ?_
      refine x_aload_n dX12_go_260 rfl rfl ?_
      refine x_getI dX12_go_261 fl_X12_327 rfl rfl ?_
      refine x_iconst (v := 1) dX12_go_264 (by decide) ?_
      obtain ⟨M19, hM19, hf⟩ := zbind hf
      refine x_zst dX12_go_265 rfl hM19 ?_
      refine x_aload_n dX12_go_266 rfl rfl ?_
      refine x_dup dX12_go_267 rfl ?_
      refine x_getI dX12_go_268 fl_X12_372 rfl rfl ?_
      refine x_iconst (v := 1) dX12_go_271 (by decide) ?_
      refine x_iadd dX12_go_272 ?_
      obtain ⟨M20, eM20, hf⟩ := zletE hf
      refine x_putI dX12_go_273 fp_X12_372 rfl rfl rfl rfl eM20 ?_
      refine x_iload_n dX12_go_276 rfl rfl ?_
      exact x_iret rfl dX12_go_277 (zretI hf)
    · replace hf := zif_f c186 hf
      refine x_aload_n dX12_go_189 rfl rfl ?_
      refine x_getS (r := 126) dX12_go_190 fl_X12_188 rfl rfl ?_
      refine x_iload_n dX12_go_193 rfl rfl ?_
      obtain ⟨v21, hv21, hf⟩ := zbind hf
      refine x_zld dX12_go_194 rfl hv21 ?_
      refine x_if_eq (tgt := 205) dX12_go_195 (by decide) (fun c195 => ?_) (fun c195 => ?_)
      · replace hf := zif_t c195 hf
        exact Ex.sb (cc_X12_go_L205 ih hf) ⟨rfl, rfl, rfl, trivial⟩
      · replace hf := zif_f c195 hf
        refine x_aload_n dX12_go_198 rfl rfl ?_
        refine x_getS (r := 118) dX12_go_199 fl_X12_164 rfl rfl ?_
        refine x_iload_n dX12_go_202 rfl rfl ?_
        refine x_iconst (v := 3) dX12_go_203 (by decide) ?_
        obtain ⟨M22, hM22, hf⟩ := zbind hf
        refine x_ist dX12_go_204 rfl hM22 ?_
        exact Ex.sb (cc_X12_go_L205 ih hf) ⟨rfl, rfl, rfl, trivial⟩
theorem cc_X12_go_L158 {l : Launch} {G : zG} {N : Nat} : ∀ {n : Nat} {x1 : Int32} {x2 : Int32} {M : zMem} {r : Int32} {M1 : zMem}, fX12_go_L158 N n x1 x2 M = some (r, M1) → Ex l G 5 mX12_go 158 [(0, .ref (G.2.2.1 69)), (1, .int x1), (2, .int x2)] [] M (zqI r M1) := by
  intro n
  induction n with
  | zero => intro x1 x2 M r M1 hf; cases hf
  | succ n ih =>
    intro x1 x2 M r M1 hf
    rw [fX12_go_L158] at hf
    refine x_iload_n dX12_go_158 rfl rfl ?_
    refine x_sipush (v := 360) dX12_go_159 (by decide) ?_
    refine x_icmp_ge (tgt := 177) dX12_go_162 (by decide) (fun c162 => ?_) (fun c162 => ?_)
    · replace hf := zif_t c162 hf
      refine x_iconst (v := 0) dX12_go_177 (by decide) ?_
      refine x_istore_n dX12_go_178 rfl (Nat.le_of_ble_eq_true rfl) rfl ?_
      refine x_iload_n dX12_go_179 rfl rfl ?_
      refine x_istore_n dX12_go_180 rfl (Nat.le_of_ble_eq_true rfl) rfl ?_
      exact Ex.sb (cc_X12_go_L181  hf) ⟨rfl, rfl, rfl, trivial⟩
    · replace hf := zif_f c162 hf
      refine x_aload_n dX12_go_165 rfl rfl ?_
      refine x_iload_n dX12_go_166 rfl rfl ?_
      refine x_iload_n dX12_go_167 rfl rfl ?_
      obtain ⟨M11, hq10, hf⟩ := zbind hf
      refine x_invVv dX12_go_168 mk_X12_oneMinute ml_X12_369 (cc_X12_oneMinute hq10) rfl rfl rfl (Nat.le_of_ble_eq_true rfl) rfl (Nat.le_of_ble_eq_true rfl) rfl ?_
      obtain ⟨x2_12, ex2_12, hf⟩ := zletE hf
      refine x_iinc (c0 := 1) dX12_go_171 rfl (Nat.le_of_ble_eq_true rfl) (by decide) ex2_12 ?_
      refine x_goto (tgt := 158) dX12_go_174 (by decide) ?_
      exact Ex.sb (ih hf) ⟨rfl, rfl, rfl, trivial⟩
theorem cc_X12_go_L80 {l : Launch} {G : zG} {N : Nat} : ∀ {n : Nat} {x1 : Int32} {x2 : Int32} {M : zMem} {r : Int32} {M1 : zMem}, fX12_go_L80 N n x1 x2 M = some (r, M1) → Ex l G 5 mX12_go 80 [(0, .ref (G.2.2.1 69)), (1, .int x1), (2, .int x2)] [] M (zqI r M1) := by
  intro n
  induction n with
  | zero => intro x1 x2 M r M1 hf; cases hf
  | succ n ih =>
    intro x1 x2 M r M1 hf
    rw [fX12_go_L80] at hf
    refine x_iload_n dX12_go_80 rfl rfl ?_
    refine x_aload_n dX12_go_81 rfl rfl ?_
    refine x_getI dX12_go_82 fl_X12_350 rfl rfl ?_
    refine x_icmp_ge (tgt := 156) dX12_go_85 (by decide) (fun c85 => ?_) (fun c85 => ?_)
    · replace hf := zif_t c85 hf
      refine x_iconst (v := 0) dX12_go_156 (by decide) ?_
      refine x_istore_n dX12_go_157 rfl (Nat.le_of_ble_eq_true rfl) rfl ?_
      exact Ex.sb (cc_X12_go_L158  hf) ⟨rfl, rfl, rfl, trivial⟩
    · replace hf := zif_f c85 hf
      refine x_aload_n dX12_go_88 rfl rfl ?_
      refine x_getS (r := 126) dX12_go_89 fl_X12_188 rfl rfl ?_
      refine x_iload_n dX12_go_92 rfl rfl ?_
      refine x_iconst (v := 0) dX12_go_93 (by decide) ?_
      obtain ⟨M8, hM8, hf⟩ := zbind hf
      refine x_zst dX12_go_94 rfl hM8 ?_
      refine x_aload_n dX12_go_95 rfl rfl ?_
      refine x_getS (r := 124) dX12_go_96 fl_X12_182 rfl rfl ?_
      refine x_iload_n dX12_go_99 rfl rfl ?_
      refine x_iconst (v := 0) dX12_go_100 (by decide) ?_
      obtain ⟨M9, hM9, hf⟩ := zbind hf
      refine x_ist dX12_go_101 rfl hM9 ?_
      refine x_iconst (v := 0) dX12_go_102 (by decide) ?_
      refine x_istore_n dX12_go_103 rfl (Nat.le_of_ble_eq_true rfl) rfl ?_
      exact Ex.sb (cc_X12_go_L104 ih hf) ⟨rfl, rfl, rfl, rfl, trivial⟩
theorem cc_X12_go_L78 {l : Launch} {G : zG} {N : Nat} {x1 : Int32} {M : zMem} {r : Int32} {M1 : zMem} (hf : fX12_go_L78 N x1 M = some (r, M1)) : Ex l G 5 mX12_go 78 [(0, .ref (G.2.2.1 69)), (1, .int x1)] [] M (zqI r M1) := by
  rw [fX12_go_L78] at hf
  refine x_iload_n dX12_go_78 rfl rfl ?_
  refine x_istore_n dX12_go_79 rfl (Nat.le_of_ble_eq_true rfl) rfl ?_
  exact Ex.sb (cc_X12_go_L80  hf) ⟨rfl, rfl, rfl, trivial⟩
theorem cc_X12_go_L51 {l : Launch} {G : zG} {N : Nat} : ∀ {n : Nat} {x1 : Int32} {M : zMem} {r : Int32} {M1 : zMem}, fX12_go_L51 N n x1 M = some (r, M1) → Ex l G 5 mX12_go 51 [(0, .ref (G.2.2.1 69)), (1, .int x1)] [] M (zqI r M1) := by
  intro n
  induction n with
  | zero => intro x1 M r M1 hf; cases hf
  | succ n ih =>
    intro x1 M r M1 hf
    rw [fX12_go_L51] at hf
    refine x_iload_n dX12_go_51 rfl rfl ?_
    refine x_aload_n dX12_go_52 rfl rfl ?_
    refine x_getI dX12_go_53 fl_X12_350 rfl rfl ?_
    refine x_icmp_ge (tgt := 78) dX12_go_56 (by decide) (fun c56 => ?_) (fun c56 => ?_)
    · replace hf := zif_t c56 hf
      exact Ex.sb (cc_X12_go_L78  hf) ⟨rfl, rfl, trivial⟩
    · replace hf := zif_f c56 hf
      refine x_aload_n dX12_go_59 rfl rfl ?_
      refine x_getS (r := 112) dX12_go_60 fl_X12_146 rfl rfl ?_
      refine x_iload_n dX12_go_63 rfl rfl ?_
      obtain ⟨v6, hv6, hf⟩ := zbind hf
      refine x_ild dX12_go_64 rfl hv6 ?_
      refine x_aload_n dX12_go_65 rfl rfl ?_
      refine x_getI dX12_go_66 fl_X12_327 rfl rfl ?_
      refine x_icmp_ge (tgt := 78) dX12_go_69 (by decide) (fun c69 => ?_) (fun c69 => ?_)
      · replace hf := zif_t c69 hf
        exact Ex.sb (cc_X12_go_L78  hf) ⟨rfl, rfl, trivial⟩
      · replace hf := zif_f c69 hf
        obtain ⟨x1_7, ex1_7, hf⟩ := zletE hf
        refine x_iinc (c0 := 1) dX12_go_72 rfl (Nat.le_of_ble_eq_true rfl) (by decide) ex1_7 ?_
        refine x_goto (tgt := 51) dX12_go_75 (by decide) ?_
        exact Ex.sb (ih hf) ⟨rfl, rfl, trivial⟩
theorem cc_X12_go_L16 {l : Launch} {G : zG} {N : Nat} : ∀ {n : Nat} {x1 : Int32} {M : zMem} {r : Int32} {M1 : zMem}, fX12_go_L16 N n x1 M = some (r, M1) → Ex l G 5 mX12_go 16 [(0, .ref (G.2.2.1 69)), (1, .int x1)] [] M (zqI r M1) := by
  intro n
  induction n with
  | zero => intro x1 M r M1 hf; cases hf
  | succ n ih =>
    intro x1 M r M1 hf
    rw [fX12_go_L16] at hf
    refine x_iload_n dX12_go_16 rfl rfl ?_
    refine x_bipush (v := 8) dX12_go_17 (by decide) ?_
    refine x_icmp_ge (tgt := 49) dX12_go_19 (by decide) (fun c19 => ?_) (fun c19 => ?_)
    · replace hf := zif_t c19 hf
      refine x_iconst (v := 0) dX12_go_49 (by decide) ?_
      refine x_istore_n dX12_go_50 rfl (Nat.le_of_ble_eq_true rfl) rfl ?_
      exact Ex.sb (cc_X12_go_L51  hf) ⟨rfl, rfl, trivial⟩
    · replace hf := zif_f c19 hf
      refine x_aload_n dX12_go_22 rfl rfl ?_
      refine x_getS (r := 127) dX12_go_23 fl_X12_191 rfl rfl ?_
      refine x_iload_n dX12_go_26 rfl rfl ?_
      refine x_iconst (v := -1) dX12_go_27 (by decide) ?_
      obtain ⟨M2, hM2, hf⟩ := zbind hf
      refine x_ist dX12_go_28 rfl hM2 ?_
      refine x_aload_n dX12_go_29 rfl rfl ?_
      refine x_getS (r := 128) dX12_go_30 fl_X12_194 rfl rfl ?_
      refine x_iload_n dX12_go_33 rfl rfl ?_
      refine x_iconst (v := 0) dX12_go_34 (by decide) ?_
      obtain ⟨M3, hM3, hf⟩ := zbind hf
      refine x_ist dX12_go_35 rfl hM3 ?_
      refine x_aload_n dX12_go_36 rfl rfl ?_
      refine x_getS (r := 129) dX12_go_37 fl_X12_197 rfl rfl ?_
      refine x_iload_n dX12_go_40 rfl rfl ?_
      refine x_iconst (v := 0) dX12_go_41 (by decide) ?_
      obtain ⟨M4, hM4, hf⟩ := zbind hf
      refine x_ist dX12_go_42 rfl hM4 ?_
      obtain ⟨x1_5, ex1_5, hf⟩ := zletE hf
      refine x_iinc (c0 := 1) dX12_go_43 rfl (Nat.le_of_ble_eq_true rfl) (by decide) ex1_5 ?_
      refine x_goto (tgt := 16) dX12_go_46 (by decide) ?_
      exact Ex.sb (ih hf) ⟨rfl, rfl, trivial⟩
theorem cc_X12_go {l : Launch} {G : zG} {N : Nat}   {M : zMem} {r : Int32} {M1 : zMem} (hf : fX12_go N M = some (r, M1)) : Ca l G 5 mX12_go [.ref (G.2.2.1 69)] M (some (.int r)) M1 := by
  refine Ca.of (by decide +kernel) (Nat.le_of_ble_eq_true rfl) rfl ?_
  rw [fX12_go] at hf
  refine x_aload_n dX12_go_0 rfl rfl ?_
  refine x_getS (r := 100) dX12_go_1 fl_X12_110 rfl rfl ?_
  refine x_aload_n dX12_go_4 rfl rfl ?_
  refine x_getI dX12_go_5 fl_X12_327 rfl rfl ?_
  obtain ⟨v1, hv1, hf⟩ := zbind hf
  refine x_zld dX12_go_8 rfl hv1 ?_
  refine x_if_eq (tgt := 14) dX12_go_9 (by decide) (fun c9 => ?_) (fun c9 => ?_)
  · replace hf := zif_t c9 hf
    refine x_iconst (v := 0) dX12_go_14 (by decide) ?_
    refine x_istore_n dX12_go_15 rfl (Nat.le_of_ble_eq_true rfl) rfl ?_
    exact Ex.sb (cc_X12_go_L16  hf) ⟨rfl, rfl, trivial⟩
  · replace hf := zif_f c9 hf
    refine x_iconst (v := -1) dX12_go_12 (by decide) ?_
    exact x_iret rfl dX12_go_13 (zretI hf)
theorem cc_X12_told {l : Launch} {G : zG} {x1 : Int32} {x2 : Int32}  {M : zMem} {r : Int32} {M1 : zMem} (hf : fX12_told x1 x2 M = some (r, M1)) : Ca l G 0 mX12_told [.ref (G.2.2.1 69), .int x1, .int x2] M (some (.int r)) M1 := by
  refine Ca.of (by decide +kernel) (Nat.le_of_ble_eq_true rfl) rfl ?_
  rw [fX12_told] at hf
  refine x_iload_n dX12_told_0 rfl rfl ?_
  refine x_if_lt (tgt := 12) dX12_told_1 (by decide) (fun c1 => ?_) (fun c1 => ?_)
  · replace hf := zif_t c1 hf
    refine x_iconst (v := -1) dX12_told_12 (by decide) ?_
    exact x_iret rfl dX12_told_13 (zretI hf)
  · replace hf := zif_f c1 hf
    refine x_iload_n dX12_told_4 rfl rfl ?_
    refine x_aload_n dX12_told_5 rfl rfl ?_
    refine x_getI dX12_told_6 fl_X12_350 rfl rfl ?_
    refine x_icmp_lt (tgt := 14) dX12_told_9 (by decide) (fun c9 => ?_) (fun c9 => ?_)
    · replace hf := zif_t c9 hf
      refine x_iload_n dX12_told_14 rfl rfl ?_
      by_cases c15_0 : x2 = (0 : Int32)
      · replace hf := zif_t c15_0 hf
        refine x_tableIn (tgt := 52) (off := 37) dX12_told_15 (ztl c15_0 (by decide)) (ztu c15_0 (by decide)) (zto c15_0 (by decide)) (by decide) ?_
        refine x_aload_n dX12_told_52 rfl rfl ?_
        refine x_getS (r := 112) dX12_told_53 fl_X12_146 rfl rfl ?_
        refine x_iload_n dX12_told_56 rfl rfl ?_
        obtain ⟨v1, hv1, hf⟩ := zbind hf
        refine x_ild dX12_told_57 rfl hv1 ?_
        exact x_iret rfl dX12_told_58 (zretI hf)
      · replace hf := zif_f c15_0 hf
        by_cases c15_1 : x2 = (1 : Int32)
        · replace hf := zif_t c15_1 hf
          refine x_tableIn (tgt := 59) (off := 44) dX12_told_15 (ztl c15_1 (by decide)) (ztu c15_1 (by decide)) (zto c15_1 (by decide)) (by decide) ?_
          refine x_aload_n dX12_told_59 rfl rfl ?_
          refine x_getS (r := 118) dX12_told_60 fl_X12_164 rfl rfl ?_
          refine x_iload_n dX12_told_63 rfl rfl ?_
          obtain ⟨v2, hv2, hf⟩ := zbind hf
          refine x_ild dX12_told_64 rfl hv2 ?_
          exact x_iret rfl dX12_told_65 (zretI hf)
        · replace hf := zif_f c15_1 hf
          by_cases c15_2 : x2 = (2 : Int32)
          · replace hf := zif_t c15_2 hf
            refine x_tableIn (tgt := 66) (off := 51) dX12_told_15 (ztl c15_2 (by decide)) (ztu c15_2 (by decide)) (zto c15_2 (by decide)) (by decide) ?_
            refine x_aload_n dX12_told_66 rfl rfl ?_
            refine x_getS (r := 119) dX12_told_67 fl_X12_167 rfl rfl ?_
            refine x_iload_n dX12_told_70 rfl rfl ?_
            obtain ⟨v3, hv3, hf⟩ := zbind hf
            refine x_ild dX12_told_71 rfl hv3 ?_
            exact x_iret rfl dX12_told_72 (zretI hf)
          · replace hf := zif_f c15_2 hf
            by_cases c15_3 : x2 = (3 : Int32)
            · replace hf := zif_t c15_3 hf
              refine x_tableIn (tgt := 73) (off := 58) dX12_told_15 (ztl c15_3 (by decide)) (ztu c15_3 (by decide)) (zto c15_3 (by decide)) (by decide) ?_
              refine x_aload_n dX12_told_73 rfl rfl ?_
              refine x_getS (r := 120) dX12_told_74 fl_X12_170 rfl rfl ?_
              refine x_iload_n dX12_told_77 rfl rfl ?_
              obtain ⟨v4, hv4, hf⟩ := zbind hf
              refine x_ild dX12_told_78 rfl hv4 ?_
              exact x_iret rfl dX12_told_79 (zretI hf)
            · replace hf := zif_f c15_3 hf
              by_cases c15_4 : x2 = (4 : Int32)
              · replace hf := zif_t c15_4 hf
                refine x_tableIn (tgt := 80) (off := 65) dX12_told_15 (ztl c15_4 (by decide)) (ztu c15_4 (by decide)) (zto c15_4 (by decide)) (by decide) ?_
                refine x_aload_n dX12_told_80 rfl rfl ?_
                refine x_getS (r := 118) dX12_told_81 fl_X12_164 rfl rfl ?_
                refine x_iload_n dX12_told_84 rfl rfl ?_
                obtain ⟨v5, hv5, hf⟩ := zbind hf
                refine x_ild dX12_told_85 rfl hv5 ?_
                refine x_iconst (v := 1) dX12_told_86 (by decide) ?_
                refine x_icmp_ne (tgt := 106) dX12_told_87 (by decide) (fun c87 => ?_) (fun c87 => ?_)
                · replace hf := zif_f c87 hf
                  refine x_iconst (v := -1) dX12_told_106 (by decide) ?_
                  exact x_iret rfl dX12_told_107 (zretI hf)
                · replace hf := zif_t c87 hf
                  refine x_aload_n dX12_told_90 rfl rfl ?_
                  refine x_getS (r := 120) dX12_told_91 fl_X12_170 rfl rfl ?_
                  refine x_iload_n dX12_told_94 rfl rfl ?_
                  obtain ⟨v6, hv6, hf⟩ := zbind hf
                  refine x_ild dX12_told_95 rfl hv6 ?_
                  refine x_aload_n dX12_told_96 rfl rfl ?_
                  refine x_getS (r := 117) dX12_told_97 fl_X12_161 rfl rfl ?_
                  refine x_iload_n dX12_told_100 rfl rfl ?_
                  obtain ⟨v7, hv7, hf⟩ := zbind hf
                  refine x_ild dX12_told_101 rfl hv7 ?_
                  refine x_iadd dX12_told_102 ?_
                  refine x_goto (tgt := 107) dX12_told_103 (by decide) ?_
                  exact x_iret rfl dX12_told_107 (zretI hf)
              · replace hf := zif_f c15_4 hf
                by_cases c15_5 : x2 = (5 : Int32)
                · replace hf := zif_t c15_5 hf
                  refine x_tableIn (tgt := 108) (off := 93) dX12_told_15 (ztl c15_5 (by decide)) (ztu c15_5 (by decide)) (zto c15_5 (by decide)) (by decide) ?_
                  refine x_aload_n dX12_told_108 rfl rfl ?_
                  refine x_getS (r := 114) dX12_told_109 fl_X12_152 rfl rfl ?_
                  refine x_iload_n dX12_told_112 rfl rfl ?_
                  obtain ⟨v8, hv8, hf⟩ := zbind hf
                  refine x_ild dX12_told_113 rfl hv8 ?_
                  exact x_iret rfl dX12_told_114 (zretI hf)
                · replace hf := zif_f c15_5 hf
                  refine x_tableOut (tgt := 115) dX12_told_15 (by have q0 := ztne c15_0 (n := 0) (by decide); have q1 := ztne c15_1 (n := 1) (by decide); have q2 := ztne c15_2 (n := 2) (by decide); have q3 := ztne c15_3 (n := 3) (by decide); have q4 := ztne c15_4 (n := 4) (by decide); have q5 := ztne c15_5 (n := 5) (by decide); omega) (by decide) ?_
                  refine x_iconst (v := -1) dX12_told_115 (by decide) ?_
                  exact x_iret rfl dX12_told_116 (zretI hf)
    · replace hf := zif_f c9 hf
      refine x_iconst (v := -1) dX12_told_12 (by decide) ?_
      exact x_iret rfl dX12_told_13 (zretI hf)
theorem cc_X12_talked {l : Launch} {G : zG} {x1 : Int32} {x2 : Int32}  {M : zMem} {r : Int32} {M1 : zMem} (hf : fX12_talked x1 x2 M = some (r, M1)) : Ca l G 1 mX12_talked [.ref (G.2.2.1 69), .int x1, .int x2] M (some (.int r)) M1 := by
  refine Ca.of (by decide +kernel) (Nat.le_of_ble_eq_true rfl) rfl ?_
  rw [fX12_talked] at hf
  refine x_aload_n dX12_talked_0 rfl rfl ?_
  refine x_iload_n dX12_talked_1 rfl rfl ?_
  obtain ⟨r3, M2, hq1, hf⟩ := zb2E hf
  refine x_invVi dX12_talked_2 mk_X12_isVolunteer ml_X12_324 (cc_X12_isVolunteer hq1) rfl rfl rfl (Nat.le_of_ble_eq_true rfl) rfl (Nat.le_of_ble_eq_true rfl) rfl ?_
  refine x_if_eq (tgt := 39) dX12_talked_5 (by decide) (fun c5 => ?_) (fun c5 => ?_)
  · replace hf := zif_t c5 hf
    refine x_iconst (v := -1) dX12_talked_39 (by decide) ?_
    exact x_iret rfl dX12_talked_40 (zretI hf)
  · replace hf := zif_f c5 hf
    refine x_iload_n dX12_talked_8 rfl rfl ?_
    obtain ⟨r6, M5, hq4, hf⟩ := zb2E hf
    refine x_invSi dX12_talked_9 mk_X12_isNight ml_X12_334 (cc_X12_isNight hq4) (Nat.le_of_ble_eq_true rfl) rfl (Nat.le_of_ble_eq_true rfl) rfl ?_
    refine x_if_eq (tgt := 39) dX12_talked_12 (by decide) (fun c12 => ?_) (fun c12 => ?_)
    · replace hf := zif_t c12 hf
      refine x_iconst (v := -1) dX12_talked_39 (by decide) ?_
      exact x_iret rfl dX12_talked_40 (zretI hf)
    · replace hf := zif_f c12 hf
      refine x_aload_n dX12_talked_15 rfl rfl ?_
      refine x_getS (r := 100) dX12_talked_16 fl_X12_110 rfl rfl ?_
      refine x_iload_n dX12_talked_19 rfl rfl ?_
      obtain ⟨v7, hv7, hf⟩ := zbind hf
      refine x_zld dX12_talked_20 rfl hv7 ?_
      refine x_if_eq (tgt := 39) dX12_talked_21 (by decide) (fun c21 => ?_) (fun c21 => ?_)
      · replace hf := zif_t c21 hf
        refine x_iconst (v := -1) dX12_talked_39 (by decide) ?_
        exact x_iret rfl dX12_talked_40 (zretI hf)
      · replace hf := zif_f c21 hf
        refine x_aload_n dX12_talked_24 rfl rfl ?_
        refine x_getS (r := 121) dX12_talked_25 fl_X12_173 rfl rfl ?_
        refine x_sipush (v := 200) dX12_talked_28 (by decide) ?_
        refine x_iload_n dX12_talked_31 rfl rfl ?_
        refine x_imul dX12_talked_32 ?_
        refine x_iload_n dX12_talked_33 rfl rfl ?_
        refine x_iadd dX12_talked_34 ?_
        obtain ⟨v8, hv8, hf⟩ := zbind hf
        refine x_ild dX12_talked_35 rfl hv8 ?_
        refine x_goto (tgt := 40) dX12_talked_36 (by decide) ?_
        exact x_iret rfl dX12_talked_40 (zretI hf)
theorem cc_X12_note {l : Launch} {G : zG} {x1 : Int32} {x2 : Int32}  {M : zMem} {r : Int32} {M1 : zMem} (hf : fX12_note x1 x2 M = some (r, M1)) : Ca l G 0 mX12_note [.ref (G.2.2.1 69), .int x1, .int x2] M (some (.int r)) M1 := by
  refine Ca.of (by decide +kernel) (Nat.le_of_ble_eq_true rfl) rfl ?_
  rw [fX12_note] at hf
  refine x_aload_n dX12_note_0 rfl rfl ?_
  refine x_getI dX12_note_1 fl_X12_388 rfl rfl ?_
  refine x_bipush (v := 60) dX12_note_4 (by decide) ?_
  refine x_icmp_eq (tgt := 40) dX12_note_6 (by decide) (fun c6 => ?_) (fun c6 => ?_)
  · replace hf := zif_t c6 hf
    refine x_iconst (v := -1) dX12_note_40 (by decide) ?_
    exact x_iret rfl dX12_note_41 (zretI hf)
  · replace hf := zif_f c6 hf
    refine x_iload_n dX12_note_9 rfl rfl ?_
    refine x_if_lt (tgt := 40) dX12_note_10 (by decide) (fun c10 => ?_) (fun c10 => ?_)
    · replace hf := zif_t c10 hf
      refine x_iconst (v := -1) dX12_note_40 (by decide) ?_
      exact x_iret rfl dX12_note_41 (zretI hf)
    · replace hf := zif_f c10 hf
      refine x_iload_n dX12_note_13 rfl rfl ?_
      refine x_iconst (v := 3) dX12_note_14 (by decide) ?_
      refine x_icmp_gt (tgt := 40) dX12_note_15 (by decide) (fun c15 => ?_) (fun c15 => ?_)
      · replace hf := zif_t c15 hf
        refine x_iconst (v := -1) dX12_note_40 (by decide) ?_
        exact x_iret rfl dX12_note_41 (zretI hf)
      · replace hf := zif_f c15 hf
        refine x_iload_n dX12_note_18 rfl rfl ?_
        refine x_if_lt (tgt := 40) dX12_note_19 (by decide) (fun c19 => ?_) (fun c19 => ?_)
        · replace hf := zif_t c19 hf
          refine x_iconst (v := -1) dX12_note_40 (by decide) ?_
          exact x_iret rfl dX12_note_41 (zretI hf)
        · replace hf := zif_f c19 hf
          refine x_iload_n dX12_note_22 rfl rfl ?_
          refine x_aload_n dX12_note_23 rfl rfl ?_
          refine x_getI dX12_note_24 fl_X12_350 rfl rfl ?_
          refine x_icmp_ge (tgt := 40) dX12_note_27 (by decide) (fun c27 => ?_) (fun c27 => ?_)
          · replace hf := zif_t c27 hf
            refine x_iconst (v := -1) dX12_note_40 (by decide) ?_
            exact x_iret rfl dX12_note_41 (zretI hf)
          · replace hf := zif_f c27 hf
            refine x_aload_n dX12_note_30 rfl rfl ?_
            refine x_getS (r := 118) dX12_note_31 fl_X12_164 rfl rfl ?_
            refine x_iload_n dX12_note_34 rfl rfl ?_
            obtain ⟨v1, hv1, hf⟩ := zbind hf
            refine x_ild dX12_note_35 rfl hv1 ?_
            refine x_iconst (v := 1) dX12_note_36 (by decide) ?_
            refine x_icmp_eq (tgt := 42) dX12_note_37 (by decide) (fun c37 => ?_) (fun c37 => ?_)
            · replace hf := zif_t c37 hf
              refine x_aload_n dX12_note_42 rfl rfl ?_
              refine x_getS (r := 131) dX12_note_43 fl_X12_203 rfl rfl ?_
              refine x_aload_n dX12_note_46 rfl rfl ?_
              refine x_getI dX12_note_47 fl_X12_388 rfl rfl ?_
              refine x_iload_n dX12_note_50 rfl rfl ?_
              obtain ⟨M2, hM2, hf⟩ := zbind hf
              refine x_ist dX12_note_51 rfl hM2 ?_
              refine x_aload_n dX12_note_52 rfl rfl ?_
              refine x_getS (r := 132) dX12_note_53 fl_X12_206 rfl rfl ?_
              refine x_aload_n dX12_note_56 rfl rfl ?_
              refine x_getI dX12_note_57 fl_X12_388 rfl rfl ?_
              refine x_iload_n dX12_note_60 rfl rfl ?_
              obtain ⟨M3, hM3, hf⟩ := zbind hf
              refine x_ist dX12_note_61 rfl hM3 ?_
              refine x_aload_n dX12_note_62 rfl rfl ?_
              refine x_getS (r := 133) dX12_note_63 fl_X12_209 rfl rfl ?_
              refine x_aload_n dX12_note_66 rfl rfl ?_
              refine x_getI dX12_note_67 fl_X12_388 rfl rfl ?_
              refine x_aload_n dX12_note_70 rfl rfl ?_
              refine x_getI dX12_note_71 fl_X12_327 rfl rfl ?_
              obtain ⟨M4, hM4, hf⟩ := zbind hf
              refine x_ist dX12_note_74 rfl hM4 ?_
              refine x_aload_n dX12_note_75 rfl rfl ?_
              refine x_dup dX12_note_76 rfl ?_
              refine x_getI dX12_note_77 fl_X12_388 rfl rfl ?_
              refine x_iconst (v := 1) dX12_note_80 (by decide) ?_
              refine x_iadd dX12_note_81 ?_
              obtain ⟨M5, eM5, hf⟩ := zletE hf
              refine x_putI dX12_note_82 fp_X12_388 rfl rfl rfl rfl eM5 ?_
              refine x_aload_n dX12_note_85 rfl rfl ?_
              refine x_getI dX12_note_86 fl_X12_388 rfl rfl ?_
              refine x_iconst (v := 1) dX12_note_89 (by decide) ?_
              refine x_isub dX12_note_90 ?_
              exact x_iret rfl dX12_note_91 (zretI hf)
            · replace hf := zif_f c37 hf
              refine x_iconst (v := -1) dX12_note_40 (by decide) ?_
              exact x_iret rfl dX12_note_41 (zretI hf)
