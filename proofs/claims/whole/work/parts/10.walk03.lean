theorem cc_X12_back {l : Launch} {G : zG} {x1 : Int32}  {M : zMem} {r : Int32} {M1 : zMem} (hf : fX12_back x1 M = some (r, M1)) : Ca l G 0 mX12_back [.ref (G.2.2.1 69), .int x1] M (some (.int r)) M1 := by
  refine Ca.of (by decide +kernel) (Nat.le_of_ble_eq_true rfl) rfl ?_
  rw [fX12_back] at hf
  refine x_iload_n dX12_back_0 rfl rfl ?_
  refine x_if_lt (tgt := 12) dX12_back_1 (by decide) (fun c1 => ?_) (fun c1 => ?_)
  · replace hf := zif_t c1 hf
    refine x_iconst (v := -1) dX12_back_12 (by decide) ?_
    exact x_iret rfl dX12_back_13 (zretI hf)
  · replace hf := zif_f c1 hf
    refine x_iload_n dX12_back_4 rfl rfl ?_
    refine x_aload_n dX12_back_5 rfl rfl ?_
    refine x_getI dX12_back_6 fl_X12_216 rfl rfl ?_
    refine x_icmp_le (tgt := 14) dX12_back_9 (by decide) (fun c9 => ?_) (fun c9 => ?_)
    · replace hf := zif_t c9 hf
      refine x_aload_n dX12_back_14 rfl rfl ?_
      refine x_dup dX12_back_15 rfl ?_
      refine x_getI dX12_back_16 fl_X12_216 rfl rfl ?_
      refine x_iload_n dX12_back_19 rfl rfl ?_
      refine x_isub dX12_back_20 ?_
      obtain ⟨M1, eM1, hf⟩ := zletE hf
      refine x_putI dX12_back_21 fp_X12_216 rfl rfl rfl rfl eM1 ?_
      refine x_aload_n dX12_back_24 rfl rfl ?_
      refine x_getI dX12_back_25 fl_X12_216 rfl rfl ?_
      exact x_iret rfl dX12_back_28 (zretI hf)
    · replace hf := zif_f c9 hf
      refine x_iconst (v := -1) dX12_back_12 (by decide) ?_
      exact x_iret rfl dX12_back_13 (zretI hf)
theorem cc_X12_at {l : Launch} {G : zG} {x1 : Int32}  {M : zMem} {r : Int32} {M1 : zMem} (hf : fX12_at x1 M = some (r, M1)) : Ca l G 0 mX12_at [.ref (G.2.2.1 69), .int x1] M (some (.int r)) M1 := by
  refine Ca.of (by decide +kernel) (Nat.le_of_ble_eq_true rfl) rfl ?_
  rw [fX12_at] at hf
  refine x_iload_n dX12_at_0 rfl rfl ?_
  refine x_aload_n dX12_at_1 rfl rfl ?_
  refine x_getI dX12_at_2 fl_X12_223 rfl rfl ?_
  refine x_icmp_ge (tgt := 21) dX12_at_5 (by decide) (fun c5 => ?_) (fun c5 => ?_)
  · replace hf := zif_t c5 hf
    refine x_iconst (v := 0) dX12_at_21 (by decide) ?_
    exact x_iret rfl dX12_at_22 (zretI hf)
  · replace hf := zif_f c5 hf
    refine x_aload_n dX12_at_8 rfl rfl ?_
    refine x_getS (r := 71) dX12_at_9 fl_X12_17 rfl rfl ?_
    refine x_iload_n dX12_at_12 rfl rfl ?_
    obtain ⟨v1, hv1, hf⟩ := zbind hf
    refine x_bld dX12_at_13 rfl hv1 ?_
    refine x_sipush (v := 255) dX12_at_14 (by decide) ?_
    refine x_iand dX12_at_17 ?_
    refine x_goto (tgt := 22) dX12_at_18 (by decide) ?_
    exact x_iret rfl dX12_at_22 (zretI hf)
theorem cc_X12_isDigit {l : Launch} {G : zG} {x0 : Int32}  {M : zMem} {r : Int32} {M1 : zMem} (hf : fX12_isDigit x0 M = some (r, M1)) : Ca l G 0 mX12_isDigit [.int x0] M (some (.int r)) M1 := by
  refine Ca.of (by decide +kernel) (Nat.le_of_ble_eq_true rfl) rfl ?_
  rw [fX12_isDigit] at hf
  refine x_iload_n dX12_isDigit_0 rfl rfl ?_
  refine x_bipush (v := 48) dX12_isDigit_1 (by decide) ?_
  refine x_icmp_lt (tgt := 16) dX12_isDigit_3 (by decide) (fun c3 => ?_) (fun c3 => ?_)
  · replace hf := zif_t c3 hf
    refine x_iconst (v := 0) dX12_isDigit_16 (by decide) ?_
    exact x_zret rfl rfl dX12_isDigit_17 (zretI hf)
  · replace hf := zif_f c3 hf
    refine x_iload_n dX12_isDigit_6 rfl rfl ?_
    refine x_bipush (v := 57) dX12_isDigit_7 (by decide) ?_
    refine x_icmp_gt (tgt := 16) dX12_isDigit_9 (by decide) (fun c9 => ?_) (fun c9 => ?_)
    · replace hf := zif_t c9 hf
      refine x_iconst (v := 0) dX12_isDigit_16 (by decide) ?_
      exact x_zret rfl rfl dX12_isDigit_17 (zretI hf)
    · replace hf := zif_f c9 hf
      refine x_iconst (v := 1) dX12_isDigit_12 (by decide) ?_
      refine x_goto (tgt := 17) dX12_isDigit_13 (by decide) ?_
      exact x_zret rfl rfl dX12_isDigit_17 (zretI hf)
theorem cc_X12_isLetter {l : Launch} {G : zG} {x0 : Int32}  {M : zMem} {r : Int32} {M1 : zMem} (hf : fX12_isLetter x0 M = some (r, M1)) : Ca l G 0 mX12_isLetter [.int x0] M (some (.int r)) M1 := by
  refine Ca.of (by decide +kernel) (Nat.le_of_ble_eq_true rfl) rfl ?_
  rw [fX12_isLetter] at hf
  refine x_iload_n dX12_isLetter_0 rfl rfl ?_
  refine x_bipush (v := 97) dX12_isLetter_1 (by decide) ?_
  refine x_icmp_lt (tgt := 16) dX12_isLetter_3 (by decide) (fun c3 => ?_) (fun c3 => ?_)
  · replace hf := zif_t c3 hf
    refine x_iconst (v := 0) dX12_isLetter_16 (by decide) ?_
    exact x_zret rfl rfl dX12_isLetter_17 (zretI hf)
  · replace hf := zif_f c3 hf
    refine x_iload_n dX12_isLetter_6 rfl rfl ?_
    refine x_bipush (v := 122) dX12_isLetter_7 (by decide) ?_
    refine x_icmp_gt (tgt := 16) dX12_isLetter_9 (by decide) (fun c9 => ?_) (fun c9 => ?_)
    · replace hf := zif_t c9 hf
      refine x_iconst (v := 0) dX12_isLetter_16 (by decide) ?_
      exact x_zret rfl rfl dX12_isLetter_17 (zretI hf)
    · replace hf := zif_f c9 hf
      refine x_iconst (v := 1) dX12_isLetter_12 (by decide) ?_
      refine x_goto (tgt := 17) dX12_isLetter_13 (by decide) ?_
      exact x_zret rfl rfl dX12_isLetter_17 (zretI hf)
theorem cc_X12_more {l : Launch} {G : zG} {x0 : Int64} {x2 : Int32}  {M : zMem} {r : Int64} {M1 : zMem} (hf : fX12_more x0 x2 M = some (r, M1)) : Ca l G 0 mX12_more [.long x0, .int x2] M (some (.long r)) M1 := by
  refine Ca.of (by decide +kernel) (Nat.le_of_ble_eq_true rfl) rfl ?_
  rw [fX12_more] at hf
  refine x_iload_n dX12_more_0 rfl rfl ?_
  refine x_if_ne (tgt := 8) dX12_more_1 (by decide) (fun c1 => ?_) (fun c1 => ?_)
  · replace hf := zif_f c1 hf
    refine x_ldc2 (v := 27) cw_X12_226 dX12_more_8 ?_
    refine x_lload_n dX12_more_11 rfl rfl ?_
    refine x_lmul dX12_more_12 ?_
    refine x_iload_n dX12_more_13 rfl rfl ?_
    refine x_bipush (v := 97) dX12_more_14 (by decide) ?_
    refine x_isub dX12_more_16 ?_
    refine x_iconst (v := 1) dX12_more_17 (by decide) ?_
    refine x_iadd dX12_more_18 ?_
    refine x_i2l dX12_more_19 ?_
    refine x_ladd dX12_more_20 ?_
    exact x_lret rfl dX12_more_21 (zretJ hf)
  · replace hf := zif_t c1 hf
    refine x_lload_n dX12_more_4 rfl rfl ?_
    refine x_goto (tgt := 21) dX12_more_5 (by decide) ?_
    exact x_lret rfl dX12_more_21 (zretJ hf)
theorem cc_X12_word {l : Launch} {G : zG} {x0 : Int32} {x1 : Int32} {x2 : Int32} {x3 : Int32} {x4 : Int32} {x5 : Int32} {x6 : Int32}  {M : zMem} {r : Int64} {M1 : zMem} (hf : fX12_word x0 x1 x2 x3 x4 x5 x6 M = some (r, M1)) : Ca l G 1 mX12_word [.int x0, .int x1, .int x2, .int x3, .int x4, .int x5, .int x6] M (some (.long r)) M1 := by
  refine Ca.of (by decide +kernel) (Nat.le_of_ble_eq_true rfl) rfl ?_
  rw [fX12_word] at hf
  refine x_lconst (v := 0) dX12_word_0 (by decide) ?_
  refine x_iload_n dX12_word_1 rfl rfl ?_
  obtain ⟨r3, M2, hq1, hf⟩ := zb2E hf
  refine x_invSj dX12_word_2 mk_X12_more ml_X12_228 (cc_X12_more hq1) (Nat.le_of_ble_eq_true rfl) rfl (Nat.le_of_ble_eq_true rfl) rfl ?_
  refine x_iload_n dX12_word_5 rfl rfl ?_
  obtain ⟨r6, M5, hq4, hf⟩ := zb2E hf
  refine x_invSj dX12_word_6 mk_X12_more ml_X12_228 (cc_X12_more hq4) (Nat.le_of_ble_eq_true rfl) rfl (Nat.le_of_ble_eq_true rfl) rfl ?_
  refine x_iload_n dX12_word_9 rfl rfl ?_
  obtain ⟨r9, M8, hq7, hf⟩ := zb2E hf
  refine x_invSj dX12_word_10 mk_X12_more ml_X12_228 (cc_X12_more hq7) (Nat.le_of_ble_eq_true rfl) rfl (Nat.le_of_ble_eq_true rfl) rfl ?_
  refine x_iload_n dX12_word_13 rfl rfl ?_
  obtain ⟨r12, M11, hq10, hf⟩ := zb2E hf
  refine x_invSj dX12_word_14 mk_X12_more ml_X12_228 (cc_X12_more hq10) (Nat.le_of_ble_eq_true rfl) rfl (Nat.le_of_ble_eq_true rfl) rfl ?_
  refine x_iload dX12_word_17 rfl ?_
  obtain ⟨r15, M14, hq13, hf⟩ := zb2E hf
  refine x_invSj dX12_word_19 mk_X12_more ml_X12_228 (cc_X12_more hq13) (Nat.le_of_ble_eq_true rfl) rfl (Nat.le_of_ble_eq_true rfl) rfl ?_
  refine x_iload dX12_word_22 rfl ?_
  obtain ⟨r18, M17, hq16, hf⟩ := zb2E hf
  refine x_invSj dX12_word_24 mk_X12_more ml_X12_228 (cc_X12_more hq16) (Nat.le_of_ble_eq_true rfl) rfl (Nat.le_of_ble_eq_true rfl) rfl ?_
  refine x_iload dX12_word_27 rfl ?_
  obtain ⟨r21, M20, hq19, hf⟩ := zb2E hf
  refine x_invSj dX12_word_29 mk_X12_more ml_X12_228 (cc_X12_more hq19) (Nat.le_of_ble_eq_true rfl) rfl (Nat.le_of_ble_eq_true rfl) rfl ?_
  exact x_lret rfl dX12_word_32 (zretJ hf)
theorem cc_X12_token {l : Launch} {G : zG} {x1 : Int32} {x2 : Int32} {x3 : Int32} {x4 : Int64}  {M : zMem} {M1 : zMem} (hf : fX12_token x1 x2 x3 x4 M = some M1) : Ca l G 0 mX12_token [.ref (G.2.2.1 69), .int x1, .int x2, .int x3, .long x4] M none M1 := by
  refine Ca.of (by decide +kernel) (Nat.le_of_ble_eq_true rfl) rfl ?_
  rw [fX12_token] at hf
  refine x_aload_n dX12_token_0 rfl rfl ?_
  refine x_getS (r := 72) dX12_token_1 fl_X12_20 rfl rfl ?_
  refine x_aload_n dX12_token_4 rfl rfl ?_
  refine x_getI dX12_token_5 fl_X12_232 rfl rfl ?_
  refine x_iload_n dX12_token_8 rfl rfl ?_
  obtain ⟨M1, hM1, hf⟩ := zbind hf
  refine x_ist dX12_token_9 rfl hM1 ?_
  refine x_aload_n dX12_token_10 rfl rfl ?_
  refine x_getS (r := 73) dX12_token_11 fl_X12_24 rfl rfl ?_
  refine x_aload_n dX12_token_14 rfl rfl ?_
  refine x_getI dX12_token_15 fl_X12_232 rfl rfl ?_
  refine x_iload_n dX12_token_18 rfl rfl ?_
  obtain ⟨M2, hM2, hf⟩ := zbind hf
  refine x_ist dX12_token_19 rfl hM2 ?_
  refine x_aload_n dX12_token_20 rfl rfl ?_
  refine x_getS (r := 74) dX12_token_21 fl_X12_27 rfl rfl ?_
  refine x_aload_n dX12_token_24 rfl rfl ?_
  refine x_getI dX12_token_25 fl_X12_232 rfl rfl ?_
  refine x_iload_n dX12_token_28 rfl rfl ?_
  obtain ⟨M3, hM3, hf⟩ := zbind hf
  refine x_ist dX12_token_29 rfl hM3 ?_
  refine x_aload_n dX12_token_30 rfl rfl ?_
  refine x_getS (r := 75) dX12_token_31 fl_X12_30 rfl rfl ?_
  refine x_aload_n dX12_token_34 rfl rfl ?_
  refine x_getI dX12_token_35 fl_X12_232 rfl rfl ?_
  refine x_lload dX12_token_38 rfl ?_
  obtain ⟨M4, hM4, hf⟩ := zbind hf
  refine x_jst dX12_token_40 rfl hM4 ?_
  refine x_aload_n dX12_token_41 rfl rfl ?_
  refine x_dup dX12_token_42 rfl ?_
  refine x_getI dX12_token_43 fl_X12_232 rfl rfl ?_
  refine x_iconst (v := 1) dX12_token_46 (by decide) ?_
  refine x_iadd dX12_token_47 ?_
  obtain ⟨M5, eM5, hf⟩ := zletE hf
  refine x_putI dX12_token_48 fp_X12_232 rfl rfl rfl rfl eM5 ?_
  exact x_vret rfl dX12_token_51 (zretV hf)
theorem cc_X12_sign_L148 {l : Launch} {G : zG} {x1 : Int32} {x4 : Int32} {x5 : Int32} {M : zMem} {r : Int32} {M1 : zMem} (hf : fX12_sign_L148 x1 x4 x5 M = some (r, M1)) : Ex l G 1 mX12_sign 148 [(0, .ref (G.2.2.1 69)), (1, .int x1), (4, .int x4), (5, .int x5)] [] M (zqI r M1) := by
  rw [fX12_sign_L148] at hf
  refine x_aload_n dX12_sign_148 rfl rfl ?_
  refine x_iload dX12_sign_149 rfl ?_
  refine x_iload_n dX12_sign_151 rfl rfl ?_
  refine x_iconst (v := 0) dX12_sign_152 (by decide) ?_
  refine x_lconst (v := 0) dX12_sign_153 (by decide) ?_
  obtain ⟨M2, hq1, hf⟩ := zbind hf
  refine x_invVv dX12_sign_154 mk_X12_token ml_X12_238 (cc_X12_token hq1) rfl rfl rfl (Nat.le_of_ble_eq_true rfl) rfl (Nat.le_of_ble_eq_true rfl) rfl ?_
  refine x_iload dX12_sign_157 rfl ?_
  refine x_if_le (tgt := 166) dX12_sign_159 (by decide) (fun c159 => ?_) (fun c159 => ?_)
  · replace hf := zif_t c159 hf
    refine x_iconst (v := 1) dX12_sign_166 (by decide) ?_
    exact x_iret rfl dX12_sign_167 (zretI hf)
  · replace hf := zif_f c159 hf
    refine x_iconst (v := 2) dX12_sign_162 (by decide) ?_
    refine x_goto (tgt := 167) dX12_sign_163 (by decide) ?_
    exact x_iret rfl dX12_sign_167 (zretI hf)
theorem cc_X12_sign_L44 {l : Launch} {G : zG} {x1 : Int32} {x2 : Int32} {s0 : Int32} {M : zMem} {r : Int32} {M1 : zMem} (hf : fX12_sign_L44 x1 x2 s0 M = some (r, M1)) : Ex l G 1 mX12_sign 44 [(0, .ref (G.2.2.1 69)), (1, .int x1), (2, .int x2)] [.int s0] M (zqI r M1) := by
  rw [fX12_sign_L44] at hf
  refine x_istore dX12_sign_44 (Nat.le_of_ble_eq_true rfl) rfl ?_
  refine x_iconst (v := 3) dX12_sign_46 (by decide) ?_
  refine x_istore dX12_sign_47 (Nat.le_of_ble_eq_true rfl) rfl ?_
  refine x_iload dX12_sign_49 rfl ?_
  refine x_if_le (tgt := 61) dX12_sign_51 (by decide) (fun c51 => ?_) (fun c51 => ?_)
  · replace hf := zif_t c51 hf
    refine x_iload_n dX12_sign_61 rfl rfl ?_
    refine x_bipush (v := 59) dX12_sign_62 (by decide) ?_
    refine x_icmp_ne (tgt := 73) dX12_sign_64 (by decide) (fun c64 => ?_) (fun c64 => ?_)
    · replace hf := zif_f c64 hf
      refine x_iload_n dX12_sign_73 rfl rfl ?_
      refine x_bipush (v := 40) dX12_sign_74 (by decide) ?_
      refine x_icmp_ne (tgt := 86) dX12_sign_76 (by decide) (fun c76 => ?_) (fun c76 => ?_)
      · replace hf := zif_f c76 hf
        refine x_iload_n dX12_sign_86 rfl rfl ?_
        refine x_bipush (v := 41) dX12_sign_87 (by decide) ?_
        refine x_icmp_ne (tgt := 99) dX12_sign_89 (by decide) (fun c89 => ?_) (fun c89 => ?_)
        · replace hf := zif_f c89 hf
          refine x_iload_n dX12_sign_99 rfl rfl ?_
          refine x_bipush (v := 43) dX12_sign_100 (by decide) ?_
          refine x_icmp_ne (tgt := 112) dX12_sign_102 (by decide) (fun c102 => ?_) (fun c102 => ?_)
          · replace hf := zif_f c102 hf
            refine x_iload_n dX12_sign_112 rfl rfl ?_
            refine x_bipush (v := 45) dX12_sign_113 (by decide) ?_
            refine x_icmp_ne (tgt := 125) dX12_sign_115 (by decide) (fun c115 => ?_) (fun c115 => ?_)
            · replace hf := zif_f c115 hf
              refine x_iload_n dX12_sign_125 rfl rfl ?_
              refine x_bipush (v := 42) dX12_sign_126 (by decide) ?_
              refine x_icmp_ne (tgt := 138) dX12_sign_128 (by decide) (fun c128 => ?_) (fun c128 => ?_)
              · replace hf := zif_f c128 hf
                refine x_iload_n dX12_sign_138 rfl rfl ?_
                refine x_bipush (v := 60) dX12_sign_139 (by decide) ?_
                refine x_icmp_ne (tgt := 148) dX12_sign_141 (by decide) (fun c141 => ?_) (fun c141 => ?_)
                · replace hf := zif_f c141 hf
                  exact Ex.sb (cc_X12_sign_L148  hf) ⟨rfl, rfl, rfl, rfl, trivial⟩
                · replace hf := zif_t c141 hf
                  refine x_bipush (v := 13) dX12_sign_144 (by decide) ?_
                  refine x_istore dX12_sign_146 (Nat.le_of_ble_eq_true rfl) rfl ?_
                  exact Ex.sb (cc_X12_sign_L148  hf) ⟨rfl, rfl, rfl, rfl, trivial⟩
              · replace hf := zif_t c128 hf
                refine x_bipush (v := 10) dX12_sign_131 (by decide) ?_
                refine x_istore dX12_sign_133 (Nat.le_of_ble_eq_true rfl) rfl ?_
                refine x_goto (tgt := 148) dX12_sign_135 (by decide) ?_
                exact Ex.sb (cc_X12_sign_L148  hf) ⟨rfl, rfl, rfl, rfl, trivial⟩
            · replace hf := zif_t c115 hf
              refine x_bipush (v := 9) dX12_sign_118 (by decide) ?_
              refine x_istore dX12_sign_120 (Nat.le_of_ble_eq_true rfl) rfl ?_
              refine x_goto (tgt := 148) dX12_sign_122 (by decide) ?_
              exact Ex.sb (cc_X12_sign_L148  hf) ⟨rfl, rfl, rfl, rfl, trivial⟩
          · replace hf := zif_t c102 hf
            refine x_bipush (v := 8) dX12_sign_105 (by decide) ?_
            refine x_istore dX12_sign_107 (Nat.le_of_ble_eq_true rfl) rfl ?_
            refine x_goto (tgt := 148) dX12_sign_109 (by decide) ?_
            exact Ex.sb (cc_X12_sign_L148  hf) ⟨rfl, rfl, rfl, rfl, trivial⟩
        · replace hf := zif_t c89 hf
          refine x_bipush (v := 7) dX12_sign_92 (by decide) ?_
          refine x_istore dX12_sign_94 (Nat.le_of_ble_eq_true rfl) rfl ?_
          refine x_goto (tgt := 148) dX12_sign_96 (by decide) ?_
          exact Ex.sb (cc_X12_sign_L148  hf) ⟨rfl, rfl, rfl, rfl, trivial⟩
      · replace hf := zif_t c76 hf
        refine x_bipush (v := 6) dX12_sign_79 (by decide) ?_
        refine x_istore dX12_sign_81 (Nat.le_of_ble_eq_true rfl) rfl ?_
        refine x_goto (tgt := 148) dX12_sign_83 (by decide) ?_
        exact Ex.sb (cc_X12_sign_L148  hf) ⟨rfl, rfl, rfl, rfl, trivial⟩
    · replace hf := zif_t c64 hf
      refine x_iconst (v := 4) dX12_sign_67 (by decide) ?_
      refine x_istore dX12_sign_68 (Nat.le_of_ble_eq_true rfl) rfl ?_
      refine x_goto (tgt := 148) dX12_sign_70 (by decide) ?_
      exact Ex.sb (cc_X12_sign_L148  hf) ⟨rfl, rfl, rfl, rfl, trivial⟩
  · replace hf := zif_f c51 hf
    refine x_iload dX12_sign_54 rfl ?_
    refine x_istore dX12_sign_56 (Nat.le_of_ble_eq_true rfl) rfl ?_
    refine x_goto (tgt := 148) dX12_sign_58 (by decide) ?_
    exact Ex.sb (cc_X12_sign_L148  hf) ⟨rfl, rfl, rfl, rfl, trivial⟩
theorem cc_X12_sign {l : Launch} {G : zG} {x1 : Int32} {x2 : Int32} {x3 : Int32}  {M : zMem} {r : Int32} {M1 : zMem} (hf : fX12_sign x1 x2 x3 M = some (r, M1)) : Ca l G 1 mX12_sign [.ref (G.2.2.1 69), .int x1, .int x2, .int x3] M (some (.int r)) M1 := by
  refine Ca.of (by decide +kernel) (Nat.le_of_ble_eq_true rfl) rfl ?_
  rw [fX12_sign] at hf
  refine x_iload_n dX12_sign_0 rfl rfl ?_
  refine x_bipush (v := 61) dX12_sign_1 (by decide) ?_
  refine x_icmp_eq (tgt := 10) dX12_sign_3 (by decide) (fun c3 => ?_) (fun c3 => ?_)
  · replace hf := zif_t c3 hf
    refine x_iload_n dX12_sign_10 rfl rfl ?_
    refine x_bipush (v := 61) dX12_sign_11 (by decide) ?_
    refine x_icmp_ne (tgt := 21) dX12_sign_13 (by decide) (fun c13 => ?_) (fun c13 => ?_)
    · replace hf := zif_f c13 hf
      refine x_iload_n dX12_sign_21 rfl rfl ?_
      refine x_bipush (v := 33) dX12_sign_22 (by decide) ?_
      refine x_icmp_ne (tgt := 32) dX12_sign_24 (by decide) (fun c24 => ?_) (fun c24 => ?_)
      · replace hf := zif_f c24 hf
        refine x_iload_n dX12_sign_32 rfl rfl ?_
        refine x_bipush (v := 60) dX12_sign_33 (by decide) ?_
        refine x_icmp_ne (tgt := 43) dX12_sign_35 (by decide) (fun c35 => ?_) (fun c35 => ?_)
        · replace hf := zif_f c35 hf
          refine x_iconst (v := 0) dX12_sign_43 (by decide) ?_
          exact Ex.sb (cc_X12_sign_L44  hf) ⟨rfl, rfl, rfl, trivial⟩
        · replace hf := zif_t c35 hf
          refine x_bipush (v := 14) dX12_sign_38 (by decide) ?_
          refine x_goto (tgt := 44) dX12_sign_40 (by decide) ?_
          exact Ex.sb (cc_X12_sign_L44  hf) ⟨rfl, rfl, rfl, trivial⟩
      · replace hf := zif_t c24 hf
        refine x_bipush (v := 12) dX12_sign_27 (by decide) ?_
        refine x_goto (tgt := 44) dX12_sign_29 (by decide) ?_
        exact Ex.sb (cc_X12_sign_L44  hf) ⟨rfl, rfl, rfl, trivial⟩
    · replace hf := zif_t c13 hf
      refine x_bipush (v := 11) dX12_sign_16 (by decide) ?_
      refine x_goto (tgt := 44) dX12_sign_18 (by decide) ?_
      exact Ex.sb (cc_X12_sign_L44  hf) ⟨rfl, rfl, rfl, trivial⟩
  · replace hf := zif_f c3 hf
    refine x_iconst (v := 0) dX12_sign_6 (by decide) ?_
    refine x_goto (tgt := 44) dX12_sign_7 (by decide) ?_
    exact Ex.sb (cc_X12_sign_L44  hf) ⟨rfl, rfl, rfl, trivial⟩
theorem cc_X12_cut_L291 {l : Launch} {G : zG} {N : Nat} {k7 : Int32 → zMem → Option zMem} (hk7 : ∀ {x1 : Int32} {M : zMem} {M1 : zMem}, k7 x1 M = some M1 → Ex l G 2 mX12_cut 7 [(0, .ref (G.2.2.1 69)), (1, .int x1)] [] M (zqV M1)) {x1 : Int32} {M : zMem} {M1 : zMem} (hf : fX12_cut_L291 N k7 x1 M = some M1) : Ex l G 2 mX12_cut 291 [(0, .ref (G.2.2.1 69)), (1, .int x1)] [] M (zqV M1) := by
  rw [fX12_cut_L291] at hf
  refine x_goto (tgt := 7) dX12_cut_291 (by decide) ?_
  exact Ex.sb (hk7 hf) ⟨rfl, rfl, trivial⟩
theorem cc_X12_cut_L67 {l : Launch} {G : zG} {N : Nat} {k7 : Int32 → zMem → Option zMem} (hk7 : ∀ {x1 : Int32} {M : zMem} {M1 : zMem}, k7 x1 M = some M1 → Ex l G 2 mX12_cut 7 [(0, .ref (G.2.2.1 69)), (1, .int x1)] [] M (zqV M1)) {x1 : Int32} {M : zMem} {M1 : zMem} (hf : fX12_cut_L67 N k7 x1 M = some M1) : Ex l G 2 mX12_cut 67 [(0, .ref (G.2.2.1 69)), (1, .int x1)] [] M (zqV M1) := by
  rw [fX12_cut_L67] at hf
  obtain ⟨x1_20, ex1_20, hf⟩ := zletE hf
  refine x_iinc (c0 := 1) dX12_cut_67 rfl (Nat.le_of_ble_eq_true rfl) (by decide) ex1_20 ?_
  refine x_goto (tgt := 291) dX12_cut_70 (by decide) ?_
  exact Ex.sb (cc_X12_cut_L291 hk7 hf) ⟨rfl, rfl, trivial⟩
theorem cc_X12_cut_L118 {l : Launch} {G : zG} {N : Nat} {k7 : Int32 → zMem → Option zMem} {k85 : Int32 → Int32 → Int64 → zMem → Option zMem} (hk7 : ∀ {x1 : Int32} {M : zMem} {M1 : zMem}, k7 x1 M = some M1 → Ex l G 2 mX12_cut 7 [(0, .ref (G.2.2.1 69)), (1, .int x1)] [] M (zqV M1)) (hk85 : ∀ {x1 : Int32} {x3 : Int32} {x4 : Int64} {M : zMem} {M1 : zMem}, k85 x1 x3 x4 M = some M1 → Ex l G 2 mX12_cut 85 [(0, .ref (G.2.2.1 69)), (1, .int x1), (3, .int x3), (4, .long x4)] [] M (zqV M1)) {x1 : Int32} {x3 : Int32} {x4 : Int64} {M : zMem} {M1 : zMem} (hf : fX12_cut_L118 N k7 k85 x1 x3 x4 M = some M1) : Ex l G 2 mX12_cut 118 [(0, .ref (G.2.2.1 69)), (1, .int x1), (3, .int x3), (4, .long x4)] [] M (zqV M1) := by
  rw [fX12_cut_L118] at hf
  obtain ⟨x3_47, ex3_47, hf⟩ := zletE hf
  refine x_iinc (c0 := 1) dX12_cut_118 rfl (Nat.le_of_ble_eq_true rfl) (by decide) ex3_47 ?_
  refine x_goto (tgt := 85) dX12_cut_121 (by decide) ?_
  exact Ex.sb (hk85 hf) ⟨rfl, rfl, rfl, rfl, trivial⟩
theorem cc_X12_cut_L173 {l : Launch} {G : zG} {N : Nat} {k7 : Int32 → zMem → Option zMem} {k146 : Int32 → Int32 → Int64 → Int32 → Int32 → zMem → Option zMem} (hk7 : ∀ {x1 : Int32} {M : zMem} {M1 : zMem}, k7 x1 M = some M1 → Ex l G 2 mX12_cut 7 [(0, .ref (G.2.2.1 69)), (1, .int x1)] [] M (zqV M1)) (hk146 : ∀ {x1 : Int32} {x3 : Int32} {x4 : Int64} {x6 : Int32} {x7 : Int32} {M : zMem} {M1 : zMem}, k146 x1 x3 x4 x6 x7 M = some M1 → Ex l G 2 mX12_cut 146 [(0, .ref (G.2.2.1 69)), (1, .int x1), (3, .int x3), (4, .long x4), (6, .int x6), (7, .int x7)] [] M (zqV M1)) {x1 : Int32} {x3 : Int32} {x4 : Int64} {x6 : Int32} {x7 : Int32} {M : zMem} {M1 : zMem} (hf : fX12_cut_L173 N k7 k146 x1 x3 x4 x6 x7 M = some M1) : Ex l G 2 mX12_cut 173 [(0, .ref (G.2.2.1 69)), (1, .int x1), (3, .int x3), (4, .long x4), (6, .int x6), (7, .int x7)] [] M (zqV M1) := by
  rw [fX12_cut_L173] at hf
  obtain ⟨x7_53, ex7_53, hf⟩ := zletE hf
  refine x_iinc (c0 := 1) dX12_cut_173 rfl (Nat.le_of_ble_eq_true rfl) (by decide) ex7_53 ?_
  refine x_goto (tgt := 146) dX12_cut_176 (by decide) ?_
  exact Ex.sb (hk146 hf) ⟨rfl, rfl, rfl, rfl, rfl, rfl, trivial⟩
theorem cc_X12_cut_L179 {l : Launch} {G : zG} {N : Nat} {k7 : Int32 → zMem → Option zMem} (hk7 : ∀ {x1 : Int32} {M : zMem} {M1 : zMem}, k7 x1 M = some M1 → Ex l G 2 mX12_cut 7 [(0, .ref (G.2.2.1 69)), (1, .int x1)] [] M (zqV M1)) {x1 : Int32} {x3 : Int32} {x4 : Int64} {x6 : Int32} {M : zMem} {M1 : zMem} (hf : fX12_cut_L179 N k7 x1 x3 x4 x6 M = some M1) : Ex l G 2 mX12_cut 179 [(0, .ref (G.2.2.1 69)), (1, .int x1), (3, .int x3), (4, .long x4), (6, .int x6)] [] M (zqV M1) := by
  rw [fX12_cut_L179] at hf
  refine x_aload_n dX12_cut_179 rfl rfl ?_
  refine x_iload dX12_cut_180 rfl ?_
  refine x_iload_n dX12_cut_182 rfl rfl ?_
  refine x_iconst (v := 0) dX12_cut_183 (by decide) ?_
  refine x_lload dX12_cut_184 rfl ?_
  obtain ⟨M49, hq48, hf⟩ := zbind hf
  refine x_invVv dX12_cut_186 mk_X12_token ml_X12_238 (cc_X12_token hq48) rfl rfl rfl (Nat.le_of_ble_eq_true rfl) rfl (Nat.le_of_ble_eq_true rfl) rfl ?_
  refine x_iload_n dX12_cut_189 rfl rfl ?_
  refine x_iload_n dX12_cut_190 rfl rfl ?_
  refine x_iadd dX12_cut_191 ?_
  obtain ⟨x1_50, ex1_50, hf⟩ := zletE hf
  refine x_istore_n dX12_cut_192 rfl (Nat.le_of_ble_eq_true rfl) ex1_50 ?_
  refine x_goto (tgt := 291) dX12_cut_193 (by decide) ?_
  exact Ex.sb (cc_X12_cut_L291 hk7 hf) ⟨rfl, rfl, trivial⟩
theorem cc_X12_cut_L146 {l : Launch} {G : zG} {N : Nat} {k7 : Int32 → zMem → Option zMem} (hk7 : ∀ {x1 : Int32} {M : zMem} {M1 : zMem}, k7 x1 M = some M1 → Ex l G 2 mX12_cut 7 [(0, .ref (G.2.2.1 69)), (1, .int x1)] [] M (zqV M1)) : ∀ {n : Nat} {x1 : Int32} {x3 : Int32} {x4 : Int64} {x6 : Int32} {x7 : Int32} {M : zMem} {M1 : zMem}, fX12_cut_L146 N k7 n x1 x3 x4 x6 x7 M = some M1 → Ex l G 2 mX12_cut 146 [(0, .ref (G.2.2.1 69)), (1, .int x1), (3, .int x3), (4, .long x4), (6, .int x6), (7, .int x7)] [] M (zqV M1) := by
  intro n
  induction n with
  | zero => intro x1 x3 x4 x6 x7 M M1 hf; cases hf
  | succ n ih =>
    intro x1 x3 x4 x6 x7 M M1 hf
    rw [fX12_cut_L146] at hf
    refine x_iload dX12_cut_146 rfl ?_
    refine x_bipush (v := 12) dX12_cut_148 (by decide) ?_
    refine x_icmp_ge (tgt := 179) dX12_cut_150 (by decide) (fun c150 => ?_) (fun c150 => ?_)
    · replace hf := zif_t c150 hf
      exact Ex.sb (cc_X12_cut_L179 hk7 hf) ⟨rfl, rfl, rfl, rfl, rfl, trivial⟩
    · replace hf := zif_f c150 hf
      refine x_aload_n dX12_cut_153 rfl rfl ?_
      refine x_getS (r := 76) dX12_cut_154 fl_X12_34 rfl rfl ?_
      refine x_iload dX12_cut_157 rfl ?_
      obtain ⟨v51, hv51, hf⟩ := zbind hf
      refine x_jld dX12_cut_159 rfl hv51 ?_
      refine x_lload dX12_cut_160 rfl ?_
      refine x_lcmp dX12_cut_162 ?_
      refine x_if_ne (tgt := 173) dX12_cut_163 (by decide) (fun c163 => ?_) (fun c163 => ?_)
      · replace hf := zif_f c163 hf
        exact Ex.sb (cc_X12_cut_L173 hk7 ih hf) ⟨rfl, rfl, rfl, rfl, rfl, rfl, trivial⟩
      · replace hf := zif_t c163 hf
        refine x_bipush (v := 20) dX12_cut_166 (by decide) ?_
        refine x_iload dX12_cut_168 rfl ?_
        refine x_iadd dX12_cut_170 ?_
        obtain ⟨x6_52, ex6_52, hf⟩ := zletE hf
        refine x_istore dX12_cut_171 (Nat.le_of_ble_eq_true rfl) ex6_52 ?_
        exact Ex.sb (cc_X12_cut_L173 hk7 ih hf) ⟨rfl, rfl, rfl, rfl, rfl, rfl, trivial⟩
theorem cc_X12_cut_L135 {l : Launch} {G : zG} {N : Nat} {k7 : Int32 → zMem → Option zMem} (hk7 : ∀ {x1 : Int32} {M : zMem} {M1 : zMem}, k7 x1 M = some M1 → Ex l G 2 mX12_cut 7 [(0, .ref (G.2.2.1 69)), (1, .int x1)] [] M (zqV M1)) {x1 : Int32} {x3 : Int32} {x4 : Int64} {s0 : Int32} {M : zMem} {M1 : zMem} (hf : fX12_cut_L135 N k7 x1 x3 x4 s0 M = some M1) : Ex l G 2 mX12_cut 135 [(0, .ref (G.2.2.1 69)), (1, .int x1), (3, .int x3), (4, .long x4)] [.int s0] M (zqV M1) := by
  rw [fX12_cut_L135] at hf
  refine x_istore dX12_cut_135 (Nat.le_of_ble_eq_true rfl) rfl ?_
  refine x_iload_n dX12_cut_137 rfl rfl ?_
  refine x_bipush (v := 7) dX12_cut_138 (by decide) ?_
  refine x_icmp_gt (tgt := 179) dX12_cut_140 (by decide) (fun c140 => ?_) (fun c140 => ?_)
  · replace hf := zif_t c140 hf
    exact Ex.sb (cc_X12_cut_L179 hk7 hf) ⟨rfl, rfl, rfl, rfl, rfl, trivial⟩
  · replace hf := zif_f c140 hf
    refine x_iconst (v := 0) dX12_cut_143 (by decide) ?_
    refine x_istore dX12_cut_144 (Nat.le_of_ble_eq_true rfl) rfl ?_
    exact Ex.sb (cc_X12_cut_L146 hk7 hf) ⟨rfl, rfl, rfl, rfl, rfl, rfl, trivial⟩
theorem cc_X12_cut_L85 {l : Launch} {G : zG} {N : Nat} {k7 : Int32 → zMem → Option zMem} (hk7 : ∀ {x1 : Int32} {M : zMem} {M1 : zMem}, k7 x1 M = some M1 → Ex l G 2 mX12_cut 7 [(0, .ref (G.2.2.1 69)), (1, .int x1)] [] M (zqV M1)) : ∀ {n : Nat} {x1 : Int32} {x3 : Int32} {x4 : Int64} {M : zMem} {M1 : zMem}, fX12_cut_L85 N k7 n x1 x3 x4 M = some M1 → Ex l G 2 mX12_cut 85 [(0, .ref (G.2.2.1 69)), (1, .int x1), (3, .int x3), (4, .long x4)] [] M (zqV M1) := by
  intro n
  induction n with
  | zero => intro x1 x3 x4 M M1 hf; cases hf
  | succ n ih =>
    intro x1 x3 x4 M M1 hf
    rw [fX12_cut_L85] at hf
    refine x_aload_n dX12_cut_85 rfl rfl ?_
    refine x_iload_n dX12_cut_86 rfl rfl ?_
    refine x_iload_n dX12_cut_87 rfl rfl ?_
    refine x_iadd dX12_cut_88 ?_
    obtain ⟨r33, M32, hq31, hf⟩ := zb2E hf
    refine x_invVi dX12_cut_89 mk_X12_at ml_X12_235 (cc_X12_at hq31) rfl rfl rfl (Nat.le_of_ble_eq_true rfl) rfl (Nat.le_of_ble_eq_true rfl) rfl ?_
    obtain ⟨r36, M35, hq34, hf⟩ := zb2E hf
    refine x_invSi dX12_cut_92 mk_X12_isLetter ml_X12_242 (cc_X12_isLetter hq34) (Nat.le_of_ble_eq_true rfl) rfl (Nat.le_of_ble_eq_true rfl) rfl ?_
    refine x_if_eq (tgt := 124) dX12_cut_95 (by decide) (fun c95 => ?_) (fun c95 => ?_)
    · replace hf := zif_t c95 hf
      refine x_iload_n dX12_cut_124 rfl rfl ?_
      refine x_bipush (v := 8) dX12_cut_125 (by decide) ?_
      refine x_icmp_le (tgt := 134) dX12_cut_127 (by decide) (fun c127 => ?_) (fun c127 => ?_)
      · replace hf := zif_t c127 hf
        refine x_iconst (v := 1) dX12_cut_134 (by decide) ?_
        exact Ex.sb (cc_X12_cut_L135 hk7 hf) ⟨rfl, rfl, rfl, rfl, trivial⟩
      · replace hf := zif_f c127 hf
        refine x_iconst (v := 3) dX12_cut_130 (by decide) ?_
        refine x_goto (tgt := 135) dX12_cut_131 (by decide) ?_
        exact Ex.sb (cc_X12_cut_L135 hk7 hf) ⟨rfl, rfl, rfl, rfl, trivial⟩
    · replace hf := zif_f c95 hf
      refine x_iload_n dX12_cut_98 rfl rfl ?_
      refine x_bipush (v := 8) dX12_cut_99 (by decide) ?_
      refine x_icmp_ge (tgt := 118) dX12_cut_101 (by decide) (fun c101 => ?_) (fun c101 => ?_)
      · replace hf := zif_t c101 hf
        exact Ex.sb (cc_X12_cut_L118 hk7 ih hf) ⟨rfl, rfl, rfl, rfl, trivial⟩
      · replace hf := zif_f c101 hf
        refine x_lload dX12_cut_104 rfl ?_
        refine x_aload_n dX12_cut_106 rfl rfl ?_
        refine x_iload_n dX12_cut_107 rfl rfl ?_
        refine x_iload_n dX12_cut_108 rfl rfl ?_
        refine x_iadd dX12_cut_109 ?_
        obtain ⟨r39, M38, hq37, hf⟩ := zb2E hf
        refine x_invVi dX12_cut_110 mk_X12_at ml_X12_235 (cc_X12_at hq37) rfl rfl rfl (Nat.le_of_ble_eq_true rfl) rfl (Nat.le_of_ble_eq_true rfl) rfl ?_
        obtain ⟨r42, M41, hq40, hf⟩ := zb2E hf
        refine x_invSj dX12_cut_113 mk_X12_more ml_X12_228 (cc_X12_more hq40) (Nat.le_of_ble_eq_true rfl) rfl (Nat.le_of_ble_eq_true rfl) rfl ?_
        refine x_lstore dX12_cut_116 (Nat.le_of_ble_eq_true rfl) rfl ?_
        exact Ex.sb (cc_X12_cut_L118 hk7 ih hf) ⟨rfl, rfl, rfl, rfl, trivial⟩
theorem cc_X12_cut_L244 {l : Launch} {G : zG} {N : Nat} {k7 : Int32 → zMem → Option zMem} {k208 : Int32 → Int32 → Int32 → zMem → Option zMem} (hk7 : ∀ {x1 : Int32} {M : zMem} {M1 : zMem}, k7 x1 M = some M1 → Ex l G 2 mX12_cut 7 [(0, .ref (G.2.2.1 69)), (1, .int x1)] [] M (zqV M1)) (hk208 : ∀ {x1 : Int32} {x3 : Int32} {x4 : Int32} {M : zMem} {M1 : zMem}, k208 x1 x3 x4 M = some M1 → Ex l G 2 mX12_cut 208 [(0, .ref (G.2.2.1 69)), (1, .int x1), (3, .int x3), (4, .int x4)] [] M (zqV M1)) {x1 : Int32} {x3 : Int32} {x4 : Int32} {M : zMem} {M1 : zMem} (hf : fX12_cut_L244 N k7 k208 x1 x3 x4 M = some M1) : Ex l G 2 mX12_cut 244 [(0, .ref (G.2.2.1 69)), (1, .int x1), (3, .int x3), (4, .int x4)] [] M (zqV M1) := by
  rw [fX12_cut_L244] at hf
  obtain ⟨x3_46, ex3_46, hf⟩ := zletE hf
  refine x_iinc (c0 := 1) dX12_cut_244 rfl (Nat.le_of_ble_eq_true rfl) (by decide) ex3_46 ?_
  refine x_goto (tgt := 208) dX12_cut_247 (by decide) ?_
  exact Ex.sb (hk208 hf) ⟨rfl, rfl, rfl, rfl, trivial⟩
theorem cc_X12_cut_L261 {l : Launch} {G : zG} {N : Nat} {k7 : Int32 → zMem → Option zMem} (hk7 : ∀ {x1 : Int32} {M : zMem} {M1 : zMem}, k7 x1 M = some M1 → Ex l G 2 mX12_cut 7 [(0, .ref (G.2.2.1 69)), (1, .int x1)] [] M (zqV M1)) {x1 : Int32} {x3 : Int32} {x4 : Int32} {s1 : Int32} {M : zMem} {M1 : zMem} (hf : fX12_cut_L261 N k7 x1 x3 x4 s1 M = some M1) : Ex l G 2 mX12_cut 261 [(0, .ref (G.2.2.1 69)), (1, .int x1), (3, .int x3), (4, .int x4)] [.int s1, .ref (G.2.2.1 69)] M (zqV M1) := by
  rw [fX12_cut_L261] at hf
  refine x_iload_n dX12_cut_261 rfl rfl ?_
  refine x_iload dX12_cut_262 rfl ?_
  refine x_lconst (v := 0) dX12_cut_264 (by decide) ?_
  obtain ⟨M44, hq43, hf⟩ := zbind hf
  refine x_invVv dX12_cut_265 mk_X12_token ml_X12_238 (cc_X12_token hq43) rfl rfl rfl (Nat.le_of_ble_eq_true rfl) rfl (Nat.le_of_ble_eq_true rfl) rfl ?_
  refine x_iload_n dX12_cut_268 rfl rfl ?_
  refine x_iload_n dX12_cut_269 rfl rfl ?_
  refine x_iadd dX12_cut_270 ?_
  obtain ⟨x1_45, ex1_45, hf⟩ := zletE hf
  refine x_istore_n dX12_cut_271 rfl (Nat.le_of_ble_eq_true rfl) ex1_45 ?_
  refine x_goto (tgt := 291) dX12_cut_272 (by decide) ?_
  exact Ex.sb (cc_X12_cut_L291 hk7 hf) ⟨rfl, rfl, trivial⟩
theorem cc_X12_cut_L208 {l : Launch} {G : zG} {N : Nat} {k7 : Int32 → zMem → Option zMem} (hk7 : ∀ {x1 : Int32} {M : zMem} {M1 : zMem}, k7 x1 M = some M1 → Ex l G 2 mX12_cut 7 [(0, .ref (G.2.2.1 69)), (1, .int x1)] [] M (zqV M1)) : ∀ {n : Nat} {x1 : Int32} {x3 : Int32} {x4 : Int32} {M : zMem} {M1 : zMem}, fX12_cut_L208 N k7 n x1 x3 x4 M = some M1 → Ex l G 2 mX12_cut 208 [(0, .ref (G.2.2.1 69)), (1, .int x1), (3, .int x3), (4, .int x4)] [] M (zqV M1) := by
  intro n
  induction n with
  | zero => intro x1 x3 x4 M M1 hf; cases hf
  | succ n ih =>
    intro x1 x3 x4 M M1 hf
    rw [fX12_cut_L208] at hf
    refine x_aload_n dX12_cut_208 rfl rfl ?_
    refine x_iload_n dX12_cut_209 rfl rfl ?_
    refine x_iload_n dX12_cut_210 rfl rfl ?_
    refine x_iadd dX12_cut_211 ?_
    obtain ⟨r23, M22, hq21, hf⟩ := zb2E hf
    refine x_invVi dX12_cut_212 mk_X12_at ml_X12_235 (cc_X12_at hq21) rfl rfl rfl (Nat.le_of_ble_eq_true rfl) rfl (Nat.le_of_ble_eq_true rfl) rfl ?_
    obtain ⟨r26, M25, hq24, hf⟩ := zb2E hf
    refine x_invSi dX12_cut_215 mk_X12_isDigit ml_X12_246 (cc_X12_isDigit hq24) (Nat.le_of_ble_eq_true rfl) rfl (Nat.le_of_ble_eq_true rfl) rfl ?_
    refine x_if_eq (tgt := 250) dX12_cut_218 (by decide) (fun c218 => ?_) (fun c218 => ?_)
    · replace hf := zif_t c218 hf
      refine x_aload_n dX12_cut_250 rfl rfl ?_
      refine x_iload_n dX12_cut_251 rfl rfl ?_
      refine x_iconst (v := 4) dX12_cut_252 (by decide) ?_
      refine x_icmp_le (tgt := 260) dX12_cut_253 (by decide) (fun c253 => ?_) (fun c253 => ?_)
      · replace hf := zif_t c253 hf
        refine x_iconst (v := 2) dX12_cut_260 (by decide) ?_
        exact Ex.sb (cc_X12_cut_L261 hk7 hf) ⟨rfl, rfl, rfl, rfl, trivial⟩
      · replace hf := zif_f c253 hf
        refine x_iconst (v := 3) dX12_cut_256 (by decide) ?_
        refine x_goto (tgt := 261) dX12_cut_257 (by decide) ?_
        exact Ex.sb (cc_X12_cut_L261 hk7 hf) ⟨rfl, rfl, rfl, rfl, trivial⟩
    · replace hf := zif_f c218 hf
      refine x_iload_n dX12_cut_221 rfl rfl ?_
      refine x_iconst (v := 4) dX12_cut_222 (by decide) ?_
      refine x_icmp_ge (tgt := 244) dX12_cut_223 (by decide) (fun c223 => ?_) (fun c223 => ?_)
      · replace hf := zif_t c223 hf
        exact Ex.sb (cc_X12_cut_L244 hk7 ih hf) ⟨rfl, rfl, rfl, rfl, trivial⟩
      · replace hf := zif_f c223 hf
        refine x_bipush (v := 10) dX12_cut_226 (by decide) ?_
        refine x_iload dX12_cut_228 rfl ?_
        refine x_imul dX12_cut_230 ?_
        refine x_aload_n dX12_cut_231 rfl rfl ?_
        refine x_iload_n dX12_cut_232 rfl rfl ?_
        refine x_iload_n dX12_cut_233 rfl rfl ?_
        refine x_iadd dX12_cut_234 ?_
        obtain ⟨r29, M28, hq27, hf⟩ := zb2E hf
        refine x_invVi dX12_cut_235 mk_X12_at ml_X12_235 (cc_X12_at hq27) rfl rfl rfl (Nat.le_of_ble_eq_true rfl) rfl (Nat.le_of_ble_eq_true rfl) rfl ?_
        refine x_iadd dX12_cut_238 ?_
        refine x_bipush (v := 48) dX12_cut_239 (by decide) ?_
        refine x_isub dX12_cut_241 ?_
        obtain ⟨x4_30, ex4_30, hf⟩ := zletE hf
        refine x_istore dX12_cut_242 (Nat.le_of_ble_eq_true rfl) ex4_30 ?_
        exact Ex.sb (cc_X12_cut_L244 hk7 ih hf) ⟨rfl, rfl, rfl, rfl, trivial⟩
theorem cc_X12_cut_L7 {l : Launch} {G : zG} {N : Nat} : ∀ {n : Nat} {x1 : Int32} {M : zMem} {M1 : zMem}, fX12_cut_L7 N n x1 M = some M1 → Ex l G 2 mX12_cut 7 [(0, .ref (G.2.2.1 69)), (1, .int x1)] [] M (zqV M1) := by
  intro n
  induction n with
  | zero => intro x1 M M1 hf; cases hf
  | succ n ih =>
    intro x1 M M1 hf
    rw [fX12_cut_L7] at hf
    refine x_aload_n dX12_cut_7 rfl rfl ?_
    refine x_getI dX12_cut_8 fl_X12_232 rfl rfl ?_
    refine x_sipush (v := 400) dX12_cut_11 (by decide) ?_
    refine x_icmp_gt (tgt := 294) dX12_cut_14 (by decide) (fun c14 => ?_) (fun c14 => ?_)
    · replace hf := zif_t c14 hf
      exact x_vret rfl dX12_cut_294 (zretV hf)
    · replace hf := zif_f c14 hf
      refine x_aload_n dX12_cut_17 rfl rfl ?_
      refine x_iload_n dX12_cut_18 rfl rfl ?_
      obtain ⟨r4, M3, hq2, hf⟩ := zb2E hf
      refine x_invVi dX12_cut_19 mk_X12_at ml_X12_235 (cc_X12_at hq2) rfl rfl rfl (Nat.le_of_ble_eq_true rfl) rfl (Nat.le_of_ble_eq_true rfl) rfl ?_
      refine x_istore_n dX12_cut_22 rfl (Nat.le_of_ble_eq_true rfl) rfl ?_
      refine x_iload_n dX12_cut_23 rfl rfl ?_
      refine x_aload_n dX12_cut_24 rfl rfl ?_
      refine x_getI dX12_cut_25 fl_X12_223 rfl rfl ?_
      refine x_icmp_lt (tgt := 43) dX12_cut_28 (by decide) (fun c28 => ?_) (fun c28 => ?_)
      · replace hf := zif_t c28 hf
        refine x_iload_n dX12_cut_43 rfl rfl ?_
        refine x_bipush (v := 9) dX12_cut_44 (by decide) ?_
        refine x_icmp_eq (tgt := 67) dX12_cut_46 (by decide) (fun c46 => ?_) (fun c46 => ?_)
        · replace hf := zif_t c46 hf
          exact Ex.sb (cc_X12_cut_L67 ih hf) ⟨rfl, rfl, trivial⟩
        · replace hf := zif_f c46 hf
          refine x_iload_n dX12_cut_49 rfl rfl ?_
          refine x_bipush (v := 10) dX12_cut_50 (by decide) ?_
          refine x_icmp_eq (tgt := 67) dX12_cut_52 (by decide) (fun c52 => ?_) (fun c52 => ?_)
          · replace hf := zif_t c52 hf
            exact Ex.sb (cc_X12_cut_L67 ih hf) ⟨rfl, rfl, trivial⟩
          · replace hf := zif_f c52 hf
            refine x_iload_n dX12_cut_55 rfl rfl ?_
            refine x_bipush (v := 13) dX12_cut_56 (by decide) ?_
            refine x_icmp_eq (tgt := 67) dX12_cut_58 (by decide) (fun c58 => ?_) (fun c58 => ?_)
            · replace hf := zif_t c58 hf
              exact Ex.sb (cc_X12_cut_L67 ih hf) ⟨rfl, rfl, trivial⟩
            · replace hf := zif_f c58 hf
              refine x_iload_n dX12_cut_61 rfl rfl ?_
              refine x_bipush (v := 32) dX12_cut_62 (by decide) ?_
              refine x_icmp_ne (tgt := 73) dX12_cut_64 (by decide) (fun c64 => ?_) (fun c64 => ?_)
              · replace hf := zif_f c64 hf
                refine x_iload_n dX12_cut_73 rfl rfl ?_
                obtain ⟨r7, M6, hq5, hf⟩ := zb2E hf
                refine x_invSi dX12_cut_74 mk_X12_isLetter ml_X12_242 (cc_X12_isLetter hq5) (Nat.le_of_ble_eq_true rfl) rfl (Nat.le_of_ble_eq_true rfl) rfl ?_
                refine x_if_eq (tgt := 196) dX12_cut_77 (by decide) (fun c77 => ?_) (fun c77 => ?_)
                · replace hf := zif_t c77 hf
                  refine x_iload_n dX12_cut_196 rfl rfl ?_
                  obtain ⟨r10, M9, hq8, hf⟩ := zb2E hf
                  refine x_invSi dX12_cut_197 mk_X12_isDigit ml_X12_246 (cc_X12_isDigit hq8) (Nat.le_of_ble_eq_true rfl) rfl (Nat.le_of_ble_eq_true rfl) rfl ?_
                  refine x_if_eq (tgt := 275) dX12_cut_200 (by decide) (fun c200 => ?_) (fun c200 => ?_)
                  · replace hf := zif_t c200 hf
                    refine x_iload_n dX12_cut_275 rfl rfl ?_
                    refine x_aload_n dX12_cut_276 rfl rfl ?_
                    refine x_iload_n dX12_cut_277 rfl rfl ?_
                    refine x_iload_n dX12_cut_278 rfl rfl ?_
                    refine x_aload_n dX12_cut_279 rfl rfl ?_
                    refine x_iload_n dX12_cut_280 rfl rfl ?_
                    refine x_iconst (v := 1) dX12_cut_281 (by decide) ?_
                    refine x_iadd dX12_cut_282 ?_
                    obtain ⟨r13, M12, hq11, hf⟩ := zb2E hf
                    refine x_invVi dX12_cut_283 mk_X12_at ml_X12_235 (cc_X12_at hq11) rfl rfl rfl (Nat.le_of_ble_eq_true rfl) rfl (Nat.le_of_ble_eq_true rfl) rfl ?_
                    obtain ⟨r16, M15, hq14, hf⟩ := zb2E hf
                    refine x_invVi dX12_cut_286 mk_X12_sign ml_X12_249 (cc_X12_sign hq14) rfl rfl rfl (Nat.le_of_ble_eq_true rfl) rfl (Nat.le_of_ble_eq_true rfl) rfl ?_
                    refine x_iadd dX12_cut_289 ?_
                    obtain ⟨x1_17, ex1_17, hf⟩ := zletE hf
                    refine x_istore_n dX12_cut_290 rfl (Nat.le_of_ble_eq_true rfl) ex1_17 ?_
                    exact Ex.sb (cc_X12_cut_L291 ih hf) ⟨rfl, rfl, trivial⟩
                  · replace hf := zif_f c200 hf
                    refine x_iconst (v := 0) dX12_cut_203 (by decide) ?_
                    refine x_istore_n dX12_cut_204 rfl (Nat.le_of_ble_eq_true rfl) rfl ?_
                    refine x_iconst (v := 0) dX12_cut_205 (by decide) ?_
                    refine x_istore dX12_cut_206 (Nat.le_of_ble_eq_true rfl) rfl ?_
                    exact Ex.sb (cc_X12_cut_L208 ih hf) ⟨rfl, rfl, rfl, rfl, trivial⟩
                · replace hf := zif_f c77 hf
                  refine x_iconst (v := 0) dX12_cut_80 (by decide) ?_
                  refine x_istore_n dX12_cut_81 rfl (Nat.le_of_ble_eq_true rfl) rfl ?_
                  refine x_lconst (v := 0) dX12_cut_82 (by decide) ?_
                  refine x_lstore dX12_cut_83 (Nat.le_of_ble_eq_true rfl) rfl ?_
                  exact Ex.sb (cc_X12_cut_L85 ih hf) ⟨rfl, rfl, rfl, rfl, trivial⟩
              · replace hf := zif_t c64 hf
                exact Ex.sb (cc_X12_cut_L67 ih hf) ⟨rfl, rfl, trivial⟩
      · replace hf := zif_f c28 hf
        refine x_aload_n dX12_cut_31 rfl rfl ?_
        refine x_iconst (v := 0) dX12_cut_32 (by decide) ?_
        refine x_aload_n dX12_cut_33 rfl rfl ?_
        refine x_getI dX12_cut_34 fl_X12_223 rfl rfl ?_
        refine x_iconst (v := 0) dX12_cut_37 (by decide) ?_
        refine x_lconst (v := 0) dX12_cut_38 (by decide) ?_
        obtain ⟨M19, hq18, hf⟩ := zbind hf
        refine x_invVv dX12_cut_39 mk_X12_token ml_X12_238 (cc_X12_token hq18) rfl rfl rfl (Nat.le_of_ble_eq_true rfl) rfl (Nat.le_of_ble_eq_true rfl) rfl ?_
        exact x_vret rfl dX12_cut_42 (zretV hf)
theorem cc_X12_cut {l : Launch} {G : zG} {N : Nat}   {M : zMem} {M1 : zMem} (hf : fX12_cut N M = some M1) : Ca l G 2 mX12_cut [.ref (G.2.2.1 69)] M none M1 := by
  refine Ca.of (by decide +kernel) (Nat.le_of_ble_eq_true rfl) rfl ?_
  rw [fX12_cut] at hf
  refine x_aload_n dX12_cut_0 rfl rfl ?_
  refine x_iconst (v := 0) dX12_cut_1 (by decide) ?_
  obtain ⟨M1, eM1, hf⟩ := zletE hf
  refine x_putI dX12_cut_2 fp_X12_232 rfl rfl rfl rfl eM1 ?_
  refine x_iconst (v := 0) dX12_cut_5 (by decide) ?_
  refine x_istore_n dX12_cut_6 rfl (Nat.le_of_ble_eq_true rfl) rfl ?_
  exact Ex.sb (cc_X12_cut_L7  hf) ⟨rfl, rfl, trivial⟩
theorem cc_X12_is {l : Launch} {G : zG} {x1 : Int32}  {M : zMem} {r : Int32} {M1 : zMem} (hf : fX12_is x1 M = some (r, M1)) : Ca l G 0 mX12_is [.ref (G.2.2.1 69), .int x1] M (some (.int r)) M1 := by
  refine Ca.of (by decide +kernel) (Nat.le_of_ble_eq_true rfl) rfl ?_
  rw [fX12_is] at hf
  refine x_aload_n dX12_is_0 rfl rfl ?_
  refine x_getI dX12_is_1 fl_X12_253 rfl rfl ?_
  refine x_if_ne (tgt := 24) dX12_is_4 (by decide) (fun c4 => ?_) (fun c4 => ?_)
  · replace hf := zif_f c4 hf
    refine x_iconst (v := 0) dX12_is_24 (by decide) ?_
    exact x_zret rfl rfl dX12_is_25 (zretI hf)
  · replace hf := zif_t c4 hf
    refine x_aload_n dX12_is_7 rfl rfl ?_
    refine x_getS (r := 72) dX12_is_8 fl_X12_20 rfl rfl ?_
    refine x_aload_n dX12_is_11 rfl rfl ?_
    refine x_getI dX12_is_12 fl_X12_256 rfl rfl ?_
    obtain ⟨v1, hv1, hf⟩ := zbind hf
    refine x_ild dX12_is_15 rfl hv1 ?_
    refine x_iload_n dX12_is_16 rfl rfl ?_
    refine x_icmp_ne (tgt := 24) dX12_is_17 (by decide) (fun c17 => ?_) (fun c17 => ?_)
    · replace hf := zif_f c17 hf
      refine x_iconst (v := 0) dX12_is_24 (by decide) ?_
      exact x_zret rfl rfl dX12_is_25 (zretI hf)
    · replace hf := zif_t c17 hf
      refine x_iconst (v := 1) dX12_is_20 (by decide) ?_
      refine x_goto (tgt := 25) dX12_is_21 (by decide) ?_
      exact x_zret rfl rfl dX12_is_25 (zretI hf)
theorem cc_X12_fail {l : Launch} {G : zG} {x1 : Int32}  {M : zMem} {M1 : zMem} (hf : fX12_fail x1 M = some M1) : Ca l G 0 mX12_fail [.ref (G.2.2.1 69), .int x1] M none M1 := by
  refine Ca.of (by decide +kernel) (Nat.le_of_ble_eq_true rfl) rfl ?_
  rw [fX12_fail] at hf
  refine x_aload_n dX12_fail_0 rfl rfl ?_
  refine x_getI dX12_fail_1 fl_X12_253 rfl rfl ?_
  refine x_if_le (tgt := 8) dX12_fail_4 (by decide) (fun c4 => ?_) (fun c4 => ?_)
  · replace hf := zif_t c4 hf
    refine x_aload_n dX12_fail_8 rfl rfl ?_
    refine x_iload_n dX12_fail_9 rfl rfl ?_
    obtain ⟨M1, eM1, hf⟩ := zletE hf
    refine x_putI dX12_fail_10 fp_X12_253 rfl rfl rfl rfl eM1 ?_
    refine x_aload_n dX12_fail_13 rfl rfl ?_
    refine x_aload_n dX12_fail_14 rfl rfl ?_
    refine x_getS (r := 73) dX12_fail_15 fl_X12_24 rfl rfl ?_
    refine x_aload_n dX12_fail_18 rfl rfl ?_
    refine x_getI dX12_fail_19 fl_X12_256 rfl rfl ?_
    obtain ⟨v2, hv2, hf⟩ := zbind hf
    refine x_ild dX12_fail_22 rfl hv2 ?_
    obtain ⟨M3, eM3, hf⟩ := zletE hf
    refine x_putI dX12_fail_23 fp_X12_259 rfl rfl rfl rfl eM3 ?_
    exact x_vret rfl dX12_fail_26 (zretV hf)
  · replace hf := zif_f c4 hf
    exact x_vret rfl dX12_fail_7 (zretV hf)
theorem cc_X12_wrong_L46 {l : Launch} {G : zG} {x1 : Int32} {x3 : Int32} {M : zMem} {M1 : zMem} (hf : fX12_wrong_L46 x1 x3 M = some M1) : Ex l G 0 mX12_wrong 46 [(0, .ref (G.2.2.1 69)), (1, .int x1), (3, .int x3)] [] M (zqV M1) := by
  rw [fX12_wrong_L46] at hf
  refine x_aload_n dX12_wrong_46 rfl rfl ?_
  refine x_iload_n dX12_wrong_47 rfl rfl ?_
  obtain ⟨M2, eM2, hf⟩ := zletE hf
  refine x_putI dX12_wrong_48 fp_X12_262 rfl rfl rfl rfl eM2 ?_
  refine x_aload_n dX12_wrong_51 rfl rfl ?_
  refine x_iload_n dX12_wrong_52 rfl rfl ?_
  obtain ⟨M3, eM3, hf⟩ := zletE hf
  refine x_putI dX12_wrong_53 fp_X12_265 rfl rfl rfl rfl eM3 ?_
  exact x_vret rfl dX12_wrong_56 (zretV hf)
theorem cc_X12_wrong {l : Launch} {G : zG} {x1 : Int32} {x2 : Int32}  {M : zMem} {M1 : zMem} (hf : fX12_wrong x1 x2 M = some M1) : Ca l G 0 mX12_wrong [.ref (G.2.2.1 69), .int x1, .int x2] M none M1 := by
  refine Ca.of (by decide +kernel) (Nat.le_of_ble_eq_true rfl) rfl ?_
  rw [fX12_wrong] at hf
  refine x_aload_n dX12_wrong_0 rfl rfl ?_
  refine x_getS (r := 73) dX12_wrong_1 fl_X12_24 rfl rfl ?_
  refine x_iload_n dX12_wrong_4 rfl rfl ?_
  obtain ⟨v1, hv1, hf⟩ := zbind hf
  refine x_ild dX12_wrong_5 rfl hv1 ?_
  refine x_istore_n dX12_wrong_6 rfl (Nat.le_of_ble_eq_true rfl) rfl ?_
  refine x_aload_n dX12_wrong_7 rfl rfl ?_
  refine x_getI dX12_wrong_8 fl_X12_253 rfl rfl ?_
  refine x_if_gt (tgt := 45) dX12_wrong_11 (by decide) (fun c11 => ?_) (fun c11 => ?_)
  · replace hf := zif_t c11 hf
    exact x_vret rfl dX12_wrong_45 (zretV hf)
  · replace hf := zif_f c11 hf
    refine x_aload_n dX12_wrong_14 rfl rfl ?_
    refine x_getI dX12_wrong_15 fl_X12_262 rfl rfl ?_
    refine x_if_eq (tgt := 46) dX12_wrong_18 (by decide) (fun c18 => ?_) (fun c18 => ?_)
    · replace hf := zif_t c18 hf
      exact Ex.sb (cc_X12_wrong_L46  hf) ⟨rfl, rfl, rfl, trivial⟩
    · replace hf := zif_f c18 hf
      refine x_iload_n dX12_wrong_21 rfl rfl ?_
      refine x_aload_n dX12_wrong_22 rfl rfl ?_
      refine x_getI dX12_wrong_23 fl_X12_265 rfl rfl ?_
      refine x_icmp_gt (tgt := 45) dX12_wrong_26 (by decide) (fun c26 => ?_) (fun c26 => ?_)
      · replace hf := zif_t c26 hf
        exact x_vret rfl dX12_wrong_45 (zretV hf)
      · replace hf := zif_f c26 hf
        refine x_iload_n dX12_wrong_29 rfl rfl ?_
        refine x_aload_n dX12_wrong_30 rfl rfl ?_
        refine x_getI dX12_wrong_31 fl_X12_265 rfl rfl ?_
        refine x_icmp_ne (tgt := 46) dX12_wrong_34 (by decide) (fun c34 => ?_) (fun c34 => ?_)
        · replace hf := zif_f c34 hf
          exact Ex.sb (cc_X12_wrong_L46  hf) ⟨rfl, rfl, rfl, trivial⟩
        · replace hf := zif_t c34 hf
          refine x_iload_n dX12_wrong_37 rfl rfl ?_
          refine x_aload_n dX12_wrong_38 rfl rfl ?_
          refine x_getI dX12_wrong_39 fl_X12_262 rfl rfl ?_
          refine x_icmp_lt (tgt := 46) dX12_wrong_42 (by decide) (fun c42 => ?_) (fun c42 => ?_)
          · replace hf := zif_t c42 hf
            exact Ex.sb (cc_X12_wrong_L46  hf) ⟨rfl, rfl, rfl, trivial⟩
          · replace hf := zif_f c42 hf
            exact x_vret rfl dX12_wrong_45 (zretV hf)
theorem cc_X12_next {l : Launch} {G : zG}   {M : zMem} {M1 : zMem} (hf : fX12_next M = some M1) : Ca l G 1 mX12_next [.ref (G.2.2.1 69)] M none M1 := by
  refine Ca.of (by decide +kernel) (Nat.le_of_ble_eq_true rfl) rfl ?_
  rw [fX12_next] at hf
  refine x_aload_n dX12_next_0 rfl rfl ?_
  refine x_getI dX12_next_1 fl_X12_256 rfl rfl ?_
  refine x_sipush (v := 400) dX12_next_4 (by decide) ?_
  refine x_icmp_ne (tgt := 18) dX12_next_7 (by decide) (fun c7 => ?_) (fun c7 => ?_)
  · replace hf := zif_f c7 hf
    refine x_aload_n dX12_next_18 rfl rfl ?_
    refine x_dup dX12_next_19 rfl ?_
    refine x_getI dX12_next_20 fl_X12_256 rfl rfl ?_
    refine x_iconst (v := 1) dX12_next_23 (by decide) ?_
    refine x_iadd dX12_next_24 ?_
    obtain ⟨M1, eM1, hf⟩ := zletE hf
    refine x_putI dX12_next_25 fp_X12_256 rfl rfl rfl rfl eM1 ?_
    exact x_vret rfl dX12_next_28 (zretV hf)
  · replace hf := zif_t c7 hf
    refine x_aload_n dX12_next_10 rfl rfl ?_
    refine x_iconst (v := 2) dX12_next_11 (by decide) ?_
    obtain ⟨M3, hq2, hf⟩ := zbind hf
    refine x_invVv dX12_next_12 mk_X12_fail ml_X12_268 (cc_X12_fail hq2) rfl rfl rfl (Nat.le_of_ble_eq_true rfl) rfl (Nat.le_of_ble_eq_true rfl) rfl ?_
    refine x_goto (tgt := 28) dX12_next_15 (by decide) ?_
    exact x_vret rfl dX12_next_28 (zretV hf)
theorem cc_X12_must {l : Launch} {G : zG} {x1 : Int32}  {M : zMem} {M1 : zMem} (hf : fX12_must x1 M = some M1) : Ca l G 2 mX12_must [.ref (G.2.2.1 69), .int x1] M none M1 := by
  refine Ca.of (by decide +kernel) (Nat.le_of_ble_eq_true rfl) rfl ?_
  rw [fX12_must] at hf
  refine x_aload_n dX12_must_0 rfl rfl ?_
  refine x_iload_n dX12_must_1 rfl rfl ?_
  obtain ⟨r3, M2, hq1, hf⟩ := zb2E hf
  refine x_invVi dX12_must_2 mk_X12_is ml_X12_271 (cc_X12_is hq1) rfl rfl rfl (Nat.le_of_ble_eq_true rfl) rfl (Nat.le_of_ble_eq_true rfl) rfl ?_
  refine x_if_eq (tgt := 15) dX12_must_5 (by decide) (fun c5 => ?_) (fun c5 => ?_)
  · replace hf := zif_t c5 hf
    refine x_aload_n dX12_must_15 rfl rfl ?_
    refine x_iconst (v := 1) dX12_must_16 (by decide) ?_
    obtain ⟨M5, hq4, hf⟩ := zbind hf
    refine x_invVv dX12_must_17 mk_X12_fail ml_X12_268 (cc_X12_fail hq4) rfl rfl rfl (Nat.le_of_ble_eq_true rfl) rfl (Nat.le_of_ble_eq_true rfl) rfl ?_
    exact x_vret rfl dX12_must_20 (zretV hf)
  · replace hf := zif_f c5 hf
    refine x_aload_n dX12_must_8 rfl rfl ?_
    obtain ⟨M7, hq6, hf⟩ := zbind hf
    refine x_invVv dX12_must_9 mk_X12_next ml_X12_274 (cc_X12_next hq6) rfl rfl rfl (Nat.le_of_ble_eq_true rfl) rfl (Nat.le_of_ble_eq_true rfl) rfl ?_
    refine x_goto (tgt := 20) dX12_must_12 (by decide) ?_
    exact x_vret rfl dX12_must_20 (zretV hf)
theorem cc_X12_emit {l : Launch} {G : zG} {x1 : Int32} {x2 : Int32}  {M : zMem} {M1 : zMem} (hf : fX12_emit x1 x2 M = some M1) : Ca l G 0 mX12_emit [.ref (G.2.2.1 69), .int x1, .int x2] M none M1 := by
  refine Ca.of (by decide +kernel) (Nat.le_of_ble_eq_true rfl) rfl ?_
  rw [fX12_emit] at hf
  refine x_aload_n dX12_emit_0 rfl rfl ?_
  refine x_getS (r := 89) dX12_emit_1 fl_X12_76 rfl rfl ?_
  refine x_aload_n dX12_emit_4 rfl rfl ?_
  refine x_getI dX12_emit_5 fl_X12_289 rfl rfl ?_
  refine x_iload_n dX12_emit_8 rfl rfl ?_
  obtain ⟨M1, hM1, hf⟩ := zbind hf
  refine x_ist dX12_emit_9 rfl hM1 ?_
  refine x_aload_n dX12_emit_10 rfl rfl ?_
  refine x_getS (r := 90) dX12_emit_11 fl_X12_79 rfl rfl ?_
  refine x_aload_n dX12_emit_14 rfl rfl ?_
  refine x_getI dX12_emit_15 fl_X12_289 rfl rfl ?_
  refine x_iload_n dX12_emit_18 rfl rfl ?_
  obtain ⟨M2, hM2, hf⟩ := zbind hf
  refine x_ist dX12_emit_19 rfl hM2 ?_
  refine x_aload_n dX12_emit_20 rfl rfl ?_
  refine x_dup dX12_emit_21 rfl ?_
  refine x_getI dX12_emit_22 fl_X12_289 rfl rfl ?_
  refine x_iconst (v := 1) dX12_emit_25 (by decide) ?_
  refine x_iadd dX12_emit_26 ?_
  obtain ⟨M3, eM3, hf⟩ := zletE hf
  refine x_putI dX12_emit_27 fp_X12_289 rfl rfl rfl rfl eM3 ?_
  exact x_vret rfl dX12_emit_30 (zretV hf)
theorem cc_X12_comesOut_L85 {l : Launch} {G : zG} {N : Nat} {k0 : Int32 → zMem → Option zMem} (hk0 : ∀ {x1 : Int32} {M : zMem} {M1 : zMem}, k0 x1 M = some M1 → Ex l G 1 mX12_comesOut 0 [(0, .ref (G.2.2.1 69)), (1, .int x1)] [] M (zqV M1)) {x1 : Int32} {s1 : Int32} {M : zMem} {M1 : zMem} (hf : fX12_comesOut_L85 N k0 x1 s1 M = some M1) : Ex l G 1 mX12_comesOut 85 [(0, .ref (G.2.2.1 69)), (1, .int x1)] [.int s1, .ref (G.2.2.1 69)] M (zqV M1) := by
  rw [fX12_comesOut_L85] at hf
  refine x_iconst (v := 0) dX12_comesOut_85 (by decide) ?_
  obtain ⟨M6, hq5, hf⟩ := zbind hf
  refine x_invVv dX12_comesOut_86 mk_X12_emit ml_X12_311 (cc_X12_emit hq5) rfl rfl rfl (Nat.le_of_ble_eq_true rfl) rfl (Nat.le_of_ble_eq_true rfl) rfl ?_
  refine x_goto (tgt := 0) dX12_comesOut_89 (by decide) ?_
  exact Ex.sb (hk0 hf) ⟨rfl, rfl, trivial⟩
theorem cc_X12_comesOut_L43 {l : Launch} {G : zG} {N : Nat} {k0 : Int32 → zMem → Option zMem} (hk0 : ∀ {x1 : Int32} {M : zMem} {M1 : zMem}, k0 x1 M = some M1 → Ex l G 1 mX12_comesOut 0 [(0, .ref (G.2.2.1 69)), (1, .int x1)] [] M (zqV M1)) {x1 : Int32} {M : zMem} {M1 : zMem} (hf : fX12_comesOut_L43 N k0 x1 M = some M1) : Ex l G 1 mX12_comesOut 43 [(0, .ref (G.2.2.1 69)), (1, .int x1)] [] M (zqV M1) := by
  rw [fX12_comesOut_L43] at hf
  refine x_aload_n dX12_comesOut_43 rfl rfl ?_
  refine x_dup dX12_comesOut_44 rfl ?_
  refine x_getI dX12_comesOut_45 fl_X12_308 rfl rfl ?_
  refine x_iconst (v := 1) dX12_comesOut_48 (by decide) ?_
  refine x_isub dX12_comesOut_49 ?_
  obtain ⟨M3, eM3, hf⟩ := zletE hf
  refine x_putI dX12_comesOut_50 fp_X12_308 rfl rfl rfl rfl eM3 ?_
  refine x_aload_n dX12_comesOut_53 rfl rfl ?_
  refine x_getS (r := 91) dX12_comesOut_54 fl_X12_82 rfl rfl ?_
  refine x_aload_n dX12_comesOut_57 rfl rfl ?_
  refine x_getI dX12_comesOut_58 fl_X12_308 rfl rfl ?_
  obtain ⟨v4, hv4, hf⟩ := zbind hf
  refine x_ild dX12_comesOut_61 rfl hv4 ?_
  refine x_istore_n dX12_comesOut_62 rfl (Nat.le_of_ble_eq_true rfl) rfl ?_
  refine x_aload_n dX12_comesOut_63 rfl rfl ?_
  refine x_iload_n dX12_comesOut_64 rfl rfl ?_
  refine x_bipush (v := 8) dX12_comesOut_65 (by decide) ?_
  refine x_icmp_ne (tgt := 74) dX12_comesOut_67 (by decide) (fun c67 => ?_) (fun c67 => ?_)
  · replace hf := zif_f c67 hf
    refine x_iload_n dX12_comesOut_74 rfl rfl ?_
    refine x_bipush (v := 9) dX12_comesOut_75 (by decide) ?_
    refine x_icmp_ne (tgt := 84) dX12_comesOut_77 (by decide) (fun c77 => ?_) (fun c77 => ?_)
    · replace hf := zif_f c77 hf
      refine x_iconst (v := 4) dX12_comesOut_84 (by decide) ?_
      exact Ex.sb (cc_X12_comesOut_L85 hk0 hf) ⟨rfl, rfl, trivial⟩
    · replace hf := zif_t c77 hf
      refine x_iconst (v := 3) dX12_comesOut_80 (by decide) ?_
      refine x_goto (tgt := 85) dX12_comesOut_81 (by decide) ?_
      exact Ex.sb (cc_X12_comesOut_L85 hk0 hf) ⟨rfl, rfl, trivial⟩
  · replace hf := zif_t c67 hf
    refine x_iconst (v := 2) dX12_comesOut_70 (by decide) ?_
    refine x_goto (tgt := 85) dX12_comesOut_71 (by decide) ?_
    exact Ex.sb (cc_X12_comesOut_L85 hk0 hf) ⟨rfl, rfl, trivial⟩
theorem cc_X12_comesOut_L0 {l : Launch} {G : zG} {N : Nat} : ∀ {n : Nat} {x1 : Int32} {M : zMem} {M1 : zMem}, fX12_comesOut_L0 N n x1 M = some M1 → Ex l G 1 mX12_comesOut 0 [(0, .ref (G.2.2.1 69)), (1, .int x1)] [] M (zqV M1) := by
  intro n
  induction n with
  | zero => intro x1 M M1 hf; cases hf
  | succ n ih =>
    intro x1 M M1 hf
    rw [fX12_comesOut_L0] at hf
    refine x_aload_n dX12_comesOut_0 rfl rfl ?_
    refine x_getI dX12_comesOut_1 fl_X12_308 rfl rfl ?_
    refine x_if_le (tgt := 92) dX12_comesOut_4 (by decide) (fun c4 => ?_) (fun c4 => ?_)
    · replace hf := zif_t c4 hf
      exact x_vret rfl dX12_comesOut_92 (zretV hf)
    · replace hf := zif_f c4 hf
      refine x_aload_n dX12_comesOut_7 rfl rfl ?_
      refine x_getS (r := 91) dX12_comesOut_8 fl_X12_82 rfl rfl ?_
      refine x_aload_n dX12_comesOut_11 rfl rfl ?_
      refine x_getI dX12_comesOut_12 fl_X12_308 rfl rfl ?_
      refine x_iconst (v := 1) dX12_comesOut_15 (by decide) ?_
      refine x_isub dX12_comesOut_16 ?_
      obtain ⟨v1, hv1, hf⟩ := zbind hf
      refine x_ild dX12_comesOut_17 rfl hv1 ?_
      refine x_bipush (v := 6) dX12_comesOut_18 (by decide) ?_
      refine x_icmp_eq (tgt := 92) dX12_comesOut_20 (by decide) (fun c20 => ?_) (fun c20 => ?_)
      · replace hf := zif_t c20 hf
        exact x_vret rfl dX12_comesOut_92 (zretV hf)
      · replace hf := zif_f c20 hf
        refine x_iload_n dX12_comesOut_23 rfl rfl ?_
        refine x_if_eq (tgt := 43) dX12_comesOut_24 (by decide) (fun c24 => ?_) (fun c24 => ?_)
        · replace hf := zif_t c24 hf
          exact Ex.sb (cc_X12_comesOut_L43 ih hf) ⟨rfl, rfl, trivial⟩
        · replace hf := zif_f c24 hf
          refine x_aload_n dX12_comesOut_27 rfl rfl ?_
          refine x_getS (r := 91) dX12_comesOut_28 fl_X12_82 rfl rfl ?_
          refine x_aload_n dX12_comesOut_31 rfl rfl ?_
          refine x_getI dX12_comesOut_32 fl_X12_308 rfl rfl ?_
          refine x_iconst (v := 1) dX12_comesOut_35 (by decide) ?_
          refine x_isub dX12_comesOut_36 ?_
          obtain ⟨v2, hv2, hf⟩ := zbind hf
          refine x_ild dX12_comesOut_37 rfl hv2 ?_
          refine x_bipush (v := 10) dX12_comesOut_38 (by decide) ?_
          refine x_icmp_ne (tgt := 92) dX12_comesOut_40 (by decide) (fun c40 => ?_) (fun c40 => ?_)
          · replace hf := zif_f c40 hf
            exact x_vret rfl dX12_comesOut_92 (zretV hf)
          · replace hf := zif_t c40 hf
            exact Ex.sb (cc_X12_comesOut_L43 ih hf) ⟨rfl, rfl, trivial⟩
theorem cc_X12_comesOut {l : Launch} {G : zG} {N : Nat} {x1 : Int32}  {M : zMem} {M1 : zMem} (hf : fX12_comesOut N x1 M = some M1) : Ca l G 1 mX12_comesOut [.ref (G.2.2.1 69), .int x1] M none M1 := by
  refine Ca.of (by decide +kernel) (Nat.le_of_ble_eq_true rfl) rfl ?_
  rw [fX12_comesOut] at hf
  exact Ex.sb (cc_X12_comesOut_L0  hf) ⟨rfl, rfl, trivial⟩
theorem cc_X12_expression_L46 {l : Launch} {G : zG} {N : Nat} {k12 : Int32 → Int32 → zMem → Option zMem} (hk12 : ∀ {x1 : Int32} {x2 : Int32} {M : zMem} {M1 : zMem}, k12 x1 x2 M = some M1 → Ex l G 2 mX12_expression 12 [(0, .ref (G.2.2.1 69)), (1, .int x1), (2, .int x2)] [] M (zqV M1)) {x1 : Int32} {x2 : Int32} {M : zMem} {M1 : zMem} (hf : fX12_expression_L46 N k12 x1 x2 M = some M1) : Ex l G 2 mX12_expression 46 [(0, .ref (G.2.2.1 69)), (1, .int x1), (2, .int x2)] [] M (zqV M1) := by
  rw [fX12_expression_L46] at hf
  refine x_aload_n dX12_expression_46 rfl rfl ?_
  refine x_getI dX12_expression_47 fl_X12_253 rfl rfl ?_
  refine x_if_le (tgt := 54) dX12_expression_50 (by decide) (fun c50 => ?_) (fun c50 => ?_)
  · replace hf := zif_t c50 hf
    refine x_aload_n dX12_expression_54 rfl rfl ?_
    refine x_dup dX12_expression_55 rfl ?_
    refine x_getI dX12_expression_56 fl_X12_280 rfl rfl ?_
    refine x_iconst (v := 1) dX12_expression_59 (by decide) ?_
    refine x_iadd dX12_expression_60 ?_
    obtain ⟨M15, eM15, hf⟩ := zletE hf
    refine x_putI dX12_expression_61 fp_X12_280 rfl rfl rfl rfl eM15 ?_
    refine x_aload_n dX12_expression_64 rfl rfl ?_
    obtain ⟨M17, hq16, hf⟩ := zbind hf
    refine x_invVv dX12_expression_65 mk_X12_next ml_X12_274 (cc_X12_next hq16) rfl rfl rfl (Nat.le_of_ble_eq_true rfl) rfl (Nat.le_of_ble_eq_true rfl) rfl ?_
    refine x_aload_n dX12_expression_68 rfl rfl ?_
    refine x_getS (r := 91) dX12_expression_69 fl_X12_82 rfl rfl ?_
    refine x_aload_n dX12_expression_72 rfl rfl ?_
    refine x_getI dX12_expression_73 fl_X12_308 rfl rfl ?_
    refine x_bipush (v := 6) dX12_expression_76 (by decide) ?_
    obtain ⟨M18, hM18, hf⟩ := zbind hf
    refine x_ist dX12_expression_78 rfl hM18 ?_
    refine x_aload_n dX12_expression_79 rfl rfl ?_
    refine x_dup dX12_expression_80 rfl ?_
    refine x_getI dX12_expression_81 fl_X12_308 rfl rfl ?_
    refine x_iconst (v := 1) dX12_expression_84 (by decide) ?_
    refine x_iadd dX12_expression_85 ?_
    obtain ⟨M19, eM19, hf⟩ := zletE hf
    refine x_putI dX12_expression_86 fp_X12_308 rfl rfl rfl rfl eM19 ?_
    refine x_goto (tgt := 12) dX12_expression_89 (by decide) ?_
    exact Ex.sb (hk12 hf) ⟨rfl, rfl, rfl, trivial⟩
  · replace hf := zif_f c50 hf
    exact x_vret rfl dX12_expression_53 (zretV hf)
theorem cc_X12_expression_L299 {l : Launch} {G : zG} {N : Nat}  {M : zMem} {M1 : zMem} (hf : fX12_expression_L299 N M = some M1) : Ex l G 2 mX12_expression 299 [(0, .ref (G.2.2.1 69))] [] M (zqV M1) := by
  rw [fX12_expression_L299] at hf
  refine x_aload_n dX12_expression_299 rfl rfl ?_
  refine x_iconst (v := 0) dX12_expression_300 (by decide) ?_
  obtain ⟨M56, hq55, hf⟩ := zbind hf
  refine x_invVv dX12_expression_301 mk_X12_comesOut ml_X12_314 (cc_X12_comesOut hq55) rfl rfl rfl (Nat.le_of_ble_eq_true rfl) rfl (Nat.le_of_ble_eq_true rfl) rfl ?_
  exact x_vret rfl dX12_expression_304 (zretV hf)
theorem cc_X12_expression_L329 {l : Launch} {G : zG} {N : Nat} {k12 : Int32 → Int32 → zMem → Option zMem} (hk12 : ∀ {x1 : Int32} {x2 : Int32} {M : zMem} {M1 : zMem}, k12 x1 x2 M = some M1 → Ex l G 2 mX12_expression 12 [(0, .ref (G.2.2.1 69)), (1, .int x1), (2, .int x2)] [] M (zqV M1)) {x1 : Int32} {x2 : Int32} {x4 : Int32} {s1 : Int32} {M : zMem} {M1 : zMem} (hf : fX12_expression_L329 N k12 x1 x2 x4 s1 M = some M1) : Ex l G 2 mX12_expression 329 [(0, .ref (G.2.2.1 69)), (1, .int x1), (2, .int x2), (4, .int x4)] [.int s1, .ref (G.2.2.1 69)] M (zqV M1) := by
  rw [fX12_expression_L329] at hf
  obtain ⟨M50, hq49, hf⟩ := zbind hf
  refine x_invVv dX12_expression_329 mk_X12_comesOut ml_X12_314 (cc_X12_comesOut hq49) rfl rfl rfl (Nat.le_of_ble_eq_true rfl) rfl (Nat.le_of_ble_eq_true rfl) rfl ?_
  refine x_aload_n dX12_expression_332 rfl rfl ?_
  refine x_getS (r := 91) dX12_expression_333 fl_X12_82 rfl rfl ?_
  refine x_aload_n dX12_expression_336 rfl rfl ?_
  refine x_getI dX12_expression_337 fl_X12_308 rfl rfl ?_
  refine x_iload dX12_expression_340 rfl ?_
  obtain ⟨M51, hM51, hf⟩ := zbind hf
  refine x_ist dX12_expression_342 rfl hM51 ?_
  refine x_aload_n dX12_expression_343 rfl rfl ?_
  refine x_dup dX12_expression_344 rfl ?_
  refine x_getI dX12_expression_345 fl_X12_308 rfl rfl ?_
  refine x_iconst (v := 1) dX12_expression_348 (by decide) ?_
  refine x_iadd dX12_expression_349 ?_
  obtain ⟨M52, eM52, hf⟩ := zletE hf
  refine x_putI dX12_expression_350 fp_X12_308 rfl rfl rfl rfl eM52 ?_
  refine x_aload_n dX12_expression_353 rfl rfl ?_
  obtain ⟨M54, hq53, hf⟩ := zbind hf
  refine x_invVv dX12_expression_354 mk_X12_next ml_X12_274 (cc_X12_next hq53) rfl rfl rfl (Nat.le_of_ble_eq_true rfl) rfl (Nat.le_of_ble_eq_true rfl) rfl ?_
  refine x_goto (tgt := 12) dX12_expression_357 (by decide) ?_
  exact Ex.sb (hk12 hf) ⟨rfl, rfl, rfl, trivial⟩
theorem cc_X12_expression_L281 {l : Launch} {G : zG} {N : Nat} {k12 : Int32 → Int32 → zMem → Option zMem} (hk12 : ∀ {x1 : Int32} {x2 : Int32} {M : zMem} {M1 : zMem}, k12 x1 x2 M = some M1 → Ex l G 2 mX12_expression 12 [(0, .ref (G.2.2.1 69)), (1, .int x1), (2, .int x2)] [] M (zqV M1)) {x1 : Int32} {s0 : Int32} {M : zMem} {M1 : zMem} (hf : fX12_expression_L281 N k12 x1 s0 M = some M1) : Ex l G 2 mX12_expression 281 [(0, .ref (G.2.2.1 69)), (1, .int x1)] [.int s0] M (zqV M1) := by
  rw [fX12_expression_L281] at hf
  refine x_istore_n dX12_expression_281 rfl (Nat.le_of_ble_eq_true rfl) rfl ?_
  refine x_iload_n dX12_expression_282 rfl rfl ?_
  refine x_if_ne (tgt := 305) dX12_expression_283 (by decide) (fun c283 => ?_) (fun c283 => ?_)
  · replace hf := zif_f c283 hf
    refine x_aload_n dX12_expression_305 rfl rfl ?_
    refine x_getS (r := 72) dX12_expression_306 fl_X12_20 rfl rfl ?_
    refine x_aload_n dX12_expression_309 rfl rfl ?_
    refine x_getI dX12_expression_310 fl_X12_256 rfl rfl ?_
    obtain ⟨v46, hv46, hf⟩ := zbind hf
    refine x_ild dX12_expression_313 rfl hv46 ?_
    refine x_istore dX12_expression_314 (Nat.le_of_ble_eq_true rfl) rfl ?_
    refine x_aload_n dX12_expression_316 rfl rfl ?_
    refine x_iload dX12_expression_317 rfl ?_
    refine x_bipush (v := 10) dX12_expression_319 (by decide) ?_
    refine x_icmp_ne (tgt := 328) dX12_expression_321 (by decide) (fun c321 => ?_) (fun c321 => ?_)
    · replace hf := zif_f c321 hf
      refine x_iconst (v := 0) dX12_expression_328 (by decide) ?_
      exact Ex.sb (cc_X12_expression_L329 hk12 hf) ⟨rfl, rfl, rfl, rfl, trivial⟩
    · replace hf := zif_t c321 hf
      refine x_iconst (v := 1) dX12_expression_324 (by decide) ?_
      refine x_goto (tgt := 329) dX12_expression_325 (by decide) ?_
      exact Ex.sb (cc_X12_expression_L329 hk12 hf) ⟨rfl, rfl, rfl, rfl, trivial⟩
  · replace hf := zif_t c283 hf
    refine x_aload_n dX12_expression_286 rfl rfl ?_
    refine x_getI dX12_expression_287 fl_X12_280 rfl rfl ?_
    refine x_iload_n dX12_expression_290 rfl rfl ?_
    refine x_icmp_le (tgt := 299) dX12_expression_291 (by decide) (fun c291 => ?_) (fun c291 => ?_)
    · replace hf := zif_t c291 hf
      exact Ex.sb (cc_X12_expression_L299  hf) ⟨rfl, trivial⟩
    · replace hf := zif_f c291 hf
      refine x_aload_n dX12_expression_294 rfl rfl ?_
      refine x_iconst (v := 1) dX12_expression_295 (by decide) ?_
      obtain ⟨M48, hq47, hf⟩ := zbind hf
      refine x_invVv dX12_expression_296 mk_X12_fail ml_X12_268 (cc_X12_fail hq47) rfl rfl rfl (Nat.le_of_ble_eq_true rfl) rfl (Nat.le_of_ble_eq_true rfl) rfl ?_
      exact Ex.sb (cc_X12_expression_L299  hf) ⟨rfl, trivial⟩
theorem cc_X12_expression_L276 {l : Launch} {G : zG} {N : Nat} {k12 : Int32 → Int32 → zMem → Option zMem} (hk12 : ∀ {x1 : Int32} {x2 : Int32} {M : zMem} {M1 : zMem}, k12 x1 x2 M = some M1 → Ex l G 2 mX12_expression 12 [(0, .ref (G.2.2.1 69)), (1, .int x1), (2, .int x2)] [] M (zqV M1)) {x1 : Int32} {M : zMem} {M1 : zMem} (hf : fX12_expression_L276 N k12 x1 M = some M1) : Ex l G 2 mX12_expression 276 [(0, .ref (G.2.2.1 69)), (1, .int x1)] [] M (zqV M1) := by
  rw [fX12_expression_L276] at hf
  refine x_iconst (v := 1) dX12_expression_276 (by decide) ?_
  refine x_goto (tgt := 281) dX12_expression_277 (by decide) ?_
  exact Ex.sb (cc_X12_expression_L281 hk12 hf) ⟨rfl, rfl, trivial⟩
theorem cc_X12_expression_L249 {l : Launch} {G : zG} {N : Nat} {k12 : Int32 → Int32 → zMem → Option zMem} (hk12 : ∀ {x1 : Int32} {x2 : Int32} {M : zMem} {M1 : zMem}, k12 x1 x2 M = some M1 → Ex l G 2 mX12_expression 12 [(0, .ref (G.2.2.1 69)), (1, .int x1), (2, .int x2)] [] M (zqV M1)) {x1 : Int32} {M : zMem} {M1 : zMem} (hf : fX12_expression_L249 N k12 x1 M = some M1) : Ex l G 2 mX12_expression 249 [(0, .ref (G.2.2.1 69)), (1, .int x1)] [] M (zqV M1) := by
  rw [fX12_expression_L249] at hf
  refine x_aload_n dX12_expression_249 rfl rfl ?_
  refine x_bipush (v := 8) dX12_expression_250 (by decide) ?_
  obtain ⟨r39, M38, hq37, hf⟩ := zb2E hf
  refine x_invVi dX12_expression_252 mk_X12_is ml_X12_271 (cc_X12_is hq37) rfl rfl rfl (Nat.le_of_ble_eq_true rfl) rfl (Nat.le_of_ble_eq_true rfl) rfl ?_
  refine x_if_ne (tgt := 276) dX12_expression_255 (by decide) (fun c255 => ?_) (fun c255 => ?_)
  · replace hf := zif_f c255 hf
    exact Ex.sb (cc_X12_expression_L276 hk12 hf) ⟨rfl, rfl, trivial⟩
  · replace hf := zif_t c255 hf
    refine x_aload_n dX12_expression_258 rfl rfl ?_
    refine x_bipush (v := 9) dX12_expression_259 (by decide) ?_
    obtain ⟨r42, M41, hq40, hf⟩ := zb2E hf
    refine x_invVi dX12_expression_261 mk_X12_is ml_X12_271 (cc_X12_is hq40) rfl rfl rfl (Nat.le_of_ble_eq_true rfl) rfl (Nat.le_of_ble_eq_true rfl) rfl ?_
    refine x_if_ne (tgt := 276) dX12_expression_264 (by decide) (fun c264 => ?_) (fun c264 => ?_)
    · replace hf := zif_f c264 hf
      exact Ex.sb (cc_X12_expression_L276 hk12 hf) ⟨rfl, rfl, trivial⟩
    · replace hf := zif_t c264 hf
      refine x_aload_n dX12_expression_267 rfl rfl ?_
      refine x_bipush (v := 10) dX12_expression_268 (by decide) ?_
      obtain ⟨r45, M44, hq43, hf⟩ := zb2E hf
      refine x_invVi dX12_expression_270 mk_X12_is ml_X12_271 (cc_X12_is hq43) rfl rfl rfl (Nat.le_of_ble_eq_true rfl) rfl (Nat.le_of_ble_eq_true rfl) rfl ?_
      refine x_if_eq (tgt := 280) dX12_expression_273 (by decide) (fun c273 => ?_) (fun c273 => ?_)
      · replace hf := zif_t c273 hf
        refine x_iconst (v := 0) dX12_expression_280 (by decide) ?_
        exact Ex.sb (cc_X12_expression_L281 hk12 hf) ⟨rfl, rfl, trivial⟩
      · replace hf := zif_f c273 hf
        exact Ex.sb (cc_X12_expression_L276 hk12 hf) ⟨rfl, rfl, trivial⟩
theorem cc_X12_expression_L200 {l : Launch} {G : zG} {N : Nat} {k12 : Int32 → Int32 → zMem → Option zMem} (hk12 : ∀ {x1 : Int32} {x2 : Int32} {M : zMem} {M1 : zMem}, k12 x1 x2 M = some M1 → Ex l G 2 mX12_expression 12 [(0, .ref (G.2.2.1 69)), (1, .int x1), (2, .int x2)] [] M (zqV M1)) : ∀ {n : Nat} {x1 : Int32} {M : zMem} {M1 : zMem}, fX12_expression_L200 N k12 n x1 M = some M1 → Ex l G 2 mX12_expression 200 [(0, .ref (G.2.2.1 69)), (1, .int x1)] [] M (zqV M1) := by
  intro n
  induction n with
  | zero => intro x1 M M1 hf; cases hf
  | succ n ih =>
    intro x1 M M1 hf
    rw [fX12_expression_L200] at hf
    refine x_aload_n dX12_expression_200 rfl rfl ?_
    refine x_bipush (v := 7) dX12_expression_201 (by decide) ?_
    obtain ⟨r30, M29, hq28, hf⟩ := zb2E hf
    refine x_invVi dX12_expression_203 mk_X12_is ml_X12_271 (cc_X12_is hq28) rfl rfl rfl (Nat.le_of_ble_eq_true rfl) rfl (Nat.le_of_ble_eq_true rfl) rfl ?_
    refine x_if_eq (tgt := 249) dX12_expression_206 (by decide) (fun c206 => ?_) (fun c206 => ?_)
    · replace hf := zif_t c206 hf
      exact Ex.sb (cc_X12_expression_L249 hk12 hf) ⟨rfl, rfl, trivial⟩
    · replace hf := zif_f c206 hf
      refine x_aload_n dX12_expression_209 rfl rfl ?_
      refine x_getI dX12_expression_210 fl_X12_280 rfl rfl ?_
      refine x_iload_n dX12_expression_213 rfl rfl ?_
      refine x_icmp_le (tgt := 249) dX12_expression_214 (by decide) (fun c214 => ?_) (fun c214 => ?_)
      · replace hf := zif_t c214 hf
        exact Ex.sb (cc_X12_expression_L249 hk12 hf) ⟨rfl, rfl, trivial⟩
      · replace hf := zif_f c214 hf
        refine x_aload_n dX12_expression_217 rfl rfl ?_
        refine x_iconst (v := 0) dX12_expression_218 (by decide) ?_
        obtain ⟨M32, hq31, hf⟩ := zbind hf
        refine x_invVv dX12_expression_219 mk_X12_comesOut ml_X12_314 (cc_X12_comesOut hq31) rfl rfl rfl (Nat.le_of_ble_eq_true rfl) rfl (Nat.le_of_ble_eq_true rfl) rfl ?_
        refine x_aload_n dX12_expression_222 rfl rfl ?_
        refine x_dup dX12_expression_223 rfl ?_
        refine x_getI dX12_expression_224 fl_X12_308 rfl rfl ?_
        refine x_iconst (v := 1) dX12_expression_227 (by decide) ?_
        refine x_isub dX12_expression_228 ?_
        obtain ⟨M33, eM33, hf⟩ := zletE hf
        refine x_putI dX12_expression_229 fp_X12_308 rfl rfl rfl rfl eM33 ?_
        refine x_aload_n dX12_expression_232 rfl rfl ?_
        refine x_dup dX12_expression_233 rfl ?_
        refine x_getI dX12_expression_234 fl_X12_280 rfl rfl ?_
        refine x_iconst (v := 1) dX12_expression_237 (by decide) ?_
        refine x_isub dX12_expression_238 ?_
        obtain ⟨M34, eM34, hf⟩ := zletE hf
        refine x_putI dX12_expression_239 fp_X12_280 rfl rfl rfl rfl eM34 ?_
        refine x_aload_n dX12_expression_242 rfl rfl ?_
        obtain ⟨M36, hq35, hf⟩ := zbind hf
        refine x_invVv dX12_expression_243 mk_X12_next ml_X12_274 (cc_X12_next hq35) rfl rfl rfl (Nat.le_of_ble_eq_true rfl) rfl (Nat.le_of_ble_eq_true rfl) rfl ?_
        refine x_goto (tgt := 200) dX12_expression_246 (by decide) ?_
        exact Ex.sb (ih hf) ⟨rfl, rfl, trivial⟩
theorem cc_X12_expression_L196 {l : Launch} {G : zG} {N : Nat} {k12 : Int32 → Int32 → zMem → Option zMem} (hk12 : ∀ {x1 : Int32} {x2 : Int32} {M : zMem} {M1 : zMem}, k12 x1 x2 M = some M1 → Ex l G 2 mX12_expression 12 [(0, .ref (G.2.2.1 69)), (1, .int x1), (2, .int x2)] [] M (zqV M1)) {x1 : Int32} {M : zMem} {M1 : zMem} (hf : fX12_expression_L196 N k12 x1 M = some M1) : Ex l G 2 mX12_expression 196 [(0, .ref (G.2.2.1 69)), (1, .int x1)] [] M (zqV M1) := by
  rw [fX12_expression_L196] at hf
  refine x_aload_n dX12_expression_196 rfl rfl ?_
  obtain ⟨M27, hq26, hf⟩ := zbind hf
  refine x_invVv dX12_expression_197 mk_X12_next ml_X12_274 (cc_X12_next hq26) rfl rfl rfl (Nat.le_of_ble_eq_true rfl) rfl (Nat.le_of_ble_eq_true rfl) rfl ?_
  exact Ex.sb (cc_X12_expression_L200 hk12 hf) ⟨rfl, rfl, trivial⟩
theorem cc_X12_expression_L150 {l : Launch} {G : zG} {N : Nat} {k12 : Int32 → Int32 → zMem → Option zMem} (hk12 : ∀ {x1 : Int32} {x2 : Int32} {M : zMem} {M1 : zMem}, k12 x1 x2 M = some M1 → Ex l G 2 mX12_expression 12 [(0, .ref (G.2.2.1 69)), (1, .int x1), (2, .int x2)] [] M (zqV M1)) {x1 : Int32} {x3 : Int32} {M : zMem} {M1 : zMem} (hf : fX12_expression_L150 N k12 x1 x3 M = some M1) : Ex l G 2 mX12_expression 150 [(0, .ref (G.2.2.1 69)), (1, .int x1), (3, .int x3)] [] M (zqV M1) := by
  rw [fX12_expression_L150] at hf
  refine x_aload_n dX12_expression_150 rfl rfl ?_
  refine x_getI dX12_expression_151 fl_X12_253 rfl rfl ?_
  refine x_if_le (tgt := 158) dX12_expression_154 (by decide) (fun c154 => ?_) (fun c154 => ?_)
  · replace hf := zif_t c154 hf
    refine x_iload_n dX12_expression_158 rfl rfl ?_
    refine x_if_eq (tgt := 182) dX12_expression_159 (by decide) (fun c159 => ?_) (fun c159 => ?_)
    · replace hf := zif_t c159 hf
      refine x_aload_n dX12_expression_182 rfl rfl ?_
      refine x_iconst (v := 0) dX12_expression_183 (by decide) ?_
      refine x_aload_n dX12_expression_184 rfl rfl ?_
      refine x_getS (r := 74) dX12_expression_185 fl_X12_27 rfl rfl ?_
      refine x_aload_n dX12_expression_188 rfl rfl ?_
      refine x_getI dX12_expression_189 fl_X12_256 rfl rfl ?_
      obtain ⟨v20, hv20, hf⟩ := zbind hf
      refine x_ild dX12_expression_192 rfl hv20 ?_
      obtain ⟨M22, hq21, hf⟩ := zbind hf
      refine x_invVv dX12_expression_193 mk_X12_emit ml_X12_311 (cc_X12_emit hq21) rfl rfl rfl (Nat.le_of_ble_eq_true rfl) rfl (Nat.le_of_ble_eq_true rfl) rfl ?_
      exact Ex.sb (cc_X12_expression_L196 hk12 hf) ⟨rfl, rfl, trivial⟩
    · replace hf := zif_f c159 hf
      refine x_aload_n dX12_expression_162 rfl rfl ?_
      refine x_iconst (v := 1) dX12_expression_163 (by decide) ?_
      refine x_aload_n dX12_expression_164 rfl rfl ?_
      refine x_getS (r := 72) dX12_expression_165 fl_X12_20 rfl rfl ?_
      refine x_aload_n dX12_expression_168 rfl rfl ?_
      refine x_getI dX12_expression_169 fl_X12_256 rfl rfl ?_
      obtain ⟨v23, hv23, hf⟩ := zbind hf
      refine x_ild dX12_expression_172 rfl hv23 ?_
      refine x_bipush (v := 26) dX12_expression_173 (by decide) ?_
      refine x_isub dX12_expression_175 ?_
      obtain ⟨M25, hq24, hf⟩ := zbind hf
      refine x_invVv dX12_expression_176 mk_X12_emit ml_X12_311 (cc_X12_emit hq24) rfl rfl rfl (Nat.le_of_ble_eq_true rfl) rfl (Nat.le_of_ble_eq_true rfl) rfl ?_
      refine x_goto (tgt := 196) dX12_expression_179 (by decide) ?_
      exact Ex.sb (cc_X12_expression_L196 hk12 hf) ⟨rfl, rfl, trivial⟩
  · replace hf := zif_f c154 hf
    exact x_vret rfl dX12_expression_157 (zretV hf)
theorem cc_X12_expression_L132 {l : Launch} {G : zG} {N : Nat} {k12 : Int32 → Int32 → zMem → Option zMem} (hk12 : ∀ {x1 : Int32} {x2 : Int32} {M : zMem} {M1 : zMem}, k12 x1 x2 M = some M1 → Ex l G 2 mX12_expression 12 [(0, .ref (G.2.2.1 69)), (1, .int x1), (2, .int x2)] [] M (zqV M1)) {x1 : Int32} {s0 : Int32} {M : zMem} {M1 : zMem} (hf : fX12_expression_L132 N k12 x1 s0 M = some M1) : Ex l G 2 mX12_expression 132 [(0, .ref (G.2.2.1 69)), (1, .int x1)] [.int s0] M (zqV M1) := by
  rw [fX12_expression_L132] at hf
  refine x_istore_n dX12_expression_132 rfl (Nat.le_of_ble_eq_true rfl) rfl ?_
  refine x_aload_n dX12_expression_133 rfl rfl ?_
  refine x_iconst (v := 2) dX12_expression_134 (by decide) ?_
  obtain ⟨r12, M11, hq10, hf⟩ := zb2E hf
  refine x_invVi dX12_expression_135 mk_X12_is ml_X12_271 (cc_X12_is hq10) rfl rfl rfl (Nat.le_of_ble_eq_true rfl) rfl (Nat.le_of_ble_eq_true rfl) rfl ?_
  refine x_if_ne (tgt := 150) dX12_expression_138 (by decide) (fun c138 => ?_) (fun c138 => ?_)
  · replace hf := zif_f c138 hf
    exact Ex.sb (cc_X12_expression_L150 hk12 hf) ⟨rfl, rfl, rfl, trivial⟩
  · replace hf := zif_t c138 hf
    refine x_iload_n dX12_expression_141 rfl rfl ?_
    refine x_if_ne (tgt := 150) dX12_expression_142 (by decide) (fun c142 => ?_) (fun c142 => ?_)
    · replace hf := zif_f c142 hf
      exact Ex.sb (cc_X12_expression_L150 hk12 hf) ⟨rfl, rfl, rfl, trivial⟩
    · replace hf := zif_t c142 hf
      refine x_aload_n dX12_expression_145 rfl rfl ?_
      refine x_iconst (v := 1) dX12_expression_146 (by decide) ?_
      obtain ⟨M14, hq13, hf⟩ := zbind hf
      refine x_invVv dX12_expression_147 mk_X12_fail ml_X12_268 (cc_X12_fail hq13) rfl rfl rfl (Nat.le_of_ble_eq_true rfl) rfl (Nat.le_of_ble_eq_true rfl) rfl ?_
      exact Ex.sb (cc_X12_expression_L150 hk12 hf) ⟨rfl, rfl, rfl, trivial⟩
theorem cc_X12_expression_L131 {l : Launch} {G : zG} {N : Nat} {k12 : Int32 → Int32 → zMem → Option zMem} (hk12 : ∀ {x1 : Int32} {x2 : Int32} {M : zMem} {M1 : zMem}, k12 x1 x2 M = some M1 → Ex l G 2 mX12_expression 12 [(0, .ref (G.2.2.1 69)), (1, .int x1), (2, .int x2)] [] M (zqV M1)) {x1 : Int32} {M : zMem} {M1 : zMem} (hf : fX12_expression_L131 N k12 x1 M = some M1) : Ex l G 2 mX12_expression 131 [(0, .ref (G.2.2.1 69)), (1, .int x1)] [] M (zqV M1) := by
  rw [fX12_expression_L131] at hf
  refine x_iconst (v := 0) dX12_expression_131 (by decide) ?_
  exact Ex.sb (cc_X12_expression_L132 hk12 hf) ⟨rfl, rfl, trivial⟩
theorem cc_X12_expression_L12 {l : Launch} {G : zG} {N : Nat} : ∀ {n : Nat} {x1 : Int32} {x2 : Int32} {M : zMem} {M1 : zMem}, fX12_expression_L12 N n x1 x2 M = some M1 → Ex l G 2 mX12_expression 12 [(0, .ref (G.2.2.1 69)), (1, .int x1), (2, .int x2)] [] M (zqV M1) := by
  intro n
  induction n with
  | zero => intro x1 x2 M M1 hf; cases hf
  | succ n ih =>
    intro x1 x2 M M1 hf
    rw [fX12_expression_L12] at hf
    refine x_iload_n dX12_expression_12 rfl rfl ?_
    refine x_if_eq (tgt := 360) dX12_expression_13 (by decide) (fun c13 => ?_) (fun c13 => ?_)
    · replace hf := zif_t c13 hf
      exact x_vret rfl dX12_expression_360 (zretV hf)
    · replace hf := zif_f c13 hf
      refine x_aload_n dX12_expression_16 rfl rfl ?_
      refine x_getI dX12_expression_17 fl_X12_253 rfl rfl ?_
      refine x_if_ne (tgt := 360) dX12_expression_20 (by decide) (fun c20 => ?_) (fun c20 => ?_)
      · replace hf := zif_f c20 hf
        exact x_vret rfl dX12_expression_360 (zretV hf)
      · replace hf := zif_t c20 hf
        refine x_aload_n dX12_expression_23 rfl rfl ?_
        refine x_bipush (v := 6) dX12_expression_24 (by decide) ?_
        obtain ⟨r5, M4, hq3, hf⟩ := zb2E hf
        refine x_invVi dX12_expression_26 mk_X12_is ml_X12_271 (cc_X12_is hq3) rfl rfl rfl (Nat.le_of_ble_eq_true rfl) rfl (Nat.le_of_ble_eq_true rfl) rfl ?_
        refine x_if_eq (tgt := 92) dX12_expression_29 (by decide) (fun c29 => ?_) (fun c29 => ?_)
        · replace hf := zif_t c29 hf
          refine x_aload_n dX12_expression_92 rfl rfl ?_
          refine x_getI dX12_expression_93 fl_X12_253 rfl rfl ?_
          refine x_if_ne (tgt := 131) dX12_expression_96 (by decide) (fun c96 => ?_) (fun c96 => ?_)
          · replace hf := zif_f c96 hf
            exact Ex.sb (cc_X12_expression_L131 ih hf) ⟨rfl, rfl, trivial⟩
          · replace hf := zif_t c96 hf
            refine x_aload_n dX12_expression_99 rfl rfl ?_
            refine x_getS (r := 72) dX12_expression_100 fl_X12_20 rfl rfl ?_
            refine x_aload_n dX12_expression_103 rfl rfl ?_
            refine x_getI dX12_expression_104 fl_X12_256 rfl rfl ?_
            obtain ⟨v6, hv6, hf⟩ := zbind hf
            refine x_ild dX12_expression_107 rfl hv6 ?_
            refine x_bipush (v := 26) dX12_expression_108 (by decide) ?_
            refine x_icmp_lt (tgt := 131) dX12_expression_110 (by decide) (fun c110 => ?_) (fun c110 => ?_)
            · replace hf := zif_t c110 hf
              exact Ex.sb (cc_X12_expression_L131 ih hf) ⟨rfl, rfl, trivial⟩
            · replace hf := zif_f c110 hf
              refine x_aload_n dX12_expression_113 rfl rfl ?_
              refine x_getS (r := 72) dX12_expression_114 fl_X12_20 rfl rfl ?_
              refine x_aload_n dX12_expression_117 rfl rfl ?_
              refine x_getI dX12_expression_118 fl_X12_256 rfl rfl ?_
              obtain ⟨v7, hv7, hf⟩ := zbind hf
              refine x_ild dX12_expression_121 rfl hv7 ?_
              refine x_bipush (v := 31) dX12_expression_122 (by decide) ?_
              refine x_icmp_gt (tgt := 131) dX12_expression_124 (by decide) (fun c124 => ?_) (fun c124 => ?_)
              · replace hf := zif_t c124 hf
                exact Ex.sb (cc_X12_expression_L131 ih hf) ⟨rfl, rfl, trivial⟩
              · replace hf := zif_f c124 hf
                refine x_iconst (v := 1) dX12_expression_127 (by decide) ?_
                refine x_goto (tgt := 132) dX12_expression_128 (by decide) ?_
                exact Ex.sb (cc_X12_expression_L132 ih hf) ⟨rfl, rfl, trivial⟩
        · replace hf := zif_f c29 hf
          refine x_aload_n dX12_expression_32 rfl rfl ?_
          refine x_getI dX12_expression_33 fl_X12_280 rfl rfl ?_
          refine x_bipush (v := 6) dX12_expression_36 (by decide) ?_
          refine x_icmp_ne (tgt := 46) dX12_expression_38 (by decide) (fun c38 => ?_) (fun c38 => ?_)
          · replace hf := zif_f c38 hf
            exact Ex.sb (cc_X12_expression_L46 ih hf) ⟨rfl, rfl, rfl, trivial⟩
          · replace hf := zif_t c38 hf
            refine x_aload_n dX12_expression_41 rfl rfl ?_
            refine x_iconst (v := 2) dX12_expression_42 (by decide) ?_
            obtain ⟨M9, hq8, hf⟩ := zbind hf
            refine x_invVv dX12_expression_43 mk_X12_fail ml_X12_268 (cc_X12_fail hq8) rfl rfl rfl (Nat.le_of_ble_eq_true rfl) rfl (Nat.le_of_ble_eq_true rfl) rfl ?_
            exact Ex.sb (cc_X12_expression_L46 ih hf) ⟨rfl, rfl, rfl, trivial⟩
theorem cc_X12_expression {l : Launch} {G : zG} {N : Nat}   {M : zMem} {M1 : zMem} (hf : fX12_expression N M = some M1) : Ca l G 2 mX12_expression [.ref (G.2.2.1 69)] M none M1 := by
  refine Ca.of (by decide +kernel) (Nat.le_of_ble_eq_true rfl) rfl ?_
  rw [fX12_expression] at hf
  refine x_aload_n dX12_expression_0 rfl rfl ?_
  refine x_iconst (v := 0) dX12_expression_1 (by decide) ?_
  obtain ⟨M1, eM1, hf⟩ := zletE hf
  refine x_putI dX12_expression_2 fp_X12_308 rfl rfl rfl rfl eM1 ?_
  refine x_aload_n dX12_expression_5 rfl rfl ?_
  refine x_getI dX12_expression_6 fl_X12_280 rfl rfl ?_
  obtain ⟨x1_2, ex1_2, hf⟩ := zletE hf
  refine x_istore_n dX12_expression_9 rfl (Nat.le_of_ble_eq_true rfl) ex1_2 ?_
  refine x_iconst (v := 1) dX12_expression_10 (by decide) ?_
  refine x_istore_n dX12_expression_11 rfl (Nat.le_of_ble_eq_true rfl) rfl ?_
  exact Ex.sb (cc_X12_expression_L12  hf) ⟨rfl, rfl, rfl, trivial⟩
theorem cc_X12_relation_L54 {l : Launch} {G : zG} {N : Nat} {x1 : Int32} {x2 : Int32} {M : zMem} {M1 : zMem} (hf : fX12_relation_L54 N x1 x2 M = some M1) : Ex l G 3 mX12_relation 54 [(0, .ref (G.2.2.1 69)), (1, .int x1), (2, .int x2)] [] M (zqV M1) := by
  rw [fX12_relation_L54] at hf
  refine x_aload_n dX12_relation_54 rfl rfl ?_
  obtain ⟨M6, hq5, hf⟩ := zbind hf
  refine x_invVv dX12_relation_55 mk_X12_next ml_X12_274 (cc_X12_next hq5) rfl rfl rfl (Nat.le_of_ble_eq_true rfl) rfl (Nat.le_of_ble_eq_true rfl) rfl ?_
  refine x_aload_n dX12_relation_58 rfl rfl ?_
  refine x_getI dX12_relation_59 fl_X12_289 rfl rfl ?_
  obtain ⟨x3_7, ex3_7, hf⟩ := zletE hf
  refine x_istore_n dX12_relation_62 rfl (Nat.le_of_ble_eq_true rfl) ex3_7 ?_
  refine x_aload_n dX12_relation_63 rfl rfl ?_
  obtain ⟨M9, hq8, hf⟩ := zbind hf
  refine x_invVv dX12_relation_64 mk_X12_expression ml_X12_295 (cc_X12_expression hq8) rfl rfl rfl (Nat.le_of_ble_eq_true rfl) rfl (Nat.le_of_ble_eq_true rfl) rfl ?_
  refine x_aload_n dX12_relation_67 rfl rfl ?_
  refine x_getI dX12_relation_68 fl_X12_253 rfl rfl ?_
  refine x_if_le (tgt := 75) dX12_relation_71 (by decide) (fun c71 => ?_) (fun c71 => ?_)
  · replace hf := zif_t c71 hf
    refine x_sipush (v := 200) dX12_relation_75 (by decide) ?_
    refine x_aload_n dX12_relation_78 rfl rfl ?_
    refine x_getI dX12_relation_79 fl_X12_286 rfl rfl ?_
    refine x_imul dX12_relation_82 ?_
    refine x_aload_n dX12_relation_83 rfl rfl ?_
    refine x_getS (r := 84) dX12_relation_84 fl_X12_61 rfl rfl ?_
    refine x_aload_n dX12_relation_87 rfl rfl ?_
    refine x_getI dX12_relation_88 fl_X12_286 rfl rfl ?_
    obtain ⟨v10, hv10, hf⟩ := zbind hf
    refine x_ild dX12_relation_91 rfl hv10 ?_
    refine x_iadd dX12_relation_92 ?_
    obtain ⟨x4_11, ex4_11, hf⟩ := zletE hf
    refine x_istore dX12_relation_93 (Nat.le_of_ble_eq_true rfl) ex4_11 ?_
    refine x_aload_n dX12_relation_95 rfl rfl ?_
    refine x_getS (r := 85) dX12_relation_96 fl_X12_64 rfl rfl ?_
    refine x_iload dX12_relation_99 rfl ?_
    refine x_iload_n dX12_relation_101 rfl rfl ?_
    obtain ⟨M12, hM12, hf⟩ := zbind hf
    refine x_ist dX12_relation_102 rfl hM12 ?_
    refine x_aload_n dX12_relation_103 rfl rfl ?_
    refine x_getS (r := 86) dX12_relation_104 fl_X12_67 rfl rfl ?_
    refine x_iload dX12_relation_107 rfl ?_
    refine x_iload_n dX12_relation_109 rfl rfl ?_
    obtain ⟨M13, hM13, hf⟩ := zbind hf
    refine x_ist dX12_relation_110 rfl hM13 ?_
    refine x_aload_n dX12_relation_111 rfl rfl ?_
    refine x_getS (r := 87) dX12_relation_112 fl_X12_70 rfl rfl ?_
    refine x_iload dX12_relation_115 rfl ?_
    refine x_iload_n dX12_relation_117 rfl rfl ?_
    obtain ⟨M14, hM14, hf⟩ := zbind hf
    refine x_ist dX12_relation_118 rfl hM14 ?_
    refine x_aload_n dX12_relation_119 rfl rfl ?_
    refine x_getS (r := 88) dX12_relation_120 fl_X12_73 rfl rfl ?_
    refine x_iload dX12_relation_123 rfl ?_
    refine x_aload_n dX12_relation_125 rfl rfl ?_
    refine x_getI dX12_relation_126 fl_X12_289 rfl rfl ?_
    obtain ⟨M15, hM15, hf⟩ := zbind hf
    refine x_ist dX12_relation_129 rfl hM15 ?_
    refine x_aload_n dX12_relation_130 rfl rfl ?_
    refine x_getS (r := 84) dX12_relation_131 fl_X12_61 rfl rfl ?_
    refine x_aload_n dX12_relation_134 rfl rfl ?_
    refine x_getI dX12_relation_135 fl_X12_286 rfl rfl ?_
    refine x_dup2 dX12_relation_138 rfl rfl ?_
    obtain ⟨v16, hv16, hf⟩ := zbind hf
    refine x_ild dX12_relation_139 rfl hv16 ?_
    refine x_iconst (v := 1) dX12_relation_140 (by decide) ?_
    refine x_iadd dX12_relation_141 ?_
    obtain ⟨M17, hM17, hf⟩ := zbind hf
    refine x_ist dX12_relation_142 rfl hM17 ?_
    exact x_vret rfl dX12_relation_143 (zretV hf)
  · replace hf := zif_f c71 hf
    exact x_vret rfl dX12_relation_74 (zretV hf)
theorem cc_X12_relation_L49 {l : Launch} {G : zG} {N : Nat} {x1 : Int32} {x2 : Int32} {M : zMem} {M1 : zMem} (hf : fX12_relation_L49 N x1 x2 M = some M1) : Ex l G 3 mX12_relation 49 [(0, .ref (G.2.2.1 69)), (1, .int x1), (2, .int x2)] [] M (zqV M1) := by
  rw [fX12_relation_L49] at hf
  refine x_aload_n dX12_relation_49 rfl rfl ?_
  refine x_iconst (v := 1) dX12_relation_50 (by decide) ?_
  obtain ⟨M19, hq18, hf⟩ := zbind hf
  refine x_invVv dX12_relation_51 mk_X12_fail ml_X12_268 (cc_X12_fail hq18) rfl rfl rfl (Nat.le_of_ble_eq_true rfl) rfl (Nat.le_of_ble_eq_true rfl) rfl ?_
  exact Ex.sb (cc_X12_relation_L54  hf) ⟨rfl, rfl, rfl, trivial⟩
theorem cc_X12_relation_L32 {l : Launch} {G : zG} {N : Nat} {x1 : Int32} {s0 : Int32} {M : zMem} {M1 : zMem} (hf : fX12_relation_L32 N x1 s0 M = some M1) : Ex l G 3 mX12_relation 32 [(0, .ref (G.2.2.1 69)), (1, .int x1)] [.int s0] M (zqV M1) := by
  rw [fX12_relation_L32] at hf
  refine x_istore_n dX12_relation_32 rfl (Nat.le_of_ble_eq_true rfl) rfl ?_
  refine x_aload_n dX12_relation_33 rfl rfl ?_
  refine x_getI dX12_relation_34 fl_X12_253 rfl rfl ?_
  refine x_if_ne (tgt := 54) dX12_relation_37 (by decide) (fun c37 => ?_) (fun c37 => ?_)
  · replace hf := zif_f c37 hf
    exact Ex.sb (cc_X12_relation_L54  hf) ⟨rfl, rfl, rfl, trivial⟩
  · replace hf := zif_t c37 hf
    refine x_iload_n dX12_relation_40 rfl rfl ?_
    refine x_if_lt (tgt := 49) dX12_relation_41 (by decide) (fun c41 => ?_) (fun c41 => ?_)
    · replace hf := zif_t c41 hf
      exact Ex.sb (cc_X12_relation_L49  hf) ⟨rfl, rfl, rfl, trivial⟩
    · replace hf := zif_f c41 hf
      refine x_iload_n dX12_relation_44 rfl rfl ?_
      refine x_iconst (v := 3) dX12_relation_45 (by decide) ?_
      refine x_icmp_le (tgt := 54) dX12_relation_46 (by decide) (fun c46 => ?_) (fun c46 => ?_)
      · replace hf := zif_t c46 hf
        exact Ex.sb (cc_X12_relation_L54  hf) ⟨rfl, rfl, rfl, trivial⟩
      · replace hf := zif_f c46 hf
        exact Ex.sb (cc_X12_relation_L49  hf) ⟨rfl, rfl, rfl, trivial⟩
theorem cc_X12_relation {l : Launch} {G : zG} {N : Nat}   {M : zMem} {M1 : zMem} (hf : fX12_relation N M = some M1) : Ca l G 3 mX12_relation [.ref (G.2.2.1 69)] M none M1 := by
  refine Ca.of (by decide +kernel) (Nat.le_of_ble_eq_true rfl) rfl ?_
  rw [fX12_relation] at hf
  refine x_aload_n dX12_relation_0 rfl rfl ?_
  refine x_getI dX12_relation_1 fl_X12_289 rfl rfl ?_
  obtain ⟨x1_1, ex1_1, hf⟩ := zletE hf
  refine x_istore_n dX12_relation_4 rfl (Nat.le_of_ble_eq_true rfl) ex1_1 ?_
  refine x_aload_n dX12_relation_5 rfl rfl ?_
  obtain ⟨M3, hq2, hf⟩ := zbind hf
  refine x_invVv dX12_relation_6 mk_X12_expression ml_X12_295 (cc_X12_expression hq2) rfl rfl rfl (Nat.le_of_ble_eq_true rfl) rfl (Nat.le_of_ble_eq_true rfl) rfl ?_
  refine x_aload_n dX12_relation_9 rfl rfl ?_
  refine x_getI dX12_relation_10 fl_X12_253 rfl rfl ?_
  refine x_if_le (tgt := 20) dX12_relation_13 (by decide) (fun c13 => ?_) (fun c13 => ?_)
  · replace hf := zif_t c13 hf
    refine x_aload_n dX12_relation_20 rfl rfl ?_
    refine x_getS (r := 72) dX12_relation_21 fl_X12_20 rfl rfl ?_
    refine x_aload_n dX12_relation_24 rfl rfl ?_
    refine x_getI dX12_relation_25 fl_X12_256 rfl rfl ?_
    obtain ⟨v4, hv4, hf⟩ := zbind hf
    refine x_ild dX12_relation_28 rfl hv4 ?_
    refine x_bipush (v := 11) dX12_relation_29 (by decide) ?_
    refine x_isub dX12_relation_31 ?_
    exact Ex.sb (cc_X12_relation_L32  hf) ⟨rfl, rfl, trivial⟩
  · replace hf := zif_f c13 hf
    refine x_iconst (v := 0) dX12_relation_16 (by decide) ?_
    refine x_goto (tgt := 32) dX12_relation_17 (by decide) ?_
    exact Ex.sb (cc_X12_relation_L32  hf) ⟨rfl, rfl, trivial⟩
theorem cc_X12_tellRule_L323 {l : Launch} {G : zG} {N : Nat} {x2 : Int32} {M : zMem} {M1 : zMem} (hf : fX12_tellRule_L323 N x2 M = some M1) : Ex l G 4 mX12_tellRule 323 [(0, .ref (G.2.2.1 69)), (2, .int x2)] [] M (zqV M1) := by
  rw [fX12_tellRule_L323] at hf
  refine x_aload_n dX12_tellRule_323 rfl rfl ?_
  refine x_iconst (v := 4) dX12_tellRule_324 (by decide) ?_
  obtain ⟨M51, hq50, hf⟩ := zbind hf
  refine x_invVv dX12_tellRule_325 mk_X12_must ml_X12_298 (cc_X12_must hq50) rfl rfl rfl (Nat.le_of_ble_eq_true rfl) rfl (Nat.le_of_ble_eq_true rfl) rfl ?_
  refine x_aload_n dX12_tellRule_328 rfl rfl ?_
  refine x_getI dX12_tellRule_329 fl_X12_253 rfl rfl ?_
  refine x_if_le (tgt := 336) dX12_tellRule_332 (by decide) (fun c332 => ?_) (fun c332 => ?_)
  · replace hf := zif_t c332 hf
    refine x_aload_n dX12_tellRule_336 rfl rfl ?_
    refine x_getS (r := 83) dX12_tellRule_337 fl_X12_58 rfl rfl ?_
    refine x_iload_n dX12_tellRule_340 rfl rfl ?_
    refine x_aload_n dX12_tellRule_341 rfl rfl ?_
    refine x_getS (r := 84) dX12_tellRule_342 fl_X12_61 rfl rfl ?_
    refine x_aload_n dX12_tellRule_345 rfl rfl ?_
    refine x_getI dX12_tellRule_346 fl_X12_286 rfl rfl ?_
    obtain ⟨v52, hv52, hf⟩ := zbind hf
    refine x_ild dX12_tellRule_349 rfl hv52 ?_
    obtain ⟨M53, hM53, hf⟩ := zbind hf
    refine x_ist dX12_tellRule_350 rfl hM53 ?_
    refine x_aload_n dX12_tellRule_351 rfl rfl ?_
    refine x_getS (r := 77) dX12_tellRule_352 fl_X12_40 rfl rfl ?_
    refine x_aload_n dX12_tellRule_355 rfl rfl ?_
    refine x_getI dX12_tellRule_356 fl_X12_286 rfl rfl ?_
    refine x_dup2 dX12_tellRule_359 rfl rfl ?_
    obtain ⟨v54, hv54, hf⟩ := zbind hf
    refine x_ild dX12_tellRule_360 rfl hv54 ?_
    refine x_iconst (v := 1) dX12_tellRule_361 (by decide) ?_
    refine x_iadd dX12_tellRule_362 ?_
    obtain ⟨M55, hM55, hf⟩ := zbind hf
    refine x_ist dX12_tellRule_363 rfl hM55 ?_
    exact x_vret rfl dX12_tellRule_364 (zretV hf)
  · replace hf := zif_f c332 hf
    exact x_vret rfl dX12_tellRule_335 (zretV hf)
theorem cc_X12_tellRule_L303 {l : Launch} {G : zG} {N : Nat} : ∀ {n : Nat} {x2 : Int32} {M : zMem} {M1 : zMem}, fX12_tellRule_L303 N n x2 M = some M1 → Ex l G 4 mX12_tellRule 303 [(0, .ref (G.2.2.1 69)), (2, .int x2)] [] M (zqV M1) := by
  intro n
  induction n with
  | zero => intro x2 M M1 hf; cases hf
  | succ n ih =>
    intro x2 M M1 hf
    rw [fX12_tellRule_L303] at hf
    refine x_aload_n dX12_tellRule_303 rfl rfl ?_
    refine x_bipush (v := 25) dX12_tellRule_304 (by decide) ?_
    obtain ⟨r58, M57, hq56, hf⟩ := zb2E hf
    refine x_invVi dX12_tellRule_306 mk_X12_is ml_X12_271 (cc_X12_is hq56) rfl rfl rfl (Nat.le_of_ble_eq_true rfl) rfl (Nat.le_of_ble_eq_true rfl) rfl ?_
    refine x_if_eq (tgt := 323) dX12_tellRule_309 (by decide) (fun c309 => ?_) (fun c309 => ?_)
    · replace hf := zif_t c309 hf
      exact Ex.sb (cc_X12_tellRule_L323  hf) ⟨rfl, rfl, trivial⟩
    · replace hf := zif_f c309 hf
      refine x_aload_n dX12_tellRule_312 rfl rfl ?_
      obtain ⟨M60, hq59, hf⟩ := zbind hf
      refine x_invVv dX12_tellRule_313 mk_X12_next ml_X12_274 (cc_X12_next hq59) rfl rfl rfl (Nat.le_of_ble_eq_true rfl) rfl (Nat.le_of_ble_eq_true rfl) rfl ?_
      refine x_aload_n dX12_tellRule_316 rfl rfl ?_
      obtain ⟨M62, hq61, hf⟩ := zbind hf
      refine x_invVv dX12_tellRule_317 mk_X12_relation ml_X12_305 (cc_X12_relation hq61) rfl rfl rfl (Nat.le_of_ble_eq_true rfl) rfl (Nat.le_of_ble_eq_true rfl) rfl ?_
      refine x_goto (tgt := 303) dX12_tellRule_320 (by decide) ?_
      exact Ex.sb (ih hf) ⟨rfl, rfl, trivial⟩
theorem cc_X12_tellRule_L295 {l : Launch} {G : zG} {N : Nat} {x2 : Int32} {x3 : Int32} {M : zMem} {M1 : zMem} (hf : fX12_tellRule_L295 N x2 x3 M = some M1) : Ex l G 4 mX12_tellRule 295 [(0, .ref (G.2.2.1 69)), (2, .int x2), (3, .int x3)] [] M (zqV M1) := by
  rw [fX12_tellRule_L295] at hf
  refine x_iload_n dX12_tellRule_295 rfl rfl ?_
  refine x_if_eq (tgt := 323) dX12_tellRule_296 (by decide) (fun c296 => ?_) (fun c296 => ?_)
  · replace hf := zif_t c296 hf
    exact Ex.sb (cc_X12_tellRule_L323  hf) ⟨rfl, rfl, trivial⟩
  · replace hf := zif_f c296 hf
    refine x_aload_n dX12_tellRule_299 rfl rfl ?_
    obtain ⟨M49, hq48, hf⟩ := zbind hf
    refine x_invVv dX12_tellRule_300 mk_X12_relation ml_X12_305 (cc_X12_relation hq48) rfl rfl rfl (Nat.le_of_ble_eq_true rfl) rfl (Nat.le_of_ble_eq_true rfl) rfl ?_
    exact Ex.sb (cc_X12_tellRule_L303  hf) ⟨rfl, rfl, trivial⟩
theorem cc_X12_tellRule_L289 {l : Launch} {G : zG} {N : Nat} {x2 : Int32} {x3 : Int32} {M : zMem} {M1 : zMem} (hf : fX12_tellRule_L289 N x2 x3 M = some M1) : Ex l G 4 mX12_tellRule 289 [(0, .ref (G.2.2.1 69)), (2, .int x2), (3, .int x3)] [] M (zqV M1) := by
  rw [fX12_tellRule_L289] at hf
  refine x_aload_n dX12_tellRule_289 rfl rfl ?_
  refine x_bipush (v := 21) dX12_tellRule_290 (by decide) ?_
  obtain ⟨M47, hq46, hf⟩ := zbind hf
  refine x_invVv dX12_tellRule_292 mk_X12_must ml_X12_298 (cc_X12_must hq46) rfl rfl rfl (Nat.le_of_ble_eq_true rfl) rfl (Nat.le_of_ble_eq_true rfl) rfl ?_
  exact Ex.sb (cc_X12_tellRule_L295  hf) ⟨rfl, rfl, rfl, trivial⟩
theorem cc_X12_tellRule_L254 {l : Launch} {G : zG} {N : Nat} {x2 : Int32} {M : zMem} {M1 : zMem} (hf : fX12_tellRule_L254 N x2 M = some M1) : Ex l G 4 mX12_tellRule 254 [(0, .ref (G.2.2.1 69)), (2, .int x2)] [] M (zqV M1) := by
  rw [fX12_tellRule_L254] at hf
  refine x_aload_n dX12_tellRule_254 rfl rfl ?_
  refine x_getS (r := 82) dX12_tellRule_255 fl_X12_55 rfl rfl ?_
  refine x_iload_n dX12_tellRule_258 rfl rfl ?_
  refine x_aload_n dX12_tellRule_259 rfl rfl ?_
  refine x_getS (r := 84) dX12_tellRule_260 fl_X12_61 rfl rfl ?_
  refine x_aload_n dX12_tellRule_263 rfl rfl ?_
  refine x_getI dX12_tellRule_264 fl_X12_286 rfl rfl ?_
  obtain ⟨v38, hv38, hf⟩ := zbind hf
  refine x_ild dX12_tellRule_267 rfl hv38 ?_
  obtain ⟨M39, hM39, hf⟩ := zbind hf
  refine x_ist dX12_tellRule_268 rfl hM39 ?_
  refine x_aload_n dX12_tellRule_269 rfl rfl ?_
  refine x_bipush (v := 21) dX12_tellRule_270 (by decide) ?_
  obtain ⟨r42, M41, hq40, hf⟩ := zb2E hf
  refine x_invVi dX12_tellRule_272 mk_X12_is ml_X12_271 (cc_X12_is hq40) rfl rfl rfl (Nat.le_of_ble_eq_true rfl) rfl (Nat.le_of_ble_eq_true rfl) rfl ?_
  refine x_istore_n dX12_tellRule_275 rfl (Nat.le_of_ble_eq_true rfl) rfl ?_
  refine x_iload_n dX12_tellRule_276 rfl rfl ?_
  refine x_if_ne (tgt := 289) dX12_tellRule_277 (by decide) (fun c277 => ?_) (fun c277 => ?_)
  · replace hf := zif_f c277 hf
    exact Ex.sb (cc_X12_tellRule_L289  hf) ⟨rfl, rfl, rfl, trivial⟩
  · replace hf := zif_t c277 hf
    refine x_aload_n dX12_tellRule_280 rfl rfl ?_
    refine x_getS (r := 78) dX12_tellRule_281 fl_X12_43 rfl rfl ?_
    refine x_iload_n dX12_tellRule_284 rfl rfl ?_
    obtain ⟨v43, hv43, hf⟩ := zbind hf
    refine x_ild dX12_tellRule_285 rfl hv43 ?_
    refine x_if_eq (tgt := 295) dX12_tellRule_286 (by decide) (fun c286 => ?_) (fun c286 => ?_)
    · replace hf := zif_t c286 hf
      exact Ex.sb (cc_X12_tellRule_L295  hf) ⟨rfl, rfl, rfl, trivial⟩
    · replace hf := zif_f c286 hf
      exact Ex.sb (cc_X12_tellRule_L289  hf) ⟨rfl, rfl, rfl, trivial⟩
theorem cc_X12_tellRule_L248 {l : Launch} {G : zG} {N : Nat} {x2 : Int32} {x3 : Int32} {M : zMem} {M1 : zMem} (hf : fX12_tellRule_L248 N x2 x3 M = some M1) : Ex l G 4 mX12_tellRule 248 [(0, .ref (G.2.2.1 69)), (2, .int x2), (3, .int x3)] [] M (zqV M1) := by
  rw [fX12_tellRule_L248] at hf
  refine x_aload_n dX12_tellRule_248 rfl rfl ?_
  refine x_iconst (v := 5) dX12_tellRule_249 (by decide) ?_
  refine x_iload_n dX12_tellRule_250 rfl rfl ?_
  obtain ⟨M45, hq44, hf⟩ := zbind hf
  refine x_invVv dX12_tellRule_251 mk_X12_wrong ml_X12_301 (cc_X12_wrong hq44) rfl rfl rfl (Nat.le_of_ble_eq_true rfl) rfl (Nat.le_of_ble_eq_true rfl) rfl ?_
  exact Ex.sb (cc_X12_tellRule_L254  hf) ⟨rfl, rfl, trivial⟩
theorem cc_X12_tellRule_L181 {l : Launch} {G : zG} {N : Nat} {x2 : Int32} {M : zMem} {M1 : zMem} (hf : fX12_tellRule_L181 N x2 M = some M1) : Ex l G 4 mX12_tellRule 181 [(0, .ref (G.2.2.1 69)), (2, .int x2)] [] M (zqV M1) := by
  rw [fX12_tellRule_L181] at hf
  refine x_aload_n dX12_tellRule_181 rfl rfl ?_
  refine x_getI dX12_tellRule_182 fl_X12_256 rfl rfl ?_
  obtain ⟨x3_32, ex3_32, hf⟩ := zletE hf
  refine x_istore_n dX12_tellRule_185 rfl (Nat.le_of_ble_eq_true rfl) ex3_32 ?_
  refine x_aload_n dX12_tellRule_186 rfl rfl ?_
  refine x_iconst (v := 2) dX12_tellRule_187 (by decide) ?_
  obtain ⟨M34, hq33, hf⟩ := zbind hf
  refine x_invVv dX12_tellRule_188 mk_X12_must ml_X12_298 (cc_X12_must hq33) rfl rfl rfl (Nat.le_of_ble_eq_true rfl) rfl (Nat.le_of_ble_eq_true rfl) rfl ?_
  refine x_aload_n dX12_tellRule_191 rfl rfl ?_
  refine x_getI dX12_tellRule_192 fl_X12_253 rfl rfl ?_
  refine x_if_le (tgt := 199) dX12_tellRule_195 (by decide) (fun c195 => ?_) (fun c195 => ?_)
  · replace hf := zif_t c195 hf
    refine x_aload_n dX12_tellRule_199 rfl rfl ?_
    refine x_getS (r := 74) dX12_tellRule_200 fl_X12_27 rfl rfl ?_
    refine x_iload_n dX12_tellRule_203 rfl rfl ?_
    obtain ⟨v35, hv35, hf⟩ := zbind hf
    refine x_ild dX12_tellRule_204 rfl hv35 ?_
    refine x_istore dX12_tellRule_205 (Nat.le_of_ble_eq_true rfl) rfl ?_
    refine x_aload_n dX12_tellRule_207 rfl rfl ?_
    refine x_getS (r := 79) dX12_tellRule_208 fl_X12_46 rfl rfl ?_
    refine x_iload_n dX12_tellRule_211 rfl rfl ?_
    refine x_iload dX12_tellRule_212 rfl ?_
    obtain ⟨M36, hM36, hf⟩ := zbind hf
    refine x_ist dX12_tellRule_214 rfl hM36 ?_
    refine x_aload_n dX12_tellRule_215 rfl rfl ?_
    refine x_getS (r := 78) dX12_tellRule_216 fl_X12_43 rfl rfl ?_
    refine x_iload_n dX12_tellRule_219 rfl rfl ?_
    obtain ⟨v37, hv37, hf⟩ := zbind hf
    refine x_ild dX12_tellRule_220 rfl hv37 ?_
    refine x_iconst (v := 2) dX12_tellRule_221 (by decide) ?_
    refine x_icmp_ne (tgt := 235) dX12_tellRule_222 (by decide) (fun c222 => ?_) (fun c222 => ?_)
    · replace hf := zif_f c222 hf
      refine x_iload dX12_tellRule_235 rfl ?_
      refine x_iconst (v := 1) dX12_tellRule_237 (by decide) ?_
      refine x_icmp_lt (tgt := 248) dX12_tellRule_238 (by decide) (fun c238 => ?_) (fun c238 => ?_)
      · replace hf := zif_t c238 hf
        exact Ex.sb (cc_X12_tellRule_L248  hf) ⟨rfl, rfl, rfl, trivial⟩
      · replace hf := zif_f c238 hf
        refine x_iload dX12_tellRule_241 rfl ?_
        refine x_bipush (v := 60) dX12_tellRule_243 (by decide) ?_
        refine x_icmp_le (tgt := 254) dX12_tellRule_245 (by decide) (fun c245 => ?_) (fun c245 => ?_)
        · replace hf := zif_t c245 hf
          exact Ex.sb (cc_X12_tellRule_L254  hf) ⟨rfl, rfl, trivial⟩
        · replace hf := zif_f c245 hf
          exact Ex.sb (cc_X12_tellRule_L248  hf) ⟨rfl, rfl, rfl, trivial⟩
    · replace hf := zif_t c222 hf
      refine x_iload dX12_tellRule_225 rfl ?_
      refine x_bipush (v := 7) dX12_tellRule_227 (by decide) ?_
      refine x_icmp_le (tgt := 254) dX12_tellRule_229 (by decide) (fun c229 => ?_) (fun c229 => ?_)
      · replace hf := zif_t c229 hf
        exact Ex.sb (cc_X12_tellRule_L254  hf) ⟨rfl, rfl, trivial⟩
      · replace hf := zif_f c229 hf
        refine x_goto (tgt := 248) dX12_tellRule_232 (by decide) ?_
        exact Ex.sb (cc_X12_tellRule_L248  hf) ⟨rfl, rfl, rfl, trivial⟩
  · replace hf := zif_f c195 hf
    exact x_vret rfl dX12_tellRule_198 (zretV hf)
theorem cc_X12_tellRule_L151 {l : Launch} {G : zG} {N : Nat} {x2 : Int32} {M : zMem} {M1 : zMem} (hf : fX12_tellRule_L151 N x2 M = some M1) : Ex l G 4 mX12_tellRule 151 [(0, .ref (G.2.2.1 69)), (2, .int x2)] [] M (zqV M1) := by
  rw [fX12_tellRule_L151] at hf
  refine x_aload_n dX12_tellRule_151 rfl rfl ?_
  refine x_getS (r := 81) dX12_tellRule_152 fl_X12_52 rfl rfl ?_
  refine x_iload_n dX12_tellRule_155 rfl rfl ?_
  refine x_aload_n dX12_tellRule_156 rfl rfl ?_
  refine x_getI dX12_tellRule_157 fl_X12_289 rfl rfl ?_
  obtain ⟨M29, hM29, hf⟩ := zbind hf
  refine x_ist dX12_tellRule_160 rfl hM29 ?_
  refine x_aload_n dX12_tellRule_161 rfl rfl ?_
  refine x_getS (r := 78) dX12_tellRule_162 fl_X12_43 rfl rfl ?_
  refine x_iload_n dX12_tellRule_165 rfl rfl ?_
  obtain ⟨v30, hv30, hf⟩ := zbind hf
  refine x_ild dX12_tellRule_166 rfl hv30 ?_
  refine x_iconst (v := 2) dX12_tellRule_167 (by decide) ?_
  refine x_icmp_eq (tgt := 181) dX12_tellRule_168 (by decide) (fun c168 => ?_) (fun c168 => ?_)
  · replace hf := zif_t c168 hf
    exact Ex.sb (cc_X12_tellRule_L181  hf) ⟨rfl, rfl, trivial⟩
  · replace hf := zif_f c168 hf
    refine x_aload_n dX12_tellRule_171 rfl rfl ?_
    refine x_getS (r := 78) dX12_tellRule_172 fl_X12_43 rfl rfl ?_
    refine x_iload_n dX12_tellRule_175 rfl rfl ?_
    obtain ⟨v31, hv31, hf⟩ := zbind hf
    refine x_ild dX12_tellRule_176 rfl hv31 ?_
    refine x_iconst (v := 4) dX12_tellRule_177 (by decide) ?_
    refine x_icmp_ne (tgt := 254) dX12_tellRule_178 (by decide) (fun c178 => ?_) (fun c178 => ?_)
    · replace hf := zif_f c178 hf
      exact Ex.sb (cc_X12_tellRule_L254  hf) ⟨rfl, rfl, trivial⟩
    · replace hf := zif_t c178 hf
      exact Ex.sb (cc_X12_tellRule_L181  hf) ⟨rfl, rfl, trivial⟩
theorem cc_X12_tellRule_L73 {l : Launch} {G : zG} {N : Nat}  {M : zMem} {M1 : zMem} (hf : fX12_tellRule_L73 N M = some M1) : Ex l G 4 mX12_tellRule 73 [(0, .ref (G.2.2.1 69))] [] M (zqV M1) := by
  rw [fX12_tellRule_L73] at hf
  refine x_aload_n dX12_tellRule_73 rfl rfl ?_
  refine x_getI dX12_tellRule_74 fl_X12_253 rfl rfl ?_
  refine x_if_le (tgt := 81) dX12_tellRule_77 (by decide) (fun c77 => ?_) (fun c77 => ?_)
  · replace hf := zif_t c77 hf
    refine x_bipush (v := 20) dX12_tellRule_81 (by decide) ?_
    refine x_aload_n dX12_tellRule_83 rfl rfl ?_
    refine x_getI dX12_tellRule_84 fl_X12_286 rfl rfl ?_
    refine x_imul dX12_tellRule_87 ?_
    refine x_aload_n dX12_tellRule_88 rfl rfl ?_
    refine x_getS (r := 77) dX12_tellRule_89 fl_X12_40 rfl rfl ?_
    refine x_aload_n dX12_tellRule_92 rfl rfl ?_
    refine x_getI dX12_tellRule_93 fl_X12_286 rfl rfl ?_
    obtain ⟨v18, hv18, hf⟩ := zbind hf
    refine x_ild dX12_tellRule_96 rfl hv18 ?_
    refine x_iadd dX12_tellRule_97 ?_
    obtain ⟨x2_19, ex2_19, hf⟩ := zletE hf
    refine x_istore_n dX12_tellRule_98 rfl (Nat.le_of_ble_eq_true rfl) ex2_19 ?_
    refine x_aload_n dX12_tellRule_99 rfl rfl ?_
    refine x_getS (r := 78) dX12_tellRule_100 fl_X12_43 rfl rfl ?_
    refine x_iload_n dX12_tellRule_103 rfl rfl ?_
    refine x_aload_n dX12_tellRule_104 rfl rfl ?_
    refine x_getS (r := 72) dX12_tellRule_105 fl_X12_20 rfl rfl ?_
    refine x_aload_n dX12_tellRule_108 rfl rfl ?_
    refine x_getI dX12_tellRule_109 fl_X12_256 rfl rfl ?_
    obtain ⟨v20, hv20, hf⟩ := zbind hf
    refine x_ild dX12_tellRule_112 rfl hv20 ?_
    refine x_bipush (v := 20) dX12_tellRule_113 (by decide) ?_
    refine x_isub dX12_tellRule_115 ?_
    obtain ⟨M21, hM21, hf⟩ := zbind hf
    refine x_ist dX12_tellRule_116 rfl hM21 ?_
    refine x_aload_n dX12_tellRule_117 rfl rfl ?_
    obtain ⟨M23, hq22, hf⟩ := zbind hf
    refine x_invVv dX12_tellRule_118 mk_X12_next ml_X12_274 (cc_X12_next hq22) rfl rfl rfl (Nat.le_of_ble_eq_true rfl) rfl (Nat.le_of_ble_eq_true rfl) rfl ?_
    refine x_aload_n dX12_tellRule_121 rfl rfl ?_
    refine x_getS (r := 80) dX12_tellRule_122 fl_X12_49 rfl rfl ?_
    refine x_iload_n dX12_tellRule_125 rfl rfl ?_
    refine x_aload_n dX12_tellRule_126 rfl rfl ?_
    refine x_getI dX12_tellRule_127 fl_X12_289 rfl rfl ?_
    obtain ⟨M24, hM24, hf⟩ := zbind hf
    refine x_ist dX12_tellRule_130 rfl hM24 ?_
    refine x_aload_n dX12_tellRule_131 rfl rfl ?_
    refine x_getS (r := 79) dX12_tellRule_132 fl_X12_46 rfl rfl ?_
    refine x_iload_n dX12_tellRule_135 rfl rfl ?_
    refine x_iconst (v := 0) dX12_tellRule_136 (by decide) ?_
    obtain ⟨M25, hM25, hf⟩ := zbind hf
    refine x_ist dX12_tellRule_137 rfl hM25 ?_
    refine x_aload_n dX12_tellRule_138 rfl rfl ?_
    refine x_getS (r := 78) dX12_tellRule_139 fl_X12_43 rfl rfl ?_
    refine x_iload_n dX12_tellRule_142 rfl rfl ?_
    obtain ⟨v26, hv26, hf⟩ := zbind hf
    refine x_ild dX12_tellRule_143 rfl hv26 ?_
    refine x_if_ne (tgt := 151) dX12_tellRule_144 (by decide) (fun c144 => ?_) (fun c144 => ?_)
    · replace hf := zif_f c144 hf
      exact Ex.sb (cc_X12_tellRule_L151  hf) ⟨rfl, rfl, trivial⟩
    · replace hf := zif_t c144 hf
      refine x_aload_n dX12_tellRule_147 rfl rfl ?_
      obtain ⟨M28, hq27, hf⟩ := zbind hf
      refine x_invVv dX12_tellRule_148 mk_X12_expression ml_X12_295 (cc_X12_expression hq27) rfl rfl rfl (Nat.le_of_ble_eq_true rfl) rfl (Nat.le_of_ble_eq_true rfl) rfl ?_
      exact Ex.sb (cc_X12_tellRule_L151  hf) ⟨rfl, rfl, trivial⟩
  · replace hf := zif_f c77 hf
    exact x_vret rfl dX12_tellRule_80 (zretV hf)
theorem cc_X12_tellRule_L41 {l : Launch} {G : zG} {N : Nat} {s0 : Int32} {M : zMem} {M1 : zMem} (hf : fX12_tellRule_L41 N s0 M = some M1) : Ex l G 4 mX12_tellRule 41 [(0, .ref (G.2.2.1 69))] [.int s0] M (zqV M1) := by
  rw [fX12_tellRule_L41] at hf
  refine x_istore_n dX12_tellRule_41 rfl (Nat.le_of_ble_eq_true rfl) rfl ?_
  refine x_iload_n dX12_tellRule_42 rfl rfl ?_
  refine x_if_ne (tgt := 54) dX12_tellRule_43 (by decide) (fun c43 => ?_) (fun c43 => ?_)
  · replace hf := zif_f c43 hf
    refine x_aload_n dX12_tellRule_54 rfl rfl ?_
    refine x_getS (r := 77) dX12_tellRule_55 fl_X12_40 rfl rfl ?_
    refine x_aload_n dX12_tellRule_58 rfl rfl ?_
    refine x_getI dX12_tellRule_59 fl_X12_286 rfl rfl ?_
    obtain ⟨v13, hv13, hf⟩ := zbind hf
    refine x_ild dX12_tellRule_62 rfl hv13 ?_
    refine x_bipush (v := 20) dX12_tellRule_63 (by decide) ?_
    refine x_icmp_ne (tgt := 73) dX12_tellRule_65 (by decide) (fun c65 => ?_) (fun c65 => ?_)
    · replace hf := zif_f c65 hf
      exact Ex.sb (cc_X12_tellRule_L73  hf) ⟨rfl, trivial⟩
    · replace hf := zif_t c65 hf
      refine x_aload_n dX12_tellRule_68 rfl rfl ?_
      refine x_iconst (v := 2) dX12_tellRule_69 (by decide) ?_
      obtain ⟨M15, hq14, hf⟩ := zbind hf
      refine x_invVv dX12_tellRule_70 mk_X12_fail ml_X12_268 (cc_X12_fail hq14) rfl rfl rfl (Nat.le_of_ble_eq_true rfl) rfl (Nat.le_of_ble_eq_true rfl) rfl ?_
      exact Ex.sb (cc_X12_tellRule_L73  hf) ⟨rfl, trivial⟩
  · replace hf := zif_t c43 hf
    refine x_aload_n dX12_tellRule_46 rfl rfl ?_
    refine x_iconst (v := 1) dX12_tellRule_47 (by decide) ?_
    obtain ⟨M17, hq16, hf⟩ := zbind hf
    refine x_invVv dX12_tellRule_48 mk_X12_fail ml_X12_268 (cc_X12_fail hq16) rfl rfl rfl (Nat.le_of_ble_eq_true rfl) rfl (Nat.le_of_ble_eq_true rfl) rfl ?_
    refine x_goto (tgt := 73) dX12_tellRule_51 (by decide) ?_
    exact Ex.sb (cc_X12_tellRule_L73  hf) ⟨rfl, trivial⟩
theorem cc_X12_tellRule_L36 {l : Launch} {G : zG} {N : Nat}  {M : zMem} {M1 : zMem} (hf : fX12_tellRule_L36 N M = some M1) : Ex l G 4 mX12_tellRule 36 [(0, .ref (G.2.2.1 69))] [] M (zqV M1) := by
  rw [fX12_tellRule_L36] at hf
  refine x_iconst (v := 1) dX12_tellRule_36 (by decide) ?_
  refine x_goto (tgt := 41) dX12_tellRule_37 (by decide) ?_
  exact Ex.sb (cc_X12_tellRule_L41  hf) ⟨rfl, trivial⟩
theorem cc_X12_tellRule {l : Launch} {G : zG} {N : Nat}   {M : zMem} {M1 : zMem} (hf : fX12_tellRule N M = some M1) : Ca l G 4 mX12_tellRule [.ref (G.2.2.1 69)] M none M1 := by
  refine Ca.of (by decide +kernel) (Nat.le_of_ble_eq_true rfl) rfl ?_
  rw [fX12_tellRule] at hf
  refine x_aload_n dX12_tellRule_0 rfl rfl ?_
  refine x_bipush (v := 20) dX12_tellRule_1 (by decide) ?_
  obtain ⟨r3, M2, hq1, hf⟩ := zb2E hf
  refine x_invVi dX12_tellRule_3 mk_X12_is ml_X12_271 (cc_X12_is hq1) rfl rfl rfl (Nat.le_of_ble_eq_true rfl) rfl (Nat.le_of_ble_eq_true rfl) rfl ?_
  refine x_if_ne (tgt := 36) dX12_tellRule_6 (by decide) (fun c6 => ?_) (fun c6 => ?_)
  · replace hf := zif_f c6 hf
    exact Ex.sb (cc_X12_tellRule_L36  hf) ⟨rfl, trivial⟩
  · replace hf := zif_t c6 hf
    refine x_aload_n dX12_tellRule_9 rfl rfl ?_
    refine x_bipush (v := 22) dX12_tellRule_10 (by decide) ?_
    obtain ⟨r6, M5, hq4, hf⟩ := zb2E hf
    refine x_invVi dX12_tellRule_12 mk_X12_is ml_X12_271 (cc_X12_is hq4) rfl rfl rfl (Nat.le_of_ble_eq_true rfl) rfl (Nat.le_of_ble_eq_true rfl) rfl ?_
    refine x_if_ne (tgt := 36) dX12_tellRule_15 (by decide) (fun c15 => ?_) (fun c15 => ?_)
    · replace hf := zif_f c15 hf
      exact Ex.sb (cc_X12_tellRule_L36  hf) ⟨rfl, trivial⟩
    · replace hf := zif_t c15 hf
      refine x_aload_n dX12_tellRule_18 rfl rfl ?_
      refine x_bipush (v := 23) dX12_tellRule_19 (by decide) ?_
      obtain ⟨r9, M8, hq7, hf⟩ := zb2E hf
      refine x_invVi dX12_tellRule_21 mk_X12_is ml_X12_271 (cc_X12_is hq7) rfl rfl rfl (Nat.le_of_ble_eq_true rfl) rfl (Nat.le_of_ble_eq_true rfl) rfl ?_
      refine x_if_ne (tgt := 36) dX12_tellRule_24 (by decide) (fun c24 => ?_) (fun c24 => ?_)
      · replace hf := zif_f c24 hf
        exact Ex.sb (cc_X12_tellRule_L36  hf) ⟨rfl, trivial⟩
      · replace hf := zif_t c24 hf
        refine x_aload_n dX12_tellRule_27 rfl rfl ?_
        refine x_bipush (v := 24) dX12_tellRule_28 (by decide) ?_
        obtain ⟨r12, M11, hq10, hf⟩ := zb2E hf
        refine x_invVi dX12_tellRule_30 mk_X12_is ml_X12_271 (cc_X12_is hq10) rfl rfl rfl (Nat.le_of_ble_eq_true rfl) rfl (Nat.le_of_ble_eq_true rfl) rfl ?_
        refine x_if_eq (tgt := 40) dX12_tellRule_33 (by decide) (fun c33 => ?_) (fun c33 => ?_)
        · replace hf := zif_t c33 hf
          refine x_iconst (v := 0) dX12_tellRule_40 (by decide) ?_
          exact Ex.sb (cc_X12_tellRule_L41  hf) ⟨rfl, trivial⟩
        · replace hf := zif_f c33 hf
          exact Ex.sb (cc_X12_tellRule_L36  hf) ⟨rfl, trivial⟩
theorem cc_X12_read_L159 {l : Launch} {G : zG} {N : Nat} {s1 : Int32} {M : zMem} {r : Int32} {M1 : zMem} (hf : fX12_read_L159 N s1 M = some (r, M1)) : Ex l G 5 mX12_read 159 [(0, .ref (G.2.2.1 69))] [.int s1, .ref (G.2.2.1 69)] M (zqI r M1) := by
  rw [fX12_read_L159] at hf
  obtain ⟨M21, eM21, hf⟩ := zletE hf
  refine x_putI dX12_read_159 fp_X12_37 rfl rfl rfl rfl eM21 ?_
  refine x_aload_n dX12_read_162 rfl rfl ?_
  refine x_getI dX12_read_163 fl_X12_253 rfl rfl ?_
  refine x_if_le (tgt := 174) dX12_read_166 (by decide) (fun c166 => ?_) (fun c166 => ?_)
  · replace hf := zif_t c166 hf
    refine x_aload_n dX12_read_174 rfl rfl ?_
    refine x_getI dX12_read_175 fl_X12_262 rfl rfl ?_
    refine x_if_le (tgt := 186) dX12_read_178 (by decide) (fun c178 => ?_) (fun c178 => ?_)
    · replace hf := zif_t c178 hf
      refine x_aload_n dX12_read_186 rfl rfl ?_
      refine x_aload_n dX12_read_187 rfl rfl ?_
      refine x_getI dX12_read_188 fl_X12_286 rfl rfl ?_
      obtain ⟨M22, eM22, hf⟩ := zletE hf
      refine x_putI dX12_read_191 fp_X12_283 rfl rfl rfl rfl eM22 ?_
      refine x_iconst (v := 0) dX12_read_194 (by decide) ?_
      exact x_iret rfl dX12_read_195 (zretI hf)
    · replace hf := zif_f c178 hf
      refine x_aload_n dX12_read_181 rfl rfl ?_
      refine x_getI dX12_read_182 fl_X12_262 rfl rfl ?_
      exact x_iret rfl dX12_read_185 (zretI hf)
  · replace hf := zif_f c166 hf
    refine x_aload_n dX12_read_169 rfl rfl ?_
    refine x_getI dX12_read_170 fl_X12_253 rfl rfl ?_
    exact x_iret rfl dX12_read_173 (zretI hf)
theorem cc_X12_read_L129 {l : Launch} {G : zG} {N : Nat}  {M : zMem} {r : Int32} {M1 : zMem} (hf : fX12_read_L129 N M = some (r, M1)) : Ex l G 5 mX12_read 129 [(0, .ref (G.2.2.1 69))] [] M (zqI r M1) := by
  rw [fX12_read_L129] at hf
  refine x_aload_n dX12_read_129 rfl rfl ?_
  refine x_aload_n dX12_read_130 rfl rfl ?_
  refine x_getI dX12_read_131 fl_X12_253 rfl rfl ?_
  refine x_if_le (tgt := 144) dX12_read_134 (by decide) (fun c134 => ?_) (fun c134 => ?_)
  · replace hf := zif_t c134 hf
    refine x_aload_n dX12_read_144 rfl rfl ?_
    refine x_getI dX12_read_145 fl_X12_262 rfl rfl ?_
    refine x_if_le (tgt := 158) dX12_read_148 (by decide) (fun c148 => ?_) (fun c148 => ?_)
    · replace hf := zif_t c148 hf
      refine x_iconst (v := -1) dX12_read_158 (by decide) ?_
      exact Ex.sb (cc_X12_read_L159  hf) ⟨rfl, trivial⟩
    · replace hf := zif_f c148 hf
      refine x_aload_n dX12_read_151 rfl rfl ?_
      refine x_getI dX12_read_152 fl_X12_265 rfl rfl ?_
      refine x_goto (tgt := 159) dX12_read_155 (by decide) ?_
      exact Ex.sb (cc_X12_read_L159  hf) ⟨rfl, trivial⟩
  · replace hf := zif_f c134 hf
    refine x_aload_n dX12_read_137 rfl rfl ?_
    refine x_getI dX12_read_138 fl_X12_259 rfl rfl ?_
    refine x_goto (tgt := 159) dX12_read_141 (by decide) ?_
    exact Ex.sb (cc_X12_read_L159  hf) ⟨rfl, trivial⟩
theorem cc_X12_read_L107 {l : Launch} {G : zG} {N : Nat} : ∀ {n : Nat}  {M : zMem} {r : Int32} {M1 : zMem}, fX12_read_L107 N n M = some (r, M1) → Ex l G 5 mX12_read 107 [(0, .ref (G.2.2.1 69))] [] M (zqI r M1) := by
  intro n
  induction n with
  | zero => intro M r M1 hf; cases hf
  | succ n ih =>
    intro M r M1 hf
    rw [fX12_read_L107] at hf
    refine x_aload_n dX12_read_107 rfl rfl ?_
    refine x_getI dX12_read_108 fl_X12_253 rfl rfl ?_
    refine x_if_ne (tgt := 129) dX12_read_111 (by decide) (fun c111 => ?_) (fun c111 => ?_)
    · replace hf := zif_f c111 hf
      exact Ex.sb (cc_X12_read_L129  hf) ⟨rfl, trivial⟩
    · replace hf := zif_t c111 hf
      refine x_aload_n dX12_read_114 rfl rfl ?_
      refine x_iconst (v := 0) dX12_read_115 (by decide) ?_
      obtain ⟨r18, M17, hq16, hf⟩ := zb2E hf
      refine x_invVi dX12_read_116 mk_X12_is ml_X12_271 (cc_X12_is hq16) rfl rfl rfl (Nat.le_of_ble_eq_true rfl) rfl (Nat.le_of_ble_eq_true rfl) rfl ?_
      refine x_if_ne (tgt := 129) dX12_read_119 (by decide) (fun c119 => ?_) (fun c119 => ?_)
      · replace hf := zif_f c119 hf
        exact Ex.sb (cc_X12_read_L129  hf) ⟨rfl, trivial⟩
      · replace hf := zif_t c119 hf
        refine x_aload_n dX12_read_122 rfl rfl ?_
        obtain ⟨M20, hq19, hf⟩ := zbind hf
        refine x_invVv dX12_read_123 mk_X12_tellRule ml_X12_292 (cc_X12_tellRule hq19) rfl rfl rfl (Nat.le_of_ble_eq_true rfl) rfl (Nat.le_of_ble_eq_true rfl) rfl ?_
        refine x_goto (tgt := 107) dX12_read_126 (by decide) ?_
        exact Ex.sb (ih hf) ⟨rfl, trivial⟩
theorem cc_X12_read_L10 {l : Launch} {G : zG} {N : Nat} : ∀ {n : Nat} {x1 : Int32} {M : zMem} {r : Int32} {M1 : zMem}, fX12_read_L10 N n x1 M = some (r, M1) → Ex l G 5 mX12_read 10 [(0, .ref (G.2.2.1 69)), (1, .int x1)] [] M (zqI r M1) := by
  intro n
  induction n with
  | zero => intro x1 M r M1 hf; cases hf
  | succ n ih =>
    intro x1 M r M1 hf
    rw [fX12_read_L10] at hf
    refine x_iload_n dX12_read_10 rfl rfl ?_
    refine x_aload_n dX12_read_11 rfl rfl ?_
    refine x_getI dX12_read_12 fl_X12_223 rfl rfl ?_
    refine x_icmp_ge (tgt := 36) dX12_read_15 (by decide) (fun c15 => ?_) (fun c15 => ?_)
    · replace hf := zif_t c15 hf
      refine x_aload_n dX12_read_36 rfl rfl ?_
      refine x_iconst (v := 0) dX12_read_37 (by decide) ?_
      obtain ⟨M2, eM2, hf⟩ := zletE hf
      refine x_putI dX12_read_38 fp_X12_216 rfl rfl rfl rfl eM2 ?_
      refine x_aload_n dX12_read_41 rfl rfl ?_
      obtain ⟨M4, hq3, hf⟩ := zbind hf
      refine x_invVv dX12_read_42 mk_X12_cut ml_X12_277 (cc_X12_cut hq3) rfl rfl rfl (Nat.le_of_ble_eq_true rfl) rfl (Nat.le_of_ble_eq_true rfl) rfl ?_
      refine x_aload_n dX12_read_45 rfl rfl ?_
      refine x_iconst (v := 0) dX12_read_46 (by decide) ?_
      obtain ⟨M5, eM5, hf⟩ := zletE hf
      refine x_putI dX12_read_47 fp_X12_256 rfl rfl rfl rfl eM5 ?_
      refine x_aload_n dX12_read_50 rfl rfl ?_
      refine x_iconst (v := 0) dX12_read_51 (by decide) ?_
      obtain ⟨M6, eM6, hf⟩ := zletE hf
      refine x_putI dX12_read_52 fp_X12_280 rfl rfl rfl rfl eM6 ?_
      refine x_aload_n dX12_read_55 rfl rfl ?_
      refine x_iconst (v := 0) dX12_read_56 (by decide) ?_
      obtain ⟨M7, eM7, hf⟩ := zletE hf
      refine x_putI dX12_read_57 fp_X12_253 rfl rfl rfl rfl eM7 ?_
      refine x_aload_n dX12_read_60 rfl rfl ?_
      refine x_iconst (v := 0) dX12_read_61 (by decide) ?_
      obtain ⟨M8, eM8, hf⟩ := zletE hf
      refine x_putI dX12_read_62 fp_X12_262 rfl rfl rfl rfl eM8 ?_
      refine x_aload_n dX12_read_65 rfl rfl ?_
      refine x_iconst (v := 1) dX12_read_66 (by decide) ?_
      refine x_aload_n dX12_read_67 rfl rfl ?_
      refine x_getI dX12_read_68 fl_X12_283 rfl rfl ?_
      refine x_isub dX12_read_71 ?_
      obtain ⟨M9, eM9, hf⟩ := zletE hf
      refine x_putI dX12_read_72 fp_X12_286 rfl rfl rfl rfl eM9 ?_
      refine x_aload_n dX12_read_75 rfl rfl ?_
      refine x_getS (r := 77) dX12_read_76 fl_X12_40 rfl rfl ?_
      refine x_aload_n dX12_read_79 rfl rfl ?_
      refine x_getI dX12_read_80 fl_X12_286 rfl rfl ?_
      refine x_iconst (v := 0) dX12_read_83 (by decide) ?_
      obtain ⟨M10, hM10, hf⟩ := zbind hf
      refine x_ist dX12_read_84 rfl hM10 ?_
      refine x_aload_n dX12_read_85 rfl rfl ?_
      refine x_getS (r := 84) dX12_read_86 fl_X12_61 rfl rfl ?_
      refine x_aload_n dX12_read_89 rfl rfl ?_
      refine x_getI dX12_read_90 fl_X12_286 rfl rfl ?_
      refine x_iconst (v := 0) dX12_read_93 (by decide) ?_
      obtain ⟨M11, hM11, hf⟩ := zbind hf
      refine x_ist dX12_read_94 rfl hM11 ?_
      refine x_aload_n dX12_read_95 rfl rfl ?_
      refine x_sipush (v := 500) dX12_read_96 (by decide) ?_
      refine x_aload_n dX12_read_99 rfl rfl ?_
      refine x_getI dX12_read_100 fl_X12_286 rfl rfl ?_
      refine x_imul dX12_read_103 ?_
      obtain ⟨M12, eM12, hf⟩ := zletE hf
      refine x_putI dX12_read_104 fp_X12_289 rfl rfl rfl rfl eM12 ?_
      exact Ex.sb (cc_X12_read_L107  hf) ⟨rfl, trivial⟩
    · replace hf := zif_f c15 hf
      refine x_aload_n dX12_read_18 rfl rfl ?_
      refine x_getS (r := 71) dX12_read_19 fl_X12_17 rfl rfl ?_
      refine x_iload_n dX12_read_22 rfl rfl ?_
      refine x_aload_n dX12_read_23 rfl rfl ?_
      refine x_getS (r := 70) dX12_read_24 fl_X12_13 rfl rfl ?_
      refine x_iload_n dX12_read_27 rfl rfl ?_
      obtain ⟨v13, hv13, hf⟩ := zbind hf
      refine x_bld dX12_read_28 rfl hv13 ?_
      obtain ⟨M14, hM14, hf⟩ := zbind hf
      refine x_bst dX12_read_29 rfl hM14 ?_
      obtain ⟨x1_15, ex1_15, hf⟩ := zletE hf
      refine x_iinc (c0 := 1) dX12_read_30 rfl (Nat.le_of_ble_eq_true rfl) (by decide) ex1_15 ?_
      refine x_goto (tgt := 10) dX12_read_33 (by decide) ?_
      exact Ex.sb (ih hf) ⟨rfl, rfl, trivial⟩
theorem cc_X12_read {l : Launch} {G : zG} {N : Nat}   {M : zMem} {r : Int32} {M1 : zMem} (hf : fX12_read N M = some (r, M1)) : Ca l G 5 mX12_read [.ref (G.2.2.1 69)] M (some (.int r)) M1 := by
  refine Ca.of (by decide +kernel) (Nat.le_of_ble_eq_true rfl) rfl ?_
  rw [fX12_read] at hf
  refine x_aload_n dX12_read_0 rfl rfl ?_
  refine x_aload_n dX12_read_1 rfl rfl ?_
  refine x_getI dX12_read_2 fl_X12_216 rfl rfl ?_
  obtain ⟨M1, eM1, hf⟩ := zletE hf
  refine x_putI dX12_read_5 fp_X12_223 rfl rfl rfl rfl eM1 ?_
  refine x_iconst (v := 0) dX12_read_8 (by decide) ?_
  refine x_istore_n dX12_read_9 rfl (Nat.le_of_ble_eq_true rfl) rfl ?_
  exact Ex.sb (cc_X12_read_L10  hf) ⟨rfl, rfl, trivial⟩
theorem cc_X12_place {l : Launch} {G : zG}   {M : zMem} {r : Int32} {M1 : zMem} (hf : fX12_place M = some (r, M1)) : Ca l G 0 mX12_place [.ref (G.2.2.1 69)] M (some (.int r)) M1 := by
  refine Ca.of (by decide +kernel) (Nat.le_of_ble_eq_true rfl) rfl ?_
  rw [fX12_place] at hf
  refine x_aload_n dX12_place_0 rfl rfl ?_
  refine x_getI dX12_place_1 fl_X12_37 rfl rfl ?_
  exact x_iret rfl dX12_place_4 (zretI hf)
theorem cc_X12_isVolunteer {l : Launch} {G : zG} {x1 : Int32}  {M : zMem} {r : Int32} {M1 : zMem} (hf : fX12_isVolunteer x1 M = some (r, M1)) : Ca l G 0 mX12_isVolunteer [.ref (G.2.2.1 69), .int x1] M (some (.int r)) M1 := by
  refine Ca.of (by decide +kernel) (Nat.le_of_ble_eq_true rfl) rfl ?_
  rw [fX12_isVolunteer] at hf
  refine x_iload_n dX12_isVolunteer_0 rfl rfl ?_
  refine x_if_lt (tgt := 16) dX12_isVolunteer_1 (by decide) (fun c1 => ?_) (fun c1 => ?_)
  · replace hf := zif_t c1 hf
    refine x_iconst (v := 0) dX12_isVolunteer_16 (by decide) ?_
    exact x_zret rfl rfl dX12_isVolunteer_17 (zretI hf)
  · replace hf := zif_f c1 hf
    refine x_iload_n dX12_isVolunteer_4 rfl rfl ?_
    refine x_aload_n dX12_isVolunteer_5 rfl rfl ?_
    refine x_getI dX12_isVolunteer_6 fl_X12_318 rfl rfl ?_
    refine x_icmp_ge (tgt := 16) dX12_isVolunteer_9 (by decide) (fun c9 => ?_) (fun c9 => ?_)
    · replace hf := zif_t c9 hf
      refine x_iconst (v := 0) dX12_isVolunteer_16 (by decide) ?_
      exact x_zret rfl rfl dX12_isVolunteer_17 (zretI hf)
    · replace hf := zif_f c9 hf
      refine x_iconst (v := 1) dX12_isVolunteer_12 (by decide) ?_
      refine x_goto (tgt := 17) dX12_isVolunteer_13 (by decide) ?_
      exact x_zret rfl rfl dX12_isVolunteer_17 (zretI hf)
theorem cc_X12_isNight {l : Launch} {G : zG} {x0 : Int32}  {M : zMem} {r : Int32} {M1 : zMem} (hf : fX12_isNight x0 M = some (r, M1)) : Ca l G 0 mX12_isNight [.int x0] M (some (.int r)) M1 := by
  refine Ca.of (by decide +kernel) (Nat.le_of_ble_eq_true rfl) rfl ?_
  rw [fX12_isNight] at hf
  refine x_iload_n dX12_isNight_0 rfl rfl ?_
  refine x_if_lt (tgt := 15) dX12_isNight_1 (by decide) (fun c1 => ?_) (fun c1 => ?_)
  · replace hf := zif_t c1 hf
    refine x_iconst (v := 0) dX12_isNight_15 (by decide) ?_
    exact x_zret rfl rfl dX12_isNight_16 (zretI hf)
  · replace hf := zif_f c1 hf
    refine x_iload_n dX12_isNight_4 rfl rfl ?_
    refine x_sipush (v := 200) dX12_isNight_5 (by decide) ?_
    refine x_icmp_ge (tgt := 15) dX12_isNight_8 (by decide) (fun c8 => ?_) (fun c8 => ?_)
    · replace hf := zif_t c8 hf
      refine x_iconst (v := 0) dX12_isNight_15 (by decide) ?_
      exact x_zret rfl rfl dX12_isNight_16 (zretI hf)
    · replace hf := zif_f c8 hf
      refine x_iconst (v := 1) dX12_isNight_11 (by decide) ?_
      refine x_goto (tgt := 16) dX12_isNight_12 (by decide) ?_
      exact x_zret rfl rfl dX12_isNight_16 (zretI hf)
theorem cc_X12_volunteer {l : Launch} {G : zG} {x1 : Int32}  {M : zMem} {r : Int32} {M1 : zMem} (hf : fX12_volunteer x1 M = some (r, M1)) : Ca l G 0 mX12_volunteer [.ref (G.2.2.1 69), .int x1] M (some (.int r)) M1 := by
  refine Ca.of (by decide +kernel) (Nat.le_of_ble_eq_true rfl) rfl ?_
  rw [fX12_volunteer] at hf
  refine x_aload_n dX12_volunteer_0 rfl rfl ?_
  refine x_getI dX12_volunteer_1 fl_X12_318 rfl rfl ?_
  refine x_bipush (v := 8) dX12_volunteer_4 (by decide) ?_
  refine x_icmp_eq (tgt := 18) dX12_volunteer_6 (by decide) (fun c6 => ?_) (fun c6 => ?_)
  · replace hf := zif_t c6 hf
    refine x_iconst (v := -1) dX12_volunteer_18 (by decide) ?_
    exact x_iret rfl dX12_volunteer_19 (zretI hf)
  · replace hf := zif_f c6 hf
    refine x_iload_n dX12_volunteer_9 rfl rfl ?_
    refine x_if_lt (tgt := 18) dX12_volunteer_10 (by decide) (fun c10 => ?_) (fun c10 => ?_)
    · replace hf := zif_t c10 hf
      refine x_iconst (v := -1) dX12_volunteer_18 (by decide) ?_
      exact x_iret rfl dX12_volunteer_19 (zretI hf)
    · replace hf := zif_f c10 hf
      refine x_iload_n dX12_volunteer_13 rfl rfl ?_
      refine x_iconst (v := 3) dX12_volunteer_14 (by decide) ?_
      refine x_icmp_le (tgt := 20) dX12_volunteer_15 (by decide) (fun c15 => ?_) (fun c15 => ?_)
      · replace hf := zif_t c15 hf
        refine x_aload_n dX12_volunteer_20 rfl rfl ?_
        refine x_getS (r := 92) dX12_volunteer_21 fl_X12_85 rfl rfl ?_
        refine x_aload_n dX12_volunteer_24 rfl rfl ?_
        refine x_getI dX12_volunteer_25 fl_X12_318 rfl rfl ?_
        refine x_iload_n dX12_volunteer_28 rfl rfl ?_
        obtain ⟨M1, hM1, hf⟩ := zbind hf
        refine x_ist dX12_volunteer_29 rfl hM1 ?_
        refine x_aload_n dX12_volunteer_30 rfl rfl ?_
        refine x_dup dX12_volunteer_31 rfl ?_
        refine x_getI dX12_volunteer_32 fl_X12_318 rfl rfl ?_
        refine x_iconst (v := 1) dX12_volunteer_35 (by decide) ?_
        refine x_iadd dX12_volunteer_36 ?_
        obtain ⟨M2, eM2, hf⟩ := zletE hf
        refine x_putI dX12_volunteer_37 fp_X12_318 rfl rfl rfl rfl eM2 ?_
        refine x_aload_n dX12_volunteer_40 rfl rfl ?_
        refine x_getI dX12_volunteer_41 fl_X12_318 rfl rfl ?_
        refine x_iconst (v := 1) dX12_volunteer_44 (by decide) ?_
        refine x_isub dX12_volunteer_45 ?_
        exact x_iret rfl dX12_volunteer_46 (zretI hf)
      · replace hf := zif_f c15 hf
        refine x_iconst (v := -1) dX12_volunteer_18 (by decide) ?_
        exact x_iret rfl dX12_volunteer_19 (zretI hf)
theorem cc_X12_step_L26 {l : Launch} {G : zG} {x1 : Int32} {x2 : Int32} {M : zMem} {r : Int32} {M1 : zMem} (hf : fX12_step_L26 x1 x2 M = some (r, M1)) : Ex l G 0 mX12_step 26 [(0, .ref (G.2.2.1 69)), (1, .int x1), (2, .int x2)] [] M (zqI r M1) := by
  rw [fX12_step_L26] at hf
  refine x_iload_n dX12_step_26 rfl rfl ?_
  refine x_iconst (v := 1) dX12_step_27 (by decide) ?_
  refine x_icmp_lt (tgt := 38) dX12_step_28 (by decide) (fun c28 => ?_) (fun c28 => ?_)
  · replace hf := zif_t c28 hf
    refine x_iconst (v := -1) dX12_step_38 (by decide) ?_
    exact x_iret rfl dX12_step_39 (zretI hf)
  · replace hf := zif_f c28 hf
    refine x_iload_n dX12_step_31 rfl rfl ?_
    refine x_sipush (v := 200) dX12_step_32 (by decide) ?_
    refine x_icmp_le (tgt := 40) dX12_step_35 (by decide) (fun c35 => ?_) (fun c35 => ?_)
    · replace hf := zif_t c35 hf
      refine x_aload_n dX12_step_40 rfl rfl ?_
      refine x_getS (r := 93) dX12_step_41 fl_X12_88 rfl rfl ?_
      refine x_aload_n dX12_step_44 rfl rfl ?_
      refine x_getI dX12_step_45 fl_X12_321 rfl rfl ?_
      refine x_iload_n dX12_step_48 rfl rfl ?_
      obtain ⟨M1, hM1, hf⟩ := zbind hf
      refine x_ist dX12_step_49 rfl hM1 ?_
      refine x_aload_n dX12_step_50 rfl rfl ?_
      refine x_getS (r := 94) dX12_step_51 fl_X12_91 rfl rfl ?_
      refine x_aload_n dX12_step_54 rfl rfl ?_
      refine x_getI dX12_step_55 fl_X12_321 rfl rfl ?_
      refine x_iload_n dX12_step_58 rfl rfl ?_
      obtain ⟨M2, hM2, hf⟩ := zbind hf
      refine x_ist dX12_step_59 rfl hM2 ?_
      refine x_aload_n dX12_step_60 rfl rfl ?_
      refine x_dup dX12_step_61 rfl ?_
      refine x_getI dX12_step_62 fl_X12_321 rfl rfl ?_
      refine x_iconst (v := 1) dX12_step_65 (by decide) ?_
      refine x_iadd dX12_step_66 ?_
      obtain ⟨M3, eM3, hf⟩ := zletE hf
      refine x_putI dX12_step_67 fp_X12_321 rfl rfl rfl rfl eM3 ?_
      refine x_aload_n dX12_step_70 rfl rfl ?_
      refine x_getI dX12_step_71 fl_X12_321 rfl rfl ?_
      refine x_iconst (v := 1) dX12_step_74 (by decide) ?_
      refine x_isub dX12_step_75 ?_
      exact x_iret rfl dX12_step_76 (zretI hf)
    · replace hf := zif_f c35 hf
      refine x_iconst (v := -1) dX12_step_38 (by decide) ?_
      exact x_iret rfl dX12_step_39 (zretI hf)
theorem cc_X12_step {l : Launch} {G : zG} {x1 : Int32} {x2 : Int32}  {M : zMem} {r : Int32} {M1 : zMem} (hf : fX12_step x1 x2 M = some (r, M1)) : Ca l G 0 mX12_step [.ref (G.2.2.1 69), .int x1, .int x2] M (some (.int r)) M1 := by
  refine Ca.of (by decide +kernel) (Nat.le_of_ble_eq_true rfl) rfl ?_
  rw [fX12_step] at hf
  refine x_aload_n dX12_step_0 rfl rfl ?_
  refine x_getI dX12_step_1 fl_X12_321 rfl rfl ?_
  refine x_bipush (v := 8) dX12_step_4 (by decide) ?_
  refine x_icmp_eq (tgt := 38) dX12_step_6 (by decide) (fun c6 => ?_) (fun c6 => ?_)
  · replace hf := zif_t c6 hf
    refine x_iconst (v := -1) dX12_step_38 (by decide) ?_
    exact x_iret rfl dX12_step_39 (zretI hf)
  · replace hf := zif_f c6 hf
    refine x_iload_n dX12_step_9 rfl rfl ?_
    refine x_iconst (v := -1) dX12_step_10 (by decide) ?_
    refine x_icmp_eq (tgt := 26) dX12_step_11 (by decide) (fun c11 => ?_) (fun c11 => ?_)
    · replace hf := zif_t c11 hf
      exact Ex.sb (cc_X12_step_L26  hf) ⟨rfl, rfl, rfl, trivial⟩
    · replace hf := zif_f c11 hf
      refine x_iload_n dX12_step_14 rfl rfl ?_
      refine x_if_lt (tgt := 38) dX12_step_15 (by decide) (fun c15 => ?_) (fun c15 => ?_)
      · replace hf := zif_t c15 hf
        refine x_iconst (v := -1) dX12_step_38 (by decide) ?_
        exact x_iret rfl dX12_step_39 (zretI hf)
      · replace hf := zif_f c15 hf
        refine x_iload_n dX12_step_18 rfl rfl ?_
        refine x_aload_n dX12_step_19 rfl rfl ?_
        refine x_getI dX12_step_20 fl_X12_321 rfl rfl ?_
        refine x_icmp_ge (tgt := 38) dX12_step_23 (by decide) (fun c23 => ?_) (fun c23 => ?_)
        · replace hf := zif_t c23 hf
          refine x_iconst (v := -1) dX12_step_38 (by decide) ?_
          exact x_iret rfl dX12_step_39 (zretI hf)
        · replace hf := zif_f c23 hf
          exact Ex.sb (cc_X12_step_L26  hf) ⟨rfl, rfl, rfl, trivial⟩
theorem cc_X12_hasStep_L67 {l : Launch} {G : zG} {N : Nat} {k3 : Int32 → Int32 → Int32 → zMem → Option (Int32 × zMem)} {k15 : Int32 → Int32 → Int32 → Int32 → Int32 → zMem → Option (Int32 × zMem)} (hk3 : ∀ {x1 : Int32} {x3 : Int32} {x4 : Int32} {M : zMem} {r : Int32} {M1 : zMem}, k3 x1 x3 x4 M = some (r, M1) → Ex l G 0 mX12_hasStep 3 [(0, .ref (G.2.2.1 69)), (1, .int x1), (3, .int x3), (4, .int x4)] [] M (zqI r M1)) (hk15 : ∀ {x1 : Int32} {x3 : Int32} {x4 : Int32} {x5 : Int32} {x6 : Int32} {M : zMem} {r : Int32} {M1 : zMem}, k15 x1 x3 x4 x5 x6 M = some (r, M1) → Ex l G 0 mX12_hasStep 15 [(0, .ref (G.2.2.1 69)), (1, .int x1), (3, .int x3), (4, .int x4), (5, .int x5), (6, .int x6)] [] M (zqI r M1)) {x1 : Int32} {x3 : Int32} {x4 : Int32} {x6 : Int32} {s0 : Int32} {M : zMem} {r : Int32} {M1 : zMem} (hf : fX12_hasStep_L67 N k3 k15 x1 x3 x4 x6 s0 M = some (r, M1)) : Ex l G 0 mX12_hasStep 67 [(0, .ref (G.2.2.1 69)), (1, .int x1), (3, .int x3), (4, .int x4), (6, .int x6)] [.int s0] M (zqI r M1) := by
  rw [fX12_hasStep_L67] at hf
  refine x_istore dX12_hasStep_67 (Nat.le_of_ble_eq_true rfl) rfl ?_
  obtain ⟨x6_4, ex6_4, hf⟩ := zletE hf
  refine x_iinc (c0 := 1) dX12_hasStep_69 rfl (Nat.le_of_ble_eq_true rfl) (by decide) ex6_4 ?_
  refine x_goto (tgt := 15) dX12_hasStep_72 (by decide) ?_
  exact Ex.sb (hk15 hf) ⟨rfl, rfl, rfl, rfl, rfl, rfl, trivial⟩
theorem cc_X12_hasStep_L62 {l : Launch} {G : zG} {N : Nat} {k3 : Int32 → Int32 → Int32 → zMem → Option (Int32 × zMem)} {k15 : Int32 → Int32 → Int32 → Int32 → Int32 → zMem → Option (Int32 × zMem)} (hk3 : ∀ {x1 : Int32} {x3 : Int32} {x4 : Int32} {M : zMem} {r : Int32} {M1 : zMem}, k3 x1 x3 x4 M = some (r, M1) → Ex l G 0 mX12_hasStep 3 [(0, .ref (G.2.2.1 69)), (1, .int x1), (3, .int x3), (4, .int x4)] [] M (zqI r M1)) (hk15 : ∀ {x1 : Int32} {x3 : Int32} {x4 : Int32} {x5 : Int32} {x6 : Int32} {M : zMem} {r : Int32} {M1 : zMem}, k15 x1 x3 x4 x5 x6 M = some (r, M1) → Ex l G 0 mX12_hasStep 15 [(0, .ref (G.2.2.1 69)), (1, .int x1), (3, .int x3), (4, .int x4), (5, .int x5), (6, .int x6)] [] M (zqI r M1)) {x1 : Int32} {x3 : Int32} {x4 : Int32} {x6 : Int32} {M : zMem} {r : Int32} {M1 : zMem} (hf : fX12_hasStep_L62 N k3 k15 x1 x3 x4 x6 M = some (r, M1)) : Ex l G 0 mX12_hasStep 62 [(0, .ref (G.2.2.1 69)), (1, .int x1), (3, .int x3), (4, .int x4), (6, .int x6)] [] M (zqI r M1) := by
  rw [fX12_hasStep_L62] at hf
  refine x_iconst (v := 1) dX12_hasStep_62 (by decide) ?_
  refine x_goto (tgt := 67) dX12_hasStep_63 (by decide) ?_
  exact Ex.sb (cc_X12_hasStep_L67 hk3 hk15 hf) ⟨rfl, rfl, rfl, rfl, rfl, trivial⟩
theorem cc_X12_hasStep_L75 {l : Launch} {G : zG} {N : Nat} {k3 : Int32 → Int32 → Int32 → zMem → Option (Int32 × zMem)} (hk3 : ∀ {x1 : Int32} {x3 : Int32} {x4 : Int32} {M : zMem} {r : Int32} {M1 : zMem}, k3 x1 x3 x4 M = some (r, M1) → Ex l G 0 mX12_hasStep 3 [(0, .ref (G.2.2.1 69)), (1, .int x1), (3, .int x3), (4, .int x4)] [] M (zqI r M1)) {x1 : Int32} {x3 : Int32} {x4 : Int32} {x5 : Int32} {M : zMem} {r : Int32} {M1 : zMem} (hf : fX12_hasStep_L75 N k3 x1 x3 x4 x5 M = some (r, M1)) : Ex l G 0 mX12_hasStep 75 [(0, .ref (G.2.2.1 69)), (1, .int x1), (3, .int x3), (4, .int x4), (5, .int x5)] [] M (zqI r M1) := by
  rw [fX12_hasStep_L75] at hf
  refine x_iload dX12_hasStep_75 rfl ?_
  refine x_if_ne (tgt := 82) dX12_hasStep_77 (by decide) (fun c77 => ?_) (fun c77 => ?_)
  · replace hf := zif_f c77 hf
    refine x_aload_n dX12_hasStep_82 rfl rfl ?_
    refine x_getS (r := 93) dX12_hasStep_83 fl_X12_88 rfl rfl ?_
    refine x_iload dX12_hasStep_86 rfl ?_
    obtain ⟨v3, hv3, hf⟩ := zbind hf
    refine x_ild dX12_hasStep_88 rfl hv3 ?_
    refine x_istore dX12_hasStep_89 (Nat.le_of_ble_eq_true rfl) rfl ?_
    refine x_goto (tgt := 3) dX12_hasStep_91 (by decide) ?_
    exact Ex.sb (hk3 hf) ⟨rfl, rfl, rfl, rfl, trivial⟩
  · replace hf := zif_t c77 hf
    refine x_iconst (v := 0) dX12_hasStep_80 (by decide) ?_
    exact x_zret rfl rfl dX12_hasStep_81 (zretI hf)
theorem cc_X12_hasStep_L15 {l : Launch} {G : zG} {N : Nat} {k3 : Int32 → Int32 → Int32 → zMem → Option (Int32 × zMem)} (hk3 : ∀ {x1 : Int32} {x3 : Int32} {x4 : Int32} {M : zMem} {r : Int32} {M1 : zMem}, k3 x1 x3 x4 M = some (r, M1) → Ex l G 0 mX12_hasStep 3 [(0, .ref (G.2.2.1 69)), (1, .int x1), (3, .int x3), (4, .int x4)] [] M (zqI r M1)) : ∀ {n : Nat} {x1 : Int32} {x3 : Int32} {x4 : Int32} {x5 : Int32} {x6 : Int32} {M : zMem} {r : Int32} {M1 : zMem}, fX12_hasStep_L15 N k3 n x1 x3 x4 x5 x6 M = some (r, M1) → Ex l G 0 mX12_hasStep 15 [(0, .ref (G.2.2.1 69)), (1, .int x1), (3, .int x3), (4, .int x4), (5, .int x5), (6, .int x6)] [] M (zqI r M1) := by
  intro n
  induction n with
  | zero => intro x1 x3 x4 x5 x6 M r M1 hf; cases hf
  | succ n ih =>
    intro x1 x3 x4 x5 x6 M r M1 hf
    rw [fX12_hasStep_L15] at hf
    refine x_iload dX12_hasStep_15 rfl ?_
    refine x_aload_n dX12_hasStep_17 rfl rfl ?_
    refine x_getS (r := 94) dX12_hasStep_18 fl_X12_91 rfl rfl ?_
    refine x_iload dX12_hasStep_21 rfl ?_
    obtain ⟨v1, hv1, hf⟩ := zbind hf
    refine x_ild dX12_hasStep_23 rfl hv1 ?_
    refine x_icmp_ge (tgt := 75) dX12_hasStep_24 (by decide) (fun c24 => ?_) (fun c24 => ?_)
    · replace hf := zif_t c24 hf
      exact Ex.sb (cc_X12_hasStep_L75 hk3 hf) ⟨rfl, rfl, rfl, rfl, rfl, trivial⟩
    · replace hf := zif_f c24 hf
      refine x_iload dX12_hasStep_27 rfl ?_
      refine x_iload_n dX12_hasStep_29 rfl rfl ?_
      refine x_icmp_gt (tgt := 75) dX12_hasStep_30 (by decide) (fun c30 => ?_) (fun c30 => ?_)
      · replace hf := zif_t c30 hf
        exact Ex.sb (cc_X12_hasStep_L75 hk3 hf) ⟨rfl, rfl, rfl, rfl, rfl, trivial⟩
      · replace hf := zif_f c30 hf
        refine x_iload dX12_hasStep_33 rfl ?_
        refine x_if_ne (tgt := 62) dX12_hasStep_35 (by decide) (fun c35 => ?_) (fun c35 => ?_)
        · replace hf := zif_f c35 hf
          exact Ex.sb (cc_X12_hasStep_L62 hk3 ih hf) ⟨rfl, rfl, rfl, rfl, rfl, trivial⟩
        · replace hf := zif_t c35 hf
          refine x_aload_n dX12_hasStep_38 rfl rfl ?_
          refine x_getS (r := 95) dX12_hasStep_39 fl_X12_94 rfl rfl ?_
          refine x_sipush (v := 200) dX12_hasStep_42 (by decide) ?_
          refine x_bipush (v := 8) dX12_hasStep_45 (by decide) ?_
          refine x_iload_n dX12_hasStep_47 rfl rfl ?_
          refine x_imul dX12_hasStep_48 ?_
          refine x_iload dX12_hasStep_49 rfl ?_
          refine x_iadd dX12_hasStep_51 ?_
          refine x_imul dX12_hasStep_52 ?_
          refine x_iload_n dX12_hasStep_53 rfl rfl ?_
          refine x_iadd dX12_hasStep_54 ?_
          refine x_iload dX12_hasStep_55 rfl ?_
          refine x_isub dX12_hasStep_57 ?_
          obtain ⟨v2, hv2, hf⟩ := zbind hf
          refine x_zld dX12_hasStep_58 rfl hv2 ?_
          refine x_if_eq (tgt := 66) dX12_hasStep_59 (by decide) (fun c59 => ?_) (fun c59 => ?_)
          · replace hf := zif_t c59 hf
            refine x_iconst (v := 0) dX12_hasStep_66 (by decide) ?_
            exact Ex.sb (cc_X12_hasStep_L67 hk3 ih hf) ⟨rfl, rfl, rfl, rfl, rfl, trivial⟩
          · replace hf := zif_f c59 hf
            exact Ex.sb (cc_X12_hasStep_L62 hk3 ih hf) ⟨rfl, rfl, rfl, rfl, rfl, trivial⟩
theorem cc_X12_hasStep_L3 {l : Launch} {G : zG} {N : Nat} : ∀ {n : Nat} {x1 : Int32} {x3 : Int32} {x4 : Int32} {M : zMem} {r : Int32} {M1 : zMem}, fX12_hasStep_L3 N n x1 x3 x4 M = some (r, M1) → Ex l G 0 mX12_hasStep 3 [(0, .ref (G.2.2.1 69)), (1, .int x1), (3, .int x3), (4, .int x4)] [] M (zqI r M1) := by
  intro n
  induction n with
  | zero => intro x1 x3 x4 M r M1 hf; cases hf
  | succ n ih =>
    intro x1 x3 x4 M r M1 hf
    rw [fX12_hasStep_L3] at hf
    refine x_iload dX12_hasStep_3 rfl ?_
    refine x_iconst (v := -1) dX12_hasStep_5 (by decide) ?_
    refine x_icmp_eq (tgt := 94) dX12_hasStep_6 (by decide) (fun c6 => ?_) (fun c6 => ?_)
    · replace hf := zif_t c6 hf
      refine x_iconst (v := 1) dX12_hasStep_94 (by decide) ?_
      exact x_zret rfl rfl dX12_hasStep_95 (zretI hf)
    · replace hf := zif_f c6 hf
      refine x_iconst (v := 0) dX12_hasStep_9 (by decide) ?_
      refine x_istore dX12_hasStep_10 (Nat.le_of_ble_eq_true rfl) rfl ?_
      refine x_iconst (v := 0) dX12_hasStep_12 (by decide) ?_
      refine x_istore dX12_hasStep_13 (Nat.le_of_ble_eq_true rfl) rfl ?_
      exact Ex.sb (cc_X12_hasStep_L15 ih hf) ⟨rfl, rfl, rfl, rfl, rfl, rfl, trivial⟩
theorem cc_X12_hasStep {l : Launch} {G : zG} {N : Nat} {x1 : Int32} {x2 : Int32} {x3 : Int32}  {M : zMem} {r : Int32} {M1 : zMem} (hf : fX12_hasStep N x1 x2 x3 M = some (r, M1)) : Ca l G 0 mX12_hasStep [.ref (G.2.2.1 69), .int x1, .int x2, .int x3] M (some (.int r)) M1 := by
  refine Ca.of (by decide +kernel) (Nat.le_of_ble_eq_true rfl) rfl ?_
  rw [fX12_hasStep] at hf
  refine x_iload_n dX12_hasStep_0 rfl rfl ?_
  refine x_istore dX12_hasStep_1 (Nat.le_of_ble_eq_true rfl) rfl ?_
  exact Ex.sb (cc_X12_hasStep_L3  hf) ⟨rfl, rfl, rfl, rfl, trivial⟩
theorem cc_X12_learn_L50 {l : Launch} {G : zG} {N : Nat} {x1 : Int32} {x2 : Int32} {M : zMem} {r : Int32} {M1 : zMem} (hf : fX12_learn_L50 N x1 x2 M = some (r, M1)) : Ex l G 1 mX12_learn 50 [(0, .ref (G.2.2.1 69)), (1, .int x1), (2, .int x2)] [] M (zqI r M1) := by
  rw [fX12_learn_L50] at hf
  refine x_aload_n dX12_learn_50 rfl rfl ?_
  refine x_getS (r := 95) dX12_learn_51 fl_X12_94 rfl rfl ?_
  refine x_sipush (v := 200) dX12_learn_54 (by decide) ?_
  refine x_bipush (v := 8) dX12_learn_57 (by decide) ?_
  refine x_iload_n dX12_learn_59 rfl rfl ?_
  refine x_imul dX12_learn_60 ?_
  refine x_iload_n dX12_learn_61 rfl rfl ?_
  refine x_iadd dX12_learn_62 ?_
  refine x_imul dX12_learn_63 ?_
  refine x_aload_n dX12_learn_64 rfl rfl ?_
  refine x_getI dX12_learn_65 fl_X12_327 rfl rfl ?_
  refine x_iadd dX12_learn_68 ?_
  refine x_iconst (v := 1) dX12_learn_69 (by decide) ?_
  obtain ⟨M9, hM9, hf⟩ := zbind hf
  refine x_zst dX12_learn_70 rfl hM9 ?_
  refine x_iconst (v := 1) dX12_learn_71 (by decide) ?_
  exact x_zret rfl rfl dX12_learn_72 (zretI hf)
theorem cc_X12_learn {l : Launch} {G : zG} {N : Nat} {x1 : Int32} {x2 : Int32}  {M : zMem} {r : Int32} {M1 : zMem} (hf : fX12_learn N x1 x2 M = some (r, M1)) : Ca l G 1 mX12_learn [.ref (G.2.2.1 69), .int x1, .int x2] M (some (.int r)) M1 := by
  refine Ca.of (by decide +kernel) (Nat.le_of_ble_eq_true rfl) rfl ?_
  rw [fX12_learn] at hf
  refine x_aload_n dX12_learn_0 rfl rfl ?_
  refine x_iload_n dX12_learn_1 rfl rfl ?_
  obtain ⟨r3, M2, hq1, hf⟩ := zb2E hf
  refine x_invVi dX12_learn_2 mk_X12_isVolunteer ml_X12_324 (cc_X12_isVolunteer hq1) rfl rfl rfl (Nat.le_of_ble_eq_true rfl) rfl (Nat.le_of_ble_eq_true rfl) rfl ?_
  refine x_if_eq (tgt := 48) dX12_learn_5 (by decide) (fun c5 => ?_) (fun c5 => ?_)
  · replace hf := zif_t c5 hf
    refine x_iconst (v := 0) dX12_learn_48 (by decide) ?_
    exact x_zret rfl rfl dX12_learn_49 (zretI hf)
  · replace hf := zif_f c5 hf
    refine x_iload_n dX12_learn_8 rfl rfl ?_
    refine x_if_lt (tgt := 48) dX12_learn_9 (by decide) (fun c9 => ?_) (fun c9 => ?_)
    · replace hf := zif_t c9 hf
      refine x_iconst (v := 0) dX12_learn_48 (by decide) ?_
      exact x_zret rfl rfl dX12_learn_49 (zretI hf)
    · replace hf := zif_f c9 hf
      refine x_iload_n dX12_learn_12 rfl rfl ?_
      refine x_aload_n dX12_learn_13 rfl rfl ?_
      refine x_getI dX12_learn_14 fl_X12_321 rfl rfl ?_
      refine x_icmp_ge (tgt := 48) dX12_learn_17 (by decide) (fun c17 => ?_) (fun c17 => ?_)
      · replace hf := zif_t c17 hf
        refine x_iconst (v := 0) dX12_learn_48 (by decide) ?_
        exact x_zret rfl rfl dX12_learn_49 (zretI hf)
      · replace hf := zif_f c17 hf
        refine x_aload_n dX12_learn_20 rfl rfl ?_
        refine x_getS (r := 93) dX12_learn_21 fl_X12_88 rfl rfl ?_
        refine x_iload_n dX12_learn_24 rfl rfl ?_
        obtain ⟨v4, hv4, hf⟩ := zbind hf
        refine x_ild dX12_learn_25 rfl hv4 ?_
        refine x_iconst (v := -1) dX12_learn_26 (by decide) ?_
        refine x_icmp_eq (tgt := 50) dX12_learn_27 (by decide) (fun c27 => ?_) (fun c27 => ?_)
        · replace hf := zif_t c27 hf
          exact Ex.sb (cc_X12_learn_L50  hf) ⟨rfl, rfl, rfl, trivial⟩
        · replace hf := zif_f c27 hf
          refine x_aload_n dX12_learn_30 rfl rfl ?_
          refine x_iload_n dX12_learn_31 rfl rfl ?_
          refine x_aload_n dX12_learn_32 rfl rfl ?_
          refine x_getS (r := 93) dX12_learn_33 fl_X12_88 rfl rfl ?_
          refine x_iload_n dX12_learn_36 rfl rfl ?_
          obtain ⟨v5, hv5, hf⟩ := zbind hf
          refine x_ild dX12_learn_37 rfl hv5 ?_
          refine x_aload_n dX12_learn_38 rfl rfl ?_
          refine x_getI dX12_learn_39 fl_X12_327 rfl rfl ?_
          obtain ⟨r8, M7, hq6, hf⟩ := zb2E hf
          refine x_invVi dX12_learn_42 mk_X12_hasStep ml_X12_330 (cc_X12_hasStep hq6) rfl rfl rfl (Nat.le_of_ble_eq_true rfl) rfl (Nat.le_of_ble_eq_true rfl) rfl ?_
          refine x_if_ne (tgt := 50) dX12_learn_45 (by decide) (fun c45 => ?_) (fun c45 => ?_)
          · replace hf := zif_f c45 hf
            exact Ex.sb (cc_X12_learn_L50  hf) ⟨rfl, rfl, rfl, trivial⟩
          · replace hf := zif_t c45 hf
            refine x_iconst (v := 0) dX12_learn_48 (by decide) ?_
            exact x_zret rfl rfl dX12_learn_49 (zretI hf)
theorem cc_X12_has {l : Launch} {G : zG} {N : Nat} {x1 : Int32} {x2 : Int32} {x3 : Int32}  {M : zMem} {r : Int32} {M1 : zMem} (hf : fX12_has N x1 x2 x3 M = some (r, M1)) : Ca l G 1 mX12_has [.ref (G.2.2.1 69), .int x1, .int x2, .int x3] M (some (.int r)) M1 := by
  refine Ca.of (by decide +kernel) (Nat.le_of_ble_eq_true rfl) rfl ?_
  rw [fX12_has] at hf
  refine x_aload_n dX12_has_0 rfl rfl ?_
  refine x_iload_n dX12_has_1 rfl rfl ?_
  obtain ⟨r3, M2, hq1, hf⟩ := zb2E hf
  refine x_invVi dX12_has_2 mk_X12_isVolunteer ml_X12_324 (cc_X12_isVolunteer hq1) rfl rfl rfl (Nat.le_of_ble_eq_true rfl) rfl (Nat.le_of_ble_eq_true rfl) rfl ?_
  refine x_if_eq (tgt := 27) dX12_has_5 (by decide) (fun c5 => ?_) (fun c5 => ?_)
  · replace hf := zif_t c5 hf
    refine x_iconst (v := -1) dX12_has_27 (by decide) ?_
    exact x_iret rfl dX12_has_28 (zretI hf)
  · replace hf := zif_f c5 hf
    refine x_iload_n dX12_has_8 rfl rfl ?_
    refine x_if_lt (tgt := 27) dX12_has_9 (by decide) (fun c9 => ?_) (fun c9 => ?_)
    · replace hf := zif_t c9 hf
      refine x_iconst (v := -1) dX12_has_27 (by decide) ?_
      exact x_iret rfl dX12_has_28 (zretI hf)
    · replace hf := zif_f c9 hf
      refine x_iload_n dX12_has_12 rfl rfl ?_
      refine x_aload_n dX12_has_13 rfl rfl ?_
      refine x_getI dX12_has_14 fl_X12_321 rfl rfl ?_
      refine x_icmp_ge (tgt := 27) dX12_has_17 (by decide) (fun c17 => ?_) (fun c17 => ?_)
      · replace hf := zif_t c17 hf
        refine x_iconst (v := -1) dX12_has_27 (by decide) ?_
        exact x_iret rfl dX12_has_28 (zretI hf)
      · replace hf := zif_f c17 hf
        refine x_iload_n dX12_has_20 rfl rfl ?_
        obtain ⟨r6, M5, hq4, hf⟩ := zb2E hf
        refine x_invSi dX12_has_21 mk_X12_isNight ml_X12_334 (cc_X12_isNight hq4) (Nat.le_of_ble_eq_true rfl) rfl (Nat.le_of_ble_eq_true rfl) rfl ?_
        refine x_if_ne (tgt := 29) dX12_has_24 (by decide) (fun c24 => ?_) (fun c24 => ?_)
        · replace hf := zif_f c24 hf
          refine x_aload_n dX12_has_29 rfl rfl ?_
          refine x_iload_n dX12_has_30 rfl rfl ?_
          refine x_iload_n dX12_has_31 rfl rfl ?_
          refine x_iload_n dX12_has_32 rfl rfl ?_
          obtain ⟨r9, M8, hq7, hf⟩ := zb2E hf
          refine x_invVi dX12_has_33 mk_X12_hasStep ml_X12_330 (cc_X12_hasStep hq7) rfl rfl rfl (Nat.le_of_ble_eq_true rfl) rfl (Nat.le_of_ble_eq_true rfl) rfl ?_
          refine x_if_eq (tgt := 43) dX12_has_36 (by decide) (fun c36 => ?_) (fun c36 => ?_)
          · replace hf := zif_t c36 hf
            refine x_iconst (v := 0) dX12_has_43 (by decide) ?_
            exact x_iret rfl dX12_has_44 (zretI hf)
          · replace hf := zif_f c36 hf
            refine x_iconst (v := 1) dX12_has_39 (by decide) ?_
            refine x_goto (tgt := 44) dX12_has_40 (by decide) ?_
            exact x_iret rfl dX12_has_44 (zretI hf)
        · replace hf := zif_t c24 hf
          refine x_iconst (v := -1) dX12_has_27 (by decide) ?_
          exact x_iret rfl dX12_has_28 (zretI hf)
theorem cc_X12_isBarred {l : Launch} {G : zG} {x1 : Int32} {x2 : Int32} {x3 : Int32}  {M : zMem} {r : Int32} {M1 : zMem} (hf : fX12_isBarred x1 x2 x3 M = some (r, M1)) : Ca l G 0 mX12_isBarred [.ref (G.2.2.1 69), .int x1, .int x2, .int x3] M (some (.int r)) M1 := by
  refine Ca.of (by decide +kernel) (Nat.le_of_ble_eq_true rfl) rfl ?_
  rw [fX12_isBarred] at hf
  refine x_aload_n dX12_isBarred_0 rfl rfl ?_
  refine x_getS (r := 96) dX12_isBarred_1 fl_X12_98 rfl rfl ?_
  refine x_bipush (v := 8) dX12_isBarred_4 (by decide) ?_
  refine x_iload_n dX12_isBarred_6 rfl rfl ?_
  refine x_imul dX12_isBarred_7 ?_
  refine x_iload_n dX12_isBarred_8 rfl rfl ?_
  refine x_iadd dX12_isBarred_9 ?_
  obtain ⟨v1, hv1, hf⟩ := zbind hf
  refine x_ild dX12_isBarred_10 rfl hv1 ?_
  refine x_istore dX12_isBarred_11 (Nat.le_of_ble_eq_true rfl) rfl ?_
  refine x_iload dX12_isBarred_13 rfl ?_
  refine x_if_le (tgt := 30) dX12_isBarred_15 (by decide) (fun c15 => ?_) (fun c15 => ?_)
  · replace hf := zif_t c15 hf
    refine x_iconst (v := 0) dX12_isBarred_30 (by decide) ?_
    exact x_zret rfl rfl dX12_isBarred_31 (zretI hf)
  · replace hf := zif_f c15 hf
    refine x_iload dX12_isBarred_18 rfl ?_
    refine x_iconst (v := 1) dX12_isBarred_20 (by decide) ?_
    refine x_isub dX12_isBarred_21 ?_
    refine x_iload_n dX12_isBarred_22 rfl rfl ?_
    refine x_icmp_gt (tgt := 30) dX12_isBarred_23 (by decide) (fun c23 => ?_) (fun c23 => ?_)
    · replace hf := zif_t c23 hf
      refine x_iconst (v := 0) dX12_isBarred_30 (by decide) ?_
      exact x_zret rfl rfl dX12_isBarred_31 (zretI hf)
    · replace hf := zif_f c23 hf
      refine x_iconst (v := 1) dX12_isBarred_26 (by decide) ?_
      refine x_goto (tgt := 31) dX12_isBarred_27 (by decide) ?_
      exact x_zret rfl rfl dX12_isBarred_31 (zretI hf)
theorem cc_X12_bar {l : Launch} {G : zG} {x1 : Int32} {x2 : Int32}  {M : zMem} {r : Int32} {M1 : zMem} (hf : fX12_bar x1 x2 M = some (r, M1)) : Ca l G 1 mX12_bar [.ref (G.2.2.1 69), .int x1, .int x2] M (some (.int r)) M1 := by
  refine Ca.of (by decide +kernel) (Nat.le_of_ble_eq_true rfl) rfl ?_
  rw [fX12_bar] at hf
  refine x_iload_n dX12_bar_0 rfl rfl ?_
  refine x_if_lt (tgt := 32) dX12_bar_1 (by decide) (fun c1 => ?_) (fun c1 => ?_)
  · replace hf := zif_t c1 hf
    refine x_iconst (v := 0) dX12_bar_32 (by decide) ?_
    exact x_zret rfl rfl dX12_bar_33 (zretI hf)
  · replace hf := zif_f c1 hf
    refine x_iload_n dX12_bar_4 rfl rfl ?_
    refine x_bipush (v := 19) dX12_bar_5 (by decide) ?_
    refine x_icmp_gt (tgt := 32) dX12_bar_7 (by decide) (fun c7 => ?_) (fun c7 => ?_)
    · replace hf := zif_t c7 hf
      refine x_iconst (v := 0) dX12_bar_32 (by decide) ?_
      exact x_zret rfl rfl dX12_bar_33 (zretI hf)
    · replace hf := zif_f c7 hf
      refine x_aload_n dX12_bar_10 rfl rfl ?_
      refine x_iload_n dX12_bar_11 rfl rfl ?_
      obtain ⟨r3, M2, hq1, hf⟩ := zb2E hf
      refine x_invVi dX12_bar_12 mk_X12_isVolunteer ml_X12_324 (cc_X12_isVolunteer hq1) rfl rfl rfl (Nat.le_of_ble_eq_true rfl) rfl (Nat.le_of_ble_eq_true rfl) rfl ?_
      refine x_if_eq (tgt := 32) dX12_bar_15 (by decide) (fun c15 => ?_) (fun c15 => ?_)
      · replace hf := zif_t c15 hf
        refine x_iconst (v := 0) dX12_bar_32 (by decide) ?_
        exact x_zret rfl rfl dX12_bar_33 (zretI hf)
      · replace hf := zif_f c15 hf
        refine x_aload_n dX12_bar_18 rfl rfl ?_
        refine x_getS (r := 96) dX12_bar_19 fl_X12_98 rfl rfl ?_
        refine x_bipush (v := 8) dX12_bar_22 (by decide) ?_
        refine x_iload_n dX12_bar_24 rfl rfl ?_
        refine x_imul dX12_bar_25 ?_
        refine x_iload_n dX12_bar_26 rfl rfl ?_
        refine x_iadd dX12_bar_27 ?_
        obtain ⟨v4, hv4, hf⟩ := zbind hf
        refine x_ild dX12_bar_28 rfl hv4 ?_
        refine x_if_le (tgt := 34) dX12_bar_29 (by decide) (fun c29 => ?_) (fun c29 => ?_)
        · replace hf := zif_t c29 hf
          refine x_aload_n dX12_bar_34 rfl rfl ?_
          refine x_getS (r := 96) dX12_bar_35 fl_X12_98 rfl rfl ?_
          refine x_bipush (v := 8) dX12_bar_38 (by decide) ?_
          refine x_iload_n dX12_bar_40 rfl rfl ?_
          refine x_imul dX12_bar_41 ?_
          refine x_iload_n dX12_bar_42 rfl rfl ?_
          refine x_iadd dX12_bar_43 ?_
          refine x_aload_n dX12_bar_44 rfl rfl ?_
          refine x_getI dX12_bar_45 fl_X12_327 rfl rfl ?_
          refine x_iconst (v := 1) dX12_bar_48 (by decide) ?_
          refine x_iadd dX12_bar_49 ?_
          obtain ⟨M5, hM5, hf⟩ := zbind hf
          refine x_ist dX12_bar_50 rfl hM5 ?_
          refine x_iconst (v := 1) dX12_bar_51 (by decide) ?_
          exact x_zret rfl rfl dX12_bar_52 (zretI hf)
        · replace hf := zif_f c29 hf
          refine x_iconst (v := 0) dX12_bar_32 (by decide) ?_
          exact x_zret rfl rfl dX12_bar_33 (zretI hf)
theorem cc_X12_isDue_L7 {l : Launch} {G : zG} {N : Nat} : ∀ {n : Nat} {x1 : Int32} {x2 : Int32} {M : zMem} {r : Int32} {M1 : zMem}, fX12_isDue_L7 N n x1 x2 M = some (r, M1) → Ex l G 0 mX12_isDue 7 [(0, .ref (G.2.2.1 69)), (1, .int x1), (2, .int x2)] [] M (zqI r M1) := by
  intro n
  induction n with
  | zero => intro x1 x2 M r M1 hf; cases hf
  | succ n ih =>
    intro x1 x2 M r M1 hf
    rw [fX12_isDue_L7] at hf
    refine x_iload_n dX12_isDue_7 rfl rfl ?_
    refine x_aload_n dX12_isDue_8 rfl rfl ?_
    refine x_getI dX12_isDue_9 fl_X12_327 rfl rfl ?_
    refine x_icmp_ge (tgt := 38) dX12_isDue_12 (by decide) (fun c12 => ?_) (fun c12 => ?_)
    · replace hf := zif_t c12 hf
      refine x_iconst (v := 0) dX12_isDue_38 (by decide) ?_
      exact x_zret rfl rfl dX12_isDue_39 (zretI hf)
    · replace hf := zif_f c12 hf
      refine x_aload_n dX12_isDue_15 rfl rfl ?_
      refine x_getS (r := 97) dX12_isDue_16 fl_X12_101 rfl rfl ?_
      refine x_sipush (v := 200) dX12_isDue_19 (by decide) ?_
      refine x_iload_n dX12_isDue_22 rfl rfl ?_
      refine x_imul dX12_isDue_23 ?_
      refine x_iload_n dX12_isDue_24 rfl rfl ?_
      refine x_iadd dX12_isDue_25 ?_
      obtain ⟨v2, hv2, hf⟩ := zbind hf
      refine x_zld dX12_isDue_26 rfl hv2 ?_
      refine x_if_eq (tgt := 32) dX12_isDue_27 (by decide) (fun c27 => ?_) (fun c27 => ?_)
      · replace hf := zif_t c27 hf
        obtain ⟨x2_3, ex2_3, hf⟩ := zletE hf
        refine x_iinc (c0 := 1) dX12_isDue_32 rfl (Nat.le_of_ble_eq_true rfl) (by decide) ex2_3 ?_
        refine x_goto (tgt := 7) dX12_isDue_35 (by decide) ?_
        exact Ex.sb (ih hf) ⟨rfl, rfl, rfl, trivial⟩
      · replace hf := zif_f c27 hf
        refine x_iconst (v := 1) dX12_isDue_30 (by decide) ?_
        exact x_zret rfl rfl dX12_isDue_31 (zretI hf)
theorem cc_X12_isDue {l : Launch} {G : zG} {N : Nat} {x1 : Int32}  {M : zMem} {r : Int32} {M1 : zMem} (hf : fX12_isDue N x1 M = some (r, M1)) : Ca l G 0 mX12_isDue [.ref (G.2.2.1 69), .int x1] M (some (.int r)) M1 := by
  refine Ca.of (by decide +kernel) (Nat.le_of_ble_eq_true rfl) rfl ?_
  rw [fX12_isDue] at hf
  refine x_aload_n dX12_isDue_0 rfl rfl ?_
  refine x_getS (r := 98) dX12_isDue_1 fl_X12_104 rfl rfl ?_
  refine x_iload_n dX12_isDue_4 rfl rfl ?_
  obtain ⟨v1, hv1, hf⟩ := zbind hf
  refine x_ild dX12_isDue_5 rfl hv1 ?_
  refine x_istore_n dX12_isDue_6 rfl (Nat.le_of_ble_eq_true rfl) rfl ?_
  exact Ex.sb (cc_X12_isDue_L7  hf) ⟨rfl, rfl, rfl, trivial⟩
theorem cc_X12_care {l : Launch} {G : zG} {N : Nat} {x1 : Int32}  {M : zMem} {r : Int32} {M1 : zMem} (hf : fX12_care N x1 M = some (r, M1)) : Ca l G 1 mX12_care [.ref (G.2.2.1 69), .int x1] M (some (.int r)) M1 := by
  refine Ca.of (by decide +kernel) (Nat.le_of_ble_eq_true rfl) rfl ?_
  rw [fX12_care] at hf
  refine x_aload_n dX12_care_0 rfl rfl ?_
  refine x_iload_n dX12_care_1 rfl rfl ?_
  obtain ⟨r3, M2, hq1, hf⟩ := zb2E hf
  refine x_invVi dX12_care_2 mk_X12_isVolunteer ml_X12_324 (cc_X12_isVolunteer hq1) rfl rfl rfl (Nat.le_of_ble_eq_true rfl) rfl (Nat.le_of_ble_eq_true rfl) rfl ?_
  refine x_if_eq (tgt := 16) dX12_care_5 (by decide) (fun c5 => ?_) (fun c5 => ?_)
  · replace hf := zif_t c5 hf
    refine x_iconst (v := 0) dX12_care_16 (by decide) ?_
    exact x_zret rfl rfl dX12_care_17 (zretI hf)
  · replace hf := zif_f c5 hf
    refine x_aload_n dX12_care_8 rfl rfl ?_
    refine x_iload_n dX12_care_9 rfl rfl ?_
    obtain ⟨r6, M5, hq4, hf⟩ := zb2E hf
    refine x_invVi dX12_care_10 mk_X12_isDue ml_X12_337 (cc_X12_isDue hq4) rfl rfl rfl (Nat.le_of_ble_eq_true rfl) rfl (Nat.le_of_ble_eq_true rfl) rfl ?_
    refine x_if_ne (tgt := 18) dX12_care_13 (by decide) (fun c13 => ?_) (fun c13 => ?_)
    · replace hf := zif_f c13 hf
      refine x_aload_n dX12_care_18 rfl rfl ?_
      refine x_getS (r := 98) dX12_care_19 fl_X12_104 rfl rfl ?_
      refine x_iload_n dX12_care_22 rfl rfl ?_
      refine x_aload_n dX12_care_23 rfl rfl ?_
      refine x_getI dX12_care_24 fl_X12_327 rfl rfl ?_
      obtain ⟨M7, hM7, hf⟩ := zbind hf
      refine x_ist dX12_care_27 rfl hM7 ?_
      refine x_iconst (v := 1) dX12_care_28 (by decide) ?_
      exact x_zret rfl rfl dX12_care_29 (zretI hf)
    · replace hf := zif_t c13 hf
      refine x_iconst (v := 0) dX12_care_16 (by decide) ?_
      exact x_zret rfl rfl dX12_care_17 (zretI hf)
theorem cc_X12_due {l : Launch} {G : zG} {N : Nat} {x1 : Int32}  {M : zMem} {r : Int32} {M1 : zMem} (hf : fX12_due N x1 M = some (r, M1)) : Ca l G 1 mX12_due [.ref (G.2.2.1 69), .int x1] M (some (.int r)) M1 := by
  refine Ca.of (by decide +kernel) (Nat.le_of_ble_eq_true rfl) rfl ?_
  rw [fX12_due] at hf
  refine x_aload_n dX12_due_0 rfl rfl ?_
  refine x_iload_n dX12_due_1 rfl rfl ?_
  obtain ⟨r3, M2, hq1, hf⟩ := zb2E hf
  refine x_invVi dX12_due_2 mk_X12_isVolunteer ml_X12_324 (cc_X12_isVolunteer hq1) rfl rfl rfl (Nat.le_of_ble_eq_true rfl) rfl (Nat.le_of_ble_eq_true rfl) rfl ?_
  refine x_if_eq (tgt := 24) dX12_due_5 (by decide) (fun c5 => ?_) (fun c5 => ?_)
  · replace hf := zif_t c5 hf
    refine x_iconst (v := -1) dX12_due_24 (by decide) ?_
    exact x_iret rfl dX12_due_25 (zretI hf)
  · replace hf := zif_f c5 hf
    refine x_aload_n dX12_due_8 rfl rfl ?_
    refine x_iload_n dX12_due_9 rfl rfl ?_
    obtain ⟨r6, M5, hq4, hf⟩ := zb2E hf
    refine x_invVi dX12_due_10 mk_X12_isDue ml_X12_337 (cc_X12_isDue hq4) rfl rfl rfl (Nat.le_of_ble_eq_true rfl) rfl (Nat.le_of_ble_eq_true rfl) rfl ?_
    refine x_if_eq (tgt := 20) dX12_due_13 (by decide) (fun c13 => ?_) (fun c13 => ?_)
    · replace hf := zif_t c13 hf
      refine x_iconst (v := 0) dX12_due_20 (by decide) ?_
      refine x_goto (tgt := 25) dX12_due_21 (by decide) ?_
      exact x_iret rfl dX12_due_25 (zretI hf)
    · replace hf := zif_f c13 hf
      refine x_iconst (v := 1) dX12_due_16 (by decide) ?_
      refine x_goto (tgt := 25) dX12_due_17 (by decide) ?_
      exact x_iret rfl dX12_due_25 (zretI hf)
theorem cc_X12_clock {l : Launch} {G : zG} {x1 : Int32}  {M : zMem} {r : Int32} {M1 : zMem} (hf : fX12_clock x1 M = some (r, M1)) : Ca l G 0 mX12_clock [.ref (G.2.2.1 69), .int x1] M (some (.int r)) M1 := by
  refine Ca.of (by decide +kernel) (Nat.le_of_ble_eq_true rfl) rfl ?_
  rw [fX12_clock] at hf
  refine x_iload_n dX12_clock_0 rfl rfl ?_
  refine x_aload_n dX12_clock_1 rfl rfl ?_
  refine x_getI dX12_clock_2 fl_X12_327 rfl rfl ?_
  refine x_icmp_lt (tgt := 15) dX12_clock_5 (by decide) (fun c5 => ?_) (fun c5 => ?_)
  · replace hf := zif_t c5 hf
    refine x_iconst (v := 0) dX12_clock_15 (by decide) ?_
    exact x_zret rfl rfl dX12_clock_16 (zretI hf)
  · replace hf := zif_f c5 hf
    refine x_iload_n dX12_clock_8 rfl rfl ?_
    refine x_sipush (v := 199) dX12_clock_9 (by decide) ?_
    refine x_icmp_le (tgt := 17) dX12_clock_12 (by decide) (fun c12 => ?_) (fun c12 => ?_)
    · replace hf := zif_t c12 hf
      refine x_aload_n dX12_clock_17 rfl rfl ?_
      refine x_iload_n dX12_clock_18 rfl rfl ?_
      obtain ⟨M1, eM1, hf⟩ := zletE hf
      refine x_putI dX12_clock_19 fp_X12_327 rfl rfl rfl rfl eM1 ?_
      refine x_iconst (v := 1) dX12_clock_22 (by decide) ?_
      exact x_zret rfl rfl dX12_clock_23 (zretI hf)
    · replace hf := zif_f c12 hf
      refine x_iconst (v := 0) dX12_clock_15 (by decide) ?_
      exact x_zret rfl rfl dX12_clock_16 (zretI hf)
theorem cc_X12_holiday {l : Launch} {G : zG} {x1 : Int32}  {M : zMem} {r : Int32} {M1 : zMem} (hf : fX12_holiday x1 M = some (r, M1)) : Ca l G 1 mX12_holiday [.ref (G.2.2.1 69), .int x1] M (some (.int r)) M1 := by
  refine Ca.of (by decide +kernel) (Nat.le_of_ble_eq_true rfl) rfl ?_
  rw [fX12_holiday] at hf
  refine x_iload_n dX12_holiday_0 rfl rfl ?_
  obtain ⟨r3, M2, hq1, hf⟩ := zb2E hf
  refine x_invSi dX12_holiday_1 mk_X12_isNight ml_X12_334 (cc_X12_isNight hq1) (Nat.le_of_ble_eq_true rfl) rfl (Nat.le_of_ble_eq_true rfl) rfl ?_
  refine x_if_eq (tgt := 25) dX12_holiday_4 (by decide) (fun c4 => ?_) (fun c4 => ?_)
  · replace hf := zif_t c4 hf
    refine x_iconst (v := 0) dX12_holiday_25 (by decide) ?_
    exact x_zret rfl rfl dX12_holiday_26 (zretI hf)
  · replace hf := zif_f c4 hf
    refine x_aload_n dX12_holiday_7 rfl rfl ?_
    refine x_getS (r := 99) dX12_holiday_8 fl_X12_107 rfl rfl ?_
    refine x_iload_n dX12_holiday_11 rfl rfl ?_
    obtain ⟨v4, hv4, hf⟩ := zbind hf
    refine x_zld dX12_holiday_12 rfl hv4 ?_
    refine x_if_ne (tgt := 25) dX12_holiday_13 (by decide) (fun c13 => ?_) (fun c13 => ?_)
    · replace hf := zif_f c13 hf
      refine x_iconst (v := 0) dX12_holiday_25 (by decide) ?_
      exact x_zret rfl rfl dX12_holiday_26 (zretI hf)
    · replace hf := zif_t c13 hf
      refine x_aload_n dX12_holiday_16 rfl rfl ?_
      refine x_getS (r := 100) dX12_holiday_17 fl_X12_110 rfl rfl ?_
      refine x_iload_n dX12_holiday_20 rfl rfl ?_
      obtain ⟨v5, hv5, hf⟩ := zbind hf
      refine x_zld dX12_holiday_21 rfl hv5 ?_
      refine x_if_eq (tgt := 27) dX12_holiday_22 (by decide) (fun c22 => ?_) (fun c22 => ?_)
      · replace hf := zif_t c22 hf
        refine x_aload_n dX12_holiday_27 rfl rfl ?_
        refine x_getS (r := 99) dX12_holiday_28 fl_X12_107 rfl rfl ?_
        refine x_iload_n dX12_holiday_31 rfl rfl ?_
        refine x_iconst (v := 1) dX12_holiday_32 (by decide) ?_
        obtain ⟨M6, hM6, hf⟩ := zbind hf
        refine x_zst dX12_holiday_33 rfl hM6 ?_
        refine x_iconst (v := 1) dX12_holiday_34 (by decide) ?_
        exact x_zret rfl rfl dX12_holiday_35 (zretI hf)
      · replace hf := zif_f c22 hf
        refine x_iconst (v := 0) dX12_holiday_25 (by decide) ?_
        exact x_zret rfl rfl dX12_holiday_26 (zretI hf)
theorem cc_X12_offer_L76 {l : Launch} {G : zG} {N : Nat} : ∀ {n : Nat} {x1 : Int32} {x2 : Int32} {x3 : Int32} {x4 : Int32} {M : zMem} {r : Int32} {M1 : zMem}, fX12_offer_L76 N n x1 x2 x3 x4 M = some (r, M1) → Ex l G 1 mX12_offer 76 [(0, .ref (G.2.2.1 69)), (1, .int x1), (2, .int x2), (3, .int x3), (4, .int x4)] [] M (zqI r M1) := by
  intro n
  induction n with
  | zero => intro x1 x2 x3 x4 M r M1 hf; cases hf
  | succ n ih =>
    intro x1 x2 x3 x4 M r M1 hf
    rw [fX12_offer_L76] at hf
    refine x_iload dX12_offer_76 rfl ?_
    refine x_iconst (v := 5) dX12_offer_78 (by decide) ?_
    refine x_aload_n dX12_offer_79 rfl rfl ?_
    refine x_getI dX12_offer_80 fl_X12_327 rfl rfl ?_
    refine x_imul dX12_offer_83 ?_
    refine x_aload_n dX12_offer_84 rfl rfl ?_
    refine x_getS (r := 102) dX12_offer_85 fl_X12_116 rfl rfl ?_
    refine x_aload_n dX12_offer_88 rfl rfl ?_
    refine x_getI dX12_offer_89 fl_X12_327 rfl rfl ?_
    obtain ⟨v8, hv8, hf⟩ := zbind hf
    refine x_ild dX12_offer_92 rfl hv8 ?_
    refine x_iadd dX12_offer_93 ?_
    refine x_icmp_ge (tgt := 116) dX12_offer_94 (by decide) (fun c94 => ?_) (fun c94 => ?_)
    · replace hf := zif_t c94 hf
      refine x_iconst (v := 5) dX12_offer_116 (by decide) ?_
      refine x_aload_n dX12_offer_117 rfl rfl ?_
      refine x_getI dX12_offer_118 fl_X12_327 rfl rfl ?_
      refine x_imul dX12_offer_121 ?_
      refine x_aload_n dX12_offer_122 rfl rfl ?_
      refine x_getS (r := 102) dX12_offer_123 fl_X12_116 rfl rfl ?_
      refine x_aload_n dX12_offer_126 rfl rfl ?_
      refine x_getI dX12_offer_127 fl_X12_327 rfl rfl ?_
      obtain ⟨v9, hv9, hf⟩ := zbind hf
      refine x_ild dX12_offer_130 rfl hv9 ?_
      refine x_iadd dX12_offer_131 ?_
      obtain ⟨x4_10, ex4_10, hf⟩ := zletE hf
      refine x_istore dX12_offer_132 (Nat.le_of_ble_eq_true rfl) ex4_10 ?_
      refine x_aload_n dX12_offer_134 rfl rfl ?_
      refine x_getS (r := 103) dX12_offer_135 fl_X12_119 rfl rfl ?_
      refine x_iload dX12_offer_138 rfl ?_
      refine x_iload_n dX12_offer_140 rfl rfl ?_
      obtain ⟨M11, hM11, hf⟩ := zbind hf
      refine x_ist dX12_offer_141 rfl hM11 ?_
      refine x_aload_n dX12_offer_142 rfl rfl ?_
      refine x_getS (r := 104) dX12_offer_143 fl_X12_122 rfl rfl ?_
      refine x_iload dX12_offer_146 rfl ?_
      refine x_iload_n dX12_offer_148 rfl rfl ?_
      obtain ⟨M12, hM12, hf⟩ := zbind hf
      refine x_ist dX12_offer_149 rfl hM12 ?_
      refine x_aload_n dX12_offer_150 rfl rfl ?_
      refine x_getS (r := 105) dX12_offer_151 fl_X12_125 rfl rfl ?_
      refine x_iload dX12_offer_154 rfl ?_
      refine x_iload_n dX12_offer_156 rfl rfl ?_
      obtain ⟨M13, hM13, hf⟩ := zbind hf
      refine x_ist dX12_offer_157 rfl hM13 ?_
      refine x_aload_n dX12_offer_158 rfl rfl ?_
      refine x_getS (r := 102) dX12_offer_159 fl_X12_116 rfl rfl ?_
      refine x_aload_n dX12_offer_162 rfl rfl ?_
      refine x_getI dX12_offer_163 fl_X12_327 rfl rfl ?_
      refine x_dup2 dX12_offer_166 rfl rfl ?_
      obtain ⟨v14, hv14, hf⟩ := zbind hf
      refine x_ild dX12_offer_167 rfl hv14 ?_
      refine x_iconst (v := 1) dX12_offer_168 (by decide) ?_
      refine x_iadd dX12_offer_169 ?_
      obtain ⟨M15, hM15, hf⟩ := zbind hf
      refine x_ist dX12_offer_170 rfl hM15 ?_
      refine x_aload_n dX12_offer_171 rfl rfl ?_
      refine x_getS (r := 102) dX12_offer_172 fl_X12_116 rfl rfl ?_
      refine x_aload_n dX12_offer_175 rfl rfl ?_
      refine x_getI dX12_offer_176 fl_X12_327 rfl rfl ?_
      obtain ⟨v16, hv16, hf⟩ := zbind hf
      refine x_ild dX12_offer_179 rfl hv16 ?_
      refine x_iconst (v := 1) dX12_offer_180 (by decide) ?_
      refine x_isub dX12_offer_181 ?_
      exact x_iret rfl dX12_offer_182 (zretI hf)
    · replace hf := zif_f c94 hf
      refine x_aload_n dX12_offer_97 rfl rfl ?_
      refine x_getS (r := 103) dX12_offer_98 fl_X12_119 rfl rfl ?_
      refine x_iload dX12_offer_101 rfl ?_
      obtain ⟨v17, hv17, hf⟩ := zbind hf
      refine x_ild dX12_offer_103 rfl hv17 ?_
      refine x_iload_n dX12_offer_104 rfl rfl ?_
      refine x_icmp_ne (tgt := 110) dX12_offer_105 (by decide) (fun c105 => ?_) (fun c105 => ?_)
      · replace hf := zif_f c105 hf
        obtain ⟨x4_18, ex4_18, hf⟩ := zletE hf
        refine x_iinc (c0 := 1) dX12_offer_110 rfl (Nat.le_of_ble_eq_true rfl) (by decide) ex4_18 ?_
        refine x_goto (tgt := 76) dX12_offer_113 (by decide) ?_
        exact Ex.sb (ih hf) ⟨rfl, rfl, rfl, rfl, rfl, trivial⟩
      · replace hf := zif_t c105 hf
        refine x_iconst (v := -1) dX12_offer_108 (by decide) ?_
        exact x_iret rfl dX12_offer_109 (zretI hf)
theorem cc_X12_offer {l : Launch} {G : zG} {N : Nat} {x1 : Int32} {x2 : Int32} {x3 : Int32}  {M : zMem} {r : Int32} {M1 : zMem} (hf : fX12_offer N x1 x2 x3 M = some (r, M1)) : Ca l G 1 mX12_offer [.ref (G.2.2.1 69), .int x1, .int x2, .int x3] M (some (.int r)) M1 := by
  refine Ca.of (by decide +kernel) (Nat.le_of_ble_eq_true rfl) rfl ?_
  rw [fX12_offer] at hf
  refine x_aload_n dX12_offer_0 rfl rfl ?_
  refine x_iload_n dX12_offer_1 rfl rfl ?_
  obtain ⟨r3, M2, hq1, hf⟩ := zb2E hf
  refine x_invVi dX12_offer_2 mk_X12_isVolunteer ml_X12_324 (cc_X12_isVolunteer hq1) rfl rfl rfl (Nat.le_of_ble_eq_true rfl) rfl (Nat.le_of_ble_eq_true rfl) rfl ?_
  refine x_if_eq (tgt := 66) dX12_offer_5 (by decide) (fun c5 => ?_) (fun c5 => ?_)
  · replace hf := zif_t c5 hf
    refine x_iconst (v := -1) dX12_offer_66 (by decide) ?_
    exact x_iret rfl dX12_offer_67 (zretI hf)
  · replace hf := zif_f c5 hf
    refine x_iload_n dX12_offer_8 rfl rfl ?_
    refine x_iconst (v := 1) dX12_offer_9 (by decide) ?_
    refine x_icmp_lt (tgt := 66) dX12_offer_10 (by decide) (fun c10 => ?_) (fun c10 => ?_)
    · replace hf := zif_t c10 hf
      refine x_iconst (v := -1) dX12_offer_66 (by decide) ?_
      exact x_iret rfl dX12_offer_67 (zretI hf)
    · replace hf := zif_f c10 hf
      refine x_iload_n dX12_offer_13 rfl rfl ?_
      refine x_bipush (v := 63) dX12_offer_14 (by decide) ?_
      refine x_icmp_gt (tgt := 66) dX12_offer_16 (by decide) (fun c16 => ?_) (fun c16 => ?_)
      · replace hf := zif_t c16 hf
        refine x_iconst (v := -1) dX12_offer_66 (by decide) ?_
        exact x_iret rfl dX12_offer_67 (zretI hf)
      · replace hf := zif_f c16 hf
        refine x_iload_n dX12_offer_19 rfl rfl ?_
        refine x_iconst (v := 1) dX12_offer_20 (by decide) ?_
        refine x_icmp_lt (tgt := 66) dX12_offer_21 (by decide) (fun c21 => ?_) (fun c21 => ?_)
        · replace hf := zif_t c21 hf
          refine x_iconst (v := -1) dX12_offer_66 (by decide) ?_
          exact x_iret rfl dX12_offer_67 (zretI hf)
        · replace hf := zif_f c21 hf
          refine x_iload_n dX12_offer_24 rfl rfl ?_
          refine x_iconst (v := 3) dX12_offer_25 (by decide) ?_
          refine x_icmp_gt (tgt := 66) dX12_offer_26 (by decide) (fun c26 => ?_) (fun c26 => ?_)
          · replace hf := zif_t c26 hf
            refine x_iconst (v := -1) dX12_offer_66 (by decide) ?_
            exact x_iret rfl dX12_offer_67 (zretI hf)
          · replace hf := zif_f c26 hf
            refine x_aload_n dX12_offer_29 rfl rfl ?_
            refine x_getS (r := 101) dX12_offer_30 fl_X12_113 rfl rfl ?_
            refine x_aload_n dX12_offer_33 rfl rfl ?_
            refine x_getI dX12_offer_34 fl_X12_327 rfl rfl ?_
            obtain ⟨v4, hv4, hf⟩ := zbind hf
            refine x_zld dX12_offer_37 rfl hv4 ?_
            refine x_if_ne (tgt := 66) dX12_offer_38 (by decide) (fun c38 => ?_) (fun c38 => ?_)
            · replace hf := zif_f c38 hf
              refine x_iconst (v := -1) dX12_offer_66 (by decide) ?_
              exact x_iret rfl dX12_offer_67 (zretI hf)
            · replace hf := zif_t c38 hf
              refine x_aload_n dX12_offer_41 rfl rfl ?_
              refine x_getS (r := 100) dX12_offer_42 fl_X12_110 rfl rfl ?_
              refine x_aload_n dX12_offer_45 rfl rfl ?_
              refine x_getI dX12_offer_46 fl_X12_327 rfl rfl ?_
              obtain ⟨v5, hv5, hf⟩ := zbind hf
              refine x_zld dX12_offer_49 rfl hv5 ?_
              refine x_if_ne (tgt := 66) dX12_offer_50 (by decide) (fun c50 => ?_) (fun c50 => ?_)
              · replace hf := zif_f c50 hf
                refine x_iconst (v := -1) dX12_offer_66 (by decide) ?_
                exact x_iret rfl dX12_offer_67 (zretI hf)
              · replace hf := zif_t c50 hf
                refine x_aload_n dX12_offer_53 rfl rfl ?_
                refine x_getS (r := 102) dX12_offer_54 fl_X12_116 rfl rfl ?_
                refine x_aload_n dX12_offer_57 rfl rfl ?_
                refine x_getI dX12_offer_58 fl_X12_327 rfl rfl ?_
                obtain ⟨v6, hv6, hf⟩ := zbind hf
                refine x_ild dX12_offer_61 rfl hv6 ?_
                refine x_iconst (v := 5) dX12_offer_62 (by decide) ?_
                refine x_icmp_ne (tgt := 68) dX12_offer_63 (by decide) (fun c63 => ?_) (fun c63 => ?_)
                · replace hf := zif_f c63 hf
                  refine x_iconst (v := 5) dX12_offer_68 (by decide) ?_
                  refine x_aload_n dX12_offer_69 rfl rfl ?_
                  refine x_getI dX12_offer_70 fl_X12_327 rfl rfl ?_
                  refine x_imul dX12_offer_73 ?_
                  obtain ⟨x4_7, ex4_7, hf⟩ := zletE hf
                  refine x_istore dX12_offer_74 (Nat.le_of_ble_eq_true rfl) ex4_7 ?_
                  exact Ex.sb (cc_X12_offer_L76  hf) ⟨rfl, rfl, rfl, rfl, rfl, trivial⟩
                · replace hf := zif_t c63 hf
                  refine x_iconst (v := -1) dX12_offer_66 (by decide) ?_
                  exact x_iret rfl dX12_offer_67 (zretI hf)
