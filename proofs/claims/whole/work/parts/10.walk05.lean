theorem cc_X12_see {l : Launch} {G : zG} {x1 : Int32} {x2 : Int32} {x3 : Int32}  {M : zMem} {r : Int32} {M1 : zMem} (hf : fX12_see x1 x2 x3 M = some (r, M1)) : Ca l G 1 mX12_see [.ref (G.2.2.1 69), .int x1, .int x2, .int x3] M (some (.int r)) M1 := by
  refine Ca.of (by decide +kernel) (Nat.le_of_ble_eq_true rfl) rfl ?_
  rw [fX12_see] at hf
  refine x_aload_n dX12_see_0 rfl rfl ?_
  refine x_iload_n dX12_see_1 rfl rfl ?_
  obtain ⟨r3, M2, hq1, hf⟩ := zb2E hf
  refine x_invVi dX12_see_2 mk_X12_isVolunteer ml_X12_324 (cc_X12_isVolunteer hq1) rfl rfl rfl (Nat.le_of_ble_eq_true rfl) rfl (Nat.le_of_ble_eq_true rfl) rfl ?_
  refine x_if_eq (tgt := 27) dX12_see_5 (by decide) (fun c5 => ?_) (fun c5 => ?_)
  · replace hf := zif_t c5 hf
    refine x_iconst (v := -1) dX12_see_27 (by decide) ?_
    exact x_iret rfl dX12_see_28 (zretI hf)
  · replace hf := zif_f c5 hf
    refine x_iload_n dX12_see_8 rfl rfl ?_
    refine x_if_lt (tgt := 27) dX12_see_9 (by decide) (fun c9 => ?_) (fun c9 => ?_)
    · replace hf := zif_t c9 hf
      refine x_iconst (v := -1) dX12_see_27 (by decide) ?_
      exact x_iret rfl dX12_see_28 (zretI hf)
    · replace hf := zif_f c9 hf
      refine x_iload_n dX12_see_12 rfl rfl ?_
      refine x_aload_n dX12_see_13 rfl rfl ?_
      refine x_getI dX12_see_14 fl_X12_388 rfl rfl ?_
      refine x_icmp_ge (tgt := 27) dX12_see_17 (by decide) (fun c17 => ?_) (fun c17 => ?_)
      · replace hf := zif_t c17 hf
        refine x_iconst (v := -1) dX12_see_27 (by decide) ?_
        exact x_iret rfl dX12_see_28 (zretI hf)
      · replace hf := zif_f c17 hf
        refine x_iload_n dX12_see_20 rfl rfl ?_
        obtain ⟨r6, M5, hq4, hf⟩ := zb2E hf
        refine x_invSi dX12_see_21 mk_X12_isNight ml_X12_334 (cc_X12_isNight hq4) (Nat.le_of_ble_eq_true rfl) rfl (Nat.le_of_ble_eq_true rfl) rfl ?_
        refine x_if_ne (tgt := 29) dX12_see_24 (by decide) (fun c24 => ?_) (fun c24 => ?_)
        · replace hf := zif_f c24 hf
          refine x_iload_n dX12_see_29 rfl rfl ?_
          refine x_aload_n dX12_see_30 rfl rfl ?_
          refine x_getS (r := 133) dX12_see_31 fl_X12_209 rfl rfl ?_
          refine x_iload_n dX12_see_34 rfl rfl ?_
          obtain ⟨v7, hv7, hf⟩ := zbind hf
          refine x_ild dX12_see_35 rfl hv7 ?_
          refine x_icmp_ge (tgt := 41) dX12_see_36 (by decide) (fun c36 => ?_) (fun c36 => ?_)
          · replace hf := zif_t c36 hf
            refine x_aload_n dX12_see_41 rfl rfl ?_
            refine x_getS (r := 131) dX12_see_42 fl_X12_203 rfl rfl ?_
            refine x_iload_n dX12_see_45 rfl rfl ?_
            obtain ⟨v8, hv8, hf⟩ := zbind hf
            refine x_ild dX12_see_46 rfl hv8 ?_
            refine x_istore dX12_see_47 (Nat.le_of_ble_eq_true rfl) rfl ?_
            refine x_aload_n dX12_see_49 rfl rfl ?_
            refine x_getS (r := 119) dX12_see_50 fl_X12_167 rfl rfl ?_
            refine x_iload dX12_see_53 rfl ?_
            obtain ⟨v9, hv9, hf⟩ := zbind hf
            refine x_ild dX12_see_55 rfl hv9 ?_
            refine x_iload_n dX12_see_56 rfl rfl ?_
            refine x_icmp_ne (tgt := 62) dX12_see_57 (by decide) (fun c57 => ?_) (fun c57 => ?_)
            · replace hf := zif_f c57 hf
              refine x_aload_n dX12_see_62 rfl rfl ?_
              refine x_getS (r := 92) dX12_see_63 fl_X12_85 rfl rfl ?_
              refine x_iload_n dX12_see_66 rfl rfl ?_
              obtain ⟨v10, hv10, hf⟩ := zbind hf
              refine x_ild dX12_see_67 rfl hv10 ?_
              refine x_aload_n dX12_see_68 rfl rfl ?_
              refine x_getS (r := 132) dX12_see_69 fl_X12_206 rfl rfl ?_
              refine x_iload_n dX12_see_72 rfl rfl ?_
              obtain ⟨v11, hv11, hf⟩ := zbind hf
              refine x_ild dX12_see_73 rfl hv11 ?_
              refine x_icmp_lt (tgt := 97) dX12_see_74 (by decide) (fun c74 => ?_) (fun c74 => ?_)
              · replace hf := zif_t c74 hf
                refine x_iconst (v := 0) dX12_see_97 (by decide) ?_
                exact x_iret rfl dX12_see_98 (zretI hf)
              · replace hf := zif_f c74 hf
                refine x_aload_n dX12_see_77 rfl rfl ?_
                refine x_aload_n dX12_see_78 rfl rfl ?_
                refine x_getS (r := 114) dX12_see_79 fl_X12_152 rfl rfl ?_
                refine x_iload dX12_see_82 rfl ?_
                obtain ⟨v12, hv12, hf⟩ := zbind hf
                refine x_ild dX12_see_84 rfl hv12 ?_
                refine x_iload_n dX12_see_85 rfl rfl ?_
                refine x_iload_n dX12_see_86 rfl rfl ?_
                obtain ⟨r15, M14, hq13, hf⟩ := zb2E hf
                refine x_invVi dX12_see_87 mk_X12_isBarred ml_X12_363 (cc_X12_isBarred hq13) rfl rfl rfl (Nat.le_of_ble_eq_true rfl) rfl (Nat.le_of_ble_eq_true rfl) rfl ?_
                refine x_if_ne (tgt := 97) dX12_see_90 (by decide) (fun c90 => ?_) (fun c90 => ?_)
                · replace hf := zif_f c90 hf
                  refine x_iconst (v := 0) dX12_see_97 (by decide) ?_
                  exact x_iret rfl dX12_see_98 (zretI hf)
                · replace hf := zif_t c90 hf
                  refine x_iconst (v := 1) dX12_see_93 (by decide) ?_
                  refine x_goto (tgt := 98) dX12_see_94 (by decide) ?_
                  exact x_iret rfl dX12_see_98 (zretI hf)
            · replace hf := zif_t c57 hf
              refine x_iconst (v := 1) dX12_see_60 (by decide) ?_
              exact x_iret rfl dX12_see_61 (zretI hf)
          · replace hf := zif_f c36 hf
            refine x_iconst (v := 0) dX12_see_39 (by decide) ?_
            exact x_iret rfl dX12_see_40 (zretI hf)
        · replace hf := zif_t c24 hf
          refine x_iconst (v := -1) dX12_see_27 (by decide) ?_
          exact x_iret rfl dX12_see_28 (zretI hf)
theorem cc_X12_foretold_L136 {l : Launch} {G : zG} {N : Nat} {k26 : Int32 → Int32 → Int32 → Int32 → Int32 → zMem → Option (Int32 × zMem)} (hk26 : ∀ {x1 : Int32} {x2 : Int32} {x3 : Int32} {x4 : Int32} {x5 : Int32} {M : zMem} {r : Int32} {M1 : zMem}, k26 x1 x2 x3 x4 x5 M = some (r, M1) → Ex l G 1 mX12_foretold 26 [(0, .ref (G.2.2.1 69)), (1, .int x1), (2, .int x2), (3, .int x3), (4, .int x4), (5, .int x5)] [] M (zqI r M1)) {x1 : Int32} {x2 : Int32} {x3 : Int32} {x4 : Int32} {x5 : Int32} {M : zMem} {r : Int32} {M1 : zMem} (hf : fX12_foretold_L136 N k26 x1 x2 x3 x4 x5 M = some (r, M1)) : Ex l G 1 mX12_foretold 136 [(0, .ref (G.2.2.1 69)), (1, .int x1), (2, .int x2), (3, .int x3), (4, .int x4), (5, .int x5)] [] M (zqI r M1) := by
  rw [fX12_foretold_L136] at hf
  obtain ⟨x5_8, ex5_8, hf⟩ := zletE hf
  refine x_iinc (c0 := 1) dX12_foretold_136 rfl (Nat.le_of_ble_eq_true rfl) (by decide) ex5_8 ?_
  refine x_goto (tgt := 26) dX12_foretold_139 (by decide) ?_
  exact Ex.sb (hk26 hf) ⟨rfl, rfl, rfl, rfl, rfl, rfl, trivial⟩
theorem cc_X12_foretold_L130 {l : Launch} {G : zG} {N : Nat} {k26 : Int32 → Int32 → Int32 → Int32 → Int32 → zMem → Option (Int32 × zMem)} {k92 : Int32 → Int32 → Int32 → Int32 → Int32 → Int32 → zMem → Option (Int32 × zMem)} (hk26 : ∀ {x1 : Int32} {x2 : Int32} {x3 : Int32} {x4 : Int32} {x5 : Int32} {M : zMem} {r : Int32} {M1 : zMem}, k26 x1 x2 x3 x4 x5 M = some (r, M1) → Ex l G 1 mX12_foretold 26 [(0, .ref (G.2.2.1 69)), (1, .int x1), (2, .int x2), (3, .int x3), (4, .int x4), (5, .int x5)] [] M (zqI r M1)) (hk92 : ∀ {x1 : Int32} {x2 : Int32} {x3 : Int32} {x4 : Int32} {x5 : Int32} {x6 : Int32} {M : zMem} {r : Int32} {M1 : zMem}, k92 x1 x2 x3 x4 x5 x6 M = some (r, M1) → Ex l G 1 mX12_foretold 92 [(0, .ref (G.2.2.1 69)), (1, .int x1), (2, .int x2), (3, .int x3), (4, .int x4), (5, .int x5), (6, .int x6)] [] M (zqI r M1)) {x1 : Int32} {x2 : Int32} {x3 : Int32} {x4 : Int32} {x5 : Int32} {x6 : Int32} {M : zMem} {r : Int32} {M1 : zMem} (hf : fX12_foretold_L130 N k26 k92 x1 x2 x3 x4 x5 x6 M = some (r, M1)) : Ex l G 1 mX12_foretold 130 [(0, .ref (G.2.2.1 69)), (1, .int x1), (2, .int x2), (3, .int x3), (4, .int x4), (5, .int x5), (6, .int x6)] [] M (zqI r M1) := by
  rw [fX12_foretold_L130] at hf
  obtain ⟨x6_13, ex6_13, hf⟩ := zletE hf
  refine x_iinc (c0 := 1) dX12_foretold_130 rfl (Nat.le_of_ble_eq_true rfl) (by decide) ex6_13 ?_
  refine x_goto (tgt := 92) dX12_foretold_133 (by decide) ?_
  exact Ex.sb (hk92 hf) ⟨rfl, rfl, rfl, rfl, rfl, rfl, rfl, trivial⟩
theorem cc_X12_foretold_L92 {l : Launch} {G : zG} {N : Nat} {k26 : Int32 → Int32 → Int32 → Int32 → Int32 → zMem → Option (Int32 × zMem)} (hk26 : ∀ {x1 : Int32} {x2 : Int32} {x3 : Int32} {x4 : Int32} {x5 : Int32} {M : zMem} {r : Int32} {M1 : zMem}, k26 x1 x2 x3 x4 x5 M = some (r, M1) → Ex l G 1 mX12_foretold 26 [(0, .ref (G.2.2.1 69)), (1, .int x1), (2, .int x2), (3, .int x3), (4, .int x4), (5, .int x5)] [] M (zqI r M1)) : ∀ {n : Nat} {x1 : Int32} {x2 : Int32} {x3 : Int32} {x4 : Int32} {x5 : Int32} {x6 : Int32} {M : zMem} {r : Int32} {M1 : zMem}, fX12_foretold_L92 N k26 n x1 x2 x3 x4 x5 x6 M = some (r, M1) → Ex l G 1 mX12_foretold 92 [(0, .ref (G.2.2.1 69)), (1, .int x1), (2, .int x2), (3, .int x3), (4, .int x4), (5, .int x5), (6, .int x6)] [] M (zqI r M1) := by
  intro n
  induction n with
  | zero => intro x1 x2 x3 x4 x5 x6 M r M1 hf; cases hf
  | succ n ih =>
    intro x1 x2 x3 x4 x5 x6 M r M1 hf
    rw [fX12_foretold_L92] at hf
    refine x_iload dX12_foretold_92 rfl ?_
    refine x_aload_n dX12_foretold_94 rfl rfl ?_
    refine x_getI dX12_foretold_95 fl_X12_350 rfl rfl ?_
    refine x_icmp_ge (tgt := 136) dX12_foretold_98 (by decide) (fun c98 => ?_) (fun c98 => ?_)
    · replace hf := zif_t c98 hf
      exact Ex.sb (cc_X12_foretold_L136 hk26 hf) ⟨rfl, rfl, rfl, rfl, rfl, rfl, trivial⟩
    · replace hf := zif_f c98 hf
      refine x_aload_n dX12_foretold_101 rfl rfl ?_
      refine x_getS (r := 112) dX12_foretold_102 fl_X12_146 rfl rfl ?_
      refine x_iload dX12_foretold_105 rfl ?_
      obtain ⟨v10, hv10, hf⟩ := zbind hf
      refine x_ild dX12_foretold_107 rfl hv10 ?_
      refine x_iload dX12_foretold_108 rfl ?_
      refine x_icmp_ne (tgt := 130) dX12_foretold_110 (by decide) (fun c110 => ?_) (fun c110 => ?_)
      · replace hf := zif_f c110 hf
        exact Ex.sb (cc_X12_foretold_L130 hk26 ih hf) ⟨rfl, rfl, rfl, rfl, rfl, rfl, rfl, trivial⟩
      · replace hf := zif_t c110 hf
        refine x_aload_n dX12_foretold_113 rfl rfl ?_
        refine x_getS (r := 113) dX12_foretold_114 fl_X12_149 rfl rfl ?_
        refine x_iload dX12_foretold_117 rfl ?_
        obtain ⟨v11, hv11, hf⟩ := zbind hf
        refine x_ild dX12_foretold_119 rfl hv11 ?_
        refine x_bipush (v := 60) dX12_foretold_120 (by decide) ?_
        refine x_idiv dX12_foretold_122 (by decide) ?_
        refine x_iload_n dX12_foretold_123 rfl rfl ?_
        refine x_icmp_ne (tgt := 130) dX12_foretold_124 (by decide) (fun c124 => ?_) (fun c124 => ?_)
        · replace hf := zif_f c124 hf
          exact Ex.sb (cc_X12_foretold_L130 hk26 ih hf) ⟨rfl, rfl, rfl, rfl, rfl, rfl, rfl, trivial⟩
        · replace hf := zif_t c124 hf
          obtain ⟨x4_12, ex4_12, hf⟩ := zletE hf
          refine x_iinc (c0 := 1) dX12_foretold_127 rfl (Nat.le_of_ble_eq_true rfl) (by decide) ex4_12 ?_
          exact Ex.sb (cc_X12_foretold_L130 hk26 ih hf) ⟨rfl, rfl, rfl, rfl, rfl, rfl, rfl, trivial⟩
theorem cc_X12_foretold_L86 {l : Launch} {G : zG} {N : Nat} {k26 : Int32 → Int32 → Int32 → Int32 → Int32 → zMem → Option (Int32 × zMem)} (hk26 : ∀ {x1 : Int32} {x2 : Int32} {x3 : Int32} {x4 : Int32} {x5 : Int32} {M : zMem} {r : Int32} {M1 : zMem}, k26 x1 x2 x3 x4 x5 M = some (r, M1) → Ex l G 1 mX12_foretold 26 [(0, .ref (G.2.2.1 69)), (1, .int x1), (2, .int x2), (3, .int x3), (4, .int x4), (5, .int x5)] [] M (zqI r M1)) {x1 : Int32} {x2 : Int32} {x3 : Int32} {x4 : Int32} {x5 : Int32} {M : zMem} {r : Int32} {M1 : zMem} (hf : fX12_foretold_L86 N k26 x1 x2 x3 x4 x5 M = some (r, M1)) : Ex l G 1 mX12_foretold 86 [(0, .ref (G.2.2.1 69)), (1, .int x1), (2, .int x2), (3, .int x3), (4, .int x4), (5, .int x5)] [] M (zqI r M1) := by
  rw [fX12_foretold_L86] at hf
  obtain ⟨x3_9, ex3_9, hf⟩ := zletE hf
  refine x_iinc (c0 := 1) dX12_foretold_86 rfl (Nat.le_of_ble_eq_true rfl) (by decide) ex3_9 ?_
  refine x_iconst (v := 0) dX12_foretold_89 (by decide) ?_
  refine x_istore dX12_foretold_90 (Nat.le_of_ble_eq_true rfl) rfl ?_
  exact Ex.sb (cc_X12_foretold_L92 hk26 hf) ⟨rfl, rfl, rfl, rfl, rfl, rfl, rfl, trivial⟩
theorem cc_X12_foretold_L26 {l : Launch} {G : zG} {N : Nat} : ∀ {n : Nat} {x1 : Int32} {x2 : Int32} {x3 : Int32} {x4 : Int32} {x5 : Int32} {M : zMem} {r : Int32} {M1 : zMem}, fX12_foretold_L26 N n x1 x2 x3 x4 x5 M = some (r, M1) → Ex l G 1 mX12_foretold 26 [(0, .ref (G.2.2.1 69)), (1, .int x1), (2, .int x2), (3, .int x3), (4, .int x4), (5, .int x5)] [] M (zqI r M1) := by
  intro n
  induction n with
  | zero => intro x1 x2 x3 x4 x5 M r M1 hf; cases hf
  | succ n ih =>
    intro x1 x2 x3 x4 x5 M r M1 hf
    rw [fX12_foretold_L26] at hf
    refine x_iload dX12_foretold_26 rfl ?_
    refine x_aload_n dX12_foretold_28 rfl rfl ?_
    refine x_getI dX12_foretold_29 fl_X12_327 rfl rfl ?_
    refine x_icmp_ge (tgt := 142) dX12_foretold_32 (by decide) (fun c32 => ?_) (fun c32 => ?_)
    · replace hf := zif_t c32 hf
      refine x_iload_n dX12_foretold_142 rfl rfl ?_
      refine x_if_ne (tgt := 150) dX12_foretold_143 (by decide) (fun c143 => ?_) (fun c143 => ?_)
      · replace hf := zif_f c143 hf
        refine x_bipush (v := 100) dX12_foretold_150 (by decide) ?_
        refine x_iload dX12_foretold_152 rfl ?_
        refine x_imul dX12_foretold_154 ?_
        refine x_iload_n dX12_foretold_155 rfl rfl ?_
        obtain ⟨hb156, hf⟩ := zgd hf
        refine x_idiv dX12_foretold_156 hb156 ?_
        exact x_iret rfl dX12_foretold_157 (zretI hf)
      · replace hf := zif_t c143 hf
        refine x_iconst (v := -1) dX12_foretold_146 (by decide) ?_
        refine x_goto (tgt := 157) dX12_foretold_147 (by decide) ?_
        exact x_iret rfl dX12_foretold_157 (zretI hf)
    · replace hf := zif_f c32 hf
      refine x_aload_n dX12_foretold_35 rfl rfl ?_
      refine x_getS (r := 100) dX12_foretold_36 fl_X12_110 rfl rfl ?_
      refine x_iload dX12_foretold_39 rfl ?_
      obtain ⟨v4, hv4, hf⟩ := zbind hf
      refine x_zld dX12_foretold_41 rfl hv4 ?_
      refine x_if_eq (tgt := 136) dX12_foretold_42 (by decide) (fun c42 => ?_) (fun c42 => ?_)
      · replace hf := zif_t c42 hf
        exact Ex.sb (cc_X12_foretold_L136 ih hf) ⟨rfl, rfl, rfl, rfl, rfl, rfl, trivial⟩
      · replace hf := zif_f c42 hf
        refine x_aload_n dX12_foretold_45 rfl rfl ?_
        refine x_getS (r := 99) dX12_foretold_46 fl_X12_107 rfl rfl ?_
        refine x_iload dX12_foretold_49 rfl ?_
        obtain ⟨v5, hv5, hf⟩ := zbind hf
        refine x_zld dX12_foretold_51 rfl hv5 ?_
        refine x_aload_n dX12_foretold_52 rfl rfl ?_
        refine x_getS (r := 99) dX12_foretold_53 fl_X12_107 rfl rfl ?_
        refine x_iload_n dX12_foretold_56 rfl rfl ?_
        obtain ⟨v6, hv6, hf⟩ := zbind hf
        refine x_zld dX12_foretold_57 rfl hv6 ?_
        refine x_icmp_ne (tgt := 136) dX12_foretold_58 (by decide) (fun c58 => ?_) (fun c58 => ?_)
        · replace hf := zif_f c58 hf
          exact Ex.sb (cc_X12_foretold_L136 ih hf) ⟨rfl, rfl, rfl, rfl, rfl, rfl, trivial⟩
        · replace hf := zif_t c58 hf
          refine x_aload_n dX12_foretold_61 rfl rfl ?_
          refine x_getS (r := 99) dX12_foretold_62 fl_X12_107 rfl rfl ?_
          refine x_iload dX12_foretold_65 rfl ?_
          obtain ⟨v7, hv7, hf⟩ := zbind hf
          refine x_zld dX12_foretold_67 rfl hv7 ?_
          refine x_if_ne (tgt := 86) dX12_foretold_68 (by decide) (fun c68 => ?_) (fun c68 => ?_)
          · replace hf := zif_f c68 hf
            exact Ex.sb (cc_X12_foretold_L86 ih hf) ⟨rfl, rfl, rfl, rfl, rfl, rfl, trivial⟩
          · replace hf := zif_t c68 hf
            refine x_iload dX12_foretold_71 rfl ?_
            refine x_bipush (v := 7) dX12_foretold_73 (by decide) ?_
            refine x_irem dX12_foretold_75 (by decide) ?_
            refine x_iload_n dX12_foretold_76 rfl rfl ?_
            refine x_bipush (v := 7) dX12_foretold_77 (by decide) ?_
            refine x_irem dX12_foretold_79 (by decide) ?_
            refine x_icmp_eq (tgt := 86) dX12_foretold_80 (by decide) (fun c80 => ?_) (fun c80 => ?_)
            · replace hf := zif_t c80 hf
              exact Ex.sb (cc_X12_foretold_L86 ih hf) ⟨rfl, rfl, rfl, rfl, rfl, rfl, trivial⟩
            · replace hf := zif_f c80 hf
              refine x_goto (tgt := 136) dX12_foretold_83 (by decide) ?_
              exact Ex.sb (cc_X12_foretold_L136 ih hf) ⟨rfl, rfl, rfl, rfl, rfl, rfl, trivial⟩
theorem cc_X12_foretold {l : Launch} {G : zG} {N : Nat} {x1 : Int32} {x2 : Int32}  {M : zMem} {r : Int32} {M1 : zMem} (hf : fX12_foretold N x1 x2 M = some (r, M1)) : Ca l G 1 mX12_foretold [.ref (G.2.2.1 69), .int x1, .int x2] M (some (.int r)) M1 := by
  refine Ca.of (by decide +kernel) (Nat.le_of_ble_eq_true rfl) rfl ?_
  rw [fX12_foretold] at hf
  refine x_iload_n dX12_foretold_0 rfl rfl ?_
  refine x_if_lt (tgt := 16) dX12_foretold_1 (by decide) (fun c1 => ?_) (fun c1 => ?_)
  · replace hf := zif_t c1 hf
    refine x_iconst (v := -1) dX12_foretold_16 (by decide) ?_
    exact x_iret rfl dX12_foretold_17 (zretI hf)
  · replace hf := zif_f c1 hf
    refine x_iload_n dX12_foretold_4 rfl rfl ?_
    refine x_iconst (v := 5) dX12_foretold_5 (by decide) ?_
    refine x_icmp_gt (tgt := 16) dX12_foretold_6 (by decide) (fun c6 => ?_) (fun c6 => ?_)
    · replace hf := zif_t c6 hf
      refine x_iconst (v := -1) dX12_foretold_16 (by decide) ?_
      exact x_iret rfl dX12_foretold_17 (zretI hf)
    · replace hf := zif_f c6 hf
      refine x_iload_n dX12_foretold_9 rfl rfl ?_
      obtain ⟨r3, M2, hq1, hf⟩ := zb2E hf
      refine x_invSi dX12_foretold_10 mk_X12_isNight ml_X12_334 (cc_X12_isNight hq1) (Nat.le_of_ble_eq_true rfl) rfl (Nat.le_of_ble_eq_true rfl) rfl ?_
      refine x_if_ne (tgt := 18) dX12_foretold_13 (by decide) (fun c13 => ?_) (fun c13 => ?_)
      · replace hf := zif_f c13 hf
        refine x_iconst (v := 0) dX12_foretold_18 (by decide) ?_
        refine x_istore_n dX12_foretold_19 rfl (Nat.le_of_ble_eq_true rfl) rfl ?_
        refine x_iconst (v := 0) dX12_foretold_20 (by decide) ?_
        refine x_istore dX12_foretold_21 (Nat.le_of_ble_eq_true rfl) rfl ?_
        refine x_iconst (v := 0) dX12_foretold_23 (by decide) ?_
        refine x_istore dX12_foretold_24 (Nat.le_of_ble_eq_true rfl) rfl ?_
        exact Ex.sb (cc_X12_foretold_L26  hf) ⟨rfl, rfl, rfl, rfl, rfl, rfl, trivial⟩
      · replace hf := zif_t c13 hf
        refine x_iconst (v := -1) dX12_foretold_16 (by decide) ?_
        exact x_iret rfl dX12_foretold_17 (zretI hf)
theorem cc_X12_how_L25 {l : Launch} {G : zG} {N : Nat} {k4 : Int32 → Int32 → Int32 → zMem → Option (Int32 × zMem)} (hk4 : ∀ {x1 : Int32} {x2 : Int32} {x3 : Int32} {M : zMem} {r : Int32} {M1 : zMem}, k4 x1 x2 x3 M = some (r, M1) → Ex l G 0 mX12_how 4 [(0, .ref (G.2.2.1 69)), (1, .int x1), (2, .int x2), (3, .int x3)] [] M (zqI r M1)) {x1 : Int32} {x2 : Int32} {x3 : Int32} {M : zMem} {r : Int32} {M1 : zMem} (hf : fX12_how_L25 N k4 x1 x2 x3 M = some (r, M1)) : Ex l G 0 mX12_how 25 [(0, .ref (G.2.2.1 69)), (1, .int x1), (2, .int x2), (3, .int x3)] [] M (zqI r M1) := by
  rw [fX12_how_L25] at hf
  obtain ⟨x3_3, ex3_3, hf⟩ := zletE hf
  refine x_iinc (c0 := 1) dX12_how_25 rfl (Nat.le_of_ble_eq_true rfl) (by decide) ex3_3 ?_
  refine x_goto (tgt := 4) dX12_how_28 (by decide) ?_
  exact Ex.sb (hk4 hf) ⟨rfl, rfl, rfl, rfl, trivial⟩
theorem cc_X12_how_L4 {l : Launch} {G : zG} {N : Nat} : ∀ {n : Nat} {x1 : Int32} {x2 : Int32} {x3 : Int32} {M : zMem} {r : Int32} {M1 : zMem}, fX12_how_L4 N n x1 x2 x3 M = some (r, M1) → Ex l G 0 mX12_how 4 [(0, .ref (G.2.2.1 69)), (1, .int x1), (2, .int x2), (3, .int x3)] [] M (zqI r M1) := by
  intro n
  induction n with
  | zero => intro x1 x2 x3 M r M1 hf; cases hf
  | succ n ih =>
    intro x1 x2 x3 M r M1 hf
    rw [fX12_how_L4] at hf
    refine x_iload_n dX12_how_4 rfl rfl ?_
    refine x_aload_n dX12_how_5 rfl rfl ?_
    refine x_getI dX12_how_6 fl_X12_350 rfl rfl ?_
    refine x_icmp_ge (tgt := 31) dX12_how_9 (by decide) (fun c9 => ?_) (fun c9 => ?_)
    · replace hf := zif_t c9 hf
      refine x_iload_n dX12_how_31 rfl rfl ?_
      exact x_iret rfl dX12_how_32 (zretI hf)
    · replace hf := zif_f c9 hf
      refine x_aload_n dX12_how_12 rfl rfl ?_
      refine x_getS (r := 118) dX12_how_13 fl_X12_164 rfl rfl ?_
      refine x_iload_n dX12_how_16 rfl rfl ?_
      obtain ⟨v1, hv1, hf⟩ := zbind hf
      refine x_ild dX12_how_17 rfl hv1 ?_
      refine x_iload_n dX12_how_18 rfl rfl ?_
      refine x_icmp_ne (tgt := 25) dX12_how_19 (by decide) (fun c19 => ?_) (fun c19 => ?_)
      · replace hf := zif_f c19 hf
        exact Ex.sb (cc_X12_how_L25 ih hf) ⟨rfl, rfl, rfl, rfl, trivial⟩
      · replace hf := zif_t c19 hf
        obtain ⟨x2_2, ex2_2, hf⟩ := zletE hf
        refine x_iinc (c0 := 1) dX12_how_22 rfl (Nat.le_of_ble_eq_true rfl) (by decide) ex2_2 ?_
        exact Ex.sb (cc_X12_how_L25 ih hf) ⟨rfl, rfl, rfl, rfl, trivial⟩
theorem cc_X12_how {l : Launch} {G : zG} {N : Nat} {x1 : Int32}  {M : zMem} {r : Int32} {M1 : zMem} (hf : fX12_how N x1 M = some (r, M1)) : Ca l G 0 mX12_how [.ref (G.2.2.1 69), .int x1] M (some (.int r)) M1 := by
  refine Ca.of (by decide +kernel) (Nat.le_of_ble_eq_true rfl) rfl ?_
  rw [fX12_how] at hf
  refine x_iconst (v := 0) dX12_how_0 (by decide) ?_
  refine x_istore_n dX12_how_1 rfl (Nat.le_of_ble_eq_true rfl) rfl ?_
  refine x_iconst (v := 0) dX12_how_2 (by decide) ?_
  refine x_istore_n dX12_how_3 rfl (Nat.le_of_ble_eq_true rfl) rfl ?_
  exact Ex.sb (cc_X12_how_L4  hf) ⟨rfl, rfl, rfl, rfl, trivial⟩
theorem cc_X12_count {l : Launch} {G : zG} {N : Nat} {x1 : Int32}  {M : zMem} {r : Int32} {M1 : zMem} (hf : fX12_count N x1 M = some (r, M1)) : Ca l G 1 mX12_count [.ref (G.2.2.1 69), .int x1] M (some (.int r)) M1 := by
  refine Ca.of (by decide +kernel) (Nat.le_of_ble_eq_true rfl) rfl ?_
  rw [fX12_count] at hf
  refine x_iload_n dX12_count_0 rfl rfl ?_
  by_cases c1_0 : x1 = (0 : Int32)
  · replace hf := zif_t c1_0 hf
    refine x_tableIn (tgt := 60) (off := 59) dX12_count_1 (ztl c1_0 (by decide)) (ztu c1_0 (by decide)) (zto c1_0 (by decide)) (by decide) ?_
    refine x_aload_n dX12_count_60 rfl rfl ?_
    refine x_getI dX12_count_61 fl_X12_318 rfl rfl ?_
    exact x_iret rfl dX12_count_64 (zretI hf)
  · replace hf := zif_f c1_0 hf
    by_cases c1_1 : x1 = (1 : Int32)
    · replace hf := zif_t c1_1 hf
      refine x_tableIn (tgt := 65) (off := 64) dX12_count_1 (ztl c1_1 (by decide)) (ztu c1_1 (by decide)) (zto c1_1 (by decide)) (by decide) ?_
      refine x_aload_n dX12_count_65 rfl rfl ?_
      refine x_getI dX12_count_66 fl_X12_321 rfl rfl ?_
      exact x_iret rfl dX12_count_69 (zretI hf)
    · replace hf := zif_f c1_1 hf
      by_cases c1_2 : x1 = (2 : Int32)
      · replace hf := zif_t c1_2 hf
        refine x_tableIn (tgt := 70) (off := 69) dX12_count_1 (ztl c1_2 (by decide)) (ztu c1_2 (by decide)) (zto c1_2 (by decide)) (by decide) ?_
        refine x_aload_n dX12_count_70 rfl rfl ?_
        refine x_getI dX12_count_71 fl_X12_327 rfl rfl ?_
        exact x_iret rfl dX12_count_74 (zretI hf)
      · replace hf := zif_f c1_2 hf
        by_cases c1_3 : x1 = (3 : Int32)
        · replace hf := zif_t c1_3 hf
          refine x_tableIn (tgt := 75) (off := 74) dX12_count_1 (ztl c1_3 (by decide)) (ztu c1_3 (by decide)) (zto c1_3 (by decide)) (by decide) ?_
          refine x_aload_n dX12_count_75 rfl rfl ?_
          refine x_getI dX12_count_76 fl_X12_350 rfl rfl ?_
          exact x_iret rfl dX12_count_79 (zretI hf)
        · replace hf := zif_f c1_3 hf
          by_cases c1_4 : x1 = (4 : Int32)
          · replace hf := zif_t c1_4 hf
            refine x_tableIn (tgt := 80) (off := 79) dX12_count_1 (ztl c1_4 (by decide)) (ztu c1_4 (by decide)) (zto c1_4 (by decide)) (by decide) ?_
            refine x_aload_n dX12_count_80 rfl rfl ?_
            refine x_iconst (v := 1) dX12_count_81 (by decide) ?_
            obtain ⟨r3, M2, hq1, hf⟩ := zb2E hf
            refine x_invVi dX12_count_82 mk_X12_how ml_X12_391 (cc_X12_how hq1) rfl rfl rfl (Nat.le_of_ble_eq_true rfl) rfl (Nat.le_of_ble_eq_true rfl) rfl ?_
            exact x_iret rfl dX12_count_85 (zretI hf)
          · replace hf := zif_f c1_4 hf
            by_cases c1_5 : x1 = (5 : Int32)
            · replace hf := zif_t c1_5 hf
              refine x_tableIn (tgt := 86) (off := 85) dX12_count_1 (ztl c1_5 (by decide)) (ztu c1_5 (by decide)) (zto c1_5 (by decide)) (by decide) ?_
              refine x_aload_n dX12_count_86 rfl rfl ?_
              refine x_iconst (v := 2) dX12_count_87 (by decide) ?_
              obtain ⟨r6, M5, hq4, hf⟩ := zb2E hf
              refine x_invVi dX12_count_88 mk_X12_how ml_X12_391 (cc_X12_how hq4) rfl rfl rfl (Nat.le_of_ble_eq_true rfl) rfl (Nat.le_of_ble_eq_true rfl) rfl ?_
              exact x_iret rfl dX12_count_91 (zretI hf)
            · replace hf := zif_f c1_5 hf
              by_cases c1_6 : x1 = (6 : Int32)
              · replace hf := zif_t c1_6 hf
                refine x_tableIn (tgt := 92) (off := 91) dX12_count_1 (ztl c1_6 (by decide)) (ztu c1_6 (by decide)) (zto c1_6 (by decide)) (by decide) ?_
                refine x_aload_n dX12_count_92 rfl rfl ?_
                refine x_iconst (v := 3) dX12_count_93 (by decide) ?_
                obtain ⟨r9, M8, hq7, hf⟩ := zb2E hf
                refine x_invVi dX12_count_94 mk_X12_how ml_X12_391 (cc_X12_how hq7) rfl rfl rfl (Nat.le_of_ble_eq_true rfl) rfl (Nat.le_of_ble_eq_true rfl) rfl ?_
                exact x_iret rfl dX12_count_97 (zretI hf)
              · replace hf := zif_f c1_6 hf
                by_cases c1_7 : x1 = (7 : Int32)
                · replace hf := zif_t c1_7 hf
                  refine x_tableIn (tgt := 98) (off := 97) dX12_count_1 (ztl c1_7 (by decide)) (ztu c1_7 (by decide)) (zto c1_7 (by decide)) (by decide) ?_
                  refine x_aload_n dX12_count_98 rfl rfl ?_
                  refine x_getI dX12_count_99 fl_X12_388 rfl rfl ?_
                  exact x_iret rfl dX12_count_102 (zretI hf)
                · replace hf := zif_f c1_7 hf
                  by_cases c1_8 : x1 = (8 : Int32)
                  · replace hf := zif_t c1_8 hf
                    refine x_tableIn (tgt := 103) (off := 102) dX12_count_1 (ztl c1_8 (by decide)) (ztu c1_8 (by decide)) (zto c1_8 (by decide)) (by decide) ?_
                    refine x_aload_n dX12_count_103 rfl rfl ?_
                    refine x_getS (r := 77) dX12_count_104 fl_X12_40 rfl rfl ?_
                    refine x_aload_n dX12_count_107 rfl rfl ?_
                    refine x_getI dX12_count_108 fl_X12_283 rfl rfl ?_
                    obtain ⟨v10, hv10, hf⟩ := zbind hf
                    refine x_ild dX12_count_111 rfl hv10 ?_
                    exact x_iret rfl dX12_count_112 (zretI hf)
                  · replace hf := zif_f c1_8 hf
                    by_cases c1_9 : x1 = (9 : Int32)
                    · replace hf := zif_t c1_9 hf
                      refine x_tableIn (tgt := 113) (off := 112) dX12_count_1 (ztl c1_9 (by decide)) (ztu c1_9 (by decide)) (zto c1_9 (by decide)) (by decide) ?_
                      refine x_aload_n dX12_count_113 rfl rfl ?_
                      refine x_getI dX12_count_114 fl_X12_372 rfl rfl ?_
                      exact x_iret rfl dX12_count_117 (zretI hf)
                    · replace hf := zif_f c1_9 hf
                      by_cases c1_10 : x1 = (10 : Int32)
                      · replace hf := zif_t c1_10 hf
                        refine x_tableIn (tgt := 118) (off := 117) dX12_count_1 (ztl c1_10 (by decide)) (ztu c1_10 (by decide)) (zto c1_10 (by decide)) (by decide) ?_
                        refine x_aload_n dX12_count_118 rfl rfl ?_
                        refine x_getI dX12_count_119 fl_X12_216 rfl rfl ?_
                        exact x_iret rfl dX12_count_122 (zretI hf)
                      · replace hf := zif_f c1_10 hf
                        refine x_tableOut (tgt := 123) dX12_count_1 (by have q0 := ztne c1_0 (n := 0) (by decide); have q1 := ztne c1_1 (n := 1) (by decide); have q2 := ztne c1_2 (n := 2) (by decide); have q3 := ztne c1_3 (n := 3) (by decide); have q4 := ztne c1_4 (n := 4) (by decide); have q5 := ztne c1_5 (n := 5) (by decide); have q6 := ztne c1_6 (n := 6) (by decide); have q7 := ztne c1_7 (n := 7) (by decide); have q8 := ztne c1_8 (n := 8) (by decide); have q9 := ztne c1_9 (n := 9) (by decide); have q10 := ztne c1_10 (n := 10) (by decide); omega) (by decide) ?_
                        refine x_iconst (v := -1) dX12_count_123 (by decide) ?_
                        exact x_iret rfl dX12_count_124 (zretI hf)
