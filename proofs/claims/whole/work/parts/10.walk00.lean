theorem cc_X11_isNight {l : Launch} {G : zG} {x0 : Int32}  {M : zMem} {r : Int32} {M1 : zMem} (hf : fX11_isNight x0 M = some (r, M1)) : Ca l G 0 mX11_isNight [.int x0] M (some (.int r)) M1 := by
  refine Ca.of (by decide +kernel) (Nat.le_of_ble_eq_true rfl) rfl ?_
  rw [fX11_isNight] at hf
  refine x_iload_n dX11_isNight_0 rfl rfl ?_
  refine x_if_lt (tgt := 15) dX11_isNight_1 (by decide) (fun c1 => ?_) (fun c1 => ?_)
  · replace hf := zif_t c1 hf
    refine x_iconst (v := 0) dX11_isNight_15 (by decide) ?_
    exact x_zret rfl rfl dX11_isNight_16 (zretI hf)
  · replace hf := zif_f c1 hf
    refine x_iload_n dX11_isNight_4 rfl rfl ?_
    refine x_sipush (v := 200) dX11_isNight_5 (by decide) ?_
    refine x_icmp_ge (tgt := 15) dX11_isNight_8 (by decide) (fun c8 => ?_) (fun c8 => ?_)
    · replace hf := zif_t c8 hf
      refine x_iconst (v := 0) dX11_isNight_15 (by decide) ?_
      exact x_zret rfl rfl dX11_isNight_16 (zretI hf)
    · replace hf := zif_f c8 hf
      refine x_iconst (v := 1) dX11_isNight_11 (by decide) ?_
      refine x_goto (tgt := 16) dX11_isNight_12 (by decide) ?_
      exact x_zret rfl rfl dX11_isNight_16 (zretI hf)
theorem cc_X0_isMarked {l : Launch} {G : zG} {x1 : Int32} {x2 : Int32}  {M : zMem} {r : Int32} {M1 : zMem} (hf : fX0_isMarked x1 x2 M = some (r, M1)) : Ca l G 1 mX0_isMarked [.ref (G.2.2.1 29), .int x1, .int x2] M (some (.int r)) M1 := by
  refine Ca.of (by decide +kernel) (Nat.le_of_ble_eq_true rfl) rfl ?_
  rw [fX0_isMarked] at hf
  refine x_iload_n dX0_isMarked_0 rfl rfl ?_
  obtain ⟨r3, M2, hq1, hf⟩ := zb2E hf
  refine x_invNi (host := "FriendLine") dX0_isMarked_1 mk_X11_isNight (List.mem_of_getElem? (i := 3) rfl) (cc_X11_isNight hq1) (Nat.le_of_ble_eq_true rfl) rfl (Nat.le_of_ble_eq_true rfl) rfl ?_
  refine x_if_eq (tgt := 22) dX0_isMarked_4 (by decide) (fun c4 => ?_) (fun c4 => ?_)
  · replace hf := zif_t c4 hf
    refine x_iconst (v := 0) dX0_isMarked_22 (by decide) ?_
    exact x_zret rfl rfl dX0_isMarked_23 (zretI hf)
  · replace hf := zif_f c4 hf
    refine x_aload_n dX0_isMarked_7 rfl rfl ?_
    refine x_getS (r := 30) dX0_isMarked_8 fl_X0_9 rfl rfl ?_
    refine x_iload_n dX0_isMarked_11 rfl rfl ?_
    obtain ⟨v4, hv4, hf⟩ := zbind hf
    refine x_ild dX0_isMarked_12 rfl hv4 ?_
    refine x_iload_n dX0_isMarked_13 rfl rfl ?_
    refine x_iand dX0_isMarked_14 ?_
    refine x_if_eq (tgt := 22) dX0_isMarked_15 (by decide) (fun c15 => ?_) (fun c15 => ?_)
    · replace hf := zif_t c15 hf
      refine x_iconst (v := 0) dX0_isMarked_22 (by decide) ?_
      exact x_zret rfl rfl dX0_isMarked_23 (zretI hf)
    · replace hf := zif_f c15 hf
      refine x_iconst (v := 1) dX0_isMarked_18 (by decide) ?_
      refine x_goto (tgt := 23) dX0_isMarked_19 (by decide) ?_
      exact x_zret rfl rfl dX0_isMarked_23 (zretI hf)
theorem cc_X0_isHoliday {l : Launch} {G : zG} {x1 : Int32}  {M : zMem} {r : Int32} {M1 : zMem} (hf : fX0_isHoliday x1 M = some (r, M1)) : Ca l G 2 mX0_isHoliday [.ref (G.2.2.1 29), .int x1] M (some (.int r)) M1 := by
  refine Ca.of (by decide +kernel) (Nat.le_of_ble_eq_true rfl) rfl ?_
  rw [fX0_isHoliday] at hf
  refine x_aload_n dX0_isHoliday_0 rfl rfl ?_
  refine x_iload_n dX0_isHoliday_1 rfl rfl ?_
  refine x_iconst (v := 1) dX0_isHoliday_2 (by decide) ?_
  obtain ⟨r3, M2, hq1, hf⟩ := zb2E hf
  refine x_invVi dX0_isHoliday_3 mk_X0_isMarked ml_X0_19 (cc_X0_isMarked hq1) rfl rfl rfl (Nat.le_of_ble_eq_true rfl) rfl (Nat.le_of_ble_eq_true rfl) rfl ?_
  obtain ⟨hb6, hf⟩ := zgbE hf
  exact x_zret rfl (znb hb6) dX0_isHoliday_6 (zretI hf)
theorem cc_X0_isFound {l : Launch} {G : zG} {x1 : Int32}  {M : zMem} {r : Int32} {M1 : zMem} (hf : fX0_isFound x1 M = some (r, M1)) : Ca l G 2 mX0_isFound [.ref (G.2.2.1 29), .int x1] M (some (.int r)) M1 := by
  refine Ca.of (by decide +kernel) (Nat.le_of_ble_eq_true rfl) rfl ?_
  rw [fX0_isFound] at hf
  refine x_aload_n dX0_isFound_0 rfl rfl ?_
  refine x_iload_n dX0_isFound_1 rfl rfl ?_
  refine x_iconst (v := 2) dX0_isFound_2 (by decide) ?_
  obtain ⟨r3, M2, hq1, hf⟩ := zb2E hf
  refine x_invVi dX0_isFound_3 mk_X0_isMarked ml_X0_19 (cc_X0_isMarked hq1) rfl rfl rfl (Nat.le_of_ble_eq_true rfl) rfl (Nat.le_of_ble_eq_true rfl) rfl ?_
  obtain ⟨hb6, hf⟩ := zgbE hf
  exact x_zret rfl (znb hb6) dX0_isFound_6 (zretI hf)
theorem cc_X0_isGone {l : Launch} {G : zG} {x1 : Int32}  {M : zMem} {r : Int32} {M1 : zMem} (hf : fX0_isGone x1 M = some (r, M1)) : Ca l G 2 mX0_isGone [.ref (G.2.2.1 29), .int x1] M (some (.int r)) M1 := by
  refine Ca.of (by decide +kernel) (Nat.le_of_ble_eq_true rfl) rfl ?_
  rw [fX0_isGone] at hf
  refine x_aload_n dX0_isGone_0 rfl rfl ?_
  refine x_iload_n dX0_isGone_1 rfl rfl ?_
  refine x_iconst (v := 4) dX0_isGone_2 (by decide) ?_
  obtain ⟨r3, M2, hq1, hf⟩ := zb2E hf
  refine x_invVi dX0_isGone_3 mk_X0_isMarked ml_X0_19 (cc_X0_isMarked hq1) rfl rfl rfl (Nat.le_of_ble_eq_true rfl) rfl (Nat.le_of_ble_eq_true rfl) rfl ?_
  obtain ⟨hb6, hf⟩ := zgbE hf
  exact x_zret rfl (znb hb6) dX0_isGone_6 (zretI hf)
theorem cc_X0_mark {l : Launch} {G : zG} {x1 : Int32} {x2 : Int32}  {M : zMem} {M1 : zMem} (hf : fX0_mark x1 x2 M = some M1) : Ca l G 1 mX0_mark [.ref (G.2.2.1 29), .int x1, .int x2] M none M1 := by
  refine Ca.of (by decide +kernel) (Nat.le_of_ble_eq_true rfl) rfl ?_
  rw [fX0_mark] at hf
  refine x_iload_n dX0_mark_0 rfl rfl ?_
  obtain ⟨r3, M2, hq1, hf⟩ := zb2E hf
  refine x_invNi (host := "FriendLine") dX0_mark_1 mk_X11_isNight (List.mem_of_getElem? (i := 3) rfl) (cc_X11_isNight hq1) (Nat.le_of_ble_eq_true rfl) rfl (Nat.le_of_ble_eq_true rfl) rfl ?_
  refine x_if_eq (tgt := 17) dX0_mark_4 (by decide) (fun c4 => ?_) (fun c4 => ?_)
  · replace hf := zif_t c4 hf
    exact x_vret rfl dX0_mark_17 (zretV hf)
  · replace hf := zif_f c4 hf
    refine x_aload_n dX0_mark_7 rfl rfl ?_
    refine x_getS (r := 30) dX0_mark_8 fl_X0_9 rfl rfl ?_
    refine x_iload_n dX0_mark_11 rfl rfl ?_
    refine x_dup2 dX0_mark_12 rfl rfl ?_
    obtain ⟨v4, hv4, hf⟩ := zbind hf
    refine x_ild dX0_mark_13 rfl hv4 ?_
    refine x_iload_n dX0_mark_14 rfl rfl ?_
    refine x_ior dX0_mark_15 ?_
    obtain ⟨M5, hM5, hf⟩ := zbind hf
    refine x_ist dX0_mark_16 rfl hM5 ?_
    exact x_vret rfl dX0_mark_17 (zretV hf)
theorem cc_X0_setHoliday {l : Launch} {G : zG} {x1 : Int32}  {M : zMem} {M1 : zMem} (hf : fX0_setHoliday x1 M = some M1) : Ca l G 2 mX0_setHoliday [.ref (G.2.2.1 29), .int x1] M none M1 := by
  refine Ca.of (by decide +kernel) (Nat.le_of_ble_eq_true rfl) rfl ?_
  rw [fX0_setHoliday] at hf
  refine x_aload_n dX0_setHoliday_0 rfl rfl ?_
  refine x_iload_n dX0_setHoliday_1 rfl rfl ?_
  refine x_iconst (v := 1) dX0_setHoliday_2 (by decide) ?_
  obtain ⟨M2, hq1, hf⟩ := zbind hf
  refine x_invVv dX0_setHoliday_3 mk_X0_mark ml_X0_23 (cc_X0_mark hq1) rfl rfl rfl (Nat.le_of_ble_eq_true rfl) rfl (Nat.le_of_ble_eq_true rfl) rfl ?_
  exact x_vret rfl dX0_setHoliday_6 (zretV hf)
theorem cc_X0_setFound {l : Launch} {G : zG} {x1 : Int32}  {M : zMem} {M1 : zMem} (hf : fX0_setFound x1 M = some M1) : Ca l G 2 mX0_setFound [.ref (G.2.2.1 29), .int x1] M none M1 := by
  refine Ca.of (by decide +kernel) (Nat.le_of_ble_eq_true rfl) rfl ?_
  rw [fX0_setFound] at hf
  refine x_aload_n dX0_setFound_0 rfl rfl ?_
  refine x_iload_n dX0_setFound_1 rfl rfl ?_
  refine x_iconst (v := 2) dX0_setFound_2 (by decide) ?_
  obtain ⟨M2, hq1, hf⟩ := zbind hf
  refine x_invVv dX0_setFound_3 mk_X0_mark ml_X0_23 (cc_X0_mark hq1) rfl rfl rfl (Nat.le_of_ble_eq_true rfl) rfl (Nat.le_of_ble_eq_true rfl) rfl ?_
  exact x_vret rfl dX0_setFound_6 (zretV hf)
theorem cc_X0_setGone {l : Launch} {G : zG} {x1 : Int32}  {M : zMem} {M1 : zMem} (hf : fX0_setGone x1 M = some M1) : Ca l G 2 mX0_setGone [.ref (G.2.2.1 29), .int x1] M none M1 := by
  refine Ca.of (by decide +kernel) (Nat.le_of_ble_eq_true rfl) rfl ?_
  rw [fX0_setGone] at hf
  refine x_aload_n dX0_setGone_0 rfl rfl ?_
  refine x_iload_n dX0_setGone_1 rfl rfl ?_
  refine x_iconst (v := 4) dX0_setGone_2 (by decide) ?_
  obtain ⟨M2, hq1, hf⟩ := zbind hf
  refine x_invVv dX0_setGone_3 mk_X0_mark ml_X0_23 (cc_X0_mark hq1) rfl rfl rfl (Nat.le_of_ble_eq_true rfl) rfl (Nat.le_of_ble_eq_true rfl) rfl ?_
  exact x_vret rfl dX0_setGone_6 (zretV hf)
theorem cc_X0_countGone_L22 {l : Launch} {G : zG} {N : Nat} {k4 : Int32 → Int32 → zMem → Option (Int32 × zMem)} (hk4 : ∀ {x1 : Int32} {x2 : Int32} {M : zMem} {r : Int32} {M1 : zMem}, k4 x1 x2 M = some (r, M1) → Ex l G 3 mX0_countGone 4 [(0, .ref (G.2.2.1 29)), (1, .int x1), (2, .int x2)] [] M (zqI r M1)) {x1 : Int32} {x2 : Int32} {M : zMem} {r : Int32} {M1 : zMem} (hf : fX0_countGone_L22 N k4 x1 x2 M = some (r, M1)) : Ex l G 3 mX0_countGone 22 [(0, .ref (G.2.2.1 29)), (1, .int x1), (2, .int x2)] [] M (zqI r M1) := by
  rw [fX0_countGone_L22] at hf
  obtain ⟨x2_5, ex2_5, hf⟩ := zletE hf
  refine x_iinc (c0 := 1) dX0_countGone_22 rfl (Nat.le_of_ble_eq_true rfl) (by decide) ex2_5 ?_
  refine x_goto (tgt := 4) dX0_countGone_25 (by decide) ?_
  exact Ex.sb (hk4 hf) ⟨rfl, rfl, rfl, trivial⟩
theorem cc_X0_countGone_L4 {l : Launch} {G : zG} {N : Nat} : ∀ {n : Nat} {x1 : Int32} {x2 : Int32} {M : zMem} {r : Int32} {M1 : zMem}, fX0_countGone_L4 N n x1 x2 M = some (r, M1) → Ex l G 3 mX0_countGone 4 [(0, .ref (G.2.2.1 29)), (1, .int x1), (2, .int x2)] [] M (zqI r M1) := by
  intro n
  induction n with
  | zero => intro x1 x2 M r M1 hf; cases hf
  | succ n ih =>
    intro x1 x2 M r M1 hf
    rw [fX0_countGone_L4] at hf
    refine x_iload_n dX0_countGone_4 rfl rfl ?_
    refine x_sipush (v := 200) dX0_countGone_5 (by decide) ?_
    refine x_icmp_ge (tgt := 28) dX0_countGone_8 (by decide) (fun c8 => ?_) (fun c8 => ?_)
    · replace hf := zif_t c8 hf
      refine x_iload_n dX0_countGone_28 rfl rfl ?_
      exact x_iret rfl dX0_countGone_29 (zretI hf)
    · replace hf := zif_f c8 hf
      refine x_aload_n dX0_countGone_11 rfl rfl ?_
      refine x_iload_n dX0_countGone_12 rfl rfl ?_
      obtain ⟨r3, M2, hq1, hf⟩ := zb2E hf
      refine x_invVi dX0_countGone_13 mk_X0_isGone ml_X0_27 (cc_X0_isGone hq1) rfl rfl rfl (Nat.le_of_ble_eq_true rfl) rfl (Nat.le_of_ble_eq_true rfl) rfl ?_
      refine x_if_eq (tgt := 22) dX0_countGone_16 (by decide) (fun c16 => ?_) (fun c16 => ?_)
      · replace hf := zif_t c16 hf
        exact Ex.sb (cc_X0_countGone_L22 ih hf) ⟨rfl, rfl, rfl, trivial⟩
      · replace hf := zif_f c16 hf
        obtain ⟨x1_4, ex1_4, hf⟩ := zletE hf
        refine x_iinc (c0 := 1) dX0_countGone_19 rfl (Nat.le_of_ble_eq_true rfl) (by decide) ex1_4 ?_
        exact Ex.sb (cc_X0_countGone_L22 ih hf) ⟨rfl, rfl, rfl, trivial⟩
theorem cc_X0_countGone {l : Launch} {G : zG} {N : Nat}   {M : zMem} {r : Int32} {M1 : zMem} (hf : fX0_countGone N M = some (r, M1)) : Ca l G 3 mX0_countGone [.ref (G.2.2.1 29)] M (some (.int r)) M1 := by
  refine Ca.of (by decide +kernel) (Nat.le_of_ble_eq_true rfl) rfl ?_
  rw [fX0_countGone] at hf
  refine x_iconst (v := 0) dX0_countGone_0 (by decide) ?_
  refine x_istore_n dX0_countGone_1 rfl (Nat.le_of_ble_eq_true rfl) rfl ?_
  refine x_iconst (v := 0) dX0_countGone_2 (by decide) ?_
  refine x_istore_n dX0_countGone_3 rfl (Nat.le_of_ble_eq_true rfl) rfl ?_
  exact Ex.sb (cc_X0_countGone_L4  hf) ⟨rfl, rfl, rfl, trivial⟩
theorem cc_X0_areAlike_L34 {l : Launch} {G : zG}  {M : zMem} {r : Int32} {M1 : zMem} (hf : fX0_areAlike_L34 M = some (r, M1)) : Ex l G 3 mX0_areAlike 34 [] [] M (zqI r M1) := by
  rw [fX0_areAlike_L34] at hf
  refine x_iconst (v := 1) dX0_areAlike_34 (by decide) ?_
  refine x_goto (tgt := 39) dX0_areAlike_35 (by decide) ?_
  exact x_zret rfl rfl dX0_areAlike_39 (zretI hf)
theorem cc_X0_areAlike {l : Launch} {G : zG} {x1 : Int32} {x2 : Int32}  {M : zMem} {r : Int32} {M1 : zMem} (hf : fX0_areAlike x1 x2 M = some (r, M1)) : Ca l G 3 mX0_areAlike [.ref (G.2.2.1 29), .int x1, .int x2] M (some (.int r)) M1 := by
  refine Ca.of (by decide +kernel) (Nat.le_of_ble_eq_true rfl) rfl ?_
  rw [fX0_areAlike] at hf
  refine x_aload_n dX0_areAlike_0 rfl rfl ?_
  refine x_iload_n dX0_areAlike_1 rfl rfl ?_
  obtain ⟨r3, M2, hq1, hf⟩ := zb2E hf
  refine x_invVi dX0_areAlike_2 mk_X0_isHoliday ml_X0_31 (cc_X0_isHoliday hq1) rfl rfl rfl (Nat.le_of_ble_eq_true rfl) rfl (Nat.le_of_ble_eq_true rfl) rfl ?_
  refine x_aload_n dX0_areAlike_5 rfl rfl ?_
  refine x_iload_n dX0_areAlike_6 rfl rfl ?_
  obtain ⟨r6, M5, hq4, hf⟩ := zb2E hf
  refine x_invVi dX0_areAlike_7 mk_X0_isHoliday ml_X0_31 (cc_X0_isHoliday hq4) rfl rfl rfl (Nat.le_of_ble_eq_true rfl) rfl (Nat.le_of_ble_eq_true rfl) rfl ?_
  refine x_icmp_eq (tgt := 15) dX0_areAlike_10 (by decide) (fun c10 => ?_) (fun c10 => ?_)
  · replace hf := zif_t c10 hf
    refine x_aload_n dX0_areAlike_15 rfl rfl ?_
    refine x_iload_n dX0_areAlike_16 rfl rfl ?_
    obtain ⟨r9, M8, hq7, hf⟩ := zb2E hf
    refine x_invVi dX0_areAlike_17 mk_X0_isHoliday ml_X0_31 (cc_X0_isHoliday hq7) rfl rfl rfl (Nat.le_of_ble_eq_true rfl) rfl (Nat.le_of_ble_eq_true rfl) rfl ?_
    refine x_if_ne (tgt := 34) dX0_areAlike_20 (by decide) (fun c20 => ?_) (fun c20 => ?_)
    · replace hf := zif_f c20 hf
      exact Ex.sb (cc_X0_areAlike_L34  hf) trivial
    · replace hf := zif_t c20 hf
      refine x_iload_n dX0_areAlike_23 rfl rfl ?_
      refine x_bipush (v := 7) dX0_areAlike_24 (by decide) ?_
      refine x_irem dX0_areAlike_26 (by decide) ?_
      refine x_iload_n dX0_areAlike_27 rfl rfl ?_
      refine x_bipush (v := 7) dX0_areAlike_28 (by decide) ?_
      refine x_irem dX0_areAlike_30 (by decide) ?_
      refine x_icmp_ne (tgt := 38) dX0_areAlike_31 (by decide) (fun c31 => ?_) (fun c31 => ?_)
      · replace hf := zif_f c31 hf
        refine x_iconst (v := 0) dX0_areAlike_38 (by decide) ?_
        exact x_zret rfl rfl dX0_areAlike_39 (zretI hf)
      · replace hf := zif_t c31 hf
        exact Ex.sb (cc_X0_areAlike_L34  hf) trivial
  · replace hf := zif_f c10 hf
    refine x_iconst (v := 0) dX0_areAlike_13 (by decide) ?_
    exact x_zret rfl rfl dX0_areAlike_14 (zretI hf)
theorem cc_X0_setHours {l : Launch} {G : zG} {x1 : Int32} {x2 : Int32} {x3 : Int32}  {M : zMem} {M1 : zMem} (hf : fX0_setHours x1 x2 x3 M = some M1) : Ca l G 1 mX0_setHours [.ref (G.2.2.1 29), .int x1, .int x2, .int x3] M none M1 := by
  refine Ca.of (by decide +kernel) (Nat.le_of_ble_eq_true rfl) rfl ?_
  rw [fX0_setHours] at hf
  refine x_iload_n dX0_setHours_0 rfl rfl ?_
  obtain ⟨r3, M2, hq1, hf⟩ := zb2E hf
  refine x_invNi (host := "FriendLine") dX0_setHours_1 mk_X11_isNight (List.mem_of_getElem? (i := 3) rfl) (cc_X11_isNight hq1) (Nat.le_of_ble_eq_true rfl) rfl (Nat.le_of_ble_eq_true rfl) rfl ?_
  refine x_if_eq (tgt := 33) dX0_setHours_4 (by decide) (fun c4 => ?_) (fun c4 => ?_)
  · replace hf := zif_t c4 hf
    exact x_vret rfl dX0_setHours_33 (zretV hf)
  · replace hf := zif_f c4 hf
    refine x_iload_n dX0_setHours_7 rfl rfl ?_
    refine x_if_lt (tgt := 33) dX0_setHours_8 (by decide) (fun c8 => ?_) (fun c8 => ?_)
    · replace hf := zif_t c8 hf
      exact x_vret rfl dX0_setHours_33 (zretV hf)
    · replace hf := zif_f c8 hf
      refine x_iload_n dX0_setHours_11 rfl rfl ?_
      refine x_bipush (v := 8) dX0_setHours_12 (by decide) ?_
      refine x_icmp_ge (tgt := 33) dX0_setHours_14 (by decide) (fun c14 => ?_) (fun c14 => ?_)
      · replace hf := zif_t c14 hf
        exact x_vret rfl dX0_setHours_33 (zretV hf)
      · replace hf := zif_f c14 hf
        refine x_aload_n dX0_setHours_17 rfl rfl ?_
        refine x_getS (r := 31) dX0_setHours_18 fl_X0_15 rfl rfl ?_
        refine x_iload_n dX0_setHours_21 rfl rfl ?_
        refine x_dup2 dX0_setHours_22 rfl rfl ?_
        obtain ⟨v4, hv4, hf⟩ := zbind hf
        refine x_jld dX0_setHours_23 rfl hv4 ?_
        refine x_iload_n dX0_setHours_24 rfl rfl ?_
        refine x_i2l dX0_setHours_25 ?_
        refine x_iload_n dX0_setHours_26 rfl rfl ?_
        refine x_bipush (v := 6) dX0_setHours_27 (by decide) ?_
        refine x_imul dX0_setHours_29 ?_
        refine x_lshl dX0_setHours_30 ?_
        refine x_lor dX0_setHours_31 ?_
        obtain ⟨M5, hM5, hf⟩ := zbind hf
        refine x_jst dX0_setHours_32 rfl hM5 ?_
        exact x_vret rfl dX0_setHours_33 (zretV hf)
theorem cc_X0_hoursOf {l : Launch} {G : zG} {x1 : Int32} {x2 : Int32}  {M : zMem} {r : Int32} {M1 : zMem} (hf : fX0_hoursOf x1 x2 M = some (r, M1)) : Ca l G 1 mX0_hoursOf [.ref (G.2.2.1 29), .int x1, .int x2] M (some (.int r)) M1 := by
  refine Ca.of (by decide +kernel) (Nat.le_of_ble_eq_true rfl) rfl ?_
  rw [fX0_hoursOf] at hf
  refine x_iload_n dX0_hoursOf_0 rfl rfl ?_
  obtain ⟨r3, M2, hq1, hf⟩ := zb2E hf
  refine x_invNi (host := "FriendLine") dX0_hoursOf_1 mk_X11_isNight (List.mem_of_getElem? (i := 3) rfl) (cc_X11_isNight hq1) (Nat.le_of_ble_eq_true rfl) rfl (Nat.le_of_ble_eq_true rfl) rfl ?_
  refine x_if_eq (tgt := 35) dX0_hoursOf_4 (by decide) (fun c4 => ?_) (fun c4 => ?_)
  · replace hf := zif_t c4 hf
    refine x_iconst (v := 0) dX0_hoursOf_35 (by decide) ?_
    exact x_iret rfl dX0_hoursOf_36 (zretI hf)
  · replace hf := zif_f c4 hf
    refine x_iload_n dX0_hoursOf_7 rfl rfl ?_
    refine x_if_lt (tgt := 35) dX0_hoursOf_8 (by decide) (fun c8 => ?_) (fun c8 => ?_)
    · replace hf := zif_t c8 hf
      refine x_iconst (v := 0) dX0_hoursOf_35 (by decide) ?_
      exact x_iret rfl dX0_hoursOf_36 (zretI hf)
    · replace hf := zif_f c8 hf
      refine x_iload_n dX0_hoursOf_11 rfl rfl ?_
      refine x_bipush (v := 8) dX0_hoursOf_12 (by decide) ?_
      refine x_icmp_ge (tgt := 35) dX0_hoursOf_14 (by decide) (fun c14 => ?_) (fun c14 => ?_)
      · replace hf := zif_t c14 hf
        refine x_iconst (v := 0) dX0_hoursOf_35 (by decide) ?_
        exact x_iret rfl dX0_hoursOf_36 (zretI hf)
      · replace hf := zif_f c14 hf
        refine x_aload_n dX0_hoursOf_17 rfl rfl ?_
        refine x_getS (r := 31) dX0_hoursOf_18 fl_X0_15 rfl rfl ?_
        refine x_iload_n dX0_hoursOf_21 rfl rfl ?_
        obtain ⟨v4, hv4, hf⟩ := zbind hf
        refine x_jld dX0_hoursOf_22 rfl hv4 ?_
        refine x_iload_n dX0_hoursOf_23 rfl rfl ?_
        refine x_bipush (v := 6) dX0_hoursOf_24 (by decide) ?_
        refine x_imul dX0_hoursOf_26 ?_
        refine x_lushr dX0_hoursOf_27 ?_
        refine x_l2i dX0_hoursOf_28 ?_
        refine x_bipush (v := 63) dX0_hoursOf_29 (by decide) ?_
        refine x_iand dX0_hoursOf_31 ?_
        refine x_goto (tgt := 36) dX0_hoursOf_32 (by decide) ?_
        exact x_iret rfl dX0_hoursOf_36 (zretI hf)
theorem cc_X1_size {l : Launch} {G : zG}   {M : zMem} {r : Int32} {M1 : zMem} (hf : fX1_size M = some (r, M1)) : Ca l G 0 mX1_size [.ref (G.2.2.1 47)] M (some (.int r)) M1 := by
  refine Ca.of (by decide +kernel) (Nat.le_of_ble_eq_true rfl) rfl ?_
  rw [fX1_size] at hf
  refine x_aload_n dX1_size_0 rfl rfl ?_
  refine x_getI dX1_size_1 fl_X1_39 rfl rfl ?_
  exact x_iret rfl dX1_size_4 (zretI hf)
theorem cc_X1_beginNight {l : Launch} {G : zG}   {M : zMem} {M1 : zMem} (hf : fX1_beginNight M = some M1) : Ca l G 0 mX1_beginNight [.ref (G.2.2.1 47)] M none M1 := by
  refine Ca.of (by decide +kernel) (Nat.le_of_ble_eq_true rfl) rfl ?_
  rw [fX1_beginNight] at hf
  refine x_aload_n dX1_beginNight_0 rfl rfl ?_
  refine x_aload_n dX1_beginNight_1 rfl rfl ?_
  refine x_getI dX1_beginNight_2 fl_X1_39 rfl rfl ?_
  obtain ⟨M1, eM1, hf⟩ := zletE hf
  refine x_putI dX1_beginNight_5 fp_X1_43 rfl rfl rfl rfl eM1 ?_
  exact x_vret rfl dX1_beginNight_8 (zretV hf)
theorem cc_X1_nightStart {l : Launch} {G : zG}   {M : zMem} {r : Int32} {M1 : zMem} (hf : fX1_nightStart M = some (r, M1)) : Ca l G 0 mX1_nightStart [.ref (G.2.2.1 47)] M (some (.int r)) M1 := by
  refine Ca.of (by decide +kernel) (Nat.le_of_ble_eq_true rfl) rfl ?_
  rw [fX1_nightStart] at hf
  refine x_aload_n dX1_nightStart_0 rfl rfl ?_
  refine x_getI dX1_nightStart_1 fl_X1_43 rfl rfl ?_
  exact x_iret rfl dX1_nightStart_4 (zretI hf)
theorem cc_X1_add {l : Launch} {G : zG} {x1 : Int32} {x2 : Int32} {x3 : Int32} {x4 : Int32} {x5 : Int32} {x6 : Int32}  {M : zMem} {r : Int32} {M1 : zMem} (hf : fX1_add x1 x2 x3 x4 x5 x6 M = some (r, M1)) : Ca l G 0 mX1_add [.ref (G.2.2.1 47), .int x1, .int x2, .int x3, .int x4, .int x5, .int x6] M (some (.int r)) M1 := by
  refine Ca.of (by decide +kernel) (Nat.le_of_ble_eq_true rfl) rfl ?_
  rw [fX1_add] at hf
  refine x_aload_n dX1_add_0 rfl rfl ?_
  refine x_getI dX1_add_1 fl_X1_39 rfl rfl ?_
  refine x_sipush (v := 400) dX1_add_4 (by decide) ?_
  refine x_icmp_ge (tgt := 24) dX1_add_7 (by decide) (fun c7 => ?_) (fun c7 => ?_)
  · replace hf := zif_t c7 hf
    refine x_iconst (v := -1) dX1_add_24 (by decide) ?_
    exact x_iret rfl dX1_add_25 (zretI hf)
  · replace hf := zif_f c7 hf
    refine x_aload_n dX1_add_10 rfl rfl ?_
    refine x_getI dX1_add_11 fl_X1_39 rfl rfl ?_
    refine x_aload_n dX1_add_14 rfl rfl ?_
    refine x_getI dX1_add_15 fl_X1_43 rfl rfl ?_
    refine x_isub dX1_add_18 ?_
    refine x_bipush (v := 40) dX1_add_19 (by decide) ?_
    refine x_icmp_lt (tgt := 26) dX1_add_21 (by decide) (fun c21 => ?_) (fun c21 => ?_)
    · replace hf := zif_t c21 hf
      refine x_aload_n dX1_add_26 rfl rfl ?_
      refine x_getS (r := 48) dX1_add_27 fl_X1_11 rfl rfl ?_
      refine x_aload_n dX1_add_30 rfl rfl ?_
      refine x_getI dX1_add_31 fl_X1_39 rfl rfl ?_
      refine x_iload_n dX1_add_34 rfl rfl ?_
      obtain ⟨M1, hM1, hf⟩ := zbind hf
      refine x_ist dX1_add_35 rfl hM1 ?_
      refine x_aload_n dX1_add_36 rfl rfl ?_
      refine x_getS (r := 49) dX1_add_37 fl_X1_15 rfl rfl ?_
      refine x_aload_n dX1_add_40 rfl rfl ?_
      refine x_getI dX1_add_41 fl_X1_39 rfl rfl ?_
      refine x_iload_n dX1_add_44 rfl rfl ?_
      obtain ⟨M2, hM2, hf⟩ := zbind hf
      refine x_ist dX1_add_45 rfl hM2 ?_
      refine x_aload_n dX1_add_46 rfl rfl ?_
      refine x_getS (r := 50) dX1_add_47 fl_X1_18 rfl rfl ?_
      refine x_aload_n dX1_add_50 rfl rfl ?_
      refine x_getI dX1_add_51 fl_X1_39 rfl rfl ?_
      refine x_iload_n dX1_add_54 rfl rfl ?_
      obtain ⟨M3, hM3, hf⟩ := zbind hf
      refine x_ist dX1_add_55 rfl hM3 ?_
      refine x_aload_n dX1_add_56 rfl rfl ?_
      refine x_getS (r := 51) dX1_add_57 fl_X1_21 rfl rfl ?_
      refine x_aload_n dX1_add_60 rfl rfl ?_
      refine x_getI dX1_add_61 fl_X1_39 rfl rfl ?_
      refine x_iload dX1_add_64 rfl ?_
      obtain ⟨M4, hM4, hf⟩ := zbind hf
      refine x_ist dX1_add_66 rfl hM4 ?_
      refine x_aload_n dX1_add_67 rfl rfl ?_
      refine x_getS (r := 52) dX1_add_68 fl_X1_24 rfl rfl ?_
      refine x_aload_n dX1_add_71 rfl rfl ?_
      refine x_getI dX1_add_72 fl_X1_39 rfl rfl ?_
      refine x_iload dX1_add_75 rfl ?_
      obtain ⟨M5, hM5, hf⟩ := zbind hf
      refine x_ist dX1_add_77 rfl hM5 ?_
      refine x_aload_n dX1_add_78 rfl rfl ?_
      refine x_getS (r := 53) dX1_add_79 fl_X1_27 rfl rfl ?_
      refine x_aload_n dX1_add_82 rfl rfl ?_
      refine x_getI dX1_add_83 fl_X1_39 rfl rfl ?_
      refine x_iload dX1_add_86 rfl ?_
      obtain ⟨M6, hM6, hf⟩ := zbind hf
      refine x_ist dX1_add_88 rfl hM6 ?_
      refine x_aload_n dX1_add_89 rfl rfl ?_
      refine x_getS (r := 54) dX1_add_90 fl_X1_30 rfl rfl ?_
      refine x_aload_n dX1_add_93 rfl rfl ?_
      refine x_getI dX1_add_94 fl_X1_39 rfl rfl ?_
      refine x_iconst (v := 0) dX1_add_97 (by decide) ?_
      obtain ⟨M7, hM7, hf⟩ := zbind hf
      refine x_ist dX1_add_98 rfl hM7 ?_
      refine x_aload_n dX1_add_99 rfl rfl ?_
      refine x_getS (r := 55) dX1_add_100 fl_X1_33 rfl rfl ?_
      refine x_aload_n dX1_add_103 rfl rfl ?_
      refine x_getI dX1_add_104 fl_X1_39 rfl rfl ?_
      refine x_iconst (v := -1) dX1_add_107 (by decide) ?_
      obtain ⟨M8, hM8, hf⟩ := zbind hf
      refine x_ist dX1_add_108 rfl hM8 ?_
      refine x_aload_n dX1_add_109 rfl rfl ?_
      refine x_getS (r := 56) dX1_add_110 fl_X1_36 rfl rfl ?_
      refine x_aload_n dX1_add_113 rfl rfl ?_
      refine x_getI dX1_add_114 fl_X1_39 rfl rfl ?_
      refine x_iconst (v := -1) dX1_add_117 (by decide) ?_
      obtain ⟨M9, hM9, hf⟩ := zbind hf
      refine x_ist dX1_add_118 rfl hM9 ?_
      refine x_aload_n dX1_add_119 rfl rfl ?_
      refine x_dup dX1_add_120 rfl ?_
      refine x_getI dX1_add_121 fl_X1_39 rfl rfl ?_
      refine x_iconst (v := 1) dX1_add_124 (by decide) ?_
      refine x_iadd dX1_add_125 ?_
      obtain ⟨M10, eM10, hf⟩ := zletE hf
      refine x_putI dX1_add_126 fp_X1_39 rfl rfl rfl rfl eM10 ?_
      refine x_aload_n dX1_add_129 rfl rfl ?_
      refine x_getI dX1_add_130 fl_X1_39 rfl rfl ?_
      refine x_iconst (v := 1) dX1_add_133 (by decide) ?_
      refine x_isub dX1_add_134 ?_
      exact x_iret rfl dX1_add_135 (zretI hf)
    · replace hf := zif_f c21 hf
      refine x_iconst (v := -1) dX1_add_24 (by decide) ?_
      exact x_iret rfl dX1_add_25 (zretI hf)
theorem cc_X1_isCall {l : Launch} {G : zG} {x1 : Int32}  {M : zMem} {r : Int32} {M1 : zMem} (hf : fX1_isCall x1 M = some (r, M1)) : Ca l G 0 mX1_isCall [.ref (G.2.2.1 47), .int x1] M (some (.int r)) M1 := by
  refine Ca.of (by decide +kernel) (Nat.le_of_ble_eq_true rfl) rfl ?_
  rw [fX1_isCall] at hf
  refine x_iload_n dX1_isCall_0 rfl rfl ?_
  refine x_if_lt (tgt := 16) dX1_isCall_1 (by decide) (fun c1 => ?_) (fun c1 => ?_)
  · replace hf := zif_t c1 hf
    refine x_iconst (v := 0) dX1_isCall_16 (by decide) ?_
    exact x_zret rfl rfl dX1_isCall_17 (zretI hf)
  · replace hf := zif_f c1 hf
    refine x_iload_n dX1_isCall_4 rfl rfl ?_
    refine x_aload_n dX1_isCall_5 rfl rfl ?_
    refine x_getI dX1_isCall_6 fl_X1_39 rfl rfl ?_
    refine x_icmp_ge (tgt := 16) dX1_isCall_9 (by decide) (fun c9 => ?_) (fun c9 => ?_)
    · replace hf := zif_t c9 hf
      refine x_iconst (v := 0) dX1_isCall_16 (by decide) ?_
      exact x_zret rfl rfl dX1_isCall_17 (zretI hf)
    · replace hf := zif_f c9 hf
      refine x_iconst (v := 1) dX1_isCall_12 (by decide) ?_
      refine x_goto (tgt := 17) dX1_isCall_13 (by decide) ?_
      exact x_zret rfl rfl dX1_isCall_17 (zretI hf)
theorem cc_X1_nightOf {l : Launch} {G : zG} {x1 : Int32}  {M : zMem} {r : Int32} {M1 : zMem} (hf : fX1_nightOf x1 M = some (r, M1)) : Ca l G 1 mX1_nightOf [.ref (G.2.2.1 47), .int x1] M (some (.int r)) M1 := by
  refine Ca.of (by decide +kernel) (Nat.le_of_ble_eq_true rfl) rfl ?_
  rw [fX1_nightOf] at hf
  refine x_aload_n dX1_nightOf_0 rfl rfl ?_
  refine x_iload_n dX1_nightOf_1 rfl rfl ?_
  obtain ⟨r3, M2, hq1, hf⟩ := zb2E hf
  refine x_invVi dX1_nightOf_2 mk_X1_isCall ml_X1_46 (cc_X1_isCall hq1) rfl rfl rfl (Nat.le_of_ble_eq_true rfl) rfl (Nat.le_of_ble_eq_true rfl) rfl ?_
  refine x_if_eq (tgt := 17) dX1_nightOf_5 (by decide) (fun c5 => ?_) (fun c5 => ?_)
  · replace hf := zif_t c5 hf
    refine x_iconst (v := -1) dX1_nightOf_17 (by decide) ?_
    exact x_iret rfl dX1_nightOf_18 (zretI hf)
  · replace hf := zif_f c5 hf
    refine x_aload_n dX1_nightOf_8 rfl rfl ?_
    refine x_getS (r := 48) dX1_nightOf_9 fl_X1_11 rfl rfl ?_
    refine x_iload_n dX1_nightOf_12 rfl rfl ?_
    obtain ⟨v4, hv4, hf⟩ := zbind hf
    refine x_ild dX1_nightOf_13 rfl hv4 ?_
    refine x_goto (tgt := 18) dX1_nightOf_14 (by decide) ?_
    exact x_iret rfl dX1_nightOf_18 (zretI hf)
theorem cc_X1_minuteOf {l : Launch} {G : zG} {x1 : Int32}  {M : zMem} {r : Int32} {M1 : zMem} (hf : fX1_minuteOf x1 M = some (r, M1)) : Ca l G 1 mX1_minuteOf [.ref (G.2.2.1 47), .int x1] M (some (.int r)) M1 := by
  refine Ca.of (by decide +kernel) (Nat.le_of_ble_eq_true rfl) rfl ?_
  rw [fX1_minuteOf] at hf
  refine x_aload_n dX1_minuteOf_0 rfl rfl ?_
  refine x_iload_n dX1_minuteOf_1 rfl rfl ?_
  obtain ⟨r3, M2, hq1, hf⟩ := zb2E hf
  refine x_invVi dX1_minuteOf_2 mk_X1_isCall ml_X1_46 (cc_X1_isCall hq1) rfl rfl rfl (Nat.le_of_ble_eq_true rfl) rfl (Nat.le_of_ble_eq_true rfl) rfl ?_
  refine x_if_eq (tgt := 17) dX1_minuteOf_5 (by decide) (fun c5 => ?_) (fun c5 => ?_)
  · replace hf := zif_t c5 hf
    refine x_iconst (v := -1) dX1_minuteOf_17 (by decide) ?_
    exact x_iret rfl dX1_minuteOf_18 (zretI hf)
  · replace hf := zif_f c5 hf
    refine x_aload_n dX1_minuteOf_8 rfl rfl ?_
    refine x_getS (r := 49) dX1_minuteOf_9 fl_X1_15 rfl rfl ?_
    refine x_iload_n dX1_minuteOf_12 rfl rfl ?_
    obtain ⟨v4, hv4, hf⟩ := zbind hf
    refine x_ild dX1_minuteOf_13 rfl hv4 ?_
    refine x_goto (tgt := 18) dX1_minuteOf_14 (by decide) ?_
    exact x_iret rfl dX1_minuteOf_18 (zretI hf)
theorem cc_X1_callerOf {l : Launch} {G : zG} {x1 : Int32}  {M : zMem} {r : Int32} {M1 : zMem} (hf : fX1_callerOf x1 M = some (r, M1)) : Ca l G 1 mX1_callerOf [.ref (G.2.2.1 47), .int x1] M (some (.int r)) M1 := by
  refine Ca.of (by decide +kernel) (Nat.le_of_ble_eq_true rfl) rfl ?_
  rw [fX1_callerOf] at hf
  refine x_aload_n dX1_callerOf_0 rfl rfl ?_
  refine x_iload_n dX1_callerOf_1 rfl rfl ?_
  obtain ⟨r3, M2, hq1, hf⟩ := zb2E hf
  refine x_invVi dX1_callerOf_2 mk_X1_isCall ml_X1_46 (cc_X1_isCall hq1) rfl rfl rfl (Nat.le_of_ble_eq_true rfl) rfl (Nat.le_of_ble_eq_true rfl) rfl ?_
  refine x_if_eq (tgt := 17) dX1_callerOf_5 (by decide) (fun c5 => ?_) (fun c5 => ?_)
  · replace hf := zif_t c5 hf
    refine x_iconst (v := -1) dX1_callerOf_17 (by decide) ?_
    exact x_iret rfl dX1_callerOf_18 (zretI hf)
  · replace hf := zif_f c5 hf
    refine x_aload_n dX1_callerOf_8 rfl rfl ?_
    refine x_getS (r := 50) dX1_callerOf_9 fl_X1_18 rfl rfl ?_
    refine x_iload_n dX1_callerOf_12 rfl rfl ?_
    obtain ⟨v4, hv4, hf⟩ := zbind hf
    refine x_ild dX1_callerOf_13 rfl hv4 ?_
    refine x_goto (tgt := 18) dX1_callerOf_14 (by decide) ?_
    exact x_iret rfl dX1_callerOf_18 (zretI hf)
theorem cc_X1_needOf {l : Launch} {G : zG} {x1 : Int32}  {M : zMem} {r : Int32} {M1 : zMem} (hf : fX1_needOf x1 M = some (r, M1)) : Ca l G 1 mX1_needOf [.ref (G.2.2.1 47), .int x1] M (some (.int r)) M1 := by
  refine Ca.of (by decide +kernel) (Nat.le_of_ble_eq_true rfl) rfl ?_
  rw [fX1_needOf] at hf
  refine x_aload_n dX1_needOf_0 rfl rfl ?_
  refine x_iload_n dX1_needOf_1 rfl rfl ?_
  obtain ⟨r3, M2, hq1, hf⟩ := zb2E hf
  refine x_invVi dX1_needOf_2 mk_X1_isCall ml_X1_46 (cc_X1_isCall hq1) rfl rfl rfl (Nat.le_of_ble_eq_true rfl) rfl (Nat.le_of_ble_eq_true rfl) rfl ?_
  refine x_if_eq (tgt := 17) dX1_needOf_5 (by decide) (fun c5 => ?_) (fun c5 => ?_)
  · replace hf := zif_t c5 hf
    refine x_iconst (v := -1) dX1_needOf_17 (by decide) ?_
    exact x_iret rfl dX1_needOf_18 (zretI hf)
  · replace hf := zif_f c5 hf
    refine x_aload_n dX1_needOf_8 rfl rfl ?_
    refine x_getS (r := 51) dX1_needOf_9 fl_X1_21 rfl rfl ?_
    refine x_iload_n dX1_needOf_12 rfl rfl ?_
    obtain ⟨v4, hv4, hf⟩ := zbind hf
    refine x_ild dX1_needOf_13 rfl hv4 ?_
    refine x_goto (tgt := 18) dX1_needOf_14 (by decide) ?_
    exact x_iret rfl dX1_needOf_18 (zretI hf)
theorem cc_X1_topicOf {l : Launch} {G : zG} {x1 : Int32}  {M : zMem} {r : Int32} {M1 : zMem} (hf : fX1_topicOf x1 M = some (r, M1)) : Ca l G 1 mX1_topicOf [.ref (G.2.2.1 47), .int x1] M (some (.int r)) M1 := by
  refine Ca.of (by decide +kernel) (Nat.le_of_ble_eq_true rfl) rfl ?_
  rw [fX1_topicOf] at hf
  refine x_aload_n dX1_topicOf_0 rfl rfl ?_
  refine x_iload_n dX1_topicOf_1 rfl rfl ?_
  obtain ⟨r3, M2, hq1, hf⟩ := zb2E hf
  refine x_invVi dX1_topicOf_2 mk_X1_isCall ml_X1_46 (cc_X1_isCall hq1) rfl rfl rfl (Nat.le_of_ble_eq_true rfl) rfl (Nat.le_of_ble_eq_true rfl) rfl ?_
  refine x_if_eq (tgt := 17) dX1_topicOf_5 (by decide) (fun c5 => ?_) (fun c5 => ?_)
  · replace hf := zif_t c5 hf
    refine x_iconst (v := -1) dX1_topicOf_17 (by decide) ?_
    exact x_iret rfl dX1_topicOf_18 (zretI hf)
  · replace hf := zif_f c5 hf
    refine x_aload_n dX1_topicOf_8 rfl rfl ?_
    refine x_getS (r := 52) dX1_topicOf_9 fl_X1_24 rfl rfl ?_
    refine x_iload_n dX1_topicOf_12 rfl rfl ?_
    obtain ⟨v4, hv4, hf⟩ := zbind hf
    refine x_ild dX1_topicOf_13 rfl hv4 ?_
    refine x_goto (tgt := 18) dX1_topicOf_14 (by decide) ?_
    exact x_iret rfl dX1_topicOf_18 (zretI hf)
theorem cc_X1_lengthOf {l : Launch} {G : zG} {x1 : Int32}  {M : zMem} {r : Int32} {M1 : zMem} (hf : fX1_lengthOf x1 M = some (r, M1)) : Ca l G 1 mX1_lengthOf [.ref (G.2.2.1 47), .int x1] M (some (.int r)) M1 := by
  refine Ca.of (by decide +kernel) (Nat.le_of_ble_eq_true rfl) rfl ?_
  rw [fX1_lengthOf] at hf
  refine x_aload_n dX1_lengthOf_0 rfl rfl ?_
  refine x_iload_n dX1_lengthOf_1 rfl rfl ?_
  obtain ⟨r3, M2, hq1, hf⟩ := zb2E hf
  refine x_invVi dX1_lengthOf_2 mk_X1_isCall ml_X1_46 (cc_X1_isCall hq1) rfl rfl rfl (Nat.le_of_ble_eq_true rfl) rfl (Nat.le_of_ble_eq_true rfl) rfl ?_
  refine x_if_eq (tgt := 17) dX1_lengthOf_5 (by decide) (fun c5 => ?_) (fun c5 => ?_)
  · replace hf := zif_t c5 hf
    refine x_iconst (v := 0) dX1_lengthOf_17 (by decide) ?_
    exact x_iret rfl dX1_lengthOf_18 (zretI hf)
  · replace hf := zif_f c5 hf
    refine x_aload_n dX1_lengthOf_8 rfl rfl ?_
    refine x_getS (r := 53) dX1_lengthOf_9 fl_X1_27 rfl rfl ?_
    refine x_iload_n dX1_lengthOf_12 rfl rfl ?_
    obtain ⟨v4, hv4, hf⟩ := zbind hf
    refine x_ild dX1_lengthOf_13 rfl hv4 ?_
    refine x_goto (tgt := 18) dX1_lengthOf_14 (by decide) ?_
    exact x_iret rfl dX1_lengthOf_18 (zretI hf)
theorem cc_X1_stateOf {l : Launch} {G : zG} {x1 : Int32}  {M : zMem} {r : Int32} {M1 : zMem} (hf : fX1_stateOf x1 M = some (r, M1)) : Ca l G 1 mX1_stateOf [.ref (G.2.2.1 47), .int x1] M (some (.int r)) M1 := by
  refine Ca.of (by decide +kernel) (Nat.le_of_ble_eq_true rfl) rfl ?_
  rw [fX1_stateOf] at hf
  refine x_aload_n dX1_stateOf_0 rfl rfl ?_
  refine x_iload_n dX1_stateOf_1 rfl rfl ?_
  obtain ⟨r3, M2, hq1, hf⟩ := zb2E hf
  refine x_invVi dX1_stateOf_2 mk_X1_isCall ml_X1_46 (cc_X1_isCall hq1) rfl rfl rfl (Nat.le_of_ble_eq_true rfl) rfl (Nat.le_of_ble_eq_true rfl) rfl ?_
  refine x_if_eq (tgt := 17) dX1_stateOf_5 (by decide) (fun c5 => ?_) (fun c5 => ?_)
  · replace hf := zif_t c5 hf
    refine x_iconst (v := -1) dX1_stateOf_17 (by decide) ?_
    exact x_iret rfl dX1_stateOf_18 (zretI hf)
  · replace hf := zif_f c5 hf
    refine x_aload_n dX1_stateOf_8 rfl rfl ?_
    refine x_getS (r := 54) dX1_stateOf_9 fl_X1_30 rfl rfl ?_
    refine x_iload_n dX1_stateOf_12 rfl rfl ?_
    obtain ⟨v4, hv4, hf⟩ := zbind hf
    refine x_ild dX1_stateOf_13 rfl hv4 ?_
    refine x_goto (tgt := 18) dX1_stateOf_14 (by decide) ?_
    exact x_iret rfl dX1_stateOf_18 (zretI hf)
theorem cc_X1_takerOf {l : Launch} {G : zG} {x1 : Int32}  {M : zMem} {r : Int32} {M1 : zMem} (hf : fX1_takerOf x1 M = some (r, M1)) : Ca l G 1 mX1_takerOf [.ref (G.2.2.1 47), .int x1] M (some (.int r)) M1 := by
  refine Ca.of (by decide +kernel) (Nat.le_of_ble_eq_true rfl) rfl ?_
  rw [fX1_takerOf] at hf
  refine x_aload_n dX1_takerOf_0 rfl rfl ?_
  refine x_iload_n dX1_takerOf_1 rfl rfl ?_
  obtain ⟨r3, M2, hq1, hf⟩ := zb2E hf
  refine x_invVi dX1_takerOf_2 mk_X1_isCall ml_X1_46 (cc_X1_isCall hq1) rfl rfl rfl (Nat.le_of_ble_eq_true rfl) rfl (Nat.le_of_ble_eq_true rfl) rfl ?_
  refine x_if_eq (tgt := 17) dX1_takerOf_5 (by decide) (fun c5 => ?_) (fun c5 => ?_)
  · replace hf := zif_t c5 hf
    refine x_iconst (v := -1) dX1_takerOf_17 (by decide) ?_
    exact x_iret rfl dX1_takerOf_18 (zretI hf)
  · replace hf := zif_f c5 hf
    refine x_aload_n dX1_takerOf_8 rfl rfl ?_
    refine x_getS (r := 55) dX1_takerOf_9 fl_X1_33 rfl rfl ?_
    refine x_iload_n dX1_takerOf_12 rfl rfl ?_
    obtain ⟨v4, hv4, hf⟩ := zbind hf
    refine x_ild dX1_takerOf_13 rfl hv4 ?_
    refine x_goto (tgt := 18) dX1_takerOf_14 (by decide) ?_
    exact x_iret rfl dX1_takerOf_18 (zretI hf)
theorem cc_X1_sinceOf {l : Launch} {G : zG} {x1 : Int32}  {M : zMem} {r : Int32} {M1 : zMem} (hf : fX1_sinceOf x1 M = some (r, M1)) : Ca l G 1 mX1_sinceOf [.ref (G.2.2.1 47), .int x1] M (some (.int r)) M1 := by
  refine Ca.of (by decide +kernel) (Nat.le_of_ble_eq_true rfl) rfl ?_
  rw [fX1_sinceOf] at hf
  refine x_aload_n dX1_sinceOf_0 rfl rfl ?_
  refine x_iload_n dX1_sinceOf_1 rfl rfl ?_
  obtain ⟨r3, M2, hq1, hf⟩ := zb2E hf
  refine x_invVi dX1_sinceOf_2 mk_X1_isCall ml_X1_46 (cc_X1_isCall hq1) rfl rfl rfl (Nat.le_of_ble_eq_true rfl) rfl (Nat.le_of_ble_eq_true rfl) rfl ?_
  refine x_if_eq (tgt := 17) dX1_sinceOf_5 (by decide) (fun c5 => ?_) (fun c5 => ?_)
  · replace hf := zif_t c5 hf
    refine x_iconst (v := -1) dX1_sinceOf_17 (by decide) ?_
    exact x_iret rfl dX1_sinceOf_18 (zretI hf)
  · replace hf := zif_f c5 hf
    refine x_aload_n dX1_sinceOf_8 rfl rfl ?_
    refine x_getS (r := 56) dX1_sinceOf_9 fl_X1_36 rfl rfl ?_
    refine x_iload_n dX1_sinceOf_12 rfl rfl ?_
    obtain ⟨v4, hv4, hf⟩ := zbind hf
    refine x_ild dX1_sinceOf_13 rfl hv4 ?_
    refine x_goto (tgt := 18) dX1_sinceOf_14 (by decide) ?_
    exact x_iret rfl dX1_sinceOf_18 (zretI hf)
theorem cc_X1_endOf {l : Launch} {G : zG} {x1 : Int32}  {M : zMem} {r : Int32} {M1 : zMem} (hf : fX1_endOf x1 M = some (r, M1)) : Ca l G 1 mX1_endOf [.ref (G.2.2.1 47), .int x1] M (some (.int r)) M1 := by
  refine Ca.of (by decide +kernel) (Nat.le_of_ble_eq_true rfl) rfl ?_
  rw [fX1_endOf] at hf
  refine x_aload_n dX1_endOf_0 rfl rfl ?_
  refine x_iload_n dX1_endOf_1 rfl rfl ?_
  obtain ⟨r3, M2, hq1, hf⟩ := zb2E hf
  refine x_invVi dX1_endOf_2 mk_X1_isCall ml_X1_46 (cc_X1_isCall hq1) rfl rfl rfl (Nat.le_of_ble_eq_true rfl) rfl (Nat.le_of_ble_eq_true rfl) rfl ?_
  refine x_if_eq (tgt := 34) dX1_endOf_5 (by decide) (fun c5 => ?_) (fun c5 => ?_)
  · replace hf := zif_t c5 hf
    refine x_iconst (v := -1) dX1_endOf_34 (by decide) ?_
    exact x_iret rfl dX1_endOf_35 (zretI hf)
  · replace hf := zif_f c5 hf
    refine x_aload_n dX1_endOf_8 rfl rfl ?_
    refine x_getS (r := 54) dX1_endOf_9 fl_X1_30 rfl rfl ?_
    refine x_iload_n dX1_endOf_12 rfl rfl ?_
    obtain ⟨v4, hv4, hf⟩ := zbind hf
    refine x_ild dX1_endOf_13 rfl hv4 ?_
    refine x_iconst (v := 1) dX1_endOf_14 (by decide) ?_
    refine x_icmp_ne (tgt := 34) dX1_endOf_15 (by decide) (fun c15 => ?_) (fun c15 => ?_)
    · replace hf := zif_f c15 hf
      refine x_iconst (v := -1) dX1_endOf_34 (by decide) ?_
      exact x_iret rfl dX1_endOf_35 (zretI hf)
    · replace hf := zif_t c15 hf
      refine x_aload_n dX1_endOf_18 rfl rfl ?_
      refine x_getS (r := 56) dX1_endOf_19 fl_X1_36 rfl rfl ?_
      refine x_iload_n dX1_endOf_22 rfl rfl ?_
      obtain ⟨v5, hv5, hf⟩ := zbind hf
      refine x_ild dX1_endOf_23 rfl hv5 ?_
      refine x_aload_n dX1_endOf_24 rfl rfl ?_
      refine x_getS (r := 53) dX1_endOf_25 fl_X1_27 rfl rfl ?_
      refine x_iload_n dX1_endOf_28 rfl rfl ?_
      obtain ⟨v6, hv6, hf⟩ := zbind hf
      refine x_ild dX1_endOf_29 rfl hv6 ?_
      refine x_iadd dX1_endOf_30 ?_
      refine x_goto (tgt := 35) dX1_endOf_31 (by decide) ?_
      exact x_iret rfl dX1_endOf_35 (zretI hf)
theorem cc_X1_isWaiting {l : Launch} {G : zG} {x1 : Int32} {x2 : Int32}  {M : zMem} {r : Int32} {M1 : zMem} (hf : fX1_isWaiting x1 x2 M = some (r, M1)) : Ca l G 1 mX1_isWaiting [.ref (G.2.2.1 47), .int x1, .int x2] M (some (.int r)) M1 := by
  refine Ca.of (by decide +kernel) (Nat.le_of_ble_eq_true rfl) rfl ?_
  rw [fX1_isWaiting] at hf
  refine x_aload_n dX1_isWaiting_0 rfl rfl ?_
  refine x_iload_n dX1_isWaiting_1 rfl rfl ?_
  obtain ⟨r3, M2, hq1, hf⟩ := zb2E hf
  refine x_invVi dX1_isWaiting_2 mk_X1_isCall ml_X1_46 (cc_X1_isCall hq1) rfl rfl rfl (Nat.le_of_ble_eq_true rfl) rfl (Nat.le_of_ble_eq_true rfl) rfl ?_
  refine x_if_eq (tgt := 31) dX1_isWaiting_5 (by decide) (fun c5 => ?_) (fun c5 => ?_)
  · replace hf := zif_t c5 hf
    refine x_iconst (v := 0) dX1_isWaiting_31 (by decide) ?_
    exact x_zret rfl rfl dX1_isWaiting_32 (zretI hf)
  · replace hf := zif_f c5 hf
    refine x_aload_n dX1_isWaiting_8 rfl rfl ?_
    refine x_getS (r := 54) dX1_isWaiting_9 fl_X1_30 rfl rfl ?_
    refine x_iload_n dX1_isWaiting_12 rfl rfl ?_
    obtain ⟨v4, hv4, hf⟩ := zbind hf
    refine x_ild dX1_isWaiting_13 rfl hv4 ?_
    refine x_if_ne (tgt := 31) dX1_isWaiting_14 (by decide) (fun c14 => ?_) (fun c14 => ?_)
    · replace hf := zif_f c14 hf
      refine x_iconst (v := 0) dX1_isWaiting_31 (by decide) ?_
      exact x_zret rfl rfl dX1_isWaiting_32 (zretI hf)
    · replace hf := zif_t c14 hf
      refine x_aload_n dX1_isWaiting_17 rfl rfl ?_
      refine x_getS (r := 49) dX1_isWaiting_18 fl_X1_15 rfl rfl ?_
      refine x_iload_n dX1_isWaiting_21 rfl rfl ?_
      obtain ⟨v5, hv5, hf⟩ := zbind hf
      refine x_ild dX1_isWaiting_22 rfl hv5 ?_
      refine x_iload_n dX1_isWaiting_23 rfl rfl ?_
      refine x_icmp_gt (tgt := 31) dX1_isWaiting_24 (by decide) (fun c24 => ?_) (fun c24 => ?_)
      · replace hf := zif_t c24 hf
        refine x_iconst (v := 0) dX1_isWaiting_31 (by decide) ?_
        exact x_zret rfl rfl dX1_isWaiting_32 (zretI hf)
      · replace hf := zif_f c24 hf
        refine x_iconst (v := 1) dX1_isWaiting_27 (by decide) ?_
        refine x_goto (tgt := 32) dX1_isWaiting_28 (by decide) ?_
        exact x_zret rfl rfl dX1_isWaiting_32 (zretI hf)
theorem cc_X1_give {l : Launch} {G : zG} {x1 : Int32} {x2 : Int32} {x3 : Int32}  {M : zMem} {M1 : zMem} (hf : fX1_give x1 x2 x3 M = some M1) : Ca l G 1 mX1_give [.ref (G.2.2.1 47), .int x1, .int x2, .int x3] M none M1 := by
  refine Ca.of (by decide +kernel) (Nat.le_of_ble_eq_true rfl) rfl ?_
  rw [fX1_give] at hf
  refine x_aload_n dX1_give_0 rfl rfl ?_
  refine x_iload_n dX1_give_1 rfl rfl ?_
  obtain ⟨r3, M2, hq1, hf⟩ := zb2E hf
  refine x_invVi dX1_give_2 mk_X1_isCall ml_X1_46 (cc_X1_isCall hq1) rfl rfl rfl (Nat.le_of_ble_eq_true rfl) rfl (Nat.le_of_ble_eq_true rfl) rfl ?_
  refine x_if_eq (tgt := 29) dX1_give_5 (by decide) (fun c5 => ?_) (fun c5 => ?_)
  · replace hf := zif_t c5 hf
    exact x_vret rfl dX1_give_29 (zretV hf)
  · replace hf := zif_f c5 hf
    refine x_aload_n dX1_give_8 rfl rfl ?_
    refine x_getS (r := 54) dX1_give_9 fl_X1_30 rfl rfl ?_
    refine x_iload_n dX1_give_12 rfl rfl ?_
    refine x_iconst (v := 1) dX1_give_13 (by decide) ?_
    obtain ⟨M4, hM4, hf⟩ := zbind hf
    refine x_ist dX1_give_14 rfl hM4 ?_
    refine x_aload_n dX1_give_15 rfl rfl ?_
    refine x_getS (r := 55) dX1_give_16 fl_X1_33 rfl rfl ?_
    refine x_iload_n dX1_give_19 rfl rfl ?_
    refine x_iload_n dX1_give_20 rfl rfl ?_
    obtain ⟨M5, hM5, hf⟩ := zbind hf
    refine x_ist dX1_give_21 rfl hM5 ?_
    refine x_aload_n dX1_give_22 rfl rfl ?_
    refine x_getS (r := 56) dX1_give_23 fl_X1_36 rfl rfl ?_
    refine x_iload_n dX1_give_26 rfl rfl ?_
    refine x_iload_n dX1_give_27 rfl rfl ?_
    obtain ⟨M6, hM6, hf⟩ := zbind hf
    refine x_ist dX1_give_28 rfl hM6 ?_
    exact x_vret rfl dX1_give_29 (zretV hf)
theorem cc_X1_drop {l : Launch} {G : zG} {x1 : Int32} {x2 : Int32}  {M : zMem} {M1 : zMem} (hf : fX1_drop x1 x2 M = some M1) : Ca l G 1 mX1_drop [.ref (G.2.2.1 47), .int x1, .int x2] M none M1 := by
  refine Ca.of (by decide +kernel) (Nat.le_of_ble_eq_true rfl) rfl ?_
  rw [fX1_drop] at hf
  refine x_aload_n dX1_drop_0 rfl rfl ?_
  refine x_iload_n dX1_drop_1 rfl rfl ?_
  obtain ⟨r3, M2, hq1, hf⟩ := zb2E hf
  refine x_invVi dX1_drop_2 mk_X1_isCall ml_X1_46 (cc_X1_isCall hq1) rfl rfl rfl (Nat.le_of_ble_eq_true rfl) rfl (Nat.le_of_ble_eq_true rfl) rfl ?_
  refine x_if_eq (tgt := 22) dX1_drop_5 (by decide) (fun c5 => ?_) (fun c5 => ?_)
  · replace hf := zif_t c5 hf
    exact x_vret rfl dX1_drop_22 (zretV hf)
  · replace hf := zif_f c5 hf
    refine x_aload_n dX1_drop_8 rfl rfl ?_
    refine x_getS (r := 54) dX1_drop_9 fl_X1_30 rfl rfl ?_
    refine x_iload_n dX1_drop_12 rfl rfl ?_
    refine x_iconst (v := 2) dX1_drop_13 (by decide) ?_
    obtain ⟨M4, hM4, hf⟩ := zbind hf
    refine x_ist dX1_drop_14 rfl hM4 ?_
    refine x_aload_n dX1_drop_15 rfl rfl ?_
    refine x_getS (r := 56) dX1_drop_16 fl_X1_36 rfl rfl ?_
    refine x_iload_n dX1_drop_19 rfl rfl ?_
    refine x_iload_n dX1_drop_20 rfl rfl ?_
    obtain ⟨M5, hM5, hf⟩ := zbind hf
    refine x_ist dX1_drop_21 rfl hM5 ?_
    exact x_vret rfl dX1_drop_22 (zretV hf)
theorem cc_X1_leave {l : Launch} {G : zG} {x1 : Int32}  {M : zMem} {M1 : zMem} (hf : fX1_leave x1 M = some M1) : Ca l G 1 mX1_leave [.ref (G.2.2.1 47), .int x1] M none M1 := by
  refine Ca.of (by decide +kernel) (Nat.le_of_ble_eq_true rfl) rfl ?_
  rw [fX1_leave] at hf
  refine x_aload_n dX1_leave_0 rfl rfl ?_
  refine x_iload_n dX1_leave_1 rfl rfl ?_
  obtain ⟨r3, M2, hq1, hf⟩ := zb2E hf
  refine x_invVi dX1_leave_2 mk_X1_isCall ml_X1_46 (cc_X1_isCall hq1) rfl rfl rfl (Nat.le_of_ble_eq_true rfl) rfl (Nat.le_of_ble_eq_true rfl) rfl ?_
  refine x_if_eq (tgt := 15) dX1_leave_5 (by decide) (fun c5 => ?_) (fun c5 => ?_)
  · replace hf := zif_t c5 hf
    exact x_vret rfl dX1_leave_15 (zretV hf)
  · replace hf := zif_f c5 hf
    refine x_aload_n dX1_leave_8 rfl rfl ?_
    refine x_getS (r := 54) dX1_leave_9 fl_X1_30 rfl rfl ?_
    refine x_iload_n dX1_leave_12 rfl rfl ?_
    refine x_iconst (v := 3) dX1_leave_13 (by decide) ?_
    obtain ⟨M4, hM4, hf⟩ := zbind hf
    refine x_ist dX1_leave_14 rfl hM4 ?_
    exact x_vret rfl dX1_leave_15 (zretV hf)
theorem cc_X1_countState_L25 {l : Launch} {G : zG} {N : Nat} {k4 : Int32 → Int32 → Int32 → zMem → Option (Int32 × zMem)} (hk4 : ∀ {x1 : Int32} {x2 : Int32} {x3 : Int32} {M : zMem} {r : Int32} {M1 : zMem}, k4 x1 x2 x3 M = some (r, M1) → Ex l G 0 mX1_countState 4 [(0, .ref (G.2.2.1 47)), (1, .int x1), (2, .int x2), (3, .int x3)] [] M (zqI r M1)) {x1 : Int32} {x2 : Int32} {x3 : Int32} {M : zMem} {r : Int32} {M1 : zMem} (hf : fX1_countState_L25 N k4 x1 x2 x3 M = some (r, M1)) : Ex l G 0 mX1_countState 25 [(0, .ref (G.2.2.1 47)), (1, .int x1), (2, .int x2), (3, .int x3)] [] M (zqI r M1) := by
  rw [fX1_countState_L25] at hf
  obtain ⟨x3_3, ex3_3, hf⟩ := zletE hf
  refine x_iinc (c0 := 1) dX1_countState_25 rfl (Nat.le_of_ble_eq_true rfl) (by decide) ex3_3 ?_
  refine x_goto (tgt := 4) dX1_countState_28 (by decide) ?_
  exact Ex.sb (hk4 hf) ⟨rfl, rfl, rfl, rfl, trivial⟩
theorem cc_X1_countState_L4 {l : Launch} {G : zG} {N : Nat} : ∀ {n : Nat} {x1 : Int32} {x2 : Int32} {x3 : Int32} {M : zMem} {r : Int32} {M1 : zMem}, fX1_countState_L4 N n x1 x2 x3 M = some (r, M1) → Ex l G 0 mX1_countState 4 [(0, .ref (G.2.2.1 47)), (1, .int x1), (2, .int x2), (3, .int x3)] [] M (zqI r M1) := by
  intro n
  induction n with
  | zero => intro x1 x2 x3 M r M1 hf; cases hf
  | succ n ih =>
    intro x1 x2 x3 M r M1 hf
    rw [fX1_countState_L4] at hf
    refine x_iload_n dX1_countState_4 rfl rfl ?_
    refine x_aload_n dX1_countState_5 rfl rfl ?_
    refine x_getI dX1_countState_6 fl_X1_39 rfl rfl ?_
    refine x_icmp_ge (tgt := 31) dX1_countState_9 (by decide) (fun c9 => ?_) (fun c9 => ?_)
    · replace hf := zif_t c9 hf
      refine x_iload_n dX1_countState_31 rfl rfl ?_
      exact x_iret rfl dX1_countState_32 (zretI hf)
    · replace hf := zif_f c9 hf
      refine x_aload_n dX1_countState_12 rfl rfl ?_
      refine x_getS (r := 54) dX1_countState_13 fl_X1_30 rfl rfl ?_
      refine x_iload_n dX1_countState_16 rfl rfl ?_
      obtain ⟨v1, hv1, hf⟩ := zbind hf
      refine x_ild dX1_countState_17 rfl hv1 ?_
      refine x_iload_n dX1_countState_18 rfl rfl ?_
      refine x_icmp_ne (tgt := 25) dX1_countState_19 (by decide) (fun c19 => ?_) (fun c19 => ?_)
      · replace hf := zif_f c19 hf
        exact Ex.sb (cc_X1_countState_L25 ih hf) ⟨rfl, rfl, rfl, rfl, trivial⟩
      · replace hf := zif_t c19 hf
        obtain ⟨x2_2, ex2_2, hf⟩ := zletE hf
        refine x_iinc (c0 := 1) dX1_countState_22 rfl (Nat.le_of_ble_eq_true rfl) (by decide) ex2_2 ?_
        exact Ex.sb (cc_X1_countState_L25 ih hf) ⟨rfl, rfl, rfl, rfl, trivial⟩
theorem cc_X1_countState {l : Launch} {G : zG} {N : Nat} {x1 : Int32}  {M : zMem} {r : Int32} {M1 : zMem} (hf : fX1_countState N x1 M = some (r, M1)) : Ca l G 0 mX1_countState [.ref (G.2.2.1 47), .int x1] M (some (.int r)) M1 := by
  refine Ca.of (by decide +kernel) (Nat.le_of_ble_eq_true rfl) rfl ?_
  rw [fX1_countState] at hf
  refine x_iconst (v := 0) dX1_countState_0 (by decide) ?_
  refine x_istore_n dX1_countState_1 rfl (Nat.le_of_ble_eq_true rfl) rfl ?_
  refine x_iconst (v := 0) dX1_countState_2 (by decide) ?_
  refine x_istore_n dX1_countState_3 rfl (Nat.le_of_ble_eq_true rfl) rfl ?_
  exact Ex.sb (cc_X1_countState_L4  hf) ⟨rfl, rfl, rfl, rfl, trivial⟩
theorem cc_X1_minutesOf_L46 {l : Launch} {G : zG} {N : Nat} {k5 : Int32 → Int32 → Int32 → Int32 → zMem → Option (Int32 × zMem)} (hk5 : ∀ {x1 : Int32} {x2 : Int32} {x3 : Int32} {x4 : Int32} {M : zMem} {r : Int32} {M1 : zMem}, k5 x1 x2 x3 x4 M = some (r, M1) → Ex l G 0 mX1_minutesOf 5 [(0, .ref (G.2.2.1 47)), (1, .int x1), (2, .int x2), (3, .int x3), (4, .int x4)] [] M (zqI r M1)) {x1 : Int32} {x2 : Int32} {x3 : Int32} {x4 : Int32} {M : zMem} {r : Int32} {M1 : zMem} (hf : fX1_minutesOf_L46 N k5 x1 x2 x3 x4 M = some (r, M1)) : Ex l G 0 mX1_minutesOf 46 [(0, .ref (G.2.2.1 47)), (1, .int x1), (2, .int x2), (3, .int x3), (4, .int x4)] [] M (zqI r M1) := by
  rw [fX1_minutesOf_L46] at hf
  obtain ⟨x4_5, ex4_5, hf⟩ := zletE hf
  refine x_iinc (c0 := 1) dX1_minutesOf_46 rfl (Nat.le_of_ble_eq_true rfl) (by decide) ex4_5 ?_
  refine x_goto (tgt := 5) dX1_minutesOf_49 (by decide) ?_
  exact Ex.sb (hk5 hf) ⟨rfl, rfl, rfl, rfl, rfl, trivial⟩
theorem cc_X1_minutesOf_L5 {l : Launch} {G : zG} {N : Nat} : ∀ {n : Nat} {x1 : Int32} {x2 : Int32} {x3 : Int32} {x4 : Int32} {M : zMem} {r : Int32} {M1 : zMem}, fX1_minutesOf_L5 N n x1 x2 x3 x4 M = some (r, M1) → Ex l G 0 mX1_minutesOf 5 [(0, .ref (G.2.2.1 47)), (1, .int x1), (2, .int x2), (3, .int x3), (4, .int x4)] [] M (zqI r M1) := by
  intro n
  induction n with
  | zero => intro x1 x2 x3 x4 M r M1 hf; cases hf
  | succ n ih =>
    intro x1 x2 x3 x4 M r M1 hf
    rw [fX1_minutesOf_L5] at hf
    refine x_iload dX1_minutesOf_5 rfl ?_
    refine x_aload_n dX1_minutesOf_7 rfl rfl ?_
    refine x_getI dX1_minutesOf_8 fl_X1_39 rfl rfl ?_
    refine x_icmp_ge (tgt := 52) dX1_minutesOf_11 (by decide) (fun c11 => ?_) (fun c11 => ?_)
    · replace hf := zif_t c11 hf
      refine x_iload_n dX1_minutesOf_52 rfl rfl ?_
      exact x_iret rfl dX1_minutesOf_53 (zretI hf)
    · replace hf := zif_f c11 hf
      refine x_aload_n dX1_minutesOf_14 rfl rfl ?_
      refine x_getS (r := 48) dX1_minutesOf_15 fl_X1_11 rfl rfl ?_
      refine x_iload dX1_minutesOf_18 rfl ?_
      obtain ⟨v1, hv1, hf⟩ := zbind hf
      refine x_ild dX1_minutesOf_20 rfl hv1 ?_
      refine x_iload_n dX1_minutesOf_21 rfl rfl ?_
      refine x_icmp_ne (tgt := 46) dX1_minutesOf_22 (by decide) (fun c22 => ?_) (fun c22 => ?_)
      · replace hf := zif_f c22 hf
        exact Ex.sb (cc_X1_minutesOf_L46 ih hf) ⟨rfl, rfl, rfl, rfl, rfl, trivial⟩
      · replace hf := zif_t c22 hf
        refine x_aload_n dX1_minutesOf_25 rfl rfl ?_
        refine x_getS (r := 55) dX1_minutesOf_26 fl_X1_33 rfl rfl ?_
        refine x_iload dX1_minutesOf_29 rfl ?_
        obtain ⟨v2, hv2, hf⟩ := zbind hf
        refine x_ild dX1_minutesOf_31 rfl hv2 ?_
        refine x_iload_n dX1_minutesOf_32 rfl rfl ?_
        refine x_icmp_ne (tgt := 46) dX1_minutesOf_33 (by decide) (fun c33 => ?_) (fun c33 => ?_)
        · replace hf := zif_f c33 hf
          exact Ex.sb (cc_X1_minutesOf_L46 ih hf) ⟨rfl, rfl, rfl, rfl, rfl, trivial⟩
        · replace hf := zif_t c33 hf
          refine x_iload_n dX1_minutesOf_36 rfl rfl ?_
          refine x_aload_n dX1_minutesOf_37 rfl rfl ?_
          refine x_getS (r := 53) dX1_minutesOf_38 fl_X1_27 rfl rfl ?_
          refine x_iload dX1_minutesOf_41 rfl ?_
          obtain ⟨v3, hv3, hf⟩ := zbind hf
          refine x_ild dX1_minutesOf_43 rfl hv3 ?_
          refine x_iadd dX1_minutesOf_44 ?_
          obtain ⟨x3_4, ex3_4, hf⟩ := zletE hf
          refine x_istore_n dX1_minutesOf_45 rfl (Nat.le_of_ble_eq_true rfl) ex3_4 ?_
          exact Ex.sb (cc_X1_minutesOf_L46 ih hf) ⟨rfl, rfl, rfl, rfl, rfl, trivial⟩
theorem cc_X1_minutesOf {l : Launch} {G : zG} {N : Nat} {x1 : Int32} {x2 : Int32}  {M : zMem} {r : Int32} {M1 : zMem} (hf : fX1_minutesOf N x1 x2 M = some (r, M1)) : Ca l G 0 mX1_minutesOf [.ref (G.2.2.1 47), .int x1, .int x2] M (some (.int r)) M1 := by
  refine Ca.of (by decide +kernel) (Nat.le_of_ble_eq_true rfl) rfl ?_
  rw [fX1_minutesOf] at hf
  refine x_iconst (v := 0) dX1_minutesOf_0 (by decide) ?_
  refine x_istore_n dX1_minutesOf_1 rfl (Nat.le_of_ble_eq_true rfl) rfl ?_
  refine x_iconst (v := 0) dX1_minutesOf_2 (by decide) ?_
  refine x_istore dX1_minutesOf_3 (Nat.le_of_ble_eq_true rfl) rfl ?_
  exact Ex.sb (cc_X1_minutesOf_L5  hf) ⟨rfl, rfl, rfl, rfl, rfl, trivial⟩
theorem cc_X1_hasHardCall_L71 {l : Launch} {G : zG} {N : Nat} {k3 : Int32 → Int32 → Int32 → Int32 → zMem → Option (Int32 × zMem)} (hk3 : ∀ {x1 : Int32} {x2 : Int32} {x3 : Int32} {x4 : Int32} {M : zMem} {r : Int32} {M1 : zMem}, k3 x1 x2 x3 x4 M = some (r, M1) → Ex l G 0 mX1_hasHardCall 3 [(0, .ref (G.2.2.1 47)), (1, .int x1), (2, .int x2), (3, .int x3), (4, .int x4)] [] M (zqI r M1)) {x1 : Int32} {x2 : Int32} {x3 : Int32} {x4 : Int32} {M : zMem} {r : Int32} {M1 : zMem} (hf : fX1_hasHardCall_L71 N k3 x1 x2 x3 x4 M = some (r, M1)) : Ex l G 0 mX1_hasHardCall 71 [(0, .ref (G.2.2.1 47)), (1, .int x1), (2, .int x2), (3, .int x3), (4, .int x4)] [] M (zqI r M1) := by
  rw [fX1_hasHardCall_L71] at hf
  obtain ⟨x4_5, ex4_5, hf⟩ := zletE hf
  refine x_iinc (c0 := 1) dX1_hasHardCall_71 rfl (Nat.le_of_ble_eq_true rfl) (by decide) ex4_5 ?_
  refine x_goto (tgt := 3) dX1_hasHardCall_74 (by decide) ?_
  exact Ex.sb (hk3 hf) ⟨rfl, rfl, rfl, rfl, rfl, trivial⟩
theorem cc_X1_hasHardCall_L39 {l : Launch} {G : zG} {N : Nat} {k3 : Int32 → Int32 → Int32 → Int32 → zMem → Option (Int32 × zMem)} (hk3 : ∀ {x1 : Int32} {x2 : Int32} {x3 : Int32} {x4 : Int32} {M : zMem} {r : Int32} {M1 : zMem}, k3 x1 x2 x3 x4 M = some (r, M1) → Ex l G 0 mX1_hasHardCall 3 [(0, .ref (G.2.2.1 47)), (1, .int x1), (2, .int x2), (3, .int x3), (4, .int x4)] [] M (zqI r M1)) {x1 : Int32} {x2 : Int32} {x3 : Int32} {x4 : Int32} {s0 : Int32} {M : zMem} {r : Int32} {M1 : zMem} (hf : fX1_hasHardCall_L39 N k3 x1 x2 x3 x4 s0 M = some (r, M1)) : Ex l G 0 mX1_hasHardCall 39 [(0, .ref (G.2.2.1 47)), (1, .int x1), (2, .int x2), (3, .int x3), (4, .int x4)] [.int s0] M (zqI r M1) := by
  rw [fX1_hasHardCall_L39] at hf
  refine x_istore dX1_hasHardCall_39 (Nat.le_of_ble_eq_true rfl) rfl ?_
  refine x_iload dX1_hasHardCall_41 rfl ?_
  refine x_if_eq (tgt := 71) dX1_hasHardCall_43 (by decide) (fun c43 => ?_) (fun c43 => ?_)
  · replace hf := zif_t c43 hf
    exact Ex.sb (cc_X1_hasHardCall_L71 hk3 hf) ⟨rfl, rfl, rfl, rfl, rfl, trivial⟩
  · replace hf := zif_f c43 hf
    refine x_aload_n dX1_hasHardCall_46 rfl rfl ?_
    refine x_getS (r := 55) dX1_hasHardCall_47 fl_X1_33 rfl rfl ?_
    refine x_iload dX1_hasHardCall_50 rfl ?_
    obtain ⟨v3, hv3, hf⟩ := zbind hf
    refine x_ild dX1_hasHardCall_52 rfl hv3 ?_
    refine x_iload_n dX1_hasHardCall_53 rfl rfl ?_
    refine x_icmp_ne (tgt := 71) dX1_hasHardCall_54 (by decide) (fun c54 => ?_) (fun c54 => ?_)
    · replace hf := zif_f c54 hf
      exact Ex.sb (cc_X1_hasHardCall_L71 hk3 hf) ⟨rfl, rfl, rfl, rfl, rfl, trivial⟩
    · replace hf := zif_t c54 hf
      refine x_aload_n dX1_hasHardCall_57 rfl rfl ?_
      refine x_getS (r := 51) dX1_hasHardCall_58 fl_X1_21 rfl rfl ?_
      refine x_iload dX1_hasHardCall_61 rfl ?_
      obtain ⟨v4, hv4, hf⟩ := zbind hf
      refine x_ild dX1_hasHardCall_63 rfl hv4 ?_
      refine x_bipush (v := 8) dX1_hasHardCall_64 (by decide) ?_
      refine x_icmp_lt (tgt := 71) dX1_hasHardCall_66 (by decide) (fun c66 => ?_) (fun c66 => ?_)
      · replace hf := zif_t c66 hf
        exact Ex.sb (cc_X1_hasHardCall_L71 hk3 hf) ⟨rfl, rfl, rfl, rfl, rfl, trivial⟩
      · replace hf := zif_f c66 hf
        refine x_iconst (v := 1) dX1_hasHardCall_69 (by decide) ?_
        exact x_zret rfl rfl dX1_hasHardCall_70 (zretI hf)
theorem cc_X1_hasHardCall_L38 {l : Launch} {G : zG} {N : Nat} {k3 : Int32 → Int32 → Int32 → Int32 → zMem → Option (Int32 × zMem)} (hk3 : ∀ {x1 : Int32} {x2 : Int32} {x3 : Int32} {x4 : Int32} {M : zMem} {r : Int32} {M1 : zMem}, k3 x1 x2 x3 x4 M = some (r, M1) → Ex l G 0 mX1_hasHardCall 3 [(0, .ref (G.2.2.1 47)), (1, .int x1), (2, .int x2), (3, .int x3), (4, .int x4)] [] M (zqI r M1)) {x1 : Int32} {x2 : Int32} {x3 : Int32} {x4 : Int32} {M : zMem} {r : Int32} {M1 : zMem} (hf : fX1_hasHardCall_L38 N k3 x1 x2 x3 x4 M = some (r, M1)) : Ex l G 0 mX1_hasHardCall 38 [(0, .ref (G.2.2.1 47)), (1, .int x1), (2, .int x2), (3, .int x3), (4, .int x4)] [] M (zqI r M1) := by
  rw [fX1_hasHardCall_L38] at hf
  refine x_iconst (v := 0) dX1_hasHardCall_38 (by decide) ?_
  exact Ex.sb (cc_X1_hasHardCall_L39 hk3 hf) ⟨rfl, rfl, rfl, rfl, rfl, trivial⟩
theorem cc_X1_hasHardCall_L3 {l : Launch} {G : zG} {N : Nat} : ∀ {n : Nat} {x1 : Int32} {x2 : Int32} {x3 : Int32} {x4 : Int32} {M : zMem} {r : Int32} {M1 : zMem}, fX1_hasHardCall_L3 N n x1 x2 x3 x4 M = some (r, M1) → Ex l G 0 mX1_hasHardCall 3 [(0, .ref (G.2.2.1 47)), (1, .int x1), (2, .int x2), (3, .int x3), (4, .int x4)] [] M (zqI r M1) := by
  intro n
  induction n with
  | zero => intro x1 x2 x3 x4 M r M1 hf; cases hf
  | succ n ih =>
    intro x1 x2 x3 x4 M r M1 hf
    rw [fX1_hasHardCall_L3] at hf
    refine x_iload dX1_hasHardCall_3 rfl ?_
    refine x_aload_n dX1_hasHardCall_5 rfl rfl ?_
    refine x_getI dX1_hasHardCall_6 fl_X1_39 rfl rfl ?_
    refine x_icmp_ge (tgt := 77) dX1_hasHardCall_9 (by decide) (fun c9 => ?_) (fun c9 => ?_)
    · replace hf := zif_t c9 hf
      refine x_iconst (v := 0) dX1_hasHardCall_77 (by decide) ?_
      exact x_zret rfl rfl dX1_hasHardCall_78 (zretI hf)
    · replace hf := zif_f c9 hf
      refine x_aload_n dX1_hasHardCall_12 rfl rfl ?_
      refine x_getS (r := 48) dX1_hasHardCall_13 fl_X1_11 rfl rfl ?_
      refine x_iload dX1_hasHardCall_16 rfl ?_
      obtain ⟨v1, hv1, hf⟩ := zbind hf
      refine x_ild dX1_hasHardCall_18 rfl hv1 ?_
      refine x_iload_n dX1_hasHardCall_19 rfl rfl ?_
      refine x_icmp_lt (tgt := 38) dX1_hasHardCall_20 (by decide) (fun c20 => ?_) (fun c20 => ?_)
      · replace hf := zif_t c20 hf
        exact Ex.sb (cc_X1_hasHardCall_L38 ih hf) ⟨rfl, rfl, rfl, rfl, rfl, trivial⟩
      · replace hf := zif_f c20 hf
        refine x_aload_n dX1_hasHardCall_23 rfl rfl ?_
        refine x_getS (r := 48) dX1_hasHardCall_24 fl_X1_11 rfl rfl ?_
        refine x_iload dX1_hasHardCall_27 rfl ?_
        obtain ⟨v2, hv2, hf⟩ := zbind hf
        refine x_ild dX1_hasHardCall_29 rfl hv2 ?_
        refine x_iload_n dX1_hasHardCall_30 rfl rfl ?_
        refine x_icmp_ge (tgt := 38) dX1_hasHardCall_31 (by decide) (fun c31 => ?_) (fun c31 => ?_)
        · replace hf := zif_t c31 hf
          exact Ex.sb (cc_X1_hasHardCall_L38 ih hf) ⟨rfl, rfl, rfl, rfl, rfl, trivial⟩
        · replace hf := zif_f c31 hf
          refine x_iconst (v := 1) dX1_hasHardCall_34 (by decide) ?_
          refine x_goto (tgt := 39) dX1_hasHardCall_35 (by decide) ?_
          exact Ex.sb (cc_X1_hasHardCall_L39 ih hf) ⟨rfl, rfl, rfl, rfl, rfl, trivial⟩
theorem cc_X1_hasHardCall {l : Launch} {G : zG} {N : Nat} {x1 : Int32} {x2 : Int32} {x3 : Int32}  {M : zMem} {r : Int32} {M1 : zMem} (hf : fX1_hasHardCall N x1 x2 x3 M = some (r, M1)) : Ca l G 0 mX1_hasHardCall [.ref (G.2.2.1 47), .int x1, .int x2, .int x3] M (some (.int r)) M1 := by
  refine Ca.of (by decide +kernel) (Nat.le_of_ble_eq_true rfl) rfl ?_
  rw [fX1_hasHardCall] at hf
  refine x_iconst (v := 0) dX1_hasHardCall_0 (by decide) ?_
  refine x_istore dX1_hasHardCall_1 (Nat.le_of_ble_eq_true rfl) rfl ?_
  exact Ex.sb (cc_X1_hasHardCall_L3  hf) ⟨rfl, rfl, rfl, rfl, rfl, trivial⟩
theorem cc_X11_isCaller {l : Launch} {G : zG} {x0 : Int32}  {M : zMem} {r : Int32} {M1 : zMem} (hf : fX11_isCaller x0 M = some (r, M1)) : Ca l G 0 mX11_isCaller [.int x0] M (some (.int r)) M1 := by
  refine Ca.of (by decide +kernel) (Nat.le_of_ble_eq_true rfl) rfl ?_
  rw [fX11_isCaller] at hf
  refine x_iload_n dX11_isCaller_0 rfl rfl ?_
  refine x_if_lt (tgt := 14) dX11_isCaller_1 (by decide) (fun c1 => ?_) (fun c1 => ?_)
  · replace hf := zif_t c1 hf
    refine x_iconst (v := 0) dX11_isCaller_14 (by decide) ?_
    exact x_zret rfl rfl dX11_isCaller_15 (zretI hf)
  · replace hf := zif_f c1 hf
    refine x_iload_n dX11_isCaller_4 rfl rfl ?_
    refine x_bipush (v := 20) dX11_isCaller_5 (by decide) ?_
    refine x_icmp_ge (tgt := 14) dX11_isCaller_7 (by decide) (fun c7 => ?_) (fun c7 => ?_)
    · replace hf := zif_t c7 hf
      refine x_iconst (v := 0) dX11_isCaller_14 (by decide) ?_
      exact x_zret rfl rfl dX11_isCaller_15 (zretI hf)
    · replace hf := zif_f c7 hf
      refine x_iconst (v := 1) dX11_isCaller_10 (by decide) ?_
      refine x_goto (tgt := 15) dX11_isCaller_11 (by decide) ?_
      exact x_zret rfl rfl dX11_isCaller_15 (zretI hf)
theorem cc_X2_begin_L125 {l : Launch} {G : zG} {N : Nat} {k73 : Int32 → zMem → Option zMem} (hk73 : ∀ {x3 : Int32} {M : zMem} {M1 : zMem}, k73 x3 M = some M1 → Ex l G 2 mX2_begin 73 [(0, .ref (G.2.2.1 57)), (3, .int x3)] [] M (zqV M1)) {x3 : Int32} {M : zMem} {M1 : zMem} (hf : fX2_begin_L125 N k73 x3 M = some M1) : Ex l G 2 mX2_begin 125 [(0, .ref (G.2.2.1 57)), (3, .int x3)] [] M (zqV M1) := by
  rw [fX2_begin_L125] at hf
  obtain ⟨x3_24, ex3_24, hf⟩ := zletE hf
  refine x_iinc (c0 := 1) dX2_begin_125 rfl (Nat.le_of_ble_eq_true rfl) (by decide) ex3_24 ?_
  refine x_goto (tgt := 73) dX2_begin_128 (by decide) ?_
  exact Ex.sb (hk73 hf) ⟨rfl, rfl, trivial⟩
theorem cc_X2_begin_L73 {l : Launch} {G : zG} {N : Nat} : ∀ {n : Nat} {x3 : Int32} {M : zMem} {M1 : zMem}, fX2_begin_L73 N n x3 M = some M1 → Ex l G 2 mX2_begin 73 [(0, .ref (G.2.2.1 57)), (3, .int x3)] [] M (zqV M1) := by
  intro n
  induction n with
  | zero => intro x3 M M1 hf; cases hf
  | succ n ih =>
    intro x3 M M1 hf
    rw [fX2_begin_L73] at hf
    refine x_iload_n dX2_begin_73 rfl rfl ?_
    refine x_aload_n dX2_begin_74 rfl rfl ?_
    refine x_getS (r := 47) dX2_begin_75 fl_X2_19 rfl rfl ?_
    obtain ⟨r12, M11, hq10, hf⟩ := zb2E hf
    refine x_invVi dX2_begin_78 mk_X1_nightStart ml_X2_88 (cc_X1_nightStart hq10) rfl rfl rfl (Nat.le_of_ble_eq_true rfl) rfl (Nat.le_of_ble_eq_true rfl) rfl ?_
    refine x_icmp_ge (tgt := 131) dX2_begin_81 (by decide) (fun c81 => ?_) (fun c81 => ?_)
    · replace hf := zif_t c81 hf
      exact x_vret rfl dX2_begin_131 (zretV hf)
    · replace hf := zif_f c81 hf
      refine x_aload_n dX2_begin_84 rfl rfl ?_
      refine x_getS (r := 47) dX2_begin_85 fl_X2_19 rfl rfl ?_
      refine x_iload_n dX2_begin_88 rfl rfl ?_
      obtain ⟨r15, M14, hq13, hf⟩ := zb2E hf
      refine x_invVi dX2_begin_89 mk_X1_callerOf ml_X2_92 (cc_X1_callerOf hq13) rfl rfl rfl (Nat.le_of_ble_eq_true rfl) rfl (Nat.le_of_ble_eq_true rfl) rfl ?_
      refine x_istore dX2_begin_92 (Nat.le_of_ble_eq_true rfl) rfl ?_
      refine x_aload_n dX2_begin_94 rfl rfl ?_
      refine x_getS (r := 47) dX2_begin_95 fl_X2_19 rfl rfl ?_
      refine x_iload_n dX2_begin_98 rfl rfl ?_
      obtain ⟨r18, M17, hq16, hf⟩ := zb2E hf
      refine x_invVi dX2_begin_99 mk_X1_stateOf ml_X2_95 (cc_X1_stateOf hq16) rfl rfl rfl (Nat.le_of_ble_eq_true rfl) rfl (Nat.le_of_ble_eq_true rfl) rfl ?_
      refine x_iconst (v := 1) dX2_begin_102 (by decide) ?_
      refine x_icmp_ne (tgt := 125) dX2_begin_103 (by decide) (fun c103 => ?_) (fun c103 => ?_)
      · replace hf := zif_f c103 hf
        exact Ex.sb (cc_X2_begin_L125 ih hf) ⟨rfl, rfl, trivial⟩
      · replace hf := zif_t c103 hf
        refine x_iload dX2_begin_106 rfl ?_
        obtain ⟨r21, M20, hq19, hf⟩ := zb2E hf
        refine x_invNi (host := "FriendLine") dX2_begin_108 mk_X11_isCaller (List.mem_of_getElem? (i := 4) rfl) (cc_X11_isCaller hq19) (Nat.le_of_ble_eq_true rfl) rfl (Nat.le_of_ble_eq_true rfl) rfl ?_
        refine x_if_eq (tgt := 125) dX2_begin_111 (by decide) (fun c111 => ?_) (fun c111 => ?_)
        · replace hf := zif_t c111 hf
          exact Ex.sb (cc_X2_begin_L125 ih hf) ⟨rfl, rfl, trivial⟩
        · replace hf := zif_f c111 hf
          refine x_aload_n dX2_begin_114 rfl rfl ?_
          refine x_getS (r := 61) dX2_begin_115 fl_X2_39 rfl rfl ?_
          refine x_iload dX2_begin_118 rfl ?_
          refine x_dup2 dX2_begin_120 rfl rfl ?_
          obtain ⟨v22, hv22, hf⟩ := zbind hf
          refine x_ild dX2_begin_121 rfl hv22 ?_
          refine x_iconst (v := 1) dX2_begin_122 (by decide) ?_
          refine x_iadd dX2_begin_123 ?_
          obtain ⟨M23, hM23, hf⟩ := zbind hf
          refine x_ist dX2_begin_124 rfl hM23 ?_
          exact Ex.sb (cc_X2_begin_L125 ih hf) ⟨rfl, rfl, trivial⟩
theorem cc_X2_begin_L52 {l : Launch} {G : zG} {N : Nat} : ∀ {n : Nat} {x3 : Int32} {M : zMem} {M1 : zMem}, fX2_begin_L52 N n x3 M = some M1 → Ex l G 2 mX2_begin 52 [(0, .ref (G.2.2.1 57)), (3, .int x3)] [] M (zqV M1) := by
  intro n
  induction n with
  | zero => intro x3 M M1 hf; cases hf
  | succ n ih =>
    intro x3 M M1 hf
    rw [fX2_begin_L52] at hf
    refine x_iload_n dX2_begin_52 rfl rfl ?_
    refine x_bipush (v := 20) dX2_begin_53 (by decide) ?_
    refine x_icmp_ge (tgt := 71) dX2_begin_55 (by decide) (fun c55 => ?_) (fun c55 => ?_)
    · replace hf := zif_t c55 hf
      refine x_iconst (v := 0) dX2_begin_71 (by decide) ?_
      refine x_istore_n dX2_begin_72 rfl (Nat.le_of_ble_eq_true rfl) rfl ?_
      exact Ex.sb (cc_X2_begin_L73  hf) ⟨rfl, rfl, trivial⟩
    · replace hf := zif_f c55 hf
      refine x_aload_n dX2_begin_58 rfl rfl ?_
      refine x_getS (r := 61) dX2_begin_59 fl_X2_39 rfl rfl ?_
      refine x_iload_n dX2_begin_62 rfl rfl ?_
      refine x_iconst (v := 0) dX2_begin_63 (by decide) ?_
      obtain ⟨M8, hM8, hf⟩ := zbind hf
      refine x_ist dX2_begin_64 rfl hM8 ?_
      obtain ⟨x3_9, ex3_9, hf⟩ := zletE hf
      refine x_iinc (c0 := 1) dX2_begin_65 rfl (Nat.le_of_ble_eq_true rfl) (by decide) ex3_9 ?_
      refine x_goto (tgt := 52) dX2_begin_68 (by decide) ?_
      exact Ex.sb (ih hf) ⟨rfl, rfl, trivial⟩
theorem cc_X2_begin_L17 {l : Launch} {G : zG} {N : Nat} : ∀ {n : Nat} {x3 : Int32} {M : zMem} {M1 : zMem}, fX2_begin_L17 N n x3 M = some M1 → Ex l G 2 mX2_begin 17 [(0, .ref (G.2.2.1 57)), (3, .int x3)] [] M (zqV M1) := by
  intro n
  induction n with
  | zero => intro x3 M M1 hf; cases hf
  | succ n ih =>
    intro x3 M M1 hf
    rw [fX2_begin_L17] at hf
    refine x_iload_n dX2_begin_17 rfl rfl ?_
    refine x_bipush (v := 8) dX2_begin_18 (by decide) ?_
    refine x_icmp_ge (tgt := 50) dX2_begin_20 (by decide) (fun c20 => ?_) (fun c20 => ?_)
    · replace hf := zif_t c20 hf
      refine x_iconst (v := 0) dX2_begin_50 (by decide) ?_
      refine x_istore_n dX2_begin_51 rfl (Nat.le_of_ble_eq_true rfl) rfl ?_
      exact Ex.sb (cc_X2_begin_L52  hf) ⟨rfl, rfl, trivial⟩
    · replace hf := zif_f c20 hf
      refine x_aload_n dX2_begin_23 rfl rfl ?_
      refine x_getS (r := 58) dX2_begin_24 fl_X2_29 rfl rfl ?_
      refine x_iload_n dX2_begin_27 rfl rfl ?_
      refine x_iconst (v := -1) dX2_begin_28 (by decide) ?_
      obtain ⟨M4, hM4, hf⟩ := zbind hf
      refine x_ist dX2_begin_29 rfl hM4 ?_
      refine x_aload_n dX2_begin_30 rfl rfl ?_
      refine x_getS (r := 59) dX2_begin_31 fl_X2_33 rfl rfl ?_
      refine x_iload_n dX2_begin_34 rfl rfl ?_
      refine x_iconst (v := 0) dX2_begin_35 (by decide) ?_
      obtain ⟨M5, hM5, hf⟩ := zbind hf
      refine x_ist dX2_begin_36 rfl hM5 ?_
      refine x_aload_n dX2_begin_37 rfl rfl ?_
      refine x_getS (r := 60) dX2_begin_38 fl_X2_36 rfl rfl ?_
      refine x_iload_n dX2_begin_41 rfl rfl ?_
      refine x_iconst (v := 0) dX2_begin_42 (by decide) ?_
      obtain ⟨M6, hM6, hf⟩ := zbind hf
      refine x_ist dX2_begin_43 rfl hM6 ?_
      obtain ⟨x3_7, ex3_7, hf⟩ := zletE hf
      refine x_iinc (c0 := 1) dX2_begin_44 rfl (Nat.le_of_ble_eq_true rfl) (by decide) ex3_7 ?_
      refine x_goto (tgt := 17) dX2_begin_47 (by decide) ?_
      exact Ex.sb (ih hf) ⟨rfl, rfl, trivial⟩
theorem cc_X2_begin {l : Launch} {G : zG} {N : Nat} {x1 : Int32} {x2 : Nat}  {M : zMem} {M1 : zMem} (hf : fX2_begin N x1 x2 M = some M1) : Ca l G 2 mX2_begin [.ref (G.2.2.1 57), .int x1, .ref (G.2.2.1 x2)] M none M1 := by
  refine Ca.of (by decide +kernel) (Nat.le_of_ble_eq_true rfl) rfl ?_
  rw [fX2_begin] at hf
  refine x_aload_n dX2_begin_0 rfl rfl ?_
  refine x_iload_n dX2_begin_1 rfl rfl ?_
  obtain ⟨M1, eM1, hf⟩ := zletE hf
  refine x_putI dX2_begin_2 fp_X2_55 rfl rfl rfl rfl eM1 ?_
  refine x_aload_n dX2_begin_5 rfl rfl ?_
  refine x_aload_n dX2_begin_6 rfl rfl ?_
  obtain ⟨M2, eM2, hf⟩ := zletE hf
  refine x_putR dX2_begin_7 fp_X2_23 rfl rfl rfl rfl eM2 ?_
  refine x_aload_n dX2_begin_10 rfl rfl ?_
  refine x_iconst (v := 0) dX2_begin_11 (by decide) ?_
  obtain ⟨M3, eM3, hf⟩ := zletE hf
  refine x_putI dX2_begin_12 fp_X2_59 rfl rfl rfl rfl eM3 ?_
  refine x_iconst (v := 0) dX2_begin_15 (by decide) ?_
  refine x_istore_n dX2_begin_16 rfl (Nat.le_of_ble_eq_true rfl) rfl ?_
  exact Ex.sb (cc_X2_begin_L17  hf) ⟨rfl, rfl, trivial⟩
theorem cc_X2_setFacts_L88 {l : Launch} {G : zG} {x4 : Int32} {s1 : Int32} {s2 : Int32} {M : zMem} {M1 : zMem} (hf : fX2_setFacts_L88 x4 s1 s2 M = some M1) : Ex l G 2 mX2_setFacts 88 [(0, .ref (G.2.2.1 57)), (4, .int x4)] [.int s2, .int s1, .ref (G.2.2.1 64)] M (zqV M1) := by
  rw [fX2_setFacts_L88] at hf
  obtain ⟨M21, hM21, hf⟩ := zbind hf
  refine x_ist dX2_setFacts_88 rfl hM21 ?_
  refine x_aload_n dX2_setFacts_89 rfl rfl ?_
  refine x_getS (r := 64) dX2_setFacts_90 fl_X2_52 rfl rfl ?_
  refine x_iconst (v := 5) dX2_setFacts_93 (by decide) ?_
  refine x_iload dX2_setFacts_94 rfl ?_
  obtain ⟨M22, hM22, hf⟩ := zbind hf
  refine x_ist dX2_setFacts_96 rfl hM22 ?_
  exact x_vret rfl dX2_setFacts_97 (zretV hf)
theorem cc_X2_setFacts {l : Launch} {G : zG} {x1 : Int32} {x2 : Int32} {x3 : Int32} {x4 : Int32}  {M : zMem} {M1 : zMem} (hf : fX2_setFacts x1 x2 x3 x4 M = some M1) : Ca l G 2 mX2_setFacts [.ref (G.2.2.1 57), .int x1, .int x2, .int x3, .int x4] M none M1 := by
  refine Ca.of (by decide +kernel) (Nat.le_of_ble_eq_true rfl) rfl ?_
  rw [fX2_setFacts] at hf
  refine x_aload_n dX2_setFacts_0 rfl rfl ?_
  refine x_getS (r := 47) dX2_setFacts_1 fl_X2_19 rfl rfl ?_
  refine x_iload_n dX2_setFacts_4 rfl rfl ?_
  obtain ⟨r3, M2, hq1, hf⟩ := zb2E hf
  refine x_invVi dX2_setFacts_5 mk_X1_callerOf ml_X2_92 (cc_X1_callerOf hq1) rfl rfl rfl (Nat.le_of_ble_eq_true rfl) rfl (Nat.le_of_ble_eq_true rfl) rfl ?_
  refine x_istore dX2_setFacts_8 (Nat.le_of_ble_eq_true rfl) rfl ?_
  refine x_aload_n dX2_setFacts_10 rfl rfl ?_
  refine x_getS (r := 64) dX2_setFacts_11 fl_X2_52 rfl rfl ?_
  refine x_iconst (v := 0) dX2_setFacts_14 (by decide) ?_
  refine x_aload_n dX2_setFacts_15 rfl rfl ?_
  refine x_getS (r := 47) dX2_setFacts_16 fl_X2_19 rfl rfl ?_
  refine x_iload_n dX2_setFacts_19 rfl rfl ?_
  obtain ⟨r6, M5, hq4, hf⟩ := zb2E hf
  refine x_invVi dX2_setFacts_20 mk_X1_needOf ml_X2_133 (cc_X1_needOf hq4) rfl rfl rfl (Nat.le_of_ble_eq_true rfl) rfl (Nat.le_of_ble_eq_true rfl) rfl ?_
  obtain ⟨M7, hM7, hf⟩ := zbind hf
  refine x_ist dX2_setFacts_23 rfl hM7 ?_
  refine x_aload_n dX2_setFacts_24 rfl rfl ?_
  refine x_getS (r := 64) dX2_setFacts_25 fl_X2_52 rfl rfl ?_
  refine x_iconst (v := 1) dX2_setFacts_28 (by decide) ?_
  refine x_aload_n dX2_setFacts_29 rfl rfl ?_
  refine x_getS (r := 47) dX2_setFacts_30 fl_X2_19 rfl rfl ?_
  refine x_iload_n dX2_setFacts_33 rfl rfl ?_
  obtain ⟨r10, M9, hq8, hf⟩ := zb2E hf
  refine x_invVi dX2_setFacts_34 mk_X1_topicOf ml_X2_180 (cc_X1_topicOf hq8) rfl rfl rfl (Nat.le_of_ble_eq_true rfl) rfl (Nat.le_of_ble_eq_true rfl) rfl ?_
  obtain ⟨M11, hM11, hf⟩ := zbind hf
  refine x_ist dX2_setFacts_37 rfl hM11 ?_
  refine x_aload_n dX2_setFacts_38 rfl rfl ?_
  refine x_getS (r := 64) dX2_setFacts_39 fl_X2_52 rfl rfl ?_
  refine x_iconst (v := 2) dX2_setFacts_42 (by decide) ?_
  refine x_iload_n dX2_setFacts_43 rfl rfl ?_
  refine x_aload_n dX2_setFacts_44 rfl rfl ?_
  refine x_getS (r := 47) dX2_setFacts_45 fl_X2_19 rfl rfl ?_
  refine x_iload_n dX2_setFacts_48 rfl rfl ?_
  obtain ⟨r14, M13, hq12, hf⟩ := zb2E hf
  refine x_invVi dX2_setFacts_49 mk_X1_minuteOf ml_X2_183 (cc_X1_minuteOf hq12) rfl rfl rfl (Nat.le_of_ble_eq_true rfl) rfl (Nat.le_of_ble_eq_true rfl) rfl ?_
  refine x_isub dX2_setFacts_52 ?_
  obtain ⟨M15, hM15, hf⟩ := zbind hf
  refine x_ist dX2_setFacts_53 rfl hM15 ?_
  refine x_aload_n dX2_setFacts_54 rfl rfl ?_
  refine x_getS (r := 64) dX2_setFacts_55 fl_X2_52 rfl rfl ?_
  refine x_iconst (v := 3) dX2_setFacts_58 (by decide) ?_
  refine x_iload_n dX2_setFacts_59 rfl rfl ?_
  refine x_bipush (v := 60) dX2_setFacts_60 (by decide) ?_
  refine x_idiv dX2_setFacts_62 (by decide) ?_
  obtain ⟨M16, hM16, hf⟩ := zbind hf
  refine x_ist dX2_setFacts_63 rfl hM16 ?_
  refine x_aload_n dX2_setFacts_64 rfl rfl ?_
  refine x_getS (r := 64) dX2_setFacts_65 fl_X2_52 rfl rfl ?_
  refine x_iconst (v := 4) dX2_setFacts_68 (by decide) ?_
  refine x_iload dX2_setFacts_69 rfl ?_
  obtain ⟨r19, M18, hq17, hf⟩ := zb2E hf
  refine x_invNi (host := "FriendLine") dX2_setFacts_71 mk_X11_isCaller (List.mem_of_getElem? (i := 4) rfl) (cc_X11_isCaller hq17) (Nat.le_of_ble_eq_true rfl) rfl (Nat.le_of_ble_eq_true rfl) rfl ?_
  refine x_if_eq (tgt := 87) dX2_setFacts_74 (by decide) (fun c74 => ?_) (fun c74 => ?_)
  · replace hf := zif_t c74 hf
    refine x_iconst (v := 0) dX2_setFacts_87 (by decide) ?_
    exact Ex.sb (cc_X2_setFacts_L88  hf) ⟨rfl, rfl, trivial⟩
  · replace hf := zif_f c74 hf
    refine x_aload_n dX2_setFacts_77 rfl rfl ?_
    refine x_getS (r := 61) dX2_setFacts_78 fl_X2_39 rfl rfl ?_
    refine x_iload dX2_setFacts_81 rfl ?_
    obtain ⟨v20, hv20, hf⟩ := zbind hf
    refine x_ild dX2_setFacts_83 rfl hv20 ?_
    refine x_goto (tgt := 88) dX2_setFacts_84 (by decide) ?_
    exact Ex.sb (cc_X2_setFacts_L88  hf) ⟨rfl, rfl, trivial⟩
theorem cc_X6_combine {l : Launch} {G : zG} {x0 : Int32} {x1 : Int32} {x2 : Int32}  {M : zMem} {r : Int32} {M1 : zMem} (hf : fX6_combine x0 x1 x2 M = some (r, M1)) : Ca l G 0 mX6_combine [.int x0, .int x1, .int x2] M (some (.int r)) M1 := by
  refine Ca.of (by decide +kernel) (Nat.le_of_ble_eq_true rfl) rfl ?_
  rw [fX6_combine] at hf
  refine x_iload_n dX6_combine_0 rfl rfl ?_
  by_cases c1_13 : x0 = (13 : Int32)
  · replace hf := zif_t c1_13 hf
    refine x_tableIn (tgt := 44) (off := 43) dX6_combine_1 (ztl c1_13 (by decide)) (ztu c1_13 (by decide)) (zto c1_13 (by decide)) (by decide) ?_
    refine x_iload_n dX6_combine_44 rfl rfl ?_
    refine x_iload_n dX6_combine_45 rfl rfl ?_
    refine x_iadd dX6_combine_46 ?_
    exact x_iret rfl dX6_combine_47 (zretI hf)
  · replace hf := zif_f c1_13 hf
    by_cases c1_14 : x0 = (14 : Int32)
    · replace hf := zif_t c1_14 hf
      refine x_tableIn (tgt := 48) (off := 47) dX6_combine_1 (ztl c1_14 (by decide)) (ztu c1_14 (by decide)) (zto c1_14 (by decide)) (by decide) ?_
      refine x_iload_n dX6_combine_48 rfl rfl ?_
      refine x_iload_n dX6_combine_49 rfl rfl ?_
      refine x_isub dX6_combine_50 ?_
      exact x_iret rfl dX6_combine_51 (zretI hf)
    · replace hf := zif_f c1_14 hf
      by_cases c1_15 : x0 = (15 : Int32)
      · replace hf := zif_t c1_15 hf
        refine x_tableIn (tgt := 52) (off := 51) dX6_combine_1 (ztl c1_15 (by decide)) (ztu c1_15 (by decide)) (zto c1_15 (by decide)) (by decide) ?_
        refine x_iload_n dX6_combine_52 rfl rfl ?_
        refine x_iload_n dX6_combine_53 rfl rfl ?_
        refine x_imul dX6_combine_54 ?_
        exact x_iret rfl dX6_combine_55 (zretI hf)
      · replace hf := zif_f c1_15 hf
        by_cases c1_16 : x0 = (16 : Int32)
        · replace hf := zif_t c1_16 hf
          refine x_tableIn (tgt := 56) (off := 55) dX6_combine_1 (ztl c1_16 (by decide)) (ztu c1_16 (by decide)) (zto c1_16 (by decide)) (by decide) ?_
          refine x_iload_n dX6_combine_56 rfl rfl ?_
          refine x_iload_n dX6_combine_57 rfl rfl ?_
          refine x_icmp_ne (tgt := 65) dX6_combine_58 (by decide) (fun c58 => ?_) (fun c58 => ?_)
          · replace hf := zif_f c58 hf
            refine x_iconst (v := 0) dX6_combine_65 (by decide) ?_
            exact x_iret rfl dX6_combine_66 (zretI hf)
          · replace hf := zif_t c58 hf
            refine x_iconst (v := 1) dX6_combine_61 (by decide) ?_
            refine x_goto (tgt := 66) dX6_combine_62 (by decide) ?_
            exact x_iret rfl dX6_combine_66 (zretI hf)
        · replace hf := zif_f c1_16 hf
          by_cases c1_17 : x0 = (17 : Int32)
          · replace hf := zif_t c1_17 hf
            refine x_tableIn (tgt := 67) (off := 66) dX6_combine_1 (ztl c1_17 (by decide)) (ztu c1_17 (by decide)) (zto c1_17 (by decide)) (by decide) ?_
            refine x_iload_n dX6_combine_67 rfl rfl ?_
            refine x_iload_n dX6_combine_68 rfl rfl ?_
            refine x_icmp_eq (tgt := 76) dX6_combine_69 (by decide) (fun c69 => ?_) (fun c69 => ?_)
            · replace hf := zif_t c69 hf
              refine x_iconst (v := 0) dX6_combine_76 (by decide) ?_
              exact x_iret rfl dX6_combine_77 (zretI hf)
            · replace hf := zif_f c69 hf
              refine x_iconst (v := 1) dX6_combine_72 (by decide) ?_
              refine x_goto (tgt := 77) dX6_combine_73 (by decide) ?_
              exact x_iret rfl dX6_combine_77 (zretI hf)
          · replace hf := zif_f c1_17 hf
            by_cases c1_18 : x0 = (18 : Int32)
            · replace hf := zif_t c1_18 hf
              refine x_tableIn (tgt := 78) (off := 77) dX6_combine_1 (ztl c1_18 (by decide)) (ztu c1_18 (by decide)) (zto c1_18 (by decide)) (by decide) ?_
              refine x_iload_n dX6_combine_78 rfl rfl ?_
              refine x_iload_n dX6_combine_79 rfl rfl ?_
              refine x_icmp_ge (tgt := 87) dX6_combine_80 (by decide) (fun c80 => ?_) (fun c80 => ?_)
              · replace hf := zif_t c80 hf
                refine x_iconst (v := 0) dX6_combine_87 (by decide) ?_
                exact x_iret rfl dX6_combine_88 (zretI hf)
              · replace hf := zif_f c80 hf
                refine x_iconst (v := 1) dX6_combine_83 (by decide) ?_
                refine x_goto (tgt := 88) dX6_combine_84 (by decide) ?_
                exact x_iret rfl dX6_combine_88 (zretI hf)
            · replace hf := zif_f c1_18 hf
              by_cases c1_19 : x0 = (19 : Int32)
              · replace hf := zif_t c1_19 hf
                refine x_tableIn (tgt := 89) (off := 88) dX6_combine_1 (ztl c1_19 (by decide)) (ztu c1_19 (by decide)) (zto c1_19 (by decide)) (by decide) ?_
                refine x_iload_n dX6_combine_89 rfl rfl ?_
                refine x_iload_n dX6_combine_90 rfl rfl ?_
                refine x_icmp_gt (tgt := 98) dX6_combine_91 (by decide) (fun c91 => ?_) (fun c91 => ?_)
                · replace hf := zif_t c91 hf
                  refine x_iconst (v := 0) dX6_combine_98 (by decide) ?_
                  exact x_iret rfl dX6_combine_99 (zretI hf)
                · replace hf := zif_f c91 hf
                  refine x_iconst (v := 1) dX6_combine_94 (by decide) ?_
                  refine x_goto (tgt := 99) dX6_combine_95 (by decide) ?_
                  exact x_iret rfl dX6_combine_99 (zretI hf)
              · replace hf := zif_f c1_19 hf
                refine x_tableOut (tgt := 100) dX6_combine_1 (by have q0 := ztne c1_13 (n := 13) (by decide); have q1 := ztne c1_14 (n := 14) (by decide); have q2 := ztne c1_15 (n := 15) (by decide); have q3 := ztne c1_16 (n := 16) (by decide); have q4 := ztne c1_17 (n := 17) (by decide); have q5 := ztne c1_18 (n := 18) (by decide); have q6 := ztne c1_19 (n := 19) (by decide); omega) (by decide) ?_
                refine x_iload_n dX6_combine_100 rfl rfl ?_
                refine x_iload_n dX6_combine_101 rfl rfl ?_
                refine x_iand dX6_combine_102 ?_
                exact x_iret rfl dX6_combine_103 (zretI hf)
theorem cc_X6_workOut_L157 {l : Launch} {G : zG} {r0 : Nat} {N : Nat} {k10 : Int32 → Int32 → Int32 → zMem → Option (Int32 × zMem)} (hr0 : r0 = 3 ∨ r0 = 11) (hk10 : ∀ {x2 : Int32} {x4 : Int32} {x5 : Int32} {M : zMem} {r : Int32} {M1 : zMem}, k10 x2 x4 x5 M = some (r, M1) → Ex l G 1 mX6_workOut 10 [(0, .ref (G.2.2.1 r0)), (2, .int x2), (3, .ref (G.2.2.1 64)), (4, .int x4), (5, .int x5)] [] M (zqI r M1)) {x2 : Int32} {x4 : Int32} {x5 : Int32} {M : zMem} {r : Int32} {M1 : zMem} (hf : fX6_workOut_L157 r0 N k10 x2 x4 x5 M = some (r, M1)) : Ex l G 1 mX6_workOut 157 [(0, .ref (G.2.2.1 r0)), (2, .int x2), (3, .ref (G.2.2.1 64)), (4, .int x4), (5, .int x5)] [] M (zqI r M1) := by
  rcases hr0 with rfl | rfl
  · rw [fX6_workOut_L157] at hf
    obtain ⟨x5_12, ex5_12, hf⟩ := zletE hf
    refine x_iinc (c0 := 1) dX6_workOut_157 rfl (Nat.le_of_ble_eq_true rfl) (by decide) ex5_12 ?_
    refine x_goto (tgt := 10) dX6_workOut_160 (by decide) ?_
    exact Ex.sb (hk10 hf) ⟨rfl, rfl, rfl, rfl, rfl, trivial⟩
  · rw [fX6_workOut_L157] at hf
    obtain ⟨x5_12, ex5_12, hf⟩ := zletE hf
    refine x_iinc (c0 := 1) dX6_workOut_157 rfl (Nat.le_of_ble_eq_true rfl) (by decide) ex5_12 ?_
    refine x_goto (tgt := 10) dX6_workOut_160 (by decide) ?_
    exact Ex.sb (hk10 hf) ⟨rfl, rfl, rfl, rfl, rfl, trivial⟩
theorem cc_X6_workOut_L118 {l : Launch} {G : zG} {r0 : Nat} {N : Nat} {k10 : Int32 → Int32 → Int32 → zMem → Option (Int32 × zMem)} (hr0 : r0 = 3 ∨ r0 = 11) (hk10 : ∀ {x2 : Int32} {x4 : Int32} {x5 : Int32} {M : zMem} {r : Int32} {M1 : zMem}, k10 x2 x4 x5 M = some (r, M1) → Ex l G 1 mX6_workOut 10 [(0, .ref (G.2.2.1 r0)), (2, .int x2), (3, .ref (G.2.2.1 64)), (4, .int x4), (5, .int x5)] [] M (zqI r M1)) {x2 : Int32} {x4 : Int32} {x5 : Int32} {x6 : Int32} {M : zMem} {r : Int32} {M1 : zMem} (hf : fX6_workOut_L118 r0 N k10 x2 x4 x5 x6 M = some (r, M1)) : Ex l G 1 mX6_workOut 118 [(0, .ref (G.2.2.1 r0)), (2, .int x2), (3, .ref (G.2.2.1 64)), (4, .int x4), (5, .int x5), (6, .int x6)] [] M (zqI r M1) := by
  rcases hr0 with rfl | rfl
  · rw [fX6_workOut_L118] at hf
    refine x_iload dX6_workOut_118 rfl ?_
    refine x_iconst (v := 2) dX6_workOut_120 (by decide) ?_
    refine x_icmp_lt (tgt := 157) dX6_workOut_121 (by decide) (fun c121 => ?_) (fun c121 => ?_)
    · replace hf := zif_t c121 hf
      exact Ex.sb (cc_X6_workOut_L157 (by decide) hk10 hf) ⟨rfl, rfl, rfl, rfl, rfl, trivial⟩
    · replace hf := zif_f c121 hf
      obtain ⟨x4_13, ex4_13, hf⟩ := zletE hf
      refine x_iinc (c0 := -1) dX6_workOut_124 rfl (Nat.le_of_ble_eq_true rfl) (by decide) ex4_13 ?_
      refine x_aload_n dX6_workOut_127 rfl rfl ?_
      refine x_getS dX6_workOut_128 fl_X6_30 rfl rfl ?_
      refine x_iload dX6_workOut_131 rfl ?_
      refine x_iconst (v := 1) dX6_workOut_133 (by decide) ?_
      refine x_isub dX6_workOut_134 ?_
      refine x_iload dX6_workOut_135 rfl ?_
      refine x_aload_n dX6_workOut_137 rfl rfl ?_
      refine x_getS dX6_workOut_138 fl_X6_30 rfl rfl ?_
      refine x_iload dX6_workOut_141 rfl ?_
      refine x_iconst (v := 1) dX6_workOut_143 (by decide) ?_
      refine x_isub dX6_workOut_144 ?_
      obtain ⟨v14, hv14, hf⟩ := zbind hf
      refine x_ild dX6_workOut_145 rfl hv14 ?_
      refine x_aload_n dX6_workOut_146 rfl rfl ?_
      refine x_getS dX6_workOut_147 fl_X6_30 rfl rfl ?_
      refine x_iload dX6_workOut_150 rfl ?_
      obtain ⟨v15, hv15, hf⟩ := zbind hf
      refine x_ild dX6_workOut_152 rfl hv15 ?_
      obtain ⟨r18, M17, hq16, hf⟩ := zb2E hf
      refine x_invSi dX6_workOut_153 mk_X6_combine ml_X6_60 (cc_X6_combine hq16) (Nat.le_of_ble_eq_true rfl) rfl (Nat.le_of_ble_eq_true rfl) rfl ?_
      obtain ⟨M19, hM19, hf⟩ := zbind hf
      refine x_ist dX6_workOut_156 rfl hM19 ?_
      exact Ex.sb (cc_X6_workOut_L157 (by decide) hk10 hf) ⟨rfl, rfl, rfl, rfl, rfl, trivial⟩
  · rw [fX6_workOut_L118] at hf
    refine x_iload dX6_workOut_118 rfl ?_
    refine x_iconst (v := 2) dX6_workOut_120 (by decide) ?_
    refine x_icmp_lt (tgt := 157) dX6_workOut_121 (by decide) (fun c121 => ?_) (fun c121 => ?_)
    · replace hf := zif_t c121 hf
      exact Ex.sb (cc_X6_workOut_L157 (by decide) hk10 hf) ⟨rfl, rfl, rfl, rfl, rfl, trivial⟩
    · replace hf := zif_f c121 hf
      obtain ⟨x4_13, ex4_13, hf⟩ := zletE hf
      refine x_iinc (c0 := -1) dX6_workOut_124 rfl (Nat.le_of_ble_eq_true rfl) (by decide) ex4_13 ?_
      refine x_aload_n dX6_workOut_127 rfl rfl ?_
      refine x_getS dX6_workOut_128 fl_X6_30 rfl rfl ?_
      refine x_iload dX6_workOut_131 rfl ?_
      refine x_iconst (v := 1) dX6_workOut_133 (by decide) ?_
      refine x_isub dX6_workOut_134 ?_
      refine x_iload dX6_workOut_135 rfl ?_
      refine x_aload_n dX6_workOut_137 rfl rfl ?_
      refine x_getS dX6_workOut_138 fl_X6_30 rfl rfl ?_
      refine x_iload dX6_workOut_141 rfl ?_
      refine x_iconst (v := 1) dX6_workOut_143 (by decide) ?_
      refine x_isub dX6_workOut_144 ?_
      obtain ⟨v14, hv14, hf⟩ := zbind hf
      refine x_ild dX6_workOut_145 rfl hv14 ?_
      refine x_aload_n dX6_workOut_146 rfl rfl ?_
      refine x_getS dX6_workOut_147 fl_X6_30 rfl rfl ?_
      refine x_iload dX6_workOut_150 rfl ?_
      obtain ⟨v15, hv15, hf⟩ := zbind hf
      refine x_ild dX6_workOut_152 rfl hv15 ?_
      obtain ⟨r18, M17, hq16, hf⟩ := zb2E hf
      refine x_invSi dX6_workOut_153 mk_X6_combine ml_X6_60 (cc_X6_combine hq16) (Nat.le_of_ble_eq_true rfl) rfl (Nat.le_of_ble_eq_true rfl) rfl ?_
      obtain ⟨M19, hM19, hf⟩ := zbind hf
      refine x_ist dX6_workOut_156 rfl hM19 ?_
      exact Ex.sb (cc_X6_workOut_L157 (by decide) hk10 hf) ⟨rfl, rfl, rfl, rfl, rfl, trivial⟩
theorem cc_X6_workOut_L76 {l : Launch} {G : zG} {r0 : Nat} {N : Nat} {k10 : Int32 → Int32 → Int32 → zMem → Option (Int32 × zMem)} (hr0 : r0 = 3 ∨ r0 = 11) (hk10 : ∀ {x2 : Int32} {x4 : Int32} {x5 : Int32} {M : zMem} {r : Int32} {M1 : zMem}, k10 x2 x4 x5 M = some (r, M1) → Ex l G 1 mX6_workOut 10 [(0, .ref (G.2.2.1 r0)), (2, .int x2), (3, .ref (G.2.2.1 64)), (4, .int x4), (5, .int x5)] [] M (zqI r M1)) {x2 : Int32} {x4 : Int32} {x5 : Int32} {x6 : Int32} {x7 : Int32} {M : zMem} {r : Int32} {M1 : zMem} (hf : fX6_workOut_L76 r0 N k10 x2 x4 x5 x6 x7 M = some (r, M1)) : Ex l G 1 mX6_workOut 76 [(0, .ref (G.2.2.1 r0)), (2, .int x2), (3, .ref (G.2.2.1 64)), (4, .int x4), (5, .int x5), (6, .int x6), (7, .int x7)] [] M (zqI r M1) := by
  rcases hr0 with rfl | rfl
  · rw [fX6_workOut_L76] at hf
    refine x_iload dX6_workOut_76 rfl ?_
    refine x_iconst (v := 3) dX6_workOut_78 (by decide) ?_
    refine x_icmp_ne (tgt := 118) dX6_workOut_79 (by decide) (fun c79 => ?_) (fun c79 => ?_)
    · replace hf := zif_f c79 hf
      exact Ex.sb (cc_X6_workOut_L118 (by decide) hk10 hf) ⟨rfl, rfl, rfl, rfl, rfl, rfl, trivial⟩
    · replace hf := zif_t c79 hf
      refine x_iload dX6_workOut_82 rfl ?_
      refine x_bipush (v := 32) dX6_workOut_84 (by decide) ?_
      refine x_icmp_ge (tgt := 118) dX6_workOut_86 (by decide) (fun c86 => ?_) (fun c86 => ?_)
      · replace hf := zif_t c86 hf
        exact Ex.sb (cc_X6_workOut_L118 (by decide) hk10 hf) ⟨rfl, rfl, rfl, rfl, rfl, rfl, trivial⟩
      · replace hf := zif_f c86 hf
        refine x_iload dX6_workOut_89 rfl ?_
        refine x_if_lt (tgt := 118) dX6_workOut_91 (by decide) (fun c91 => ?_) (fun c91 => ?_)
        · replace hf := zif_t c91 hf
          exact Ex.sb (cc_X6_workOut_L118 (by decide) hk10 hf) ⟨rfl, rfl, rfl, rfl, rfl, rfl, trivial⟩
        · replace hf := zif_f c91 hf
          refine x_iload dX6_workOut_94 rfl ?_
          refine x_aload_n dX6_workOut_96 rfl rfl ?_
          refine x_alen (v := 6) dX6_workOut_97 rfl (by decide) (by decide) ?_
          refine x_icmp_ge (tgt := 118) dX6_workOut_98 (by decide) (fun c98 => ?_) (fun c98 => ?_)
          · replace hf := zif_t c98 hf
            exact Ex.sb (cc_X6_workOut_L118 (by decide) hk10 hf) ⟨rfl, rfl, rfl, rfl, rfl, rfl, trivial⟩
          · replace hf := zif_f c98 hf
            refine x_aload_n dX6_workOut_101 rfl rfl ?_
            refine x_getS dX6_workOut_102 fl_X6_30 rfl rfl ?_
            refine x_iload dX6_workOut_105 rfl ?_
            refine x_aload_n dX6_workOut_107 rfl rfl ?_
            refine x_iload dX6_workOut_108 rfl ?_
            obtain ⟨v9, hv9, hf⟩ := zbind hf
            refine x_ild dX6_workOut_110 rfl hv9 ?_
            obtain ⟨M10, hM10, hf⟩ := zbind hf
            refine x_ist dX6_workOut_111 rfl hM10 ?_
            obtain ⟨x4_11, ex4_11, hf⟩ := zletE hf
            refine x_iinc (c0 := 1) dX6_workOut_112 rfl (Nat.le_of_ble_eq_true rfl) (by decide) ex4_11 ?_
            refine x_goto (tgt := 157) dX6_workOut_115 (by decide) ?_
            exact Ex.sb (cc_X6_workOut_L157 (by decide) hk10 hf) ⟨rfl, rfl, rfl, rfl, rfl, trivial⟩
  · rw [fX6_workOut_L76] at hf
    refine x_iload dX6_workOut_76 rfl ?_
    refine x_iconst (v := 3) dX6_workOut_78 (by decide) ?_
    refine x_icmp_ne (tgt := 118) dX6_workOut_79 (by decide) (fun c79 => ?_) (fun c79 => ?_)
    · replace hf := zif_f c79 hf
      exact Ex.sb (cc_X6_workOut_L118 (by decide) hk10 hf) ⟨rfl, rfl, rfl, rfl, rfl, rfl, trivial⟩
    · replace hf := zif_t c79 hf
      refine x_iload dX6_workOut_82 rfl ?_
      refine x_bipush (v := 32) dX6_workOut_84 (by decide) ?_
      refine x_icmp_ge (tgt := 118) dX6_workOut_86 (by decide) (fun c86 => ?_) (fun c86 => ?_)
      · replace hf := zif_t c86 hf
        exact Ex.sb (cc_X6_workOut_L118 (by decide) hk10 hf) ⟨rfl, rfl, rfl, rfl, rfl, rfl, trivial⟩
      · replace hf := zif_f c86 hf
        refine x_iload dX6_workOut_89 rfl ?_
        refine x_if_lt (tgt := 118) dX6_workOut_91 (by decide) (fun c91 => ?_) (fun c91 => ?_)
        · replace hf := zif_t c91 hf
          exact Ex.sb (cc_X6_workOut_L118 (by decide) hk10 hf) ⟨rfl, rfl, rfl, rfl, rfl, rfl, trivial⟩
        · replace hf := zif_f c91 hf
          refine x_iload dX6_workOut_94 rfl ?_
          refine x_aload_n dX6_workOut_96 rfl rfl ?_
          refine x_alen (v := 6) dX6_workOut_97 rfl (by decide) (by decide) ?_
          refine x_icmp_ge (tgt := 118) dX6_workOut_98 (by decide) (fun c98 => ?_) (fun c98 => ?_)
          · replace hf := zif_t c98 hf
            exact Ex.sb (cc_X6_workOut_L118 (by decide) hk10 hf) ⟨rfl, rfl, rfl, rfl, rfl, rfl, trivial⟩
          · replace hf := zif_f c98 hf
            refine x_aload_n dX6_workOut_101 rfl rfl ?_
            refine x_getS dX6_workOut_102 fl_X6_30 rfl rfl ?_
            refine x_iload dX6_workOut_105 rfl ?_
            refine x_aload_n dX6_workOut_107 rfl rfl ?_
            refine x_iload dX6_workOut_108 rfl ?_
            obtain ⟨v9, hv9, hf⟩ := zbind hf
            refine x_ild dX6_workOut_110 rfl hv9 ?_
            obtain ⟨M10, hM10, hf⟩ := zbind hf
            refine x_ist dX6_workOut_111 rfl hM10 ?_
            obtain ⟨x4_11, ex4_11, hf⟩ := zletE hf
            refine x_iinc (c0 := 1) dX6_workOut_112 rfl (Nat.le_of_ble_eq_true rfl) (by decide) ex4_11 ?_
            refine x_goto (tgt := 157) dX6_workOut_115 (by decide) ?_
            exact Ex.sb (cc_X6_workOut_L157 (by decide) hk10 hf) ⟨rfl, rfl, rfl, rfl, rfl, trivial⟩
theorem cc_X6_workOut_L163 {l : Launch} {G : zG} {r0 : Nat} {N : Nat} (hr0 : r0 = 3 ∨ r0 = 11)  {M : zMem} {r : Int32} {M1 : zMem} (hf : fX6_workOut_L163 r0 N M = some (r, M1)) : Ex l G 1 mX6_workOut 163 [(0, .ref (G.2.2.1 r0))] [] M (zqI r M1) := by
  rcases hr0 with rfl | rfl
  · rw [fX6_workOut_L163] at hf
    refine x_aload_n dX6_workOut_163 rfl rfl ?_
    refine x_getS dX6_workOut_164 fl_X6_30 rfl rfl ?_
    refine x_iconst (v := 0) dX6_workOut_167 (by decide) ?_
    obtain ⟨v8, hv8, hf⟩ := zbind hf
    refine x_ild dX6_workOut_168 rfl hv8 ?_
    exact x_iret rfl dX6_workOut_169 (zretI hf)
  · rw [fX6_workOut_L163] at hf
    refine x_aload_n dX6_workOut_163 rfl rfl ?_
    refine x_getS dX6_workOut_164 fl_X6_30 rfl rfl ?_
    refine x_iconst (v := 0) dX6_workOut_167 (by decide) ?_
    obtain ⟨v8, hv8, hf⟩ := zbind hf
    refine x_ild dX6_workOut_168 rfl hv8 ?_
    exact x_iret rfl dX6_workOut_169 (zretI hf)
theorem cc_X6_workOut_L10 {l : Launch} {G : zG} {r0 : Nat} {N : Nat} (hr0 : r0 = 3 ∨ r0 = 11) : ∀ {n : Nat} {x2 : Int32} {x4 : Int32} {x5 : Int32} {M : zMem} {r : Int32} {M1 : zMem}, fX6_workOut_L10 r0 N n x2 x4 x5 M = some (r, M1) → Ex l G 1 mX6_workOut 10 [(0, .ref (G.2.2.1 r0)), (2, .int x2), (3, .ref (G.2.2.1 64)), (4, .int x4), (5, .int x5)] [] M (zqI r M1) := by
  rcases hr0 with rfl | rfl
  · intro n
    induction n with
    | zero => intro x2 x4 x5 M r M1 hf; cases hf
    | succ n ih =>
      intro x2 x4 x5 M r M1 hf
      rw [fX6_workOut_L10] at hf
      refine x_iload dX6_workOut_10 rfl ?_
      refine x_iload_n dX6_workOut_12 rfl rfl ?_
      refine x_icmp_ge (tgt := 163) dX6_workOut_13 (by decide) (fun c13 => ?_) (fun c13 => ?_)
      · replace hf := zif_t c13 hf
        exact Ex.sb (cc_X6_workOut_L163 (by decide) hf) ⟨rfl, trivial⟩
      · replace hf := zif_f c13 hf
        refine x_iload dX6_workOut_16 rfl ?_
        refine x_aload_n dX6_workOut_18 rfl rfl ?_
        refine x_getI dX6_workOut_19 fl_X6_37 rfl rfl ?_
        refine x_icmp_ge (tgt := 163) dX6_workOut_22 (by decide) (fun c22 => ?_) (fun c22 => ?_)
        · replace hf := zif_t c22 hf
          exact Ex.sb (cc_X6_workOut_L163 (by decide) hf) ⟨rfl, trivial⟩
        · replace hf := zif_f c22 hf
          refine x_aload_n dX6_workOut_25 rfl rfl ?_
          refine x_getS dX6_workOut_26 fl_X6_27 rfl rfl ?_
          refine x_iload dX6_workOut_29 rfl ?_
          obtain ⟨v2, hv2, hf⟩ := zbind hf
          refine x_ild dX6_workOut_31 rfl hv2 ?_
          refine x_bipush (v := 31) dX6_workOut_32 (by decide) ?_
          refine x_iand dX6_workOut_34 ?_
          obtain ⟨x6_3, ex6_3, hf⟩ := zletE hf
          refine x_istore dX6_workOut_35 (Nat.le_of_ble_eq_true rfl) ex6_3 ?_
          refine x_aload_n dX6_workOut_37 rfl rfl ?_
          refine x_getS dX6_workOut_38 fl_X6_27 rfl rfl ?_
          refine x_iload dX6_workOut_41 rfl ?_
          obtain ⟨v4, hv4, hf⟩ := zbind hf
          refine x_ild dX6_workOut_43 rfl hv4 ?_
          refine x_iconst (v := 5) dX6_workOut_44 (by decide) ?_
          refine x_ishr dX6_workOut_45 ?_
          obtain ⟨x7_5, ex7_5, hf⟩ := zletE hf
          refine x_istore dX6_workOut_46 (Nat.le_of_ble_eq_true rfl) ex7_5 ?_
          refine x_iload dX6_workOut_48 rfl ?_
          refine x_iconst (v := 2) dX6_workOut_50 (by decide) ?_
          refine x_icmp_ne (tgt := 76) dX6_workOut_51 (by decide) (fun c51 => ?_) (fun c51 => ?_)
          · replace hf := zif_f c51 hf
            exact Ex.sb (cc_X6_workOut_L76 (by decide) ih hf) ⟨rfl, rfl, rfl, rfl, rfl, rfl, rfl, trivial⟩
          · replace hf := zif_t c51 hf
            refine x_iload dX6_workOut_54 rfl ?_
            refine x_bipush (v := 32) dX6_workOut_56 (by decide) ?_
            refine x_icmp_ge (tgt := 76) dX6_workOut_58 (by decide) (fun c58 => ?_) (fun c58 => ?_)
            · replace hf := zif_t c58 hf
              exact Ex.sb (cc_X6_workOut_L76 (by decide) ih hf) ⟨rfl, rfl, rfl, rfl, rfl, rfl, rfl, trivial⟩
            · replace hf := zif_f c58 hf
              refine x_aload_n dX6_workOut_61 rfl rfl ?_
              refine x_getS dX6_workOut_62 fl_X6_30 rfl rfl ?_
              refine x_iload dX6_workOut_65 rfl ?_
              refine x_iload dX6_workOut_67 rfl ?_
              obtain ⟨M6, hM6, hf⟩ := zbind hf
              refine x_ist dX6_workOut_69 rfl hM6 ?_
              obtain ⟨x4_7, ex4_7, hf⟩ := zletE hf
              refine x_iinc (c0 := 1) dX6_workOut_70 rfl (Nat.le_of_ble_eq_true rfl) (by decide) ex4_7 ?_
              refine x_goto (tgt := 157) dX6_workOut_73 (by decide) ?_
              exact Ex.sb (cc_X6_workOut_L157 (by decide) ih hf) ⟨rfl, rfl, rfl, rfl, rfl, trivial⟩
  · intro n
    induction n with
    | zero => intro x2 x4 x5 M r M1 hf; cases hf
    | succ n ih =>
      intro x2 x4 x5 M r M1 hf
      rw [fX6_workOut_L10] at hf
      refine x_iload dX6_workOut_10 rfl ?_
      refine x_iload_n dX6_workOut_12 rfl rfl ?_
      refine x_icmp_ge (tgt := 163) dX6_workOut_13 (by decide) (fun c13 => ?_) (fun c13 => ?_)
      · replace hf := zif_t c13 hf
        exact Ex.sb (cc_X6_workOut_L163 (by decide) hf) ⟨rfl, trivial⟩
      · replace hf := zif_f c13 hf
        refine x_iload dX6_workOut_16 rfl ?_
        refine x_aload_n dX6_workOut_18 rfl rfl ?_
        refine x_getI dX6_workOut_19 fl_X6_37 rfl rfl ?_
        refine x_icmp_ge (tgt := 163) dX6_workOut_22 (by decide) (fun c22 => ?_) (fun c22 => ?_)
        · replace hf := zif_t c22 hf
          exact Ex.sb (cc_X6_workOut_L163 (by decide) hf) ⟨rfl, trivial⟩
        · replace hf := zif_f c22 hf
          refine x_aload_n dX6_workOut_25 rfl rfl ?_
          refine x_getS dX6_workOut_26 fl_X6_27 rfl rfl ?_
          refine x_iload dX6_workOut_29 rfl ?_
          obtain ⟨v2, hv2, hf⟩ := zbind hf
          refine x_ild dX6_workOut_31 rfl hv2 ?_
          refine x_bipush (v := 31) dX6_workOut_32 (by decide) ?_
          refine x_iand dX6_workOut_34 ?_
          obtain ⟨x6_3, ex6_3, hf⟩ := zletE hf
          refine x_istore dX6_workOut_35 (Nat.le_of_ble_eq_true rfl) ex6_3 ?_
          refine x_aload_n dX6_workOut_37 rfl rfl ?_
          refine x_getS dX6_workOut_38 fl_X6_27 rfl rfl ?_
          refine x_iload dX6_workOut_41 rfl ?_
          obtain ⟨v4, hv4, hf⟩ := zbind hf
          refine x_ild dX6_workOut_43 rfl hv4 ?_
          refine x_iconst (v := 5) dX6_workOut_44 (by decide) ?_
          refine x_ishr dX6_workOut_45 ?_
          obtain ⟨x7_5, ex7_5, hf⟩ := zletE hf
          refine x_istore dX6_workOut_46 (Nat.le_of_ble_eq_true rfl) ex7_5 ?_
          refine x_iload dX6_workOut_48 rfl ?_
          refine x_iconst (v := 2) dX6_workOut_50 (by decide) ?_
          refine x_icmp_ne (tgt := 76) dX6_workOut_51 (by decide) (fun c51 => ?_) (fun c51 => ?_)
          · replace hf := zif_f c51 hf
            exact Ex.sb (cc_X6_workOut_L76 (by decide) ih hf) ⟨rfl, rfl, rfl, rfl, rfl, rfl, rfl, trivial⟩
          · replace hf := zif_t c51 hf
            refine x_iload dX6_workOut_54 rfl ?_
            refine x_bipush (v := 32) dX6_workOut_56 (by decide) ?_
            refine x_icmp_ge (tgt := 76) dX6_workOut_58 (by decide) (fun c58 => ?_) (fun c58 => ?_)
            · replace hf := zif_t c58 hf
              exact Ex.sb (cc_X6_workOut_L76 (by decide) ih hf) ⟨rfl, rfl, rfl, rfl, rfl, rfl, rfl, trivial⟩
            · replace hf := zif_f c58 hf
              refine x_aload_n dX6_workOut_61 rfl rfl ?_
              refine x_getS dX6_workOut_62 fl_X6_30 rfl rfl ?_
              refine x_iload dX6_workOut_65 rfl ?_
              refine x_iload dX6_workOut_67 rfl ?_
              obtain ⟨M6, hM6, hf⟩ := zbind hf
              refine x_ist dX6_workOut_69 rfl hM6 ?_
              obtain ⟨x4_7, ex4_7, hf⟩ := zletE hf
              refine x_iinc (c0 := 1) dX6_workOut_70 rfl (Nat.le_of_ble_eq_true rfl) (by decide) ex4_7 ?_
              refine x_goto (tgt := 157) dX6_workOut_73 (by decide) ?_
              exact Ex.sb (cc_X6_workOut_L157 (by decide) ih hf) ⟨rfl, rfl, rfl, rfl, rfl, trivial⟩
theorem cc_X6_workOut {l : Launch} {G : zG} {N : Nat} {r0 : Nat} {x1 : Int32} {x2 : Int32} (hr0 : r0 = 3 ∨ r0 = 11) {M : zMem} {r : Int32} {M1 : zMem} (hf : fX6_workOut N r0 x1 x2 M = some (r, M1)) : Ca l G 1 mX6_workOut [.ref (G.2.2.1 r0), .int x1, .int x2, .ref (G.2.2.1 64)] M (some (.int r)) M1 := by
  rcases hr0 with rfl | rfl
  · refine Ca.of (by decide +kernel) (Nat.le_of_ble_eq_true rfl) rfl ?_
    rw [fX6_workOut] at hf
    refine x_iconst (v := 0) dX6_workOut_0 (by decide) ?_
    refine x_istore dX6_workOut_1 (Nat.le_of_ble_eq_true rfl) rfl ?_
    refine x_iload_n dX6_workOut_3 rfl rfl ?_
    refine x_iconst (v := 0) dX6_workOut_4 (by decide) ?_
    refine x_mmax dX6_workOut_5 ml_X6_52 (Nat.le_of_ble_eq_true rfl) (Nat.le_of_ble_eq_true rfl) ?_
    obtain ⟨x5_1, ex5_1, hf⟩ := zletE hf
    refine x_istore dX6_workOut_8 (Nat.le_of_ble_eq_true rfl) ex5_1 ?_
    exact Ex.sb (cc_X6_workOut_L10 (by decide) hf) ⟨rfl, rfl, rfl, rfl, rfl, trivial⟩
  · refine Ca.of (by decide +kernel) (Nat.le_of_ble_eq_true rfl) rfl ?_
    rw [fX6_workOut] at hf
    refine x_iconst (v := 0) dX6_workOut_0 (by decide) ?_
    refine x_istore dX6_workOut_1 (Nat.le_of_ble_eq_true rfl) rfl ?_
    refine x_iload_n dX6_workOut_3 rfl rfl ?_
    refine x_iconst (v := 0) dX6_workOut_4 (by decide) ?_
    refine x_mmax dX6_workOut_5 ml_X6_52 (Nat.le_of_ble_eq_true rfl) (Nat.le_of_ble_eq_true rfl) ?_
    obtain ⟨x5_1, ex5_1, hf⟩ := zletE hf
    refine x_istore dX6_workOut_8 (Nat.le_of_ble_eq_true rfl) ex5_1 ?_
    exact Ex.sb (cc_X6_workOut_L10 (by decide) hf) ⟨rfl, rfl, rfl, rfl, rfl, trivial⟩
theorem cc_X6_holds_L49 {l : Launch} {G : zG} {r0 : Nat} {N : Nat} (hr0 : r0 = 3 ∨ r0 = 11)  {M : zMem} {r : Int32} {M1 : zMem} (hf : fX6_holds_L49 r0 N M = some (r, M1)) : Ex l G 2 mX6_holds 49 [] [] M (zqI r M1) := by
  rcases hr0 with rfl | rfl
  · rw [fX6_holds_L49] at hf
    refine x_iconst (v := 1) dX6_holds_49 (by decide) ?_
    refine x_goto (tgt := 54) dX6_holds_50 (by decide) ?_
    exact x_zret rfl rfl dX6_holds_54 (zretI hf)
  · rw [fX6_holds_L49] at hf
    refine x_iconst (v := 1) dX6_holds_49 (by decide) ?_
    refine x_goto (tgt := 54) dX6_holds_50 (by decide) ?_
    exact x_zret rfl rfl dX6_holds_54 (zretI hf)
theorem cc_X6_holds {l : Launch} {G : zG} {N : Nat} {r0 : Nat} {x1 : Int32} (hr0 : r0 = 3 ∨ r0 = 11) {M : zMem} {r : Int32} {M1 : zMem} (hf : fX6_holds N r0 x1 M = some (r, M1)) : Ca l G 2 mX6_holds [.ref (G.2.2.1 r0), .int x1, .ref (G.2.2.1 64)] M (some (.int r)) M1 := by
  rcases hr0 with rfl | rfl
  · refine Ca.of (by decide +kernel) (Nat.le_of_ble_eq_true rfl) rfl ?_
    rw [fX6_holds] at hf
    refine x_iload_n dX6_holds_0 rfl rfl ?_
    refine x_if_lt (tgt := 12) dX6_holds_1 (by decide) (fun c1 => ?_) (fun c1 => ?_)
    · replace hf := zif_t c1 hf
      refine x_iconst (v := 0) dX6_holds_12 (by decide) ?_
      exact x_zret rfl rfl dX6_holds_13 (zretI hf)
    · replace hf := zif_f c1 hf
      refine x_iload_n dX6_holds_4 rfl rfl ?_
      refine x_aload_n dX6_holds_5 rfl rfl ?_
      refine x_getI dX6_holds_6 fl_X6_33 rfl rfl ?_
      refine x_icmp_lt (tgt := 14) dX6_holds_9 (by decide) (fun c9 => ?_) (fun c9 => ?_)
      · replace hf := zif_t c9 hf
        refine x_aload_n dX6_holds_14 rfl rfl ?_
        refine x_getS dX6_holds_15 fl_X6_21 rfl rfl ?_
        refine x_iload_n dX6_holds_18 rfl rfl ?_
        obtain ⟨v1, hv1, hf⟩ := zbind hf
        refine x_ild dX6_holds_19 rfl hv1 ?_
        refine x_aload_n dX6_holds_20 rfl rfl ?_
        refine x_getS dX6_holds_21 fl_X6_24 rfl rfl ?_
        refine x_iload_n dX6_holds_24 rfl rfl ?_
        obtain ⟨v2, hv2, hf⟩ := zbind hf
        refine x_ild dX6_holds_25 rfl hv2 ?_
        refine x_icmp_eq (tgt := 49) dX6_holds_26 (by decide) (fun c26 => ?_) (fun c26 => ?_)
        · replace hf := zif_t c26 hf
          exact Ex.sb (cc_X6_holds_L49 (by decide) hf) trivial
        · replace hf := zif_f c26 hf
          refine x_aload_n dX6_holds_29 rfl rfl ?_
          refine x_aload_n dX6_holds_30 rfl rfl ?_
          refine x_getS dX6_holds_31 fl_X6_21 rfl rfl ?_
          refine x_iload_n dX6_holds_34 rfl rfl ?_
          obtain ⟨v3, hv3, hf⟩ := zbind hf
          refine x_ild dX6_holds_35 rfl hv3 ?_
          refine x_aload_n dX6_holds_36 rfl rfl ?_
          refine x_getS dX6_holds_37 fl_X6_24 rfl rfl ?_
          refine x_iload_n dX6_holds_40 rfl rfl ?_
          obtain ⟨v4, hv4, hf⟩ := zbind hf
          refine x_ild dX6_holds_41 rfl hv4 ?_
          refine x_aload_n dX6_holds_42 rfl rfl ?_
          obtain ⟨r7, M6, hq5, hf⟩ := zb2E hf
          refine x_invVi dX6_holds_43 mk_X6_workOut ml_X6_44 (cc_X6_workOut (by decide) hq5) rfl rfl rfl (Nat.le_of_ble_eq_true rfl) rfl (Nat.le_of_ble_eq_true rfl) rfl ?_
          refine x_if_eq (tgt := 53) dX6_holds_46 (by decide) (fun c46 => ?_) (fun c46 => ?_)
          · replace hf := zif_t c46 hf
            refine x_iconst (v := 0) dX6_holds_53 (by decide) ?_
            exact x_zret rfl rfl dX6_holds_54 (zretI hf)
          · replace hf := zif_f c46 hf
            exact Ex.sb (cc_X6_holds_L49 (by decide) hf) trivial
      · replace hf := zif_f c9 hf
        refine x_iconst (v := 0) dX6_holds_12 (by decide) ?_
        exact x_zret rfl rfl dX6_holds_13 (zretI hf)
  · refine Ca.of (by decide +kernel) (Nat.le_of_ble_eq_true rfl) rfl ?_
    rw [fX6_holds] at hf
    refine x_iload_n dX6_holds_0 rfl rfl ?_
    refine x_if_lt (tgt := 12) dX6_holds_1 (by decide) (fun c1 => ?_) (fun c1 => ?_)
    · replace hf := zif_t c1 hf
      refine x_iconst (v := 0) dX6_holds_12 (by decide) ?_
      exact x_zret rfl rfl dX6_holds_13 (zretI hf)
    · replace hf := zif_f c1 hf
      refine x_iload_n dX6_holds_4 rfl rfl ?_
      refine x_aload_n dX6_holds_5 rfl rfl ?_
      refine x_getI dX6_holds_6 fl_X6_33 rfl rfl ?_
      refine x_icmp_lt (tgt := 14) dX6_holds_9 (by decide) (fun c9 => ?_) (fun c9 => ?_)
      · replace hf := zif_t c9 hf
        refine x_aload_n dX6_holds_14 rfl rfl ?_
        refine x_getS dX6_holds_15 fl_X6_21 rfl rfl ?_
        refine x_iload_n dX6_holds_18 rfl rfl ?_
        obtain ⟨v1, hv1, hf⟩ := zbind hf
        refine x_ild dX6_holds_19 rfl hv1 ?_
        refine x_aload_n dX6_holds_20 rfl rfl ?_
        refine x_getS dX6_holds_21 fl_X6_24 rfl rfl ?_
        refine x_iload_n dX6_holds_24 rfl rfl ?_
        obtain ⟨v2, hv2, hf⟩ := zbind hf
        refine x_ild dX6_holds_25 rfl hv2 ?_
        refine x_icmp_eq (tgt := 49) dX6_holds_26 (by decide) (fun c26 => ?_) (fun c26 => ?_)
        · replace hf := zif_t c26 hf
          exact Ex.sb (cc_X6_holds_L49 (by decide) hf) trivial
        · replace hf := zif_f c26 hf
          refine x_aload_n dX6_holds_29 rfl rfl ?_
          refine x_aload_n dX6_holds_30 rfl rfl ?_
          refine x_getS dX6_holds_31 fl_X6_21 rfl rfl ?_
          refine x_iload_n dX6_holds_34 rfl rfl ?_
          obtain ⟨v3, hv3, hf⟩ := zbind hf
          refine x_ild dX6_holds_35 rfl hv3 ?_
          refine x_aload_n dX6_holds_36 rfl rfl ?_
          refine x_getS dX6_holds_37 fl_X6_24 rfl rfl ?_
          refine x_iload_n dX6_holds_40 rfl rfl ?_
          obtain ⟨v4, hv4, hf⟩ := zbind hf
          refine x_ild dX6_holds_41 rfl hv4 ?_
          refine x_aload_n dX6_holds_42 rfl rfl ?_
          obtain ⟨r7, M6, hq5, hf⟩ := zb2E hf
          refine x_invVi dX6_holds_43 mk_X6_workOut ml_X6_44 (cc_X6_workOut (by decide) hq5) rfl rfl rfl (Nat.le_of_ble_eq_true rfl) rfl (Nat.le_of_ble_eq_true rfl) rfl ?_
          refine x_if_eq (tgt := 53) dX6_holds_46 (by decide) (fun c46 => ?_) (fun c46 => ?_)
          · replace hf := zif_t c46 hf
            refine x_iconst (v := 0) dX6_holds_53 (by decide) ?_
            exact x_zret rfl rfl dX6_holds_54 (zretI hf)
          · replace hf := zif_f c46 hf
            exact Ex.sb (cc_X6_holds_L49 (by decide) hf) trivial
      · replace hf := zif_f c9 hf
        refine x_iconst (v := 0) dX6_holds_12 (by decide) ?_
        exact x_zret rfl rfl dX6_holds_13 (zretI hf)
theorem cc_X6_firstHolding_L31 {l : Launch} {G : zG} {r0 : Nat} {N : Nat} {k2 : Int32 → Int32 → zMem → Option (Int32 × zMem)} (hr0 : r0 = 3 ∨ r0 = 11) (hk2 : ∀ {x1 : Int32} {x3 : Int32} {M : zMem} {r : Int32} {M1 : zMem}, k2 x1 x3 M = some (r, M1) → Ex l G 3 mX6_firstHolding 2 [(0, .ref (G.2.2.1 r0)), (1, .int x1), (2, .ref (G.2.2.1 64)), (3, .int x3)] [] M (zqI r M1)) {x1 : Int32} {x3 : Int32} {M : zMem} {r : Int32} {M1 : zMem} (hf : fX6_firstHolding_L31 r0 N k2 x1 x3 M = some (r, M1)) : Ex l G 3 mX6_firstHolding 31 [(0, .ref (G.2.2.1 r0)), (1, .int x1), (2, .ref (G.2.2.1 64)), (3, .int x3)] [] M (zqI r M1) := by
  rcases hr0 with rfl | rfl
  · rw [fX6_firstHolding_L31] at hf
    obtain ⟨x3_5, ex3_5, hf⟩ := zletE hf
    refine x_iinc (c0 := 1) dX6_firstHolding_31 rfl (Nat.le_of_ble_eq_true rfl) (by decide) ex3_5 ?_
    refine x_goto (tgt := 2) dX6_firstHolding_34 (by decide) ?_
    exact Ex.sb (hk2 hf) ⟨rfl, rfl, rfl, rfl, trivial⟩
  · rw [fX6_firstHolding_L31] at hf
    obtain ⟨x3_5, ex3_5, hf⟩ := zletE hf
    refine x_iinc (c0 := 1) dX6_firstHolding_31 rfl (Nat.le_of_ble_eq_true rfl) (by decide) ex3_5 ?_
    refine x_goto (tgt := 2) dX6_firstHolding_34 (by decide) ?_
    exact Ex.sb (hk2 hf) ⟨rfl, rfl, rfl, rfl, trivial⟩
theorem cc_X6_firstHolding_L2 {l : Launch} {G : zG} {r0 : Nat} {N : Nat} (hr0 : r0 = 3 ∨ r0 = 11) : ∀ {n : Nat} {x1 : Int32} {x3 : Int32} {M : zMem} {r : Int32} {M1 : zMem}, fX6_firstHolding_L2 r0 N n x1 x3 M = some (r, M1) → Ex l G 3 mX6_firstHolding 2 [(0, .ref (G.2.2.1 r0)), (1, .int x1), (2, .ref (G.2.2.1 64)), (3, .int x3)] [] M (zqI r M1) := by
  rcases hr0 with rfl | rfl
  · intro n
    induction n with
    | zero => intro x1 x3 M r M1 hf; cases hf
    | succ n ih =>
      intro x1 x3 M r M1 hf
      rw [fX6_firstHolding_L2] at hf
      refine x_iload_n dX6_firstHolding_2 rfl rfl ?_
      refine x_aload_n dX6_firstHolding_3 rfl rfl ?_
      refine x_getI dX6_firstHolding_4 fl_X6_33 rfl rfl ?_
      refine x_icmp_ge (tgt := 37) dX6_firstHolding_7 (by decide) (fun c7 => ?_) (fun c7 => ?_)
      · replace hf := zif_t c7 hf
        refine x_iconst (v := -1) dX6_firstHolding_37 (by decide) ?_
        exact x_iret rfl dX6_firstHolding_38 (zretI hf)
      · replace hf := zif_f c7 hf
        refine x_aload_n dX6_firstHolding_10 rfl rfl ?_
        refine x_getS dX6_firstHolding_11 fl_X6_11 rfl rfl ?_
        refine x_iload_n dX6_firstHolding_14 rfl rfl ?_
        obtain ⟨v1, hv1, hf⟩ := zbind hf
        refine x_ild dX6_firstHolding_15 rfl hv1 ?_
        refine x_iload_n dX6_firstHolding_16 rfl rfl ?_
        refine x_icmp_ne (tgt := 31) dX6_firstHolding_17 (by decide) (fun c17 => ?_) (fun c17 => ?_)
        · replace hf := zif_f c17 hf
          exact Ex.sb (cc_X6_firstHolding_L31 (by decide) ih hf) ⟨rfl, rfl, rfl, rfl, trivial⟩
        · replace hf := zif_t c17 hf
          refine x_aload_n dX6_firstHolding_20 rfl rfl ?_
          refine x_iload_n dX6_firstHolding_21 rfl rfl ?_
          refine x_aload_n dX6_firstHolding_22 rfl rfl ?_
          obtain ⟨r4, M3, hq2, hf⟩ := zb2E hf
          refine x_invVi dX6_firstHolding_23 mk_X6_holds ml_X6_48 (cc_X6_holds (by decide) hq2) rfl rfl rfl (Nat.le_of_ble_eq_true rfl) rfl (Nat.le_of_ble_eq_true rfl) rfl ?_
          refine x_if_eq (tgt := 31) dX6_firstHolding_26 (by decide) (fun c26 => ?_) (fun c26 => ?_)
          · replace hf := zif_t c26 hf
            exact Ex.sb (cc_X6_firstHolding_L31 (by decide) ih hf) ⟨rfl, rfl, rfl, rfl, trivial⟩
          · replace hf := zif_f c26 hf
            refine x_iload_n dX6_firstHolding_29 rfl rfl ?_
            exact x_iret rfl dX6_firstHolding_30 (zretI hf)
  · intro n
    induction n with
    | zero => intro x1 x3 M r M1 hf; cases hf
    | succ n ih =>
      intro x1 x3 M r M1 hf
      rw [fX6_firstHolding_L2] at hf
      refine x_iload_n dX6_firstHolding_2 rfl rfl ?_
      refine x_aload_n dX6_firstHolding_3 rfl rfl ?_
      refine x_getI dX6_firstHolding_4 fl_X6_33 rfl rfl ?_
      refine x_icmp_ge (tgt := 37) dX6_firstHolding_7 (by decide) (fun c7 => ?_) (fun c7 => ?_)
      · replace hf := zif_t c7 hf
        refine x_iconst (v := -1) dX6_firstHolding_37 (by decide) ?_
        exact x_iret rfl dX6_firstHolding_38 (zretI hf)
      · replace hf := zif_f c7 hf
        refine x_aload_n dX6_firstHolding_10 rfl rfl ?_
        refine x_getS dX6_firstHolding_11 fl_X6_11 rfl rfl ?_
        refine x_iload_n dX6_firstHolding_14 rfl rfl ?_
        obtain ⟨v1, hv1, hf⟩ := zbind hf
        refine x_ild dX6_firstHolding_15 rfl hv1 ?_
        refine x_iload_n dX6_firstHolding_16 rfl rfl ?_
        refine x_icmp_ne (tgt := 31) dX6_firstHolding_17 (by decide) (fun c17 => ?_) (fun c17 => ?_)
        · replace hf := zif_f c17 hf
          exact Ex.sb (cc_X6_firstHolding_L31 (by decide) ih hf) ⟨rfl, rfl, rfl, rfl, trivial⟩
        · replace hf := zif_t c17 hf
          refine x_aload_n dX6_firstHolding_20 rfl rfl ?_
          refine x_iload_n dX6_firstHolding_21 rfl rfl ?_
          refine x_aload_n dX6_firstHolding_22 rfl rfl ?_
          obtain ⟨r4, M3, hq2, hf⟩ := zb2E hf
          refine x_invVi dX6_firstHolding_23 mk_X6_holds ml_X6_48 (cc_X6_holds (by decide) hq2) rfl rfl rfl (Nat.le_of_ble_eq_true rfl) rfl (Nat.le_of_ble_eq_true rfl) rfl ?_
          refine x_if_eq (tgt := 31) dX6_firstHolding_26 (by decide) (fun c26 => ?_) (fun c26 => ?_)
          · replace hf := zif_t c26 hf
            exact Ex.sb (cc_X6_firstHolding_L31 (by decide) ih hf) ⟨rfl, rfl, rfl, rfl, trivial⟩
          · replace hf := zif_f c26 hf
            refine x_iload_n dX6_firstHolding_29 rfl rfl ?_
            exact x_iret rfl dX6_firstHolding_30 (zretI hf)
theorem cc_X6_firstHolding {l : Launch} {G : zG} {N : Nat} {r0 : Nat} {x1 : Int32} (hr0 : r0 = 3 ∨ r0 = 11) {M : zMem} {r : Int32} {M1 : zMem} (hf : fX6_firstHolding N r0 x1 M = some (r, M1)) : Ca l G 3 mX6_firstHolding [.ref (G.2.2.1 r0), .int x1, .ref (G.2.2.1 64)] M (some (.int r)) M1 := by
  rcases hr0 with rfl | rfl
  · refine Ca.of (by decide +kernel) (Nat.le_of_ble_eq_true rfl) rfl ?_
    rw [fX6_firstHolding] at hf
    refine x_iconst (v := 0) dX6_firstHolding_0 (by decide) ?_
    refine x_istore_n dX6_firstHolding_1 rfl (Nat.le_of_ble_eq_true rfl) rfl ?_
    exact Ex.sb (cc_X6_firstHolding_L2 (by decide) hf) ⟨rfl, rfl, rfl, rfl, trivial⟩
  · refine Ca.of (by decide +kernel) (Nat.le_of_ble_eq_true rfl) rfl ?_
    rw [fX6_firstHolding] at hf
    refine x_iconst (v := 0) dX6_firstHolding_0 (by decide) ?_
    refine x_istore_n dX6_firstHolding_1 rfl (Nat.le_of_ble_eq_true rfl) rfl ?_
    exact Ex.sb (cc_X6_firstHolding_L2 (by decide) hf) ⟨rfl, rfl, rfl, rfl, trivial⟩
theorem cc_X2_dropCalls_L65 {l : Launch} {G : zG} {N : Nat} {k8 : Int32 → Int32 → zMem → Option zMem} (hk8 : ∀ {x1 : Int32} {x2 : Int32} {M : zMem} {M1 : zMem}, k8 x1 x2 M = some M1 → Ex l G 4 mX2_dropCalls 8 [(0, .ref (G.2.2.1 57)), (1, .int x1), (2, .int x2)] [] M (zqV M1)) {x1 : Int32} {x2 : Int32} {M : zMem} {M1 : zMem} (hf : fX2_dropCalls_L65 N k8 x1 x2 M = some M1) : Ex l G 4 mX2_dropCalls 65 [(0, .ref (G.2.2.1 57)), (1, .int x1), (2, .int x2)] [] M (zqV M1) := by
  rw [fX2_dropCalls_L65] at hf
  obtain ⟨x2_17, ex2_17, hf⟩ := zletE hf
  refine x_iinc (c0 := 1) dX2_dropCalls_65 rfl (Nat.le_of_ble_eq_true rfl) (by decide) ex2_17 ?_
  refine x_goto (tgt := 8) dX2_dropCalls_68 (by decide) ?_
  exact Ex.sb (hk8 hf) ⟨rfl, rfl, rfl, trivial⟩
theorem cc_X2_dropCalls_L8 {l : Launch} {G : zG} {N : Nat} : ∀ {n : Nat} {x1 : Int32} {x2 : Int32} {M : zMem} {M1 : zMem}, fX2_dropCalls_L8 N n x1 x2 M = some M1 → Ex l G 4 mX2_dropCalls 8 [(0, .ref (G.2.2.1 57)), (1, .int x1), (2, .int x2)] [] M (zqV M1) := by
  intro n
  induction n with
  | zero => intro x1 x2 M M1 hf; cases hf
  | succ n ih =>
    intro x1 x2 M M1 hf
    rw [fX2_dropCalls_L8] at hf
    refine x_iload_n dX2_dropCalls_8 rfl rfl ?_
    refine x_aload_n dX2_dropCalls_9 rfl rfl ?_
    refine x_getS (r := 47) dX2_dropCalls_10 fl_X2_19 rfl rfl ?_
    obtain ⟨r6, M5, hq4, hf⟩ := zb2E hf
    refine x_invVi dX2_dropCalls_13 mk_X1_size ml_X2_123 (cc_X1_size hq4) rfl rfl rfl (Nat.le_of_ble_eq_true rfl) rfl (Nat.le_of_ble_eq_true rfl) rfl ?_
    refine x_icmp_ge (tgt := 71) dX2_dropCalls_16 (by decide) (fun c16 => ?_) (fun c16 => ?_)
    · replace hf := zif_t c16 hf
      exact x_vret rfl dX2_dropCalls_71 (zretV hf)
    · replace hf := zif_f c16 hf
      refine x_aload_n dX2_dropCalls_19 rfl rfl ?_
      refine x_getS (r := 47) dX2_dropCalls_20 fl_X2_19 rfl rfl ?_
      refine x_iload_n dX2_dropCalls_23 rfl rfl ?_
      refine x_iload_n dX2_dropCalls_24 rfl rfl ?_
      obtain ⟨r9, M8, hq7, hf⟩ := zb2E hf
      refine x_invVi dX2_dropCalls_25 mk_X1_isWaiting ml_X2_126 (cc_X1_isWaiting hq7) rfl rfl rfl (Nat.le_of_ble_eq_true rfl) rfl (Nat.le_of_ble_eq_true rfl) rfl ?_
      refine x_if_eq (tgt := 65) dX2_dropCalls_28 (by decide) (fun c28 => ?_) (fun c28 => ?_)
      · replace hf := zif_t c28 hf
        exact Ex.sb (cc_X2_dropCalls_L65 ih hf) ⟨rfl, rfl, rfl, trivial⟩
      · replace hf := zif_f c28 hf
        refine x_aload_n dX2_dropCalls_31 rfl rfl ?_
        refine x_iload_n dX2_dropCalls_32 rfl rfl ?_
        refine x_iload_n dX2_dropCalls_33 rfl rfl ?_
        refine x_iload_n dX2_dropCalls_34 rfl rfl ?_
        refine x_iconst (v := 0) dX2_dropCalls_35 (by decide) ?_
        obtain ⟨M11, hq10, hf⟩ := zbind hf
        refine x_invVv dX2_dropCalls_36 mk_X2_setFacts ml_X2_110 (cc_X2_setFacts hq10) rfl rfl rfl (Nat.le_of_ble_eq_true rfl) rfl (Nat.le_of_ble_eq_true rfl) rfl ?_
        refine x_aload_n dX2_dropCalls_39 rfl rfl ?_
        refine x_getR dX2_dropCalls_40 fl_X2_23 rfl rfl ?_
        refine x_bipush (v := 6) dX2_dropCalls_43 (by decide) ?_
        refine x_aload_n dX2_dropCalls_45 rfl rfl ?_
        refine x_getS (r := 64) dX2_dropCalls_46 fl_X2_52 rfl rfl ?_
        obtain ⟨r14, M13, hq12, hf⟩ := zb2E hf
        obtain ⟨hdy49, hq12⟩ := zdyE hq12
        obtain ⟨cd49, hs49⟩ := zdySH hdy49
        refine x_invVi dX2_dropCalls_49 mk_X6_firstHolding ml_X2_116 (cc_X6_firstHolding hdy49 hq12) hs49 rfl rfl (Nat.le_of_ble_eq_true rfl) rfl (Nat.le_of_ble_eq_true rfl) rfl ?_
        refine x_iconst (v := -1) dX2_dropCalls_52 (by decide) ?_
        refine x_icmp_eq (tgt := 65) dX2_dropCalls_53 (by decide) (fun c53 => ?_) (fun c53 => ?_)
        · replace hf := zif_t c53 hf
          exact Ex.sb (cc_X2_dropCalls_L65 ih hf) ⟨rfl, rfl, rfl, trivial⟩
        · replace hf := zif_f c53 hf
          refine x_aload_n dX2_dropCalls_56 rfl rfl ?_
          refine x_getS (r := 47) dX2_dropCalls_57 fl_X2_19 rfl rfl ?_
          refine x_iload_n dX2_dropCalls_60 rfl rfl ?_
          refine x_iload_n dX2_dropCalls_61 rfl rfl ?_
          obtain ⟨M16, hq15, hf⟩ := zbind hf
          refine x_invVv dX2_dropCalls_62 mk_X1_drop ml_X2_130 (cc_X1_drop hq15) rfl rfl rfl (Nat.le_of_ble_eq_true rfl) rfl (Nat.le_of_ble_eq_true rfl) rfl ?_
          exact Ex.sb (cc_X2_dropCalls_L65 ih hf) ⟨rfl, rfl, rfl, trivial⟩
theorem cc_X2_dropCalls {l : Launch} {G : zG} {N : Nat} {x1 : Int32}  {M : zMem} {M1 : zMem} (hf : fX2_dropCalls N x1 M = some M1) : Ca l G 4 mX2_dropCalls [.ref (G.2.2.1 57), .int x1] M none M1 := by
  refine Ca.of (by decide +kernel) (Nat.le_of_ble_eq_true rfl) rfl ?_
  rw [fX2_dropCalls] at hf
  refine x_aload_n dX2_dropCalls_0 rfl rfl ?_
  refine x_getS (r := 47) dX2_dropCalls_1 fl_X2_19 rfl rfl ?_
  obtain ⟨r3, M2, hq1, hf⟩ := zb2E hf
  refine x_invVi dX2_dropCalls_4 mk_X1_nightStart ml_X2_88 (cc_X1_nightStart hq1) rfl rfl rfl (Nat.le_of_ble_eq_true rfl) rfl (Nat.le_of_ble_eq_true rfl) rfl ?_
  refine x_istore_n dX2_dropCalls_7 rfl (Nat.le_of_ble_eq_true rfl) rfl ?_
  exact Ex.sb (cc_X2_dropCalls_L8  hf) ⟨rfl, rfl, rfl, trivial⟩
theorem cc_X6_numberOf {l : Launch} {G : zG} {r0 : Nat} {x1 : Int32} (hr0 : r0 = 3 ∨ r0 = 11) {M : zMem} {r : Int32} {M1 : zMem} (hf : fX6_numberOf r0 x1 M = some (r, M1)) : Ca l G 0 mX6_numberOf [.ref (G.2.2.1 r0), .int x1] M (some (.int r)) M1 := by
  rcases hr0 with rfl | rfl
  · refine Ca.of (by decide +kernel) (Nat.le_of_ble_eq_true rfl) rfl ?_
    rw [fX6_numberOf] at hf
    refine x_iload_n dX6_numberOf_0 rfl rfl ?_
    refine x_if_lt (tgt := 21) dX6_numberOf_1 (by decide) (fun c1 => ?_) (fun c1 => ?_)
    · replace hf := zif_t c1 hf
      refine x_iconst (v := 0) dX6_numberOf_21 (by decide) ?_
      exact x_iret rfl dX6_numberOf_22 (zretI hf)
    · replace hf := zif_f c1 hf
      refine x_iload_n dX6_numberOf_4 rfl rfl ?_
      refine x_aload_n dX6_numberOf_5 rfl rfl ?_
      refine x_getI dX6_numberOf_6 fl_X6_33 rfl rfl ?_
      refine x_icmp_ge (tgt := 21) dX6_numberOf_9 (by decide) (fun c9 => ?_) (fun c9 => ?_)
      · replace hf := zif_t c9 hf
        refine x_iconst (v := 0) dX6_numberOf_21 (by decide) ?_
        exact x_iret rfl dX6_numberOf_22 (zretI hf)
      · replace hf := zif_f c9 hf
        refine x_aload_n dX6_numberOf_12 rfl rfl ?_
        refine x_getS dX6_numberOf_13 fl_X6_15 rfl rfl ?_
        refine x_iload_n dX6_numberOf_16 rfl rfl ?_
        obtain ⟨v1, hv1, hf⟩ := zbind hf
        refine x_ild dX6_numberOf_17 rfl hv1 ?_
        refine x_goto (tgt := 22) dX6_numberOf_18 (by decide) ?_
        exact x_iret rfl dX6_numberOf_22 (zretI hf)
  · refine Ca.of (by decide +kernel) (Nat.le_of_ble_eq_true rfl) rfl ?_
    rw [fX6_numberOf] at hf
    refine x_iload_n dX6_numberOf_0 rfl rfl ?_
    refine x_if_lt (tgt := 21) dX6_numberOf_1 (by decide) (fun c1 => ?_) (fun c1 => ?_)
    · replace hf := zif_t c1 hf
      refine x_iconst (v := 0) dX6_numberOf_21 (by decide) ?_
      exact x_iret rfl dX6_numberOf_22 (zretI hf)
    · replace hf := zif_f c1 hf
      refine x_iload_n dX6_numberOf_4 rfl rfl ?_
      refine x_aload_n dX6_numberOf_5 rfl rfl ?_
      refine x_getI dX6_numberOf_6 fl_X6_33 rfl rfl ?_
      refine x_icmp_ge (tgt := 21) dX6_numberOf_9 (by decide) (fun c9 => ?_) (fun c9 => ?_)
      · replace hf := zif_t c9 hf
        refine x_iconst (v := 0) dX6_numberOf_21 (by decide) ?_
        exact x_iret rfl dX6_numberOf_22 (zretI hf)
      · replace hf := zif_f c9 hf
        refine x_aload_n dX6_numberOf_12 rfl rfl ?_
        refine x_getS dX6_numberOf_13 fl_X6_15 rfl rfl ?_
        refine x_iload_n dX6_numberOf_16 rfl rfl ?_
        obtain ⟨v1, hv1, hf⟩ := zbind hf
        refine x_ild dX6_numberOf_17 rfl hv1 ?_
        refine x_goto (tgt := 22) dX6_numberOf_18 (by decide) ?_
        exact x_iret rfl dX6_numberOf_22 (zretI hf)
theorem cc_X2_endCalls_L108 {l : Launch} {G : zG} {N : Nat} {k2 : Int32 → Int32 → zMem → Option zMem} (hk2 : ∀ {x1 : Int32} {x2 : Int32} {M : zMem} {M1 : zMem}, k2 x1 x2 M = some M1 → Ex l G 4 mX2_endCalls 2 [(0, .ref (G.2.2.1 57)), (1, .int x1), (2, .int x2)] [] M (zqV M1)) {x1 : Int32} {x2 : Int32} {M : zMem} {M1 : zMem} (hf : fX2_endCalls_L108 N k2 x1 x2 M = some M1) : Ex l G 4 mX2_endCalls 108 [(0, .ref (G.2.2.1 57)), (1, .int x1), (2, .int x2)] [] M (zqV M1) := by
  rw [fX2_endCalls_L108] at hf
  obtain ⟨x2_24, ex2_24, hf⟩ := zletE hf
  refine x_iinc (c0 := 1) dX2_endCalls_108 rfl (Nat.le_of_ble_eq_true rfl) (by decide) ex2_24 ?_
  refine x_goto (tgt := 2) dX2_endCalls_111 (by decide) ?_
  exact Ex.sb (hk2 hf) ⟨rfl, rfl, rfl, trivial⟩
theorem cc_X2_endCalls_L2 {l : Launch} {G : zG} {N : Nat} : ∀ {n : Nat} {x1 : Int32} {x2 : Int32} {M : zMem} {M1 : zMem}, fX2_endCalls_L2 N n x1 x2 M = some M1 → Ex l G 4 mX2_endCalls 2 [(0, .ref (G.2.2.1 57)), (1, .int x1), (2, .int x2)] [] M (zqV M1) := by
  intro n
  induction n with
  | zero => intro x1 x2 M M1 hf; cases hf
  | succ n ih =>
    intro x1 x2 M M1 hf
    rw [fX2_endCalls_L2] at hf
    refine x_iload_n dX2_endCalls_2 rfl rfl ?_
    refine x_bipush (v := 8) dX2_endCalls_3 (by decide) ?_
    refine x_icmp_ge (tgt := 114) dX2_endCalls_5 (by decide) (fun c5 => ?_) (fun c5 => ?_)
    · replace hf := zif_t c5 hf
      exact x_vret rfl dX2_endCalls_114 (zretV hf)
    · replace hf := zif_f c5 hf
      refine x_aload_n dX2_endCalls_8 rfl rfl ?_
      refine x_getS (r := 58) dX2_endCalls_9 fl_X2_29 rfl rfl ?_
      refine x_iload_n dX2_endCalls_12 rfl rfl ?_
      obtain ⟨v1, hv1, hf⟩ := zbind hf
      refine x_ild dX2_endCalls_13 rfl hv1 ?_
      refine x_istore_n dX2_endCalls_14 rfl (Nat.le_of_ble_eq_true rfl) rfl ?_
      refine x_iload_n dX2_endCalls_15 rfl rfl ?_
      refine x_iconst (v := -1) dX2_endCalls_16 (by decide) ?_
      refine x_icmp_eq (tgt := 108) dX2_endCalls_17 (by decide) (fun c17 => ?_) (fun c17 => ?_)
      · replace hf := zif_t c17 hf
        exact Ex.sb (cc_X2_endCalls_L108 ih hf) ⟨rfl, rfl, rfl, trivial⟩
      · replace hf := zif_f c17 hf
        refine x_aload_n dX2_endCalls_20 rfl rfl ?_
        refine x_getS (r := 47) dX2_endCalls_21 fl_X2_19 rfl rfl ?_
        refine x_iload_n dX2_endCalls_24 rfl rfl ?_
        obtain ⟨r4, M3, hq2, hf⟩ := zb2E hf
        refine x_invVi dX2_endCalls_25 mk_X1_endOf ml_X2_101 (cc_X1_endOf hq2) rfl rfl rfl (Nat.le_of_ble_eq_true rfl) rfl (Nat.le_of_ble_eq_true rfl) rfl ?_
        refine x_iload_n dX2_endCalls_28 rfl rfl ?_
        refine x_icmp_ne (tgt := 108) dX2_endCalls_29 (by decide) (fun c29 => ?_) (fun c29 => ?_)
        · replace hf := zif_f c29 hf
          exact Ex.sb (cc_X2_endCalls_L108 ih hf) ⟨rfl, rfl, rfl, trivial⟩
        · replace hf := zif_t c29 hf
          refine x_aload_n dX2_endCalls_32 rfl rfl ?_
          refine x_getS (r := 58) dX2_endCalls_33 fl_X2_29 rfl rfl ?_
          refine x_iload_n dX2_endCalls_36 rfl rfl ?_
          refine x_iconst (v := -1) dX2_endCalls_37 (by decide) ?_
          obtain ⟨M5, hM5, hf⟩ := zbind hf
          refine x_ist dX2_endCalls_38 rfl hM5 ?_
          refine x_aload_n dX2_endCalls_39 rfl rfl ?_
          refine x_getS (r := 60) dX2_endCalls_40 fl_X2_36 rfl rfl ?_
          refine x_iload_n dX2_endCalls_43 rfl rfl ?_
          refine x_dup2 dX2_endCalls_44 rfl rfl ?_
          obtain ⟨v6, hv6, hf⟩ := zbind hf
          refine x_ild dX2_endCalls_45 rfl hv6 ?_
          refine x_aload_n dX2_endCalls_46 rfl rfl ?_
          refine x_getS (r := 47) dX2_endCalls_47 fl_X2_19 rfl rfl ?_
          refine x_iload_n dX2_endCalls_50 rfl rfl ?_
          obtain ⟨r9, M8, hq7, hf⟩ := zb2E hf
          refine x_invVi dX2_endCalls_51 mk_X1_lengthOf ml_X2_104 (cc_X1_lengthOf hq7) rfl rfl rfl (Nat.le_of_ble_eq_true rfl) rfl (Nat.le_of_ble_eq_true rfl) rfl ?_
          refine x_iadd dX2_endCalls_54 ?_
          obtain ⟨M10, hM10, hf⟩ := zbind hf
          refine x_ist dX2_endCalls_55 rfl hM10 ?_
          refine x_aload_n dX2_endCalls_56 rfl rfl ?_
          refine x_iload_n dX2_endCalls_57 rfl rfl ?_
          refine x_aload_n dX2_endCalls_58 rfl rfl ?_
          refine x_getS (r := 47) dX2_endCalls_59 fl_X2_19 rfl rfl ?_
          refine x_iload_n dX2_endCalls_62 rfl rfl ?_
          obtain ⟨r13, M12, hq11, hf⟩ := zb2E hf
          refine x_invVi dX2_endCalls_63 mk_X1_sinceOf ml_X2_107 (cc_X1_sinceOf hq11) rfl rfl rfl (Nat.le_of_ble_eq_true rfl) rfl (Nat.le_of_ble_eq_true rfl) rfl ?_
          refine x_iload_n dX2_endCalls_66 rfl rfl ?_
          refine x_aload_n dX2_endCalls_67 rfl rfl ?_
          refine x_getS (r := 60) dX2_endCalls_68 fl_X2_36 rfl rfl ?_
          refine x_iload_n dX2_endCalls_71 rfl rfl ?_
          obtain ⟨v14, hv14, hf⟩ := zbind hf
          refine x_ild dX2_endCalls_72 rfl hv14 ?_
          obtain ⟨M16, hq15, hf⟩ := zbind hf
          refine x_invVv dX2_endCalls_73 mk_X2_setFacts ml_X2_110 (cc_X2_setFacts hq15) rfl rfl rfl (Nat.le_of_ble_eq_true rfl) rfl (Nat.le_of_ble_eq_true rfl) rfl ?_
          refine x_aload_n dX2_endCalls_76 rfl rfl ?_
          refine x_getR dX2_endCalls_77 fl_X2_23 rfl rfl ?_
          refine x_bipush (v := 7) dX2_endCalls_80 (by decide) ?_
          refine x_aload_n dX2_endCalls_82 rfl rfl ?_
          refine x_getS (r := 64) dX2_endCalls_83 fl_X2_52 rfl rfl ?_
          obtain ⟨r19, M18, hq17, hf⟩ := zb2E hf
          obtain ⟨hdy86, hq17⟩ := zdyE hq17
          obtain ⟨cd86, hs86⟩ := zdySH hdy86
          refine x_invVi dX2_endCalls_86 mk_X6_firstHolding ml_X2_116 (cc_X6_firstHolding hdy86 hq17) hs86 rfl rfl (Nat.le_of_ble_eq_true rfl) rfl (Nat.le_of_ble_eq_true rfl) rfl ?_
          refine x_istore dX2_endCalls_89 (Nat.le_of_ble_eq_true rfl) rfl ?_
          refine x_aload_n dX2_endCalls_91 rfl rfl ?_
          refine x_getS (r := 59) dX2_endCalls_92 fl_X2_33 rfl rfl ?_
          refine x_iload_n dX2_endCalls_95 rfl rfl ?_
          refine x_iload_n dX2_endCalls_96 rfl rfl ?_
          refine x_aload_n dX2_endCalls_97 rfl rfl ?_
          refine x_getR dX2_endCalls_98 fl_X2_23 rfl rfl ?_
          refine x_iload dX2_endCalls_101 rfl ?_
          obtain ⟨r22, M21, hq20, hf⟩ := zb2E hf
          obtain ⟨hdy103, hq20⟩ := zdyE hq20
          obtain ⟨cd103, hs103⟩ := zdySH hdy103
          refine x_invVi dX2_endCalls_103 mk_X6_numberOf ml_X2_120 (cc_X6_numberOf hdy103 hq20) hs103 rfl rfl (Nat.le_of_ble_eq_true rfl) rfl (Nat.le_of_ble_eq_true rfl) rfl ?_
          refine x_iadd dX2_endCalls_106 ?_
          obtain ⟨M23, hM23, hf⟩ := zbind hf
          refine x_ist dX2_endCalls_107 rfl hM23 ?_
          exact Ex.sb (cc_X2_endCalls_L108 ih hf) ⟨rfl, rfl, rfl, trivial⟩
theorem cc_X2_endCalls {l : Launch} {G : zG} {N : Nat} {x1 : Int32}  {M : zMem} {M1 : zMem} (hf : fX2_endCalls N x1 M = some M1) : Ca l G 4 mX2_endCalls [.ref (G.2.2.1 57), .int x1] M none M1 := by
  refine Ca.of (by decide +kernel) (Nat.le_of_ble_eq_true rfl) rfl ?_
  rw [fX2_endCalls] at hf
  refine x_iconst (v := 0) dX2_endCalls_0 (by decide) ?_
  refine x_istore_n dX2_endCalls_1 rfl (Nat.le_of_ble_eq_true rfl) rfl ?_
  exact Ex.sb (cc_X2_endCalls_L2  hf) ⟨rfl, rfl, rfl, trivial⟩
theorem cc_X2_isFree {l : Launch} {G : zG} {x1 : Int32} {x2 : Int32}  {M : zMem} {r : Int32} {M1 : zMem} (hf : fX2_isFree x1 x2 M = some (r, M1)) : Ca l G 2 mX2_isFree [.ref (G.2.2.1 57), .int x1, .int x2] M (some (.int r)) M1 := by
  refine Ca.of (by decide +kernel) (Nat.le_of_ble_eq_true rfl) rfl ?_
  rw [fX2_isFree] at hf
  refine x_iload_n dX2_isFree_0 rfl rfl ?_
  refine x_if_lt (tgt := 30) dX2_isFree_1 (by decide) (fun c1 => ?_) (fun c1 => ?_)
  · replace hf := zif_t c1 hf
    refine x_iconst (v := 0) dX2_isFree_30 (by decide) ?_
    exact x_zret rfl rfl dX2_isFree_31 (zretI hf)
  · replace hf := zif_f c1 hf
    refine x_iload_n dX2_isFree_4 rfl rfl ?_
    refine x_bipush (v := 8) dX2_isFree_5 (by decide) ?_
    refine x_icmp_ge (tgt := 30) dX2_isFree_7 (by decide) (fun c7 => ?_) (fun c7 => ?_)
    · replace hf := zif_t c7 hf
      refine x_iconst (v := 0) dX2_isFree_30 (by decide) ?_
      exact x_zret rfl rfl dX2_isFree_31 (zretI hf)
    · replace hf := zif_f c7 hf
      refine x_aload_n dX2_isFree_10 rfl rfl ?_
      refine x_getS (r := 58) dX2_isFree_11 fl_X2_29 rfl rfl ?_
      refine x_iload_n dX2_isFree_14 rfl rfl ?_
      obtain ⟨v1, hv1, hf⟩ := zbind hf
      refine x_ild dX2_isFree_15 rfl hv1 ?_
      refine x_iconst (v := -1) dX2_isFree_16 (by decide) ?_
      refine x_icmp_ne (tgt := 30) dX2_isFree_17 (by decide) (fun c17 => ?_) (fun c17 => ?_)
      · replace hf := zif_f c17 hf
        refine x_iconst (v := 0) dX2_isFree_30 (by decide) ?_
        exact x_zret rfl rfl dX2_isFree_31 (zretI hf)
      · replace hf := zif_t c17 hf
        refine x_iload_n dX2_isFree_20 rfl rfl ?_
        refine x_aload_n dX2_isFree_21 rfl rfl ?_
        refine x_getS (r := 59) dX2_isFree_22 fl_X2_33 rfl rfl ?_
        refine x_iload_n dX2_isFree_25 rfl rfl ?_
        obtain ⟨v2, hv2, hf⟩ := zbind hf
        refine x_ild dX2_isFree_26 rfl hv2 ?_
        refine x_icmp_ge (tgt := 32) dX2_isFree_27 (by decide) (fun c27 => ?_) (fun c27 => ?_)
        · replace hf := zif_t c27 hf
          refine x_aload_n dX2_isFree_32 rfl rfl ?_
          refine x_getS (r := 29) dX2_isFree_33 fl_X2_15 rfl rfl ?_
          refine x_iload_n dX2_isFree_36 rfl rfl ?_
          refine x_aload_n dX2_isFree_37 rfl rfl ?_
          refine x_getI dX2_isFree_38 fl_X2_55 rfl rfl ?_
          obtain ⟨r5, M4, hq3, hf⟩ := zb2E hf
          refine x_invVi dX2_isFree_41 mk_X0_hoursOf ml_X2_161 (cc_X0_hoursOf hq3) rfl rfl rfl (Nat.le_of_ble_eq_true rfl) rfl (Nat.le_of_ble_eq_true rfl) rfl ?_
          refine x_iload_n dX2_isFree_44 rfl rfl ?_
          refine x_bipush (v := 60) dX2_isFree_45 (by decide) ?_
          refine x_idiv dX2_isFree_47 (by decide) ?_
          refine x_ishr dX2_isFree_48 ?_
          refine x_iconst (v := 1) dX2_isFree_49 (by decide) ?_
          refine x_iand dX2_isFree_50 ?_
          refine x_if_eq (tgt := 58) dX2_isFree_51 (by decide) (fun c51 => ?_) (fun c51 => ?_)
          · replace hf := zif_t c51 hf
            refine x_iconst (v := 0) dX2_isFree_58 (by decide) ?_
            exact x_zret rfl rfl dX2_isFree_59 (zretI hf)
          · replace hf := zif_f c51 hf
            refine x_iconst (v := 1) dX2_isFree_54 (by decide) ?_
            refine x_goto (tgt := 59) dX2_isFree_55 (by decide) ?_
            exact x_zret rfl rfl dX2_isFree_59 (zretI hf)
        · replace hf := zif_f c27 hf
          refine x_iconst (v := 0) dX2_isFree_30 (by decide) ?_
          exact x_zret rfl rfl dX2_isFree_31 (zretI hf)
theorem cc_X6_kindOf {l : Launch} {G : zG} {r0 : Nat} {x1 : Int32} (hr0 : r0 = 3 ∨ r0 = 11) {M : zMem} {r : Int32} {M1 : zMem} (hf : fX6_kindOf r0 x1 M = some (r, M1)) : Ca l G 0 mX6_kindOf [.ref (G.2.2.1 r0), .int x1] M (some (.int r)) M1 := by
  rcases hr0 with rfl | rfl
  · refine Ca.of (by decide +kernel) (Nat.le_of_ble_eq_true rfl) rfl ?_
    rw [fX6_kindOf] at hf
    refine x_iload_n dX6_kindOf_0 rfl rfl ?_
    refine x_if_lt (tgt := 21) dX6_kindOf_1 (by decide) (fun c1 => ?_) (fun c1 => ?_)
    · replace hf := zif_t c1 hf
      refine x_iconst (v := -1) dX6_kindOf_21 (by decide) ?_
      exact x_iret rfl dX6_kindOf_22 (zretI hf)
    · replace hf := zif_f c1 hf
      refine x_iload_n dX6_kindOf_4 rfl rfl ?_
      refine x_aload_n dX6_kindOf_5 rfl rfl ?_
      refine x_getI dX6_kindOf_6 fl_X6_33 rfl rfl ?_
      refine x_icmp_ge (tgt := 21) dX6_kindOf_9 (by decide) (fun c9 => ?_) (fun c9 => ?_)
      · replace hf := zif_t c9 hf
        refine x_iconst (v := -1) dX6_kindOf_21 (by decide) ?_
        exact x_iret rfl dX6_kindOf_22 (zretI hf)
      · replace hf := zif_f c9 hf
        refine x_aload_n dX6_kindOf_12 rfl rfl ?_
        refine x_getS dX6_kindOf_13 fl_X6_11 rfl rfl ?_
        refine x_iload_n dX6_kindOf_16 rfl rfl ?_
        obtain ⟨v1, hv1, hf⟩ := zbind hf
        refine x_ild dX6_kindOf_17 rfl hv1 ?_
        refine x_goto (tgt := 22) dX6_kindOf_18 (by decide) ?_
        exact x_iret rfl dX6_kindOf_22 (zretI hf)
  · refine Ca.of (by decide +kernel) (Nat.le_of_ble_eq_true rfl) rfl ?_
    rw [fX6_kindOf] at hf
    refine x_iload_n dX6_kindOf_0 rfl rfl ?_
    refine x_if_lt (tgt := 21) dX6_kindOf_1 (by decide) (fun c1 => ?_) (fun c1 => ?_)
    · replace hf := zif_t c1 hf
      refine x_iconst (v := -1) dX6_kindOf_21 (by decide) ?_
      exact x_iret rfl dX6_kindOf_22 (zretI hf)
    · replace hf := zif_f c1 hf
      refine x_iload_n dX6_kindOf_4 rfl rfl ?_
      refine x_aload_n dX6_kindOf_5 rfl rfl ?_
      refine x_getI dX6_kindOf_6 fl_X6_33 rfl rfl ?_
      refine x_icmp_ge (tgt := 21) dX6_kindOf_9 (by decide) (fun c9 => ?_) (fun c9 => ?_)
      · replace hf := zif_t c9 hf
        refine x_iconst (v := -1) dX6_kindOf_21 (by decide) ?_
        exact x_iret rfl dX6_kindOf_22 (zretI hf)
      · replace hf := zif_f c9 hf
        refine x_aload_n dX6_kindOf_12 rfl rfl ?_
        refine x_getS dX6_kindOf_13 fl_X6_11 rfl rfl ?_
        refine x_iload_n dX6_kindOf_16 rfl rfl ?_
        obtain ⟨v1, hv1, hf⟩ := zbind hf
        refine x_ild dX6_kindOf_17 rfl hv1 ?_
        refine x_goto (tgt := 22) dX6_kindOf_18 (by decide) ?_
        exact x_iret rfl dX6_kindOf_22 (zretI hf)
theorem cc_X6_size {l : Launch} {G : zG} {r0 : Nat} (hr0 : r0 = 3 ∨ r0 = 11) {M : zMem} {r : Int32} {M1 : zMem} (hf : fX6_size r0 M = some (r, M1)) : Ca l G 0 mX6_size [.ref (G.2.2.1 r0)] M (some (.int r)) M1 := by
  rcases hr0 with rfl | rfl
  · refine Ca.of (by decide +kernel) (Nat.le_of_ble_eq_true rfl) rfl ?_
    rw [fX6_size] at hf
    refine x_aload_n dX6_size_0 rfl rfl ?_
    refine x_getI dX6_size_1 fl_X6_33 rfl rfl ?_
    exact x_iret rfl dX6_size_4 (zretI hf)
  · refine Ca.of (by decide +kernel) (Nat.le_of_ble_eq_true rfl) rfl ?_
    rw [fX6_size] at hf
    refine x_aload_n dX6_size_0 rfl rfl ?_
    refine x_getI dX6_size_1 fl_X6_33 rfl rfl ?_
    exact x_iret rfl dX6_size_4 (zretI hf)
theorem cc_X9_isStep {l : Launch} {G : zG} {x1 : Int32}  {M : zMem} {r : Int32} {M1 : zMem} (hf : fX9_isStep x1 M = some (r, M1)) : Ca l G 0 mX9_isStep [.ref (G.2.2.1 22), .int x1] M (some (.int r)) M1 := by
  refine Ca.of (by decide +kernel) (Nat.le_of_ble_eq_true rfl) rfl ?_
  rw [fX9_isStep] at hf
  refine x_iload_n dX9_isStep_0 rfl rfl ?_
  refine x_if_lt (tgt := 16) dX9_isStep_1 (by decide) (fun c1 => ?_) (fun c1 => ?_)
  · replace hf := zif_t c1 hf
    refine x_iconst (v := 0) dX9_isStep_16 (by decide) ?_
    exact x_zret rfl rfl dX9_isStep_17 (zretI hf)
  · replace hf := zif_f c1 hf
    refine x_iload_n dX9_isStep_4 rfl rfl ?_
    refine x_aload_n dX9_isStep_5 rfl rfl ?_
    refine x_getI dX9_isStep_6 fl_X9_28 rfl rfl ?_
    refine x_icmp_ge (tgt := 16) dX9_isStep_9 (by decide) (fun c9 => ?_) (fun c9 => ?_)
    · replace hf := zif_t c9 hf
      refine x_iconst (v := 0) dX9_isStep_16 (by decide) ?_
      exact x_zret rfl rfl dX9_isStep_17 (zretI hf)
    · replace hf := zif_f c9 hf
      refine x_iconst (v := 1) dX9_isStep_12 (by decide) ?_
      refine x_goto (tgt := 17) dX9_isStep_13 (by decide) ?_
      exact x_zret rfl rfl dX9_isStep_17 (zretI hf)
theorem cc_X9_isVolunteer {l : Launch} {G : zG} {x1 : Int32}  {M : zMem} {r : Int32} {M1 : zMem} (hf : fX9_isVolunteer x1 M = some (r, M1)) : Ca l G 0 mX9_isVolunteer [.ref (G.2.2.1 22), .int x1] M (some (.int r)) M1 := by
  refine Ca.of (by decide +kernel) (Nat.le_of_ble_eq_true rfl) rfl ?_
  rw [fX9_isVolunteer] at hf
  refine x_iload_n dX9_isVolunteer_0 rfl rfl ?_
  refine x_if_lt (tgt := 16) dX9_isVolunteer_1 (by decide) (fun c1 => ?_) (fun c1 => ?_)
  · replace hf := zif_t c1 hf
    refine x_iconst (v := 0) dX9_isVolunteer_16 (by decide) ?_
    exact x_zret rfl rfl dX9_isVolunteer_17 (zretI hf)
  · replace hf := zif_f c1 hf
    refine x_iload_n dX9_isVolunteer_4 rfl rfl ?_
    refine x_aload_n dX9_isVolunteer_5 rfl rfl ?_
    refine x_getI dX9_isVolunteer_6 fl_X9_18 rfl rfl ?_
    refine x_icmp_ge (tgt := 16) dX9_isVolunteer_9 (by decide) (fun c9 => ?_) (fun c9 => ?_)
    · replace hf := zif_t c9 hf
      refine x_iconst (v := 0) dX9_isVolunteer_16 (by decide) ?_
      exact x_zret rfl rfl dX9_isVolunteer_17 (zretI hf)
    · replace hf := zif_f c9 hf
      refine x_iconst (v := 1) dX9_isVolunteer_12 (by decide) ?_
      refine x_goto (tgt := 17) dX9_isVolunteer_13 (by decide) ?_
      exact x_zret rfl rfl dX9_isVolunteer_17 (zretI hf)
theorem cc_X9_learnedBit {l : Launch} {G : zG} {x0 : Int32} {x1 : Int32}  {M : zMem} {r : Int64} {M1 : zMem} (hf : fX9_learnedBit x0 x1 M = some (r, M1)) : Ca l G 0 mX9_learnedBit [.int x0, .int x1] M (some (.long r)) M1 := by
  refine Ca.of (by decide +kernel) (Nat.le_of_ble_eq_true rfl) rfl ?_
  rw [fX9_learnedBit] at hf
  refine x_lconst (v := 1) dX9_learnedBit_0 (by decide) ?_
  refine x_iload_n dX9_learnedBit_1 rfl rfl ?_
  refine x_bipush (v := 8) dX9_learnedBit_2 (by decide) ?_
  refine x_imul dX9_learnedBit_4 ?_
  refine x_iload_n dX9_learnedBit_5 rfl rfl ?_
  refine x_iadd dX9_learnedBit_6 ?_
  refine x_lshl dX9_learnedBit_7 ?_
  exact x_lret rfl dX9_learnedBit_8 (zretJ hf)
theorem cc_X9_hasStep_L31 {l : Launch} {G : zG} {N : Nat} : ∀ {n : Nat} {x1 : Int32} {x3 : Int32} {x4 : Int32} {x5 : Int32} {M : zMem} {r : Int32} {M1 : zMem}, fX9_hasStep_L31 N n x1 x3 x4 x5 M = some (r, M1) → Ex l G 1 mX9_hasStep 31 [(0, .ref (G.2.2.1 22)), (1, .int x1), (3, .int x3), (4, .int x4), (5, .int x5)] [] M (zqI r M1) := by
  intro n
  induction n with
  | zero => intro x1 x3 x4 x5 M r M1 hf; cases hf
  | succ n ih =>
    intro x1 x3 x4 x5 M r M1 hf
    rw [fX9_hasStep_L31] at hf
    refine x_iload dX9_hasStep_31 rfl ?_
    refine x_bipush (v := 8) dX9_hasStep_33 (by decide) ?_
    refine x_icmp_ge (tgt := 82) dX9_hasStep_35 (by decide) (fun c35 => ?_) (fun c35 => ?_)
    · replace hf := zif_t c35 hf
      refine x_iconst (v := 1) dX9_hasStep_82 (by decide) ?_
      exact x_zret rfl rfl dX9_hasStep_83 (zretI hf)
    · replace hf := zif_f c35 hf
      refine x_aload_n dX9_hasStep_38 rfl rfl ?_
      refine x_iload dX9_hasStep_39 rfl ?_
      obtain ⟨r12, M11, hq10, hf⟩ := zb2E hf
      refine x_invVi dX9_hasStep_41 mk_X9_isStep ml_X9_42 (cc_X9_isStep hq10) rfl rfl rfl (Nat.le_of_ble_eq_true rfl) rfl (Nat.le_of_ble_eq_true rfl) rfl ?_
      refine x_if_eq (tgt := 82) dX9_hasStep_44 (by decide) (fun c44 => ?_) (fun c44 => ?_)
      · replace hf := zif_t c44 hf
        refine x_iconst (v := 1) dX9_hasStep_82 (by decide) ?_
        exact x_zret rfl rfl dX9_hasStep_83 (zretI hf)
      · replace hf := zif_f c44 hf
        refine x_aload_n dX9_hasStep_47 rfl rfl ?_
        refine x_getS (r := 27) dX9_hasStep_48 fl_X9_31 rfl rfl ?_
        refine x_iload_n dX9_hasStep_51 rfl rfl ?_
        obtain ⟨v13, hv13, hf⟩ := zbind hf
        refine x_jld dX9_hasStep_52 rfl hv13 ?_
        refine x_iload_n dX9_hasStep_53 rfl rfl ?_
        refine x_iload dX9_hasStep_54 rfl ?_
        obtain ⟨r16, M15, hq14, hf⟩ := zb2E hf
        refine x_invSj dX9_hasStep_56 mk_X9_learnedBit ml_X9_52 (cc_X9_learnedBit hq14) (Nat.le_of_ble_eq_true rfl) rfl (Nat.le_of_ble_eq_true rfl) rfl ?_
        refine x_land dX9_hasStep_59 ?_
        refine x_lconst (v := 0) dX9_hasStep_60 (by decide) ?_
        refine x_lcmp dX9_hasStep_61 ?_
        refine x_if_ne (tgt := 67) dX9_hasStep_62 (by decide) (fun c62 => ?_) (fun c62 => ?_)
        · replace hf := zif_f c62 hf
          refine x_aload_n dX9_hasStep_67 rfl rfl ?_
          refine x_getS (r := 25) dX9_hasStep_68 fl_X9_22 rfl rfl ?_
          refine x_iload dX9_hasStep_71 rfl ?_
          obtain ⟨v17, hv17, hf⟩ := zbind hf
          refine x_ild dX9_hasStep_73 rfl hv17 ?_
          refine x_istore dX9_hasStep_74 (Nat.le_of_ble_eq_true rfl) rfl ?_
          obtain ⟨x5_18, ex5_18, hf⟩ := zletE hf
          refine x_iinc (c0 := 1) dX9_hasStep_76 rfl (Nat.le_of_ble_eq_true rfl) (by decide) ex5_18 ?_
          refine x_goto (tgt := 31) dX9_hasStep_79 (by decide) ?_
          exact Ex.sb (ih hf) ⟨rfl, rfl, rfl, rfl, rfl, trivial⟩
        · replace hf := zif_t c62 hf
          refine x_iconst (v := 0) dX9_hasStep_65 (by decide) ?_
          exact x_zret rfl rfl dX9_hasStep_66 (zretI hf)
theorem cc_X9_hasStep {l : Launch} {G : zG} {N : Nat} {x1 : Int32} {x2 : Int32} {x3 : Int32}  {M : zMem} {r : Int32} {M1 : zMem} (hf : fX9_hasStep N x1 x2 x3 M = some (r, M1)) : Ca l G 1 mX9_hasStep [.ref (G.2.2.1 22), .int x1, .int x2, .int x3] M (some (.int r)) M1 := by
  refine Ca.of (by decide +kernel) (Nat.le_of_ble_eq_true rfl) rfl ?_
  rw [fX9_hasStep] at hf
  refine x_aload_n dX9_hasStep_0 rfl rfl ?_
  refine x_iload_n dX9_hasStep_1 rfl rfl ?_
  obtain ⟨r3, M2, hq1, hf⟩ := zb2E hf
  refine x_invVi dX9_hasStep_2 mk_X9_isVolunteer ml_X9_38 (cc_X9_isVolunteer hq1) rfl rfl rfl (Nat.le_of_ble_eq_true rfl) rfl (Nat.le_of_ble_eq_true rfl) rfl ?_
  refine x_if_eq (tgt := 23) dX9_hasStep_5 (by decide) (fun c5 => ?_) (fun c5 => ?_)
  · replace hf := zif_t c5 hf
    refine x_iconst (v := 0) dX9_hasStep_23 (by decide) ?_
    exact x_zret rfl rfl dX9_hasStep_24 (zretI hf)
  · replace hf := zif_f c5 hf
    refine x_aload_n dX9_hasStep_8 rfl rfl ?_
    refine x_iload_n dX9_hasStep_9 rfl rfl ?_
    obtain ⟨r6, M5, hq4, hf⟩ := zb2E hf
    refine x_invVi dX9_hasStep_10 mk_X9_isStep ml_X9_42 (cc_X9_isStep hq4) rfl rfl rfl (Nat.le_of_ble_eq_true rfl) rfl (Nat.le_of_ble_eq_true rfl) rfl ?_
    refine x_if_eq (tgt := 23) dX9_hasStep_13 (by decide) (fun c13 => ?_) (fun c13 => ?_)
    · replace hf := zif_t c13 hf
      refine x_iconst (v := 0) dX9_hasStep_23 (by decide) ?_
      exact x_zret rfl rfl dX9_hasStep_24 (zretI hf)
    · replace hf := zif_f c13 hf
      refine x_iload_n dX9_hasStep_16 rfl rfl ?_
      obtain ⟨r9, M8, hq7, hf⟩ := zb2E hf
      refine x_invNi (host := "FriendLine") dX9_hasStep_17 mk_X11_isNight (List.mem_of_getElem? (i := 1) rfl) (cc_X11_isNight hq7) (Nat.le_of_ble_eq_true rfl) rfl (Nat.le_of_ble_eq_true rfl) rfl ?_
      refine x_if_ne (tgt := 25) dX9_hasStep_20 (by decide) (fun c20 => ?_) (fun c20 => ?_)
      · replace hf := zif_f c20 hf
        refine x_iload_n dX9_hasStep_25 rfl rfl ?_
        refine x_istore dX9_hasStep_26 (Nat.le_of_ble_eq_true rfl) rfl ?_
        refine x_iconst (v := 0) dX9_hasStep_28 (by decide) ?_
        refine x_istore dX9_hasStep_29 (Nat.le_of_ble_eq_true rfl) rfl ?_
        exact Ex.sb (cc_X9_hasStep_L31  hf) ⟨rfl, rfl, rfl, rfl, rfl, trivial⟩
      · replace hf := zif_t c20 hf
        refine x_iconst (v := 0) dX9_hasStep_23 (by decide) ?_
        exact x_zret rfl rfl dX9_hasStep_24 (zretI hf)
theorem cc_X2_isTrained_L95 {l : Launch} {G : zG} {N : Nat} {k28 : Int32 → Int32 → zMem → Option (Int32 × zMem)} (hk28 : ∀ {x1 : Int32} {x4 : Int32} {M : zMem} {r : Int32} {M1 : zMem}, k28 x1 x4 M = some (r, M1) → Ex l G 3 mX2_isTrained 28 [(0, .ref (G.2.2.1 57)), (1, .int x1), (4, .int x4)] [] M (zqI r M1)) {x1 : Int32} {x4 : Int32} {M : zMem} {r : Int32} {M1 : zMem} (hf : fX2_isTrained_L95 N k28 x1 x4 M = some (r, M1)) : Ex l G 3 mX2_isTrained 95 [(0, .ref (G.2.2.1 57)), (1, .int x1), (4, .int x4)] [] M (zqI r M1) := by
  rw [fX2_isTrained_L95] at hf
  obtain ⟨x4_19, ex4_19, hf⟩ := zletE hf
  refine x_iinc (c0 := 1) dX2_isTrained_95 rfl (Nat.le_of_ble_eq_true rfl) (by decide) ex4_19 ?_
  refine x_goto (tgt := 28) dX2_isTrained_98 (by decide) ?_
  exact Ex.sb (hk28 hf) ⟨rfl, rfl, rfl, trivial⟩
theorem cc_X2_isTrained_L28 {l : Launch} {G : zG} {N : Nat} : ∀ {n : Nat} {x1 : Int32} {x4 : Int32} {M : zMem} {r : Int32} {M1 : zMem}, fX2_isTrained_L28 N n x1 x4 M = some (r, M1) → Ex l G 3 mX2_isTrained 28 [(0, .ref (G.2.2.1 57)), (1, .int x1), (4, .int x4)] [] M (zqI r M1) := by
  intro n
  induction n with
  | zero => intro x1 x4 M r M1 hf; cases hf
  | succ n ih =>
    intro x1 x4 M r M1 hf
    rw [fX2_isTrained_L28] at hf
    refine x_iload dX2_isTrained_28 rfl ?_
    refine x_aload_n dX2_isTrained_30 rfl rfl ?_
    refine x_getR dX2_isTrained_31 fl_X2_23 rfl rfl ?_
    obtain ⟨r6, M5, hq4, hf⟩ := zb2E hf
    obtain ⟨hdy34, hq4⟩ := zdyE hq4
    obtain ⟨cd34, hs34⟩ := zdySH hdy34
    refine x_invVi dX2_isTrained_34 mk_X6_size ml_X2_166 (cc_X6_size hdy34 hq4) hs34 rfl rfl (Nat.le_of_ble_eq_true rfl) rfl (Nat.le_of_ble_eq_true rfl) rfl ?_
    refine x_icmp_ge (tgt := 101) dX2_isTrained_37 (by decide) (fun c37 => ?_) (fun c37 => ?_)
    · replace hf := zif_t c37 hf
      refine x_iconst (v := 1) dX2_isTrained_101 (by decide) ?_
      exact x_zret rfl rfl dX2_isTrained_102 (zretI hf)
    · replace hf := zif_f c37 hf
      refine x_aload_n dX2_isTrained_40 rfl rfl ?_
      refine x_getR dX2_isTrained_41 fl_X2_23 rfl rfl ?_
      refine x_iload dX2_isTrained_44 rfl ?_
      obtain ⟨r9, M8, hq7, hf⟩ := zb2E hf
      obtain ⟨hdy46, hq7⟩ := zdyE hq7
      obtain ⟨cd46, hs46⟩ := zdySH hdy46
      refine x_invVi dX2_isTrained_46 mk_X6_kindOf ml_X2_167 (cc_X6_kindOf hdy46 hq7) hs46 rfl rfl (Nat.le_of_ble_eq_true rfl) rfl (Nat.le_of_ble_eq_true rfl) rfl ?_
      refine x_iconst (v := 5) dX2_isTrained_49 (by decide) ?_
      refine x_icmp_ne (tgt := 95) dX2_isTrained_50 (by decide) (fun c50 => ?_) (fun c50 => ?_)
      · replace hf := zif_f c50 hf
        exact Ex.sb (cc_X2_isTrained_L95 ih hf) ⟨rfl, rfl, rfl, trivial⟩
      · replace hf := zif_t c50 hf
        refine x_aload_n dX2_isTrained_53 rfl rfl ?_
        refine x_getS (r := 22) dX2_isTrained_54 fl_X2_9 rfl rfl ?_
        refine x_iload_n dX2_isTrained_57 rfl rfl ?_
        refine x_aload_n dX2_isTrained_58 rfl rfl ?_
        refine x_getR dX2_isTrained_59 fl_X2_23 rfl rfl ?_
        refine x_iload dX2_isTrained_62 rfl ?_
        obtain ⟨r12, M11, hq10, hf⟩ := zb2E hf
        obtain ⟨hdy64, hq10⟩ := zdyE hq10
        obtain ⟨cd64, hs64⟩ := zdySH hdy64
        refine x_invVi dX2_isTrained_64 mk_X6_numberOf ml_X2_120 (cc_X6_numberOf hdy64 hq10) hs64 rfl rfl (Nat.le_of_ble_eq_true rfl) rfl (Nat.le_of_ble_eq_true rfl) rfl ?_
        refine x_aload_n dX2_isTrained_67 rfl rfl ?_
        refine x_getI dX2_isTrained_68 fl_X2_55 rfl rfl ?_
        obtain ⟨r15, M14, hq13, hf⟩ := zb2E hf
        refine x_invVi dX2_isTrained_71 mk_X9_hasStep ml_X2_170 (cc_X9_hasStep hq13) rfl rfl rfl (Nat.le_of_ble_eq_true rfl) rfl (Nat.le_of_ble_eq_true rfl) rfl ?_
        refine x_if_ne (tgt := 95) dX2_isTrained_74 (by decide) (fun c74 => ?_) (fun c74 => ?_)
        · replace hf := zif_f c74 hf
          exact Ex.sb (cc_X2_isTrained_L95 ih hf) ⟨rfl, rfl, rfl, trivial⟩
        · replace hf := zif_t c74 hf
          refine x_aload_n dX2_isTrained_77 rfl rfl ?_
          refine x_getR dX2_isTrained_78 fl_X2_23 rfl rfl ?_
          refine x_iload dX2_isTrained_81 rfl ?_
          refine x_aload_n dX2_isTrained_83 rfl rfl ?_
          refine x_getS (r := 64) dX2_isTrained_84 fl_X2_52 rfl rfl ?_
          obtain ⟨r18, M17, hq16, hf⟩ := zb2E hf
          obtain ⟨hdy87, hq16⟩ := zdyE hq16
          obtain ⟨cd87, hs87⟩ := zdySH hdy87
          refine x_invVi dX2_isTrained_87 mk_X6_holds ml_X2_173 (cc_X6_holds hdy87 hq16) hs87 rfl rfl (Nat.le_of_ble_eq_true rfl) rfl (Nat.le_of_ble_eq_true rfl) rfl ?_
          refine x_if_eq (tgt := 95) dX2_isTrained_90 (by decide) (fun c90 => ?_) (fun c90 => ?_)
          · replace hf := zif_t c90 hf
            exact Ex.sb (cc_X2_isTrained_L95 ih hf) ⟨rfl, rfl, rfl, trivial⟩
          · replace hf := zif_f c90 hf
            refine x_iconst (v := 0) dX2_isTrained_93 (by decide) ?_
            exact x_zret rfl rfl dX2_isTrained_94 (zretI hf)
theorem cc_X2_isTrained {l : Launch} {G : zG} {N : Nat} {x1 : Int32} {x2 : Int32} {x3 : Int32}  {M : zMem} {r : Int32} {M1 : zMem} (hf : fX2_isTrained N x1 x2 x3 M = some (r, M1)) : Ca l G 3 mX2_isTrained [.ref (G.2.2.1 57), .int x1, .int x2, .int x3] M (some (.int r)) M1 := by
  refine Ca.of (by decide +kernel) (Nat.le_of_ble_eq_true rfl) rfl ?_
  rw [fX2_isTrained] at hf
  refine x_iload_n dX2_isTrained_0 rfl rfl ?_
  refine x_if_lt (tgt := 10) dX2_isTrained_1 (by decide) (fun c1 => ?_) (fun c1 => ?_)
  · replace hf := zif_t c1 hf
    refine x_iconst (v := 0) dX2_isTrained_10 (by decide) ?_
    exact x_zret rfl rfl dX2_isTrained_11 (zretI hf)
  · replace hf := zif_f c1 hf
    refine x_iload_n dX2_isTrained_4 rfl rfl ?_
    refine x_bipush (v := 8) dX2_isTrained_5 (by decide) ?_
    refine x_icmp_lt (tgt := 12) dX2_isTrained_7 (by decide) (fun c7 => ?_) (fun c7 => ?_)
    · replace hf := zif_t c7 hf
      refine x_aload_n dX2_isTrained_12 rfl rfl ?_
      refine x_iload_n dX2_isTrained_13 rfl rfl ?_
      refine x_iload_n dX2_isTrained_14 rfl rfl ?_
      refine x_iload_n dX2_isTrained_15 rfl rfl ?_
      refine x_aload_n dX2_isTrained_16 rfl rfl ?_
      refine x_getS (r := 60) dX2_isTrained_17 fl_X2_36 rfl rfl ?_
      refine x_iload_n dX2_isTrained_20 rfl rfl ?_
      obtain ⟨v1, hv1, hf⟩ := zbind hf
      refine x_ild dX2_isTrained_21 rfl hv1 ?_
      obtain ⟨M3, hq2, hf⟩ := zbind hf
      refine x_invVv dX2_isTrained_22 mk_X2_setFacts ml_X2_110 (cc_X2_setFacts hq2) rfl rfl rfl (Nat.le_of_ble_eq_true rfl) rfl (Nat.le_of_ble_eq_true rfl) rfl ?_
      refine x_iconst (v := 0) dX2_isTrained_25 (by decide) ?_
      refine x_istore dX2_isTrained_26 (Nat.le_of_ble_eq_true rfl) rfl ?_
      exact Ex.sb (cc_X2_isTrained_L28  hf) ⟨rfl, rfl, rfl, trivial⟩
    · replace hf := zif_f c7 hf
      refine x_iconst (v := 0) dX2_isTrained_10 (by decide) ?_
      exact x_zret rfl rfl dX2_isTrained_11 (zretI hf)
theorem cc_X9_barIndex {l : Launch} {G : zG} {x0 : Int32} {x1 : Int32}  {M : zMem} {r : Int32} {M1 : zMem} (hf : fX9_barIndex x0 x1 M = some (r, M1)) : Ca l G 0 mX9_barIndex [.int x0, .int x1] M (some (.int r)) M1 := by
  refine Ca.of (by decide +kernel) (Nat.le_of_ble_eq_true rfl) rfl ?_
  rw [fX9_barIndex] at hf
  refine x_iload_n dX9_barIndex_0 rfl rfl ?_
  refine x_bipush (v := 8) dX9_barIndex_1 (by decide) ?_
  refine x_imul dX9_barIndex_3 ?_
  refine x_iload_n dX9_barIndex_4 rfl rfl ?_
  refine x_iadd dX9_barIndex_5 ?_
  exact x_iret rfl dX9_barIndex_6 (zretI hf)
theorem cc_X9_isBarred {l : Launch} {G : zG} {x1 : Int32} {x2 : Int32} {x3 : Int32}  {M : zMem} {r : Int32} {M1 : zMem} (hf : fX9_isBarred x1 x2 x3 M = some (r, M1)) : Ca l G 1 mX9_isBarred [.ref (G.2.2.1 22), .int x1, .int x2, .int x3] M (some (.int r)) M1 := by
  refine Ca.of (by decide +kernel) (Nat.le_of_ble_eq_true rfl) rfl ?_
  rw [fX9_isBarred] at hf
  refine x_iload_n dX9_isBarred_0 rfl rfl ?_
  obtain ⟨r3, M2, hq1, hf⟩ := zb2E hf
  refine x_invNi (host := "FriendLine") dX9_isBarred_1 mk_X11_isCaller (List.mem_of_getElem? (i := 2) rfl) (cc_X11_isCaller hq1) (Nat.le_of_ble_eq_true rfl) rfl (Nat.le_of_ble_eq_true rfl) rfl ?_
  refine x_if_eq (tgt := 15) dX9_isBarred_4 (by decide) (fun c4 => ?_) (fun c4 => ?_)
  · replace hf := zif_t c4 hf
    refine x_iconst (v := 0) dX9_isBarred_15 (by decide) ?_
    exact x_zret rfl rfl dX9_isBarred_16 (zretI hf)
  · replace hf := zif_f c4 hf
    refine x_aload_n dX9_isBarred_7 rfl rfl ?_
    refine x_iload_n dX9_isBarred_8 rfl rfl ?_
    obtain ⟨r6, M5, hq4, hf⟩ := zb2E hf
    refine x_invVi dX9_isBarred_9 mk_X9_isVolunteer ml_X9_38 (cc_X9_isVolunteer hq4) rfl rfl rfl (Nat.le_of_ble_eq_true rfl) rfl (Nat.le_of_ble_eq_true rfl) rfl ?_
    refine x_if_ne (tgt := 17) dX9_isBarred_12 (by decide) (fun c12 => ?_) (fun c12 => ?_)
    · replace hf := zif_f c12 hf
      refine x_aload_n dX9_isBarred_17 rfl rfl ?_
      refine x_getS (r := 28) dX9_isBarred_18 fl_X9_35 rfl rfl ?_
      refine x_iload_n dX9_isBarred_21 rfl rfl ?_
      refine x_iload_n dX9_isBarred_22 rfl rfl ?_
      obtain ⟨r9, M8, hq7, hf⟩ := zb2E hf
      refine x_invSi dX9_isBarred_23 mk_X9_barIndex ml_X9_59 (cc_X9_barIndex hq7) (Nat.le_of_ble_eq_true rfl) rfl (Nat.le_of_ble_eq_true rfl) rfl ?_
      obtain ⟨v10, hv10, hf⟩ := zbind hf
      refine x_ild dX9_isBarred_26 rfl hv10 ?_
      refine x_istore dX9_isBarred_27 (Nat.le_of_ble_eq_true rfl) rfl ?_
      refine x_iload dX9_isBarred_29 rfl ?_
      refine x_iconst (v := -1) dX9_isBarred_31 (by decide) ?_
      refine x_icmp_eq (tgt := 45) dX9_isBarred_32 (by decide) (fun c32 => ?_) (fun c32 => ?_)
      · replace hf := zif_t c32 hf
        refine x_iconst (v := 0) dX9_isBarred_45 (by decide) ?_
        exact x_zret rfl rfl dX9_isBarred_46 (zretI hf)
      · replace hf := zif_f c32 hf
        refine x_iload dX9_isBarred_35 rfl ?_
        refine x_iload_n dX9_isBarred_37 rfl rfl ?_
        refine x_icmp_gt (tgt := 45) dX9_isBarred_38 (by decide) (fun c38 => ?_) (fun c38 => ?_)
        · replace hf := zif_t c38 hf
          refine x_iconst (v := 0) dX9_isBarred_45 (by decide) ?_
          exact x_zret rfl rfl dX9_isBarred_46 (zretI hf)
        · replace hf := zif_f c38 hf
          refine x_iconst (v := 1) dX9_isBarred_41 (by decide) ?_
          refine x_goto (tgt := 46) dX9_isBarred_42 (by decide) ?_
          exact x_zret rfl rfl dX9_isBarred_46 (zretI hf)
    · replace hf := zif_t c12 hf
      refine x_iconst (v := 0) dX9_isBarred_15 (by decide) ?_
      exact x_zret rfl rfl dX9_isBarred_16 (zretI hf)
theorem cc_X9_size {l : Launch} {G : zG}   {M : zMem} {r : Int32} {M1 : zMem} (hf : fX9_size M = some (r, M1)) : Ca l G 0 mX9_size [.ref (G.2.2.1 22)] M (some (.int r)) M1 := by
  refine Ca.of (by decide +kernel) (Nat.le_of_ble_eq_true rfl) rfl ?_
  rw [fX9_size] at hf
  refine x_aload_n dX9_size_0 rfl rfl ?_
  refine x_getI dX9_size_1 fl_X9_18 rfl rfl ?_
  exact x_iret rfl dX9_size_4 (zretI hf)
theorem cc_X2_volunteerFor_L105 {l : Launch} {G : zG} {N : Nat} {k5 : Int32 → Int32 → Int32 → Int32 → zMem → Option (Int32 × zMem)} (hk5 : ∀ {x1 : Int32} {x2 : Int32} {x3 : Int32} {x4 : Int32} {M : zMem} {r : Int32} {M1 : zMem}, k5 x1 x2 x3 x4 M = some (r, M1) → Ex l G 4 mX2_volunteerFor 5 [(0, .ref (G.2.2.1 57)), (1, .int x1), (2, .int x2), (3, .int x3), (4, .int x4)] [] M (zqI r M1)) {x1 : Int32} {x2 : Int32} {x3 : Int32} {x4 : Int32} {M : zMem} {r : Int32} {M1 : zMem} (hf : fX2_volunteerFor_L105 N k5 x1 x2 x3 x4 M = some (r, M1)) : Ex l G 4 mX2_volunteerFor 105 [(0, .ref (G.2.2.1 57)), (1, .int x1), (2, .int x2), (3, .int x3), (4, .int x4)] [] M (zqI r M1) := by
  rw [fX2_volunteerFor_L105] at hf
  obtain ⟨x4_18, ex4_18, hf⟩ := zletE hf
  refine x_iinc (c0 := 1) dX2_volunteerFor_105 rfl (Nat.le_of_ble_eq_true rfl) (by decide) ex4_18 ?_
  refine x_goto (tgt := 5) dX2_volunteerFor_108 (by decide) ?_
  exact Ex.sb (hk5 hf) ⟨rfl, rfl, rfl, rfl, rfl, trivial⟩
theorem cc_X2_volunteerFor_L50 {l : Launch} {G : zG} {N : Nat} {k5 : Int32 → Int32 → Int32 → Int32 → zMem → Option (Int32 × zMem)} (hk5 : ∀ {x1 : Int32} {x2 : Int32} {x3 : Int32} {x4 : Int32} {M : zMem} {r : Int32} {M1 : zMem}, k5 x1 x2 x3 x4 M = some (r, M1) → Ex l G 4 mX2_volunteerFor 5 [(0, .ref (G.2.2.1 57)), (1, .int x1), (2, .int x2), (3, .int x3), (4, .int x4)] [] M (zqI r M1)) {x1 : Int32} {x2 : Int32} {x3 : Int32} {x4 : Int32} {s0 : Int32} {M : zMem} {r : Int32} {M1 : zMem} (hf : fX2_volunteerFor_L50 N k5 x1 x2 x3 x4 s0 M = some (r, M1)) : Ex l G 4 mX2_volunteerFor 50 [(0, .ref (G.2.2.1 57)), (1, .int x1), (2, .int x2), (3, .int x3), (4, .int x4)] [.int s0] M (zqI r M1) := by
  rw [fX2_volunteerFor_L50] at hf
  refine x_istore dX2_volunteerFor_50 (Nat.le_of_ble_eq_true rfl) rfl ?_
  refine x_iload dX2_volunteerFor_52 rfl ?_
  refine x_if_eq (tgt := 105) dX2_volunteerFor_54 (by decide) (fun c54 => ?_) (fun c54 => ?_)
  · replace hf := zif_t c54 hf
    exact Ex.sb (cc_X2_volunteerFor_L105 hk5 hf) ⟨rfl, rfl, rfl, rfl, rfl, trivial⟩
  · replace hf := zif_f c54 hf
    refine x_aload_n dX2_volunteerFor_57 rfl rfl ?_
    refine x_iload dX2_volunteerFor_58 rfl ?_
    refine x_iload_n dX2_volunteerFor_60 rfl rfl ?_
    obtain ⟨r8, M7, hq6, hf⟩ := zb2E hf
    refine x_invVi dX2_volunteerFor_61 mk_X2_isFree ml_X2_151 (cc_X2_isFree hq6) rfl rfl rfl (Nat.le_of_ble_eq_true rfl) rfl (Nat.le_of_ble_eq_true rfl) rfl ?_
    refine x_if_eq (tgt := 105) dX2_volunteerFor_64 (by decide) (fun c64 => ?_) (fun c64 => ?_)
    · replace hf := zif_t c64 hf
      exact Ex.sb (cc_X2_volunteerFor_L105 hk5 hf) ⟨rfl, rfl, rfl, rfl, rfl, trivial⟩
    · replace hf := zif_f c64 hf
      refine x_aload_n dX2_volunteerFor_67 rfl rfl ?_
      refine x_getS (r := 22) dX2_volunteerFor_68 fl_X2_9 rfl rfl ?_
      refine x_aload_n dX2_volunteerFor_71 rfl rfl ?_
      refine x_getS (r := 47) dX2_volunteerFor_72 fl_X2_19 rfl rfl ?_
      refine x_iload_n dX2_volunteerFor_75 rfl rfl ?_
      obtain ⟨r11, M10, hq9, hf⟩ := zb2E hf
      refine x_invVi dX2_volunteerFor_76 mk_X1_callerOf ml_X2_92 (cc_X1_callerOf hq9) rfl rfl rfl (Nat.le_of_ble_eq_true rfl) rfl (Nat.le_of_ble_eq_true rfl) rfl ?_
      refine x_iload dX2_volunteerFor_79 rfl ?_
      refine x_aload_n dX2_volunteerFor_81 rfl rfl ?_
      refine x_getI dX2_volunteerFor_82 fl_X2_55 rfl rfl ?_
      obtain ⟨r14, M13, hq12, hf⟩ := zb2E hf
      refine x_invVi dX2_volunteerFor_85 mk_X9_isBarred ml_X2_154 (cc_X9_isBarred hq12) rfl rfl rfl (Nat.le_of_ble_eq_true rfl) rfl (Nat.le_of_ble_eq_true rfl) rfl ?_
      refine x_if_ne (tgt := 105) dX2_volunteerFor_88 (by decide) (fun c88 => ?_) (fun c88 => ?_)
      · replace hf := zif_f c88 hf
        exact Ex.sb (cc_X2_volunteerFor_L105 hk5 hf) ⟨rfl, rfl, rfl, rfl, rfl, trivial⟩
      · replace hf := zif_t c88 hf
        refine x_aload_n dX2_volunteerFor_91 rfl rfl ?_
        refine x_iload dX2_volunteerFor_92 rfl ?_
        refine x_iload_n dX2_volunteerFor_94 rfl rfl ?_
        refine x_iload_n dX2_volunteerFor_95 rfl rfl ?_
        obtain ⟨r17, M16, hq15, hf⟩ := zb2E hf
        refine x_invVi dX2_volunteerFor_96 mk_X2_isTrained ml_X2_158 (cc_X2_isTrained hq15) rfl rfl rfl (Nat.le_of_ble_eq_true rfl) rfl (Nat.le_of_ble_eq_true rfl) rfl ?_
        refine x_if_eq (tgt := 105) dX2_volunteerFor_99 (by decide) (fun c99 => ?_) (fun c99 => ?_)
        · replace hf := zif_t c99 hf
          exact Ex.sb (cc_X2_volunteerFor_L105 hk5 hf) ⟨rfl, rfl, rfl, rfl, rfl, trivial⟩
        · replace hf := zif_f c99 hf
          refine x_iload dX2_volunteerFor_102 rfl ?_
          refine x_istore_n dX2_volunteerFor_104 rfl (Nat.le_of_ble_eq_true rfl) rfl ?_
          exact Ex.sb (cc_X2_volunteerFor_L105 hk5 hf) ⟨rfl, rfl, rfl, rfl, rfl, trivial⟩
theorem cc_X2_volunteerFor_L45 {l : Launch} {G : zG} {N : Nat} {k5 : Int32 → Int32 → Int32 → Int32 → zMem → Option (Int32 × zMem)} (hk5 : ∀ {x1 : Int32} {x2 : Int32} {x3 : Int32} {x4 : Int32} {M : zMem} {r : Int32} {M1 : zMem}, k5 x1 x2 x3 x4 M = some (r, M1) → Ex l G 4 mX2_volunteerFor 5 [(0, .ref (G.2.2.1 57)), (1, .int x1), (2, .int x2), (3, .int x3), (4, .int x4)] [] M (zqI r M1)) {x1 : Int32} {x2 : Int32} {x3 : Int32} {x4 : Int32} {M : zMem} {r : Int32} {M1 : zMem} (hf : fX2_volunteerFor_L45 N k5 x1 x2 x3 x4 M = some (r, M1)) : Ex l G 4 mX2_volunteerFor 45 [(0, .ref (G.2.2.1 57)), (1, .int x1), (2, .int x2), (3, .int x3), (4, .int x4)] [] M (zqI r M1) := by
  rw [fX2_volunteerFor_L45] at hf
  refine x_iconst (v := 1) dX2_volunteerFor_45 (by decide) ?_
  refine x_goto (tgt := 50) dX2_volunteerFor_46 (by decide) ?_
  exact Ex.sb (cc_X2_volunteerFor_L50 hk5 hf) ⟨rfl, rfl, rfl, rfl, rfl, trivial⟩
theorem cc_X2_volunteerFor_L5 {l : Launch} {G : zG} {N : Nat} : ∀ {n : Nat} {x1 : Int32} {x2 : Int32} {x3 : Int32} {x4 : Int32} {M : zMem} {r : Int32} {M1 : zMem}, fX2_volunteerFor_L5 N n x1 x2 x3 x4 M = some (r, M1) → Ex l G 4 mX2_volunteerFor 5 [(0, .ref (G.2.2.1 57)), (1, .int x1), (2, .int x2), (3, .int x3), (4, .int x4)] [] M (zqI r M1) := by
  intro n
  induction n with
  | zero => intro x1 x2 x3 x4 M r M1 hf; cases hf
  | succ n ih =>
    intro x1 x2 x3 x4 M r M1 hf
    rw [fX2_volunteerFor_L5] at hf
    refine x_iload dX2_volunteerFor_5 rfl ?_
    refine x_aload_n dX2_volunteerFor_7 rfl rfl ?_
    refine x_getS (r := 22) dX2_volunteerFor_8 fl_X2_9 rfl rfl ?_
    obtain ⟨r3, M2, hq1, hf⟩ := zb2E hf
    refine x_invVi dX2_volunteerFor_11 mk_X9_size ml_X2_150 (cc_X9_size hq1) rfl rfl rfl (Nat.le_of_ble_eq_true rfl) rfl (Nat.le_of_ble_eq_true rfl) rfl ?_
    refine x_icmp_ge (tgt := 111) dX2_volunteerFor_14 (by decide) (fun c14 => ?_) (fun c14 => ?_)
    · replace hf := zif_t c14 hf
      refine x_iload_n dX2_volunteerFor_111 rfl rfl ?_
      exact x_iret rfl dX2_volunteerFor_112 (zretI hf)
    · replace hf := zif_f c14 hf
      refine x_iload dX2_volunteerFor_17 rfl ?_
      refine x_bipush (v := 8) dX2_volunteerFor_19 (by decide) ?_
      refine x_icmp_ge (tgt := 111) dX2_volunteerFor_21 (by decide) (fun c21 => ?_) (fun c21 => ?_)
      · replace hf := zif_t c21 hf
        refine x_iload_n dX2_volunteerFor_111 rfl rfl ?_
        exact x_iret rfl dX2_volunteerFor_112 (zretI hf)
      · replace hf := zif_f c21 hf
        refine x_iload_n dX2_volunteerFor_24 rfl rfl ?_
        refine x_iconst (v := -1) dX2_volunteerFor_25 (by decide) ?_
        refine x_icmp_eq (tgt := 45) dX2_volunteerFor_26 (by decide) (fun c26 => ?_) (fun c26 => ?_)
        · replace hf := zif_t c26 hf
          exact Ex.sb (cc_X2_volunteerFor_L45 ih hf) ⟨rfl, rfl, rfl, rfl, rfl, trivial⟩
        · replace hf := zif_f c26 hf
          refine x_aload_n dX2_volunteerFor_29 rfl rfl ?_
          refine x_getS (r := 60) dX2_volunteerFor_30 fl_X2_36 rfl rfl ?_
          refine x_iload dX2_volunteerFor_33 rfl ?_
          obtain ⟨v4, hv4, hf⟩ := zbind hf
          refine x_ild dX2_volunteerFor_35 rfl hv4 ?_
          refine x_aload_n dX2_volunteerFor_36 rfl rfl ?_
          refine x_getS (r := 60) dX2_volunteerFor_37 fl_X2_36 rfl rfl ?_
          refine x_iload_n dX2_volunteerFor_40 rfl rfl ?_
          obtain ⟨v5, hv5, hf⟩ := zbind hf
          refine x_ild dX2_volunteerFor_41 rfl hv5 ?_
          refine x_icmp_ge (tgt := 49) dX2_volunteerFor_42 (by decide) (fun c42 => ?_) (fun c42 => ?_)
          · replace hf := zif_t c42 hf
            refine x_iconst (v := 0) dX2_volunteerFor_49 (by decide) ?_
            exact Ex.sb (cc_X2_volunteerFor_L50 ih hf) ⟨rfl, rfl, rfl, rfl, rfl, trivial⟩
          · replace hf := zif_f c42 hf
            exact Ex.sb (cc_X2_volunteerFor_L45 ih hf) ⟨rfl, rfl, rfl, rfl, rfl, trivial⟩
theorem cc_X2_volunteerFor {l : Launch} {G : zG} {N : Nat} {x1 : Int32} {x2 : Int32}  {M : zMem} {r : Int32} {M1 : zMem} (hf : fX2_volunteerFor N x1 x2 M = some (r, M1)) : Ca l G 4 mX2_volunteerFor [.ref (G.2.2.1 57), .int x1, .int x2] M (some (.int r)) M1 := by
  refine Ca.of (by decide +kernel) (Nat.le_of_ble_eq_true rfl) rfl ?_
  rw [fX2_volunteerFor] at hf
  refine x_iconst (v := -1) dX2_volunteerFor_0 (by decide) ?_
  refine x_istore_n dX2_volunteerFor_1 rfl (Nat.le_of_ble_eq_true rfl) rfl ?_
  refine x_iconst (v := 0) dX2_volunteerFor_2 (by decide) ?_
  refine x_istore dX2_volunteerFor_3 (Nat.le_of_ble_eq_true rfl) rfl ?_
  exact Ex.sb (cc_X2_volunteerFor_L5  hf) ⟨rfl, rfl, rfl, rfl, rfl, trivial⟩
theorem cc_X2_giveCalls_L71 {l : Launch} {G : zG} {N : Nat} {k2 : Int32 → Int32 → Int32 → zMem → Option zMem} (hk2 : ∀ {x1 : Int32} {x2 : Int32} {x3 : Int32} {M : zMem} {M1 : zMem}, k2 x1 x2 x3 M = some M1 → Ex l G 5 mX2_giveCalls 2 [(0, .ref (G.2.2.1 57)), (1, .int x1), (2, .int x2), (3, .int x3)] [] M (zqV M1)) {x1 : Int32} {x2 : Int32} {x3 : Int32} {M : zMem} {M1 : zMem} (hf : fX2_giveCalls_L71 N k2 x1 x2 x3 M = some M1) : Ex l G 5 mX2_giveCalls 71 [(0, .ref (G.2.2.1 57)), (1, .int x1), (2, .int x2), (3, .int x3)] [] M (zqV M1) := by
  rw [fX2_giveCalls_L71] at hf
  obtain ⟨x3_11, ex3_11, hf⟩ := zletE hf
  refine x_iinc (c0 := 1) dX2_giveCalls_71 rfl (Nat.le_of_ble_eq_true rfl) (by decide) ex3_11 ?_
  refine x_goto (tgt := 2) dX2_giveCalls_74 (by decide) ?_
  exact Ex.sb (hk2 hf) ⟨rfl, rfl, rfl, rfl, trivial⟩
theorem cc_X2_giveCalls_L2 {l : Launch} {G : zG} {N : Nat} : ∀ {n : Nat} {x1 : Int32} {x2 : Int32} {x3 : Int32} {M : zMem} {M1 : zMem}, fX2_giveCalls_L2 N n x1 x2 x3 M = some M1 → Ex l G 5 mX2_giveCalls 2 [(0, .ref (G.2.2.1 57)), (1, .int x1), (2, .int x2), (3, .int x3)] [] M (zqV M1) := by
  intro n
  induction n with
  | zero => intro x1 x2 x3 M M1 hf; cases hf
  | succ n ih =>
    intro x1 x2 x3 M M1 hf
    rw [fX2_giveCalls_L2] at hf
    refine x_iload_n dX2_giveCalls_2 rfl rfl ?_
    refine x_iload_n dX2_giveCalls_3 rfl rfl ?_
    refine x_icmp_ge (tgt := 77) dX2_giveCalls_4 (by decide) (fun c4 => ?_) (fun c4 => ?_)
    · replace hf := zif_t c4 hf
      exact x_vret rfl dX2_giveCalls_77 (zretV hf)
    · replace hf := zif_f c4 hf
      refine x_iload_n dX2_giveCalls_7 rfl rfl ?_
      refine x_bipush (v := 40) dX2_giveCalls_8 (by decide) ?_
      refine x_icmp_ge (tgt := 77) dX2_giveCalls_10 (by decide) (fun c10 => ?_) (fun c10 => ?_)
      · replace hf := zif_t c10 hf
        exact x_vret rfl dX2_giveCalls_77 (zretV hf)
      · replace hf := zif_f c10 hf
        refine x_aload_n dX2_giveCalls_13 rfl rfl ?_
        refine x_aload_n dX2_giveCalls_14 rfl rfl ?_
        refine x_getS (r := 63) dX2_giveCalls_15 fl_X2_47 rfl rfl ?_
        refine x_iload_n dX2_giveCalls_18 rfl rfl ?_
        obtain ⟨v1, hv1, hf⟩ := zbind hf
        refine x_ild dX2_giveCalls_19 rfl hv1 ?_
        refine x_iload_n dX2_giveCalls_20 rfl rfl ?_
        obtain ⟨r4, M3, hq2, hf⟩ := zb2E hf
        refine x_invVi dX2_giveCalls_21 mk_X2_volunteerFor ml_X2_143 (cc_X2_volunteerFor hq2) rfl rfl rfl (Nat.le_of_ble_eq_true rfl) rfl (Nat.le_of_ble_eq_true rfl) rfl ?_
        refine x_istore dX2_giveCalls_24 (Nat.le_of_ble_eq_true rfl) rfl ?_
        refine x_iload dX2_giveCalls_26 rfl ?_
        refine x_iconst (v := -1) dX2_giveCalls_28 (by decide) ?_
        refine x_icmp_eq (tgt := 71) dX2_giveCalls_29 (by decide) (fun c29 => ?_) (fun c29 => ?_)
        · replace hf := zif_t c29 hf
          exact Ex.sb (cc_X2_giveCalls_L71 ih hf) ⟨rfl, rfl, rfl, rfl, trivial⟩
        · replace hf := zif_f c29 hf
          refine x_aload_n dX2_giveCalls_32 rfl rfl ?_
          refine x_getS (r := 47) dX2_giveCalls_33 fl_X2_19 rfl rfl ?_
          refine x_aload_n dX2_giveCalls_36 rfl rfl ?_
          refine x_getS (r := 63) dX2_giveCalls_37 fl_X2_47 rfl rfl ?_
          refine x_iload_n dX2_giveCalls_40 rfl rfl ?_
          obtain ⟨v5, hv5, hf⟩ := zbind hf
          refine x_ild dX2_giveCalls_41 rfl hv5 ?_
          refine x_iload dX2_giveCalls_42 rfl ?_
          refine x_iload_n dX2_giveCalls_44 rfl rfl ?_
          obtain ⟨M7, hq6, hf⟩ := zbind hf
          refine x_invVv dX2_giveCalls_45 mk_X1_give ml_X2_147 (cc_X1_give hq6) rfl rfl rfl (Nat.le_of_ble_eq_true rfl) rfl (Nat.le_of_ble_eq_true rfl) rfl ?_
          refine x_aload_n dX2_giveCalls_48 rfl rfl ?_
          refine x_getS (r := 58) dX2_giveCalls_49 fl_X2_29 rfl rfl ?_
          refine x_iload dX2_giveCalls_52 rfl ?_
          refine x_aload_n dX2_giveCalls_54 rfl rfl ?_
          refine x_getS (r := 63) dX2_giveCalls_55 fl_X2_47 rfl rfl ?_
          refine x_iload_n dX2_giveCalls_58 rfl rfl ?_
          obtain ⟨v8, hv8, hf⟩ := zbind hf
          refine x_ild dX2_giveCalls_59 rfl hv8 ?_
          obtain ⟨M9, hM9, hf⟩ := zbind hf
          refine x_ist dX2_giveCalls_60 rfl hM9 ?_
          refine x_aload_n dX2_giveCalls_61 rfl rfl ?_
          refine x_dup dX2_giveCalls_62 rfl ?_
          refine x_getI dX2_giveCalls_63 fl_X2_59 rfl rfl ?_
          refine x_iconst (v := 1) dX2_giveCalls_66 (by decide) ?_
          refine x_iadd dX2_giveCalls_67 ?_
          obtain ⟨M10, eM10, hf⟩ := zletE hf
          refine x_putI dX2_giveCalls_68 fp_X2_59 rfl rfl rfl rfl eM10 ?_
          exact Ex.sb (cc_X2_giveCalls_L71 ih hf) ⟨rfl, rfl, rfl, rfl, trivial⟩
theorem cc_X2_giveCalls {l : Launch} {G : zG} {N : Nat} {x1 : Int32} {x2 : Int32}  {M : zMem} {M1 : zMem} (hf : fX2_giveCalls N x1 x2 M = some M1) : Ca l G 5 mX2_giveCalls [.ref (G.2.2.1 57), .int x1, .int x2] M none M1 := by
  refine Ca.of (by decide +kernel) (Nat.le_of_ble_eq_true rfl) rfl ?_
  rw [fX2_giveCalls] at hf
  refine x_iconst (v := 0) dX2_giveCalls_0 (by decide) ?_
  refine x_istore_n dX2_giveCalls_1 rfl (Nat.le_of_ble_eq_true rfl) rfl ?_
  exact Ex.sb (cc_X2_giveCalls_L2  hf) ⟨rfl, rfl, rfl, rfl, trivial⟩
theorem cc_X2_isAnyFree_L2 {l : Launch} {G : zG} {N : Nat} : ∀ {n : Nat} {x1 : Int32} {x2 : Int32} {M : zMem} {r : Int32} {M1 : zMem}, fX2_isAnyFree_L2 N n x1 x2 M = some (r, M1) → Ex l G 3 mX2_isAnyFree 2 [(0, .ref (G.2.2.1 57)), (1, .int x1), (2, .int x2)] [] M (zqI r M1) := by
  intro n
  induction n with
  | zero => intro x1 x2 M r M1 hf; cases hf
  | succ n ih =>
    intro x1 x2 M r M1 hf
    rw [fX2_isAnyFree_L2] at hf
    refine x_iload_n dX2_isAnyFree_2 rfl rfl ?_
    refine x_aload_n dX2_isAnyFree_3 rfl rfl ?_
    refine x_getS (r := 22) dX2_isAnyFree_4 fl_X2_9 rfl rfl ?_
    obtain ⟨r3, M2, hq1, hf⟩ := zb2E hf
    refine x_invVi dX2_isAnyFree_7 mk_X9_size ml_X2_150 (cc_X9_size hq1) rfl rfl rfl (Nat.le_of_ble_eq_true rfl) rfl (Nat.le_of_ble_eq_true rfl) rfl ?_
    refine x_icmp_ge (tgt := 30) dX2_isAnyFree_10 (by decide) (fun c10 => ?_) (fun c10 => ?_)
    · replace hf := zif_t c10 hf
      refine x_iconst (v := 0) dX2_isAnyFree_30 (by decide) ?_
      exact x_zret rfl rfl dX2_isAnyFree_31 (zretI hf)
    · replace hf := zif_f c10 hf
      refine x_aload_n dX2_isAnyFree_13 rfl rfl ?_
      refine x_iload_n dX2_isAnyFree_14 rfl rfl ?_
      refine x_iload_n dX2_isAnyFree_15 rfl rfl ?_
      obtain ⟨r6, M5, hq4, hf⟩ := zb2E hf
      refine x_invVi dX2_isAnyFree_16 mk_X2_isFree ml_X2_151 (cc_X2_isFree hq4) rfl rfl rfl (Nat.le_of_ble_eq_true rfl) rfl (Nat.le_of_ble_eq_true rfl) rfl ?_
      refine x_if_eq (tgt := 24) dX2_isAnyFree_19 (by decide) (fun c19 => ?_) (fun c19 => ?_)
      · replace hf := zif_t c19 hf
        obtain ⟨x2_7, ex2_7, hf⟩ := zletE hf
        refine x_iinc (c0 := 1) dX2_isAnyFree_24 rfl (Nat.le_of_ble_eq_true rfl) (by decide) ex2_7 ?_
        refine x_goto (tgt := 2) dX2_isAnyFree_27 (by decide) ?_
        exact Ex.sb (ih hf) ⟨rfl, rfl, rfl, trivial⟩
      · replace hf := zif_f c19 hf
        refine x_iconst (v := 1) dX2_isAnyFree_22 (by decide) ?_
        exact x_zret rfl rfl dX2_isAnyFree_23 (zretI hf)
theorem cc_X2_isAnyFree {l : Launch} {G : zG} {N : Nat} {x1 : Int32}  {M : zMem} {r : Int32} {M1 : zMem} (hf : fX2_isAnyFree N x1 M = some (r, M1)) : Ca l G 3 mX2_isAnyFree [.ref (G.2.2.1 57), .int x1] M (some (.int r)) M1 := by
  refine Ca.of (by decide +kernel) (Nat.le_of_ble_eq_true rfl) rfl ?_
  rw [fX2_isAnyFree] at hf
  refine x_iconst (v := 0) dX2_isAnyFree_0 (by decide) ?_
  refine x_istore_n dX2_isAnyFree_1 rfl (Nat.le_of_ble_eq_true rfl) rfl ?_
  exact Ex.sb (cc_X2_isAnyFree_L2  hf) ⟨rfl, rfl, rfl, trivial⟩
