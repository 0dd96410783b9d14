/-! CONSTRUCTORS of the small classes -/
def wX0 (cT : Nat → ClassId) (h0 : Nat) (a : Nat → Nat) : va_W := [(h0, .inr (0, [.ref (a 0), .ref (a 1)])), ((a 0), .inl (cT 0, 200, .inl (fun _ => 0))), ((a 1), .inl (cT 1, 200, .inr (.inl (fun _ => 0))))]
theorem kc_X0 (l : Launch) (E : kE) (h0 : Nat) : Kc l E 1 2 400 mX0_init [.ref h0] [(h0, .inr (0, kfs tyX0 2))] (fun v w => v = none ∧ ∃ a : Nat → Nat, w = wX0 E.2 h0 a) := by
  refine Kc.of (by decide) (Nat.le_of_ble_eq_true rfl) rfl (fun A => ?_)
  have hN := kfs_len tyX0 2
  refine k_aload_n (pc := 0) dX0_init_0 rfl (x := h0) rfl ?_
  refine k_objInit (pc := 1) dX0_init_1 km_X0_3 ko_i ko_c (by decide) ?_
  refine k_aload_n (pc := 4) dX0_init_4 rfl (x := h0) rfl ?_
  refine k_sipush (pc := 5) dX0_init_5 (v := 200) (by decide) ?_
  refine k_newa (pc := 8) (t := 0) (ty := .int) (N' := 200) (a0 := (200, .inl (fun _ => 0))) rfl rfl (fun _ _ h => h) kA_int (fun _ => rfl) (by decide) (by decide) (by decide) (by decide) (by decide) dX0_init_8 (fun q1 => ?_)
  refine k_putF (pc := 10) rfl hN (by decide) dX0_init_10 kf_X0_9 rfl rfl (fun hN => ?_)
  refine k_aload_n (pc := 13) dX0_init_13 rfl (x := h0) rfl ?_
  refine k_sipush (pc := 14) dX0_init_14 (v := 200) (by decide) ?_
  refine k_newa (pc := 17) (t := 1) (ty := .long) (N' := 200) (a0 := (200, .inr (.inl (fun _ => 0)))) rfl rfl (fun _ _ h => h) kA_long (fun _ => rfl) (by decide) (by decide) (by decide) (by decide) (by decide) dX0_init_17 (fun q2 => ?_)
  refine k_putF (pc := 19) rfl hN (by decide) dX0_init_19 kf_X0_15 rfl rfl (fun hN => ?_)
  exact k_vret (pc := 22) rfl dX0_init_22 (by decide) (by decide) ⟨rfl, fun i => [q1, q2].getD i 0, rfl⟩
def wX1 (cT : Nat → ClassId) (h0 : Nat) (a : Nat → Nat) : va_W := [(h0, .inr (1, [.ref (a 0), .ref (a 1), .ref (a 2), .ref (a 3), .ref (a 4), .ref (a 5), .ref (a 6), .ref (a 7), .ref (a 8), .int 0, .int 0])), ((a 0), .inl (cT 0, 400, .inl (fun _ => 0))), ((a 1), .inl (cT 0, 400, .inl (fun _ => 0))), ((a 2), .inl (cT 0, 400, .inl (fun _ => 0))), ((a 3), .inl (cT 0, 400, .inl (fun _ => 0))), ((a 4), .inl (cT 0, 400, .inl (fun _ => 0))), ((a 5), .inl (cT 0, 400, .inl (fun _ => 0))), ((a 6), .inl (cT 0, 400, .inl (fun _ => 0))), ((a 7), .inl (cT 0, 400, .inl (fun _ => 0))), ((a 8), .inl (cT 0, 400, .inl (fun _ => 0)))]
theorem kc_X1 (l : Launch) (E : kE) (h0 : Nat) : Kc l E 1 9 3600 mX1_init [.ref h0] [(h0, .inr (1, kfs tyX1 11))] (fun v w => v = none ∧ ∃ a : Nat → Nat, w = wX1 E.2 h0 a) := by
  refine Kc.of (by decide) (Nat.le_of_ble_eq_true rfl) rfl (fun A => ?_)
  have hN := kfs_len tyX1 11
  refine k_aload_n (pc := 0) dX1_init_0 rfl (x := h0) rfl ?_
  refine k_objInit (pc := 1) dX1_init_1 km_X1_3 ko_i ko_c (by decide) ?_
  refine k_aload_n (pc := 4) dX1_init_4 rfl (x := h0) rfl ?_
  refine k_sipush (pc := 5) dX1_init_5 (v := 400) (by decide) ?_
  refine k_newa (pc := 8) (t := 0) (ty := .int) (N' := 400) (a0 := (400, .inl (fun _ => 0))) rfl rfl (fun _ _ h => h) kA_int (fun _ => rfl) (by decide) (by decide) (by decide) (by decide) (by decide) dX1_init_8 (fun q1 => ?_)
  refine k_putF (pc := 10) rfl hN (by decide) dX1_init_10 kf_X1_11 rfl rfl (fun hN => ?_)
  refine k_aload_n (pc := 13) dX1_init_13 rfl (x := h0) rfl ?_
  refine k_sipush (pc := 14) dX1_init_14 (v := 400) (by decide) ?_
  refine k_newa (pc := 17) (t := 0) (ty := .int) (N' := 400) (a0 := (400, .inl (fun _ => 0))) rfl rfl (fun _ _ h => h) kA_int (fun _ => rfl) (by decide) (by decide) (by decide) (by decide) (by decide) dX1_init_17 (fun q2 => ?_)
  refine k_putF (pc := 19) rfl hN (by decide) dX1_init_19 kf_X1_15 rfl rfl (fun hN => ?_)
  refine k_aload_n (pc := 22) dX1_init_22 rfl (x := h0) rfl ?_
  refine k_sipush (pc := 23) dX1_init_23 (v := 400) (by decide) ?_
  refine k_newa (pc := 26) (t := 0) (ty := .int) (N' := 400) (a0 := (400, .inl (fun _ => 0))) rfl rfl (fun _ _ h => h) kA_int (fun _ => rfl) (by decide) (by decide) (by decide) (by decide) (by decide) dX1_init_26 (fun q3 => ?_)
  refine k_putF (pc := 28) rfl hN (by decide) dX1_init_28 kf_X1_18 rfl rfl (fun hN => ?_)
  refine k_aload_n (pc := 31) dX1_init_31 rfl (x := h0) rfl ?_
  refine k_sipush (pc := 32) dX1_init_32 (v := 400) (by decide) ?_
  refine k_newa (pc := 35) (t := 0) (ty := .int) (N' := 400) (a0 := (400, .inl (fun _ => 0))) rfl rfl (fun _ _ h => h) kA_int (fun _ => rfl) (by decide) (by decide) (by decide) (by decide) (by decide) dX1_init_35 (fun q4 => ?_)
  refine k_putF (pc := 37) rfl hN (by decide) dX1_init_37 kf_X1_21 rfl rfl (fun hN => ?_)
  refine k_aload_n (pc := 40) dX1_init_40 rfl (x := h0) rfl ?_
  refine k_sipush (pc := 41) dX1_init_41 (v := 400) (by decide) ?_
  refine k_newa (pc := 44) (t := 0) (ty := .int) (N' := 400) (a0 := (400, .inl (fun _ => 0))) rfl rfl (fun _ _ h => h) kA_int (fun _ => rfl) (by decide) (by decide) (by decide) (by decide) (by decide) dX1_init_44 (fun q5 => ?_)
  refine k_putF (pc := 46) rfl hN (by decide) dX1_init_46 kf_X1_24 rfl rfl (fun hN => ?_)
  refine k_aload_n (pc := 49) dX1_init_49 rfl (x := h0) rfl ?_
  refine k_sipush (pc := 50) dX1_init_50 (v := 400) (by decide) ?_
  refine k_newa (pc := 53) (t := 0) (ty := .int) (N' := 400) (a0 := (400, .inl (fun _ => 0))) rfl rfl (fun _ _ h => h) kA_int (fun _ => rfl) (by decide) (by decide) (by decide) (by decide) (by decide) dX1_init_53 (fun q6 => ?_)
  refine k_putF (pc := 55) rfl hN (by decide) dX1_init_55 kf_X1_27 rfl rfl (fun hN => ?_)
  refine k_aload_n (pc := 58) dX1_init_58 rfl (x := h0) rfl ?_
  refine k_sipush (pc := 59) dX1_init_59 (v := 400) (by decide) ?_
  refine k_newa (pc := 62) (t := 0) (ty := .int) (N' := 400) (a0 := (400, .inl (fun _ => 0))) rfl rfl (fun _ _ h => h) kA_int (fun _ => rfl) (by decide) (by decide) (by decide) (by decide) (by decide) dX1_init_62 (fun q7 => ?_)
  refine k_putF (pc := 64) rfl hN (by decide) dX1_init_64 kf_X1_30 rfl rfl (fun hN => ?_)
  refine k_aload_n (pc := 67) dX1_init_67 rfl (x := h0) rfl ?_
  refine k_sipush (pc := 68) dX1_init_68 (v := 400) (by decide) ?_
  refine k_newa (pc := 71) (t := 0) (ty := .int) (N' := 400) (a0 := (400, .inl (fun _ => 0))) rfl rfl (fun _ _ h => h) kA_int (fun _ => rfl) (by decide) (by decide) (by decide) (by decide) (by decide) dX1_init_71 (fun q8 => ?_)
  refine k_putF (pc := 73) rfl hN (by decide) dX1_init_73 kf_X1_33 rfl rfl (fun hN => ?_)
  refine k_aload_n (pc := 76) dX1_init_76 rfl (x := h0) rfl ?_
  refine k_sipush (pc := 77) dX1_init_77 (v := 400) (by decide) ?_
  refine k_newa (pc := 80) (t := 0) (ty := .int) (N' := 400) (a0 := (400, .inl (fun _ => 0))) rfl rfl (fun _ _ h => h) kA_int (fun _ => rfl) (by decide) (by decide) (by decide) (by decide) (by decide) dX1_init_80 (fun q9 => ?_)
  refine k_putF (pc := 82) rfl hN (by decide) dX1_init_82 kf_X1_36 rfl rfl (fun hN => ?_)
  refine k_aload_n (pc := 85) dX1_init_85 rfl (x := h0) rfl ?_
  refine k_iconst (pc := 86) dX1_init_86 (v := 0) (by decide) ?_
  refine k_putN (pc := 87) hN (by decide) dX1_init_87 kf_X1_39 rfl rfl (fun hN => ?_)
  refine k_aload_n (pc := 90) dX1_init_90 rfl (x := h0) rfl ?_
  refine k_iconst (pc := 91) dX1_init_91 (v := 0) (by decide) ?_
  refine k_putN (pc := 92) hN (by decide) dX1_init_92 kf_X1_43 rfl rfl (fun hN => ?_)
  exact k_vret (pc := 95) rfl dX1_init_95 (by decide) (by decide) ⟨rfl, fun i => [q1, q2, q3, q4, q5, q6, q7, q8, q9].getD i 0, rfl⟩
def wX2 (cT : Nat → ClassId) (h0 : Nat) (r1 : Nat) (r2 : Nat) (r3 : Nat) (r4 : Nat) (a : Nat → Nat) : va_W := [(h0, .inr (2, [.ref r1, .ref r2, .ref r3, .ref (a 0), .ref (a 1), .ref (a 2), .ref (a 3), .ref (a 4), .ref (a 5), .ref (a 6), .ref r4, .int 0, .int 0])), ((a 0), .inl (cT 0, 8, .inl (fun _ => 0))), ((a 1), .inl (cT 0, 8, .inl (fun _ => 0))), ((a 2), .inl (cT 0, 8, .inl (fun _ => 0))), ((a 3), .inl (cT 0, 20, .inl (fun _ => 0))), ((a 4), .inl (cT 0, 40, .inl (fun _ => 0))), ((a 5), .inl (cT 0, 40, .inl (fun _ => 0))), ((a 6), .inl (cT 0, 6, .inl (fun _ => 0)))]
theorem kc_X2 (l : Launch) (E : kE) (h0 : Nat) (r1 : Nat) (r2 : Nat) (r3 : Nat) (r4 : Nat) : Kc l E 1 7 130 mX2_init [.ref h0, .ref r1, .ref r2, .ref r3, .ref r4] [(h0, .inr (2, kfs tyX2 13))] (fun v w => v = none ∧ ∃ a : Nat → Nat, w = wX2 E.2 h0 r1 r2 r3 r4 a) := by
  refine Kc.of (by decide) (Nat.le_of_ble_eq_true rfl) rfl (fun A => ?_)
  have hN := kfs_len tyX2 13
  refine k_aload_n (pc := 0) dX2_init_0 rfl (x := h0) rfl ?_
  refine k_objInit (pc := 1) dX2_init_1 km_X2_3 ko_i ko_c (by decide) ?_
  refine k_aload_n (pc := 4) dX2_init_4 rfl (x := h0) rfl ?_
  refine k_aload_n (pc := 5) dX2_init_5 rfl (x := r1) rfl ?_
  refine k_putF (pc := 6) rfl hN (by decide) dX2_init_6 kf_X2_9 rfl rfl (fun hN => ?_)
  refine k_aload_n (pc := 9) dX2_init_9 rfl (x := h0) rfl ?_
  refine k_aload_n (pc := 10) dX2_init_10 rfl (x := r2) rfl ?_
  refine k_putF (pc := 11) rfl hN (by decide) dX2_init_11 kf_X2_15 rfl rfl (fun hN => ?_)
  refine k_aload_n (pc := 14) dX2_init_14 rfl (x := h0) rfl ?_
  refine k_aload_n (pc := 15) dX2_init_15 rfl (x := r3) rfl ?_
  refine k_putF (pc := 16) rfl hN (by decide) dX2_init_16 kf_X2_19 rfl rfl (fun hN => ?_)
  refine k_aload_n (pc := 19) dX2_init_19 rfl (x := h0) rfl ?_
  refine k_aload (pc := 20) dX2_init_20 (x := r4) rfl ?_
  refine k_putN (pc := 22) hN (by decide) dX2_init_22 kf_X2_23 rfl rfl (fun hN => ?_)
  refine k_aload_n (pc := 25) dX2_init_25 rfl (x := h0) rfl ?_
  refine k_bipush (pc := 26) dX2_init_26 (v := 8) (by decide) ?_
  refine k_newa (pc := 28) (t := 0) (ty := .int) (N' := 8) (a0 := (8, .inl (fun _ => 0))) rfl rfl (fun _ _ h => h) kA_int (fun _ => rfl) (by decide) (by decide) (by decide) (by decide) (by decide) dX2_init_28 (fun q1 => ?_)
  refine k_putF (pc := 30) rfl hN (by decide) dX2_init_30 kf_X2_29 rfl rfl (fun hN => ?_)
  refine k_aload_n (pc := 33) dX2_init_33 rfl (x := h0) rfl ?_
  refine k_bipush (pc := 34) dX2_init_34 (v := 8) (by decide) ?_
  refine k_newa (pc := 36) (t := 0) (ty := .int) (N' := 8) (a0 := (8, .inl (fun _ => 0))) rfl rfl (fun _ _ h => h) kA_int (fun _ => rfl) (by decide) (by decide) (by decide) (by decide) (by decide) dX2_init_36 (fun q2 => ?_)
  refine k_putF (pc := 38) rfl hN (by decide) dX2_init_38 kf_X2_33 rfl rfl (fun hN => ?_)
  refine k_aload_n (pc := 41) dX2_init_41 rfl (x := h0) rfl ?_
  refine k_bipush (pc := 42) dX2_init_42 (v := 8) (by decide) ?_
  refine k_newa (pc := 44) (t := 0) (ty := .int) (N' := 8) (a0 := (8, .inl (fun _ => 0))) rfl rfl (fun _ _ h => h) kA_int (fun _ => rfl) (by decide) (by decide) (by decide) (by decide) (by decide) dX2_init_44 (fun q3 => ?_)
  refine k_putF (pc := 46) rfl hN (by decide) dX2_init_46 kf_X2_36 rfl rfl (fun hN => ?_)
  refine k_aload_n (pc := 49) dX2_init_49 rfl (x := h0) rfl ?_
  refine k_bipush (pc := 50) dX2_init_50 (v := 20) (by decide) ?_
  refine k_newa (pc := 52) (t := 0) (ty := .int) (N' := 20) (a0 := (20, .inl (fun _ => 0))) rfl rfl (fun _ _ h => h) kA_int (fun _ => rfl) (by decide) (by decide) (by decide) (by decide) (by decide) dX2_init_52 (fun q4 => ?_)
  refine k_putF (pc := 54) rfl hN (by decide) dX2_init_54 kf_X2_39 rfl rfl (fun hN => ?_)
  refine k_aload_n (pc := 57) dX2_init_57 rfl (x := h0) rfl ?_
  refine k_bipush (pc := 58) dX2_init_58 (v := 40) (by decide) ?_
  refine k_newa (pc := 60) (t := 0) (ty := .int) (N' := 40) (a0 := (40, .inl (fun _ => 0))) rfl rfl (fun _ _ h => h) kA_int (fun _ => rfl) (by decide) (by decide) (by decide) (by decide) (by decide) dX2_init_60 (fun q5 => ?_)
  refine k_putF (pc := 62) rfl hN (by decide) dX2_init_62 kf_X2_44 rfl rfl (fun hN => ?_)
  refine k_aload_n (pc := 65) dX2_init_65 rfl (x := h0) rfl ?_
  refine k_bipush (pc := 66) dX2_init_66 (v := 40) (by decide) ?_
  refine k_newa (pc := 68) (t := 0) (ty := .int) (N' := 40) (a0 := (40, .inl (fun _ => 0))) rfl rfl (fun _ _ h => h) kA_int (fun _ => rfl) (by decide) (by decide) (by decide) (by decide) (by decide) dX2_init_68 (fun q6 => ?_)
  refine k_putF (pc := 70) rfl hN (by decide) dX2_init_70 kf_X2_47 rfl rfl (fun hN => ?_)
  refine k_aload_n (pc := 73) dX2_init_73 rfl (x := h0) rfl ?_
  refine k_bipush (pc := 74) dX2_init_74 (v := 6) (by decide) ?_
  refine k_newa (pc := 76) (t := 0) (ty := .int) (N' := 6) (a0 := (6, .inl (fun _ => 0))) rfl rfl (fun _ _ h => h) kA_int (fun _ => rfl) (by decide) (by decide) (by decide) (by decide) (by decide) dX2_init_76 (fun q7 => ?_)
  refine k_putF (pc := 78) rfl hN (by decide) dX2_init_78 kf_X2_52 rfl rfl (fun hN => ?_)
  refine k_aload_n (pc := 81) dX2_init_81 rfl (x := h0) rfl ?_
  refine k_iconst (pc := 82) dX2_init_82 (v := 0) (by decide) ?_
  refine k_putN (pc := 83) hN (by decide) dX2_init_83 kf_X2_55 rfl rfl (fun hN => ?_)
  refine k_aload_n (pc := 86) dX2_init_86 rfl (x := h0) rfl ?_
  refine k_iconst (pc := 87) dX2_init_87 (v := 0) (by decide) ?_
  refine k_putN (pc := 88) hN (by decide) dX2_init_88 kf_X2_59 rfl rfl (fun hN => ?_)
  exact k_vret (pc := 91) rfl dX2_init_91 (by decide) (by decide) ⟨rfl, fun i => [q1, q2, q3, q4, q5, q6, q7].getD i 0, rfl⟩
def wX3 (cT : Nat → ClassId) (h0 : Nat) (a : Nat → Nat) : va_W := [(h0, .inr (3, [.ref (a 0), .ref (a 1), .ref (a 2), .int 0])), ((a 0), .inl (cT 0, 60, .inl (fun _ => 0))), ((a 1), .inl (cT 0, 60, .inl (fun _ => 0))), ((a 2), .inl (cT 0, 60, .inl (fun _ => 0)))]
theorem kc_X3 (l : Launch) (E : kE) (h0 : Nat) : Kc l E 1 3 180 mX3_init [.ref h0] [(h0, .inr (3, kfs tyX3 4))] (fun v w => v = none ∧ ∃ a : Nat → Nat, w = wX3 E.2 h0 a) := by
  refine Kc.of (by decide) (Nat.le_of_ble_eq_true rfl) rfl (fun A => ?_)
  have hN := kfs_len tyX3 4
  refine k_aload_n (pc := 0) dX3_init_0 rfl (x := h0) rfl ?_
  refine k_objInit (pc := 1) dX3_init_1 km_X3_3 ko_i ko_c (by decide) ?_
  refine k_aload_n (pc := 4) dX3_init_4 rfl (x := h0) rfl ?_
  refine k_bipush (pc := 5) dX3_init_5 (v := 60) (by decide) ?_
  refine k_newa (pc := 7) (t := 0) (ty := .int) (N' := 60) (a0 := (60, .inl (fun _ => 0))) rfl rfl (fun _ _ h => h) kA_int (fun _ => rfl) (by decide) (by decide) (by decide) (by decide) (by decide) dX3_init_7 (fun q1 => ?_)
  refine k_putF (pc := 9) rfl hN (by decide) dX3_init_9 kf_X3_11 rfl rfl (fun hN => ?_)
  refine k_aload_n (pc := 12) dX3_init_12 rfl (x := h0) rfl ?_
  refine k_bipush (pc := 13) dX3_init_13 (v := 60) (by decide) ?_
  refine k_newa (pc := 15) (t := 0) (ty := .int) (N' := 60) (a0 := (60, .inl (fun _ => 0))) rfl rfl (fun _ _ h => h) kA_int (fun _ => rfl) (by decide) (by decide) (by decide) (by decide) (by decide) dX3_init_15 (fun q2 => ?_)
  refine k_putF (pc := 17) rfl hN (by decide) dX3_init_17 kf_X3_15 rfl rfl (fun hN => ?_)
  refine k_aload_n (pc := 20) dX3_init_20 rfl (x := h0) rfl ?_
  refine k_bipush (pc := 21) dX3_init_21 (v := 60) (by decide) ?_
  refine k_newa (pc := 23) (t := 0) (ty := .int) (N' := 60) (a0 := (60, .inl (fun _ => 0))) rfl rfl (fun _ _ h => h) kA_int (fun _ => rfl) (by decide) (by decide) (by decide) (by decide) (by decide) dX3_init_23 (fun q3 => ?_)
  refine k_putF (pc := 25) rfl hN (by decide) dX3_init_25 kf_X3_18 rfl rfl (fun hN => ?_)
  refine k_aload_n (pc := 28) dX3_init_28 rfl (x := h0) rfl ?_
  refine k_iconst (pc := 29) dX3_init_29 (v := 0) (by decide) ?_
  refine k_putN (pc := 30) hN (by decide) dX3_init_30 kf_X3_21 rfl rfl (fun hN => ?_)
  exact k_vret (pc := 33) rfl dX3_init_33 (by decide) (by decide) ⟨rfl, fun i => [q1, q2, q3].getD i 0, rfl⟩
def wX4 (cT : Nat → ClassId) (h0 : Nat) (a : Nat → Nat) : va_W := [(h0, .inr (4, [.ref (a 0), .ref (a 1), .ref (a 2), .int 0])), ((a 0), .inl (cT 0, 5, .inl (fun _ => 0))), ((a 1), .inl (cT 0, 5, .inl (fun _ => 0))), ((a 2), .inl (cT 0, 5, .inl (fun _ => 0)))]
theorem kc_X4 (l : Launch) (E : kE) (h0 : Nat) : Kc l E 1 3 15 mX4_init [.ref h0] [(h0, .inr (4, kfs tyX4 4))] (fun v w => v = none ∧ ∃ a : Nat → Nat, w = wX4 E.2 h0 a) := by
  refine Kc.of (by decide) (Nat.le_of_ble_eq_true rfl) rfl (fun A => ?_)
  have hN := kfs_len tyX4 4
  refine k_aload_n (pc := 0) dX4_init_0 rfl (x := h0) rfl ?_
  refine k_objInit (pc := 1) dX4_init_1 km_X4_3 ko_i ko_c (by decide) ?_
  refine k_aload_n (pc := 4) dX4_init_4 rfl (x := h0) rfl ?_
  refine k_iconst (pc := 5) dX4_init_5 (v := 5) (by decide) ?_
  refine k_newa (pc := 6) (t := 0) (ty := .int) (N' := 5) (a0 := (5, .inl (fun _ => 0))) rfl rfl (fun _ _ h => h) kA_int (fun _ => rfl) (by decide) (by decide) (by decide) (by decide) (by decide) dX4_init_6 (fun q1 => ?_)
  refine k_putF (pc := 8) rfl hN (by decide) dX4_init_8 kf_X4_11 rfl rfl (fun hN => ?_)
  refine k_aload_n (pc := 11) dX4_init_11 rfl (x := h0) rfl ?_
  refine k_iconst (pc := 12) dX4_init_12 (v := 5) (by decide) ?_
  refine k_newa (pc := 13) (t := 0) (ty := .int) (N' := 5) (a0 := (5, .inl (fun _ => 0))) rfl rfl (fun _ _ h => h) kA_int (fun _ => rfl) (by decide) (by decide) (by decide) (by decide) (by decide) dX4_init_13 (fun q2 => ?_)
  refine k_putF (pc := 15) rfl hN (by decide) dX4_init_15 kf_X4_15 rfl rfl (fun hN => ?_)
  refine k_aload_n (pc := 18) dX4_init_18 rfl (x := h0) rfl ?_
  refine k_iconst (pc := 19) dX4_init_19 (v := 5) (by decide) ?_
  refine k_newa (pc := 20) (t := 0) (ty := .int) (N' := 5) (a0 := (5, .inl (fun _ => 0))) rfl rfl (fun _ _ h => h) kA_int (fun _ => rfl) (by decide) (by decide) (by decide) (by decide) (by decide) dX4_init_20 (fun q3 => ?_)
  refine k_putF (pc := 22) rfl hN (by decide) dX4_init_22 kf_X4_18 rfl rfl (fun hN => ?_)
  refine k_aload_n (pc := 25) dX4_init_25 rfl (x := h0) rfl ?_
  refine k_iconst (pc := 26) dX4_init_26 (v := 0) (by decide) ?_
  refine k_putN (pc := 27) hN (by decide) dX4_init_27 kf_X4_21 rfl rfl (fun hN => ?_)
  exact k_vret (pc := 30) rfl dX4_init_30 (by decide) (by decide) ⟨rfl, fun i => [q1, q2, q3].getD i 0, rfl⟩
def wX6 (cT : Nat → ClassId) (h0 : Nat) (a : Nat → Nat) : va_W := [(h0, .inr (6, [.ref (a 0), .ref (a 1), .ref (a 2), .ref (a 3), .ref (a 4), .ref (a 5), .ref (a 6), .int 0, .int 0])), ((a 0), .inl (cT 0, 20, .inl (fun _ => 0))), ((a 1), .inl (cT 0, 20, .inl (fun _ => 0))), ((a 2), .inl (cT 0, 20, .inl (fun _ => 0))), ((a 3), .inl (cT 0, 20, .inl (fun _ => 0))), ((a 4), .inl (cT 0, 20, .inl (fun _ => 0))), ((a 5), .inl (cT 0, 400, .inl (fun _ => 0))), ((a 6), .inl (cT 0, 32, .inl (fun _ => 0)))]
theorem kc_X6 (l : Launch) (E : kE) (h0 : Nat) : Kc l E 1 7 532 mX6_init [.ref h0] [(h0, .inr (6, kfs tyX6 9))] (fun v w => v = none ∧ ∃ a : Nat → Nat, w = wX6 E.2 h0 a) := by
  refine Kc.of (by decide) (Nat.le_of_ble_eq_true rfl) rfl (fun A => ?_)
  have hN := kfs_len tyX6 9
  refine k_aload_n (pc := 0) dX6_init_0 rfl (x := h0) rfl ?_
  refine k_objInit (pc := 1) dX6_init_1 km_X6_3 ko_i ko_c (by decide) ?_
  refine k_aload_n (pc := 4) dX6_init_4 rfl (x := h0) rfl ?_
  refine k_bipush (pc := 5) dX6_init_5 (v := 20) (by decide) ?_
  refine k_newa (pc := 7) (t := 0) (ty := .int) (N' := 20) (a0 := (20, .inl (fun _ => 0))) rfl rfl (fun _ _ h => h) kA_int (fun _ => rfl) (by decide) (by decide) (by decide) (by decide) (by decide) dX6_init_7 (fun q1 => ?_)
  refine k_putF (pc := 9) rfl hN (by decide) dX6_init_9 kf_X6_11 rfl rfl (fun hN => ?_)
  refine k_aload_n (pc := 12) dX6_init_12 rfl (x := h0) rfl ?_
  refine k_bipush (pc := 13) dX6_init_13 (v := 20) (by decide) ?_
  refine k_newa (pc := 15) (t := 0) (ty := .int) (N' := 20) (a0 := (20, .inl (fun _ => 0))) rfl rfl (fun _ _ h => h) kA_int (fun _ => rfl) (by decide) (by decide) (by decide) (by decide) (by decide) dX6_init_15 (fun q2 => ?_)
  refine k_putF (pc := 17) rfl hN (by decide) dX6_init_17 kf_X6_15 rfl rfl (fun hN => ?_)
  refine k_aload_n (pc := 20) dX6_init_20 rfl (x := h0) rfl ?_
  refine k_bipush (pc := 21) dX6_init_21 (v := 20) (by decide) ?_
  refine k_newa (pc := 23) (t := 0) (ty := .int) (N' := 20) (a0 := (20, .inl (fun _ => 0))) rfl rfl (fun _ _ h => h) kA_int (fun _ => rfl) (by decide) (by decide) (by decide) (by decide) (by decide) dX6_init_23 (fun q3 => ?_)
  refine k_putF (pc := 25) rfl hN (by decide) dX6_init_25 kf_X6_18 rfl rfl (fun hN => ?_)
  refine k_aload_n (pc := 28) dX6_init_28 rfl (x := h0) rfl ?_
  refine k_bipush (pc := 29) dX6_init_29 (v := 20) (by decide) ?_
  refine k_newa (pc := 31) (t := 0) (ty := .int) (N' := 20) (a0 := (20, .inl (fun _ => 0))) rfl rfl (fun _ _ h => h) kA_int (fun _ => rfl) (by decide) (by decide) (by decide) (by decide) (by decide) dX6_init_31 (fun q4 => ?_)
  refine k_putF (pc := 33) rfl hN (by decide) dX6_init_33 kf_X6_21 rfl rfl (fun hN => ?_)
  refine k_aload_n (pc := 36) dX6_init_36 rfl (x := h0) rfl ?_
  refine k_bipush (pc := 37) dX6_init_37 (v := 20) (by decide) ?_
  refine k_newa (pc := 39) (t := 0) (ty := .int) (N' := 20) (a0 := (20, .inl (fun _ => 0))) rfl rfl (fun _ _ h => h) kA_int (fun _ => rfl) (by decide) (by decide) (by decide) (by decide) (by decide) dX6_init_39 (fun q5 => ?_)
  refine k_putF (pc := 41) rfl hN (by decide) dX6_init_41 kf_X6_24 rfl rfl (fun hN => ?_)
  refine k_aload_n (pc := 44) dX6_init_44 rfl (x := h0) rfl ?_
  refine k_sipush (pc := 45) dX6_init_45 (v := 400) (by decide) ?_
  refine k_newa (pc := 48) (t := 0) (ty := .int) (N' := 400) (a0 := (400, .inl (fun _ => 0))) rfl rfl (fun _ _ h => h) kA_int (fun _ => rfl) (by decide) (by decide) (by decide) (by decide) (by decide) dX6_init_48 (fun q6 => ?_)
  refine k_putF (pc := 50) rfl hN (by decide) dX6_init_50 kf_X6_27 rfl rfl (fun hN => ?_)
  refine k_aload_n (pc := 53) dX6_init_53 rfl (x := h0) rfl ?_
  refine k_bipush (pc := 54) dX6_init_54 (v := 32) (by decide) ?_
  refine k_newa (pc := 56) (t := 0) (ty := .int) (N' := 32) (a0 := (32, .inl (fun _ => 0))) rfl rfl (fun _ _ h => h) kA_int (fun _ => rfl) (by decide) (by decide) (by decide) (by decide) (by decide) dX6_init_56 (fun q7 => ?_)
  refine k_putF (pc := 58) rfl hN (by decide) dX6_init_58 kf_X6_30 rfl rfl (fun hN => ?_)
  refine k_aload_n (pc := 61) dX6_init_61 rfl (x := h0) rfl ?_
  refine k_iconst (pc := 62) dX6_init_62 (v := 0) (by decide) ?_
  refine k_putN (pc := 63) hN (by decide) dX6_init_63 kf_X6_33 rfl rfl (fun hN => ?_)
  refine k_aload_n (pc := 66) dX6_init_66 rfl (x := h0) rfl ?_
  refine k_iconst (pc := 67) dX6_init_67 (v := 0) (by decide) ?_
  refine k_putN (pc := 68) hN (by decide) dX6_init_68 kf_X6_37 rfl rfl (fun hN => ?_)
  exact k_vret (pc := 71) rfl dX6_init_71 (by decide) (by decide) ⟨rfl, fun i => [q1, q2, q3, q4, q5, q6, q7].getD i 0, rfl⟩
def wX7 (cT : Nat → ClassId) (h0 : Nat) (a : Nat → Nat) : va_W := [(h0, .inr (7, [.ref (a 0), .ref (a 1), .ref (a 2), .ref (a 3), .ref (a 4), .ref (a 5), .ref (a 6), .ref (a 7), .ref (a 8), .ref (a 9), .int 0, .int (-1), .int 0])), ((a 0), .inl (cT 0, 5, .inl (fun _ => 0))), ((a 1), .inl (cT 0, 5, .inl (fun _ => 0))), ((a 2), .inl (cT 3, 5, .inl (fun _ => 0))), ((a 3), .inl (cT 0, 6, .inl (fun _ => 0))), ((a 4), .inl (cT 0, 6, .inl (fun _ => 0))), ((a 5), .inl (cT 0, 6, .inl (fun _ => 0))), ((a 6), .inl (cT 0, 6, .inl (fun _ => 0))), ((a 7), .inl (cT 0, 6, .inl (fun _ => 0))), ((a 8), .inl (cT 0, 5, .inl (fun _ => 0))), ((a 9), .inl (cT 0, 5, .inl (fun _ => 0)))]
theorem kc_X7 (l : Launch) (E : kE) (h0 : Nat) : Kc l E 1 10 55 mX7_init [.ref h0] [(h0, .inr (7, kfs tyX7 13))] (fun v w => v = none ∧ ∃ a : Nat → Nat, w = wX7 E.2 h0 a) := by
  refine Kc.of (by decide) (Nat.le_of_ble_eq_true rfl) rfl (fun A => ?_)
  have hN := kfs_len tyX7 13
  refine k_aload_n (pc := 0) dX7_init_0 rfl (x := h0) rfl ?_
  refine k_objInit (pc := 1) dX7_init_1 km_X7_3 ko_i ko_c (by decide) ?_
  refine k_aload_n (pc := 4) dX7_init_4 rfl (x := h0) rfl ?_
  refine k_iconst (pc := 5) dX7_init_5 (v := 5) (by decide) ?_
  refine k_newa (pc := 6) (t := 0) (ty := .int) (N' := 5) (a0 := (5, .inl (fun _ => 0))) rfl rfl (fun _ _ h => h) kA_int (fun _ => rfl) (by decide) (by decide) (by decide) (by decide) (by decide) dX7_init_6 (fun q1 => ?_)
  refine k_putF (pc := 8) rfl hN (by decide) dX7_init_8 kf_X7_11 rfl rfl (fun hN => ?_)
  refine k_aload_n (pc := 11) dX7_init_11 rfl (x := h0) rfl ?_
  refine k_iconst (pc := 12) dX7_init_12 (v := 5) (by decide) ?_
  refine k_newa (pc := 13) (t := 0) (ty := .int) (N' := 5) (a0 := (5, .inl (fun _ => 0))) rfl rfl (fun _ _ h => h) kA_int (fun _ => rfl) (by decide) (by decide) (by decide) (by decide) (by decide) dX7_init_13 (fun q2 => ?_)
  refine k_putF (pc := 15) rfl hN (by decide) dX7_init_15 kf_X7_17 rfl rfl (fun hN => ?_)
  refine k_aload_n (pc := 18) dX7_init_18 rfl (x := h0) rfl ?_
  refine k_iconst (pc := 19) dX7_init_19 (v := 5) (by decide) ?_
  refine k_newa (pc := 20) (t := 3) (ty := .boolean) (N' := 5) (a0 := (5, .inl (fun _ => 0))) rfl rfl (fun _ _ h => h) kA_boolean (fun _ => rfl) (by decide) (by decide) (by decide) (by decide) (by decide) dX7_init_20 (fun q3 => ?_)
  refine k_putF (pc := 22) rfl hN (by decide) dX7_init_22 kf_X7_20 rfl rfl (fun hN => ?_)
  refine k_aload_n (pc := 25) dX7_init_25 rfl (x := h0) rfl ?_
  refine k_bipush (pc := 26) dX7_init_26 (v := 6) (by decide) ?_
  refine k_newa (pc := 28) (t := 0) (ty := .int) (N' := 6) (a0 := (6, .inl (fun _ => 0))) rfl rfl (fun _ _ h => h) kA_int (fun _ => rfl) (by decide) (by decide) (by decide) (by decide) (by decide) dX7_init_28 (fun q4 => ?_)
  refine k_putF (pc := 30) rfl hN (by decide) dX7_init_30 kf_X7_24 rfl rfl (fun hN => ?_)
  refine k_aload_n (pc := 33) dX7_init_33 rfl (x := h0) rfl ?_
  refine k_bipush (pc := 34) dX7_init_34 (v := 6) (by decide) ?_
  refine k_newa (pc := 36) (t := 0) (ty := .int) (N' := 6) (a0 := (6, .inl (fun _ => 0))) rfl rfl (fun _ _ h => h) kA_int (fun _ => rfl) (by decide) (by decide) (by decide) (by decide) (by decide) dX7_init_36 (fun q5 => ?_)
  refine k_putF (pc := 38) rfl hN (by decide) dX7_init_38 kf_X7_27 rfl rfl (fun hN => ?_)
  refine k_aload_n (pc := 41) dX7_init_41 rfl (x := h0) rfl ?_
  refine k_bipush (pc := 42) dX7_init_42 (v := 6) (by decide) ?_
  refine k_newa (pc := 44) (t := 0) (ty := .int) (N' := 6) (a0 := (6, .inl (fun _ => 0))) rfl rfl (fun _ _ h => h) kA_int (fun _ => rfl) (by decide) (by decide) (by decide) (by decide) (by decide) dX7_init_44 (fun q6 => ?_)
  refine k_putF (pc := 46) rfl hN (by decide) dX7_init_46 kf_X7_30 rfl rfl (fun hN => ?_)
  refine k_aload_n (pc := 49) dX7_init_49 rfl (x := h0) rfl ?_
  refine k_bipush (pc := 50) dX7_init_50 (v := 6) (by decide) ?_
  refine k_newa (pc := 52) (t := 0) (ty := .int) (N' := 6) (a0 := (6, .inl (fun _ => 0))) rfl rfl (fun _ _ h => h) kA_int (fun _ => rfl) (by decide) (by decide) (by decide) (by decide) (by decide) dX7_init_52 (fun q7 => ?_)
  refine k_putF (pc := 54) rfl hN (by decide) dX7_init_54 kf_X7_33 rfl rfl (fun hN => ?_)
  refine k_aload_n (pc := 57) dX7_init_57 rfl (x := h0) rfl ?_
  refine k_bipush (pc := 58) dX7_init_58 (v := 6) (by decide) ?_
  refine k_newa (pc := 60) (t := 0) (ty := .int) (N' := 6) (a0 := (6, .inl (fun _ => 0))) rfl rfl (fun _ _ h => h) kA_int (fun _ => rfl) (by decide) (by decide) (by decide) (by decide) (by decide) dX7_init_60 (fun q8 => ?_)
  refine k_putF (pc := 62) rfl hN (by decide) dX7_init_62 kf_X7_36 rfl rfl (fun hN => ?_)
  refine k_aload_n (pc := 65) dX7_init_65 rfl (x := h0) rfl ?_
  refine k_iconst (pc := 66) dX7_init_66 (v := 5) (by decide) ?_
  refine k_newa (pc := 67) (t := 0) (ty := .int) (N' := 5) (a0 := (5, .inl (fun _ => 0))) rfl rfl (fun _ _ h => h) kA_int (fun _ => rfl) (by decide) (by decide) (by decide) (by decide) (by decide) dX7_init_67 (fun q9 => ?_)
  refine k_putF (pc := 69) rfl hN (by decide) dX7_init_69 kf_X7_39 rfl rfl (fun hN => ?_)
  refine k_aload_n (pc := 72) dX7_init_72 rfl (x := h0) rfl ?_
  refine k_iconst (pc := 73) dX7_init_73 (v := 5) (by decide) ?_
  refine k_newa (pc := 74) (t := 0) (ty := .int) (N' := 5) (a0 := (5, .inl (fun _ => 0))) rfl rfl (fun _ _ h => h) kA_int (fun _ => rfl) (by decide) (by decide) (by decide) (by decide) (by decide) dX7_init_74 (fun q10 => ?_)
  refine k_putF (pc := 76) rfl hN (by decide) dX7_init_76 kf_X7_42 rfl rfl (fun hN => ?_)
  refine k_aload_n (pc := 79) dX7_init_79 rfl (x := h0) rfl ?_
  refine k_iconst (pc := 80) dX7_init_80 (v := 0) (by decide) ?_
  refine k_putN (pc := 81) hN (by decide) dX7_init_81 kf_X7_45 rfl rfl (fun hN => ?_)
  refine k_aload_n (pc := 84) dX7_init_84 rfl (x := h0) rfl ?_
  refine k_iconst (pc := 85) dX7_init_85 (v := (-1)) (by decide) ?_
  refine k_putN (pc := 86) hN (by decide) dX7_init_86 kf_X7_49 rfl rfl (fun hN => ?_)
  refine k_aload_n (pc := 89) dX7_init_89 rfl (x := h0) rfl ?_
  refine k_iconst (pc := 90) dX7_init_90 (v := 0) (by decide) ?_
  refine k_putN (pc := 91) hN (by decide) dX7_init_91 kf_X7_52 rfl rfl (fun hN => ?_)
  exact k_vret (pc := 94) rfl dX7_init_94 (by decide) (by decide) ⟨rfl, fun i => [q1, q2, q3, q4, q5, q6, q7, q8, q9, q10].getD i 0, rfl⟩
def wX8 (cT : Nat → ClassId) (h0 : Nat) (a : Nat → Nat) : va_W := [(h0, .inr (8, [.ref (a 0), .int 0])), ((a 0), .inl (cT 2, 2000, .inl (fun _ => 0)))]
theorem kc_X8 (l : Launch) (E : kE) (h0 : Nat) : Kc l E 1 1 2000 mX8_init [.ref h0] [(h0, .inr (8, kfs tyX8 2))] (fun v w => v = none ∧ ∃ a : Nat → Nat, w = wX8 E.2 h0 a) := by
  refine Kc.of (by decide) (Nat.le_of_ble_eq_true rfl) rfl (fun A => ?_)
  have hN := kfs_len tyX8 2
  refine k_aload_n (pc := 0) dX8_init_0 rfl (x := h0) rfl ?_
  refine k_objInit (pc := 1) dX8_init_1 km_X8_3 ko_i ko_c (by decide) ?_
  refine k_aload_n (pc := 4) dX8_init_4 rfl (x := h0) rfl ?_
  refine k_sipush (pc := 5) dX8_init_5 (v := 2000) (by decide) ?_
  refine k_newa (pc := 8) (t := 2) (ty := .byte) (N' := 2000) (a0 := (2000, .inl (fun _ => 0))) rfl rfl (fun _ _ h => h) kA_byte (fun _ => rfl) (by decide) (by decide) (by decide) (by decide) (by decide) dX8_init_8 (fun q1 => ?_)
  refine k_putF (pc := 10) rfl hN (by decide) dX8_init_10 kf_X8_11 rfl rfl (fun hN => ?_)
  refine k_aload_n (pc := 13) dX8_init_13 rfl (x := h0) rfl ?_
  refine k_iconst (pc := 14) dX8_init_14 (v := 0) (by decide) ?_
  refine k_putN (pc := 15) hN (by decide) dX8_init_15 kf_X8_15 rfl rfl (fun hN => ?_)
  exact k_vret (pc := 18) rfl dX8_init_18 (by decide) (by decide) ⟨rfl, fun i => [q1].getD i 0, rfl⟩
def wX10 (cT : Nat → ClassId) (h0 : Nat) (a : Nat → Nat) : va_W := [(h0, .inr (10, [.int 0, .int 0, .int 0, .int 0]))]
theorem kc_X10 (l : Launch) (E : kE) (h0 : Nat) : Kc l E 1 0 0 mX10_init [.ref h0] [(h0, .inr (10, kfs tyX10 4))] (fun v w => v = none ∧ ∃ a : Nat → Nat, w = wX10 E.2 h0 a) := by
  refine Kc.of (by decide) (Nat.le_of_ble_eq_true rfl) rfl (fun A => ?_)
  have hN := kfs_len tyX10 4
  refine k_aload_n (pc := 0) dX10_init_0 rfl (x := h0) rfl ?_
  refine k_objInit (pc := 1) dX10_init_1 km_X10_3 ko_i ko_c (by decide) ?_
  refine k_aload_n (pc := 4) dX10_init_4 rfl (x := h0) rfl ?_
  refine k_iconst (pc := 5) dX10_init_5 (v := 0) (by decide) ?_
  refine k_putN (pc := 6) hN (by decide) dX10_init_6 kf_X10_9 rfl rfl (fun hN => ?_)
  refine k_aload_n (pc := 9) dX10_init_9 rfl (x := h0) rfl ?_
  refine k_iconst (pc := 10) dX10_init_10 (v := 0) (by decide) ?_
  refine k_putN (pc := 11) hN (by decide) dX10_init_11 kf_X10_15 rfl rfl (fun hN => ?_)
  refine k_aload_n (pc := 14) dX10_init_14 rfl (x := h0) rfl ?_
  refine k_iconst (pc := 15) dX10_init_15 (v := 0) (by decide) ?_
  refine k_putN (pc := 16) hN (by decide) dX10_init_16 kf_X10_18 rfl rfl (fun hN => ?_)
  refine k_aload_n (pc := 19) dX10_init_19 rfl (x := h0) rfl ?_
  refine k_iconst (pc := 20) dX10_init_20 (v := 0) (by decide) ?_
  refine k_putN (pc := 21) hN (by decide) dX10_init_21 kf_X10_21 rfl rfl (fun hN => ?_)
  exact k_vret (pc := 24) rfl dX10_init_24 (by decide) (by decide) ⟨rfl, fun i => [].getD i 0, rfl⟩
