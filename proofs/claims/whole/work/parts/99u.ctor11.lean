/-! CONSTRUCTOR of FriendLine -/
def wX11 (cT : Nat → ClassId) (h0 : Nat) (a : Nat → Nat) : va_W := [(h0, .inr (11, [.ref (a 0), .ref (a 18), .ref (a 2), .ref (a 10), .ref (a 21), .ref (a 28), .ref (a 31), .ref (a 35), .ref (a 46), .ref (a 56), .ref (a 64), .int 0])), ((a 0), .inr (8, [.ref ((a 1)), .int 0])), ((a 1), .inl (cT 2, 2000, .inl (fun _ => 0))), ((a 2), .inr (6, [.ref ((a 3)), .ref ((a 4)), .ref ((a 5)), .ref ((a 6)), .ref ((a 7)), .ref ((a 8)), .ref ((a 9)), .int 0, .int 0])), ((a 3), .inl (cT 0, 20, .inl (fun _ => 0))), ((a 4), .inl (cT 0, 20, .inl (fun _ => 0))), ((a 5), .inl (cT 0, 20, .inl (fun _ => 0))), ((a 6), .inl (cT 0, 20, .inl (fun _ => 0))), ((a 7), .inl (cT 0, 20, .inl (fun _ => 0))), ((a 8), .inl (cT 0, 400, .inl (fun _ => 0))), ((a 9), .inl (cT 0, 32, .inl (fun _ => 0))), ((a 10), .inr (6, [.ref ((a 11)), .ref ((a 12)), .ref ((a 13)), .ref ((a 14)), .ref ((a 15)), .ref ((a 16)), .ref ((a 17)), .int 0, .int 0])), ((a 11), .inl (cT 0, 20, .inl (fun _ => 0))), ((a 12), .inl (cT 0, 20, .inl (fun _ => 0))), ((a 13), .inl (cT 0, 20, .inl (fun _ => 0))), ((a 14), .inl (cT 0, 20, .inl (fun _ => 0))), ((a 15), .inl (cT 0, 20, .inl (fun _ => 0))), ((a 16), .inl (cT 0, 400, .inl (fun _ => 0))), ((a 17), .inl (cT 0, 32, .inl (fun _ => 0))), ((a 18), .inr (5, [.ref ((a 19)), .ref ((a 20)), .int 0, .int 0, .int 0, .int 0, .int 0, .int 0, .int (-1), .int (-1), .ref (a 10)])), ((a 19), .inr (10, [.int 0, .int 0, .int 0, .int 0])), ((a 20), .inl (cT 0, 20, .inl (fun _ => 0))), ((a 21), .inr (9, [.ref ((a 22)), .ref ((a 23)), .int 0, .ref ((a 24)), .ref ((a 25)), .int 0, .ref ((a 26)), .ref ((a 27))])), ((a 22), .inl (cT 0, 8, .inl (fun _ => 0))), ((a 23), .inl (cT 0, 8, .inl (fun _ => 0))), ((a 24), .inl (cT 0, 8, .inl (fun _ => 0))), ((a 25), .inl (cT 0, 8, .inl (fun _ => 0))), ((a 26), .inl (cT 1, 200, .inr (.inl (fun _ => 0)))), ((a 27), .inl (cT 0, 160, .inl (fun j => if j < 160 then -1 else 0))), ((a 28), .inr (0, [.ref ((a 29)), .ref ((a 30))])), ((a 29), .inl (cT 0, 200, .inl (fun _ => 0))), ((a 30), .inl (cT 1, 200, .inr (.inl (fun _ => 0)))), ((a 31), .inr (4, [.ref ((a 32)), .ref ((a 33)), .ref ((a 34)), .int 0])), ((a 32), .inl (cT 0, 5, .inl (fun _ => 0))), ((a 33), .inl (cT 0, 5, .inl (fun _ => 0))), ((a 34), .inl (cT 0, 5, .inl (fun _ => 0))), ((a 35), .inr (7, [.ref ((a 36)), .ref ((a 37)), .ref ((a 38)), .ref ((a 39)), .ref ((a 40)), .ref ((a 41)), .ref ((a 42)), .ref ((a 43)), .ref ((a 44)), .ref ((a 45)), .int 0, .int (-1), .int 0])), ((a 36), .inl (cT 0, 5, .inl (fun _ => 0))), ((a 37), .inl (cT 0, 5, .inl (fun _ => 0))), ((a 38), .inl (cT 3, 5, .inl (fun _ => 0))), ((a 39), .inl (cT 0, 6, .inl (fun _ => 0))), ((a 40), .inl (cT 0, 6, .inl (fun _ => 0))), ((a 41), .inl (cT 0, 6, .inl (fun _ => 0))), ((a 42), .inl (cT 0, 6, .inl (fun _ => 0))), ((a 43), .inl (cT 0, 6, .inl (fun _ => 0))), ((a 44), .inl (cT 0, 5, .inl (fun _ => 0))), ((a 45), .inl (cT 0, 5, .inl (fun _ => 0))), ((a 46), .inr (1, [.ref ((a 47)), .ref ((a 48)), .ref ((a 49)), .ref ((a 50)), .ref ((a 51)), .ref ((a 52)), .ref ((a 53)), .ref ((a 54)), .ref ((a 55)), .int 0, .int 0])), ((a 47), .inl (cT 0, 400, .inl (fun _ => 0))), ((a 48), .inl (cT 0, 400, .inl (fun _ => 0))), ((a 49), .inl (cT 0, 400, .inl (fun _ => 0))), ((a 50), .inl (cT 0, 400, .inl (fun _ => 0))), ((a 51), .inl (cT 0, 400, .inl (fun _ => 0))), ((a 52), .inl (cT 0, 400, .inl (fun _ => 0))), ((a 53), .inl (cT 0, 400, .inl (fun _ => 0))), ((a 54), .inl (cT 0, 400, .inl (fun _ => 0))), ((a 55), .inl (cT 0, 400, .inl (fun _ => 0))), ((a 56), .inr (2, [.ref (a 21), .ref (a 28), .ref (a 46), .ref ((a 57)), .ref ((a 58)), .ref ((a 59)), .ref ((a 60)), .ref ((a 61)), .ref ((a 62)), .ref ((a 63)), .ref (a 2), .int 0, .int 0])), ((a 57), .inl (cT 0, 8, .inl (fun _ => 0))), ((a 58), .inl (cT 0, 8, .inl (fun _ => 0))), ((a 59), .inl (cT 0, 8, .inl (fun _ => 0))), ((a 60), .inl (cT 0, 20, .inl (fun _ => 0))), ((a 61), .inl (cT 0, 40, .inl (fun _ => 0))), ((a 62), .inl (cT 0, 40, .inl (fun _ => 0))), ((a 63), .inl (cT 0, 6, .inl (fun _ => 0))), ((a 64), .inr (3, [.ref ((a 65)), .ref ((a 66)), .ref ((a 67)), .int 0])), ((a 65), .inl (cT 0, 60, .inl (fun _ => 0))), ((a 66), .inl (cT 0, 60, .inl (fun _ => 0))), ((a 67), .inl (cT 0, 60, .inl (fun _ => 0)))]
theorem kc_X11 (l : Launch) (E : kE) (h0 : Nat) : Kc l E 3 68 7946 mX11_init [.ref h0] [(h0, .inr (11, kfs tyX11 12))] (fun v w => v = none ∧ ∃ a : Nat → Nat, w = wX11 E.2 h0 a) := by
  refine Kc.of (by decide) (Nat.le_of_ble_eq_true rfl) rfl (fun A => ?_)
  have hN := kfs_len tyX11 12
  refine k_aload_n (pc := 0) dX11_init_0 rfl (x := h0) rfl ?_
  refine k_objInit (pc := 1) dX11_init_1 km_X11_1 ko_i ko_c (by decide) ?_
  refine k_aload_n (pc := 4) dX11_init_4 rfl (x := h0) rfl ?_
  refine k_new (pc := 5) (C := RX8) (T := TX8) (N := 2) (ci := 8) tyX8 tyX8_ok rfl kc_X11_7 kI_X8 zini_X8 (by decide) (by decide) dX11_init_5 (fun q1 => ?_)
  refine k_dup (pc := 8) dX11_init_8 rfl ?_
  refine k_init (pc := 9) (As := []) (rest := [.ref q1, .ref h0]) dX11_init_9 mki_X8 km_X11_9 rfl (kc_X8 l E q1) (by decide) rfl (Nat.le_of_ble_eq_true rfl) rfl (by decide) (by decide) (fun w1 hq => ?_)
  obtain ⟨a1, rfl⟩ := hq
  refine k_putF (pc := 12) rfl hN (by decide) dX11_init_12 kf_X11_10 rfl rfl (fun hN => ?_)
  refine k_aload_n (pc := 15) dX11_init_15 rfl (x := h0) rfl ?_
  refine k_new (pc := 16) (C := RX6) (T := TX6) (N := 9) (ci := 6) tyX6 tyX6_ok rfl kc_X11_16 kI_X6 zini_X6 (by decide) (by decide) dX11_init_16 (fun q2 => ?_)
  refine k_dup (pc := 19) dX11_init_19 rfl ?_
  refine k_init (pc := 20) (As := []) (rest := [.ref q2, .ref h0]) dX11_init_20 mki_X6 km_X11_18 rfl (kc_X6 l E q2) (by decide) rfl (Nat.le_of_ble_eq_true rfl) rfl (by decide) (by decide) (fun w1 hq => ?_)
  obtain ⟨a2, rfl⟩ := hq
  refine k_putN (pc := 23) hN (by decide) dX11_init_23 kf_X11_19 rfl rfl (fun hN => ?_)
  refine k_aload_n (pc := 26) dX11_init_26 rfl (x := h0) rfl ?_
  refine k_new (pc := 27) (C := RX6) (T := TX6) (N := 9) (ci := 6) tyX6 tyX6_ok rfl kc_X11_16 kI_X6 zini_X6 (by decide) (by decide) dX11_init_27 (fun q3 => ?_)
  refine k_dup (pc := 30) dX11_init_30 rfl ?_
  refine k_init (pc := 31) (As := []) (rest := [.ref q3, .ref h0]) dX11_init_31 mki_X6 km_X11_18 rfl (kc_X6 l E q3) (by decide) rfl (Nat.le_of_ble_eq_true rfl) rfl (by decide) (by decide) (fun w1 hq => ?_)
  obtain ⟨a3, rfl⟩ := hq
  refine k_putN (pc := 34) hN (by decide) dX11_init_34 kf_X11_23 rfl rfl (fun hN => ?_)
  refine k_aload_n (pc := 37) dX11_init_37 rfl (x := h0) rfl ?_
  refine k_new (pc := 38) (C := RX5) (T := TX5) (N := 11) (ci := 5) tyX5 tyX5_ok rfl kc_X11_26 kI_X5 zini_X5 (by decide) (by decide) dX11_init_38 (fun q4 => ?_)
  refine k_dup (pc := 41) dX11_init_41 rfl ?_
  refine k_aload_n (pc := 42) dX11_init_42 rfl (x := h0) rfl ?_
  refine k_get (pc := 43) (q0 := 0) (v := .ref q3) dX11_init_43 kg_X11_23 rfl rfl ?_
  refine k_perm (w' := (h0, .inr (11, [.ref q1, .null, .ref q2, .ref q3, .null, .null, .null, .null, .null, .null, .null, .int 0])) :: ([(q1, .inr (8, [.ref (a1 0), .int 0])), (a1 0, .inl (E.2 2, 2000, .inl (fun _ => 0))), (q2, .inr (6, [.ref (a2 0), .ref (a2 1), .ref (a2 2), .ref (a2 3), .ref (a2 4), .ref (a2 5), .ref (a2 6), .int 0, .int 0])), (a2 0, .inl (E.2 0, 20, .inl (fun _ => 0))), (a2 1, .inl (E.2 0, 20, .inl (fun _ => 0))), (a2 2, .inl (E.2 0, 20, .inl (fun _ => 0))), (a2 3, .inl (E.2 0, 20, .inl (fun _ => 0))), (a2 4, .inl (E.2 0, 20, .inl (fun _ => 0))), (a2 5, .inl (E.2 0, 400, .inl (fun _ => 0))), (a2 6, .inl (E.2 0, 32, .inl (fun _ => 0))), (a3 0, .inl (E.2 0, 20, .inl (fun _ => 0))), (a3 1, .inl (E.2 0, 20, .inl (fun _ => 0))), (a3 2, .inl (E.2 0, 20, .inl (fun _ => 0))), (a3 3, .inl (E.2 0, 20, .inl (fun _ => 0))), (a3 4, .inl (E.2 0, 20, .inl (fun _ => 0))), (a3 5, .inl (E.2 0, 400, .inl (fun _ => 0))), (a3 6, .inl (E.2 0, 32, .inl (fun _ => 0)))] ++ [(q4, .inr (5, kfs tyX5 11)), (q3, .inr (6, [.ref (a3 0), .ref (a3 1), .ref (a3 2), .ref (a3 3), .ref (a3 4), .ref (a3 5), .ref (a3 6), .int 0, .int 0]))])) [0, 1, 2, 3, 4, 5, 6, 7, 8, 9, 10, 12, 13, 14, 15, 16, 17, 18, 19, 11] (by decide) rfl ?_
  have hN : ([.ref q1, .null, .ref q2, .ref q3, .null, .null, .null, .null, .null, .null, .null, .int 0] : List Value).length = 12 := rfl
  refine k_init (pc := 46) (As := [.ref q3]) (rest := [.ref q4, .ref h0]) dX11_init_46 mki_X5 km_X11_28 rfl (kc_X5 l E q4 q3 a3) (by decide) rfl (Nat.le_of_ble_eq_true rfl) rfl (by decide) (by decide) (fun w1 hq => ?_)
  obtain ⟨a4, rfl⟩ := hq
  refine k_perm (w' := (h0, .inr (11, [.ref q1, .null, .ref q2, .ref q3, .null, .null, .null, .null, .null, .null, .null, .int 0])) :: [(q1, .inr (8, [.ref (a1 0), .int 0])), (a1 0, .inl (E.2 2, 2000, .inl (fun _ => 0))), (q2, .inr (6, [.ref (a2 0), .ref (a2 1), .ref (a2 2), .ref (a2 3), .ref (a2 4), .ref (a2 5), .ref (a2 6), .int 0, .int 0])), (a2 0, .inl (E.2 0, 20, .inl (fun _ => 0))), (a2 1, .inl (E.2 0, 20, .inl (fun _ => 0))), (a2 2, .inl (E.2 0, 20, .inl (fun _ => 0))), (a2 3, .inl (E.2 0, 20, .inl (fun _ => 0))), (a2 4, .inl (E.2 0, 20, .inl (fun _ => 0))), (a2 5, .inl (E.2 0, 400, .inl (fun _ => 0))), (a2 6, .inl (E.2 0, 32, .inl (fun _ => 0))), (q3, .inr (6, [.ref (a3 0), .ref (a3 1), .ref (a3 2), .ref (a3 3), .ref (a3 4), .ref (a3 5), .ref (a3 6), .int 0, .int 0])), (a3 0, .inl (E.2 0, 20, .inl (fun _ => 0))), (a3 1, .inl (E.2 0, 20, .inl (fun _ => 0))), (a3 2, .inl (E.2 0, 20, .inl (fun _ => 0))), (a3 3, .inl (E.2 0, 20, .inl (fun _ => 0))), (a3 4, .inl (E.2 0, 20, .inl (fun _ => 0))), (a3 5, .inl (E.2 0, 400, .inl (fun _ => 0))), (a3 6, .inl (E.2 0, 32, .inl (fun _ => 0))), (q4, .inr (5, [.ref (a4 0), .ref (a4 1), .int 0, .int 0, .int 0, .int 0, .int 0, .int 0, .int (-1), .int (-1), .ref q3])), (a4 0, .inr (10, [.int 0, .int 0, .int 0, .int 0])), (a4 1, .inl (E.2 0, 20, .inl (fun _ => 0)))]) [0, 1, 2, 3, 4, 5, 6, 7, 8, 9, 10, 19, 11, 12, 13, 14, 15, 16, 17, 18, 20, 21] (by decide) rfl ?_
  refine k_putF (pc := 49) rfl hN (by decide) dX11_init_49 kf_X11_31 rfl rfl (fun hN => ?_)
  refine k_aload_n (pc := 52) dX11_init_52 rfl (x := h0) rfl ?_
  refine k_new (pc := 53) (C := RX9) (T := TX9) (N := 8) (ci := 9) tyX9 tyX9_ok rfl kc_X11_35 kI_X9 zini_X9 (by decide) (by decide) dX11_init_53 (fun q5 => ?_)
  refine k_dup (pc := 56) dX11_init_56 rfl ?_
  refine k_init (pc := 57) (As := []) (rest := [.ref q5, .ref h0]) dX11_init_57 mki_X9 km_X11_37 rfl (kc_X9 l E q5) (by decide) rfl (Nat.le_of_ble_eq_true rfl) rfl (by decide) (by decide) (fun w1 hq => ?_)
  obtain ⟨a5, rfl⟩ := hq
  refine k_putF (pc := 60) rfl hN (by decide) dX11_init_60 kf_X11_38 rfl rfl (fun hN => ?_)
  refine k_aload_n (pc := 63) dX11_init_63 rfl (x := h0) rfl ?_
  refine k_new (pc := 64) (C := RX0) (T := TX0) (N := 2) (ci := 0) tyX0 tyX0_ok rfl kc_X11_42 kI_X0 zini_X0 (by decide) (by decide) dX11_init_64 (fun q6 => ?_)
  refine k_dup (pc := 67) dX11_init_67 rfl ?_
  refine k_init (pc := 68) (As := []) (rest := [.ref q6, .ref h0]) dX11_init_68 mki_X0 km_X11_44 rfl (kc_X0 l E q6) (by decide) rfl (Nat.le_of_ble_eq_true rfl) rfl (by decide) (by decide) (fun w1 hq => ?_)
  obtain ⟨a6, rfl⟩ := hq
  refine k_putF (pc := 71) rfl hN (by decide) dX11_init_71 kf_X11_45 rfl rfl (fun hN => ?_)
  refine k_aload_n (pc := 74) dX11_init_74 rfl (x := h0) rfl ?_
  refine k_new (pc := 75) (C := RX4) (T := TX4) (N := 4) (ci := 4) tyX4 tyX4_ok rfl kc_X11_49 kI_X4 zini_X4 (by decide) (by decide) dX11_init_75 (fun q7 => ?_)
  refine k_dup (pc := 78) dX11_init_78 rfl ?_
  refine k_init (pc := 79) (As := []) (rest := [.ref q7, .ref h0]) dX11_init_79 mki_X4 km_X11_51 rfl (kc_X4 l E q7) (by decide) rfl (Nat.le_of_ble_eq_true rfl) rfl (by decide) (by decide) (fun w1 hq => ?_)
  obtain ⟨a7, rfl⟩ := hq
  refine k_putF (pc := 82) rfl hN (by decide) dX11_init_82 kf_X11_52 rfl rfl (fun hN => ?_)
  refine k_aload_n (pc := 85) dX11_init_85 rfl (x := h0) rfl ?_
  refine k_new (pc := 86) (C := RX7) (T := TX7) (N := 13) (ci := 7) tyX7 tyX7_ok rfl kc_X11_56 kI_X7 zini_X7 (by decide) (by decide) dX11_init_86 (fun q8 => ?_)
  refine k_dup (pc := 89) dX11_init_89 rfl ?_
  refine k_init (pc := 90) (As := []) (rest := [.ref q8, .ref h0]) dX11_init_90 mki_X7 km_X11_58 rfl (kc_X7 l E q8) (by decide) rfl (Nat.le_of_ble_eq_true rfl) rfl (by decide) (by decide) (fun w1 hq => ?_)
  obtain ⟨a8, rfl⟩ := hq
  refine k_putF (pc := 93) rfl hN (by decide) dX11_init_93 kf_X11_59 rfl rfl (fun hN => ?_)
  refine k_aload_n (pc := 96) dX11_init_96 rfl (x := h0) rfl ?_
  refine k_new (pc := 97) (C := RX1) (T := TX1) (N := 11) (ci := 1) tyX1 tyX1_ok rfl kc_X11_63 kI_X1 zini_X1 (by decide) (by decide) dX11_init_97 (fun q9 => ?_)
  refine k_dup (pc := 100) dX11_init_100 rfl ?_
  refine k_init (pc := 101) (As := []) (rest := [.ref q9, .ref h0]) dX11_init_101 mki_X1 km_X11_65 rfl (kc_X1 l E q9) (by decide) rfl (Nat.le_of_ble_eq_true rfl) rfl (by decide) (by decide) (fun w1 hq => ?_)
  obtain ⟨a9, rfl⟩ := hq
  refine k_putF (pc := 104) rfl hN (by decide) dX11_init_104 kf_X11_66 rfl rfl (fun hN => ?_)
  refine k_aload_n (pc := 107) dX11_init_107 rfl (x := h0) rfl ?_
  refine k_new (pc := 108) (C := RX2) (T := TX2) (N := 13) (ci := 2) tyX2 tyX2_ok rfl kc_X11_70 kI_X2 zini_X2 (by decide) (by decide) dX11_init_108 (fun q10 => ?_)
  refine k_dup (pc := 111) dX11_init_111 rfl ?_
  refine k_aload_n (pc := 112) dX11_init_112 rfl (x := h0) rfl ?_
  refine k_get (pc := 113) (q0 := 0) (v := .ref q5) dX11_init_113 kg_X11_38 rfl rfl ?_
  refine k_aload_n (pc := 116) dX11_init_116 rfl (x := h0) rfl ?_
  refine k_get (pc := 117) (q0 := 0) (v := .ref q6) dX11_init_117 kg_X11_45 rfl rfl ?_
  refine k_aload_n (pc := 120) dX11_init_120 rfl (x := h0) rfl ?_
  refine k_get (pc := 121) (q0 := 0) (v := .ref q9) dX11_init_121 kg_X11_66 rfl rfl ?_
  refine k_aload_n (pc := 124) dX11_init_124 rfl (x := h0) rfl ?_
  refine k_get (pc := 125) (q0 := 0) (v := .ref q2) dX11_init_125 kg_X11_19 rfl rfl ?_
  refine k_init (pc := 128) (As := [.ref q5, .ref q6, .ref q9, .ref q2]) (rest := [.ref q10, .ref h0]) dX11_init_128 mki_X2 km_X11_72 rfl (kc_X2 l E q10 q5 q6 q9 q2) (by decide) rfl (Nat.le_of_ble_eq_true rfl) rfl (by decide) (by decide) (fun w1 hq => ?_)
  obtain ⟨a10, rfl⟩ := hq
  refine k_putF (pc := 131) rfl hN (by decide) dX11_init_131 kf_X11_75 rfl rfl (fun hN => ?_)
  refine k_aload_n (pc := 134) dX11_init_134 rfl (x := h0) rfl ?_
  refine k_new (pc := 135) (C := RX3) (T := TX3) (N := 4) (ci := 3) tyX3 tyX3_ok rfl kc_X11_79 kI_X3 zini_X3 (by decide) (by decide) dX11_init_135 (fun q11 => ?_)
  refine k_dup (pc := 138) dX11_init_138 rfl ?_
  refine k_init (pc := 139) (As := []) (rest := [.ref q11, .ref h0]) dX11_init_139 mki_X3 km_X11_81 rfl (kc_X3 l E q11) (by decide) rfl (Nat.le_of_ble_eq_true rfl) rfl (by decide) (by decide) (fun w1 hq => ?_)
  obtain ⟨a11, rfl⟩ := hq
  refine k_putF (pc := 142) rfl hN (by decide) dX11_init_142 kf_X11_82 rfl rfl (fun hN => ?_)
  refine k_aload_n (pc := 145) dX11_init_145 rfl (x := h0) rfl ?_
  refine k_iconst (pc := 146) dX11_init_146 (v := 0) (by decide) ?_
  refine k_putN (pc := 147) hN (by decide) dX11_init_147 kf_X11_86 rfl rfl (fun hN => ?_)
  exact k_vret (pc := 150) rfl dX11_init_150 (by decide) (by decide) ⟨rfl, fun i => [q1, a1 0, q2, a2 0, a2 1, a2 2, a2 3, a2 4, a2 5, a2 6, q3, a3 0, a3 1, a3 2, a3 3, a3 4, a3 5, a3 6, q4, a4 0, a4 1, q5, a5 0, a5 1, a5 2, a5 3, a5 4, a5 5, q6, a6 0, a6 1, q7, a7 0, a7 1, a7 2, q8, a8 0, a8 1, a8 2, a8 3, a8 4, a8 5, a8 6, a8 7, a8 8, a8 9, q9, a9 0, a9 1, a9 2, a9 3, a9 4, a9 5, a9 6, a9 7, a9 8, q10, a10 0, a10 1, a10 2, a10 3, a10 4, a10 5, a10 6, q11, a11 0, a11 1, a11 2].getD i 0, rfl⟩
