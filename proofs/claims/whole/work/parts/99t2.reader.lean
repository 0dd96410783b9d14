theorem kc_X10_restart (l : Launch) (E : kE) (h0 : Nat) (fs : List Value) (hN : fs.length = 4) : Kc l E 0 0 0 mX10_restart [.ref h0] [(h0, .inr (10, fs))] (fun v w => v = none ∧ w = [(h0, .inr (10, (fs.set 0 (.int 0))))]) := by
  refine Kc.of (by decide) (Nat.le_of_ble_eq_true rfl) rfl (fun A => ?_)
  refine k_aload_n (pc := 0) dX10_restart_0 rfl (x := h0) rfl ?_
  refine k_iconst (pc := 1) dX10_restart_1 (v := 0) (by decide) ?_
  refine k_putN (pc := 2) hN (by decide) dX10_restart_2 kf_X10_9 rfl rfl (fun hN => ?_)
  exact k_vret (pc := 5) rfl dX10_restart_5 (by decide) (by decide) ⟨rfl, rfl⟩
theorem kc_X6_clear (l : Launch) (E : kE) (h0 : Nat) (fs : List Value) (hN : fs.length = 9) : Kc l E 0 0 0 mX6_clear [.ref h0] [(h0, .inr (6, fs))] (fun v w => v = none ∧ w = [(h0, .inr (6, ((fs.set 7 (.int 0)).set 8 (.int 0))))]) := by
  refine Kc.of (by decide) (Nat.le_of_ble_eq_true rfl) rfl (fun A => ?_)
  refine k_aload_n (pc := 0) dX6_clear_0 rfl (x := h0) rfl ?_
  refine k_iconst (pc := 1) dX6_clear_1 (v := 0) (by decide) ?_
  refine k_putN (pc := 2) hN (by decide) dX6_clear_2 kf_X6_33 rfl rfl (fun hN => ?_)
  refine k_aload_n (pc := 5) dX6_clear_5 rfl (x := h0) rfl ?_
  refine k_iconst (pc := 6) dX6_clear_6 (v := 0) (by decide) ?_
  refine k_putN (pc := 7) hN (by decide) dX6_clear_7 kf_X6_37 rfl rfl (fun hN => ?_)
  exact k_vret (pc := 10) rfl dX6_clear_10 (by decide) (by decide) ⟨rfl, rfl⟩
theorem kc_X5_prepare (l : Launch) (E : kE) (h0 r sc sk : Nat) (b : Nat → Nat) : Kc l E 1 0 0 mX5_prepare [.ref h0, .ref r] [(h0, .inr (5, [.ref sc, .ref sk, .int 0, .int 0, .int 0, .int 0, .int 0, .int 0, .int 0, .int (-1), .ref r])), (r, .inr (6, [.ref (b 0), .ref (b 1), .ref (b 2), .ref (b 3), .ref (b 4), .ref (b 5), .ref (b 6), .int 0, .int 0])), (sc, .inr (10, [.int 0, .int 0, .int 0, .int 0])), (sk, .inl (E.2 0, 20, .inl (fun _ => 0)))] (fun v w => v = none ∧ w = [(h0, .inr (5, [.ref sc, .ref sk, .int 0, .int 0, .int 0, .int 0, .int 0, .int 0, .int (-1), .int (-1), .ref r])), (r, .inr (6, [.ref (b 0), .ref (b 1), .ref (b 2), .ref (b 3), .ref (b 4), .ref (b 5), .ref (b 6), .int 0, .int 0])), (sc, .inr (10, [.int 0, .int 0, .int 0, .int 0])), (sk, .inl (E.2 0, 20, .inl (fun _ => 0)))]) := by
  refine Kc.of (by decide) (Nat.le_of_ble_eq_true rfl) rfl (fun A => ?_)
  have hN : ([.ref sc, .ref sk, .int 0, .int 0, .int 0, .int 0, .int 0, .int 0, .int 0, .int (-1), .ref r] : List Value).length = 11 := rfl
  refine k_aload_n (pc := 0) dX5_prepare_0 rfl (x := h0) rfl ?_
  refine k_aload_n (pc := 1) dX5_prepare_1 rfl (x := r) rfl ?_
  refine k_putN (pc := 2) hN (by decide) dX5_prepare_2 kf_X5_22 rfl rfl (fun hN => ?_)
  refine k_aload_n (pc := 5) dX5_prepare_5 rfl (x := h0) rfl ?_
  refine k_get (pc := 6) (q0 := 0) (v := .ref r) dX5_prepare_6 kg_X5_22 rfl rfl ?_
  refine k_perm (w' := [(h0, .inr (5, [.ref sc, .ref sk, .int 0, .int 0, .int 0, .int 0, .int 0, .int 0, .int 0, .int (-1), .ref r])), (sc, .inr (10, [.int 0, .int 0, .int 0, .int 0])), (sk, .inl (E.2 0, 20, .inl (fun _ => 0))), (r, .inr (6, [.ref (b 0), .ref (b 1), .ref (b 2), .ref (b 3), .ref (b 4), .ref (b 5), .ref (b 6), .int 0, .int 0]))]) [0, 2, 3, 1] (by decide) rfl ?_
  refine k_virt (pc := 9) (As := []) (rest := []) (q0 := 3) (wr := [(h0, .inr (5, [.ref sc, .ref sk, .int 0, .int 0, .int 0, .int 0, .int 0, .int 0, .int 0, .int (-1), .ref r])), (sc, .inr (10, [.int 0, .int 0, .int 0, .int 0])), (sk, .inl (E.2 0, 20, .inl (fun _ => 0)))]) dX5_prepare_9 mk_X6_clear ml_X5_60 (ci := 6) rfl rfl rfl (kc_X6_clear l E r _ rfl) rfl (by decide) rfl (Nat.le_of_ble_eq_true rfl) rfl (by decide) (by decide) (fun w1 hq => ?_)
  subst hq
  refine k_perm (w' := [(h0, .inr (5, [.ref sc, .ref sk, .int 0, .int 0, .int 0, .int 0, .int 0, .int 0, .int 0, .int (-1), .ref r])), (r, .inr (6, [.ref (b 0), .ref (b 1), .ref (b 2), .ref (b 3), .ref (b 4), .ref (b 5), .ref (b 6), .int 0, .int 0])), (sk, .inl (E.2 0, 20, .inl (fun _ => 0))), (sc, .inr (10, [.int 0, .int 0, .int 0, .int 0]))]) [0, 3, 2, 1] (by decide) rfl ?_
  have hN : ([.ref sc, .ref sk, .int 0, .int 0, .int 0, .int 0, .int 0, .int 0, .int 0, .int (-1), .ref r] : List Value).length = 11 := rfl
  refine k_aload_n (pc := 12) dX5_prepare_12 rfl (x := h0) rfl ?_
  refine k_get (pc := 13) (q0 := 0) (v := .ref sc) dX5_prepare_13 kg_X5_12 rfl rfl ?_
  refine k_virt (pc := 16) (As := []) (rest := []) (q0 := 3) (wr := [(h0, .inr (5, [.ref sc, .ref sk, .int 0, .int 0, .int 0, .int 0, .int 0, .int 0, .int 0, .int (-1), .ref r])), (r, .inr (6, [.ref (b 0), .ref (b 1), .ref (b 2), .ref (b 3), .ref (b 4), .ref (b 5), .ref (b 6), .int 0, .int 0])), (sk, .inl (E.2 0, 20, .inl (fun _ => 0)))]) dX5_prepare_16 mk_X10_restart ml_X5_65 (ci := 10) rfl rfl rfl (kc_X10_restart l E sc _ rfl) rfl (by decide) rfl (Nat.le_of_ble_eq_true rfl) rfl (by decide) (by decide) (fun w1 hq => ?_)
  subst hq
  refine k_perm (w' := [(h0, .inr (5, [.ref sc, .ref sk, .int 0, .int 0, .int 0, .int 0, .int 0, .int 0, .int 0, .int (-1), .ref r])), (r, .inr (6, [.ref (b 0), .ref (b 1), .ref (b 2), .ref (b 3), .ref (b 4), .ref (b 5), .ref (b 6), .int 0, .int 0])), (sc, .inr (10, [.int 0, .int 0, .int 0, .int 0])), (sk, .inl (E.2 0, 20, .inl (fun _ => 0)))]) [0, 1, 3, 2] (by decide) rfl ?_
  have hN : ([.ref sc, .ref sk, .int 0, .int 0, .int 0, .int 0, .int 0, .int 0, .int 0, .int (-1), .ref r] : List Value).length = 11 := rfl
  refine k_aload_n (pc := 19) dX5_prepare_19 rfl (x := h0) rfl ?_
  refine k_iconst (pc := 20) dX5_prepare_20 (v := 0) (by decide) ?_
  refine k_putN (pc := 21) hN (by decide) dX5_prepare_21 kf_X5_68 rfl rfl (fun hN => ?_)
  refine k_aload_n (pc := 24) dX5_prepare_24 rfl (x := h0) rfl ?_
  refine k_iconst (pc := 25) dX5_prepare_25 (v := 0) (by decide) ?_
  refine k_putN (pc := 26) hN (by decide) dX5_prepare_26 kf_X5_71 rfl rfl (fun hN => ?_)
  refine k_aload_n (pc := 29) dX5_prepare_29 rfl (x := h0) rfl ?_
  refine k_iconst (pc := 30) dX5_prepare_30 (v := 0) (by decide) ?_
  refine k_putN (pc := 31) hN (by decide) dX5_prepare_31 kf_X5_44 rfl rfl (fun hN => ?_)
  refine k_aload_n (pc := 34) dX5_prepare_34 rfl (x := h0) rfl ?_
  refine k_iconst (pc := 35) dX5_prepare_35 (v := 0) (by decide) ?_
  refine k_putN (pc := 36) hN (by decide) dX5_prepare_36 kf_X5_74 rfl rfl (fun hN => ?_)
  refine k_aload_n (pc := 39) dX5_prepare_39 rfl (x := h0) rfl ?_
  refine k_iconst (pc := 40) dX5_prepare_40 (v := 0) (by decide) ?_
  refine k_putN (pc := 41) hN (by decide) dX5_prepare_41 kf_X5_77 rfl rfl (fun hN => ?_)
  refine k_aload_n (pc := 44) dX5_prepare_44 rfl (x := h0) rfl ?_
  refine k_iconst (pc := 45) dX5_prepare_45 (v := 0) (by decide) ?_
  refine k_putN (pc := 46) hN (by decide) dX5_prepare_46 kf_X5_80 rfl rfl (fun hN => ?_)
  refine k_aload_n (pc := 49) dX5_prepare_49 rfl (x := h0) rfl ?_
  refine k_iconst (pc := 50) dX5_prepare_50 (v := (-1)) (by decide) ?_
  refine k_putN (pc := 51) hN (by decide) dX5_prepare_51 kf_X5_57 rfl rfl (fun hN => ?_)
  exact k_vret (pc := 54) rfl dX5_prepare_54 (by decide) (by decide) ⟨rfl, rfl⟩
def wX5 (cT : Nat → ClassId) (h0 r : Nat) (b a : Nat → Nat) : va_W := [(h0, .inr (5, [.ref (a 0), .ref (a 1), .int 0, .int 0, .int 0, .int 0, .int 0, .int 0, .int (-1), .int (-1), .ref r])), (r, .inr (6, [.ref (b 0), .ref (b 1), .ref (b 2), .ref (b 3), .ref (b 4), .ref (b 5), .ref (b 6), .int 0, .int 0])), (a 0, .inr (10, [.int 0, .int 0, .int 0, .int 0])), (a 1, .inl (cT 0, 20, .inl (fun _ => 0)))]
theorem kc_X5 (l : Launch) (E : kE) (h0 r1 : Nat) (b : Nat → Nat) : Kc l E 2 2 24 mX5_init [.ref h0, .ref r1] [(h0, .inr (5, kfs tyX5 11)), (r1, .inr (6, [.ref (b 0), .ref (b 1), .ref (b 2), .ref (b 3), .ref (b 4), .ref (b 5), .ref (b 6), .int 0, .int 0]))] (fun v w => v = none ∧ ∃ a : Nat → Nat, w = wX5 E.2 h0 r1 b a) := by
  refine Kc.of (by decide) (Nat.le_of_ble_eq_true rfl) rfl (fun A => ?_)
  have hN := kfs_len tyX5 11
  refine k_aload_n (pc := 0) dX5_init_0 rfl (x := h0) rfl ?_
  refine k_objInit (pc := 1) dX5_init_1 km_X5_3 ko_i ko_c (by decide) ?_
  refine k_aload_n (pc := 4) dX5_init_4 rfl (x := h0) rfl ?_
  refine k_new (pc := 5) (C := RX10) (T := TX10) (N := 4) (ci := 10) tyX10 tyX10_ok rfl kc_X5_9 kI_X10 zini_X10 (by decide) (by decide) dX5_init_5 (fun q1 => ?_)
  refine k_dup (pc := 8) dX5_init_8 rfl ?_
  refine k_init (pc := 9) (As := []) (rest := [.ref q1, .ref h0]) dX5_init_9 mki_X10 km_X5_11 rfl (kc_X10 l E q1) (by decide) rfl (Nat.le_of_ble_eq_true rfl) rfl (by decide) (by decide) (fun w1 hq => ?_)
  obtain ⟨a1, rfl⟩ := hq
  refine k_putF (pc := 12) rfl hN (by decide) dX5_init_12 kf_X5_12 rfl rfl (fun hN => ?_)
  refine k_aload_n (pc := 15) dX5_init_15 rfl (x := h0) rfl ?_
  refine k_bipush (pc := 16) dX5_init_16 (v := 20) (by decide) ?_
  refine k_newa (pc := 18) (t := 0) (ty := .int) (N' := 20) (a0 := (20, .inl (fun _ => 0))) rfl rfl (fun _ _ h => h) kA_int (fun _ => rfl) (by decide) (by decide) (by decide) (by decide) (by decide) dX5_init_18 (fun q2 => ?_)
  refine k_putF (pc := 20) rfl hN (by decide) dX5_init_20 kf_X5_18 rfl rfl (fun hN => ?_)
  refine k_aload_n (pc := 23) dX5_init_23 rfl (x := h0) rfl ?_
  refine k_aload_n (pc := 24) dX5_init_24 rfl (x := r1) rfl ?_
  refine k_putN (pc := 25) hN (by decide) dX5_init_25 kf_X5_22 rfl rfl (fun hN => ?_)
  refine k_aload_n (pc := 28) dX5_init_28 rfl (x := h0) rfl ?_
  refine k_iconst (pc := 29) dX5_init_29 (v := (-1)) (by decide) ?_
  refine k_putN (pc := 30) hN (by decide) dX5_init_30 kf_X5_26 rfl rfl (fun hN => ?_)
  refine k_aload_n (pc := 33) dX5_init_33 rfl (x := h0) rfl ?_
  refine k_aload_n (pc := 34) dX5_init_34 rfl (x := r1) rfl ?_
  refine k_virt (pc := 35) (As := [.ref r1]) (rest := []) (q0 := 0) (wr := []) dX5_init_35 mk_X5_prepare ml_X5_30 (ci := 5) rfl rfl rfl (kc_X5_prepare l E h0 r1 q1 q2 b) rfl (by decide) rfl (Nat.le_of_ble_eq_true rfl) rfl (by decide) (by decide) (fun w1 hq => ?_)
  subst hq
  exact k_vret (pc := 38) rfl dX5_init_38 (by decide) (by decide) ⟨rfl, fun i => [q1, q2].getD i 0, rfl⟩
