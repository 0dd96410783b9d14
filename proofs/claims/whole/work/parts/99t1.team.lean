def wX9 (cT : Nat → ClassId) (h0 : Nat) (f : Nat → Int32) (a : Nat → Nat) : va_W := [(h0, .inr (9, [.ref (a 0), .ref (a 1), .int 0, .ref (a 2), .ref (a 3), .int 0, .ref (a 4), .ref (a 5)])), ((a 0), .inl (cT 0, 8, .inl (fun _ => 0))), ((a 1), .inl (cT 0, 8, .inl (fun _ => 0))), ((a 2), .inl (cT 0, 8, .inl (fun _ => 0))), ((a 3), .inl (cT 0, 8, .inl (fun _ => 0))), ((a 4), .inl (cT 1, 200, .inr (.inl (fun _ => 0)))), ((a 5), .inl (cT 0, 160, .inl f))]
theorem kT_loop {l : Launch} {E : kE} {A : Nat → Prop} {d mc ms k n h0 : Nat} {a : Nat → Nat} (hk : k ≤ mc) (hn : n ≤ ms) : ∀ (m i : Nat), i + m = 160 → Kx l E A d mc ms mX9_init 66 [(0, .ref h0), (1, .int (nI i))] [] k n (wX9 E.2 h0 (fun j => if j < i then -1 else 0) a) (fun v w => v = none ∧ ∃ a : Nat → Nat, w = wX9 E.2 h0 (fun j => if j < 160 then -1 else 0) a)
  | 0, i, hi => by
    have h160 : (160 : Int32) = nI 160 := rfl
    refine k_iload_n (pc := 66) dX9_init_66 rfl (x := nI i) rfl ?_
    refine k_sipush (pc := 67) dX9_init_67 (v := 160) (by decide) ?_
    rw [h160]
    refine k_icmp_ge (pc := 70) dX9_init_70 (tgt := 86) (by decide) (fun _ => ?_) (fun h => absurd (nI_le (by omega) (by omega)) h)
    exact k_vret (pc := 86) rfl dX9_init_86 hk hn ⟨rfl, a, by rw [show i = 160 by omega]⟩
  | m + 1, i, hi => by
    have h160 : (160 : Int32) = nI 160 := rfl
    refine k_iload_n (pc := 66) dX9_init_66 rfl (x := nI i) rfl ?_
    refine k_sipush (pc := 67) dX9_init_67 (v := 160) (by decide) ?_
    rw [h160]
    refine k_icmp_ge (pc := 70) dX9_init_70 (tgt := 86) (by decide) (fun h => absurd h (nI_ge (by omega) (by omega))) (fun _ => ?_)
    refine k_aload_n (pc := 73) dX9_init_73 rfl (x := h0) rfl ?_
    refine k_get (pc := 74) (q0 := 0) (v := .ref (a 5)) dX9_init_74 kg_X9_35 rfl rfl ?_
    refine k_iload_n (pc := 77) dX9_init_77 rfl (x := nI i) rfl ?_
    refine k_iconst (pc := 78) dX9_init_78 (v := -1) (by decide) ?_
    refine k_iast (pc := 79) (q0 := 6) (N' := 160) (f := fun j => if j < i then -1 else 0) rfl (vp_in_nI (by omega) (by omega)) dX9_init_79 ?_
    rw [nI_clamp (by omega)]
    refine k_iinc (pc := 80) dX9_init_80 (x := nI i) rfl (by decide) (c0 := 1) (by decide) ?_
    rw [nI_1]
    refine k_goto (pc := 83) dX9_init_83 (tgt := 66) (by decide) ?_
    refine k_sub (lv' := [(0, .ref h0), (1, .int (nI (i + 1)))]) ⟨rfl, rfl, trivial⟩ ?_
    have e : upd (fun j => if j < i then (-1 : Int32) else 0) i (-1) = fun j => if j < i + 1 then (-1 : Int32) else 0 := by
      funext j
      show (if j = i then (-1 : Int32) else if j < i then (-1 : Int32) else 0) = if j < i + 1 then (-1 : Int32) else 0
      by_cases h1 : j = i
      · rw [if_pos h1, if_pos (by omega)]
      · rw [if_neg h1]
        by_cases h2 : j < i
        · rw [if_pos h2, if_pos (by omega)]
        · rw [if_neg h2, if_neg (by omega)]
    rw [e]
    exact k_eq rfl (kT_loop hk hn m (i + 1) (by omega))
theorem kc_X9 (l : Launch) (E : kE) (h0 : Nat) : Kc l E 1 6 392 mX9_init [.ref h0] [(h0, .inr (9, kfs tyX9 8))] (fun v w => v = none ∧ ∃ a : Nat → Nat, w = wX9 E.2 h0 (fun j => if j < 160 then -1 else 0) a) := by
  refine Kc.of (by decide) (Nat.le_of_ble_eq_true rfl) rfl (fun A => ?_)
  have hN := kfs_len tyX9 8
  refine k_aload_n (pc := 0) dX9_init_0 rfl (x := h0) rfl ?_
  refine k_objInit (pc := 1) dX9_init_1 km_X9_3 ko_i ko_c (by decide) ?_
  refine k_aload_n (pc := 4) dX9_init_4 rfl (x := h0) rfl ?_
  refine k_bipush (pc := 5) dX9_init_5 (v := 8) (by decide) ?_
  refine k_newa (pc := 7) (t := 0) (ty := .int) (N' := 8) (a0 := (8, .inl (fun _ => 0))) rfl rfl (fun _ _ h => h) kA_int (fun _ => rfl) (by decide) (by decide) (by decide) (by decide) (by decide) dX9_init_7 (fun q1 => ?_)
  refine k_putF (pc := 9) rfl hN (by decide) dX9_init_9 kf_X9_11 rfl rfl (fun hN => ?_)
  refine k_aload_n (pc := 12) dX9_init_12 rfl (x := h0) rfl ?_
  refine k_bipush (pc := 13) dX9_init_13 (v := 8) (by decide) ?_
  refine k_newa (pc := 15) (t := 0) (ty := .int) (N' := 8) (a0 := (8, .inl (fun _ => 0))) rfl rfl (fun _ _ h => h) kA_int (fun _ => rfl) (by decide) (by decide) (by decide) (by decide) (by decide) dX9_init_15 (fun q2 => ?_)
  refine k_putF (pc := 17) rfl hN (by decide) dX9_init_17 kf_X9_15 rfl rfl (fun hN => ?_)
  refine k_aload_n (pc := 20) dX9_init_20 rfl (x := h0) rfl ?_
  refine k_iconst (pc := 21) dX9_init_21 (v := 0) (by decide) ?_
  refine k_putN (pc := 22) hN (by decide) dX9_init_22 kf_X9_18 rfl rfl (fun hN => ?_)
  refine k_aload_n (pc := 25) dX9_init_25 rfl (x := h0) rfl ?_
  refine k_bipush (pc := 26) dX9_init_26 (v := 8) (by decide) ?_
  refine k_newa (pc := 28) (t := 0) (ty := .int) (N' := 8) (a0 := (8, .inl (fun _ => 0))) rfl rfl (fun _ _ h => h) kA_int (fun _ => rfl) (by decide) (by decide) (by decide) (by decide) (by decide) dX9_init_28 (fun q3 => ?_)
  refine k_putF (pc := 30) rfl hN (by decide) dX9_init_30 kf_X9_22 rfl rfl (fun hN => ?_)
  refine k_aload_n (pc := 33) dX9_init_33 rfl (x := h0) rfl ?_
  refine k_bipush (pc := 34) dX9_init_34 (v := 8) (by decide) ?_
  refine k_newa (pc := 36) (t := 0) (ty := .int) (N' := 8) (a0 := (8, .inl (fun _ => 0))) rfl rfl (fun _ _ h => h) kA_int (fun _ => rfl) (by decide) (by decide) (by decide) (by decide) (by decide) dX9_init_36 (fun q4 => ?_)
  refine k_putF (pc := 38) rfl hN (by decide) dX9_init_38 kf_X9_25 rfl rfl (fun hN => ?_)
  refine k_aload_n (pc := 41) dX9_init_41 rfl (x := h0) rfl ?_
  refine k_iconst (pc := 42) dX9_init_42 (v := 0) (by decide) ?_
  refine k_putN (pc := 43) hN (by decide) dX9_init_43 kf_X9_28 rfl rfl (fun hN => ?_)
  refine k_aload_n (pc := 46) dX9_init_46 rfl (x := h0) rfl ?_
  refine k_sipush (pc := 47) dX9_init_47 (v := 200) (by decide) ?_
  refine k_newa (pc := 50) (t := 1) (ty := .long) (N' := 200) (a0 := (200, .inr (.inl (fun _ => 0)))) rfl rfl (fun _ _ h => h) kA_long (fun _ => rfl) (by decide) (by decide) (by decide) (by decide) (by decide) dX9_init_50 (fun q5 => ?_)
  refine k_putF (pc := 52) rfl hN (by decide) dX9_init_52 kf_X9_31 rfl rfl (fun hN => ?_)
  refine k_aload_n (pc := 55) dX9_init_55 rfl (x := h0) rfl ?_
  refine k_sipush (pc := 56) dX9_init_56 (v := 160) (by decide) ?_
  refine k_newa (pc := 59) (t := 0) (ty := .int) (N' := 160) (a0 := (160, .inl (fun _ => 0))) rfl rfl (fun _ _ h => h) kA_int (fun _ => rfl) (by decide) (by decide) (by decide) (by decide) (by decide) dX9_init_59 (fun q6 => ?_)
  refine k_putF (pc := 61) rfl hN (by decide) dX9_init_61 kf_X9_35 rfl rfl (fun hN => ?_)
  refine k_iconst (pc := 64) dX9_init_64 (v := 0) (by decide) ?_
  refine k_istore_n (pc := 65) dX9_init_65 rfl (by decide) ?_
  refine k_sub (lv' := [(0, .ref h0), (1, .int (nI 0))]) ⟨rfl, rfl, trivial⟩ ?_
  refine k_eq (w' := wX9 E.2 h0 (fun j => if j < 0 then -1 else 0) (fun i => [q1, q2, q3, q4, q5, q6].getD i 0)) ?_ (kT_loop (by decide) (by decide) 160 0 rfl)
  rw [show (fun j : Nat => if j < 0 then (-1 : Int32) else 0) = fun _ => 0 from funext fun j => if_neg (Nat.not_lt_zero j)]
  rfl
