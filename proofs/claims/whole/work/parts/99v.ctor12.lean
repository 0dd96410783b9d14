/-! CONSTRUCTOR of FriendLineModel -/
def kmore (x : Int64) (c : Int32) : Int64 := if c = 0 then x else 27 * x + (c - 97 + 1).toInt64
theorem kc_more (l : Launch) (E : kE) (x : Int64) (c : Int32) : Kc l E 0 0 0 mX12_more [.long x, .int c] [] (fun v w => v = some (.long (kmore x c)) ∧ w = []) := by
  refine Kc.of (by decide) (Nat.le_of_ble_eq_true rfl) rfl (fun A => ?_)
  refine k_iload_n (pc := 0) dX12_more_0 rfl (x := c) rfl ?_
  refine k_if_ne (pc := 1) dX12_more_1 (tgt := 8) (by decide) (fun h => ?_) (fun h => ?_)
  · refine k_ldc2 (pc := 8) cw_X12_226 dX12_more_8 ?_
    refine k_lload_n (pc := 11) dX12_more_11 rfl (x := x) rfl ?_
    refine k_lmul (pc := 12) dX12_more_12 ?_
    refine k_iload_n (pc := 13) dX12_more_13 rfl (x := c) rfl ?_
    refine k_bipush (pc := 14) dX12_more_14 (v := 97) (by decide) ?_
    refine k_isub (pc := 16) dX12_more_16 ?_
    refine k_iconst (pc := 17) dX12_more_17 (v := 1) (by decide) ?_
    refine k_iadd (pc := 18) dX12_more_18 ?_
    refine k_i2l (pc := 19) dX12_more_19 ?_
    refine k_ladd (pc := 20) dX12_more_20 ?_
    exact k_lret (pc := 21) rfl dX12_more_21 (by decide) (by decide) ⟨by rw [kmore, if_neg h], rfl⟩
  · refine k_lload_n (pc := 4) dX12_more_4 rfl (x := x) rfl ?_
    refine k_goto (pc := 5) dX12_more_5 (tgt := 21) (by decide) ?_
    exact k_lret (pc := 21) rfl dX12_more_21 (by decide) (by decide) ⟨by rw [kmore, if_pos h], rfl⟩
def kword (c0 c1 c2 c3 c4 c5 c6 : Int32) : Int64 := kmore (kmore (kmore (kmore (kmore (kmore (kmore 0 c0) c1) c2) c3) c4) c5) c6
theorem kc_word (l : Launch) (E : kE) (c0 c1 c2 c3 c4 c5 c6 : Int32) : Kc l E 1 0 0 mX12_word [.int c0, .int c1, .int c2, .int c3, .int c4, .int c5, .int c6] [] (fun v w => v = some (.long (kword c0 c1 c2 c3 c4 c5 c6)) ∧ w = []) := by
  refine Kc.of (by decide) (Nat.le_of_ble_eq_true rfl) rfl (fun A => ?_)
  refine k_lconst (pc := 0) dX12_word_0 (v := 0) (by decide) ?_
  refine k_iload_n (pc := 1) dX12_word_1 rfl (x := c0) rfl ?_
  refine k_stat (pc := 2) (As := [.long 0, .int c0]) (rest := []) dX12_word_2 mk_X12_more ml_X12_228 (kc_more l E _ _) (by decide) rfl (Nat.le_of_ble_eq_true rfl) rfl (by decide) (by decide) ?_
  refine k_iload_n (pc := 5) dX12_word_5 rfl (x := c1) rfl ?_
  refine k_stat (pc := 6) (As := [.long (kmore 0 c0), .int c1]) (rest := []) dX12_word_6 mk_X12_more ml_X12_228 (kc_more l E _ _) (by decide) rfl (Nat.le_of_ble_eq_true rfl) rfl (by decide) (by decide) ?_
  refine k_iload_n (pc := 9) dX12_word_9 rfl (x := c2) rfl ?_
  refine k_stat (pc := 10) (As := [.long (kmore (kmore 0 c0) c1), .int c2]) (rest := []) dX12_word_10 mk_X12_more ml_X12_228 (kc_more l E _ _) (by decide) rfl (Nat.le_of_ble_eq_true rfl) rfl (by decide) (by decide) ?_
  refine k_iload_n (pc := 13) dX12_word_13 rfl (x := c3) rfl ?_
  refine k_stat (pc := 14) (As := [.long (kmore (kmore (kmore 0 c0) c1) c2), .int c3]) (rest := []) dX12_word_14 mk_X12_more ml_X12_228 (kc_more l E _ _) (by decide) rfl (Nat.le_of_ble_eq_true rfl) rfl (by decide) (by decide) ?_
  refine k_iload (pc := 17) dX12_word_17 (x := c4) rfl ?_
  refine k_stat (pc := 19) (As := [.long (kmore (kmore (kmore (kmore 0 c0) c1) c2) c3), .int c4]) (rest := []) dX12_word_19 mk_X12_more ml_X12_228 (kc_more l E _ _) (by decide) rfl (Nat.le_of_ble_eq_true rfl) rfl (by decide) (by decide) ?_
  refine k_iload (pc := 22) dX12_word_22 (x := c5) rfl ?_
  refine k_stat (pc := 24) (As := [.long (kmore (kmore (kmore (kmore (kmore 0 c0) c1) c2) c3) c4), .int c5]) (rest := []) dX12_word_24 mk_X12_more ml_X12_228 (kc_more l E _ _) (by decide) rfl (Nat.le_of_ble_eq_true rfl) rfl (by decide) (by decide) ?_
  refine k_iload (pc := 27) dX12_word_27 (x := c6) rfl ?_
  refine k_stat (pc := 29) (As := [.long (kmore (kmore (kmore (kmore (kmore (kmore 0 c0) c1) c2) c3) c4) c5), .int c6]) (rest := []) dX12_word_29 mk_X12_more ml_X12_228 (kc_more l E _ _) (by decide) rfl (Nat.le_of_ble_eq_true rfl) rfl (by decide) (by decide) ?_
  exact k_lret (pc := 32) (v := (kmore (kmore (kmore (kmore (kmore (kmore (kmore 0 c0) c1) c2) c3) c4) c5) c6)) rfl dX12_word_32 (by decide) (by decide) ⟨rfl, rfl⟩
def wX12 (cT : Nat → ClassId) (h0 : Nat) (f : Nat → Int64) (a : Nat → Nat) : va_W := [(h0, .inr (12, [.int 0, .ref (a 0), .int 0, .ref (a 1), .int 0, .ref (a 2), .ref (a 3), .ref (a 4), .ref (a 5), .ref (a 6), .int 0, .int 0, .int 0, .int 0, .int 0, .int 0, .int 0, .int (-1), .int 0, .int 0, .ref (a 7), .ref (a 8), .ref (a 9), .ref (a 10), .ref (a 11), .ref (a 12), .ref (a 13), .ref (a 14), .ref (a 15), .ref (a 16), .ref (a 17), .ref (a 18), .int 0, .ref (a 19), .ref (a 20), .ref (a 21), .int 0, .int 0, .ref (a 22), .int 0, .ref (a 23), .ref (a 24), .ref (a 25), .ref (a 26), .int 0, .ref (a 27), .ref (a 28), .ref (a 29), .ref (a 30), .ref (a 31), .ref (a 32), .ref (a 33), .ref (a 34), .ref (a 35), .ref (a 36), .ref (a 37), .ref (a 38), .ref (a 39), .ref (a 40), .ref (a 41), .int 0, .ref (a 42), .ref (a 43), .ref (a 44), .ref (a 45), .ref (a 46), .ref (a 47), .ref (a 48), .ref (a 49), .ref (a 50), .ref (a 51), .int 0, .ref (a 52), .ref (a 53), .ref (a 54), .ref (a 55), .ref (a 56), .ref (a 57), .ref (a 58), .ref (a 59), .ref (a 60), .int 0, .ref (a 61), .ref (a 62), .ref (a 63)])), ((a 0), .inl (cT 2, 2000, .inl (fun _ => 0))), ((a 1), .inl (cT 2, 2000, .inl (fun _ => 0))), ((a 2), .inl (cT 0, 403, .inl (fun _ => 0))), ((a 3), .inl (cT 0, 403, .inl (fun _ => 0))), ((a 4), .inl (cT 0, 403, .inl (fun _ => 0))), ((a 5), .inl (cT 1, 403, .inr (.inl (fun _ => 0)))), ((a 6), .inl (cT 1, 12, .inr (.inl f))), ((a 7), .inl (cT 0, 2, .inl (fun _ => 0))), ((a 8), .inl (cT 0, 40, .inl (fun _ => 0))), ((a 9), .inl (cT 0, 40, .inl (fun _ => 0))), ((a 10), .inl (cT 0, 40, .inl (fun _ => 0))), ((a 11), .inl (cT 0, 40, .inl (fun _ => 0))), ((a 12), .inl (cT 0, 40, .inl (fun _ => 0))), ((a 13), .inl (cT 0, 40, .inl (fun _ => 0))), ((a 14), .inl (cT 0, 2, .inl (fun _ => 0))), ((a 15), .inl (cT 0, 400, .inl (fun _ => 0))), ((a 16), .inl (cT 0, 400, .inl (fun _ => 0))), ((a 17), .inl (cT 0, 400, .inl (fun _ => 0))), ((a 18), .inl (cT 0, 400, .inl (fun _ => 0))), ((a 19), .inl (cT 0, 1000, .inl (fun _ => 0))), ((a 20), .inl (cT 0, 1000, .inl (fun _ => 0))), ((a 21), .inl (cT 0, 48, .inl (fun _ => 0))), ((a 22), .inl (cT 0, 8, .inl (fun _ => 0))), ((a 23), .inl (cT 0, 8, .inl (fun _ => 0))), ((a 24), .inl (cT 0, 8, .inl (fun _ => 0))), ((a 25), .inl (cT 3, 12800, .inl (fun _ => 0))), ((a 26), .inl (cT 0, 160, .inl (fun _ => 0))), ((a 27), .inl (cT 3, 1600, .inl (fun _ => 0))), ((a 28), .inl (cT 0, 8, .inl (fun _ => 0))), ((a 29), .inl (cT 3, 200, .inl (fun _ => 0))), ((a 30), .inl (cT 3, 200, .inl (fun _ => 0))), ((a 31), .inl (cT 3, 200, .inl (fun _ => 0))), ((a 32), .inl (cT 0, 200, .inl (fun _ => 0))), ((a 33), .inl (cT 0, 1000, .inl (fun _ => 0))), ((a 34), .inl (cT 0, 1000, .inl (fun _ => 0))), ((a 35), .inl (cT 0, 1000, .inl (fun _ => 0))), ((a 36), .inl (cT 0, 1600, .inl (fun _ => 0))), ((a 37), .inl (cT 0, 200, .inl (fun _ => 0))), ((a 38), .inl (cT 0, 5, .inl (fun _ => 0))), ((a 39), .inl (cT 0, 100, .inl (fun _ => 0))), ((a 40), .inl (cT 0, 6, .inl (fun _ => 0))), ((a 41), .inl (cT 0, 5, .inl (fun _ => 0))), ((a 42), .inl (cT 0, 400, .inl (fun _ => 0))), ((a 43), .inl (cT 0, 400, .inl (fun _ => 0))), ((a 44), .inl (cT 0, 400, .inl (fun _ => 0))), ((a 45), .inl (cT 0, 400, .inl (fun _ => 0))), ((a 46), .inl (cT 0, 400, .inl (fun _ => 0))), ((a 47), .inl (cT 0, 400, .inl (fun _ => 0))), ((a 48), .inl (cT 0, 400, .inl (fun _ => 0))), ((a 49), .inl (cT 0, 400, .inl (fun _ => 0))), ((a 50), .inl (cT 0, 400, .inl (fun _ => 0))), ((a 51), .inl (cT 0, 1600, .inl (fun _ => 0))), ((a 52), .inl (cT 0, 6, .inl (fun _ => 0))), ((a 53), .inl (cT 0, 500, .inl (fun _ => 0))), ((a 54), .inl (cT 0, 400, .inl (fun _ => 0))), ((a 55), .inl (cT 0, 400, .inl (fun _ => 0))), ((a 56), .inl (cT 3, 400, .inl (fun _ => 0))), ((a 57), .inl (cT 0, 8, .inl (fun _ => 0))), ((a 58), .inl (cT 0, 8, .inl (fun _ => 0))), ((a 59), .inl (cT 0, 8, .inl (fun _ => 0))), ((a 60), .inl (cT 3, 400, .inl (fun _ => 0))), ((a 61), .inl (cT 0, 60, .inl (fun _ => 0))), ((a 62), .inl (cT 0, 60, .inl (fun _ => 0))), ((a 63), .inl (cT 0, 60, .inl (fun _ => 0)))]
def zkfn : Nat → Int64 := fun j => if j < 12 then lN (zkey j) else 0
theorem k_key {l : Launch} {E : kE} {A : Nat → Prop} {d mc ms k n h0 pc : Nat} {a : Nat → Nat} {y : zY} {lv : List (Nat × Value)} {st : List Value} {Q : Option Value → va_W → Prop} {f : Nat → Int64} {i : Int32} {x : Int64} (j : Nat) (hj : i.toNatClampNeg = j) (hin : vp_in i 12) (hd : decode y.2.1 pc = .ok (.lastore, 1)) (kk : Kx l E A d mc ms y (pc + 1) lv st k n (wX12 E.2 h0 (vp_updL f j x) a) Q) : Kx l E A d mc ms y pc lv (.long x :: .int i :: .ref (a 6) :: st) k n (wX12 E.2 h0 f a) Q := by
  subst hj
  exact k_last (q0 := 7) (N' := 12) (f := f) rfl hin hd (k_eq rfl kk)
theorem kc_keys {l : Launch} {E : kE} {A : Nat → Prop} {mc ms k n h0 : Nat} {a : Nat → Nat} (hk : k ≤ mc) (hn : n ≤ ms) : Kx l E A 2 mc ms mX12_init 556 [(0, .ref h0)] [] k n (wX12 E.2 h0 (fun _ => 0) a) (fun v w => v = none ∧ ∃ a : Nat → Nat, w = wX12 E.2 h0 zkfn a) := by
  refine k_aload_n (pc := 556) dX12_init_556 rfl (x := h0) rfl ?_
  refine k_get (pc := 557) (q0 := 0) (v := .ref (a 6)) dX12_init_557 kg_X12_34 rfl rfl ?_
  refine k_iconst (pc := 560) dX12_init_560 (v := 0) (by decide) ?_
  refine k_bipush (pc := 561) dX12_init_561 (v := 102) (by decide) ?_
  refine k_bipush (pc := 563) dX12_init_563 (v := 105) (by decide) ?_
  refine k_bipush (pc := 565) dX12_init_565 (v := 114) (by decide) ?_
  refine k_bipush (pc := 567) dX12_init_567 (v := 115) (by decide) ?_
  refine k_bipush (pc := 569) dX12_init_569 (v := 116) (by decide) ?_
  refine k_iconst (pc := 571) dX12_init_571 (v := 0) (by decide) ?_
  refine k_iconst (pc := 572) dX12_init_572 (v := 0) (by decide) ?_
  refine k_stat (pc := 573) (As := [.int 102, .int 105, .int 114, .int 115, .int 116, .int 0, .int 0]) (rest := [.int 0, .ref (a 6)]) dX12_init_573 mk_X12_word km_X12_212 (kc_word l E 102 105 114 115 116 0 0) (by decide) rfl (Nat.le_of_ble_eq_true rfl) rfl hk hn ?_
  refine k_key (pc := 576) (x := kword 102 105 114 115 116 0 0) 0 (by decide) (zin_in (by decide)) dX12_init_576 ?_
  refine k_aload_n (pc := 577) dX12_init_577 rfl (x := h0) rfl ?_
  refine k_get (pc := 578) (q0 := 0) (v := .ref (a 6)) dX12_init_578 kg_X12_34 rfl rfl ?_
  refine k_iconst (pc := 581) dX12_init_581 (v := 1) (by decide) ?_
  refine k_bipush (pc := 582) dX12_init_582 (v := 105) (by decide) ?_
  refine k_bipush (pc := 584) dX12_init_584 (v := 102) (by decide) ?_
  refine k_iconst (pc := 586) dX12_init_586 (v := 0) (by decide) ?_
  refine k_iconst (pc := 587) dX12_init_587 (v := 0) (by decide) ?_
  refine k_iconst (pc := 588) dX12_init_588 (v := 0) (by decide) ?_
  refine k_iconst (pc := 589) dX12_init_589 (v := 0) (by decide) ?_
  refine k_iconst (pc := 590) dX12_init_590 (v := 0) (by decide) ?_
  refine k_stat (pc := 591) (As := [.int 105, .int 102, .int 0, .int 0, .int 0, .int 0, .int 0]) (rest := [.int 1, .ref (a 6)]) dX12_init_591 mk_X12_word km_X12_212 (kc_word l E 105 102 0 0 0 0 0) (by decide) rfl (Nat.le_of_ble_eq_true rfl) rfl hk hn ?_
  refine k_key (pc := 594) (x := kword 105 102 0 0 0 0 0) 1 (by decide) (zin_in (by decide)) dX12_init_594 ?_
  refine k_aload_n (pc := 595) dX12_init_595 rfl (x := h0) rfl ?_
  refine k_get (pc := 596) (q0 := 0) (v := .ref (a 6)) dX12_init_596 kg_X12_34 rfl rfl ?_
  refine k_iconst (pc := 599) dX12_init_599 (v := 2) (by decide) ?_
  refine k_bipush (pc := 600) dX12_init_600 (v := 115) (by decide) ?_
  refine k_bipush (pc := 602) dX12_init_602 (v := 116) (by decide) ?_
  refine k_bipush (pc := 604) dX12_init_604 (v := 101) (by decide) ?_
  refine k_bipush (pc := 606) dX12_init_606 (v := 112) (by decide) ?_
  refine k_iconst (pc := 608) dX12_init_608 (v := 0) (by decide) ?_
  refine k_iconst (pc := 609) dX12_init_609 (v := 0) (by decide) ?_
  refine k_iconst (pc := 610) dX12_init_610 (v := 0) (by decide) ?_
  refine k_stat (pc := 611) (As := [.int 115, .int 116, .int 101, .int 112, .int 0, .int 0, .int 0]) (rest := [.int 2, .ref (a 6)]) dX12_init_611 mk_X12_word km_X12_212 (kc_word l E 115 116 101 112 0 0 0) (by decide) rfl (Nat.le_of_ble_eq_true rfl) rfl hk hn ?_
  refine k_key (pc := 614) (x := kword 115 116 101 112 0 0 0) 2 (by decide) (zin_in (by decide)) dX12_init_614 ?_
  refine k_aload_n (pc := 615) dX12_init_615 rfl (x := h0) rfl ?_
  refine k_get (pc := 616) (q0 := 0) (v := .ref (a 6)) dX12_init_616 kg_X12_34 rfl rfl ?_
  refine k_iconst (pc := 619) dX12_init_619 (v := 3) (by decide) ?_
  refine k_bipush (pc := 620) dX12_init_620 (v := 100) (by decide) ?_
  refine k_bipush (pc := 622) dX12_init_622 (v := 114) (by decide) ?_
  refine k_bipush (pc := 624) dX12_init_624 (v := 111) (by decide) ?_
  refine k_bipush (pc := 626) dX12_init_626 (v := 112) (by decide) ?_
  refine k_iconst (pc := 628) dX12_init_628 (v := 0) (by decide) ?_
  refine k_iconst (pc := 629) dX12_init_629 (v := 0) (by decide) ?_
  refine k_iconst (pc := 630) dX12_init_630 (v := 0) (by decide) ?_
  refine k_stat (pc := 631) (As := [.int 100, .int 114, .int 111, .int 112, .int 0, .int 0, .int 0]) (rest := [.int 3, .ref (a 6)]) dX12_init_631 mk_X12_word km_X12_212 (kc_word l E 100 114 111 112 0 0 0) (by decide) rfl (Nat.le_of_ble_eq_true rfl) rfl hk hn ?_
  refine k_key (pc := 634) (x := kword 100 114 111 112 0 0 0) 3 (by decide) (zin_in (by decide)) dX12_init_634 ?_
  refine k_aload_n (pc := 635) dX12_init_635 rfl (x := h0) rfl ?_
  refine k_get (pc := 636) (q0 := 0) (v := .ref (a 6)) dX12_init_636 kg_X12_34 rfl rfl ?_
  refine k_iconst (pc := 639) dX12_init_639 (v := 4) (by decide) ?_
  refine k_bipush (pc := 640) dX12_init_640 (v := 114) (by decide) ?_
  refine k_bipush (pc := 642) dX12_init_642 (v := 101) (by decide) ?_
  refine k_bipush (pc := 644) dX12_init_644 (v := 115) (by decide) ?_
  refine k_bipush (pc := 646) dX12_init_646 (v := 116) (by decide) ?_
  refine k_iconst (pc := 648) dX12_init_648 (v := 0) (by decide) ?_
  refine k_iconst (pc := 649) dX12_init_649 (v := 0) (by decide) ?_
  refine k_iconst (pc := 650) dX12_init_650 (v := 0) (by decide) ?_
  refine k_stat (pc := 651) (As := [.int 114, .int 101, .int 115, .int 116, .int 0, .int 0, .int 0]) (rest := [.int 4, .ref (a 6)]) dX12_init_651 mk_X12_word km_X12_212 (kc_word l E 114 101 115 116 0 0 0) (by decide) rfl (Nat.le_of_ble_eq_true rfl) rfl hk hn ?_
  refine k_key (pc := 654) (x := kword 114 101 115 116 0 0 0) 4 (by decide) (zin_in (by decide)) dX12_init_654 ?_
  refine k_aload_n (pc := 655) dX12_init_655 rfl (x := h0) rfl ?_
  refine k_get (pc := 656) (q0 := 0) (v := .ref (a 6)) dX12_init_656 kg_X12_34 rfl rfl ?_
  refine k_iconst (pc := 659) dX12_init_659 (v := 5) (by decide) ?_
  refine k_bipush (pc := 660) dX12_init_660 (v := 97) (by decide) ?_
  refine k_bipush (pc := 662) dX12_init_662 (v := 110) (by decide) ?_
  refine k_bipush (pc := 664) dX12_init_664 (v := 100) (by decide) ?_
  refine k_iconst (pc := 666) dX12_init_666 (v := 0) (by decide) ?_
  refine k_iconst (pc := 667) dX12_init_667 (v := 0) (by decide) ?_
  refine k_iconst (pc := 668) dX12_init_668 (v := 0) (by decide) ?_
  refine k_iconst (pc := 669) dX12_init_669 (v := 0) (by decide) ?_
  refine k_stat (pc := 670) (As := [.int 97, .int 110, .int 100, .int 0, .int 0, .int 0, .int 0]) (rest := [.int 5, .ref (a 6)]) dX12_init_670 mk_X12_word km_X12_212 (kc_word l E 97 110 100 0 0 0 0) (by decide) rfl (Nat.le_of_ble_eq_true rfl) rfl hk hn ?_
  refine k_key (pc := 673) (x := kword 97 110 100 0 0 0 0) 5 (by decide) (zin_in (by decide)) dX12_init_673 ?_
  refine k_aload_n (pc := 674) dX12_init_674 rfl (x := h0) rfl ?_
  refine k_get (pc := 675) (q0 := 0) (v := .ref (a 6)) dX12_init_675 kg_X12_34 rfl rfl ?_
  refine k_bipush (pc := 678) dX12_init_678 (v := 6) (by decide) ?_
  refine k_bipush (pc := 680) dX12_init_680 (v := 110) (by decide) ?_
  refine k_bipush (pc := 682) dX12_init_682 (v := 101) (by decide) ?_
  refine k_bipush (pc := 684) dX12_init_684 (v := 101) (by decide) ?_
  refine k_bipush (pc := 686) dX12_init_686 (v := 100) (by decide) ?_
  refine k_iconst (pc := 688) dX12_init_688 (v := 0) (by decide) ?_
  refine k_iconst (pc := 689) dX12_init_689 (v := 0) (by decide) ?_
  refine k_iconst (pc := 690) dX12_init_690 (v := 0) (by decide) ?_
  refine k_stat (pc := 691) (As := [.int 110, .int 101, .int 101, .int 100, .int 0, .int 0, .int 0]) (rest := [.int 6, .ref (a 6)]) dX12_init_691 mk_X12_word km_X12_212 (kc_word l E 110 101 101 100 0 0 0) (by decide) rfl (Nat.le_of_ble_eq_true rfl) rfl hk hn ?_
  refine k_key (pc := 694) (x := kword 110 101 101 100 0 0 0) 6 (by decide) (zin_in (by decide)) dX12_init_694 ?_
  refine k_aload_n (pc := 695) dX12_init_695 rfl (x := h0) rfl ?_
  refine k_get (pc := 696) (q0 := 0) (v := .ref (a 6)) dX12_init_696 kg_X12_34 rfl rfl ?_
  refine k_bipush (pc := 699) dX12_init_699 (v := 7) (by decide) ?_
  refine k_bipush (pc := 701) dX12_init_701 (v := 116) (by decide) ?_
  refine k_bipush (pc := 703) dX12_init_703 (v := 111) (by decide) ?_
  refine k_bipush (pc := 705) dX12_init_705 (v := 112) (by decide) ?_
  refine k_bipush (pc := 707) dX12_init_707 (v := 105) (by decide) ?_
  refine k_bipush (pc := 709) dX12_init_709 (v := 99) (by decide) ?_
  refine k_iconst (pc := 711) dX12_init_711 (v := 0) (by decide) ?_
  refine k_iconst (pc := 712) dX12_init_712 (v := 0) (by decide) ?_
  refine k_stat (pc := 713) (As := [.int 116, .int 111, .int 112, .int 105, .int 99, .int 0, .int 0]) (rest := [.int 7, .ref (a 6)]) dX12_init_713 mk_X12_word km_X12_212 (kc_word l E 116 111 112 105 99 0 0) (by decide) rfl (Nat.le_of_ble_eq_true rfl) rfl hk hn ?_
  refine k_key (pc := 716) (x := kword 116 111 112 105 99 0 0) 7 (by decide) (zin_in (by decide)) dX12_init_716 ?_
  refine k_aload_n (pc := 717) dX12_init_717 rfl (x := h0) rfl ?_
  refine k_get (pc := 718) (q0 := 0) (v := .ref (a 6)) dX12_init_718 kg_X12_34 rfl rfl ?_
  refine k_bipush (pc := 721) dX12_init_721 (v := 8) (by decide) ?_
  refine k_bipush (pc := 723) dX12_init_723 (v := 119) (by decide) ?_
  refine k_bipush (pc := 725) dX12_init_725 (v := 97) (by decide) ?_
  refine k_bipush (pc := 727) dX12_init_727 (v := 105) (by decide) ?_
  refine k_bipush (pc := 729) dX12_init_729 (v := 116) (by decide) ?_
  refine k_bipush (pc := 731) dX12_init_731 (v := 101) (by decide) ?_
  refine k_bipush (pc := 733) dX12_init_733 (v := 100) (by decide) ?_
  refine k_iconst (pc := 735) dX12_init_735 (v := 0) (by decide) ?_
  refine k_stat (pc := 736) (As := [.int 119, .int 97, .int 105, .int 116, .int 101, .int 100, .int 0]) (rest := [.int 8, .ref (a 6)]) dX12_init_736 mk_X12_word km_X12_212 (kc_word l E 119 97 105 116 101 100 0) (by decide) rfl (Nat.le_of_ble_eq_true rfl) rfl hk hn ?_
  refine k_key (pc := 739) (x := kword 119 97 105 116 101 100 0) 8 (by decide) (zin_in (by decide)) dX12_init_739 ?_
  refine k_aload_n (pc := 740) dX12_init_740 rfl (x := h0) rfl ?_
  refine k_get (pc := 741) (q0 := 0) (v := .ref (a 6)) dX12_init_741 kg_X12_34 rfl rfl ?_
  refine k_bipush (pc := 744) dX12_init_744 (v := 9) (by decide) ?_
  refine k_bipush (pc := 746) dX12_init_746 (v := 104) (by decide) ?_
  refine k_bipush (pc := 748) dX12_init_748 (v := 111) (by decide) ?_
  refine k_bipush (pc := 750) dX12_init_750 (v := 117) (by decide) ?_
  refine k_bipush (pc := 752) dX12_init_752 (v := 114) (by decide) ?_
  refine k_iconst (pc := 754) dX12_init_754 (v := 0) (by decide) ?_
  refine k_iconst (pc := 755) dX12_init_755 (v := 0) (by decide) ?_
  refine k_iconst (pc := 756) dX12_init_756 (v := 0) (by decide) ?_
  refine k_stat (pc := 757) (As := [.int 104, .int 111, .int 117, .int 114, .int 0, .int 0, .int 0]) (rest := [.int 9, .ref (a 6)]) dX12_init_757 mk_X12_word km_X12_212 (kc_word l E 104 111 117 114 0 0 0) (by decide) rfl (Nat.le_of_ble_eq_true rfl) rfl hk hn ?_
  refine k_key (pc := 760) (x := kword 104 111 117 114 0 0 0) 9 (by decide) (zin_in (by decide)) dX12_init_760 ?_
  refine k_aload_n (pc := 761) dX12_init_761 rfl (x := h0) rfl ?_
  refine k_get (pc := 762) (q0 := 0) (v := .ref (a 6)) dX12_init_762 kg_X12_34 rfl rfl ?_
  refine k_bipush (pc := 765) dX12_init_765 (v := 10) (by decide) ?_
  refine k_bipush (pc := 767) dX12_init_767 (v := 107) (by decide) ?_
  refine k_bipush (pc := 769) dX12_init_769 (v := 110) (by decide) ?_
  refine k_bipush (pc := 771) dX12_init_771 (v := 111) (by decide) ?_
  refine k_bipush (pc := 773) dX12_init_773 (v := 119) (by decide) ?_
  refine k_bipush (pc := 775) dX12_init_775 (v := 110) (by decide) ?_
  refine k_iconst (pc := 777) dX12_init_777 (v := 0) (by decide) ?_
  refine k_iconst (pc := 778) dX12_init_778 (v := 0) (by decide) ?_
  refine k_stat (pc := 779) (As := [.int 107, .int 110, .int 111, .int 119, .int 110, .int 0, .int 0]) (rest := [.int 10, .ref (a 6)]) dX12_init_779 mk_X12_word km_X12_212 (kc_word l E 107 110 111 119 110 0 0) (by decide) rfl (Nat.le_of_ble_eq_true rfl) rfl hk hn ?_
  refine k_key (pc := 782) (x := kword 107 110 111 119 110 0 0) 10 (by decide) (zin_in (by decide)) dX12_init_782 ?_
  refine k_aload_n (pc := 783) dX12_init_783 rfl (x := h0) rfl ?_
  refine k_get (pc := 784) (q0 := 0) (v := .ref (a 6)) dX12_init_784 kg_X12_34 rfl rfl ?_
  refine k_bipush (pc := 787) dX12_init_787 (v := 11) (by decide) ?_
  refine k_bipush (pc := 789) dX12_init_789 (v := 116) (by decide) ?_
  refine k_bipush (pc := 791) dX12_init_791 (v := 97) (by decide) ?_
  refine k_bipush (pc := 793) dX12_init_793 (v := 108) (by decide) ?_
  refine k_bipush (pc := 795) dX12_init_795 (v := 107) (by decide) ?_
  refine k_bipush (pc := 797) dX12_init_797 (v := 101) (by decide) ?_
  refine k_bipush (pc := 799) dX12_init_799 (v := 100) (by decide) ?_
  refine k_iconst (pc := 801) dX12_init_801 (v := 0) (by decide) ?_
  refine k_stat (pc := 802) (As := [.int 116, .int 97, .int 108, .int 107, .int 101, .int 100, .int 0]) (rest := [.int 11, .ref (a 6)]) dX12_init_802 mk_X12_word km_X12_212 (kc_word l E 116 97 108 107 101 100 0) (by decide) rfl (Nat.le_of_ble_eq_true rfl) rfl hk hn ?_
  refine k_key (pc := 805) (x := kword 116 97 108 107 101 100 0) 11 (by decide) (zin_in (by decide)) dX12_init_805 ?_
  refine k_vret (pc := 806) rfl dX12_init_806 hk hn ⟨rfl, a, congrArg (fun f => wX12 E.2 h0 f a) (funext fun j => ?_)⟩
  show (if j = 11 then kword 116 97 108 107 101 100 0 else (if j = 10 then kword 107 110 111 119 110 0 0 else (if j = 9 then kword 104 111 117 114 0 0 0 else (if j = 8 then kword 119 97 105 116 101 100 0 else (if j = 7 then kword 116 111 112 105 99 0 0 else (if j = 6 then kword 110 101 101 100 0 0 0 else (if j = 5 then kword 97 110 100 0 0 0 0 else (if j = 4 then kword 114 101 115 116 0 0 0 else (if j = 3 then kword 100 114 111 112 0 0 0 else (if j = 2 then kword 115 116 101 112 0 0 0 else (if j = 1 then kword 105 102 0 0 0 0 0 else (if j = 0 then kword 102 105 114 115 116 0 0 else (0 : Int64))))))))))))) = if j < 12 then lN (zkey j) else 0
  by_cases h : j < 12
  · have hall : ∀ j : Fin 12, (if j.val = 11 then kword 116 97 108 107 101 100 0 else (if j.val = 10 then kword 107 110 111 119 110 0 0 else (if j.val = 9 then kword 104 111 117 114 0 0 0 else (if j.val = 8 then kword 119 97 105 116 101 100 0 else (if j.val = 7 then kword 116 111 112 105 99 0 0 else (if j.val = 6 then kword 110 101 101 100 0 0 0 else (if j.val = 5 then kword 97 110 100 0 0 0 0 else (if j.val = 4 then kword 114 101 115 116 0 0 0 else (if j.val = 3 then kword 100 114 111 112 0 0 0 else (if j.val = 2 then kword 115 116 101 112 0 0 0 else (if j.val = 1 then kword 105 102 0 0 0 0 0 else (if j.val = 0 then kword 102 105 114 115 116 0 0 else (0 : Int64))))))))))))) = if j.val < 12 then lN (zkey j.val) else 0 := by decide +kernel
    exact hall ⟨j, h⟩
  · rw [if_neg h, if_neg (show ¬ j = 11 by omega), if_neg (show ¬ j = 10 by omega), if_neg (show ¬ j = 9 by omega), if_neg (show ¬ j = 8 by omega), if_neg (show ¬ j = 7 by omega), if_neg (show ¬ j = 6 by omega), if_neg (show ¬ j = 5 by omega), if_neg (show ¬ j = 4 by omega), if_neg (show ¬ j = 3 by omega), if_neg (show ¬ j = 2 by omega), if_neg (show ¬ j = 1 by omega), if_neg (show ¬ j = 0 by omega)]
theorem kc_X12 (l : Launch) (E : kE) (h0 : Nat) : Kc l E 2 64 37334 mX12_init [.ref h0] [(h0, .inr (12, kfs tyX12 85))] (fun v w => v = none ∧ ∃ a : Nat → Nat, w = wX12 E.2 h0 zkfn a) := by
  refine Kc.of (by decide) (Nat.le_of_ble_eq_true rfl) rfl (fun A => ?_)
  have hN := kfs_len tyX12 85
  refine k_aload_n (pc := 0) dX12_init_0 rfl (x := h0) rfl ?_
  refine k_objInit (pc := 1) dX12_init_1 km_X12_7 ko_i ko_c (by decide) ?_
  refine k_aload_n (pc := 4) dX12_init_4 rfl (x := h0) rfl ?_
  refine k_sipush (pc := 5) dX12_init_5 (v := 2000) (by decide) ?_
  refine k_newa (pc := 8) (t := 2) (ty := .byte) (N' := 2000) (a0 := (2000, .inl (fun _ => 0))) rfl rfl (fun _ _ h => h) kA_byte (fun _ => rfl) (by decide) (by decide) (by decide) (by decide) (by decide) dX12_init_8 (fun q1 => ?_)
  refine k_putF (pc := 10) rfl hN (by decide) dX12_init_10 kf_X12_13 rfl rfl (fun hN => ?_)
  refine k_aload_n (pc := 13) dX12_init_13 rfl (x := h0) rfl ?_
  refine k_sipush (pc := 14) dX12_init_14 (v := 2000) (by decide) ?_
  refine k_newa (pc := 17) (t := 2) (ty := .byte) (N' := 2000) (a0 := (2000, .inl (fun _ => 0))) rfl rfl (fun _ _ h => h) kA_byte (fun _ => rfl) (by decide) (by decide) (by decide) (by decide) (by decide) dX12_init_17 (fun q2 => ?_)
  refine k_putF (pc := 19) rfl hN (by decide) dX12_init_19 kf_X12_17 rfl rfl (fun hN => ?_)
  refine k_aload_n (pc := 22) dX12_init_22 rfl (x := h0) rfl ?_
  refine k_sipush (pc := 23) dX12_init_23 (v := 403) (by decide) ?_
  refine k_newa (pc := 26) (t := 0) (ty := .int) (N' := 403) (a0 := (403, .inl (fun _ => 0))) rfl rfl (fun _ _ h => h) kA_int (fun _ => rfl) (by decide) (by decide) (by decide) (by decide) (by decide) dX12_init_26 (fun q3 => ?_)
  refine k_putF (pc := 28) rfl hN (by decide) dX12_init_28 kf_X12_20 rfl rfl (fun hN => ?_)
  refine k_aload_n (pc := 31) dX12_init_31 rfl (x := h0) rfl ?_
  refine k_sipush (pc := 32) dX12_init_32 (v := 403) (by decide) ?_
  refine k_newa (pc := 35) (t := 0) (ty := .int) (N' := 403) (a0 := (403, .inl (fun _ => 0))) rfl rfl (fun _ _ h => h) kA_int (fun _ => rfl) (by decide) (by decide) (by decide) (by decide) (by decide) dX12_init_35 (fun q4 => ?_)
  refine k_putF (pc := 37) rfl hN (by decide) dX12_init_37 kf_X12_24 rfl rfl (fun hN => ?_)
  refine k_aload_n (pc := 40) dX12_init_40 rfl (x := h0) rfl ?_
  refine k_sipush (pc := 41) dX12_init_41 (v := 403) (by decide) ?_
  refine k_newa (pc := 44) (t := 0) (ty := .int) (N' := 403) (a0 := (403, .inl (fun _ => 0))) rfl rfl (fun _ _ h => h) kA_int (fun _ => rfl) (by decide) (by decide) (by decide) (by decide) (by decide) dX12_init_44 (fun q5 => ?_)
  refine k_putF (pc := 46) rfl hN (by decide) dX12_init_46 kf_X12_27 rfl rfl (fun hN => ?_)
  refine k_eq (w' := (h0, .inr (12, [.int 0, .ref q1, .int 0, .ref q2, .int 0, .ref q3, .ref q4, .ref q5, .null, .null, .int 0, .int 0, .int 0, .int 0, .int 0, .int 0, .int 0, .int 0, .int 0, .int 0, .null, .null, .null, .null, .null, .null, .null, .null, .null, .null, .null, .null, .int 0, .null, .null, .null, .int 0, .int 0, .null, .int 0, .null, .null, .null, .null, .int 0, .null, .null, .null, .null, .null, .null, .null, .null, .null, .null, .null, .null, .null, .null, .null, .int 0, .null, .null, .null, .null, .null, .null, .null, .null, .null, .null, .int 0, .null, .null, .null, .null, .null, .null, .null, .null, .null, .int 0, .null, .null, .null])) :: [(q1, .inl (E.2 2, 2000, .inl (fun _ => 0))), (q2, .inl (E.2 2, 2000, .inl (fun _ => 0))), (q3, .inl (E.2 0, 403, .inl (fun _ => 0))), (q4, .inl (E.2 0, 403, .inl (fun _ => 0))), (q5, .inl (E.2 0, 403, .inl (fun _ => 0)))]) rfl ?_
  have hN : ([.int 0, .ref q1, .int 0, .ref q2, .int 0, .ref q3, .ref q4, .ref q5, .null, .null, .int 0, .int 0, .int 0, .int 0, .int 0, .int 0, .int 0, .int 0, .int 0, .int 0, .null, .null, .null, .null, .null, .null, .null, .null, .null, .null, .null, .null, .int 0, .null, .null, .null, .int 0, .int 0, .null, .int 0, .null, .null, .null, .null, .int 0, .null, .null, .null, .null, .null, .null, .null, .null, .null, .null, .null, .null, .null, .null, .null, .int 0, .null, .null, .null, .null, .null, .null, .null, .null, .null, .null, .int 0, .null, .null, .null, .null, .null, .null, .null, .null, .null, .int 0, .null, .null, .null] : List Value).length = 85 := rfl
  refine k_aload_n (pc := 49) dX12_init_49 rfl (x := h0) rfl ?_
  refine k_sipush (pc := 50) dX12_init_50 (v := 403) (by decide) ?_
  refine k_newa (pc := 53) (t := 1) (ty := .long) (N' := 403) (a0 := (403, .inr (.inl (fun _ => 0)))) rfl rfl (fun _ _ h => h) kA_long (fun _ => rfl) (by decide) (by decide) (by decide) (by decide) (by decide) dX12_init_53 (fun q6 => ?_)
  refine k_putF (pc := 55) rfl hN (by decide) dX12_init_55 kf_X12_30 rfl rfl (fun hN => ?_)
  refine k_aload_n (pc := 58) dX12_init_58 rfl (x := h0) rfl ?_
  refine k_bipush (pc := 59) dX12_init_59 (v := 12) (by decide) ?_
  refine k_newa (pc := 61) (t := 1) (ty := .long) (N' := 12) (a0 := (12, .inr (.inl (fun _ => 0)))) rfl rfl (fun _ _ h => h) kA_long (fun _ => rfl) (by decide) (by decide) (by decide) (by decide) (by decide) dX12_init_61 (fun q7 => ?_)
  refine k_putF (pc := 63) rfl hN (by decide) dX12_init_63 kf_X12_34 rfl rfl (fun hN => ?_)
  refine k_aload_n (pc := 66) dX12_init_66 rfl (x := h0) rfl ?_
  refine k_iconst (pc := 67) dX12_init_67 (v := (-1)) (by decide) ?_
  refine k_putN (pc := 68) hN (by decide) dX12_init_68 kf_X12_37 rfl rfl (fun hN => ?_)
  refine k_aload_n (pc := 71) dX12_init_71 rfl (x := h0) rfl ?_
  refine k_iconst (pc := 72) dX12_init_72 (v := 2) (by decide) ?_
  refine k_newa (pc := 73) (t := 0) (ty := .int) (N' := 2) (a0 := (2, .inl (fun _ => 0))) rfl rfl (fun _ _ h => h) kA_int (fun _ => rfl) (by decide) (by decide) (by decide) (by decide) (by decide) dX12_init_73 (fun q8 => ?_)
  refine k_putF (pc := 75) rfl hN (by decide) dX12_init_75 kf_X12_40 rfl rfl (fun hN => ?_)
  refine k_aload_n (pc := 78) dX12_init_78 rfl (x := h0) rfl ?_
  refine k_bipush (pc := 79) dX12_init_79 (v := 40) (by decide) ?_
  refine k_newa (pc := 81) (t := 0) (ty := .int) (N' := 40) (a0 := (40, .inl (fun _ => 0))) rfl rfl (fun _ _ h => h) kA_int (fun _ => rfl) (by decide) (by decide) (by decide) (by decide) (by decide) dX12_init_81 (fun q9 => ?_)
  refine k_putF (pc := 83) rfl hN (by decide) dX12_init_83 kf_X12_43 rfl rfl (fun hN => ?_)
  refine k_eq (w' := (h0, .inr (12, [.int 0, .ref q1, .int 0, .ref q2, .int 0, .ref q3, .ref q4, .ref q5, .ref q6, .ref q7, .int 0, .int 0, .int 0, .int 0, .int 0, .int 0, .int 0, .int (-1), .int 0, .int 0, .ref q8, .ref q9, .null, .null, .null, .null, .null, .null, .null, .null, .null, .null, .int 0, .null, .null, .null, .int 0, .int 0, .null, .int 0, .null, .null, .null, .null, .int 0, .null, .null, .null, .null, .null, .null, .null, .null, .null, .null, .null, .null, .null, .null, .null, .int 0, .null, .null, .null, .null, .null, .null, .null, .null, .null, .null, .int 0, .null, .null, .null, .null, .null, .null, .null, .null, .null, .int 0, .null, .null, .null])) :: [(q1, .inl (E.2 2, 2000, .inl (fun _ => 0))), (q2, .inl (E.2 2, 2000, .inl (fun _ => 0))), (q3, .inl (E.2 0, 403, .inl (fun _ => 0))), (q4, .inl (E.2 0, 403, .inl (fun _ => 0))), (q5, .inl (E.2 0, 403, .inl (fun _ => 0))), (q6, .inl (E.2 1, 403, .inr (.inl (fun _ => 0)))), (q7, .inl (E.2 1, 12, .inr (.inl (fun _ => 0)))), (q8, .inl (E.2 0, 2, .inl (fun _ => 0))), (q9, .inl (E.2 0, 40, .inl (fun _ => 0)))]) rfl ?_
  have hN : ([.int 0, .ref q1, .int 0, .ref q2, .int 0, .ref q3, .ref q4, .ref q5, .ref q6, .ref q7, .int 0, .int 0, .int 0, .int 0, .int 0, .int 0, .int 0, .int (-1), .int 0, .int 0, .ref q8, .ref q9, .null, .null, .null, .null, .null, .null, .null, .null, .null, .null, .int 0, .null, .null, .null, .int 0, .int 0, .null, .int 0, .null, .null, .null, .null, .int 0, .null, .null, .null, .null, .null, .null, .null, .null, .null, .null, .null, .null, .null, .null, .null, .int 0, .null, .null, .null, .null, .null, .null, .null, .null, .null, .null, .int 0, .null, .null, .null, .null, .null, .null, .null, .null, .null, .int 0, .null, .null, .null] : List Value).length = 85 := rfl
  refine k_aload_n (pc := 86) dX12_init_86 rfl (x := h0) rfl ?_
  refine k_bipush (pc := 87) dX12_init_87 (v := 40) (by decide) ?_
  refine k_newa (pc := 89) (t := 0) (ty := .int) (N' := 40) (a0 := (40, .inl (fun _ => 0))) rfl rfl (fun _ _ h => h) kA_int (fun _ => rfl) (by decide) (by decide) (by decide) (by decide) (by decide) dX12_init_89 (fun q10 => ?_)
  refine k_putF (pc := 91) rfl hN (by decide) dX12_init_91 kf_X12_46 rfl rfl (fun hN => ?_)
  refine k_aload_n (pc := 94) dX12_init_94 rfl (x := h0) rfl ?_
  refine k_bipush (pc := 95) dX12_init_95 (v := 40) (by decide) ?_
  refine k_newa (pc := 97) (t := 0) (ty := .int) (N' := 40) (a0 := (40, .inl (fun _ => 0))) rfl rfl (fun _ _ h => h) kA_int (fun _ => rfl) (by decide) (by decide) (by decide) (by decide) (by decide) dX12_init_97 (fun q11 => ?_)
  refine k_putF (pc := 99) rfl hN (by decide) dX12_init_99 kf_X12_49 rfl rfl (fun hN => ?_)
  refine k_aload_n (pc := 102) dX12_init_102 rfl (x := h0) rfl ?_
  refine k_bipush (pc := 103) dX12_init_103 (v := 40) (by decide) ?_
  refine k_newa (pc := 105) (t := 0) (ty := .int) (N' := 40) (a0 := (40, .inl (fun _ => 0))) rfl rfl (fun _ _ h => h) kA_int (fun _ => rfl) (by decide) (by decide) (by decide) (by decide) (by decide) dX12_init_105 (fun q12 => ?_)
  refine k_putF (pc := 107) rfl hN (by decide) dX12_init_107 kf_X12_52 rfl rfl (fun hN => ?_)
  refine k_aload_n (pc := 110) dX12_init_110 rfl (x := h0) rfl ?_
  refine k_bipush (pc := 111) dX12_init_111 (v := 40) (by decide) ?_
  refine k_newa (pc := 113) (t := 0) (ty := .int) (N' := 40) (a0 := (40, .inl (fun _ => 0))) rfl rfl (fun _ _ h => h) kA_int (fun _ => rfl) (by decide) (by decide) (by decide) (by decide) (by decide) dX12_init_113 (fun q13 => ?_)
  refine k_putF (pc := 115) rfl hN (by decide) dX12_init_115 kf_X12_55 rfl rfl (fun hN => ?_)
  refine k_aload_n (pc := 118) dX12_init_118 rfl (x := h0) rfl ?_
  refine k_bipush (pc := 119) dX12_init_119 (v := 40) (by decide) ?_
  refine k_newa (pc := 121) (t := 0) (ty := .int) (N' := 40) (a0 := (40, .inl (fun _ => 0))) rfl rfl (fun _ _ h => h) kA_int (fun _ => rfl) (by decide) (by decide) (by decide) (by decide) (by decide) dX12_init_121 (fun q14 => ?_)
  refine k_putF (pc := 123) rfl hN (by decide) dX12_init_123 kf_X12_58 rfl rfl (fun hN => ?_)
  refine k_eq (w' := (h0, .inr (12, [.int 0, .ref q1, .int 0, .ref q2, .int 0, .ref q3, .ref q4, .ref q5, .ref q6, .ref q7, .int 0, .int 0, .int 0, .int 0, .int 0, .int 0, .int 0, .int (-1), .int 0, .int 0, .ref q8, .ref q9, .ref q10, .ref q11, .ref q12, .ref q13, .ref q14, .null, .null, .null, .null, .null, .int 0, .null, .null, .null, .int 0, .int 0, .null, .int 0, .null, .null, .null, .null, .int 0, .null, .null, .null, .null, .null, .null, .null, .null, .null, .null, .null, .null, .null, .null, .null, .int 0, .null, .null, .null, .null, .null, .null, .null, .null, .null, .null, .int 0, .null, .null, .null, .null, .null, .null, .null, .null, .null, .int 0, .null, .null, .null])) :: [(q1, .inl (E.2 2, 2000, .inl (fun _ => 0))), (q2, .inl (E.2 2, 2000, .inl (fun _ => 0))), (q3, .inl (E.2 0, 403, .inl (fun _ => 0))), (q4, .inl (E.2 0, 403, .inl (fun _ => 0))), (q5, .inl (E.2 0, 403, .inl (fun _ => 0))), (q6, .inl (E.2 1, 403, .inr (.inl (fun _ => 0)))), (q7, .inl (E.2 1, 12, .inr (.inl (fun _ => 0)))), (q8, .inl (E.2 0, 2, .inl (fun _ => 0))), (q9, .inl (E.2 0, 40, .inl (fun _ => 0))), (q10, .inl (E.2 0, 40, .inl (fun _ => 0))), (q11, .inl (E.2 0, 40, .inl (fun _ => 0))), (q12, .inl (E.2 0, 40, .inl (fun _ => 0))), (q13, .inl (E.2 0, 40, .inl (fun _ => 0))), (q14, .inl (E.2 0, 40, .inl (fun _ => 0)))]) rfl ?_
  have hN : ([.int 0, .ref q1, .int 0, .ref q2, .int 0, .ref q3, .ref q4, .ref q5, .ref q6, .ref q7, .int 0, .int 0, .int 0, .int 0, .int 0, .int 0, .int 0, .int (-1), .int 0, .int 0, .ref q8, .ref q9, .ref q10, .ref q11, .ref q12, .ref q13, .ref q14, .null, .null, .null, .null, .null, .int 0, .null, .null, .null, .int 0, .int 0, .null, .int 0, .null, .null, .null, .null, .int 0, .null, .null, .null, .null, .null, .null, .null, .null, .null, .null, .null, .null, .null, .null, .null, .int 0, .null, .null, .null, .null, .null, .null, .null, .null, .null, .null, .int 0, .null, .null, .null, .null, .null, .null, .null, .null, .null, .int 0, .null, .null, .null] : List Value).length = 85 := rfl
  refine k_aload_n (pc := 126) dX12_init_126 rfl (x := h0) rfl ?_
  refine k_iconst (pc := 127) dX12_init_127 (v := 2) (by decide) ?_
  refine k_newa (pc := 128) (t := 0) (ty := .int) (N' := 2) (a0 := (2, .inl (fun _ => 0))) rfl rfl (fun _ _ h => h) kA_int (fun _ => rfl) (by decide) (by decide) (by decide) (by decide) (by decide) dX12_init_128 (fun q15 => ?_)
  refine k_putF (pc := 130) rfl hN (by decide) dX12_init_130 kf_X12_61 rfl rfl (fun hN => ?_)
  refine k_aload_n (pc := 133) dX12_init_133 rfl (x := h0) rfl ?_
  refine k_sipush (pc := 134) dX12_init_134 (v := 400) (by decide) ?_
  refine k_newa (pc := 137) (t := 0) (ty := .int) (N' := 400) (a0 := (400, .inl (fun _ => 0))) rfl rfl (fun _ _ h => h) kA_int (fun _ => rfl) (by decide) (by decide) (by decide) (by decide) (by decide) dX12_init_137 (fun q16 => ?_)
  refine k_putF (pc := 139) rfl hN (by decide) dX12_init_139 kf_X12_64 rfl rfl (fun hN => ?_)
  refine k_aload_n (pc := 142) dX12_init_142 rfl (x := h0) rfl ?_
  refine k_sipush (pc := 143) dX12_init_143 (v := 400) (by decide) ?_
  refine k_newa (pc := 146) (t := 0) (ty := .int) (N' := 400) (a0 := (400, .inl (fun _ => 0))) rfl rfl (fun _ _ h => h) kA_int (fun _ => rfl) (by decide) (by decide) (by decide) (by decide) (by decide) dX12_init_146 (fun q17 => ?_)
  refine k_putF (pc := 148) rfl hN (by decide) dX12_init_148 kf_X12_67 rfl rfl (fun hN => ?_)
  refine k_aload_n (pc := 151) dX12_init_151 rfl (x := h0) rfl ?_
  refine k_sipush (pc := 152) dX12_init_152 (v := 400) (by decide) ?_
  refine k_newa (pc := 155) (t := 0) (ty := .int) (N' := 400) (a0 := (400, .inl (fun _ => 0))) rfl rfl (fun _ _ h => h) kA_int (fun _ => rfl) (by decide) (by decide) (by decide) (by decide) (by decide) dX12_init_155 (fun q18 => ?_)
  refine k_putF (pc := 157) rfl hN (by decide) dX12_init_157 kf_X12_70 rfl rfl (fun hN => ?_)
  refine k_aload_n (pc := 160) dX12_init_160 rfl (x := h0) rfl ?_
  refine k_sipush (pc := 161) dX12_init_161 (v := 400) (by decide) ?_
  refine k_newa (pc := 164) (t := 0) (ty := .int) (N' := 400) (a0 := (400, .inl (fun _ => 0))) rfl rfl (fun _ _ h => h) kA_int (fun _ => rfl) (by decide) (by decide) (by decide) (by decide) (by decide) dX12_init_164 (fun q19 => ?_)
  refine k_putF (pc := 166) rfl hN (by decide) dX12_init_166 kf_X12_73 rfl rfl (fun hN => ?_)
  refine k_eq (w' := (h0, .inr (12, [.int 0, .ref q1, .int 0, .ref q2, .int 0, .ref q3, .ref q4, .ref q5, .ref q6, .ref q7, .int 0, .int 0, .int 0, .int 0, .int 0, .int 0, .int 0, .int (-1), .int 0, .int 0, .ref q8, .ref q9, .ref q10, .ref q11, .ref q12, .ref q13, .ref q14, .ref q15, .ref q16, .ref q17, .ref q18, .ref q19, .int 0, .null, .null, .null, .int 0, .int 0, .null, .int 0, .null, .null, .null, .null, .int 0, .null, .null, .null, .null, .null, .null, .null, .null, .null, .null, .null, .null, .null, .null, .null, .int 0, .null, .null, .null, .null, .null, .null, .null, .null, .null, .null, .int 0, .null, .null, .null, .null, .null, .null, .null, .null, .null, .int 0, .null, .null, .null])) :: [(q1, .inl (E.2 2, 2000, .inl (fun _ => 0))), (q2, .inl (E.2 2, 2000, .inl (fun _ => 0))), (q3, .inl (E.2 0, 403, .inl (fun _ => 0))), (q4, .inl (E.2 0, 403, .inl (fun _ => 0))), (q5, .inl (E.2 0, 403, .inl (fun _ => 0))), (q6, .inl (E.2 1, 403, .inr (.inl (fun _ => 0)))), (q7, .inl (E.2 1, 12, .inr (.inl (fun _ => 0)))), (q8, .inl (E.2 0, 2, .inl (fun _ => 0))), (q9, .inl (E.2 0, 40, .inl (fun _ => 0))), (q10, .inl (E.2 0, 40, .inl (fun _ => 0))), (q11, .inl (E.2 0, 40, .inl (fun _ => 0))), (q12, .inl (E.2 0, 40, .inl (fun _ => 0))), (q13, .inl (E.2 0, 40, .inl (fun _ => 0))), (q14, .inl (E.2 0, 40, .inl (fun _ => 0))), (q15, .inl (E.2 0, 2, .inl (fun _ => 0))), (q16, .inl (E.2 0, 400, .inl (fun _ => 0))), (q17, .inl (E.2 0, 400, .inl (fun _ => 0))), (q18, .inl (E.2 0, 400, .inl (fun _ => 0))), (q19, .inl (E.2 0, 400, .inl (fun _ => 0)))]) rfl ?_
  have hN : ([.int 0, .ref q1, .int 0, .ref q2, .int 0, .ref q3, .ref q4, .ref q5, .ref q6, .ref q7, .int 0, .int 0, .int 0, .int 0, .int 0, .int 0, .int 0, .int (-1), .int 0, .int 0, .ref q8, .ref q9, .ref q10, .ref q11, .ref q12, .ref q13, .ref q14, .ref q15, .ref q16, .ref q17, .ref q18, .ref q19, .int 0, .null, .null, .null, .int 0, .int 0, .null, .int 0, .null, .null, .null, .null, .int 0, .null, .null, .null, .null, .null, .null, .null, .null, .null, .null, .null, .null, .null, .null, .null, .int 0, .null, .null, .null, .null, .null, .null, .null, .null, .null, .null, .int 0, .null, .null, .null, .null, .null, .null, .null, .null, .null, .int 0, .null, .null, .null] : List Value).length = 85 := rfl
  refine k_aload_n (pc := 169) dX12_init_169 rfl (x := h0) rfl ?_
  refine k_sipush (pc := 170) dX12_init_170 (v := 1000) (by decide) ?_
  refine k_newa (pc := 173) (t := 0) (ty := .int) (N' := 1000) (a0 := (1000, .inl (fun _ => 0))) rfl rfl (fun _ _ h => h) kA_int (fun _ => rfl) (by decide) (by decide) (by decide) (by decide) (by decide) dX12_init_173 (fun q20 => ?_)
  refine k_putF (pc := 175) rfl hN (by decide) dX12_init_175 kf_X12_76 rfl rfl (fun hN => ?_)
  refine k_aload_n (pc := 178) dX12_init_178 rfl (x := h0) rfl ?_
  refine k_sipush (pc := 179) dX12_init_179 (v := 1000) (by decide) ?_
  refine k_newa (pc := 182) (t := 0) (ty := .int) (N' := 1000) (a0 := (1000, .inl (fun _ => 0))) rfl rfl (fun _ _ h => h) kA_int (fun _ => rfl) (by decide) (by decide) (by decide) (by decide) (by decide) dX12_init_182 (fun q21 => ?_)
  refine k_putF (pc := 184) rfl hN (by decide) dX12_init_184 kf_X12_79 rfl rfl (fun hN => ?_)
  refine k_aload_n (pc := 187) dX12_init_187 rfl (x := h0) rfl ?_
  refine k_bipush (pc := 188) dX12_init_188 (v := 48) (by decide) ?_
  refine k_newa (pc := 190) (t := 0) (ty := .int) (N' := 48) (a0 := (48, .inl (fun _ => 0))) rfl rfl (fun _ _ h => h) kA_int (fun _ => rfl) (by decide) (by decide) (by decide) (by decide) (by decide) dX12_init_190 (fun q22 => ?_)
  refine k_putF (pc := 192) rfl hN (by decide) dX12_init_192 kf_X12_82 rfl rfl (fun hN => ?_)
  refine k_aload_n (pc := 195) dX12_init_195 rfl (x := h0) rfl ?_
  refine k_bipush (pc := 196) dX12_init_196 (v := 8) (by decide) ?_
  refine k_newa (pc := 198) (t := 0) (ty := .int) (N' := 8) (a0 := (8, .inl (fun _ => 0))) rfl rfl (fun _ _ h => h) kA_int (fun _ => rfl) (by decide) (by decide) (by decide) (by decide) (by decide) dX12_init_198 (fun q23 => ?_)
  refine k_putF (pc := 200) rfl hN (by decide) dX12_init_200 kf_X12_85 rfl rfl (fun hN => ?_)
  refine k_aload_n (pc := 203) dX12_init_203 rfl (x := h0) rfl ?_
  refine k_bipush (pc := 204) dX12_init_204 (v := 8) (by decide) ?_
  refine k_newa (pc := 206) (t := 0) (ty := .int) (N' := 8) (a0 := (8, .inl (fun _ => 0))) rfl rfl (fun _ _ h => h) kA_int (fun _ => rfl) (by decide) (by decide) (by decide) (by decide) (by decide) dX12_init_206 (fun q24 => ?_)
  refine k_putF (pc := 208) rfl hN (by decide) dX12_init_208 kf_X12_88 rfl rfl (fun hN => ?_)
  refine k_eq (w' := (h0, .inr (12, [.int 0, .ref q1, .int 0, .ref q2, .int 0, .ref q3, .ref q4, .ref q5, .ref q6, .ref q7, .int 0, .int 0, .int 0, .int 0, .int 0, .int 0, .int 0, .int (-1), .int 0, .int 0, .ref q8, .ref q9, .ref q10, .ref q11, .ref q12, .ref q13, .ref q14, .ref q15, .ref q16, .ref q17, .ref q18, .ref q19, .int 0, .ref q20, .ref q21, .ref q22, .int 0, .int 0, .ref q23, .int 0, .ref q24, .null, .null, .null, .int 0, .null, .null, .null, .null, .null, .null, .null, .null, .null, .null, .null, .null, .null, .null, .null, .int 0, .null, .null, .null, .null, .null, .null, .null, .null, .null, .null, .int 0, .null, .null, .null, .null, .null, .null, .null, .null, .null, .int 0, .null, .null, .null])) :: [(q1, .inl (E.2 2, 2000, .inl (fun _ => 0))), (q2, .inl (E.2 2, 2000, .inl (fun _ => 0))), (q3, .inl (E.2 0, 403, .inl (fun _ => 0))), (q4, .inl (E.2 0, 403, .inl (fun _ => 0))), (q5, .inl (E.2 0, 403, .inl (fun _ => 0))), (q6, .inl (E.2 1, 403, .inr (.inl (fun _ => 0)))), (q7, .inl (E.2 1, 12, .inr (.inl (fun _ => 0)))), (q8, .inl (E.2 0, 2, .inl (fun _ => 0))), (q9, .inl (E.2 0, 40, .inl (fun _ => 0))), (q10, .inl (E.2 0, 40, .inl (fun _ => 0))), (q11, .inl (E.2 0, 40, .inl (fun _ => 0))), (q12, .inl (E.2 0, 40, .inl (fun _ => 0))), (q13, .inl (E.2 0, 40, .inl (fun _ => 0))), (q14, .inl (E.2 0, 40, .inl (fun _ => 0))), (q15, .inl (E.2 0, 2, .inl (fun _ => 0))), (q16, .inl (E.2 0, 400, .inl (fun _ => 0))), (q17, .inl (E.2 0, 400, .inl (fun _ => 0))), (q18, .inl (E.2 0, 400, .inl (fun _ => 0))), (q19, .inl (E.2 0, 400, .inl (fun _ => 0))), (q20, .inl (E.2 0, 1000, .inl (fun _ => 0))), (q21, .inl (E.2 0, 1000, .inl (fun _ => 0))), (q22, .inl (E.2 0, 48, .inl (fun _ => 0))), (q23, .inl (E.2 0, 8, .inl (fun _ => 0))), (q24, .inl (E.2 0, 8, .inl (fun _ => 0)))]) rfl ?_
  have hN : ([.int 0, .ref q1, .int 0, .ref q2, .int 0, .ref q3, .ref q4, .ref q5, .ref q6, .ref q7, .int 0, .int 0, .int 0, .int 0, .int 0, .int 0, .int 0, .int (-1), .int 0, .int 0, .ref q8, .ref q9, .ref q10, .ref q11, .ref q12, .ref q13, .ref q14, .ref q15, .ref q16, .ref q17, .ref q18, .ref q19, .int 0, .ref q20, .ref q21, .ref q22, .int 0, .int 0, .ref q23, .int 0, .ref q24, .null, .null, .null, .int 0, .null, .null, .null, .null, .null, .null, .null, .null, .null, .null, .null, .null, .null, .null, .null, .int 0, .null, .null, .null, .null, .null, .null, .null, .null, .null, .null, .int 0, .null, .null, .null, .null, .null, .null, .null, .null, .null, .int 0, .null, .null, .null] : List Value).length = 85 := rfl
  refine k_aload_n (pc := 211) dX12_init_211 rfl (x := h0) rfl ?_
  refine k_bipush (pc := 212) dX12_init_212 (v := 8) (by decide) ?_
  refine k_newa (pc := 214) (t := 0) (ty := .int) (N' := 8) (a0 := (8, .inl (fun _ => 0))) rfl rfl (fun _ _ h => h) kA_int (fun _ => rfl) (by decide) (by decide) (by decide) (by decide) (by decide) dX12_init_214 (fun q25 => ?_)
  refine k_putF (pc := 216) rfl hN (by decide) dX12_init_216 kf_X12_91 rfl rfl (fun hN => ?_)
  refine k_aload_n (pc := 219) dX12_init_219 rfl (x := h0) rfl ?_
  refine k_sipush (pc := 220) dX12_init_220 (v := 12800) (by decide) ?_
  refine k_newa (pc := 223) (t := 3) (ty := .boolean) (N' := 12800) (a0 := (12800, .inl (fun _ => 0))) rfl rfl (fun _ _ h => h) kA_boolean (fun _ => rfl) (by decide) (by decide) (by decide) (by decide) (by decide) dX12_init_223 (fun q26 => ?_)
  refine k_putF (pc := 225) rfl hN (by decide) dX12_init_225 kf_X12_94 rfl rfl (fun hN => ?_)
  refine k_aload_n (pc := 228) dX12_init_228 rfl (x := h0) rfl ?_
  refine k_sipush (pc := 229) dX12_init_229 (v := 160) (by decide) ?_
  refine k_newa (pc := 232) (t := 0) (ty := .int) (N' := 160) (a0 := (160, .inl (fun _ => 0))) rfl rfl (fun _ _ h => h) kA_int (fun _ => rfl) (by decide) (by decide) (by decide) (by decide) (by decide) dX12_init_232 (fun q27 => ?_)
  refine k_putF (pc := 234) rfl hN (by decide) dX12_init_234 kf_X12_98 rfl rfl (fun hN => ?_)
  refine k_aload_n (pc := 237) dX12_init_237 rfl (x := h0) rfl ?_
  refine k_sipush (pc := 238) dX12_init_238 (v := 1600) (by decide) ?_
  refine k_newa (pc := 241) (t := 3) (ty := .boolean) (N' := 1600) (a0 := (1600, .inl (fun _ => 0))) rfl rfl (fun _ _ h => h) kA_boolean (fun _ => rfl) (by decide) (by decide) (by decide) (by decide) (by decide) dX12_init_241 (fun q28 => ?_)
  refine k_putF (pc := 243) rfl hN (by decide) dX12_init_243 kf_X12_101 rfl rfl (fun hN => ?_)
  refine k_aload_n (pc := 246) dX12_init_246 rfl (x := h0) rfl ?_
  refine k_bipush (pc := 247) dX12_init_247 (v := 8) (by decide) ?_
  refine k_newa (pc := 249) (t := 0) (ty := .int) (N' := 8) (a0 := (8, .inl (fun _ => 0))) rfl rfl (fun _ _ h => h) kA_int (fun _ => rfl) (by decide) (by decide) (by decide) (by decide) (by decide) dX12_init_249 (fun q29 => ?_)
  refine k_putF (pc := 251) rfl hN (by decide) dX12_init_251 kf_X12_104 rfl rfl (fun hN => ?_)
  refine k_eq (w' := (h0, .inr (12, [.int 0, .ref q1, .int 0, .ref q2, .int 0, .ref q3, .ref q4, .ref q5, .ref q6, .ref q7, .int 0, .int 0, .int 0, .int 0, .int 0, .int 0, .int 0, .int (-1), .int 0, .int 0, .ref q8, .ref q9, .ref q10, .ref q11, .ref q12, .ref q13, .ref q14, .ref q15, .ref q16, .ref q17, .ref q18, .ref q19, .int 0, .ref q20, .ref q21, .ref q22, .int 0, .int 0, .ref q23, .int 0, .ref q24, .ref q25, .ref q26, .ref q27, .int 0, .ref q28, .ref q29, .null, .null, .null, .null, .null, .null, .null, .null, .null, .null, .null, .null, .null, .int 0, .null, .null, .null, .null, .null, .null, .null, .null, .null, .null, .int 0, .null, .null, .null, .null, .null, .null, .null, .null, .null, .int 0, .null, .null, .null])) :: [(q1, .inl (E.2 2, 2000, .inl (fun _ => 0))), (q2, .inl (E.2 2, 2000, .inl (fun _ => 0))), (q3, .inl (E.2 0, 403, .inl (fun _ => 0))), (q4, .inl (E.2 0, 403, .inl (fun _ => 0))), (q5, .inl (E.2 0, 403, .inl (fun _ => 0))), (q6, .inl (E.2 1, 403, .inr (.inl (fun _ => 0)))), (q7, .inl (E.2 1, 12, .inr (.inl (fun _ => 0)))), (q8, .inl (E.2 0, 2, .inl (fun _ => 0))), (q9, .inl (E.2 0, 40, .inl (fun _ => 0))), (q10, .inl (E.2 0, 40, .inl (fun _ => 0))), (q11, .inl (E.2 0, 40, .inl (fun _ => 0))), (q12, .inl (E.2 0, 40, .inl (fun _ => 0))), (q13, .inl (E.2 0, 40, .inl (fun _ => 0))), (q14, .inl (E.2 0, 40, .inl (fun _ => 0))), (q15, .inl (E.2 0, 2, .inl (fun _ => 0))), (q16, .inl (E.2 0, 400, .inl (fun _ => 0))), (q17, .inl (E.2 0, 400, .inl (fun _ => 0))), (q18, .inl (E.2 0, 400, .inl (fun _ => 0))), (q19, .inl (E.2 0, 400, .inl (fun _ => 0))), (q20, .inl (E.2 0, 1000, .inl (fun _ => 0))), (q21, .inl (E.2 0, 1000, .inl (fun _ => 0))), (q22, .inl (E.2 0, 48, .inl (fun _ => 0))), (q23, .inl (E.2 0, 8, .inl (fun _ => 0))), (q24, .inl (E.2 0, 8, .inl (fun _ => 0))), (q25, .inl (E.2 0, 8, .inl (fun _ => 0))), (q26, .inl (E.2 3, 12800, .inl (fun _ => 0))), (q27, .inl (E.2 0, 160, .inl (fun _ => 0))), (q28, .inl (E.2 3, 1600, .inl (fun _ => 0))), (q29, .inl (E.2 0, 8, .inl (fun _ => 0)))]) rfl ?_
  have hN : ([.int 0, .ref q1, .int 0, .ref q2, .int 0, .ref q3, .ref q4, .ref q5, .ref q6, .ref q7, .int 0, .int 0, .int 0, .int 0, .int 0, .int 0, .int 0, .int (-1), .int 0, .int 0, .ref q8, .ref q9, .ref q10, .ref q11, .ref q12, .ref q13, .ref q14, .ref q15, .ref q16, .ref q17, .ref q18, .ref q19, .int 0, .ref q20, .ref q21, .ref q22, .int 0, .int 0, .ref q23, .int 0, .ref q24, .ref q25, .ref q26, .ref q27, .int 0, .ref q28, .ref q29, .null, .null, .null, .null, .null, .null, .null, .null, .null, .null, .null, .null, .null, .int 0, .null, .null, .null, .null, .null, .null, .null, .null, .null, .null, .int 0, .null, .null, .null, .null, .null, .null, .null, .null, .null, .int 0, .null, .null, .null] : List Value).length = 85 := rfl
  refine k_aload_n (pc := 254) dX12_init_254 rfl (x := h0) rfl ?_
  refine k_sipush (pc := 255) dX12_init_255 (v := 200) (by decide) ?_
  refine k_newa (pc := 258) (t := 3) (ty := .boolean) (N' := 200) (a0 := (200, .inl (fun _ => 0))) rfl rfl (fun _ _ h => h) kA_boolean (fun _ => rfl) (by decide) (by decide) (by decide) (by decide) (by decide) dX12_init_258 (fun q30 => ?_)
  refine k_putF (pc := 260) rfl hN (by decide) dX12_init_260 kf_X12_107 rfl rfl (fun hN => ?_)
  refine k_aload_n (pc := 263) dX12_init_263 rfl (x := h0) rfl ?_
  refine k_sipush (pc := 264) dX12_init_264 (v := 200) (by decide) ?_
  refine k_newa (pc := 267) (t := 3) (ty := .boolean) (N' := 200) (a0 := (200, .inl (fun _ => 0))) rfl rfl (fun _ _ h => h) kA_boolean (fun _ => rfl) (by decide) (by decide) (by decide) (by decide) (by decide) dX12_init_267 (fun q31 => ?_)
  refine k_putF (pc := 269) rfl hN (by decide) dX12_init_269 kf_X12_110 rfl rfl (fun hN => ?_)
  refine k_aload_n (pc := 272) dX12_init_272 rfl (x := h0) rfl ?_
  refine k_sipush (pc := 273) dX12_init_273 (v := 200) (by decide) ?_
  refine k_newa (pc := 276) (t := 3) (ty := .boolean) (N' := 200) (a0 := (200, .inl (fun _ => 0))) rfl rfl (fun _ _ h => h) kA_boolean (fun _ => rfl) (by decide) (by decide) (by decide) (by decide) (by decide) dX12_init_276 (fun q32 => ?_)
  refine k_putF (pc := 278) rfl hN (by decide) dX12_init_278 kf_X12_113 rfl rfl (fun hN => ?_)
  refine k_aload_n (pc := 281) dX12_init_281 rfl (x := h0) rfl ?_
  refine k_sipush (pc := 282) dX12_init_282 (v := 200) (by decide) ?_
  refine k_newa (pc := 285) (t := 0) (ty := .int) (N' := 200) (a0 := (200, .inl (fun _ => 0))) rfl rfl (fun _ _ h => h) kA_int (fun _ => rfl) (by decide) (by decide) (by decide) (by decide) (by decide) dX12_init_285 (fun q33 => ?_)
  refine k_putF (pc := 287) rfl hN (by decide) dX12_init_287 kf_X12_116 rfl rfl (fun hN => ?_)
  refine k_aload_n (pc := 290) dX12_init_290 rfl (x := h0) rfl ?_
  refine k_sipush (pc := 291) dX12_init_291 (v := 1000) (by decide) ?_
  refine k_newa (pc := 294) (t := 0) (ty := .int) (N' := 1000) (a0 := (1000, .inl (fun _ => 0))) rfl rfl (fun _ _ h => h) kA_int (fun _ => rfl) (by decide) (by decide) (by decide) (by decide) (by decide) dX12_init_294 (fun q34 => ?_)
  refine k_putF (pc := 296) rfl hN (by decide) dX12_init_296 kf_X12_119 rfl rfl (fun hN => ?_)
  refine k_eq (w' := (h0, .inr (12, [.int 0, .ref q1, .int 0, .ref q2, .int 0, .ref q3, .ref q4, .ref q5, .ref q6, .ref q7, .int 0, .int 0, .int 0, .int 0, .int 0, .int 0, .int 0, .int (-1), .int 0, .int 0, .ref q8, .ref q9, .ref q10, .ref q11, .ref q12, .ref q13, .ref q14, .ref q15, .ref q16, .ref q17, .ref q18, .ref q19, .int 0, .ref q20, .ref q21, .ref q22, .int 0, .int 0, .ref q23, .int 0, .ref q24, .ref q25, .ref q26, .ref q27, .int 0, .ref q28, .ref q29, .ref q30, .ref q31, .ref q32, .ref q33, .ref q34, .null, .null, .null, .null, .null, .null, .null, .null, .int 0, .null, .null, .null, .null, .null, .null, .null, .null, .null, .null, .int 0, .null, .null, .null, .null, .null, .null, .null, .null, .null, .int 0, .null, .null, .null])) :: [(q1, .inl (E.2 2, 2000, .inl (fun _ => 0))), (q2, .inl (E.2 2, 2000, .inl (fun _ => 0))), (q3, .inl (E.2 0, 403, .inl (fun _ => 0))), (q4, .inl (E.2 0, 403, .inl (fun _ => 0))), (q5, .inl (E.2 0, 403, .inl (fun _ => 0))), (q6, .inl (E.2 1, 403, .inr (.inl (fun _ => 0)))), (q7, .inl (E.2 1, 12, .inr (.inl (fun _ => 0)))), (q8, .inl (E.2 0, 2, .inl (fun _ => 0))), (q9, .inl (E.2 0, 40, .inl (fun _ => 0))), (q10, .inl (E.2 0, 40, .inl (fun _ => 0))), (q11, .inl (E.2 0, 40, .inl (fun _ => 0))), (q12, .inl (E.2 0, 40, .inl (fun _ => 0))), (q13, .inl (E.2 0, 40, .inl (fun _ => 0))), (q14, .inl (E.2 0, 40, .inl (fun _ => 0))), (q15, .inl (E.2 0, 2, .inl (fun _ => 0))), (q16, .inl (E.2 0, 400, .inl (fun _ => 0))), (q17, .inl (E.2 0, 400, .inl (fun _ => 0))), (q18, .inl (E.2 0, 400, .inl (fun _ => 0))), (q19, .inl (E.2 0, 400, .inl (fun _ => 0))), (q20, .inl (E.2 0, 1000, .inl (fun _ => 0))), (q21, .inl (E.2 0, 1000, .inl (fun _ => 0))), (q22, .inl (E.2 0, 48, .inl (fun _ => 0))), (q23, .inl (E.2 0, 8, .inl (fun _ => 0))), (q24, .inl (E.2 0, 8, .inl (fun _ => 0))), (q25, .inl (E.2 0, 8, .inl (fun _ => 0))), (q26, .inl (E.2 3, 12800, .inl (fun _ => 0))), (q27, .inl (E.2 0, 160, .inl (fun _ => 0))), (q28, .inl (E.2 3, 1600, .inl (fun _ => 0))), (q29, .inl (E.2 0, 8, .inl (fun _ => 0))), (q30, .inl (E.2 3, 200, .inl (fun _ => 0))), (q31, .inl (E.2 3, 200, .inl (fun _ => 0))), (q32, .inl (E.2 3, 200, .inl (fun _ => 0))), (q33, .inl (E.2 0, 200, .inl (fun _ => 0))), (q34, .inl (E.2 0, 1000, .inl (fun _ => 0)))]) rfl ?_
  have hN : ([.int 0, .ref q1, .int 0, .ref q2, .int 0, .ref q3, .ref q4, .ref q5, .ref q6, .ref q7, .int 0, .int 0, .int 0, .int 0, .int 0, .int 0, .int 0, .int (-1), .int 0, .int 0, .ref q8, .ref q9, .ref q10, .ref q11, .ref q12, .ref q13, .ref q14, .ref q15, .ref q16, .ref q17, .ref q18, .ref q19, .int 0, .ref q20, .ref q21, .ref q22, .int 0, .int 0, .ref q23, .int 0, .ref q24, .ref q25, .ref q26, .ref q27, .int 0, .ref q28, .ref q29, .ref q30, .ref q31, .ref q32, .ref q33, .ref q34, .null, .null, .null, .null, .null, .null, .null, .null, .int 0, .null, .null, .null, .null, .null, .null, .null, .null, .null, .null, .int 0, .null, .null, .null, .null, .null, .null, .null, .null, .null, .int 0, .null, .null, .null] : List Value).length = 85 := rfl
  refine k_aload_n (pc := 299) dX12_init_299 rfl (x := h0) rfl ?_
  refine k_sipush (pc := 300) dX12_init_300 (v := 1000) (by decide) ?_
  refine k_newa (pc := 303) (t := 0) (ty := .int) (N' := 1000) (a0 := (1000, .inl (fun _ => 0))) rfl rfl (fun _ _ h => h) kA_int (fun _ => rfl) (by decide) (by decide) (by decide) (by decide) (by decide) dX12_init_303 (fun q35 => ?_)
  refine k_putF (pc := 305) rfl hN (by decide) dX12_init_305 kf_X12_122 rfl rfl (fun hN => ?_)
  refine k_aload_n (pc := 308) dX12_init_308 rfl (x := h0) rfl ?_
  refine k_sipush (pc := 309) dX12_init_309 (v := 1000) (by decide) ?_
  refine k_newa (pc := 312) (t := 0) (ty := .int) (N' := 1000) (a0 := (1000, .inl (fun _ => 0))) rfl rfl (fun _ _ h => h) kA_int (fun _ => rfl) (by decide) (by decide) (by decide) (by decide) (by decide) dX12_init_312 (fun q36 => ?_)
  refine k_putF (pc := 314) rfl hN (by decide) dX12_init_314 kf_X12_125 rfl rfl (fun hN => ?_)
  refine k_aload_n (pc := 317) dX12_init_317 rfl (x := h0) rfl ?_
  refine k_sipush (pc := 318) dX12_init_318 (v := 1600) (by decide) ?_
  refine k_newa (pc := 321) (t := 0) (ty := .int) (N' := 1600) (a0 := (1600, .inl (fun _ => 0))) rfl rfl (fun _ _ h => h) kA_int (fun _ => rfl) (by decide) (by decide) (by decide) (by decide) (by decide) dX12_init_321 (fun q37 => ?_)
  refine k_putF (pc := 323) rfl hN (by decide) dX12_init_323 kf_X12_128 rfl rfl (fun hN => ?_)
  refine k_aload_n (pc := 326) dX12_init_326 rfl (x := h0) rfl ?_
  refine k_sipush (pc := 327) dX12_init_327 (v := 200) (by decide) ?_
  refine k_newa (pc := 330) (t := 0) (ty := .int) (N' := 200) (a0 := (200, .inl (fun _ => 0))) rfl rfl (fun _ _ h => h) kA_int (fun _ => rfl) (by decide) (by decide) (by decide) (by decide) (by decide) dX12_init_330 (fun q38 => ?_)
  refine k_putF (pc := 332) rfl hN (by decide) dX12_init_332 kf_X12_131 rfl rfl (fun hN => ?_)
  refine k_aload_n (pc := 335) dX12_init_335 rfl (x := h0) rfl ?_
  refine k_iconst (pc := 336) dX12_init_336 (v := 5) (by decide) ?_
  refine k_newa (pc := 337) (t := 0) (ty := .int) (N' := 5) (a0 := (5, .inl (fun _ => 0))) rfl rfl (fun _ _ h => h) kA_int (fun _ => rfl) (by decide) (by decide) (by decide) (by decide) (by decide) dX12_init_337 (fun q39 => ?_)
  refine k_putF (pc := 339) rfl hN (by decide) dX12_init_339 kf_X12_134 rfl rfl (fun hN => ?_)
  refine k_eq (w' := (h0, .inr (12, [.int 0, .ref q1, .int 0, .ref q2, .int 0, .ref q3, .ref q4, .ref q5, .ref q6, .ref q7, .int 0, .int 0, .int 0, .int 0, .int 0, .int 0, .int 0, .int (-1), .int 0, .int 0, .ref q8, .ref q9, .ref q10, .ref q11, .ref q12, .ref q13, .ref q14, .ref q15, .ref q16, .ref q17, .ref q18, .ref q19, .int 0, .ref q20, .ref q21, .ref q22, .int 0, .int 0, .ref q23, .int 0, .ref q24, .ref q25, .ref q26, .ref q27, .int 0, .ref q28, .ref q29, .ref q30, .ref q31, .ref q32, .ref q33, .ref q34, .ref q35, .ref q36, .ref q37, .ref q38, .ref q39, .null, .null, .null, .int 0, .null, .null, .null, .null, .null, .null, .null, .null, .null, .null, .int 0, .null, .null, .null, .null, .null, .null, .null, .null, .null, .int 0, .null, .null, .null])) :: [(q1, .inl (E.2 2, 2000, .inl (fun _ => 0))), (q2, .inl (E.2 2, 2000, .inl (fun _ => 0))), (q3, .inl (E.2 0, 403, .inl (fun _ => 0))), (q4, .inl (E.2 0, 403, .inl (fun _ => 0))), (q5, .inl (E.2 0, 403, .inl (fun _ => 0))), (q6, .inl (E.2 1, 403, .inr (.inl (fun _ => 0)))), (q7, .inl (E.2 1, 12, .inr (.inl (fun _ => 0)))), (q8, .inl (E.2 0, 2, .inl (fun _ => 0))), (q9, .inl (E.2 0, 40, .inl (fun _ => 0))), (q10, .inl (E.2 0, 40, .inl (fun _ => 0))), (q11, .inl (E.2 0, 40, .inl (fun _ => 0))), (q12, .inl (E.2 0, 40, .inl (fun _ => 0))), (q13, .inl (E.2 0, 40, .inl (fun _ => 0))), (q14, .inl (E.2 0, 40, .inl (fun _ => 0))), (q15, .inl (E.2 0, 2, .inl (fun _ => 0))), (q16, .inl (E.2 0, 400, .inl (fun _ => 0))), (q17, .inl (E.2 0, 400, .inl (fun _ => 0))), (q18, .inl (E.2 0, 400, .inl (fun _ => 0))), (q19, .inl (E.2 0, 400, .inl (fun _ => 0))), (q20, .inl (E.2 0, 1000, .inl (fun _ => 0))), (q21, .inl (E.2 0, 1000, .inl (fun _ => 0))), (q22, .inl (E.2 0, 48, .inl (fun _ => 0))), (q23, .inl (E.2 0, 8, .inl (fun _ => 0))), (q24, .inl (E.2 0, 8, .inl (fun _ => 0))), (q25, .inl (E.2 0, 8, .inl (fun _ => 0))), (q26, .inl (E.2 3, 12800, .inl (fun _ => 0))), (q27, .inl (E.2 0, 160, .inl (fun _ => 0))), (q28, .inl (E.2 3, 1600, .inl (fun _ => 0))), (q29, .inl (E.2 0, 8, .inl (fun _ => 0))), (q30, .inl (E.2 3, 200, .inl (fun _ => 0))), (q31, .inl (E.2 3, 200, .inl (fun _ => 0))), (q32, .inl (E.2 3, 200, .inl (fun _ => 0))), (q33, .inl (E.2 0, 200, .inl (fun _ => 0))), (q34, .inl (E.2 0, 1000, .inl (fun _ => 0))), (q35, .inl (E.2 0, 1000, .inl (fun _ => 0))), (q36, .inl (E.2 0, 1000, .inl (fun _ => 0))), (q37, .inl (E.2 0, 1600, .inl (fun _ => 0))), (q38, .inl (E.2 0, 200, .inl (fun _ => 0))), (q39, .inl (E.2 0, 5, .inl (fun _ => 0)))]) rfl ?_
  have hN : ([.int 0, .ref q1, .int 0, .ref q2, .int 0, .ref q3, .ref q4, .ref q5, .ref q6, .ref q7, .int 0, .int 0, .int 0, .int 0, .int 0, .int 0, .int 0, .int (-1), .int 0, .int 0, .ref q8, .ref q9, .ref q10, .ref q11, .ref q12, .ref q13, .ref q14, .ref q15, .ref q16, .ref q17, .ref q18, .ref q19, .int 0, .ref q20, .ref q21, .ref q22, .int 0, .int 0, .ref q23, .int 0, .ref q24, .ref q25, .ref q26, .ref q27, .int 0, .ref q28, .ref q29, .ref q30, .ref q31, .ref q32, .ref q33, .ref q34, .ref q35, .ref q36, .ref q37, .ref q38, .ref q39, .null, .null, .null, .int 0, .null, .null, .null, .null, .null, .null, .null, .null, .null, .null, .int 0, .null, .null, .null, .null, .null, .null, .null, .null, .null, .int 0, .null, .null, .null] : List Value).length = 85 := rfl
  refine k_aload_n (pc := 342) dX12_init_342 rfl (x := h0) rfl ?_
  refine k_bipush (pc := 343) dX12_init_343 (v := 100) (by decide) ?_
  refine k_newa (pc := 345) (t := 0) (ty := .int) (N' := 100) (a0 := (100, .inl (fun _ => 0))) rfl rfl (fun _ _ h => h) kA_int (fun _ => rfl) (by decide) (by decide) (by decide) (by decide) (by decide) dX12_init_345 (fun q40 => ?_)
  refine k_putF (pc := 347) rfl hN (by decide) dX12_init_347 kf_X12_137 rfl rfl (fun hN => ?_)
  refine k_aload_n (pc := 350) dX12_init_350 rfl (x := h0) rfl ?_
  refine k_bipush (pc := 351) dX12_init_351 (v := 6) (by decide) ?_
  refine k_newa (pc := 353) (t := 0) (ty := .int) (N' := 6) (a0 := (6, .inl (fun _ => 0))) rfl rfl (fun _ _ h => h) kA_int (fun _ => rfl) (by decide) (by decide) (by decide) (by decide) (by decide) dX12_init_353 (fun q41 => ?_)
  refine k_putF (pc := 355) rfl hN (by decide) dX12_init_355 kf_X12_140 rfl rfl (fun hN => ?_)
  refine k_aload_n (pc := 358) dX12_init_358 rfl (x := h0) rfl ?_
  refine k_iconst (pc := 359) dX12_init_359 (v := 5) (by decide) ?_
  refine k_newa (pc := 360) (t := 0) (ty := .int) (N' := 5) (a0 := (5, .inl (fun _ => 0))) rfl rfl (fun _ _ h => h) kA_int (fun _ => rfl) (by decide) (by decide) (by decide) (by decide) (by decide) dX12_init_360 (fun q42 => ?_)
  refine k_putF (pc := 362) rfl hN (by decide) dX12_init_362 kf_X12_143 rfl rfl (fun hN => ?_)
  refine k_aload_n (pc := 365) dX12_init_365 rfl (x := h0) rfl ?_
  refine k_sipush (pc := 366) dX12_init_366 (v := 400) (by decide) ?_
  refine k_newa (pc := 369) (t := 0) (ty := .int) (N' := 400) (a0 := (400, .inl (fun _ => 0))) rfl rfl (fun _ _ h => h) kA_int (fun _ => rfl) (by decide) (by decide) (by decide) (by decide) (by decide) dX12_init_369 (fun q43 => ?_)
  refine k_putF (pc := 371) rfl hN (by decide) dX12_init_371 kf_X12_146 rfl rfl (fun hN => ?_)
  refine k_aload_n (pc := 374) dX12_init_374 rfl (x := h0) rfl ?_
  refine k_sipush (pc := 375) dX12_init_375 (v := 400) (by decide) ?_
  refine k_newa (pc := 378) (t := 0) (ty := .int) (N' := 400) (a0 := (400, .inl (fun _ => 0))) rfl rfl (fun _ _ h => h) kA_int (fun _ => rfl) (by decide) (by decide) (by decide) (by decide) (by decide) dX12_init_378 (fun q44 => ?_)
  refine k_putF (pc := 380) rfl hN (by decide) dX12_init_380 kf_X12_149 rfl rfl (fun hN => ?_)
  refine k_eq (w' := (h0, .inr (12, [.int 0, .ref q1, .int 0, .ref q2, .int 0, .ref q3, .ref q4, .ref q5, .ref q6, .ref q7, .int 0, .int 0, .int 0, .int 0, .int 0, .int 0, .int 0, .int (-1), .int 0, .int 0, .ref q8, .ref q9, .ref q10, .ref q11, .ref q12, .ref q13, .ref q14, .ref q15, .ref q16, .ref q17, .ref q18, .ref q19, .int 0, .ref q20, .ref q21, .ref q22, .int 0, .int 0, .ref q23, .int 0, .ref q24, .ref q25, .ref q26, .ref q27, .int 0, .ref q28, .ref q29, .ref q30, .ref q31, .ref q32, .ref q33, .ref q34, .ref q35, .ref q36, .ref q37, .ref q38, .ref q39, .ref q40, .ref q41, .ref q42, .int 0, .ref q43, .ref q44, .null, .null, .null, .null, .null, .null, .null, .null, .int 0, .null, .null, .null, .null, .null, .null, .null, .null, .null, .int 0, .null, .null, .null])) :: [(q1, .inl (E.2 2, 2000, .inl (fun _ => 0))), (q2, .inl (E.2 2, 2000, .inl (fun _ => 0))), (q3, .inl (E.2 0, 403, .inl (fun _ => 0))), (q4, .inl (E.2 0, 403, .inl (fun _ => 0))), (q5, .inl (E.2 0, 403, .inl (fun _ => 0))), (q6, .inl (E.2 1, 403, .inr (.inl (fun _ => 0)))), (q7, .inl (E.2 1, 12, .inr (.inl (fun _ => 0)))), (q8, .inl (E.2 0, 2, .inl (fun _ => 0))), (q9, .inl (E.2 0, 40, .inl (fun _ => 0))), (q10, .inl (E.2 0, 40, .inl (fun _ => 0))), (q11, .inl (E.2 0, 40, .inl (fun _ => 0))), (q12, .inl (E.2 0, 40, .inl (fun _ => 0))), (q13, .inl (E.2 0, 40, .inl (fun _ => 0))), (q14, .inl (E.2 0, 40, .inl (fun _ => 0))), (q15, .inl (E.2 0, 2, .inl (fun _ => 0))), (q16, .inl (E.2 0, 400, .inl (fun _ => 0))), (q17, .inl (E.2 0, 400, .inl (fun _ => 0))), (q18, .inl (E.2 0, 400, .inl (fun _ => 0))), (q19, .inl (E.2 0, 400, .inl (fun _ => 0))), (q20, .inl (E.2 0, 1000, .inl (fun _ => 0))), (q21, .inl (E.2 0, 1000, .inl (fun _ => 0))), (q22, .inl (E.2 0, 48, .inl (fun _ => 0))), (q23, .inl (E.2 0, 8, .inl (fun _ => 0))), (q24, .inl (E.2 0, 8, .inl (fun _ => 0))), (q25, .inl (E.2 0, 8, .inl (fun _ => 0))), (q26, .inl (E.2 3, 12800, .inl (fun _ => 0))), (q27, .inl (E.2 0, 160, .inl (fun _ => 0))), (q28, .inl (E.2 3, 1600, .inl (fun _ => 0))), (q29, .inl (E.2 0, 8, .inl (fun _ => 0))), (q30, .inl (E.2 3, 200, .inl (fun _ => 0))), (q31, .inl (E.2 3, 200, .inl (fun _ => 0))), (q32, .inl (E.2 3, 200, .inl (fun _ => 0))), (q33, .inl (E.2 0, 200, .inl (fun _ => 0))), (q34, .inl (E.2 0, 1000, .inl (fun _ => 0))), (q35, .inl (E.2 0, 1000, .inl (fun _ => 0))), (q36, .inl (E.2 0, 1000, .inl (fun _ => 0))), (q37, .inl (E.2 0, 1600, .inl (fun _ => 0))), (q38, .inl (E.2 0, 200, .inl (fun _ => 0))), (q39, .inl (E.2 0, 5, .inl (fun _ => 0))), (q40, .inl (E.2 0, 100, .inl (fun _ => 0))), (q41, .inl (E.2 0, 6, .inl (fun _ => 0))), (q42, .inl (E.2 0, 5, .inl (fun _ => 0))), (q43, .inl (E.2 0, 400, .inl (fun _ => 0))), (q44, .inl (E.2 0, 400, .inl (fun _ => 0)))]) rfl ?_
  have hN : ([.int 0, .ref q1, .int 0, .ref q2, .int 0, .ref q3, .ref q4, .ref q5, .ref q6, .ref q7, .int 0, .int 0, .int 0, .int 0, .int 0, .int 0, .int 0, .int (-1), .int 0, .int 0, .ref q8, .ref q9, .ref q10, .ref q11, .ref q12, .ref q13, .ref q14, .ref q15, .ref q16, .ref q17, .ref q18, .ref q19, .int 0, .ref q20, .ref q21, .ref q22, .int 0, .int 0, .ref q23, .int 0, .ref q24, .ref q25, .ref q26, .ref q27, .int 0, .ref q28, .ref q29, .ref q30, .ref q31, .ref q32, .ref q33, .ref q34, .ref q35, .ref q36, .ref q37, .ref q38, .ref q39, .ref q40, .ref q41, .ref q42, .int 0, .ref q43, .ref q44, .null, .null, .null, .null, .null, .null, .null, .null, .int 0, .null, .null, .null, .null, .null, .null, .null, .null, .null, .int 0, .null, .null, .null] : List Value).length = 85 := rfl
  refine k_aload_n (pc := 383) dX12_init_383 rfl (x := h0) rfl ?_
  refine k_sipush (pc := 384) dX12_init_384 (v := 400) (by decide) ?_
  refine k_newa (pc := 387) (t := 0) (ty := .int) (N' := 400) (a0 := (400, .inl (fun _ => 0))) rfl rfl (fun _ _ h => h) kA_int (fun _ => rfl) (by decide) (by decide) (by decide) (by decide) (by decide) dX12_init_387 (fun q45 => ?_)
  refine k_putF (pc := 389) rfl hN (by decide) dX12_init_389 kf_X12_152 rfl rfl (fun hN => ?_)
  refine k_aload_n (pc := 392) dX12_init_392 rfl (x := h0) rfl ?_
  refine k_sipush (pc := 393) dX12_init_393 (v := 400) (by decide) ?_
  refine k_newa (pc := 396) (t := 0) (ty := .int) (N' := 400) (a0 := (400, .inl (fun _ => 0))) rfl rfl (fun _ _ h => h) kA_int (fun _ => rfl) (by decide) (by decide) (by decide) (by decide) (by decide) dX12_init_396 (fun q46 => ?_)
  refine k_putF (pc := 398) rfl hN (by decide) dX12_init_398 kf_X12_155 rfl rfl (fun hN => ?_)
  refine k_aload_n (pc := 401) dX12_init_401 rfl (x := h0) rfl ?_
  refine k_sipush (pc := 402) dX12_init_402 (v := 400) (by decide) ?_
  refine k_newa (pc := 405) (t := 0) (ty := .int) (N' := 400) (a0 := (400, .inl (fun _ => 0))) rfl rfl (fun _ _ h => h) kA_int (fun _ => rfl) (by decide) (by decide) (by decide) (by decide) (by decide) dX12_init_405 (fun q47 => ?_)
  refine k_putF (pc := 407) rfl hN (by decide) dX12_init_407 kf_X12_158 rfl rfl (fun hN => ?_)
  refine k_aload_n (pc := 410) dX12_init_410 rfl (x := h0) rfl ?_
  refine k_sipush (pc := 411) dX12_init_411 (v := 400) (by decide) ?_
  refine k_newa (pc := 414) (t := 0) (ty := .int) (N' := 400) (a0 := (400, .inl (fun _ => 0))) rfl rfl (fun _ _ h => h) kA_int (fun _ => rfl) (by decide) (by decide) (by decide) (by decide) (by decide) dX12_init_414 (fun q48 => ?_)
  refine k_putF (pc := 416) rfl hN (by decide) dX12_init_416 kf_X12_161 rfl rfl (fun hN => ?_)
  refine k_aload_n (pc := 419) dX12_init_419 rfl (x := h0) rfl ?_
  refine k_sipush (pc := 420) dX12_init_420 (v := 400) (by decide) ?_
  refine k_newa (pc := 423) (t := 0) (ty := .int) (N' := 400) (a0 := (400, .inl (fun _ => 0))) rfl rfl (fun _ _ h => h) kA_int (fun _ => rfl) (by decide) (by decide) (by decide) (by decide) (by decide) dX12_init_423 (fun q49 => ?_)
  refine k_putF (pc := 425) rfl hN (by decide) dX12_init_425 kf_X12_164 rfl rfl (fun hN => ?_)
  refine k_eq (w' := (h0, .inr (12, [.int 0, .ref q1, .int 0, .ref q2, .int 0, .ref q3, .ref q4, .ref q5, .ref q6, .ref q7, .int 0, .int 0, .int 0, .int 0, .int 0, .int 0, .int 0, .int (-1), .int 0, .int 0, .ref q8, .ref q9, .ref q10, .ref q11, .ref q12, .ref q13, .ref q14, .ref q15, .ref q16, .ref q17, .ref q18, .ref q19, .int 0, .ref q20, .ref q21, .ref q22, .int 0, .int 0, .ref q23, .int 0, .ref q24, .ref q25, .ref q26, .ref q27, .int 0, .ref q28, .ref q29, .ref q30, .ref q31, .ref q32, .ref q33, .ref q34, .ref q35, .ref q36, .ref q37, .ref q38, .ref q39, .ref q40, .ref q41, .ref q42, .int 0, .ref q43, .ref q44, .ref q45, .ref q46, .ref q47, .ref q48, .ref q49, .null, .null, .null, .int 0, .null, .null, .null, .null, .null, .null, .null, .null, .null, .int 0, .null, .null, .null])) :: [(q1, .inl (E.2 2, 2000, .inl (fun _ => 0))), (q2, .inl (E.2 2, 2000, .inl (fun _ => 0))), (q3, .inl (E.2 0, 403, .inl (fun _ => 0))), (q4, .inl (E.2 0, 403, .inl (fun _ => 0))), (q5, .inl (E.2 0, 403, .inl (fun _ => 0))), (q6, .inl (E.2 1, 403, .inr (.inl (fun _ => 0)))), (q7, .inl (E.2 1, 12, .inr (.inl (fun _ => 0)))), (q8, .inl (E.2 0, 2, .inl (fun _ => 0))), (q9, .inl (E.2 0, 40, .inl (fun _ => 0))), (q10, .inl (E.2 0, 40, .inl (fun _ => 0))), (q11, .inl (E.2 0, 40, .inl (fun _ => 0))), (q12, .inl (E.2 0, 40, .inl (fun _ => 0))), (q13, .inl (E.2 0, 40, .inl (fun _ => 0))), (q14, .inl (E.2 0, 40, .inl (fun _ => 0))), (q15, .inl (E.2 0, 2, .inl (fun _ => 0))), (q16, .inl (E.2 0, 400, .inl (fun _ => 0))), (q17, .inl (E.2 0, 400, .inl (fun _ => 0))), (q18, .inl (E.2 0, 400, .inl (fun _ => 0))), (q19, .inl (E.2 0, 400, .inl (fun _ => 0))), (q20, .inl (E.2 0, 1000, .inl (fun _ => 0))), (q21, .inl (E.2 0, 1000, .inl (fun _ => 0))), (q22, .inl (E.2 0, 48, .inl (fun _ => 0))), (q23, .inl (E.2 0, 8, .inl (fun _ => 0))), (q24, .inl (E.2 0, 8, .inl (fun _ => 0))), (q25, .inl (E.2 0, 8, .inl (fun _ => 0))), (q26, .inl (E.2 3, 12800, .inl (fun _ => 0))), (q27, .inl (E.2 0, 160, .inl (fun _ => 0))), (q28, .inl (E.2 3, 1600, .inl (fun _ => 0))), (q29, .inl (E.2 0, 8, .inl (fun _ => 0))), (q30, .inl (E.2 3, 200, .inl (fun _ => 0))), (q31, .inl (E.2 3, 200, .inl (fun _ => 0))), (q32, .inl (E.2 3, 200, .inl (fun _ => 0))), (q33, .inl (E.2 0, 200, .inl (fun _ => 0))), (q34, .inl (E.2 0, 1000, .inl (fun _ => 0))), (q35, .inl (E.2 0, 1000, .inl (fun _ => 0))), (q36, .inl (E.2 0, 1000, .inl (fun _ => 0))), (q37, .inl (E.2 0, 1600, .inl (fun _ => 0))), (q38, .inl (E.2 0, 200, .inl (fun _ => 0))), (q39, .inl (E.2 0, 5, .inl (fun _ => 0))), (q40, .inl (E.2 0, 100, .inl (fun _ => 0))), (q41, .inl (E.2 0, 6, .inl (fun _ => 0))), (q42, .inl (E.2 0, 5, .inl (fun _ => 0))), (q43, .inl (E.2 0, 400, .inl (fun _ => 0))), (q44, .inl (E.2 0, 400, .inl (fun _ => 0))), (q45, .inl (E.2 0, 400, .inl (fun _ => 0))), (q46, .inl (E.2 0, 400, .inl (fun _ => 0))), (q47, .inl (E.2 0, 400, .inl (fun _ => 0))), (q48, .inl (E.2 0, 400, .inl (fun _ => 0))), (q49, .inl (E.2 0, 400, .inl (fun _ => 0)))]) rfl ?_
  have hN : ([.int 0, .ref q1, .int 0, .ref q2, .int 0, .ref q3, .ref q4, .ref q5, .ref q6, .ref q7, .int 0, .int 0, .int 0, .int 0, .int 0, .int 0, .int 0, .int (-1), .int 0, .int 0, .ref q8, .ref q9, .ref q10, .ref q11, .ref q12, .ref q13, .ref q14, .ref q15, .ref q16, .ref q17, .ref q18, .ref q19, .int 0, .ref q20, .ref q21, .ref q22, .int 0, .int 0, .ref q23, .int 0, .ref q24, .ref q25, .ref q26, .ref q27, .int 0, .ref q28, .ref q29, .ref q30, .ref q31, .ref q32, .ref q33, .ref q34, .ref q35, .ref q36, .ref q37, .ref q38, .ref q39, .ref q40, .ref q41, .ref q42, .int 0, .ref q43, .ref q44, .ref q45, .ref q46, .ref q47, .ref q48, .ref q49, .null, .null, .null, .int 0, .null, .null, .null, .null, .null, .null, .null, .null, .null, .int 0, .null, .null, .null] : List Value).length = 85 := rfl
  refine k_aload_n (pc := 428) dX12_init_428 rfl (x := h0) rfl ?_
  refine k_sipush (pc := 429) dX12_init_429 (v := 400) (by decide) ?_
  refine k_newa (pc := 432) (t := 0) (ty := .int) (N' := 400) (a0 := (400, .inl (fun _ => 0))) rfl rfl (fun _ _ h => h) kA_int (fun _ => rfl) (by decide) (by decide) (by decide) (by decide) (by decide) dX12_init_432 (fun q50 => ?_)
  refine k_putF (pc := 434) rfl hN (by decide) dX12_init_434 kf_X12_167 rfl rfl (fun hN => ?_)
  refine k_aload_n (pc := 437) dX12_init_437 rfl (x := h0) rfl ?_
  refine k_sipush (pc := 438) dX12_init_438 (v := 400) (by decide) ?_
  refine k_newa (pc := 441) (t := 0) (ty := .int) (N' := 400) (a0 := (400, .inl (fun _ => 0))) rfl rfl (fun _ _ h => h) kA_int (fun _ => rfl) (by decide) (by decide) (by decide) (by decide) (by decide) dX12_init_441 (fun q51 => ?_)
  refine k_putF (pc := 443) rfl hN (by decide) dX12_init_443 kf_X12_170 rfl rfl (fun hN => ?_)
  refine k_aload_n (pc := 446) dX12_init_446 rfl (x := h0) rfl ?_
  refine k_sipush (pc := 447) dX12_init_447 (v := 1600) (by decide) ?_
  refine k_newa (pc := 450) (t := 0) (ty := .int) (N' := 1600) (a0 := (1600, .inl (fun _ => 0))) rfl rfl (fun _ _ h => h) kA_int (fun _ => rfl) (by decide) (by decide) (by decide) (by decide) (by decide) dX12_init_450 (fun q52 => ?_)
  refine k_putF (pc := 452) rfl hN (by decide) dX12_init_452 kf_X12_173 rfl rfl (fun hN => ?_)
  refine k_aload_n (pc := 455) dX12_init_455 rfl (x := h0) rfl ?_
  refine k_bipush (pc := 456) dX12_init_456 (v := 6) (by decide) ?_
  refine k_newa (pc := 458) (t := 0) (ty := .int) (N' := 6) (a0 := (6, .inl (fun _ => 0))) rfl rfl (fun _ _ h => h) kA_int (fun _ => rfl) (by decide) (by decide) (by decide) (by decide) (by decide) dX12_init_458 (fun q53 => ?_)
  refine k_putF (pc := 460) rfl hN (by decide) dX12_init_460 kf_X12_176 rfl rfl (fun hN => ?_)
  refine k_aload_n (pc := 463) dX12_init_463 rfl (x := h0) rfl ?_
  refine k_sipush (pc := 464) dX12_init_464 (v := 500) (by decide) ?_
  refine k_newa (pc := 467) (t := 0) (ty := .int) (N' := 500) (a0 := (500, .inl (fun _ => 0))) rfl rfl (fun _ _ h => h) kA_int (fun _ => rfl) (by decide) (by decide) (by decide) (by decide) (by decide) dX12_init_467 (fun q54 => ?_)
  refine k_putF (pc := 469) rfl hN (by decide) dX12_init_469 kf_X12_179 rfl rfl (fun hN => ?_)
  refine k_eq (w' := (h0, .inr (12, [.int 0, .ref q1, .int 0, .ref q2, .int 0, .ref q3, .ref q4, .ref q5, .ref q6, .ref q7, .int 0, .int 0, .int 0, .int 0, .int 0, .int 0, .int 0, .int (-1), .int 0, .int 0, .ref q8, .ref q9, .ref q10, .ref q11, .ref q12, .ref q13, .ref q14, .ref q15, .ref q16, .ref q17, .ref q18, .ref q19, .int 0, .ref q20, .ref q21, .ref q22, .int 0, .int 0, .ref q23, .int 0, .ref q24, .ref q25, .ref q26, .ref q27, .int 0, .ref q28, .ref q29, .ref q30, .ref q31, .ref q32, .ref q33, .ref q34, .ref q35, .ref q36, .ref q37, .ref q38, .ref q39, .ref q40, .ref q41, .ref q42, .int 0, .ref q43, .ref q44, .ref q45, .ref q46, .ref q47, .ref q48, .ref q49, .ref q50, .ref q51, .ref q52, .int 0, .ref q53, .ref q54, .null, .null, .null, .null, .null, .null, .null, .int 0, .null, .null, .null])) :: [(q1, .inl (E.2 2, 2000, .inl (fun _ => 0))), (q2, .inl (E.2 2, 2000, .inl (fun _ => 0))), (q3, .inl (E.2 0, 403, .inl (fun _ => 0))), (q4, .inl (E.2 0, 403, .inl (fun _ => 0))), (q5, .inl (E.2 0, 403, .inl (fun _ => 0))), (q6, .inl (E.2 1, 403, .inr (.inl (fun _ => 0)))), (q7, .inl (E.2 1, 12, .inr (.inl (fun _ => 0)))), (q8, .inl (E.2 0, 2, .inl (fun _ => 0))), (q9, .inl (E.2 0, 40, .inl (fun _ => 0))), (q10, .inl (E.2 0, 40, .inl (fun _ => 0))), (q11, .inl (E.2 0, 40, .inl (fun _ => 0))), (q12, .inl (E.2 0, 40, .inl (fun _ => 0))), (q13, .inl (E.2 0, 40, .inl (fun _ => 0))), (q14, .inl (E.2 0, 40, .inl (fun _ => 0))), (q15, .inl (E.2 0, 2, .inl (fun _ => 0))), (q16, .inl (E.2 0, 400, .inl (fun _ => 0))), (q17, .inl (E.2 0, 400, .inl (fun _ => 0))), (q18, .inl (E.2 0, 400, .inl (fun _ => 0))), (q19, .inl (E.2 0, 400, .inl (fun _ => 0))), (q20, .inl (E.2 0, 1000, .inl (fun _ => 0))), (q21, .inl (E.2 0, 1000, .inl (fun _ => 0))), (q22, .inl (E.2 0, 48, .inl (fun _ => 0))), (q23, .inl (E.2 0, 8, .inl (fun _ => 0))), (q24, .inl (E.2 0, 8, .inl (fun _ => 0))), (q25, .inl (E.2 0, 8, .inl (fun _ => 0))), (q26, .inl (E.2 3, 12800, .inl (fun _ => 0))), (q27, .inl (E.2 0, 160, .inl (fun _ => 0))), (q28, .inl (E.2 3, 1600, .inl (fun _ => 0))), (q29, .inl (E.2 0, 8, .inl (fun _ => 0))), (q30, .inl (E.2 3, 200, .inl (fun _ => 0))), (q31, .inl (E.2 3, 200, .inl (fun _ => 0))), (q32, .inl (E.2 3, 200, .inl (fun _ => 0))), (q33, .inl (E.2 0, 200, .inl (fun _ => 0))), (q34, .inl (E.2 0, 1000, .inl (fun _ => 0))), (q35, .inl (E.2 0, 1000, .inl (fun _ => 0))), (q36, .inl (E.2 0, 1000, .inl (fun _ => 0))), (q37, .inl (E.2 0, 1600, .inl (fun _ => 0))), (q38, .inl (E.2 0, 200, .inl (fun _ => 0))), (q39, .inl (E.2 0, 5, .inl (fun _ => 0))), (q40, .inl (E.2 0, 100, .inl (fun _ => 0))), (q41, .inl (E.2 0, 6, .inl (fun _ => 0))), (q42, .inl (E.2 0, 5, .inl (fun _ => 0))), (q43, .inl (E.2 0, 400, .inl (fun _ => 0))), (q44, .inl (E.2 0, 400, .inl (fun _ => 0))), (q45, .inl (E.2 0, 400, .inl (fun _ => 0))), (q46, .inl (E.2 0, 400, .inl (fun _ => 0))), (q47, .inl (E.2 0, 400, .inl (fun _ => 0))), (q48, .inl (E.2 0, 400, .inl (fun _ => 0))), (q49, .inl (E.2 0, 400, .inl (fun _ => 0))), (q50, .inl (E.2 0, 400, .inl (fun _ => 0))), (q51, .inl (E.2 0, 400, .inl (fun _ => 0))), (q52, .inl (E.2 0, 1600, .inl (fun _ => 0))), (q53, .inl (E.2 0, 6, .inl (fun _ => 0))), (q54, .inl (E.2 0, 500, .inl (fun _ => 0)))]) rfl ?_
  have hN : ([.int 0, .ref q1, .int 0, .ref q2, .int 0, .ref q3, .ref q4, .ref q5, .ref q6, .ref q7, .int 0, .int 0, .int 0, .int 0, .int 0, .int 0, .int 0, .int (-1), .int 0, .int 0, .ref q8, .ref q9, .ref q10, .ref q11, .ref q12, .ref q13, .ref q14, .ref q15, .ref q16, .ref q17, .ref q18, .ref q19, .int 0, .ref q20, .ref q21, .ref q22, .int 0, .int 0, .ref q23, .int 0, .ref q24, .ref q25, .ref q26, .ref q27, .int 0, .ref q28, .ref q29, .ref q30, .ref q31, .ref q32, .ref q33, .ref q34, .ref q35, .ref q36, .ref q37, .ref q38, .ref q39, .ref q40, .ref q41, .ref q42, .int 0, .ref q43, .ref q44, .ref q45, .ref q46, .ref q47, .ref q48, .ref q49, .ref q50, .ref q51, .ref q52, .int 0, .ref q53, .ref q54, .null, .null, .null, .null, .null, .null, .null, .int 0, .null, .null, .null] : List Value).length = 85 := rfl
  refine k_aload_n (pc := 472) dX12_init_472 rfl (x := h0) rfl ?_
  refine k_sipush (pc := 473) dX12_init_473 (v := 400) (by decide) ?_
  refine k_newa (pc := 476) (t := 0) (ty := .int) (N' := 400) (a0 := (400, .inl (fun _ => 0))) rfl rfl (fun _ _ h => h) kA_int (fun _ => rfl) (by decide) (by decide) (by decide) (by decide) (by decide) dX12_init_476 (fun q55 => ?_)
  refine k_putF (pc := 478) rfl hN (by decide) dX12_init_478 kf_X12_182 rfl rfl (fun hN => ?_)
  refine k_aload_n (pc := 481) dX12_init_481 rfl (x := h0) rfl ?_
  refine k_sipush (pc := 482) dX12_init_482 (v := 400) (by decide) ?_
  refine k_newa (pc := 485) (t := 0) (ty := .int) (N' := 400) (a0 := (400, .inl (fun _ => 0))) rfl rfl (fun _ _ h => h) kA_int (fun _ => rfl) (by decide) (by decide) (by decide) (by decide) (by decide) dX12_init_485 (fun q56 => ?_)
  refine k_putF (pc := 487) rfl hN (by decide) dX12_init_487 kf_X12_185 rfl rfl (fun hN => ?_)
  refine k_aload_n (pc := 490) dX12_init_490 rfl (x := h0) rfl ?_
  refine k_sipush (pc := 491) dX12_init_491 (v := 400) (by decide) ?_
  refine k_newa (pc := 494) (t := 3) (ty := .boolean) (N' := 400) (a0 := (400, .inl (fun _ => 0))) rfl rfl (fun _ _ h => h) kA_boolean (fun _ => rfl) (by decide) (by decide) (by decide) (by decide) (by decide) dX12_init_494 (fun q57 => ?_)
  refine k_putF (pc := 496) rfl hN (by decide) dX12_init_496 kf_X12_188 rfl rfl (fun hN => ?_)
  refine k_aload_n (pc := 499) dX12_init_499 rfl (x := h0) rfl ?_
  refine k_bipush (pc := 500) dX12_init_500 (v := 8) (by decide) ?_
  refine k_newa (pc := 502) (t := 0) (ty := .int) (N' := 8) (a0 := (8, .inl (fun _ => 0))) rfl rfl (fun _ _ h => h) kA_int (fun _ => rfl) (by decide) (by decide) (by decide) (by decide) (by decide) dX12_init_502 (fun q58 => ?_)
  refine k_putF (pc := 504) rfl hN (by decide) dX12_init_504 kf_X12_191 rfl rfl (fun hN => ?_)
  refine k_aload_n (pc := 507) dX12_init_507 rfl (x := h0) rfl ?_
  refine k_bipush (pc := 508) dX12_init_508 (v := 8) (by decide) ?_
  refine k_newa (pc := 510) (t := 0) (ty := .int) (N' := 8) (a0 := (8, .inl (fun _ => 0))) rfl rfl (fun _ _ h => h) kA_int (fun _ => rfl) (by decide) (by decide) (by decide) (by decide) (by decide) dX12_init_510 (fun q59 => ?_)
  refine k_putF (pc := 512) rfl hN (by decide) dX12_init_512 kf_X12_194 rfl rfl (fun hN => ?_)
  refine k_eq (w' := (h0, .inr (12, [.int 0, .ref q1, .int 0, .ref q2, .int 0, .ref q3, .ref q4, .ref q5, .ref q6, .ref q7, .int 0, .int 0, .int 0, .int 0, .int 0, .int 0, .int 0, .int (-1), .int 0, .int 0, .ref q8, .ref q9, .ref q10, .ref q11, .ref q12, .ref q13, .ref q14, .ref q15, .ref q16, .ref q17, .ref q18, .ref q19, .int 0, .ref q20, .ref q21, .ref q22, .int 0, .int 0, .ref q23, .int 0, .ref q24, .ref q25, .ref q26, .ref q27, .int 0, .ref q28, .ref q29, .ref q30, .ref q31, .ref q32, .ref q33, .ref q34, .ref q35, .ref q36, .ref q37, .ref q38, .ref q39, .ref q40, .ref q41, .ref q42, .int 0, .ref q43, .ref q44, .ref q45, .ref q46, .ref q47, .ref q48, .ref q49, .ref q50, .ref q51, .ref q52, .int 0, .ref q53, .ref q54, .ref q55, .ref q56, .ref q57, .ref q58, .ref q59, .null, .null, .int 0, .null, .null, .null])) :: [(q1, .inl (E.2 2, 2000, .inl (fun _ => 0))), (q2, .inl (E.2 2, 2000, .inl (fun _ => 0))), (q3, .inl (E.2 0, 403, .inl (fun _ => 0))), (q4, .inl (E.2 0, 403, .inl (fun _ => 0))), (q5, .inl (E.2 0, 403, .inl (fun _ => 0))), (q6, .inl (E.2 1, 403, .inr (.inl (fun _ => 0)))), (q7, .inl (E.2 1, 12, .inr (.inl (fun _ => 0)))), (q8, .inl (E.2 0, 2, .inl (fun _ => 0))), (q9, .inl (E.2 0, 40, .inl (fun _ => 0))), (q10, .inl (E.2 0, 40, .inl (fun _ => 0))), (q11, .inl (E.2 0, 40, .inl (fun _ => 0))), (q12, .inl (E.2 0, 40, .inl (fun _ => 0))), (q13, .inl (E.2 0, 40, .inl (fun _ => 0))), (q14, .inl (E.2 0, 40, .inl (fun _ => 0))), (q15, .inl (E.2 0, 2, .inl (fun _ => 0))), (q16, .inl (E.2 0, 400, .inl (fun _ => 0))), (q17, .inl (E.2 0, 400, .inl (fun _ => 0))), (q18, .inl (E.2 0, 400, .inl (fun _ => 0))), (q19, .inl (E.2 0, 400, .inl (fun _ => 0))), (q20, .inl (E.2 0, 1000, .inl (fun _ => 0))), (q21, .inl (E.2 0, 1000, .inl (fun _ => 0))), (q22, .inl (E.2 0, 48, .inl (fun _ => 0))), (q23, .inl (E.2 0, 8, .inl (fun _ => 0))), (q24, .inl (E.2 0, 8, .inl (fun _ => 0))), (q25, .inl (E.2 0, 8, .inl (fun _ => 0))), (q26, .inl (E.2 3, 12800, .inl (fun _ => 0))), (q27, .inl (E.2 0, 160, .inl (fun _ => 0))), (q28, .inl (E.2 3, 1600, .inl (fun _ => 0))), (q29, .inl (E.2 0, 8, .inl (fun _ => 0))), (q30, .inl (E.2 3, 200, .inl (fun _ => 0))), (q31, .inl (E.2 3, 200, .inl (fun _ => 0))), (q32, .inl (E.2 3, 200, .inl (fun _ => 0))), (q33, .inl (E.2 0, 200, .inl (fun _ => 0))), (q34, .inl (E.2 0, 1000, .inl (fun _ => 0))), (q35, .inl (E.2 0, 1000, .inl (fun _ => 0))), (q36, .inl (E.2 0, 1000, .inl (fun _ => 0))), (q37, .inl (E.2 0, 1600, .inl (fun _ => 0))), (q38, .inl (E.2 0, 200, .inl (fun _ => 0))), (q39, .inl (E.2 0, 5, .inl (fun _ => 0))), (q40, .inl (E.2 0, 100, .inl (fun _ => 0))), (q41, .inl (E.2 0, 6, .inl (fun _ => 0))), (q42, .inl (E.2 0, 5, .inl (fun _ => 0))), (q43, .inl (E.2 0, 400, .inl (fun _ => 0))), (q44, .inl (E.2 0, 400, .inl (fun _ => 0))), (q45, .inl (E.2 0, 400, .inl (fun _ => 0))), (q46, .inl (E.2 0, 400, .inl (fun _ => 0))), (q47, .inl (E.2 0, 400, .inl (fun _ => 0))), (q48, .inl (E.2 0, 400, .inl (fun _ => 0))), (q49, .inl (E.2 0, 400, .inl (fun _ => 0))), (q50, .inl (E.2 0, 400, .inl (fun _ => 0))), (q51, .inl (E.2 0, 400, .inl (fun _ => 0))), (q52, .inl (E.2 0, 1600, .inl (fun _ => 0))), (q53, .inl (E.2 0, 6, .inl (fun _ => 0))), (q54, .inl (E.2 0, 500, .inl (fun _ => 0))), (q55, .inl (E.2 0, 400, .inl (fun _ => 0))), (q56, .inl (E.2 0, 400, .inl (fun _ => 0))), (q57, .inl (E.2 3, 400, .inl (fun _ => 0))), (q58, .inl (E.2 0, 8, .inl (fun _ => 0))), (q59, .inl (E.2 0, 8, .inl (fun _ => 0)))]) rfl ?_
  have hN : ([.int 0, .ref q1, .int 0, .ref q2, .int 0, .ref q3, .ref q4, .ref q5, .ref q6, .ref q7, .int 0, .int 0, .int 0, .int 0, .int 0, .int 0, .int 0, .int (-1), .int 0, .int 0, .ref q8, .ref q9, .ref q10, .ref q11, .ref q12, .ref q13, .ref q14, .ref q15, .ref q16, .ref q17, .ref q18, .ref q19, .int 0, .ref q20, .ref q21, .ref q22, .int 0, .int 0, .ref q23, .int 0, .ref q24, .ref q25, .ref q26, .ref q27, .int 0, .ref q28, .ref q29, .ref q30, .ref q31, .ref q32, .ref q33, .ref q34, .ref q35, .ref q36, .ref q37, .ref q38, .ref q39, .ref q40, .ref q41, .ref q42, .int 0, .ref q43, .ref q44, .ref q45, .ref q46, .ref q47, .ref q48, .ref q49, .ref q50, .ref q51, .ref q52, .int 0, .ref q53, .ref q54, .ref q55, .ref q56, .ref q57, .ref q58, .ref q59, .null, .null, .int 0, .null, .null, .null] : List Value).length = 85 := rfl
  refine k_aload_n (pc := 515) dX12_init_515 rfl (x := h0) rfl ?_
  refine k_bipush (pc := 516) dX12_init_516 (v := 8) (by decide) ?_
  refine k_newa (pc := 518) (t := 0) (ty := .int) (N' := 8) (a0 := (8, .inl (fun _ => 0))) rfl rfl (fun _ _ h => h) kA_int (fun _ => rfl) (by decide) (by decide) (by decide) (by decide) (by decide) dX12_init_518 (fun q60 => ?_)
  refine k_putF (pc := 520) rfl hN (by decide) dX12_init_520 kf_X12_197 rfl rfl (fun hN => ?_)
  refine k_aload_n (pc := 523) dX12_init_523 rfl (x := h0) rfl ?_
  refine k_sipush (pc := 524) dX12_init_524 (v := 400) (by decide) ?_
  refine k_newa (pc := 527) (t := 3) (ty := .boolean) (N' := 400) (a0 := (400, .inl (fun _ => 0))) rfl rfl (fun _ _ h => h) kA_boolean (fun _ => rfl) (by decide) (by decide) (by decide) (by decide) (by decide) dX12_init_527 (fun q61 => ?_)
  refine k_putF (pc := 529) rfl hN (by decide) dX12_init_529 kf_X12_200 rfl rfl (fun hN => ?_)
  refine k_aload_n (pc := 532) dX12_init_532 rfl (x := h0) rfl ?_
  refine k_bipush (pc := 533) dX12_init_533 (v := 60) (by decide) ?_
  refine k_newa (pc := 535) (t := 0) (ty := .int) (N' := 60) (a0 := (60, .inl (fun _ => 0))) rfl rfl (fun _ _ h => h) kA_int (fun _ => rfl) (by decide) (by decide) (by decide) (by decide) (by decide) dX12_init_535 (fun q62 => ?_)
  refine k_putF (pc := 537) rfl hN (by decide) dX12_init_537 kf_X12_203 rfl rfl (fun hN => ?_)
  refine k_aload_n (pc := 540) dX12_init_540 rfl (x := h0) rfl ?_
  refine k_bipush (pc := 541) dX12_init_541 (v := 60) (by decide) ?_
  refine k_newa (pc := 543) (t := 0) (ty := .int) (N' := 60) (a0 := (60, .inl (fun _ => 0))) rfl rfl (fun _ _ h => h) kA_int (fun _ => rfl) (by decide) (by decide) (by decide) (by decide) (by decide) dX12_init_543 (fun q63 => ?_)
  refine k_putF (pc := 545) rfl hN (by decide) dX12_init_545 kf_X12_206 rfl rfl (fun hN => ?_)
  refine k_aload_n (pc := 548) dX12_init_548 rfl (x := h0) rfl ?_
  refine k_bipush (pc := 549) dX12_init_549 (v := 60) (by decide) ?_
  refine k_newa (pc := 551) (t := 0) (ty := .int) (N' := 60) (a0 := (60, .inl (fun _ => 0))) rfl rfl (fun _ _ h => h) kA_int (fun _ => rfl) (by decide) (by decide) (by decide) (by decide) (by decide) dX12_init_551 (fun q64 => ?_)
  refine k_putF (pc := 553) rfl hN (by decide) dX12_init_553 kf_X12_209 rfl rfl (fun hN => ?_)
  refine k_eq (w' := (h0, .inr (12, [.int 0, .ref q1, .int 0, .ref q2, .int 0, .ref q3, .ref q4, .ref q5, .ref q6, .ref q7, .int 0, .int 0, .int 0, .int 0, .int 0, .int 0, .int 0, .int (-1), .int 0, .int 0, .ref q8, .ref q9, .ref q10, .ref q11, .ref q12, .ref q13, .ref q14, .ref q15, .ref q16, .ref q17, .ref q18, .ref q19, .int 0, .ref q20, .ref q21, .ref q22, .int 0, .int 0, .ref q23, .int 0, .ref q24, .ref q25, .ref q26, .ref q27, .int 0, .ref q28, .ref q29, .ref q30, .ref q31, .ref q32, .ref q33, .ref q34, .ref q35, .ref q36, .ref q37, .ref q38, .ref q39, .ref q40, .ref q41, .ref q42, .int 0, .ref q43, .ref q44, .ref q45, .ref q46, .ref q47, .ref q48, .ref q49, .ref q50, .ref q51, .ref q52, .int 0, .ref q53, .ref q54, .ref q55, .ref q56, .ref q57, .ref q58, .ref q59, .ref q60, .ref q61, .int 0, .ref q62, .ref q63, .ref q64])) :: [(q1, .inl (E.2 2, 2000, .inl (fun _ => 0))), (q2, .inl (E.2 2, 2000, .inl (fun _ => 0))), (q3, .inl (E.2 0, 403, .inl (fun _ => 0))), (q4, .inl (E.2 0, 403, .inl (fun _ => 0))), (q5, .inl (E.2 0, 403, .inl (fun _ => 0))), (q6, .inl (E.2 1, 403, .inr (.inl (fun _ => 0)))), (q7, .inl (E.2 1, 12, .inr (.inl (fun _ => 0)))), (q8, .inl (E.2 0, 2, .inl (fun _ => 0))), (q9, .inl (E.2 0, 40, .inl (fun _ => 0))), (q10, .inl (E.2 0, 40, .inl (fun _ => 0))), (q11, .inl (E.2 0, 40, .inl (fun _ => 0))), (q12, .inl (E.2 0, 40, .inl (fun _ => 0))), (q13, .inl (E.2 0, 40, .inl (fun _ => 0))), (q14, .inl (E.2 0, 40, .inl (fun _ => 0))), (q15, .inl (E.2 0, 2, .inl (fun _ => 0))), (q16, .inl (E.2 0, 400, .inl (fun _ => 0))), (q17, .inl (E.2 0, 400, .inl (fun _ => 0))), (q18, .inl (E.2 0, 400, .inl (fun _ => 0))), (q19, .inl (E.2 0, 400, .inl (fun _ => 0))), (q20, .inl (E.2 0, 1000, .inl (fun _ => 0))), (q21, .inl (E.2 0, 1000, .inl (fun _ => 0))), (q22, .inl (E.2 0, 48, .inl (fun _ => 0))), (q23, .inl (E.2 0, 8, .inl (fun _ => 0))), (q24, .inl (E.2 0, 8, .inl (fun _ => 0))), (q25, .inl (E.2 0, 8, .inl (fun _ => 0))), (q26, .inl (E.2 3, 12800, .inl (fun _ => 0))), (q27, .inl (E.2 0, 160, .inl (fun _ => 0))), (q28, .inl (E.2 3, 1600, .inl (fun _ => 0))), (q29, .inl (E.2 0, 8, .inl (fun _ => 0))), (q30, .inl (E.2 3, 200, .inl (fun _ => 0))), (q31, .inl (E.2 3, 200, .inl (fun _ => 0))), (q32, .inl (E.2 3, 200, .inl (fun _ => 0))), (q33, .inl (E.2 0, 200, .inl (fun _ => 0))), (q34, .inl (E.2 0, 1000, .inl (fun _ => 0))), (q35, .inl (E.2 0, 1000, .inl (fun _ => 0))), (q36, .inl (E.2 0, 1000, .inl (fun _ => 0))), (q37, .inl (E.2 0, 1600, .inl (fun _ => 0))), (q38, .inl (E.2 0, 200, .inl (fun _ => 0))), (q39, .inl (E.2 0, 5, .inl (fun _ => 0))), (q40, .inl (E.2 0, 100, .inl (fun _ => 0))), (q41, .inl (E.2 0, 6, .inl (fun _ => 0))), (q42, .inl (E.2 0, 5, .inl (fun _ => 0))), (q43, .inl (E.2 0, 400, .inl (fun _ => 0))), (q44, .inl (E.2 0, 400, .inl (fun _ => 0))), (q45, .inl (E.2 0, 400, .inl (fun _ => 0))), (q46, .inl (E.2 0, 400, .inl (fun _ => 0))), (q47, .inl (E.2 0, 400, .inl (fun _ => 0))), (q48, .inl (E.2 0, 400, .inl (fun _ => 0))), (q49, .inl (E.2 0, 400, .inl (fun _ => 0))), (q50, .inl (E.2 0, 400, .inl (fun _ => 0))), (q51, .inl (E.2 0, 400, .inl (fun _ => 0))), (q52, .inl (E.2 0, 1600, .inl (fun _ => 0))), (q53, .inl (E.2 0, 6, .inl (fun _ => 0))), (q54, .inl (E.2 0, 500, .inl (fun _ => 0))), (q55, .inl (E.2 0, 400, .inl (fun _ => 0))), (q56, .inl (E.2 0, 400, .inl (fun _ => 0))), (q57, .inl (E.2 3, 400, .inl (fun _ => 0))), (q58, .inl (E.2 0, 8, .inl (fun _ => 0))), (q59, .inl (E.2 0, 8, .inl (fun _ => 0))), (q60, .inl (E.2 0, 8, .inl (fun _ => 0))), (q61, .inl (E.2 3, 400, .inl (fun _ => 0))), (q62, .inl (E.2 0, 60, .inl (fun _ => 0))), (q63, .inl (E.2 0, 60, .inl (fun _ => 0))), (q64, .inl (E.2 0, 60, .inl (fun _ => 0)))]) rfl ?_
  have hN : ([.int 0, .ref q1, .int 0, .ref q2, .int 0, .ref q3, .ref q4, .ref q5, .ref q6, .ref q7, .int 0, .int 0, .int 0, .int 0, .int 0, .int 0, .int 0, .int (-1), .int 0, .int 0, .ref q8, .ref q9, .ref q10, .ref q11, .ref q12, .ref q13, .ref q14, .ref q15, .ref q16, .ref q17, .ref q18, .ref q19, .int 0, .ref q20, .ref q21, .ref q22, .int 0, .int 0, .ref q23, .int 0, .ref q24, .ref q25, .ref q26, .ref q27, .int 0, .ref q28, .ref q29, .ref q30, .ref q31, .ref q32, .ref q33, .ref q34, .ref q35, .ref q36, .ref q37, .ref q38, .ref q39, .ref q40, .ref q41, .ref q42, .int 0, .ref q43, .ref q44, .ref q45, .ref q46, .ref q47, .ref q48, .ref q49, .ref q50, .ref q51, .ref q52, .int 0, .ref q53, .ref q54, .ref q55, .ref q56, .ref q57, .ref q58, .ref q59, .ref q60, .ref q61, .int 0, .ref q62, .ref q63, .ref q64] : List Value).length = 85 := rfl
  exact k_eq (w' := wX12 E.2 h0 (fun _ => 0) (fun i => [q1, q2, q3, q4, q5, q6, q7, q8, q9, q10, q11, q12, q13, q14, q15, q16, q17, q18, q19, q20, q21, q22, q23, q24, q25, q26, q27, q28, q29, q30, q31, q32, q33, q34, q35, q36, q37, q38, q39, q40, q41, q42, q43, q44, q45, q46, q47, q48, q49, q50, q51, q52, q53, q54, q55, q56, q57, q58, q59, q60, q61, q62, q63, q64].getD i 0)) rfl (kc_keys (by decide) (by decide))
