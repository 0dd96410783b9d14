theorem Ex.sb {l : Launch} {G : zG} {d : Nat} {y : zY} {pc : Nat} {lv lv' : List (Nat × Value)} {st : List Value} {M : zMem} {Q : Option Value → zMem → Prop} (k : Ex l G d y pc lv' st M Q) (h : zall lv lv') : Ex l G d y pc lv st M Q := Ex.sub h k
theorem x_mmax {l : Launch} {G : zG} {d : Nat} {y : zY} {pc idx : Nat} {lv : List (Nat × Value)} {st : List Value} {M : zMem} {Q : Option Value → zMem → Prop} {a b : Int32} (hd : decode y.2.1 pc = .ok (.invokestatic idx, 3)) (hk : Cond.methodLink y.1.cls idx Lib.Math.max.name ∈ zT) (hdd : 1 ≤ d) (hrm : (st.map fun v => v.category).sum ≤ 8) (k : Ex l G d y (pc + 3) lv (.int (if a < b then b else a) :: st) M Q) : Ex l G d y pc lv (.int b :: .int a :: st) M Q := by
  intro p e s m args below meth c H locs ls C hS hP hl
  have hT : ∀ w, w ∈ zT → w.before args s = true := fun w h => C.2.2.2.2.2.1 w (List.mem_cons_of_mem _ h)
  exact va_mmax C.1 C.2.1 (C.2.2.1.trans hl.1.symm) C.2.2.2.2.1 (hT _ hk) (hT _ (zT_of 933 (by decide +kernel) (by decide +kernel))) (hT _ (zT_of 95 (by decide +kernel) (by decide +kernel))) (hT _ (zT_of 934 (by decide +kernel) (by decide +kernel))) hdd (by show _ ≤ 40 * d; omega) (Nat.zero_le _) (Nat.zero_le _) hd (k p e s m args below meth c H locs ls C hS hP hl)
theorem x_mmin {l : Launch} {G : zG} {d : Nat} {y : zY} {pc idx : Nat} {lv : List (Nat × Value)} {st : List Value} {M : zMem} {Q : Option Value → zMem → Prop} {a b : Int32} (hd : decode y.2.1 pc = .ok (.invokestatic idx, 3)) (hk : Cond.methodLink y.1.cls idx Lib.Math.min.name ∈ zT) (hdd : 1 ≤ d) (hrm : (st.map fun v => v.category).sum ≤ 8) (k : Ex l G d y (pc + 3) lv (.int (if b < a then b else a) :: st) M Q) : Ex l G d y pc lv (.int b :: .int a :: st) M Q := by
  intro p e s m args below meth c H locs ls C hS hP hl
  have hT : ∀ w, w ∈ zT → w.before args s = true := fun w h => C.2.2.2.2.2.1 w (List.mem_cons_of_mem _ h)
  exact va_mmin C.1 C.2.1 (C.2.2.1.trans hl.1.symm) C.2.2.2.2.1 (hT _ hk) (hT _ (zT_of 922 (by decide +kernel) (by decide +kernel))) (hT _ (zT_of 95 (by decide +kernel) (by decide +kernel))) (hT _ (zT_of 923 (by decide +kernel) (by decide +kernel))) hdd (by show _ ≤ 40 * d; omega) (Nat.zero_le _) (Nat.zero_le _) hd (k p e s m args below meth c H locs ls C hS hP hl)
def fX11_isNight (x0 : Int32) (M : zMem) : Option (Int32 × zMem) :=
  if x0 < 0 then
  some ((0 : Int32), M)
  else
  if (200 : Int32) ≤ x0 then
  some ((0 : Int32), M)
  else
  some ((1 : Int32), M)
def fX0_isMarked (x1 : Int32) (x2 : Int32) (M : zMem) : Option (Int32 × zMem) :=
  zb2 (fX11_isNight x1 M) fun r3 M2 =>
  if r3 = 0 then
  some ((0 : Int32), M2)
  else
  (zldI M2 30 200 x1).bind fun v4 =>
  if (v4 &&& x2) = 0 then
  some ((0 : Int32), M2)
  else
  some ((1 : Int32), M2)
def fX0_isHoliday (x1 : Int32) (M : zMem) : Option (Int32 × zMem) :=
  zb2 (fX0_isMarked x1 (1 : Int32) M) fun r3 M2 =>
  zgb r3 (some (r3, M2))
def fX0_isFound (x1 : Int32) (M : zMem) : Option (Int32 × zMem) :=
  zb2 (fX0_isMarked x1 (2 : Int32) M) fun r3 M2 =>
  zgb r3 (some (r3, M2))
def fX0_isGone (x1 : Int32) (M : zMem) : Option (Int32 × zMem) :=
  zb2 (fX0_isMarked x1 (4 : Int32) M) fun r3 M2 =>
  zgb r3 (some (r3, M2))
def fX0_mark (x1 : Int32) (x2 : Int32) (M : zMem) : Option zMem :=
  zb2 (fX11_isNight x1 M) fun r3 M2 =>
  if r3 = 0 then
  some M2
  else
  (zldI M2 30 200 x1).bind fun v4 =>
  (zstI M2 30 200 x1 (v4 ||| x2)).bind fun M5 =>
  some M5
def fX0_setHoliday (x1 : Int32) (M : zMem) : Option zMem :=
  (fX0_mark x1 (1 : Int32) M).bind fun M2 =>
  some M2
def fX0_setFound (x1 : Int32) (M : zMem) : Option zMem :=
  (fX0_mark x1 (2 : Int32) M).bind fun M2 =>
  some M2
def fX0_setGone (x1 : Int32) (M : zMem) : Option zMem :=
  (fX0_mark x1 (4 : Int32) M).bind fun M2 =>
  some M2
def fX0_countGone_L22 (N : Nat) (k4 : Int32 → Int32 → zMem → Option (Int32 × zMem)) (x1 : Int32) (x2 : Int32) (M : zMem) : Option (Int32 × zMem) :=
  zlet (x2 + (1 : Int32)) fun x2_5 =>
  k4 x1 x2_5 M
def fX0_countGone_L4 (N : Nat) : Nat → Int32 → Int32 → zMem → Option (Int32 × zMem)
  | 0, _, _, _ => none
  | n + 1, x1, x2, M =>
  if (200 : Int32) ≤ x2 then
  some (x1, M)
  else
  zb2 (fX0_isGone x2 M) fun r3 M2 =>
  if r3 = 0 then
  fX0_countGone_L22 N (fX0_countGone_L4 N n) x1 x2 M2
  else
  zlet (x1 + (1 : Int32)) fun x1_4 =>
  fX0_countGone_L22 N (fX0_countGone_L4 N n) x1_4 x2 M2
def fX0_countGone (N : Nat)  (M : zMem) : Option (Int32 × zMem) :=
  fX0_countGone_L4 N N (0 : Int32) (0 : Int32) M
def fX0_areAlike_L34  (M : zMem) : Option (Int32 × zMem) :=
  some ((1 : Int32), M)
def fX0_areAlike (x1 : Int32) (x2 : Int32) (M : zMem) : Option (Int32 × zMem) :=
  zb2 (fX0_isHoliday x1 M) fun r3 M2 =>
  zb2 (fX0_isHoliday x2 M2) fun r6 M5 =>
  if r3 = r6 then
  zb2 (fX0_isHoliday x1 M5) fun r9 M8 =>
  if r9 = 0 then
  if (x1 - x1 / (7 : Int32) * (7 : Int32)) = (x2 - x2 / (7 : Int32) * (7 : Int32)) then
  fX0_areAlike_L34 M8
  else
  some ((0 : Int32), M8)
  else
  fX0_areAlike_L34 M8
  else
  some ((0 : Int32), M5)
def fX0_setHours (x1 : Int32) (x2 : Int32) (x3 : Int32) (M : zMem) : Option zMem :=
  zb2 (fX11_isNight x2 M) fun r3 M2 =>
  if r3 = 0 then
  some M2
  else
  if x1 < 0 then
  some M2
  else
  if (8 : Int32) ≤ x1 then
  some M2
  else
  (zldJ M2 31 200 x2).bind fun v4 =>
  (zstJ M2 31 200 x2 (v4 ||| (x3.toInt64 <<< ((x1 * (6 : Int32)).toInt64 &&& 63)))).bind fun M5 =>
  some M5
def fX0_hoursOf (x1 : Int32) (x2 : Int32) (M : zMem) : Option (Int32 × zMem) :=
  zb2 (fX11_isNight x2 M) fun r3 M2 =>
  if r3 = 0 then
  some ((0 : Int32), M2)
  else
  if x1 < 0 then
  some ((0 : Int32), M2)
  else
  if (8 : Int32) ≤ x1 then
  some ((0 : Int32), M2)
  else
  (zldJ M2 31 200 x2).bind fun v4 =>
  some (((v4.toUInt64 >>> ((x1 * (6 : Int32)).toInt64.toUInt64 &&& Int64.toUInt64 63)).toInt64.toInt32 &&& (63 : Int32)), M2)
def fX1_size  (M : zMem) : Option (Int32 × zMem) :=
  some ((M.1 47 9), M)
def fX1_beginNight  (M : zMem) : Option zMem :=
  zlet (zpI M 47 10 (M.1 47 9)) fun M1 =>
  some M1
def fX1_nightStart  (M : zMem) : Option (Int32 × zMem) :=
  some ((M.1 47 10), M)
def fX1_add (x1 : Int32) (x2 : Int32) (x3 : Int32) (x4 : Int32) (x5 : Int32) (x6 : Int32) (M : zMem) : Option (Int32 × zMem) :=
  if (400 : Int32) ≤ (M.1 47 9) then
  some ((-1 : Int32), M)
  else
  if ((M.1 47 9) - (M.1 47 10)) < (40 : Int32) then
  (zstI M 48 400 (M.1 47 9) x1).bind fun M1 =>
  (zstI M1 49 400 (M1.1 47 9) x2).bind fun M2 =>
  (zstI M2 50 400 (M2.1 47 9) x3).bind fun M3 =>
  (zstI M3 51 400 (M3.1 47 9) x4).bind fun M4 =>
  (zstI M4 52 400 (M4.1 47 9) x5).bind fun M5 =>
  (zstI M5 53 400 (M5.1 47 9) x6).bind fun M6 =>
  (zstI M6 54 400 (M6.1 47 9) (0 : Int32)).bind fun M7 =>
  (zstI M7 55 400 (M7.1 47 9) (-1 : Int32)).bind fun M8 =>
  (zstI M8 56 400 (M8.1 47 9) (-1 : Int32)).bind fun M9 =>
  zlet (zpI M9 47 9 ((M9.1 47 9) + (1 : Int32))) fun M10 =>
  some (((M10.1 47 9) - (1 : Int32)), M10)
  else
  some ((-1 : Int32), M)
def fX1_isCall (x1 : Int32) (M : zMem) : Option (Int32 × zMem) :=
  if x1 < 0 then
  some ((0 : Int32), M)
  else
  if (M.1 47 9) ≤ x1 then
  some ((0 : Int32), M)
  else
  some ((1 : Int32), M)
def fX1_nightOf (x1 : Int32) (M : zMem) : Option (Int32 × zMem) :=
  zb2 (fX1_isCall x1 M) fun r3 M2 =>
  if r3 = 0 then
  some ((-1 : Int32), M2)
  else
  (zldI M2 48 400 x1).bind fun v4 =>
  some (v4, M2)
def fX1_minuteOf (x1 : Int32) (M : zMem) : Option (Int32 × zMem) :=
  zb2 (fX1_isCall x1 M) fun r3 M2 =>
  if r3 = 0 then
  some ((-1 : Int32), M2)
  else
  (zldI M2 49 400 x1).bind fun v4 =>
  some (v4, M2)
def fX1_callerOf (x1 : Int32) (M : zMem) : Option (Int32 × zMem) :=
  zb2 (fX1_isCall x1 M) fun r3 M2 =>
  if r3 = 0 then
  some ((-1 : Int32), M2)
  else
  (zldI M2 50 400 x1).bind fun v4 =>
  some (v4, M2)
def fX1_needOf (x1 : Int32) (M : zMem) : Option (Int32 × zMem) :=
  zb2 (fX1_isCall x1 M) fun r3 M2 =>
  if r3 = 0 then
  some ((-1 : Int32), M2)
  else
  (zldI M2 51 400 x1).bind fun v4 =>
  some (v4, M2)
def fX1_topicOf (x1 : Int32) (M : zMem) : Option (Int32 × zMem) :=
  zb2 (fX1_isCall x1 M) fun r3 M2 =>
  if r3 = 0 then
  some ((-1 : Int32), M2)
  else
  (zldI M2 52 400 x1).bind fun v4 =>
  some (v4, M2)
def fX1_lengthOf (x1 : Int32) (M : zMem) : Option (Int32 × zMem) :=
  zb2 (fX1_isCall x1 M) fun r3 M2 =>
  if r3 = 0 then
  some ((0 : Int32), M2)
  else
  (zldI M2 53 400 x1).bind fun v4 =>
  some (v4, M2)
def fX1_stateOf (x1 : Int32) (M : zMem) : Option (Int32 × zMem) :=
  zb2 (fX1_isCall x1 M) fun r3 M2 =>
  if r3 = 0 then
  some ((-1 : Int32), M2)
  else
  (zldI M2 54 400 x1).bind fun v4 =>
  some (v4, M2)
def fX1_takerOf (x1 : Int32) (M : zMem) : Option (Int32 × zMem) :=
  zb2 (fX1_isCall x1 M) fun r3 M2 =>
  if r3 = 0 then
  some ((-1 : Int32), M2)
  else
  (zldI M2 55 400 x1).bind fun v4 =>
  some (v4, M2)
def fX1_sinceOf (x1 : Int32) (M : zMem) : Option (Int32 × zMem) :=
  zb2 (fX1_isCall x1 M) fun r3 M2 =>
  if r3 = 0 then
  some ((-1 : Int32), M2)
  else
  (zldI M2 56 400 x1).bind fun v4 =>
  some (v4, M2)
def fX1_endOf (x1 : Int32) (M : zMem) : Option (Int32 × zMem) :=
  zb2 (fX1_isCall x1 M) fun r3 M2 =>
  if r3 = 0 then
  some ((-1 : Int32), M2)
  else
  (zldI M2 54 400 x1).bind fun v4 =>
  if v4 = (1 : Int32) then
  (zldI M2 56 400 x1).bind fun v5 =>
  (zldI M2 53 400 x1).bind fun v6 =>
  some ((v5 + v6), M2)
  else
  some ((-1 : Int32), M2)
def fX1_isWaiting (x1 : Int32) (x2 : Int32) (M : zMem) : Option (Int32 × zMem) :=
  zb2 (fX1_isCall x1 M) fun r3 M2 =>
  if r3 = 0 then
  some ((0 : Int32), M2)
  else
  (zldI M2 54 400 x1).bind fun v4 =>
  if v4 = 0 then
  (zldI M2 49 400 x1).bind fun v5 =>
  if x2 < v5 then
  some ((0 : Int32), M2)
  else
  some ((1 : Int32), M2)
  else
  some ((0 : Int32), M2)
def fX1_give (x1 : Int32) (x2 : Int32) (x3 : Int32) (M : zMem) : Option zMem :=
  zb2 (fX1_isCall x1 M) fun r3 M2 =>
  if r3 = 0 then
  some M2
  else
  (zstI M2 54 400 x1 (1 : Int32)).bind fun M4 =>
  (zstI M4 55 400 x1 x2).bind fun M5 =>
  (zstI M5 56 400 x1 x3).bind fun M6 =>
  some M6
def fX1_drop (x1 : Int32) (x2 : Int32) (M : zMem) : Option zMem :=
  zb2 (fX1_isCall x1 M) fun r3 M2 =>
  if r3 = 0 then
  some M2
  else
  (zstI M2 54 400 x1 (2 : Int32)).bind fun M4 =>
  (zstI M4 56 400 x1 x2).bind fun M5 =>
  some M5
def fX1_leave (x1 : Int32) (M : zMem) : Option zMem :=
  zb2 (fX1_isCall x1 M) fun r3 M2 =>
  if r3 = 0 then
  some M2
  else
  (zstI M2 54 400 x1 (3 : Int32)).bind fun M4 =>
  some M4
def fX1_countState_L25 (N : Nat) (k4 : Int32 → Int32 → Int32 → zMem → Option (Int32 × zMem)) (x1 : Int32) (x2 : Int32) (x3 : Int32) (M : zMem) : Option (Int32 × zMem) :=
  zlet (x3 + (1 : Int32)) fun x3_3 =>
  k4 x1 x2 x3_3 M
def fX1_countState_L4 (N : Nat) : Nat → Int32 → Int32 → Int32 → zMem → Option (Int32 × zMem)
  | 0, _, _, _, _ => none
  | n + 1, x1, x2, x3, M =>
  if (M.1 47 9) ≤ x3 then
  some (x2, M)
  else
  (zldI M 54 400 x3).bind fun v1 =>
  if v1 = x1 then
  zlet (x2 + (1 : Int32)) fun x2_2 =>
  fX1_countState_L25 N (fX1_countState_L4 N n) x1 x2_2 x3 M
  else
  fX1_countState_L25 N (fX1_countState_L4 N n) x1 x2 x3 M
def fX1_countState (N : Nat) (x1 : Int32) (M : zMem) : Option (Int32 × zMem) :=
  fX1_countState_L4 N N x1 (0 : Int32) (0 : Int32) M
def fX1_minutesOf_L46 (N : Nat) (k5 : Int32 → Int32 → Int32 → Int32 → zMem → Option (Int32 × zMem)) (x1 : Int32) (x2 : Int32) (x3 : Int32) (x4 : Int32) (M : zMem) : Option (Int32 × zMem) :=
  zlet (x4 + (1 : Int32)) fun x4_5 =>
  k5 x1 x2 x3 x4_5 M
def fX1_minutesOf_L5 (N : Nat) : Nat → Int32 → Int32 → Int32 → Int32 → zMem → Option (Int32 × zMem)
  | 0, _, _, _, _, _ => none
  | n + 1, x1, x2, x3, x4, M =>
  if (M.1 47 9) ≤ x4 then
  some (x3, M)
  else
  (zldI M 48 400 x4).bind fun v1 =>
  if v1 = x2 then
  (zldI M 55 400 x4).bind fun v2 =>
  if v2 = x1 then
  (zldI M 53 400 x4).bind fun v3 =>
  zlet (x3 + v3) fun x3_4 =>
  fX1_minutesOf_L46 N (fX1_minutesOf_L5 N n) x1 x2 x3_4 x4 M
  else
  fX1_minutesOf_L46 N (fX1_minutesOf_L5 N n) x1 x2 x3 x4 M
  else
  fX1_minutesOf_L46 N (fX1_minutesOf_L5 N n) x1 x2 x3 x4 M
def fX1_minutesOf (N : Nat) (x1 : Int32) (x2 : Int32) (M : zMem) : Option (Int32 × zMem) :=
  fX1_minutesOf_L5 N N x1 x2 (0 : Int32) (0 : Int32) M
def fX1_hasHardCall_L71 (N : Nat) (k3 : Int32 → Int32 → Int32 → Int32 → zMem → Option (Int32 × zMem)) (x1 : Int32) (x2 : Int32) (x3 : Int32) (x4 : Int32) (M : zMem) : Option (Int32 × zMem) :=
  zlet (x4 + (1 : Int32)) fun x4_5 =>
  k3 x1 x2 x3 x4_5 M
def fX1_hasHardCall_L39 (N : Nat) (k3 : Int32 → Int32 → Int32 → Int32 → zMem → Option (Int32 × zMem)) (x1 : Int32) (x2 : Int32) (x3 : Int32) (x4 : Int32) (s0 : Int32) (M : zMem) : Option (Int32 × zMem) :=
  if s0 = 0 then
  fX1_hasHardCall_L71 N k3 x1 x2 x3 x4 M
  else
  (zldI M 55 400 x4).bind fun v3 =>
  if v3 = x1 then
  (zldI M 51 400 x4).bind fun v4 =>
  if v4 < (8 : Int32) then
  fX1_hasHardCall_L71 N k3 x1 x2 x3 x4 M
  else
  some ((1 : Int32), M)
  else
  fX1_hasHardCall_L71 N k3 x1 x2 x3 x4 M
def fX1_hasHardCall_L38 (N : Nat) (k3 : Int32 → Int32 → Int32 → Int32 → zMem → Option (Int32 × zMem)) (x1 : Int32) (x2 : Int32) (x3 : Int32) (x4 : Int32) (M : zMem) : Option (Int32 × zMem) :=
  fX1_hasHardCall_L39 N k3 x1 x2 x3 x4 (0 : Int32) M
def fX1_hasHardCall_L3 (N : Nat) : Nat → Int32 → Int32 → Int32 → Int32 → zMem → Option (Int32 × zMem)
  | 0, _, _, _, _, _ => none
  | n + 1, x1, x2, x3, x4, M =>
  if (M.1 47 9) ≤ x4 then
  some ((0 : Int32), M)
  else
  (zldI M 48 400 x4).bind fun v1 =>
  if v1 < x2 then
  fX1_hasHardCall_L38 N (fX1_hasHardCall_L3 N n) x1 x2 x3 x4 M
  else
  (zldI M 48 400 x4).bind fun v2 =>
  if x3 ≤ v2 then
  fX1_hasHardCall_L38 N (fX1_hasHardCall_L3 N n) x1 x2 x3 x4 M
  else
  fX1_hasHardCall_L39 N (fX1_hasHardCall_L3 N n) x1 x2 x3 x4 (1 : Int32) M
def fX1_hasHardCall (N : Nat) (x1 : Int32) (x2 : Int32) (x3 : Int32) (M : zMem) : Option (Int32 × zMem) :=
  fX1_hasHardCall_L3 N N x1 x2 x3 (0 : Int32) M
def fX11_isCaller (x0 : Int32) (M : zMem) : Option (Int32 × zMem) :=
  if x0 < 0 then
  some ((0 : Int32), M)
  else
  if (20 : Int32) ≤ x0 then
  some ((0 : Int32), M)
  else
  some ((1 : Int32), M)
def fX2_begin_L125 (N : Nat) (k73 : Int32 → zMem → Option zMem) (x3 : Int32) (M : zMem) : Option zMem :=
  zlet (x3 + (1 : Int32)) fun x3_24 =>
  k73 x3_24 M
def fX2_begin_L73 (N : Nat) : Nat → Int32 → zMem → Option zMem
  | 0, _, _ => none
  | n + 1, x3, M =>
  zb2 (fX1_nightStart M) fun r12 M11 =>
  if r12 ≤ x3 then
  some M11
  else
  zb2 (fX1_callerOf x3 M11) fun r15 M14 =>
  zb2 (fX1_stateOf x3 M14) fun r18 M17 =>
  if r18 = (1 : Int32) then
  zb2 (fX11_isCaller r15 M17) fun r21 M20 =>
  if r21 = 0 then
  fX2_begin_L125 N (fX2_begin_L73 N n) x3 M20
  else
  (zldI M20 61 20 r15).bind fun v22 =>
  (zstI M20 61 20 r15 (v22 + (1 : Int32))).bind fun M23 =>
  fX2_begin_L125 N (fX2_begin_L73 N n) x3 M23
  else
  fX2_begin_L125 N (fX2_begin_L73 N n) x3 M17
def fX2_begin_L52 (N : Nat) : Nat → Int32 → zMem → Option zMem
  | 0, _, _ => none
  | n + 1, x3, M =>
  if (20 : Int32) ≤ x3 then
  fX2_begin_L73 N N (0 : Int32) M
  else
  (zstI M 61 20 x3 (0 : Int32)).bind fun M8 =>
  zlet (x3 + (1 : Int32)) fun x3_9 =>
  fX2_begin_L52 N n x3_9 M8
def fX2_begin_L17 (N : Nat) : Nat → Int32 → zMem → Option zMem
  | 0, _, _ => none
  | n + 1, x3, M =>
  if (8 : Int32) ≤ x3 then
  fX2_begin_L52 N N (0 : Int32) M
  else
  (zstI M 58 8 x3 (-1 : Int32)).bind fun M4 =>
  (zstI M4 59 8 x3 (0 : Int32)).bind fun M5 =>
  (zstI M5 60 8 x3 (0 : Int32)).bind fun M6 =>
  zlet (x3 + (1 : Int32)) fun x3_7 =>
  fX2_begin_L17 N n x3_7 M6
def fX2_begin (N : Nat) (x1 : Int32) (x2 : Nat) (M : zMem) : Option zMem :=
  zlet (zpI M 57 11 x1) fun M1 =>
  zlet (zpR M1 57 10 x2) fun M2 =>
  zlet (zpI M2 57 12 (0 : Int32)) fun M3 =>
  fX2_begin_L17 N N (0 : Int32) M3
def fX2_setFacts_L88 (x4 : Int32) (s1 : Int32) (s2 : Int32) (M : zMem) : Option zMem :=
  (zstI M 64 6 s1 s2).bind fun M21 =>
  (zstI M21 64 6 (5 : Int32) x4).bind fun M22 =>
  some M22
def fX2_setFacts (x1 : Int32) (x2 : Int32) (x3 : Int32) (x4 : Int32) (M : zMem) : Option zMem :=
  zb2 (fX1_callerOf x1 M) fun r3 M2 =>
  zb2 (fX1_needOf x1 M2) fun r6 M5 =>
  (zstI M5 64 6 (0 : Int32) r6).bind fun M7 =>
  zb2 (fX1_topicOf x1 M7) fun r10 M9 =>
  (zstI M9 64 6 (1 : Int32) r10).bind fun M11 =>
  zb2 (fX1_minuteOf x1 M11) fun r14 M13 =>
  (zstI M13 64 6 (2 : Int32) (x2 - r14)).bind fun M15 =>
  (zstI M15 64 6 (3 : Int32) (x3 / (60 : Int32))).bind fun M16 =>
  zb2 (fX11_isCaller r3 M16) fun r19 M18 =>
  if r19 = 0 then
  fX2_setFacts_L88 x4 (4 : Int32) (0 : Int32) M18
  else
  (zldI M18 61 20 r3).bind fun v20 =>
  fX2_setFacts_L88 x4 (4 : Int32) v20 M18
def fX6_combine (x0 : Int32) (x1 : Int32) (x2 : Int32) (M : zMem) : Option (Int32 × zMem) :=
  if x0 = (13 : Int32) then
  some ((x1 + x2), M)
  else if x0 = (14 : Int32) then
  some ((x1 - x2), M)
  else if x0 = (15 : Int32) then
  some ((x1 * x2), M)
  else if x0 = (16 : Int32) then
  if x1 = x2 then
  some ((1 : Int32), M)
  else
  some ((0 : Int32), M)
  else if x0 = (17 : Int32) then
  if x1 = x2 then
  some ((0 : Int32), M)
  else
  some ((1 : Int32), M)
  else if x0 = (18 : Int32) then
  if x2 ≤ x1 then
  some ((0 : Int32), M)
  else
  some ((1 : Int32), M)
  else if x0 = (19 : Int32) then
  if x2 < x1 then
  some ((0 : Int32), M)
  else
  some ((1 : Int32), M)
  else 
  some ((x1 &&& x2), M)
def fX6_workOut_L157 (r0 : Nat) (N : Nat) (k10 : Int32 → Int32 → Int32 → zMem → Option (Int32 × zMem)) (x2 : Int32) (x4 : Int32) (x5 : Int32) (M : zMem) : Option (Int32 × zMem) :=
  zlet (x5 + (1 : Int32)) fun x5_12 =>
  k10 x2 x4 x5_12 M
def fX6_workOut_L118 (r0 : Nat) (N : Nat) (k10 : Int32 → Int32 → Int32 → zMem → Option (Int32 × zMem)) (x2 : Int32) (x4 : Int32) (x5 : Int32) (x6 : Int32) (M : zMem) : Option (Int32 × zMem) :=
  if x4 < (2 : Int32) then
  fX6_workOut_L157 r0 N k10 x2 x4 x5 M
  else
  zlet (x4 + (-1 : Int32)) fun x4_13 =>
  (zldI M (r0 + 7) 32 (x4_13 - (1 : Int32))).bind fun v14 =>
  (zldI M (r0 + 7) 32 x4_13).bind fun v15 =>
  zb2 (fX6_combine x6 v14 v15 M) fun r18 M17 =>
  (zstI M17 (r0 + 7) 32 (x4_13 - (1 : Int32)) r18).bind fun M19 =>
  fX6_workOut_L157 r0 N k10 x2 x4_13 x5 M19
def fX6_workOut_L76 (r0 : Nat) (N : Nat) (k10 : Int32 → Int32 → Int32 → zMem → Option (Int32 × zMem)) (x2 : Int32) (x4 : Int32) (x5 : Int32) (x6 : Int32) (x7 : Int32) (M : zMem) : Option (Int32 × zMem) :=
  if x6 = (3 : Int32) then
  if (32 : Int32) ≤ x4 then
  fX6_workOut_L118 r0 N k10 x2 x4 x5 x6 M
  else
  if x7 < 0 then
  fX6_workOut_L118 r0 N k10 x2 x4 x5 x6 M
  else
  if (6 : Int32) ≤ x7 then
  fX6_workOut_L118 r0 N k10 x2 x4 x5 x6 M
  else
  (zldI M 64 6 x7).bind fun v9 =>
  (zstI M (r0 + 7) 32 x4 v9).bind fun M10 =>
  zlet (x4 + (1 : Int32)) fun x4_11 =>
  fX6_workOut_L157 r0 N k10 x2 x4_11 x5 M10
  else
  fX6_workOut_L118 r0 N k10 x2 x4 x5 x6 M
def fX6_workOut_L163 (r0 : Nat) (N : Nat)  (M : zMem) : Option (Int32 × zMem) :=
  (zldI M (r0 + 7) 32 (0 : Int32)).bind fun v8 =>
  some (v8, M)
def fX6_workOut_L10 (r0 : Nat) (N : Nat) : Nat → Int32 → Int32 → Int32 → zMem → Option (Int32 × zMem)
  | 0, _, _, _, _ => none
  | n + 1, x2, x4, x5, M =>
  if x2 ≤ x5 then
  fX6_workOut_L163 r0 N M
  else
  if (M.1 r0 8) ≤ x5 then
  fX6_workOut_L163 r0 N M
  else
  (zldI M (r0 + 6) 400 x5).bind fun v2 =>
  zlet (v2 &&& (31 : Int32)) fun x6_3 =>
  (zldI M (r0 + 6) 400 x5).bind fun v4 =>
  zlet (v4 >>> ((5 : Int32) &&& 31)) fun x7_5 =>
  if x6_3 = (2 : Int32) then
  if (32 : Int32) ≤ x4 then
  fX6_workOut_L76 r0 N (fX6_workOut_L10 r0 N n) x2 x4 x5 x6_3 x7_5 M
  else
  (zstI M (r0 + 7) 32 x4 x7_5).bind fun M6 =>
  zlet (x4 + (1 : Int32)) fun x4_7 =>
  fX6_workOut_L157 r0 N (fX6_workOut_L10 r0 N n) x2 x4_7 x5 M6
  else
  fX6_workOut_L76 r0 N (fX6_workOut_L10 r0 N n) x2 x4 x5 x6_3 x7_5 M
def fX6_workOut (N : Nat) (r0 : Nat) (x1 : Int32) (x2 : Int32) (M : zMem) : Option (Int32 × zMem) :=
  zlet (if x1 < (0 : Int32) then (0 : Int32) else x1) fun x5_1 =>
  fX6_workOut_L10 r0 N N x2 (0 : Int32) x5_1 M
def fX6_holds_L49 (r0 : Nat) (N : Nat)  (M : zMem) : Option (Int32 × zMem) :=
  some ((1 : Int32), M)
def fX6_holds (N : Nat) (r0 : Nat) (x1 : Int32) (M : zMem) : Option (Int32 × zMem) :=
  if x1 < 0 then
  some ((0 : Int32), M)
  else
  if x1 < (M.1 r0 7) then
  (zldI M (r0 + 4) 20 x1).bind fun v1 =>
  (zldI M (r0 + 5) 20 x1).bind fun v2 =>
  if v1 = v2 then
  fX6_holds_L49 r0 N M
  else
  (zldI M (r0 + 4) 20 x1).bind fun v3 =>
  (zldI M (r0 + 5) 20 x1).bind fun v4 =>
  zb2 (fX6_workOut N r0 v3 v4 M) fun r7 M6 =>
  if r7 = 0 then
  some ((0 : Int32), M6)
  else
  fX6_holds_L49 r0 N M6
  else
  some ((0 : Int32), M)
def fX6_firstHolding_L31 (r0 : Nat) (N : Nat) (k2 : Int32 → Int32 → zMem → Option (Int32 × zMem)) (x1 : Int32) (x3 : Int32) (M : zMem) : Option (Int32 × zMem) :=
  zlet (x3 + (1 : Int32)) fun x3_5 =>
  k2 x1 x3_5 M
def fX6_firstHolding_L2 (r0 : Nat) (N : Nat) : Nat → Int32 → Int32 → zMem → Option (Int32 × zMem)
  | 0, _, _, _ => none
  | n + 1, x1, x3, M =>
  if (M.1 r0 7) ≤ x3 then
  some ((-1 : Int32), M)
  else
  (zldI M (r0 + 1) 20 x3).bind fun v1 =>
  if v1 = x1 then
  zb2 (fX6_holds N r0 x3 M) fun r4 M3 =>
  if r4 = 0 then
  fX6_firstHolding_L31 r0 N (fX6_firstHolding_L2 r0 N n) x1 x3 M3
  else
  some (x3, M3)
  else
  fX6_firstHolding_L31 r0 N (fX6_firstHolding_L2 r0 N n) x1 x3 M
def fX6_firstHolding (N : Nat) (r0 : Nat) (x1 : Int32) (M : zMem) : Option (Int32 × zMem) :=
  fX6_firstHolding_L2 r0 N N x1 (0 : Int32) M
def fX2_dropCalls_L65 (N : Nat) (k8 : Int32 → Int32 → zMem → Option zMem) (x1 : Int32) (x2 : Int32) (M : zMem) : Option zMem :=
  zlet (x2 + (1 : Int32)) fun x2_17 =>
  k8 x1 x2_17 M
def fX2_dropCalls_L8 (N : Nat) : Nat → Int32 → Int32 → zMem → Option zMem
  | 0, _, _, _ => none
  | n + 1, x1, x2, M =>
  zb2 (fX1_size M) fun r6 M5 =>
  if r6 ≤ x2 then
  some M5
  else
  zb2 (fX1_isWaiting x2 x1 M5) fun r9 M8 =>
  if r9 = 0 then
  fX2_dropCalls_L65 N (fX2_dropCalls_L8 N n) x1 x2 M8
  else
  (fX2_setFacts x2 x1 x1 (0 : Int32) M8).bind fun M11 =>
  zb2 (zdy (M11.2.2 57 10) (fX6_firstHolding N (M11.2.2 57 10) (6 : Int32) M11)) fun r14 M13 =>
  if r14 = (-1 : Int32) then
  fX2_dropCalls_L65 N (fX2_dropCalls_L8 N n) x1 x2 M13
  else
  (fX1_drop x2 x1 M13).bind fun M16 =>
  fX2_dropCalls_L65 N (fX2_dropCalls_L8 N n) x1 x2 M16
def fX2_dropCalls (N : Nat) (x1 : Int32) (M : zMem) : Option zMem :=
  zb2 (fX1_nightStart M) fun r3 M2 =>
  fX2_dropCalls_L8 N N x1 r3 M2
def fX6_numberOf (r0 : Nat) (x1 : Int32) (M : zMem) : Option (Int32 × zMem) :=
  if x1 < 0 then
  some ((0 : Int32), M)
  else
  if (M.1 r0 7) ≤ x1 then
  some ((0 : Int32), M)
  else
  (zldI M (r0 + 2) 20 x1).bind fun v1 =>
  some (v1, M)
def fX2_endCalls_L108 (N : Nat) (k2 : Int32 → Int32 → zMem → Option zMem) (x1 : Int32) (x2 : Int32) (M : zMem) : Option zMem :=
  zlet (x2 + (1 : Int32)) fun x2_24 =>
  k2 x1 x2_24 M
def fX2_endCalls_L2 (N : Nat) : Nat → Int32 → Int32 → zMem → Option zMem
  | 0, _, _, _ => none
  | n + 1, x1, x2, M =>
  if (8 : Int32) ≤ x2 then
  some M
  else
  (zldI M 58 8 x2).bind fun v1 =>
  if v1 = (-1 : Int32) then
  fX2_endCalls_L108 N (fX2_endCalls_L2 N n) x1 x2 M
  else
  zb2 (fX1_endOf v1 M) fun r4 M3 =>
  if r4 = x1 then
  (zstI M3 58 8 x2 (-1 : Int32)).bind fun M5 =>
  (zldI M5 60 8 x2).bind fun v6 =>
  zb2 (fX1_lengthOf v1 M5) fun r9 M8 =>
  (zstI M8 60 8 x2 (v6 + r9)).bind fun M10 =>
  zb2 (fX1_sinceOf v1 M10) fun r13 M12 =>
  (zldI M12 60 8 x2).bind fun v14 =>
  (fX2_setFacts v1 r13 x1 v14 M12).bind fun M16 =>
  zb2 (zdy (M16.2.2 57 10) (fX6_firstHolding N (M16.2.2 57 10) (7 : Int32) M16)) fun r19 M18 =>
  zb2 (zdy (M18.2.2 57 10) (fX6_numberOf (M18.2.2 57 10) r19 M18)) fun r22 M21 =>
  (zstI M21 59 8 x2 (x1 + r22)).bind fun M23 =>
  fX2_endCalls_L108 N (fX2_endCalls_L2 N n) x1 x2 M23
  else
  fX2_endCalls_L108 N (fX2_endCalls_L2 N n) x1 x2 M3
def fX2_endCalls (N : Nat) (x1 : Int32) (M : zMem) : Option zMem :=
  fX2_endCalls_L2 N N x1 (0 : Int32) M
def fX2_isFree (x1 : Int32) (x2 : Int32) (M : zMem) : Option (Int32 × zMem) :=
  if x1 < 0 then
  some ((0 : Int32), M)
  else
  if (8 : Int32) ≤ x1 then
  some ((0 : Int32), M)
  else
  (zldI M 58 8 x1).bind fun v1 =>
  if v1 = (-1 : Int32) then
  (zldI M 59 8 x1).bind fun v2 =>
  if v2 ≤ x2 then
  zb2 (fX0_hoursOf x1 (M.1 57 11) M) fun r5 M4 =>
  if ((r5 >>> ((x2 / (60 : Int32)) &&& 31)) &&& (1 : Int32)) = 0 then
  some ((0 : Int32), M4)
  else
  some ((1 : Int32), M4)
  else
  some ((0 : Int32), M)
  else
  some ((0 : Int32), M)
def fX6_kindOf (r0 : Nat) (x1 : Int32) (M : zMem) : Option (Int32 × zMem) :=
  if x1 < 0 then
  some ((-1 : Int32), M)
  else
  if (M.1 r0 7) ≤ x1 then
  some ((-1 : Int32), M)
  else
  (zldI M (r0 + 1) 20 x1).bind fun v1 =>
  some (v1, M)
def fX6_size (r0 : Nat) (M : zMem) : Option (Int32 × zMem) :=
  some ((M.1 r0 7), M)
def fX9_isStep (x1 : Int32) (M : zMem) : Option (Int32 × zMem) :=
  if x1 < 0 then
  some ((0 : Int32), M)
  else
  if (M.1 22 5) ≤ x1 then
  some ((0 : Int32), M)
  else
  some ((1 : Int32), M)
def fX9_isVolunteer (x1 : Int32) (M : zMem) : Option (Int32 × zMem) :=
  if x1 < 0 then
  some ((0 : Int32), M)
  else
  if (M.1 22 2) ≤ x1 then
  some ((0 : Int32), M)
  else
  some ((1 : Int32), M)
def fX9_learnedBit (x0 : Int32) (x1 : Int32) (M : zMem) : Option (Int64 × zMem) :=
  some (((1 : Int64) <<< (((x0 * (8 : Int32)) + x1).toInt64 &&& 63)), M)
def fX9_hasStep_L31 (N : Nat) : Nat → Int32 → Int32 → Int32 → Int32 → zMem → Option (Int32 × zMem)
  | 0, _, _, _, _, _ => none
  | n + 1, x1, x3, x4, x5, M =>
  if (8 : Int32) ≤ x5 then
  some ((1 : Int32), M)
  else
  zb2 (fX9_isStep x4 M) fun r12 M11 =>
  if r12 = 0 then
  some ((1 : Int32), M11)
  else
  (zldJ M11 27 200 x3).bind fun v13 =>
  zb2 (fX9_learnedBit x1 x4 M11) fun r16 M15 =>
  if (lg_cmp (v13 &&& r16) (0 : Int64)) = 0 then
  some ((0 : Int32), M15)
  else
  (zldI M15 25 8 x4).bind fun v17 =>
  zlet (x5 + (1 : Int32)) fun x5_18 =>
  fX9_hasStep_L31 N n x1 x3 v17 x5_18 M15
def fX9_hasStep (N : Nat) (x1 : Int32) (x2 : Int32) (x3 : Int32) (M : zMem) : Option (Int32 × zMem) :=
  zb2 (fX9_isVolunteer x1 M) fun r3 M2 =>
  if r3 = 0 then
  some ((0 : Int32), M2)
  else
  zb2 (fX9_isStep x2 M2) fun r6 M5 =>
  if r6 = 0 then
  some ((0 : Int32), M5)
  else
  zb2 (fX11_isNight x3 M5) fun r9 M8 =>
  if r9 = 0 then
  some ((0 : Int32), M8)
  else
  fX9_hasStep_L31 N N x1 x3 x2 (0 : Int32) M8
def fX2_isTrained_L95 (N : Nat) (k28 : Int32 → Int32 → zMem → Option (Int32 × zMem)) (x1 : Int32) (x4 : Int32) (M : zMem) : Option (Int32 × zMem) :=
  zlet (x4 + (1 : Int32)) fun x4_19 =>
  k28 x1 x4_19 M
def fX2_isTrained_L28 (N : Nat) : Nat → Int32 → Int32 → zMem → Option (Int32 × zMem)
  | 0, _, _, _ => none
  | n + 1, x1, x4, M =>
  zb2 (zdy (M.2.2 57 10) (fX6_size (M.2.2 57 10) M)) fun r6 M5 =>
  if r6 ≤ x4 then
  some ((1 : Int32), M5)
  else
  zb2 (zdy (M5.2.2 57 10) (fX6_kindOf (M5.2.2 57 10) x4 M5)) fun r9 M8 =>
  if r9 = (5 : Int32) then
  zb2 (zdy (M8.2.2 57 10) (fX6_numberOf (M8.2.2 57 10) x4 M8)) fun r12 M11 =>
  zb2 (fX9_hasStep N x1 r12 (M11.1 57 11) M11) fun r15 M14 =>
  if r15 = 0 then
  zb2 (zdy (M14.2.2 57 10) (fX6_holds N (M14.2.2 57 10) x4 M14)) fun r18 M17 =>
  if r18 = 0 then
  fX2_isTrained_L95 N (fX2_isTrained_L28 N n) x1 x4 M17
  else
  some ((0 : Int32), M17)
  else
  fX2_isTrained_L95 N (fX2_isTrained_L28 N n) x1 x4 M14
  else
  fX2_isTrained_L95 N (fX2_isTrained_L28 N n) x1 x4 M8
def fX2_isTrained (N : Nat) (x1 : Int32) (x2 : Int32) (x3 : Int32) (M : zMem) : Option (Int32 × zMem) :=
  if x1 < 0 then
  some ((0 : Int32), M)
  else
  if x1 < (8 : Int32) then
  (zldI M 60 8 x1).bind fun v1 =>
  (fX2_setFacts x2 x3 x3 v1 M).bind fun M3 =>
  fX2_isTrained_L28 N N x1 (0 : Int32) M3
  else
  some ((0 : Int32), M)
def fX9_barIndex (x0 : Int32) (x1 : Int32) (M : zMem) : Option (Int32 × zMem) :=
  some (((x0 * (8 : Int32)) + x1), M)
def fX9_isBarred (x1 : Int32) (x2 : Int32) (x3 : Int32) (M : zMem) : Option (Int32 × zMem) :=
  zb2 (fX11_isCaller x1 M) fun r3 M2 =>
  if r3 = 0 then
  some ((0 : Int32), M2)
  else
  zb2 (fX9_isVolunteer x2 M2) fun r6 M5 =>
  if r6 = 0 then
  some ((0 : Int32), M5)
  else
  zb2 (fX9_barIndex x1 x2 M5) fun r9 M8 =>
  (zldI M8 28 160 r9).bind fun v10 =>
  if v10 = (-1 : Int32) then
  some ((0 : Int32), M8)
  else
  if x3 < v10 then
  some ((0 : Int32), M8)
  else
  some ((1 : Int32), M8)
def fX9_size  (M : zMem) : Option (Int32 × zMem) :=
  some ((M.1 22 2), M)
def fX2_volunteerFor_L105 (N : Nat) (k5 : Int32 → Int32 → Int32 → Int32 → zMem → Option (Int32 × zMem)) (x1 : Int32) (x2 : Int32) (x3 : Int32) (x4 : Int32) (M : zMem) : Option (Int32 × zMem) :=
  zlet (x4 + (1 : Int32)) fun x4_18 =>
  k5 x1 x2 x3 x4_18 M
def fX2_volunteerFor_L50 (N : Nat) (k5 : Int32 → Int32 → Int32 → Int32 → zMem → Option (Int32 × zMem)) (x1 : Int32) (x2 : Int32) (x3 : Int32) (x4 : Int32) (s0 : Int32) (M : zMem) : Option (Int32 × zMem) :=
  if s0 = 0 then
  fX2_volunteerFor_L105 N k5 x1 x2 x3 x4 M
  else
  zb2 (fX2_isFree x4 x2 M) fun r8 M7 =>
  if r8 = 0 then
  fX2_volunteerFor_L105 N k5 x1 x2 x3 x4 M7
  else
  zb2 (fX1_callerOf x1 M7) fun r11 M10 =>
  zb2 (fX9_isBarred r11 x4 (M10.1 57 11) M10) fun r14 M13 =>
  if r14 = 0 then
  zb2 (fX2_isTrained N x4 x1 x2 M13) fun r17 M16 =>
  if r17 = 0 then
  fX2_volunteerFor_L105 N k5 x1 x2 x3 x4 M16
  else
  fX2_volunteerFor_L105 N k5 x1 x2 x4 x4 M16
  else
  fX2_volunteerFor_L105 N k5 x1 x2 x3 x4 M13
def fX2_volunteerFor_L45 (N : Nat) (k5 : Int32 → Int32 → Int32 → Int32 → zMem → Option (Int32 × zMem)) (x1 : Int32) (x2 : Int32) (x3 : Int32) (x4 : Int32) (M : zMem) : Option (Int32 × zMem) :=
  fX2_volunteerFor_L50 N k5 x1 x2 x3 x4 (1 : Int32) M
def fX2_volunteerFor_L5 (N : Nat) : Nat → Int32 → Int32 → Int32 → Int32 → zMem → Option (Int32 × zMem)
  | 0, _, _, _, _, _ => none
  | n + 1, x1, x2, x3, x4, M =>
  zb2 (fX9_size M) fun r3 M2 =>
  if r3 ≤ x4 then
  some (x3, M2)
  else
  if (8 : Int32) ≤ x4 then
  some (x3, M2)
  else
  if x3 = (-1 : Int32) then
  fX2_volunteerFor_L45 N (fX2_volunteerFor_L5 N n) x1 x2 x3 x4 M2
  else
  (zldI M2 60 8 x4).bind fun v4 =>
  (zldI M2 60 8 x3).bind fun v5 =>
  if v5 ≤ v4 then
  fX2_volunteerFor_L50 N (fX2_volunteerFor_L5 N n) x1 x2 x3 x4 (0 : Int32) M2
  else
  fX2_volunteerFor_L45 N (fX2_volunteerFor_L5 N n) x1 x2 x3 x4 M2
def fX2_volunteerFor (N : Nat) (x1 : Int32) (x2 : Int32) (M : zMem) : Option (Int32 × zMem) :=
  fX2_volunteerFor_L5 N N x1 x2 (-1 : Int32) (0 : Int32) M
def fX2_giveCalls_L71 (N : Nat) (k2 : Int32 → Int32 → Int32 → zMem → Option zMem) (x1 : Int32) (x2 : Int32) (x3 : Int32) (M : zMem) : Option zMem :=
  zlet (x3 + (1 : Int32)) fun x3_11 =>
  k2 x1 x2 x3_11 M
def fX2_giveCalls_L2 (N : Nat) : Nat → Int32 → Int32 → Int32 → zMem → Option zMem
  | 0, _, _, _, _ => none
  | n + 1, x1, x2, x3, M =>
  if x2 ≤ x3 then
  some M
  else
  if (40 : Int32) ≤ x3 then
  some M
  else
  (zldI M 63 40 x3).bind fun v1 =>
  zb2 (fX2_volunteerFor N v1 x1 M) fun r4 M3 =>
  if r4 = (-1 : Int32) then
  fX2_giveCalls_L71 N (fX2_giveCalls_L2 N n) x1 x2 x3 M3
  else
  (zldI M3 63 40 x3).bind fun v5 =>
  (fX1_give v5 r4 x1 M3).bind fun M7 =>
  (zldI M7 63 40 x3).bind fun v8 =>
  (zstI M7 58 8 r4 v8).bind fun M9 =>
  zlet (zpI M9 57 12 ((M9.1 57 12) + (1 : Int32))) fun M10 =>
  fX2_giveCalls_L71 N (fX2_giveCalls_L2 N n) x1 x2 x3 M10
def fX2_giveCalls (N : Nat) (x1 : Int32) (x2 : Int32) (M : zMem) : Option zMem :=
  fX2_giveCalls_L2 N N x1 x2 (0 : Int32) M
def fX2_isAnyFree_L2 (N : Nat) : Nat → Int32 → Int32 → zMem → Option (Int32 × zMem)
  | 0, _, _, _ => none
  | n + 1, x1, x2, M =>
  zb2 (fX9_size M) fun r3 M2 =>
  if r3 ≤ x2 then
  some ((0 : Int32), M2)
  else
  zb2 (fX2_isFree x2 x1 M2) fun r6 M5 =>
  if r6 = 0 then
  zlet (x2 + (1 : Int32)) fun x2_7 =>
  fX2_isAnyFree_L2 N n x1 x2_7 M5
  else
  some ((1 : Int32), M5)
def fX2_isAnyFree (N : Nat) (x1 : Int32) (M : zMem) : Option (Int32 × zMem) :=
  fX2_isAnyFree_L2 N N x1 (0 : Int32) M
def fX2_leaveCalls_L38 (N : Nat) (k8 : Int32 → zMem → Option zMem) (x1 : Int32) (M : zMem) : Option zMem :=
  zlet (x1 + (1 : Int32)) fun x1_12 =>
  k8 x1_12 M
def fX2_leaveCalls_L8 (N : Nat) : Nat → Int32 → zMem → Option zMem
  | 0, _, _ => none
  | n + 1, x1, M =>
  zb2 (fX1_size M) fun r6 M5 =>
  if r6 ≤ x1 then
  some M5
  else
  zb2 (fX1_stateOf x1 M5) fun r9 M8 =>
  if r9 = 0 then
  (fX1_leave x1 M8).bind fun M11 =>
  fX2_leaveCalls_L38 N (fX2_leaveCalls_L8 N n) x1 M11
  else
  fX2_leaveCalls_L38 N (fX2_leaveCalls_L8 N n) x1 M8
def fX2_leaveCalls (N : Nat)  (M : zMem) : Option zMem :=
  zb2 (fX1_nightStart M) fun r3 M2 =>
  fX2_leaveCalls_L8 N N r3 M2
def fX2_putInLine_L77 (N : Nat) (x1 : Int32) (x2 : Int32) (x4 : Int32) (M : zMem) : Option zMem :=
  (zstI M 62 40 x4 x2).bind fun M8 =>
  (zstI M8 63 40 x4 x1).bind fun M9 =>
  some M9
def fX2_putInLine_L19 (N : Nat) : Nat → Int32 → Int32 → Int32 → Int32 → zMem → Option zMem
  | 0, _, _, _, _, _ => none
  | n + 1, x1, x2, x4, x5, M =>
  if x5 < 0 then
  fX2_putInLine_L77 N x1 x2 x4 M
  else
  (zldI M 62 40 x5).bind fun v2 =>
  if x2 ≤ v2 then
  fX2_putInLine_L77 N x1 x2 x4 M
  else
  (zldI M 62 40 x5).bind fun v3 =>
  (zstI M 62 40 (x5 + (1 : Int32)) v3).bind fun M4 =>
  (zldI M4 63 40 x5).bind fun v5 =>
  (zstI M4 63 40 (x5 + (1 : Int32)) v5).bind fun M6 =>
  zlet (x5 + (-1 : Int32)) fun x5_7 =>
  fX2_putInLine_L19 N n x1 x2 x5 x5_7 M6
def fX2_putInLine (N : Nat) (x1 : Int32) (x2 : Int32) (x3 : Int32) (M : zMem) : Option zMem :=
  if x3 < 0 then
  some M
  else
  if x3 < (40 : Int32) then
  zlet (x3 - (1 : Int32)) fun x5_1 =>
  fX2_putInLine_L19 N N x1 x2 x3 x5_1 M
  else
  some M
def fX6_termOf (N : Nat) (r0 : Nat) (x1 : Int32) (M : zMem) : Option (Int32 × zMem) :=
  if x1 < 0 then
  some ((0 : Int32), M)
  else
  if (M.1 r0 7) ≤ x1 then
  some ((0 : Int32), M)
  else
  (zldI M (r0 + 3) 20 x1).bind fun v1 =>
  (zldI M (r0 + 4) 20 x1).bind fun v2 =>
  zb2 (fX6_workOut N r0 v1 v2 M) fun r5 M4 =>
  some (r5, M4)
def fX2_lineUp_L94 (N : Nat) (k10 : Int32 → Int32 → Int32 → zMem → Option (Int32 × zMem)) (x1 : Int32) (x2 : Int32) (x3 : Int32) (M : zMem) : Option (Int32 × zMem) :=
  zlet (x3 + (1 : Int32)) fun x3_21 =>
  k10 x1 x2 x3_21 M
def fX2_lineUp_L87 (N : Nat) (k10 : Int32 → Int32 → Int32 → zMem → Option (Int32 × zMem)) (x1 : Int32) (x2 : Int32) (x3 : Int32) (s1 : Int32) (s2 : Int32) (M : zMem) : Option (Int32 × zMem) :=
  (fX2_putInLine N s1 s2 x2 M).bind fun M23 =>
  zlet (x2 + (1 : Int32)) fun x2_24 =>
  fX2_lineUp_L94 N k10 x1 x2_24 x3 M23
def fX2_lineUp_L10 (N : Nat) : Nat → Int32 → Int32 → Int32 → zMem → Option (Int32 × zMem)
  | 0, _, _, _, _ => none
  | n + 1, x1, x2, x3, M =>
  zb2 (fX1_size M) fun r6 M5 =>
  if r6 ≤ x3 then
  some (x2, M5)
  else
  zb2 (fX1_isWaiting x3 x1 M5) fun r9 M8 =>
  if r9 = 0 then
  fX2_lineUp_L94 N (fX2_lineUp_L10 N n) x1 x2 x3 M8
  else
  (fX2_setFacts x3 x1 x1 (0 : Int32) M8).bind fun M11 =>
  zb2 (zdy (M11.2.2 57 10) (fX6_firstHolding N (M11.2.2 57 10) (4 : Int32) M11)) fun r14 M13 =>
  if r14 = (-1 : Int32) then
  zb2 (fX1_needOf x3 M13) fun r20 M19 =>
  fX2_lineUp_L87 N (fX2_lineUp_L10 N n) x1 x2 x3 x3 r20 M19
  else
  zb2 (zdy (M13.2.2 57 10) (fX6_termOf N (M13.2.2 57 10) r14 M13)) fun r17 M16 =>
  fX2_lineUp_L87 N (fX2_lineUp_L10 N n) x1 x2 x3 x3 r17 M16
def fX2_lineUp (N : Nat) (x1 : Int32) (M : zMem) : Option (Int32 × zMem) :=
  zb2 (fX1_nightStart M) fun r3 M2 =>
  fX2_lineUp_L10 N N x1 (0 : Int32) r3 M2
def fX2_goThrough_L43 (N : Nat) (k8 : Int32 → zMem → Option (Int32 × zMem)) (x3 : Int32) (M : zMem) : Option (Int32 × zMem) :=
  zlet (x3 + (1 : Int32)) fun x3_17 =>
  k8 x3_17 M
def fX2_goThrough_L8 (N : Nat) : Nat → Int32 → zMem → Option (Int32 × zMem)
  | 0, _, _ => none
  | n + 1, x3, M =>
  if (360 : Int32) ≤ x3 then
  (fX2_leaveCalls N M).bind fun M4 =>
  some ((M4.1 57 12), M4)
  else
  (fX2_endCalls N x3 M).bind fun M6 =>
  (fX2_dropCalls N x3 M6).bind fun M8 =>
  zb2 (fX2_isAnyFree N x3 M8) fun r11 M10 =>
  if r11 = 0 then
  fX2_goThrough_L43 N (fX2_goThrough_L8 N n) x3 M10
  else
  zb2 (fX2_lineUp N x3 M10) fun r14 M13 =>
  (fX2_giveCalls N x3 r14 M13).bind fun M16 =>
  fX2_goThrough_L43 N (fX2_goThrough_L8 N n) x3 M16
def fX2_goThrough (N : Nat) (x1 : Int32) (x2 : Nat) (M : zMem) : Option (Int32 × zMem) :=
  (fX2_begin N x1 x2 M).bind fun M2 =>
  fX2_goThrough_L8 N N (0 : Int32) M2
def fX3_size  (M : zMem) : Option (Int32 × zMem) :=
  some ((M.1 65 3), M)
def fX3_isNote (x1 : Int32) (M : zMem) : Option (Int32 × zMem) :=
  if x1 < 0 then
  some ((0 : Int32), M)
  else
  if (M.1 65 3) ≤ x1 then
  some ((0 : Int32), M)
  else
  some ((1 : Int32), M)
def fX3_add (x1 : Int32) (x2 : Int32) (x3 : Int32) (M : zMem) : Option (Int32 × zMem) :=
  if (M.1 65 3) < (60 : Int32) then
  (zstI M 66 60 (M.1 65 3) x1).bind fun M1 =>
  (zstI M1 67 60 (M1.1 65 3) x2).bind fun M2 =>
  (zstI M2 68 60 (M2.1 65 3) x3).bind fun M3 =>
  zlet (zpI M3 65 3 ((M3.1 65 3) + (1 : Int32))) fun M4 =>
  some (((M4.1 65 3) - (1 : Int32)), M4)
  else
  some ((-1 : Int32), M)
def fX3_callOf (x1 : Int32) (M : zMem) : Option (Int32 × zMem) :=
  zb2 (fX3_isNote x1 M) fun r3 M2 =>
  if r3 = 0 then
  some ((-1 : Int32), M2)
  else
  (zldI M2 66 60 x1).bind fun v4 =>
  some (v4, M2)
def fX3_rankOf (x1 : Int32) (M : zMem) : Option (Int32 × zMem) :=
  zb2 (fX3_isNote x1 M) fun r3 M2 =>
  if r3 = 0 then
  some ((-1 : Int32), M2)
  else
  (zldI M2 67 60 x1).bind fun v4 =>
  some (v4, M2)
def fX3_nightOf (x1 : Int32) (M : zMem) : Option (Int32 × zMem) :=
  zb2 (fX3_isNote x1 M) fun r3 M2 =>
  if r3 = 0 then
  some ((-1 : Int32), M2)
  else
  (zldI M2 68 60 x1).bind fun v4 =>
  some (v4, M2)
def fX4_clear  (M : zMem) : Option zMem :=
  zlet (zpI M 32 3 (0 : Int32)) fun M1 =>
  some M1
def fX4_size  (M : zMem) : Option (Int32 × zMem) :=
  some ((M.1 32 3), M)
def fX4_isOfOffer_L2 (N : Nat) : Nat → Int32 → Int32 → zMem → Option (Int32 × zMem)
  | 0, _, _, _ => none
  | n + 1, x1, x2, M =>
  if (M.1 32 3) ≤ x2 then
  some ((0 : Int32), M)
  else
  (zldI M 33 5 x2).bind fun v1 =>
  if v1 = x1 then
  some ((1 : Int32), M)
  else
  zlet (x2 + (1 : Int32)) fun x2_2 =>
  fX4_isOfOffer_L2 N n x1 x2_2 M
def fX4_isOfOffer (N : Nat) (x1 : Int32) (M : zMem) : Option (Int32 × zMem) :=
  fX4_isOfOffer_L2 N N x1 (0 : Int32) M
def fX4_add (N : Nat) (x1 : Int32) (x2 : Int32) (x3 : Int32) (M : zMem) : Option (Int32 × zMem) :=
  if (5 : Int32) ≤ (M.1 32 3) then
  some ((-1 : Int32), M)
  else
  zb2 (fX4_isOfOffer N x1 M) fun r3 M2 =>
  if r3 = 0 then
  (zstI M2 33 5 (M2.1 32 3) x1).bind fun M4 =>
  (zstI M4 34 5 (M4.1 32 3) x2).bind fun M5 =>
  (zstI M5 35 5 (M5.1 32 3) x3).bind fun M6 =>
  zlet (zpI M6 32 3 ((M6.1 32 3) + (1 : Int32))) fun M7 =>
  some (((M7.1 32 3) - (1 : Int32)), M7)
  else
  some ((-1 : Int32), M2)
def fX4_volunteerOf (x1 : Int32) (M : zMem) : Option (Int32 × zMem) :=
  if x1 < 0 then
  some ((-1 : Int32), M)
  else
  if (M.1 32 3) ≤ x1 then
  some ((-1 : Int32), M)
  else
  (zldI M 33 5 x1).bind fun v1 =>
  some (v1, M)
def fX4_hoursOf (x1 : Int32) (M : zMem) : Option (Int32 × zMem) :=
  if x1 < 0 then
  some ((0 : Int32), M)
  else
  if (M.1 32 3) ≤ x1 then
  some ((0 : Int32), M)
  else
  (zldI M 34 5 x1).bind fun v1 =>
  some (v1, M)
def fX4_mostOf (x1 : Int32) (M : zMem) : Option (Int32 × zMem) :=
  if x1 < 0 then
  some ((0 : Int32), M)
  else
  if (M.1 32 3) ≤ x1 then
  some ((0 : Int32), M)
  else
  (zldI M 35 5 x1).bind fun v1 =>
  some (v1, M)
def fX5_faultPlace  (M : zMem) : Option (Int32 × zMem) :=
  some ((M.1 19 9), M)
def fX10_kind  (M : zMem) : Option (Int32 × zMem) :=
  some ((M.1 20 2), M)
def fX10_isDigit (x0 : Int32) (M : zMem) : Option (Int32 × zMem) :=
  if x0 < (48 : Int32) then
  some ((0 : Int32), M)
  else
  if (57 : Int32) < x0 then
  some ((0 : Int32), M)
  else
  some ((1 : Int32), M)
def fX10_isLetter (x0 : Int32) (M : zMem) : Option (Int32 × zMem) :=
  if x0 < (97 : Int32) then
  some ((0 : Int32), M)
  else
  if (122 : Int32) < x0 then
  some ((0 : Int32), M)
  else
  some ((1 : Int32), M)
def fX8_byteAt (x1 : Int32) (M : zMem) : Option (Int32 × zMem) :=
  if x1 < 0 then
  some ((-1 : Int32), M)
  else
  if (M.1 1 1) ≤ x1 then
  some ((-1 : Int32), M)
  else
  (zldI M 2 2000 x1).bind fun v1 =>
  some ((v1 &&& (255 : Int32)), M)
def fX10_scanNumber_L94 (N : Nat) (s1 : Int32) (M : zMem) : Option zMem :=
  zlet (zpI M 20 3 s1) fun M14 =>
  some M14
def fX10_scanNumber_L77 (N : Nat) (x2 : Int32) (s1 : Int32) (M : zMem) : Option zMem :=
  zlet (zpI M 20 2 s1) fun M13 =>
  if (M13.1 20 2) = (2 : Int32) then
  fX10_scanNumber_L94 N x2 M13
  else
  fX10_scanNumber_L94 N (0 : Int32) M13
def fX10_scanNumber_L58 (N : Nat) (x2 : Int32) (M : zMem) : Option zMem :=
  if ((M.1 20 0) - (M.1 20 1)) ≤ (4 : Int32) then
  fX10_scanNumber_L77 N x2 (2 : Int32) M
  else
  fX10_scanNumber_L77 N x2 (1 : Int32) M
def fX10_scanNumber_L4 (N : Nat) : Nat → Int32 → Int32 → zMem → Option zMem
  | 0, _, _, _ => none
  | n + 1, x2, x3, M =>
  if (2000 : Int32) ≤ x3 then
  fX10_scanNumber_L58 N x2 M
  else
  zb2 (fX8_byteAt (M.1 20 0) M) fun r3 M2 =>
  zb2 (fX10_isDigit r3 M2) fun r6 M5 =>
  if r6 = 0 then
  fX10_scanNumber_L58 N x2 M5
  else
  zb2 (fX8_byteAt (M5.1 20 0) M5) fun r9 M8 =>
  zlet (((x2 * (10 : Int32)) + r9) - (48 : Int32)) fun x2_10 =>
  zlet (zpI M8 20 0 ((M8.1 20 0) + (1 : Int32))) fun M11 =>
  zlet (x3 + (1 : Int32)) fun x3_12 =>
  fX10_scanNumber_L4 N n x2_10 x3_12 M11
def fX10_scanNumber (N : Nat)  (M : zMem) : Option zMem :=
  fX10_scanNumber_L4 N N (0 : Int32) (0 : Int32) M
def fX10_doubleSignKind (x0 : Int32) (M : zMem) : Option (Int32 × zMem) :=
  if x0 = (33 : Int32) then
  some ((17 : Int32), M)
  else if x0 = (61 : Int32) then
  some ((16 : Int32), M)
  else 
  some ((19 : Int32), M)
def fX10_singleSignKind (x0 : Int32) (M : zMem) : Option (Int32 × zMem) :=
  if x0 = (40 : Int32) then
  some ((11 : Int32), M)
  else if x0 = (41 : Int32) then
  some ((12 : Int32), M)
  else if x0 = (42 : Int32) then
  some ((15 : Int32), M)
  else if x0 = (43 : Int32) then
  some ((13 : Int32), M)
  else if x0 = (44 : Int32) then
  some ((1 : Int32), M)
  else if x0 = (45 : Int32) then
  some ((14 : Int32), M)
  else if x0 = (46 : Int32) then
  some ((1 : Int32), M)
  else if x0 = (47 : Int32) then
  some ((1 : Int32), M)
  else if x0 = (48 : Int32) then
  some ((1 : Int32), M)
  else if x0 = (49 : Int32) then
  some ((1 : Int32), M)
  else if x0 = (50 : Int32) then
  some ((1 : Int32), M)
  else if x0 = (51 : Int32) then
  some ((1 : Int32), M)
  else if x0 = (52 : Int32) then
  some ((1 : Int32), M)
  else if x0 = (53 : Int32) then
  some ((1 : Int32), M)
  else if x0 = (54 : Int32) then
  some ((1 : Int32), M)
  else if x0 = (55 : Int32) then
  some ((1 : Int32), M)
  else if x0 = (56 : Int32) then
  some ((1 : Int32), M)
  else if x0 = (57 : Int32) then
  some ((1 : Int32), M)
  else if x0 = (58 : Int32) then
  some ((1 : Int32), M)
  else if x0 = (59 : Int32) then
  some ((10 : Int32), M)
  else if x0 = (60 : Int32) then
  some ((18 : Int32), M)
  else 
  some ((1 : Int32), M)
def fX10_scanSign_L69 (s1 : Int32) (M : zMem) : Option zMem :=
  zlet (zpI M 20 2 s1) fun M8 =>
  some M8
def fX10_scanSign_L50 (x1 : Int32) (x3 : Int32) (s1 : Int32) (M : zMem) : Option zMem :=
  zlet (zpI M 20 0 s1) fun M1 =>
  if x3 = 0 then
  zb2 (fX10_singleSignKind x1 M1) fun r4 M3 =>
  fX10_scanSign_L69 r4 M3
  else
  zb2 (fX10_doubleSignKind x1 M1) fun r7 M6 =>
  fX10_scanSign_L69 r7 M6
def fX10_scanSign_L29 (x1 : Int32) (s0 : Int32) (M : zMem) : Option zMem :=
  if s0 = 0 then
  fX10_scanSign_L50 x1 s0 ((M.1 20 1) + (1 : Int32)) M
  else
  fX10_scanSign_L50 x1 s0 ((M.1 20 1) + (2 : Int32)) M
def fX10_scanSign_L24 (x1 : Int32) (M : zMem) : Option zMem :=
  fX10_scanSign_L29 x1 (1 : Int32) M
def fX10_scanSign_L28 (x1 : Int32) (M : zMem) : Option zMem :=
  fX10_scanSign_L29 x1 (0 : Int32) M
def fX10_scanSign (x1 : Int32) (x2 : Int32) (M : zMem) : Option zMem :=
  if x2 = (61 : Int32) then
  if x1 = (61 : Int32) then
  fX10_scanSign_L24 x1 M
  else
  if x1 = (33 : Int32) then
  fX10_scanSign_L24 x1 M
  else
  if x1 = (60 : Int32) then
  fX10_scanSign_L24 x1 M
  else
  fX10_scanSign_L28 x1 M
  else
  fX10_scanSign_L28 x1 M
def fX10_spells_L20 (N : Nat) : Nat → Nat → Int32 → zMem → Option (Int32 × zMem)
  | 0, _, _, _ => none
  | n + 1, x2, x3, M =>
  (zslen x2).bind fun v2 =>
  if v2 ≤ x3 then
  some ((1 : Int32), M)
  else
  zb2 (fX8_byteAt ((M.1 20 1) + x3) M) fun r5 M4 =>
  (zschr x2 x3).bind fun v6 =>
  if r5 = v6 then
  zlet (x3 + (1 : Int32)) fun x3_7 =>
  fX10_spells_L20 N n x2 x3_7 M4
  else
  some ((0 : Int32), M4)
def fX10_spells (N : Nat) (x2 : Nat) (M : zMem) : Option (Int32 × zMem) :=
  (zslen x2).bind fun v1 =>
  if ((M.1 20 0) - (M.1 20 1)) = v1 then
  fX10_spells_L20 N N x2 (0 : Int32) M
  else
  some ((0 : Int32), M)
def fX10_factIndex (N : Nat)  (M : zMem) : Option (Int32 × zMem) :=
  zb2 (fX10_spells N 6 M) fun r3 M2 =>
  if r3 = 0 then
  zb2 (fX10_spells N 7 M2) fun r6 M5 =>
  if r6 = 0 then
  zb2 (fX10_spells N 8 M5) fun r9 M8 =>
  if r9 = 0 then
  zb2 (fX10_spells N 9 M8) fun r12 M11 =>
  if r12 = 0 then
  zb2 (fX10_spells N 10 M11) fun r15 M14 =>
  if r15 = 0 then
  zb2 (fX10_spells N 11 M14) fun r18 M17 =>
  if r18 = 0 then
  some ((-1 : Int32), M17)
  else
  some ((5 : Int32), M17)
  else
  some ((4 : Int32), M14)
  else
  some ((3 : Int32), M11)
  else
  some ((2 : Int32), M8)
  else
  some ((1 : Int32), M5)
  else
  some ((0 : Int32), M2)
def fX10_keywordKind (N : Nat)  (M : zMem) : Option (Int32 × zMem) :=
  zb2 (fX10_spells N 0 M) fun r3 M2 =>
  if r3 = 0 then
  zb2 (fX10_spells N 1 M2) fun r6 M5 =>
  if r6 = 0 then
  zb2 (fX10_spells N 2 M5) fun r9 M8 =>
  if r9 = 0 then
  zb2 (fX10_spells N 3 M8) fun r12 M11 =>
  if r12 = 0 then
  zb2 (fX10_spells N 4 M11) fun r15 M14 =>
  if r15 = 0 then
  zb2 (fX10_spells N 5 M14) fun r18 M17 =>
  if r18 = 0 then
  some ((1 : Int32), M17)
  else
  some ((9 : Int32), M17)
  else
  some ((8 : Int32), M14)
  else
  some ((7 : Int32), M11)
  else
  some ((6 : Int32), M8)
  else
  some ((5 : Int32), M5)
  else
  some ((4 : Int32), M2)
def fX10_scanWord_L97 (N : Nat) (s1 : Int32) (M : zMem) : Option zMem :=
  zlet (zpI M 20 2 s1) fun M17 =>
  some M17
def fX10_scanWord_L63 (N : Nat) (s1 : Int32) (M : zMem) : Option zMem :=
  zlet (zpI M 20 2 s1) fun M12 =>
  if (M12.1 20 2) = (1 : Int32) then
  zb2 (fX10_factIndex N M12) fun r15 M14 =>
  zlet (zpI M14 20 3 r15) fun M16 =>
  if (M16.1 20 3) = (-1 : Int32) then
  fX10_scanWord_L97 N (1 : Int32) M16
  else
  fX10_scanWord_L97 N (3 : Int32) M16
  else
  some M12
def fX10_scanWord_L39 (N : Nat)  (M : zMem) : Option zMem :=
  if ((M.1 20 0) - (M.1 20 1)) ≤ (8 : Int32) then
  zb2 (fX10_keywordKind N M) fun r11 M10 =>
  fX10_scanWord_L63 N r11 M10
  else
  fX10_scanWord_L63 N (1 : Int32) M
def fX10_scanWord_L2 (N : Nat) : Nat → Int32 → zMem → Option zMem
  | 0, _, _ => none
  | n + 1, x2, M =>
  if (2000 : Int32) ≤ x2 then
  fX10_scanWord_L39 N M
  else
  zb2 (fX8_byteAt (M.1 20 0) M) fun r3 M2 =>
  zb2 (fX10_isLetter r3 M2) fun r6 M5 =>
  if r6 = 0 then
  fX10_scanWord_L39 N M5
  else
  zlet (zpI M5 20 0 ((M5.1 20 0) + (1 : Int32))) fun M7 =>
  zlet (x2 + (1 : Int32)) fun x2_8 =>
  fX10_scanWord_L2 N n x2_8 M7
def fX10_scanWord (N : Nat)  (M : zMem) : Option zMem :=
  fX10_scanWord_L2 N N (0 : Int32) M
def fX10_isBlank_L24  (M : zMem) : Option (Int32 × zMem) :=
  some ((1 : Int32), M)
def fX10_isBlank (x0 : Int32) (M : zMem) : Option (Int32 × zMem) :=
  if x0 = (9 : Int32) then
  fX10_isBlank_L24 M
  else
  if x0 = (10 : Int32) then
  fX10_isBlank_L24 M
  else
  if x0 = (13 : Int32) then
  fX10_isBlank_L24 M
  else
  if x0 = (32 : Int32) then
  fX10_isBlank_L24 M
  else
  some ((0 : Int32), M)
def fX10_skipBlanks_L2 (N : Nat) : Nat → Int32 → zMem → Option zMem
  | 0, _, _ => none
  | n + 1, x2, M =>
  if (2000 : Int32) ≤ x2 then
  some M
  else
  zb2 (fX8_byteAt (M.1 20 0) M) fun r3 M2 =>
  zb2 (fX10_isBlank r3 M2) fun r6 M5 =>
  if r6 = 0 then
  some M5
  else
  zlet (zpI M5 20 0 ((M5.1 20 0) + (1 : Int32))) fun M7 =>
  zlet (x2 + (1 : Int32)) fun x2_8 =>
  fX10_skipBlanks_L2 N n x2_8 M7
def fX10_skipBlanks (N : Nat)  (M : zMem) : Option zMem :=
  fX10_skipBlanks_L2 N N (0 : Int32) M
def fX10_scan (N : Nat)  (M : zMem) : Option zMem :=
  (fX10_skipBlanks N M).bind fun M2 =>
  zlet (zpI M2 20 1 (M2.1 20 0)) fun M3 =>
  zlet (zpI M3 20 3 (0 : Int32)) fun M4 =>
  zb2 (fX8_byteAt (M4.1 20 1) M4) fun r7 M6 =>
  if r7 = (-1 : Int32) then
  zlet (zpI M6 20 2 (0 : Int32)) fun M23 =>
  some M23
  else
  zb2 (fX10_isLetter r7 M6) fun r10 M9 =>
  if r10 = 0 then
  zb2 (fX10_isDigit r7 M9) fun r13 M12 =>
  if r13 = 0 then
  zb2 (fX8_byteAt ((M12.1 20 1) + (1 : Int32)) M12) fun r16 M15 =>
  (fX10_scanSign r7 r16 M15).bind fun M18 =>
  some M18
  else
  (fX10_scanNumber N M12).bind fun M20 =>
  some M20
  else
  (fX10_scanWord N M9).bind fun M22 =>
  some M22
def fX10_start  (M : zMem) : Option (Int32 × zMem) :=
  some ((M.1 20 1), M)
def fX10_value  (M : zMem) : Option (Int32 × zMem) :=
  some ((M.1 20 3), M)
def fX10_restart  (M : zMem) : Option zMem :=
  zlet (zpI M 20 0 (0 : Int32)) fun M1 =>
  some M1
def fX6_clear (r0 : Nat) (M : zMem) : Option zMem :=
  zlet (zpI M r0 7 (0 : Int32)) fun M1 =>
  zlet (zpI M1 r0 8 (0 : Int32)) fun M2 =>
  some M2
def fX5_prepare (x1 : Nat) (M : zMem) : Option zMem :=
  zlet (zpR M 19 10 x1) fun M1 =>
  (zdy (M1.2.2 19 10) (fX6_clear (M1.2.2 19 10) M1)).bind fun M3 =>
  (fX10_restart M3).bind fun M5 =>
  zlet (zpI M5 19 2 (0 : Int32)) fun M6 =>
  zlet (zpI M6 19 3 (0 : Int32)) fun M7 =>
  zlet (zpI M7 19 4 (0 : Int32)) fun M8 =>
  zlet (zpI M8 19 5 (0 : Int32)) fun M9 =>
  zlet (zpI M9 19 6 (0 : Int32)) fun M10 =>
  zlet (zpI M10 19 7 (0 : Int32)) fun M11 =>
  zlet (zpI M11 19 8 (-1 : Int32)) fun M12 =>
  some M12
def fX5_rankOf (x0 : Int32) (M : zMem) : Option (Int32 × zMem) :=
  if x0 = (13 : Int32) then
  some ((1 : Int32), M)
  else if x0 = (14 : Int32) then
  some ((1 : Int32), M)
  else if x0 = (15 : Int32) then
  some ((2 : Int32), M)
  else 
  some ((0 : Int32), M)
def fX5_isArithmetic (x0 : Int32) (M : zMem) : Option (Int32 × zMem) :=
  zb2 (fX5_rankOf x0 M) fun r3 M2 =>
  if r3 ≤ 0 then
  some ((0 : Int32), M2)
  else
  some ((1 : Int32), M2)
def fX5_push (x1 : Int32) (M : zMem) : Option zMem :=
  if (20 : Int32) ≤ (M.1 19 2) then
  some M
  else
  (zstI M 21 20 (M.1 19 2) x1).bind fun M1 =>
  zlet (zpI M1 19 2 ((M1.1 19 2) + (1 : Int32))) fun M2 =>
  some M2
def fX6_beginCondition (r0 : Nat) (M : zMem) : Option zMem :=
  if (M.1 r0 7) ≤ 0 then
  some M
  else
  (zstI M (r0 + 4) 20 ((M.1 r0 7) - (1 : Int32)) (M.1 r0 8)).bind fun M1 =>
  some M1
def fX5_beginCondition  (M : zMem) : Option zMem :=
  (zdy (M.2.2 19 10) (fX6_beginCondition (M.2.2 19 10) M)).bind fun M2 =>
  zlet (zpI M2 19 7 (0 : Int32)) fun M3 =>
  zlet (zpI M3 19 5 (1 : Int32)) fun M4 =>
  zlet (zpI M4 19 4 (3 : Int32)) fun M5 =>
  some M5
def fX6_end (r0 : Nat) (M : zMem) : Option zMem :=
  if (M.1 r0 7) ≤ 0 then
  some M
  else
  (zstI M (r0 + 5) 20 ((M.1 r0 7) - (1 : Int32)) (M.1 r0 8)).bind fun M1 =>
  some M1
def fX5_endRule  (M : zMem) : Option zMem :=
  (zdy (M.2.2 19 10) (fX6_end (M.2.2 19 10) M)).bind fun M2 =>
  zlet (zpI M2 19 4 (0 : Int32)) fun M3 =>
  some M3
def fX6_write (r0 : Nat) (x1 : Int32) (x2 : Int32) (M : zMem) : Option zMem :=
  if (400 : Int32) ≤ (M.1 r0 8) then
  some M
  else
  (zstI M (r0 + 6) 400 (M.1 r0 8) ((x2 <<< ((5 : Int32) &&& 31)) ||| x1)).bind fun M1 =>
  zlet (zpI M1 r0 8 ((M1.1 r0 8) + (1 : Int32))) fun M2 =>
  some M2
def fX5_writeOperators_L7 (N : Nat) : Nat → Int32 → Int32 → zMem → Option zMem
  | 0, _, _, _ => none
  | n + 1, x1, x2, M =>
  if x2 < 0 then
  some M
  else
  (zldI M 21 20 x2).bind fun v2 =>
  zb2 (fX5_rankOf v2 M) fun r5 M4 =>
  if r5 < x1 then
  some M4
  else
  (zldI M4 21 20 x2).bind fun v6 =>
  (zdy (M4.2.2 19 10) (fX6_write (M4.2.2 19 10) v6 (0 : Int32) M4)).bind fun M8 =>
  zlet (zpI M8 19 2 x2) fun M9 =>
  zlet (x2 + (-1 : Int32)) fun x2_10 =>
  fX5_writeOperators_L7 N n x1 x2_10 M9
def fX5_writeOperators (N : Nat) (x1 : Int32) (M : zMem) : Option zMem :=
  zlet ((M.1 19 2) - (1 : Int32)) fun x2_1 =>
  fX5_writeOperators_L7 N N x1 x2_1 M
def fX5_takeBehindFirst_L14 (N : Nat) (x1 : Int32) (M : zMem) : Option (Int32 × zMem) :=
  (fX5_writeOperators N (1 : Int32) M).bind fun M2 =>
  if x1 = (8 : Int32) then
  (fX5_beginCondition M2).bind fun M8 =>
  some ((0 : Int32), M8)
  else
  (zdy (M2.2.2 19 10) (fX6_beginCondition (M2.2.2 19 10) M2)).bind fun M4 =>
  (fX5_endRule M4).bind fun M6 =>
  some ((0 : Int32), M6)
def fX5_takeBehindFirst (N : Nat) (x1 : Int32) (M : zMem) : Option (Int32 × zMem) :=
  if x1 = (8 : Int32) then
  fX5_takeBehindFirst_L14 N x1 M
  else
  if x1 = (10 : Int32) then
  fX5_takeBehindFirst_L14 N x1 M
  else
  some ((1 : Int32), M)
def fX5_takeBehindRelation_L48 (N : Nat) (x1 : Int32) (M : zMem) : Option (Int32 × zMem) :=
  if x1 = (9 : Int32) then
  zlet (zpI M 19 7 (1 : Int32)) fun M9 =>
  zlet (zpI M9 19 5 (1 : Int32)) fun M10 =>
  zlet (zpI M10 19 4 (3 : Int32)) fun M11 =>
  some ((0 : Int32), M11)
  else
  (fX5_endRule M).bind fun M8 =>
  some ((0 : Int32), M8)
def fX5_takeBehindRelation_L14 (N : Nat) (x1 : Int32) (M : zMem) : Option (Int32 × zMem) :=
  (fX5_writeOperators N (1 : Int32) M).bind fun M2 =>
  (zdy (M2.2.2 19 10) (fX6_write (M2.2.2 19 10) (M2.1 19 6) (0 : Int32) M2)).bind fun M4 =>
  if (M4.1 19 7) = 0 then
  fX5_takeBehindRelation_L48 N x1 M4
  else
  (zdy (M4.2.2 19 10) (fX6_write (M4.2.2 19 10) (9 : Int32) (0 : Int32) M4)).bind fun M6 =>
  fX5_takeBehindRelation_L48 N x1 M6
def fX5_takeBehindRelation (N : Nat) (x1 : Int32) (M : zMem) : Option (Int32 × zMem) :=
  if x1 = (9 : Int32) then
  fX5_takeBehindRelation_L14 N x1 M
  else
  if x1 = (10 : Int32) then
  fX5_takeBehindRelation_L14 N x1 M
  else
  some ((1 : Int32), M)
def fX5_takeClose_L30 (N : Nat)  (M : zMem) : Option (Int32 × zMem) :=
  zlet (zpI M 19 3 ((M.1 19 3) - (1 : Int32))) fun M4 =>
  some ((0 : Int32), M4)
def fX5_takeClose (N : Nat) (x1 : Int32) (M : zMem) : Option (Int32 × zMem) :=
  if x1 = (12 : Int32) then
  (fX5_writeOperators N (1 : Int32) M).bind fun M2 =>
  if (M2.1 19 2) ≤ 0 then
  fX5_takeClose_L30 N M2
  else
  zlet (zpI M2 19 2 ((M2.1 19 2) - (1 : Int32))) fun M3 =>
  fX5_takeClose_L30 N M3
  else
  some ((1 : Int32), M)
def fX11_isWithin (x0 : Int32) (x1 : Int32) (x2 : Int32) (M : zMem) : Option (Int32 × zMem) :=
  if x0 < x1 then
  some ((0 : Int32), M)
  else
  if x2 < x0 then
  some ((0 : Int32), M)
  else
  some ((1 : Int32), M)
def fX5_isRelation (x0 : Int32) (M : zMem) : Option (Int32 × zMem) :=
  zb2 (fX11_isWithin x0 (16 : Int32) (19 : Int32) M) fun r3 M2 =>
  zgb r3 (some (r3, M2))
def fX5_takeRelation (N : Nat) (x1 : Int32) (M : zMem) : Option (Int32 × zMem) :=
  zb2 (fX5_isRelation x1 M) fun r3 M2 =>
  if r3 = 0 then
  some ((1 : Int32), M2)
  else
  (fX5_writeOperators N (1 : Int32) M2).bind fun M5 =>
  zlet (zpI M5 19 6 x1) fun M6 =>
  zlet (zpI M6 19 5 (2 : Int32)) fun M7 =>
  zlet (zpI M7 19 4 (3 : Int32)) fun M8 =>
  some ((0 : Int32), M8)
def fX5_takeBehindOperand (N : Nat) (x1 : Int32) (M : zMem) : Option (Int32 × zMem) :=
  zb2 (fX5_isArithmetic x1 M) fun r3 M2 =>
  if r3 = 0 then
  if (M2.1 19 3) ≤ 0 then
  if (M2.1 19 5) = (0 : Int32) then
  zb2 (fX5_takeBehindFirst N x1 M2) fun r6 M5 =>
  some (r6, M5)
  else if (M2.1 19 5) = (1 : Int32) then
  zb2 (fX5_takeRelation N x1 M2) fun r9 M8 =>
  some (r9, M8)
  else 
  zb2 (fX5_takeBehindRelation N x1 M2) fun r12 M11 =>
  some (r12, M11)
  else
  zb2 (fX5_takeClose N x1 M2) fun r15 M14 =>
  some (r15, M14)
  else
  zb2 (fX5_rankOf x1 M2) fun r18 M17 =>
  (fX5_writeOperators N r18 M17).bind fun M20 =>
  (fX5_push x1 M20).bind fun M22 =>
  zlet (zpI M22 19 4 (3 : Int32)) fun M23 =>
  some ((0 : Int32), M23)
def fX5_takeIf (x1 : Int32) (M : zMem) : Option (Int32 × zMem) :=
  if x1 = (8 : Int32) then
  (fX5_beginCondition M).bind fun M2 =>
  some ((0 : Int32), M2)
  else
  some ((1 : Int32), M)
def fX6_lastKind (r0 : Nat) (M : zMem) : Option (Int32 × zMem) :=
  zb2 (fX6_kindOf r0 ((M.1 r0 7) - (1 : Int32)) M) fun r3 M2 =>
  some (r3, M2)
def fX6_setNumber (r0 : Nat) (x1 : Int32) (M : zMem) : Option zMem :=
  if (M.1 r0 7) ≤ 0 then
  some M
  else
  (zstI M (r0 + 2) 20 ((M.1 r0 7) - (1 : Int32)) x1).bind fun M1 =>
  some M1
def fX5_takeNumber_L76 (x2 : Int32) (M : zMem) : Option (Int32 × zMem) :=
  (zdy (M.2.2 19 10) (fX6_setNumber (M.2.2 19 10) x2 M)).bind fun M12 =>
  zlet (zpI M12 19 4 (2 : Int32)) fun M13 =>
  some ((0 : Int32), M13)
def fX5_takeNumber_L50 (x2 : Int32) (s0 : Int32) (M : zMem) : Option (Int32 × zMem) :=
  if s0 = 0 then
  if (M.1 19 8) = (-1 : Int32) then
  zb2 (fX10_start M) fun r9 M8 =>
  zlet (zpI M8 19 8 r9) fun M10 =>
  fX5_takeNumber_L76 x2 M10
  else
  fX5_takeNumber_L76 x2 M
  else
  fX5_takeNumber_L76 x2 M
def fX5_takeNumber_L24 (x2 : Int32) (s0 : Int32) (M : zMem) : Option (Int32 × zMem) :=
  if s0 = 0 then
  if (7 : Int32) < x2 then
  fX5_takeNumber_L50 x2 (0 : Int32) M
  else
  fX5_takeNumber_L50 x2 (1 : Int32) M
  else
  zb2 (fX11_isWithin x2 (1 : Int32) (60 : Int32) M) fun r6 M5 =>
  fX5_takeNumber_L50 x2 r6 M5
def fX5_takeNumber (x1 : Int32) (x2 : Int32) (M : zMem) : Option (Int32 × zMem) :=
  if x1 = (2 : Int32) then
  zb2 (zdy (M.2.2 19 10) (fX6_lastKind (M.2.2 19 10) M)) fun r3 M2 =>
  if r3 = (7 : Int32) then
  fX5_takeNumber_L24 x2 (1 : Int32) M2
  else
  fX5_takeNumber_L24 x2 (0 : Int32) M2
  else
  some ((1 : Int32), M)
def fX5_takeOperand_L10 (x1 : Int32) (x2 : Int32) (M : zMem) : Option (Int32 × zMem) :=
  (zdy (M.2.2 19 10) (fX6_write (M.2.2 19 10) x1 x2 M)).bind fun M5 =>
  zlet (zpI M5 19 4 (4 : Int32)) fun M6 =>
  some ((0 : Int32), M6)
def fX5_takeOperand (x1 : Int32) (x2 : Int32) (M : zMem) : Option (Int32 × zMem) :=
  if x1 = (2 : Int32) then
  fX5_takeOperand_L10 x1 x2 M
  else
  if x1 = (3 : Int32) then
  fX5_takeOperand_L10 x1 x2 M
  else
  if x1 = (11 : Int32) then
  if (M.1 19 3) = (6 : Int32) then
  some ((2 : Int32), M)
  else
  zlet (zpI M 19 3 ((M.1 19 3) + (1 : Int32))) fun M1 =>
  (fX5_push x1 M1).bind fun M3 =>
  some ((0 : Int32), M3)
  else
  some ((1 : Int32), M)
def fX6_begin (r0 : Nat) (x1 : Int32) (M : zMem) : Option (Int32 × zMem) :=
  if (M.1 r0 7) < (20 : Int32) then
  (zstI M (r0 + 1) 20 (M.1 r0 7) x1).bind fun M1 =>
  (zstI M1 (r0 + 2) 20 (M1.1 r0 7) (0 : Int32)).bind fun M2 =>
  (zstI M2 (r0 + 3) 20 (M2.1 r0 7) (M2.1 r0 8)).bind fun M3 =>
  (zstI M3 (r0 + 4) 20 (M3.1 r0 7) (M3.1 r0 8)).bind fun M4 =>
  (zstI M4 (r0 + 5) 20 (M4.1 r0 7) (M4.1 r0 8)).bind fun M5 =>
  zlet (zpI M5 r0 7 ((M5.1 r0 7) + (1 : Int32))) fun M6 =>
  some ((1 : Int32), M6)
  else
  some ((0 : Int32), M)
def fX5_takeRuleStart_L58 (x1 : Int32) (M : zMem) : Option (Int32 × zMem) :=
  zlet (zpI M 19 5 (0 : Int32)) fun M5 =>
  zb2 (zdy (M5.2.2 19 10) (fX6_begin (M5.2.2 19 10) x1 M5)) fun r8 M7 =>
  if r8 = 0 then
  some ((2 : Int32), M7)
  else
  some ((0 : Int32), M7)
def fX5_takeRuleStart (x1 : Int32) (M : zMem) : Option (Int32 × zMem) :=
  if x1 = (4 : Int32) then
  zlet (zpI M 19 4 (3 : Int32)) fun M1 =>
  fX5_takeRuleStart_L58 x1 M1
  else if x1 = (5 : Int32) then
  zlet (zpI M 19 4 (1 : Int32)) fun M2 =>
  fX5_takeRuleStart_L58 x1 M2
  else if x1 = (6 : Int32) then
  zlet (zpI M 19 4 (2 : Int32)) fun M3 =>
  fX5_takeRuleStart_L58 x1 M3
  else if x1 = (7 : Int32) then
  zlet (zpI M 19 4 (1 : Int32)) fun M4 =>
  fX5_takeRuleStart_L58 x1 M4
  else 
  some ((1 : Int32), M)
def fX5_take (N : Nat) (x1 : Int32) (x2 : Int32) (M : zMem) : Option (Int32 × zMem) :=
  if (M.1 19 4) = (0 : Int32) then
  zb2 (fX5_takeRuleStart x1 M) fun r3 M2 =>
  some (r3, M2)
  else if (M.1 19 4) = (1 : Int32) then
  zb2 (fX5_takeNumber x1 x2 M) fun r6 M5 =>
  some (r6, M5)
  else if (M.1 19 4) = (2 : Int32) then
  zb2 (fX5_takeIf x1 M) fun r9 M8 =>
  some (r9, M8)
  else if (M.1 19 4) = (3 : Int32) then
  zb2 (fX5_takeOperand x1 x2 M) fun r12 M11 =>
  some (r12, M11)
  else 
  zb2 (fX5_takeBehindOperand N x1 M) fun r15 M14 =>
  some (r15, M14)
def fX5_readRules_L100 (N : Nat) (k13 : Int32 → Int32 → Int32 → zMem → Option (Int32 × zMem)) (x3 : Int32) (x4 : Int32) (x5 : Int32) (M : zMem) : Option (Int32 × zMem) :=
  zlet (x5 + (1 : Int32)) fun x5_22 =>
  k13 x3 x4 x5_22 M
def fX5_readRules_L60 (N : Nat) (k13 : Int32 → Int32 → Int32 → zMem → Option (Int32 × zMem)) (x3 : Int32) (x5 : Int32) (s0 : Int32) (M : zMem) : Option (Int32 × zMem) :=
  if s0 = 0 then
  zb2 (fX10_kind M) fun r15 M14 =>
  zb2 (fX10_value M14) fun r18 M17 =>
  zb2 (fX5_take N r15 r18 M17) fun r21 M20 =>
  if r21 = 0 then
  if x5 ≤ (400 : Int32) then
  fX5_readRules_L100 N k13 r21 s0 x5 M20
  else
  fX5_readRules_L100 N k13 (2 : Int32) s0 x5 M20
  else
  fX5_readRules_L100 N k13 r21 s0 x5 M20
  else
  fX5_readRules_L100 N k13 x3 s0 x5 M
def fX5_readRules_L59 (N : Nat) (k13 : Int32 → Int32 → Int32 → zMem → Option (Int32 × zMem)) (x3 : Int32) (x5 : Int32) (M : zMem) : Option (Int32 × zMem) :=
  fX5_readRules_L60 N k13 x3 x5 (0 : Int32) M
def fX5_readRules_L106 (N : Nat) (x3 : Int32) (M : zMem) : Option (Int32 × zMem) :=
  if x3 = 0 then
  zlet (zpI M 19 9 (M.1 19 8)) fun M8 =>
  if (M8.1 19 8) = (-1 : Int32) then
  some ((0 : Int32), M8)
  else
  some ((5 : Int32), M8)
  else
  zb2 (fX10_start M) fun r11 M10 =>
  zlet (zpI M10 19 9 r11) fun M12 =>
  some (x3, M12)
def fX5_readRules_L13 (N : Nat) : Nat → Int32 → Int32 → Int32 → zMem → Option (Int32 × zMem)
  | 0, _, _, _, _ => none
  | n + 1, x3, x4, x5, M =>
  if (2001 : Int32) < x5 then
  fX5_readRules_L106 N x3 M
  else
  if x3 = 0 then
  if x4 = 0 then
  (fX10_scan N M).bind fun M4 =>
  zb2 (fX10_kind M4) fun r7 M6 =>
  if r7 = 0 then
  if (M6.1 19 4) = 0 then
  fX5_readRules_L60 N (fX5_readRules_L13 N n) x3 x5 (1 : Int32) M6
  else
  fX5_readRules_L59 N (fX5_readRules_L13 N n) x3 x5 M6
  else
  fX5_readRules_L59 N (fX5_readRules_L13 N n) x3 x5 M6
  else
  fX5_readRules_L106 N x3 M
  else
  fX5_readRules_L106 N x3 M
def fX5_readRules (N : Nat) (x2 : Nat) (M : zMem) : Option (Int32 × zMem) :=
  (fX5_prepare x2 M).bind fun M2 =>
  fX5_readRules_L13 N N (0 : Int32) (0 : Int32) (1 : Int32) M2
def fX7_clear  (M : zMem) : Option zMem :=
  zlet (zpI M 36 10 (0 : Int32)) fun M1 =>
  some M1
def fX7_add (x1 : Int32) (x2 : Int32) (x3 : Int32) (M : zMem) : Option zMem :=
  if (5 : Int32) ≤ (M.1 36 10) then
  some M
  else
  (zstI M 37 5 (M.1 36 10) x1).bind fun M1 =>
  (zstI M1 38 5 (M1.1 36 10) x2).bind fun M2 =>
  (zstZ M2 39 5 (M2.1 36 10) x3).bind fun M3 =>
  zlet (zpI M3 36 10 ((M3.1 36 10) + (1 : Int32))) fun M4 =>
  some M4
def fX7_shiftOf (x1 : Int32) (M : zMem) : Option (Int32 × zMem) :=
  if x1 < 0 then
  some ((0 : Int32), M)
  else
  if (M.1 36 10) ≤ x1 then
  some ((0 : Int32), M)
  else
  (zldI M 46 5 x1).bind fun v1 =>
  some (v1, M)
def fJ6_bitCount_0f7a4 (x0 : Int32) (M : zMem) : Option (Int32 × zMem) :=
  zlet (x0 - ((x0.toUInt32 >>> ((1 : Int32).toUInt32 &&& Int32.toUInt32 31)).toInt32 &&& (1431655765 : Int32))) fun x0_1 =>
  zlet ((x0_1 &&& (858993459 : Int32)) + ((x0_1.toUInt32 >>> ((2 : Int32).toUInt32 &&& Int32.toUInt32 31)).toInt32 &&& (858993459 : Int32))) fun x0_2 =>
  zlet ((x0_2 + (x0_2.toUInt32 >>> ((4 : Int32).toUInt32 &&& Int32.toUInt32 31)).toInt32) &&& (252645135 : Int32)) fun x0_3 =>
  zlet (x0_3 + (x0_3.toUInt32 >>> ((8 : Int32).toUInt32 &&& Int32.toUInt32 31)).toInt32) fun x0_4 =>
  zlet (x0_4 + (x0_4.toUInt32 >>> ((16 : Int32).toUInt32 &&& Int32.toUInt32 31)).toInt32) fun x0_5 =>
  some ((x0_5 &&& (63 : Int32)), M)
def fX7_lookAhead_L208 (N : Nat) (k57 : Int32 → zMem → Option zMem) (x1 : Int32) (s1 : Int32) (s2 : Int32) (s3 : Int32) (M : zMem) : Option zMem :=
  (zstI M 44 6 s1 (s2 + s3)).bind fun M28 =>
  zlet (x1 + (-1 : Int32)) fun x1_29 =>
  k57 x1_29 M28
def fX7_lookAhead_L163 (N : Nat) (k57 : Int32 → zMem → Option zMem) (x1 : Int32) (x2 : Int32) (s1 : Int32) (s2 : Int32) (s3 : Int32) (M : zMem) : Option zMem :=
  (zstI M 42 6 s1 (s2 ||| s3)).bind fun M23 =>
  (zldI M23 43 6 (x1 + (1 : Int32))).bind fun v24 =>
  (zstI M23 43 6 x1 (v24 + x2)).bind fun M25 =>
  (zldI M25 44 6 (x1 + (1 : Int32))).bind fun v26 =>
  (zldI M25 39 5 x1).bind fun v27 =>
  if v27 = 0 then
  fX7_lookAhead_L208 N k57 x1 x1 v26 (0 : Int32) M25
  else
  fX7_lookAhead_L208 N k57 x1 x1 v26 x2 M25
def fX7_lookAhead_L57 (N : Nat) : Nat → Int32 → zMem → Option zMem
  | 0, _, _ => none
  | n + 1, x1, M =>
  if x1 < 0 then
  some M
  else
  (zldI M 38 5 x1).bind fun v7 =>
  (zldI M 37 5 x1).bind fun v8 =>
  zb2 (fJ6_bitCount_0f7a4 v8 M) fun r11 M10 =>
  zlet (if r11 < v7 then r11 else v7) fun x2_12 =>
  (zldI M10 40 6 (x1 + (1 : Int32))).bind fun v13 =>
  (zldI M10 37 5 x1).bind fun v14 =>
  (zstI M10 40 6 x1 (v13 ||| v14)).bind fun M15 =>
  (zldI M15 41 6 (x1 + (1 : Int32))).bind fun v16 =>
  (zldI M15 40 6 (x1 + (1 : Int32))).bind fun v17 =>
  (zldI M15 37 5 x1).bind fun v18 =>
  (zstI M15 41 6 x1 (v16 ||| (v17 &&& v18))).bind fun M19 =>
  (zldI M19 42 6 (x1 + (1 : Int32))).bind fun v20 =>
  (zldI M19 39 5 x1).bind fun v21 =>
  if v21 = 0 then
  fX7_lookAhead_L163 N (fX7_lookAhead_L57 N n) x1 x2_12 x1 v20 (0 : Int32) M19
  else
  (zldI M19 37 5 x1).bind fun v22 =>
  fX7_lookAhead_L163 N (fX7_lookAhead_L57 N n) x1 x2_12 x1 v20 v22 M19
def fX7_lookAhead (N : Nat)  (M : zMem) : Option zMem :=
  (zstI M 40 6 (M.1 36 10) (0 : Int32)).bind fun M1 =>
  (zstI M1 41 6 (M1.1 36 10) (0 : Int32)).bind fun M2 =>
  (zstI M2 42 6 (M2.1 36 10) (0 : Int32)).bind fun M3 =>
  (zstI M3 43 6 (M3.1 36 10) (0 : Int32)).bind fun M4 =>
  (zstI M4 44 6 (M4.1 36 10) (0 : Int32)).bind fun M5 =>
  zlet ((M5.1 36 10) - (1 : Int32)) fun x1_6 =>
  fX7_lookAhead_L57 N N x1_6 M5
def fX7_canBeBetter (x1 : Int32) (x2 : Int32) (x3 : Int32) (x4 : Int32) (x5 : Int32) (M : zMem) : Option (Int32 × zMem) :=
  (zldI M 40 6 x1).bind fun v1 =>
  (zldI M 41 6 x1).bind fun v2 =>
  (zldI M 42 6 x1).bind fun v3 =>
  zlet (((x3 ||| (x2 &&& v1)) ||| v2) &&& (x4 ||| v3)) fun x6_4 =>
  zb2 (fJ6_bitCount_0f7a4 (x2 &&& x6_4) M) fun r7 M6 =>
  zb2 (fJ6_bitCount_0f7a4 (x3 &&& x6_4) M6) fun r10 M9 =>
  zlet (r7 + r10) fun x7_11 =>
  zb2 (fJ6_bitCount_0f7a4 x6_4 M9) fun r14 M13 =>
  (zldI M13 43 6 x1).bind fun v15 =>
  zlet (if ((x7_11 + v15) / (2 : Int32)) < r14 then ((x7_11 + v15) / (2 : Int32)) else r14) fun x8_16 =>
  zb2 (fJ6_bitCount_0f7a4 (x4 &&& x6_4) M13) fun r19 M18 =>
  (zldI M18 44 6 x1).bind fun v20 =>
  zlet (if (r19 + v20) < x8_16 then (r19 + v20) else x8_16) fun x8_21 =>
  if x8_21 = (M18.1 36 11) then
  if (M18.1 36 12) ≤ (x5 + (if (0 : Int32) < (((2 : Int32) * (M18.1 36 11)) - x7_11) then (((2 : Int32) * (M18.1 36 11)) - x7_11) else (0 : Int32))) then
  some ((0 : Int32), M18)
  else
  some ((1 : Int32), M18)
  else
  if x8_21 ≤ (M18.1 36 11) then
  some ((0 : Int32), M18)
  else
  some ((1 : Int32), M18)
def fX7_tryFrom_L201 (N : Nat) (rc : Int32 → Int32 → Int32 → Int32 → Int32 → zMem → Option zMem) (k93 : Int32 → Int32 → Int32 → Int32 → Int32 → Int32 → zMem → Option zMem) (x1 : Int32) (x2 : Int32) (x3 : Int32) (x4 : Int32) (x5 : Int32) (x6 : Int32) (M : zMem) : Option zMem :=
  zlet (x6 + (1 : Int32)) fun x6_18 =>
  k93 x1 x2 x3 x4 x5 x6_18 M
def fX7_tryFrom_L169 (N : Nat) (rc : Int32 → Int32 → Int32 → Int32 → Int32 → zMem → Option zMem) (k93 : Int32 → Int32 → Int32 → Int32 → Int32 → Int32 → zMem → Option zMem) (k103 : Int32 → Int32 → Int32 → Int32 → Int32 → Int32 → Int32 → zMem → Option zMem) (x1 : Int32) (x2 : Int32) (x3 : Int32) (x4 : Int32) (x5 : Int32) (x6 : Int32) (x7 : Int32) (x8 : Int32) (s0 : Int32) (M : zMem) : Option zMem :=
  (rc (x1 + (1 : Int32)) (x2 ||| x8) (x3 ||| (x2 &&& x8)) s0 (x5 + x7) M).bind fun M20 =>
  zlet (x7 + (1 : Int32)) fun x7_21 =>
  k103 x1 x2 x3 x4 x5 x6 x7_21 M20
def fX7_tryFrom_L103 (N : Nat) (rc : Int32 → Int32 → Int32 → Int32 → Int32 → zMem → Option zMem) (k93 : Int32 → Int32 → Int32 → Int32 → Int32 → Int32 → zMem → Option zMem) : Nat → Int32 → Int32 → Int32 → Int32 → Int32 → Int32 → Int32 → zMem → Option zMem
  | 0, _, _, _, _, _, _, _, _ => none
  | n + 1, x1, x2, x3, x4, x5, x6, x7, M =>
  (zldI M 38 5 x1).bind fun v13 =>
  if v13 < x7 then
  fX7_tryFrom_L201 N rc k93 x1 x2 x3 x4 x5 x6 M
  else
  zlet ((((1 : Int32) <<< (x7 &&& 31)) - (1 : Int32)) <<< (x6 &&& 31)) fun x8_14 =>
  (zldI M 37 5 x1).bind fun v15 =>
  if (x8_14 &&& (v15 ^^^ (-1 : Int32))) = 0 then
  (zstI M 45 5 x1 x8_14).bind fun M16 =>
  (zldI M16 39 5 x1).bind fun v17 =>
  if v17 = 0 then
  fX7_tryFrom_L169 N rc k93 (fX7_tryFrom_L103 N rc k93 n) x1 x2 x3 x4 x5 x6 x7 x8_14 x4 M16
  else
  fX7_tryFrom_L169 N rc k93 (fX7_tryFrom_L103 N rc k93 n) x1 x2 x3 x4 x5 x6 x7 x8_14 (x4 ||| x8_14) M16
  else
  fX7_tryFrom_L201 N rc k93 x1 x2 x3 x4 x5 x6 M
def fX7_tryFrom_L93 (N : Nat) (rc : Int32 → Int32 → Int32 → Int32 → Int32 → zMem → Option zMem) : Nat → Int32 → Int32 → Int32 → Int32 → Int32 → Int32 → zMem → Option zMem
  | 0, _, _, _, _, _, _, _ => none
  | n + 1, x1, x2, x3, x4, x5, x6, M =>
  if (6 : Int32) ≤ x6 then
  some M
  else
  fX7_tryFrom_L103 N rc (fX7_tryFrom_L93 N rc n) N x1 x2 x3 x4 x5 x6 (1 : Int32) M
def fX7_tryFrom (N : Nat) : Nat → Int32 → Int32 → Int32 → Int32 → Int32 → zMem → Option zMem
  | 0, _, _, _, _, _, _ => none
  | n + 1, x1, x2, x3, x4, x5, M =>
  zlet (fX7_tryFrom N n) fun rc =>
  if x1 < 0 then
  some M
  else
  if (M.1 36 10) < x1 then
  some M
  else
  zb2 (fX7_canBeBetter x1 x2 x3 x4 x5 M) fun r3 M2 =>
  if r3 = 0 then
  some M2
  else
  if x1 = (M2.1 36 10) then
  zb2 (fJ6_bitCount_0f7a4 (x3 &&& x4) M2) fun r9 M8 =>
  zlet (zpI M8 36 11 r9) fun M10 =>
  zlet (zpI M10 36 12 x5) fun M11 =>
  (zcpI M11 45 5 (0 : Int32) 46 5 (0 : Int32) (M11.1 36 10)).bind fun M12 =>
  some M12
  else
  (zstI M2 45 5 x1 (0 : Int32)).bind fun M4 =>
  (rc (x1 + (1 : Int32)) x2 x3 x4 x5 M4).bind fun M6 =>
  fX7_tryFrom_L93 N rc N x1 x2 x3 x4 x5 (0 : Int32) M6
def fX7_findBest (N : Nat)  (M : zMem) : Option (Int32 × zMem) :=
  (fX7_lookAhead N M).bind fun M2 =>
  zlet (zpI M2 36 11 (-1 : Int32)) fun M3 =>
  zlet (zpI M3 36 12 (0 : Int32)) fun M4 =>
  (fX7_tryFrom N 7 (0 : Int32) (0 : Int32) (0 : Int32) (0 : Int32) (0 : Int32) M4).bind fun M6 =>
  some ((M6.1 36 11), M6)
def fX8_length  (M : zMem) : Option (Int32 × zMem) :=
  some ((M.1 1 1), M)
def fX8_hasRoomFor (x1 : Int32) (M : zMem) : Option (Int32 × zMem) :=
  if (2000 : Int32) < ((M.1 1 1) + x1) then
  some ((0 : Int32), M)
  else
  some ((1 : Int32), M)
def fX8_append_L40 (N : Nat) (k3 : Int32 → Int32 → zMem → Option zMem) (x1 : Int32) (x2 : Int32) (M : zMem) : Option zMem :=
  zlet (x2 + (-8 : Int32)) fun x2_3 =>
  k3 x1 x2_3 M
def fX8_append_L3 (N : Nat) : Nat → Int32 → Int32 → zMem → Option zMem
  | 0, _, _, _ => none
  | n + 1, x1, x2, M =>
  if x2 < 0 then
  some M
  else
  if (2000 : Int32) ≤ (M.1 1 1) then
  fX8_append_L40 N (fX8_append_L3 N n) x1 x2 M
  else
  (zstB M 2 2000 (M.1 1 1) (x1.toUInt32 >>> (x2.toUInt32 &&& Int32.toUInt32 31)).toInt32.toInt8.toInt32).bind fun M1 =>
  zlet (zpI M1 1 1 ((M1.1 1 1) + (1 : Int32))) fun M2 =>
  fX8_append_L40 N (fX8_append_L3 N n) x1 x2 M2
def fX8_append (N : Nat) (x1 : Int32) (M : zMem) : Option zMem :=
  fX8_append_L3 N N x1 (24 : Int32) M
def fX8_cutTo (x1 : Int32) (M : zMem) : Option zMem :=
  if x1 < 0 then
  some M
  else
  if (M.1 1 1) < x1 then
  some M
  else
  zlet (zpI M 1 1 x1) fun M1 =>
  some M1
def fX9_stepCount  (M : zMem) : Option (Int32 × zMem) :=
  some ((M.1 22 5), M)
def fX9_addVolunteer (x1 : Int32) (M : zMem) : Option (Int32 × zMem) :=
  if (M.1 22 2) < (8 : Int32) then
  (zstI M 23 8 (M.1 22 2) x1).bind fun M1 =>
  zlet (zpI M1 22 2 ((M1.1 22 2) + (1 : Int32))) fun M2 =>
  some (((M2.1 22 2) - (1 : Int32)), M2)
  else
  some ((-1 : Int32), M)
def fX9_addStep (x1 : Int32) (x2 : Int32) (M : zMem) : Option (Int32 × zMem) :=
  if (M.1 22 5) < (8 : Int32) then
  (zstI M 25 8 (M.1 22 5) x1).bind fun M1 =>
  (zstI M1 26 8 (M1.1 22 5) x2).bind fun M2 =>
  zlet (zpI M2 22 5 ((M2.1 22 5) + (1 : Int32))) fun M3 =>
  some (((M3.1 22 5) - (1 : Int32)), M3)
  else
  some ((-1 : Int32), M)
def fX9_rankOf (x1 : Int32) (M : zMem) : Option (Int32 × zMem) :=
  zb2 (fX9_isVolunteer x1 M) fun r3 M2 =>
  if r3 = 0 then
  some ((-1 : Int32), M2)
  else
  (zldI M2 23 8 x1).bind fun v4 =>
  some (v4, M2)
def fX9_teach_L48 (N : Nat) : Nat → Int32 → Int32 → Int32 → Int32 → zMem → Option (Int32 × zMem)
  | 0, _, _, _, _, _ => none
  | n + 1, x1, x2, x3, x4, M =>
  (zldI M 26 8 x2).bind fun v12 =>
  if (x3 + v12) ≤ x4 then
  some ((1 : Int32), M)
  else
  zb2 (fX11_isNight x4 M) fun r15 M14 =>
  if r15 = 0 then
  some ((1 : Int32), M14)
  else
  (zldJ M14 27 200 x4).bind fun v16 =>
  zb2 (fX9_learnedBit x1 x2 M14) fun r19 M18 =>
  (zstJ M18 27 200 x4 (v16 ||| r19)).bind fun M20 =>
  zlet (x4 + (1 : Int32)) fun x4_21 =>
  fX9_teach_L48 N n x1 x2 x3 x4_21 M20
def fX9_teach_L45 (N : Nat) (x1 : Int32) (x2 : Int32) (x3 : Int32) (M : zMem) : Option (Int32 × zMem) :=
  fX9_teach_L48 N N x1 x2 x3 x3 M
def fX9_teach (N : Nat) (x1 : Int32) (x2 : Int32) (x3 : Int32) (M : zMem) : Option (Int32 × zMem) :=
  zb2 (fX9_isVolunteer x1 M) fun r3 M2 =>
  if r3 = 0 then
  some ((0 : Int32), M2)
  else
  zb2 (fX9_isStep x2 M2) fun r6 M5 =>
  if r6 = 0 then
  some ((0 : Int32), M5)
  else
  (zldI M5 25 8 x2).bind fun v7 =>
  if v7 = (-1 : Int32) then
  fX9_teach_L45 N x1 x2 x3 M5
  else
  (zldI M5 25 8 x2).bind fun v8 =>
  zb2 (fX9_hasStep N x1 v8 x3 M5) fun r11 M10 =>
  if r11 = 0 then
  some ((0 : Int32), M10)
  else
  fX9_teach_L45 N x1 x2 x3 M10
def fX9_addBar (x1 : Int32) (x2 : Int32) (x3 : Int32) (M : zMem) : Option (Int32 × zMem) :=
  zb2 (fX11_isCaller x1 M) fun r3 M2 =>
  if r3 = 0 then
  some ((0 : Int32), M2)
  else
  zb2 (fX9_isVolunteer x2 M2) fun r6 M5 =>
  if r6 = 0 then
  some ((0 : Int32), M5)
  else
  zb2 (fX9_barIndex x1 x2 M5) fun r9 M8 =>
  (zldI M8 28 160 r9).bind fun v10 =>
  if v10 = (-1 : Int32) then
  zb2 (fX9_barIndex x1 x2 M8) fun r13 M12 =>
  (zstI M12 28 160 r13 x3).bind fun M14 =>
  some ((1 : Int32), M14)
  else
  some ((0 : Int32), M8)
def fX9_giveCare (x1 : Int32) (x2 : Int32) (M : zMem) : Option zMem :=
  zb2 (fX9_isVolunteer x1 M) fun r3 M2 =>
  if r3 = 0 then
  some M2
  else
  (zstI M2 24 8 x1 x2).bind fun M4 =>
  some M4
def fX9_caredFrom (x1 : Int32) (M : zMem) : Option (Int32 × zMem) :=
  zb2 (fX9_isVolunteer x1 M) fun r3 M2 =>
  if r3 = 0 then
  some ((0 : Int32), M2)
  else
  (zldI M2 24 8 x1).bind fun v4 =>
  some (v4, M2)
def fX11_feed (N : Nat) (x1 : Int32) (x2 : Int32) (x3 : Int32) (x4 : Int32) (x5 : Int32) (M : zMem) : Option (Int32 × zMem) :=
  zb2 (fX8_hasRoomFor (20 : Int32) M) fun r3 M2 =>
  if r3 = 0 then
  some ((-1 : Int32), M2)
  else
  (fX8_append N x1 M2).bind fun M5 =>
  (fX8_append N x2 M5).bind fun M7 =>
  (fX8_append N x3 M7).bind fun M9 =>
  (fX8_append N x4 M9).bind fun M11 =>
  (fX8_append N x5 M11).bind fun M13 =>
  zb2 (fX8_length M13) fun r16 M15 =>
  some (r16, M15)
def fX11_back (x1 : Int32) (M : zMem) : Option (Int32 × zMem) :=
  zb2 (fX8_length M) fun r3 M2 =>
  zb2 (fX11_isWithin x1 (0 : Int32) r3 M2) fun r6 M5 =>
  if r6 = 0 then
  some ((-1 : Int32), M5)
  else
  zb2 (fX8_length M5) fun r9 M8 =>
  (fX8_cutTo (r9 - x1) M8).bind fun M11 =>
  zb2 (fX8_length M11) fun r14 M13 =>
  some (r14, M13)
def fX11_read (N : Nat)  (M : zMem) : Option (Int32 × zMem) :=
  zb2 (fX5_readRules N (M.2.2 0 3) M) fun r3 M2 =>
  (fX8_cutTo (0 : Int32) M2).bind fun M5 =>
  if r3 = 0 then
  zlet (zpR M5 0 2 (M5.2.2 0 3)) fun M6 =>
  zlet (zpR M6 0 3 (M5.2.2 0 2)) fun M7 =>
  some (r3, M7)
  else
  some (r3, M5)
def fX11_place  (M : zMem) : Option (Int32 × zMem) :=
  zb2 (fX5_faultPlace M) fun r3 M2 =>
  some (r3, M2)
def fX11_volunteer (x1 : Int32) (M : zMem) : Option (Int32 × zMem) :=
  zb2 (fX11_isWithin x1 (0 : Int32) (3 : Int32) M) fun r3 M2 =>
  if r3 = 0 then
  some ((-1 : Int32), M2)
  else
  zb2 (fX9_addVolunteer x1 M2) fun r6 M5 =>
  some (r6, M5)
def fX11_step_L21 (x1 : Int32) (x2 : Int32) (s0 : Int32) (M : zMem) : Option (Int32 × zMem) :=
  if s0 = 0 then
  some ((-1 : Int32), M)
  else
  zb2 (fX11_isWithin x2 (1 : Int32) (200 : Int32) M) fun r6 M5 =>
  if r6 = 0 then
  some ((-1 : Int32), M5)
  else
  zb2 (fX9_addStep x1 x2 M5) fun r9 M8 =>
  some (r9, M8)
def fX11_step_L16 (x1 : Int32) (x2 : Int32) (M : zMem) : Option (Int32 × zMem) :=
  fX11_step_L21 x1 x2 (1 : Int32) M
def fX11_step (x1 : Int32) (x2 : Int32) (M : zMem) : Option (Int32 × zMem) :=
  if x1 = (-1 : Int32) then
  fX11_step_L16 x1 x2 M
  else
  zb2 (fX9_isStep x1 M) fun r3 M2 =>
  if r3 = 0 then
  fX11_step_L21 x1 x2 (0 : Int32) M2
  else
  fX11_step_L16 x1 x2 M2
def fX11_learn (N : Nat) (x1 : Int32) (x2 : Int32) (M : zMem) : Option (Int32 × zMem) :=
  zb2 (fX9_teach N x1 x2 (M.1 0 11) M) fun r3 M2 =>
  zgb r3 (some (r3, M2))
def fX11_has (N : Nat) (x1 : Int32) (x2 : Int32) (x3 : Int32) (M : zMem) : Option (Int32 × zMem) :=
  zb2 (fX9_isVolunteer x1 M) fun r3 M2 =>
  if r3 = 0 then
  some ((-1 : Int32), M2)
  else
  zb2 (fX9_isStep x2 M2) fun r6 M5 =>
  if r6 = 0 then
  some ((-1 : Int32), M5)
  else
  zb2 (fX11_isNight x3 M5) fun r9 M8 =>
  if r9 = 0 then
  some ((-1 : Int32), M8)
  else
  zb2 (fX9_hasStep N x1 x2 x3 M8) fun r12 M11 =>
  if r12 = 0 then
  some ((0 : Int32), M11)
  else
  some ((1 : Int32), M11)
def fX11_bar (x1 : Int32) (x2 : Int32) (M : zMem) : Option (Int32 × zMem) :=
  zb2 (fX9_addBar x1 x2 (M.1 0 11) M) fun r3 M2 =>
  zgb r3 (some (r3, M2))
def fX11_careIsDue (N : Nat) (x1 : Int32) (M : zMem) : Option (Int32 × zMem) :=
  zb2 (fX9_caredFrom x1 M) fun r3 M2 =>
  zb2 (fX1_hasHardCall N x1 r3 (M2.1 0 11) M2) fun r6 M5 =>
  zgb r6 (some (r6, M5))
def fX11_care (N : Nat) (x1 : Int32) (M : zMem) : Option (Int32 × zMem) :=
  zb2 (fX9_isVolunteer x1 M) fun r3 M2 =>
  if r3 = 0 then
  some ((0 : Int32), M2)
  else
  zb2 (fX11_careIsDue N x1 M2) fun r6 M5 =>
  if r6 = 0 then
  some ((0 : Int32), M5)
  else
  (fX9_giveCare x1 (M5.1 0 11) M5).bind fun M8 =>
  some ((1 : Int32), M8)
def fX11_due (N : Nat) (x1 : Int32) (M : zMem) : Option (Int32 × zMem) :=
  zb2 (fX9_isVolunteer x1 M) fun r3 M2 =>
  if r3 = 0 then
  some ((-1 : Int32), M2)
  else
  zb2 (fX11_careIsDue N x1 M2) fun r6 M5 =>
  if r6 = 0 then
  some ((0 : Int32), M5)
  else
  some ((1 : Int32), M5)
def fX11_clock (x1 : Int32) (M : zMem) : Option (Int32 × zMem) :=
  zb2 (fX11_isWithin x1 (M.1 0 11) (199 : Int32) M) fun r3 M2 =>
  if r3 = 0 then
  some ((0 : Int32), M2)
  else
  if x1 = (M2.1 0 11) then
  some ((1 : Int32), M2)
  else
  zlet (zpI M2 0 11 x1) fun M4 =>
  (fX4_clear M4).bind fun M6 =>
  (fX1_beginNight M6).bind fun M8 =>
  some ((1 : Int32), M8)
def fX11_holiday (x1 : Int32) (M : zMem) : Option (Int32 × zMem) :=
  zb2 (fX11_isNight x1 M) fun r3 M2 =>
  if r3 = 0 then
  some ((0 : Int32), M2)
  else
  zb2 (fX0_isHoliday x1 M2) fun r6 M5 =>
  if r6 = 0 then
  zb2 (fX0_isGone x1 M5) fun r9 M8 =>
  if r9 = 0 then
  (fX0_setHoliday x1 M8).bind fun M11 =>
  some ((1 : Int32), M11)
  else
  some ((0 : Int32), M8)
  else
  some ((0 : Int32), M5)
def fX11_offer_L35 (N : Nat) (x1 : Int32) (x2 : Int32) (x3 : Int32) (s0 : Int32) (M : zMem) : Option (Int32 × zMem) :=
  if s0 = 0 then
  some ((-1 : Int32), M)
  else
  zb2 (fX0_isFound (M.1 0 11) M) fun r12 M11 =>
  if r12 = 0 then
  zb2 (fX0_isGone (M11.1 0 11) M11) fun r15 M14 =>
  if r15 = 0 then
  zb2 (fX4_add N x1 x2 x3 M14) fun r18 M17 =>
  some (r18, M17)
  else
  some ((-1 : Int32), M14)
  else
  some ((-1 : Int32), M11)
def fX11_offer_L34 (N : Nat) (x1 : Int32) (x2 : Int32) (x3 : Int32) (M : zMem) : Option (Int32 × zMem) :=
  fX11_offer_L35 N x1 x2 x3 (0 : Int32) M
def fX11_offer (N : Nat) (x1 : Int32) (x2 : Int32) (x3 : Int32) (M : zMem) : Option (Int32 × zMem) :=
  zb2 (fX9_isVolunteer x1 M) fun r3 M2 =>
  if r3 = 0 then
  fX11_offer_L34 N x1 x2 x3 M2
  else
  zb2 (fX11_isWithin x2 (1 : Int32) (63 : Int32) M2) fun r6 M5 =>
  if r6 = 0 then
  fX11_offer_L34 N x1 x2 x3 M5
  else
  zb2 (fX11_isWithin x3 (1 : Int32) (3 : Int32) M5) fun r9 M8 =>
  if r9 = 0 then
  fX11_offer_L34 N x1 x2 x3 M8
  else
  fX11_offer_L35 N x1 x2 x3 (1 : Int32) M8
def fX11_shifts_L79 (N : Nat) (k39 : Int32 → zMem → Option (Int32 × zMem)) (x1 : Int32) (x2 : Int32) (s0 : Int32) (M : zMem) : Option (Int32 × zMem) :=
  zb2 (fX4_mostOf x1 M) fun r40 M39 =>
  zb2 (fX9_hasStep N x2 (0 : Int32) (M39.1 0 11) M39) fun r43 M42 =>
  (fX7_add s0 r40 r43 M42).bind fun M45 =>
  zlet (x1 + (1 : Int32)) fun x1_46 =>
  k39 x1_46 M45
def fX11_shifts_L125 (N : Nat) : Nat → Int32 → Int32 → zMem → Option (Int32 × zMem)
  | 0, _, _, _ => none
  | n + 1, x1, x2, M =>
  zb2 (fX4_size M) fun r26 M25 =>
  if r26 ≤ x2 then
  (fX0_setFound (M25.1 0 11) M25).bind fun M28 =>
  some (x1, M28)
  else
  zb2 (fX4_volunteerOf x2 M25) fun r31 M30 =>
  zb2 (fX7_shiftOf x2 M30) fun r34 M33 =>
  (fX0_setHours r31 (M30.1 0 11) r34 M33).bind fun M36 =>
  zlet (x2 + (1 : Int32)) fun x2_37 =>
  fX11_shifts_L125 N n x1 x2_37 M36
def fX11_shifts_L39 (N : Nat) : Nat → Int32 → zMem → Option (Int32 × zMem)
  | 0, _, _ => none
  | n + 1, x1, M =>
  zb2 (fX4_size M) fun r11 M10 =>
  if r11 ≤ x1 then
  zb2 (fX7_findBest N M10) fun r14 M13 =>
  fX11_shifts_L125 N N r14 (0 : Int32) M13
  else
  zb2 (fX4_volunteerOf x1 M10) fun r17 M16 =>
  zb2 (fX11_careIsDue N r17 M16) fun r20 M19 =>
  if r20 = 0 then
  zb2 (fX4_hoursOf x1 M19) fun r23 M22 =>
  fX11_shifts_L79 N (fX11_shifts_L39 N n) x1 r17 r23 M22
  else
  fX11_shifts_L79 N (fX11_shifts_L39 N n) x1 r17 (0 : Int32) M19
def fX11_shifts (N : Nat)  (M : zMem) : Option (Int32 × zMem) :=
  zb2 (fX0_isFound (M.1 0 11) M) fun r3 M2 =>
  if r3 = 0 then
  zb2 (fX0_isGone (M2.1 0 11) M2) fun r6 M5 =>
  if r6 = 0 then
  (fX7_clear M5).bind fun M8 =>
  fX11_shifts_L39 N N (0 : Int32) M8
  else
  some ((-1 : Int32), M5)
  else
  some ((-1 : Int32), M2)
def fX11_there (x1 : Int32) (x2 : Int32) (M : zMem) : Option (Int32 × zMem) :=
  zb2 (fX9_isVolunteer x1 M) fun r3 M2 =>
  if r3 = 0 then
  some ((-1 : Int32), M2)
  else
  zb2 (fX11_isNight x2 M2) fun r6 M5 =>
  if r6 = 0 then
  some ((-1 : Int32), M5)
  else
  zb2 (fX0_hoursOf x1 x2 M5) fun r9 M8 =>
  some (r9, M8)
def fX11_keptHours_L68 (N : Nat) (k10 : Int32 → Int32 → Int32 → Int32 → Int32 → zMem → Option (Int32 × zMem)) (x1 : Int32) (x2 : Int32) (x3 : Int32) (x5 : Int32) (s0 : Int32) (s1 : Int32) (M : zMem) : Option (Int32 × zMem) :=
  zlet (s0 ||| s1) fun x4_12 =>
  zlet (x5 + (1 : Int32)) fun x5_13 =>
  k10 x1 x2 x3 x4_12 x5_13 M
def fX11_keptHours_L10 (N : Nat) : Nat → Int32 → Int32 → Int32 → Int32 → Int32 → zMem → Option (Int32 × zMem)
  | 0, _, _, _, _, _, _ => none
  | n + 1, x1, x2, x3, x4, x5, M =>
  zb2 (fX9_size M) fun r3 M2 =>
  if r3 ≤ x5 then
  some ((x3 &&& x4), M2)
  else
  zb2 (fX0_hoursOf x5 x1 M2) fun r6 M5 =>
  zlet (x3 ||| (x2 &&& r6)) fun x3_7 =>
  zlet (x2 ||| r6) fun x2_8 =>
  zb2 (fX9_hasStep N x5 (0 : Int32) x1 M5) fun r11 M10 =>
  if r11 = 0 then
  fX11_keptHours_L68 N (fX11_keptHours_L10 N n) x1 x2_8 x3_7 x5 x4 (0 : Int32) M10
  else
  fX11_keptHours_L68 N (fX11_keptHours_L10 N n) x1 x2_8 x3_7 x5 x4 r6 M10
def fX11_keptHours (N : Nat) (x1 : Int32) (M : zMem) : Option (Int32 × zMem) :=
  fX11_keptHours_L10 N N x1 (0 : Int32) (0 : Int32) (0 : Int32) (0 : Int32) M
def fX11_lacks (N : Nat) (x1 : Int32) (M : zMem) : Option (Int32 × zMem) :=
  zb2 (fX11_isNight x1 M) fun r3 M2 =>
  if r3 = 0 then
  some ((-1 : Int32), M2)
  else
  zb2 (fX0_isFound x1 M2) fun r6 M5 =>
  if r6 = 0 then
  some ((-1 : Int32), M5)
  else
  zb2 (fX11_keptHours N x1 M5) fun r9 M8 =>
  some (((63 : Int32) &&& (r9 ^^^ (-1 : Int32))), M8)
def fX11_call_L55 (x1 : Int32) (x2 : Int32) (x3 : Int32) (x4 : Int32) (x5 : Int32) (s0 : Int32) (M : zMem) : Option (Int32 × zMem) :=
  if s0 = 0 then
  some ((-1 : Int32), M)
  else
  zb2 (fX0_isGone (M.1 0 11) M) fun r18 M17 =>
  if r18 = 0 then
  zb2 (fX1_add (M17.1 0 11) x1 x2 x3 x4 x5 M17) fun r21 M20 =>
  some (r21, M20)
  else
  some ((-1 : Int32), M17)
def fX11_call_L54 (x1 : Int32) (x2 : Int32) (x3 : Int32) (x4 : Int32) (x5 : Int32) (M : zMem) : Option (Int32 × zMem) :=
  fX11_call_L55 x1 x2 x3 x4 x5 (0 : Int32) M
def fX11_call (x1 : Int32) (x2 : Int32) (x3 : Int32) (x4 : Int32) (x5 : Int32) (M : zMem) : Option (Int32 × zMem) :=
  zb2 (fX11_isWithin x1 (0 : Int32) (359 : Int32) M) fun r3 M2 =>
  if r3 = 0 then
  fX11_call_L54 x1 x2 x3 x4 x5 M2
  else
  zb2 (fX11_isCaller x2 M2) fun r6 M5 =>
  if r6 = 0 then
  fX11_call_L54 x1 x2 x3 x4 x5 M5
  else
  zb2 (fX11_isWithin x3 (0 : Int32) (9 : Int32) M5) fun r9 M8 =>
  if r9 = 0 then
  fX11_call_L54 x1 x2 x3 x4 x5 M8
  else
  zb2 (fX11_isWithin x4 (0 : Int32) (7 : Int32) M8) fun r12 M11 =>
  if r12 = 0 then
  fX11_call_L54 x1 x2 x3 x4 x5 M11
  else
  zb2 (fX11_isWithin x5 (1 : Int32) (90 : Int32) M11) fun r15 M14 =>
  if r15 = 0 then
  fX11_call_L54 x1 x2 x3 x4 x5 M14
  else
  fX11_call_L55 x1 x2 x3 x4 x5 (1 : Int32) M14
def fX11_go (N : Nat)  (M : zMem) : Option (Int32 × zMem) :=
  zb2 (fX0_isGone (M.1 0 11) M) fun r3 M2 =>
  if r3 = 0 then
  (fX0_setGone (M2.1 0 11) M2).bind fun M5 =>
  zb2 (fX2_goThrough N (M5.1 0 11) (M5.2.2 0 2) M5) fun r8 M7 =>
  some (r8, M7)
  else
  some ((-1 : Int32), M2)
def fX11_told (x1 : Int32) (x2 : Int32) (M : zMem) : Option (Int32 × zMem) :=
  zb2 (fX1_isCall x1 M) fun r3 M2 =>
  if r3 = 0 then
  some ((-1 : Int32), M2)
  else
  if x2 = (0 : Int32) then
  zb2 (fX1_nightOf x1 M2) fun r6 M5 =>
  some (r6, M5)
  else if x2 = (1 : Int32) then
  zb2 (fX1_stateOf x1 M2) fun r9 M8 =>
  some (r9, M8)
  else if x2 = (2 : Int32) then
  zb2 (fX1_takerOf x1 M2) fun r12 M11 =>
  some (r12, M11)
  else if x2 = (3 : Int32) then
  zb2 (fX1_sinceOf x1 M2) fun r15 M14 =>
  some (r15, M14)
  else if x2 = (4 : Int32) then
  zb2 (fX1_endOf x1 M2) fun r18 M17 =>
  some (r18, M17)
  else if x2 = (5 : Int32) then
  zb2 (fX1_callerOf x1 M2) fun r21 M20 =>
  some (r21, M20)
  else 
  some ((-1 : Int32), M2)
def fX11_talked (N : Nat) (x1 : Int32) (x2 : Int32) (M : zMem) : Option (Int32 × zMem) :=
  zb2 (fX9_isVolunteer x1 M) fun r3 M2 =>
  if r3 = 0 then
  some ((-1 : Int32), M2)
  else
  zb2 (fX0_isGone x2 M2) fun r6 M5 =>
  if r6 = 0 then
  some ((-1 : Int32), M5)
  else
  zb2 (fX1_minutesOf N x1 x2 M5) fun r9 M8 =>
  some (r9, M8)
def fX11_note (x1 : Int32) (x2 : Int32) (M : zMem) : Option (Int32 × zMem) :=
  zb2 (fX11_isWithin x2 (0 : Int32) (3 : Int32) M) fun r3 M2 =>
  if r3 = 0 then
  some ((-1 : Int32), M2)
  else
  zb2 (fX1_stateOf x1 M2) fun r6 M5 =>
  if r6 = (1 : Int32) then
  zb2 (fX3_add x1 x2 (M5.1 0 11) M5) fun r9 M8 =>
  some (r9, M8)
  else
  some ((-1 : Int32), M5)
def fX11_maySee (x1 : Int32) (x2 : Int32) (x3 : Int32) (M : zMem) : Option (Int32 × zMem) :=
  zb2 (fX3_nightOf x2 M) fun r3 M2 =>
  if r3 ≤ x3 then
  zb2 (fX3_callOf x2 M2) fun r6 M5 =>
  zb2 (fX1_takerOf r6 M5) fun r9 M8 =>
  if r9 = x1 then
  some ((1 : Int32), M8)
  else
  zb2 (fX9_rankOf x1 M8) fun r12 M11 =>
  zb2 (fX3_rankOf x2 M11) fun r15 M14 =>
  if r12 < r15 then
  some ((0 : Int32), M14)
  else
  zb2 (fX1_callerOf r6 M14) fun r18 M17 =>
  zb2 (fX9_isBarred r18 x1 x3 M17) fun r21 M20 =>
  if r21 = 0 then
  some ((1 : Int32), M20)
  else
  some ((0 : Int32), M20)
  else
  some ((0 : Int32), M2)
def fX11_see (x1 : Int32) (x2 : Int32) (x3 : Int32) (M : zMem) : Option (Int32 × zMem) :=
  zb2 (fX9_isVolunteer x1 M) fun r3 M2 =>
  if r3 = 0 then
  some ((-1 : Int32), M2)
  else
  zb2 (fX3_isNote x2 M2) fun r6 M5 =>
  if r6 = 0 then
  some ((-1 : Int32), M5)
  else
  zb2 (fX11_isNight x3 M5) fun r9 M8 =>
  if r9 = 0 then
  some ((-1 : Int32), M8)
  else
  zb2 (fX11_maySee x1 x2 x3 M8) fun r12 M11 =>
  if r12 = 0 then
  some ((0 : Int32), M11)
  else
  some ((1 : Int32), M11)
def fX11_isForerunner (x1 : Int32) (x2 : Int32) (M : zMem) : Option (Int32 × zMem) :=
  if (M.1 0 11) ≤ x1 then
  some ((0 : Int32), M)
  else
  zb2 (fX0_isGone x1 M) fun r3 M2 =>
  if r3 = 0 then
  some ((0 : Int32), M2)
  else
  zb2 (fX0_areAlike x1 x2 M2) fun r6 M5 =>
  if r6 = 0 then
  some ((0 : Int32), M5)
  else
  some ((1 : Int32), M5)
def fX11_foretold_L45 (N : Nat) (k23 : Int32 → Int32 → Int32 → Int32 → zMem → Option (Int32 × zMem)) (x1 : Int32) (x2 : Int32) (x3 : Int32) (x4 : Int32) (M : zMem) : Option (Int32 × zMem) :=
  zlet (x4 + (1 : Int32)) fun x4_24 =>
  k23 x1 x2 x3 x4_24 M
def fX11_foretold_L105 (N : Nat) (k57 : Int32 → Int32 → Int32 → Int32 → Int32 → zMem → Option (Int32 × zMem)) (x1 : Int32) (x2 : Int32) (x3 : Int32) (x4 : Int32) (x5 : Int32) (M : zMem) : Option (Int32 × zMem) :=
  zlet (x5 + (1 : Int32)) fun x5_25 =>
  k57 x1 x2 x3 x4 x5_25 M
def fX11_foretold_L57 (N : Nat) : Nat → Int32 → Int32 → Int32 → Int32 → Int32 → zMem → Option (Int32 × zMem)
  | 0, _, _, _, _, _, _ => none
  | n + 1, x1, x2, x3, x4, x5, M =>
  zb2 (fX1_size M) fun r13 M12 =>
  if r13 ≤ x5 then
  if x3 = 0 then
  some ((-1 : Int32), M12)
  else
  if ¬ x3 = 0 then
  some (((x4 * (100 : Int32)) / x3), M12)
  else none
  else
  zb2 (fX1_minuteOf x5 M12) fun r16 M15 =>
  if (r16 / (60 : Int32)) = x1 then
  zb2 (fX1_nightOf x5 M15) fun r19 M18 =>
  zb2 (fX11_isForerunner r19 x2 M18) fun r22 M21 =>
  if r22 = 0 then
  fX11_foretold_L105 N (fX11_foretold_L57 N n) x1 x2 x3 x4 x5 M21
  else
  zlet (x4 + (1 : Int32)) fun x4_23 =>
  fX11_foretold_L105 N (fX11_foretold_L57 N n) x1 x2 x3 x4_23 x5 M21
  else
  fX11_foretold_L105 N (fX11_foretold_L57 N n) x1 x2 x3 x4 x5 M15
def fX11_foretold_L23 (N : Nat) : Nat → Int32 → Int32 → Int32 → Int32 → zMem → Option (Int32 × zMem)
  | 0, _, _, _, _, _ => none
  | n + 1, x1, x2, x3, x4, M =>
  if (M.1 0 11) ≤ x4 then
  fX11_foretold_L57 N N x1 x2 x3 (0 : Int32) (0 : Int32) M
  else
  zb2 (fX11_isForerunner x4 x2 M) fun r9 M8 =>
  if r9 = 0 then
  fX11_foretold_L45 N (fX11_foretold_L23 N n) x1 x2 x3 x4 M8
  else
  zlet (x3 + (1 : Int32)) fun x3_10 =>
  fX11_foretold_L45 N (fX11_foretold_L23 N n) x1 x2 x3_10 x4 M8
def fX11_foretold (N : Nat) (x1 : Int32) (x2 : Int32) (M : zMem) : Option (Int32 × zMem) :=
  zb2 (fX11_isWithin x1 (0 : Int32) (5 : Int32) M) fun r3 M2 =>
  if r3 = 0 then
  some ((-1 : Int32), M2)
  else
  zb2 (fX11_isNight x2 M2) fun r6 M5 =>
  if r6 = 0 then
  some ((-1 : Int32), M5)
  else
  fX11_foretold_L23 N N x1 x2 (0 : Int32) (0 : Int32) M5
def fX11_count (N : Nat) (x1 : Int32) (M : zMem) : Option (Int32 × zMem) :=
  if x1 = (0 : Int32) then
  zb2 (fX9_size M) fun r3 M2 =>
  some (r3, M2)
  else if x1 = (1 : Int32) then
  zb2 (fX9_stepCount M) fun r6 M5 =>
  some (r6, M5)
  else if x1 = (2 : Int32) then
  some ((M.1 0 11), M)
  else if x1 = (3 : Int32) then
  zb2 (fX1_size M) fun r9 M8 =>
  some (r9, M8)
  else if x1 = (4 : Int32) then
  zb2 (fX1_countState N (1 : Int32) M) fun r12 M11 =>
  some (r12, M11)
  else if x1 = (5 : Int32) then
  zb2 (fX1_countState N (2 : Int32) M) fun r15 M14 =>
  some (r15, M14)
  else if x1 = (6 : Int32) then
  zb2 (fX1_countState N (3 : Int32) M) fun r18 M17 =>
  some (r18, M17)
  else if x1 = (7 : Int32) then
  zb2 (fX3_size M) fun r21 M20 =>
  some (r21, M20)
  else if x1 = (8 : Int32) then
  zb2 (zdy (M.2.2 0 2) (fX6_size (M.2.2 0 2) M)) fun r24 M23 =>
  some (r24, M23)
  else if x1 = (9 : Int32) then
  zb2 (fX0_countGone N M) fun r27 M26 =>
  some (r27, M26)
  else if x1 = (10 : Int32) then
  zb2 (fX8_length M) fun r30 M29 =>
  some (r30, M29)
  else 
  some ((-1 : Int32), M)
def fX12_put_L3 (N : Nat) : Nat → Int32 → Int32 → zMem → Option zMem
  | 0, _, _, _ => none
  | n + 1, x1, x2, M =>
  if x2 < 0 then
  some M
  else
  (zstB M 70 2000 (M.1 69 2) (x1 >>> (x2 &&& 31)).toInt8.toInt32).bind fun M1 =>
  zlet (zpI M1 69 2 ((M1.1 69 2) + (1 : Int32))) fun M2 =>
  zlet (x2 + (-8 : Int32)) fun x2_3 =>
  fX12_put_L3 N n x1 x2_3 M2
def fX12_put (N : Nat) (x1 : Int32) (M : zMem) : Option zMem :=
  fX12_put_L3 N N x1 (24 : Int32) M
def fX12_feed (N : Nat) (x1 : Int32) (x2 : Int32) (x3 : Int32) (x4 : Int32) (x5 : Int32) (M : zMem) : Option (Int32 × zMem) :=
  if ((M.1 69 2) + (20 : Int32)) ≤ (2000 : Int32) then
  (fX12_put N x1 M).bind fun M2 =>
  (fX12_put N x2 M2).bind fun M4 =>
  (fX12_put N x3 M4).bind fun M6 =>
  (fX12_put N x4 M6).bind fun M8 =>
  (fX12_put N x5 M8).bind fun M10 =>
  some ((M10.1 69 2), M10)
  else
  some ((-1 : Int32), M)
def fX12_back (x1 : Int32) (M : zMem) : Option (Int32 × zMem) :=
  if x1 < 0 then
  some ((-1 : Int32), M)
  else
  if x1 ≤ (M.1 69 2) then
  zlet (zpI M 69 2 ((M.1 69 2) - x1)) fun M1 =>
  some ((M1.1 69 2), M1)
  else
  some ((-1 : Int32), M)
def fX12_at (x1 : Int32) (M : zMem) : Option (Int32 × zMem) :=
  if (M.1 69 4) ≤ x1 then
  some ((0 : Int32), M)
  else
  (zldI M 71 2000 x1).bind fun v1 =>
  some ((v1 &&& (255 : Int32)), M)
def fX12_isDigit (x0 : Int32) (M : zMem) : Option (Int32 × zMem) :=
  if x0 < (48 : Int32) then
  some ((0 : Int32), M)
  else
  if (57 : Int32) < x0 then
  some ((0 : Int32), M)
  else
  some ((1 : Int32), M)
def fX12_isLetter (x0 : Int32) (M : zMem) : Option (Int32 × zMem) :=
  if x0 < (97 : Int32) then
  some ((0 : Int32), M)
  else
  if (122 : Int32) < x0 then
  some ((0 : Int32), M)
  else
  some ((1 : Int32), M)
def fX12_more (x0 : Int64) (x2 : Int32) (M : zMem) : Option (Int64 × zMem) :=
  if x2 = 0 then
  some (x0, M)
  else
  some ((((27 : Int64) * x0) + ((x2 - (97 : Int32)) + (1 : Int32)).toInt64), M)
def fX12_word (x0 : Int32) (x1 : Int32) (x2 : Int32) (x3 : Int32) (x4 : Int32) (x5 : Int32) (x6 : Int32) (M : zMem) : Option (Int64 × zMem) :=
  zb2 (fX12_more (0 : Int64) x0 M) fun r3 M2 =>
  zb2 (fX12_more r3 x1 M2) fun r6 M5 =>
  zb2 (fX12_more r6 x2 M5) fun r9 M8 =>
  zb2 (fX12_more r9 x3 M8) fun r12 M11 =>
  zb2 (fX12_more r12 x4 M11) fun r15 M14 =>
  zb2 (fX12_more r15 x5 M14) fun r18 M17 =>
  zb2 (fX12_more r18 x6 M17) fun r21 M20 =>
  some (r21, M20)
def fX12_token (x1 : Int32) (x2 : Int32) (x3 : Int32) (x4 : Int64) (M : zMem) : Option zMem :=
  (zstI M 72 403 (M.1 69 10) x1).bind fun M1 =>
  (zstI M1 73 403 (M1.1 69 10) x2).bind fun M2 =>
  (zstI M2 74 403 (M2.1 69 10) x3).bind fun M3 =>
  (zstJ M3 75 403 (M3.1 69 10) x4).bind fun M4 =>
  zlet (zpI M4 69 10 ((M4.1 69 10) + (1 : Int32))) fun M5 =>
  some M5
def fX12_sign_L148 (x1 : Int32) (x4 : Int32) (x5 : Int32) (M : zMem) : Option (Int32 × zMem) :=
  (fX12_token x5 x1 (0 : Int32) (0 : Int64) M).bind fun M2 =>
  if x4 ≤ 0 then
  some ((1 : Int32), M2)
  else
  some ((2 : Int32), M2)
def fX12_sign_L44 (x1 : Int32) (x2 : Int32) (s0 : Int32) (M : zMem) : Option (Int32 × zMem) :=
  if s0 ≤ 0 then
  if x2 = (59 : Int32) then
  fX12_sign_L148 x1 s0 (4 : Int32) M
  else
  if x2 = (40 : Int32) then
  fX12_sign_L148 x1 s0 (6 : Int32) M
  else
  if x2 = (41 : Int32) then
  fX12_sign_L148 x1 s0 (7 : Int32) M
  else
  if x2 = (43 : Int32) then
  fX12_sign_L148 x1 s0 (8 : Int32) M
  else
  if x2 = (45 : Int32) then
  fX12_sign_L148 x1 s0 (9 : Int32) M
  else
  if x2 = (42 : Int32) then
  fX12_sign_L148 x1 s0 (10 : Int32) M
  else
  if x2 = (60 : Int32) then
  fX12_sign_L148 x1 s0 (13 : Int32) M
  else
  fX12_sign_L148 x1 s0 (3 : Int32) M
  else
  fX12_sign_L148 x1 s0 s0 M
def fX12_sign (x1 : Int32) (x2 : Int32) (x3 : Int32) (M : zMem) : Option (Int32 × zMem) :=
  if x3 = (61 : Int32) then
  if x2 = (61 : Int32) then
  fX12_sign_L44 x1 x2 (11 : Int32) M
  else
  if x2 = (33 : Int32) then
  fX12_sign_L44 x1 x2 (12 : Int32) M
  else
  if x2 = (60 : Int32) then
  fX12_sign_L44 x1 x2 (14 : Int32) M
  else
  fX12_sign_L44 x1 x2 (0 : Int32) M
  else
  fX12_sign_L44 x1 x2 (0 : Int32) M
def fX12_cut_L291 (N : Nat) (k7 : Int32 → zMem → Option zMem) (x1 : Int32) (M : zMem) : Option zMem :=
  k7 x1 M
def fX12_cut_L67 (N : Nat) (k7 : Int32 → zMem → Option zMem) (x1 : Int32) (M : zMem) : Option zMem :=
  zlet (x1 + (1 : Int32)) fun x1_20 =>
  fX12_cut_L291 N k7 x1_20 M
def fX12_cut_L118 (N : Nat) (k7 : Int32 → zMem → Option zMem) (k85 : Int32 → Int32 → Int64 → zMem → Option zMem) (x1 : Int32) (x3 : Int32) (x4 : Int64) (M : zMem) : Option zMem :=
  zlet (x3 + (1 : Int32)) fun x3_47 =>
  k85 x1 x3_47 x4 M
def fX12_cut_L173 (N : Nat) (k7 : Int32 → zMem → Option zMem) (k146 : Int32 → Int32 → Int64 → Int32 → Int32 → zMem → Option zMem) (x1 : Int32) (x3 : Int32) (x4 : Int64) (x6 : Int32) (x7 : Int32) (M : zMem) : Option zMem :=
  zlet (x7 + (1 : Int32)) fun x7_53 =>
  k146 x1 x3 x4 x6 x7_53 M
def fX12_cut_L179 (N : Nat) (k7 : Int32 → zMem → Option zMem) (x1 : Int32) (x3 : Int32) (x4 : Int64) (x6 : Int32) (M : zMem) : Option zMem :=
  (fX12_token x6 x1 (0 : Int32) x4 M).bind fun M49 =>
  zlet (x1 + x3) fun x1_50 =>
  fX12_cut_L291 N k7 x1_50 M49
def fX12_cut_L146 (N : Nat) (k7 : Int32 → zMem → Option zMem) : Nat → Int32 → Int32 → Int64 → Int32 → Int32 → zMem → Option zMem
  | 0, _, _, _, _, _, _ => none
  | n + 1, x1, x3, x4, x6, x7, M =>
  if (12 : Int32) ≤ x7 then
  fX12_cut_L179 N k7 x1 x3 x4 x6 M
  else
  (zldJ M 76 12 x7).bind fun v51 =>
  if (lg_cmp v51 x4) = 0 then
  zlet ((20 : Int32) + x7) fun x6_52 =>
  fX12_cut_L173 N k7 (fX12_cut_L146 N k7 n) x1 x3 x4 x6_52 x7 M
  else
  fX12_cut_L173 N k7 (fX12_cut_L146 N k7 n) x1 x3 x4 x6 x7 M
def fX12_cut_L135 (N : Nat) (k7 : Int32 → zMem → Option zMem) (x1 : Int32) (x3 : Int32) (x4 : Int64) (s0 : Int32) (M : zMem) : Option zMem :=
  if (7 : Int32) < x3 then
  fX12_cut_L179 N k7 x1 x3 x4 s0 M
  else
  fX12_cut_L146 N k7 N x1 x3 x4 s0 (0 : Int32) M
def fX12_cut_L85 (N : Nat) (k7 : Int32 → zMem → Option zMem) : Nat → Int32 → Int32 → Int64 → zMem → Option zMem
  | 0, _, _, _, _ => none
  | n + 1, x1, x3, x4, M =>
  zb2 (fX12_at (x1 + x3) M) fun r33 M32 =>
  zb2 (fX12_isLetter r33 M32) fun r36 M35 =>
  if r36 = 0 then
  if x3 ≤ (8 : Int32) then
  fX12_cut_L135 N k7 x1 x3 x4 (1 : Int32) M35
  else
  fX12_cut_L135 N k7 x1 x3 x4 (3 : Int32) M35
  else
  if (8 : Int32) ≤ x3 then
  fX12_cut_L118 N k7 (fX12_cut_L85 N k7 n) x1 x3 x4 M35
  else
  zb2 (fX12_at (x1 + x3) M35) fun r39 M38 =>
  zb2 (fX12_more x4 r39 M38) fun r42 M41 =>
  fX12_cut_L118 N k7 (fX12_cut_L85 N k7 n) x1 x3 r42 M41
def fX12_cut_L244 (N : Nat) (k7 : Int32 → zMem → Option zMem) (k208 : Int32 → Int32 → Int32 → zMem → Option zMem) (x1 : Int32) (x3 : Int32) (x4 : Int32) (M : zMem) : Option zMem :=
  zlet (x3 + (1 : Int32)) fun x3_46 =>
  k208 x1 x3_46 x4 M
def fX12_cut_L261 (N : Nat) (k7 : Int32 → zMem → Option zMem) (x1 : Int32) (x3 : Int32) (x4 : Int32) (s1 : Int32) (M : zMem) : Option zMem :=
  (fX12_token s1 x1 x4 (0 : Int64) M).bind fun M44 =>
  zlet (x1 + x3) fun x1_45 =>
  fX12_cut_L291 N k7 x1_45 M44
def fX12_cut_L208 (N : Nat) (k7 : Int32 → zMem → Option zMem) : Nat → Int32 → Int32 → Int32 → zMem → Option zMem
  | 0, _, _, _, _ => none
  | n + 1, x1, x3, x4, M =>
  zb2 (fX12_at (x1 + x3) M) fun r23 M22 =>
  zb2 (fX12_isDigit r23 M22) fun r26 M25 =>
  if r26 = 0 then
  if x3 ≤ (4 : Int32) then
  fX12_cut_L261 N k7 x1 x3 x4 (2 : Int32) M25
  else
  fX12_cut_L261 N k7 x1 x3 x4 (3 : Int32) M25
  else
  if (4 : Int32) ≤ x3 then
  fX12_cut_L244 N k7 (fX12_cut_L208 N k7 n) x1 x3 x4 M25
  else
  zb2 (fX12_at (x1 + x3) M25) fun r29 M28 =>
  zlet ((((10 : Int32) * x4) + r29) - (48 : Int32)) fun x4_30 =>
  fX12_cut_L244 N k7 (fX12_cut_L208 N k7 n) x1 x3 x4_30 M28
def fX12_cut_L7 (N : Nat) : Nat → Int32 → zMem → Option zMem
  | 0, _, _ => none
  | n + 1, x1, M =>
  if (400 : Int32) < (M.1 69 10) then
  some M
  else
  zb2 (fX12_at x1 M) fun r4 M3 =>
  if x1 < (M3.1 69 4) then
  if r4 = (9 : Int32) then
  fX12_cut_L67 N (fX12_cut_L7 N n) x1 M3
  else
  if r4 = (10 : Int32) then
  fX12_cut_L67 N (fX12_cut_L7 N n) x1 M3
  else
  if r4 = (13 : Int32) then
  fX12_cut_L67 N (fX12_cut_L7 N n) x1 M3
  else
  if r4 = (32 : Int32) then
  fX12_cut_L67 N (fX12_cut_L7 N n) x1 M3
  else
  zb2 (fX12_isLetter r4 M3) fun r7 M6 =>
  if r7 = 0 then
  zb2 (fX12_isDigit r4 M6) fun r10 M9 =>
  if r10 = 0 then
  zb2 (fX12_at (x1 + (1 : Int32)) M9) fun r13 M12 =>
  zb2 (fX12_sign x1 r4 r13 M12) fun r16 M15 =>
  zlet (x1 + r16) fun x1_17 =>
  fX12_cut_L291 N (fX12_cut_L7 N n) x1_17 M15
  else
  fX12_cut_L208 N (fX12_cut_L7 N n) N x1 (0 : Int32) (0 : Int32) M9
  else
  fX12_cut_L85 N (fX12_cut_L7 N n) N x1 (0 : Int32) (0 : Int64) M6
  else
  (fX12_token (0 : Int32) (M3.1 69 4) (0 : Int32) (0 : Int64) M3).bind fun M19 =>
  some M19
def fX12_cut (N : Nat)  (M : zMem) : Option zMem :=
  zlet (zpI M 69 10 (0 : Int32)) fun M1 =>
  fX12_cut_L7 N N (0 : Int32) M1
def fX12_is (x1 : Int32) (M : zMem) : Option (Int32 × zMem) :=
  if (M.1 69 13) = 0 then
  (zldI M 72 403 (M.1 69 11)).bind fun v1 =>
  if v1 = x1 then
  some ((1 : Int32), M)
  else
  some ((0 : Int32), M)
  else
  some ((0 : Int32), M)
def fX12_fail (x1 : Int32) (M : zMem) : Option zMem :=
  if (M.1 69 13) ≤ 0 then
  zlet (zpI M 69 13 x1) fun M1 =>
  (zldI M1 73 403 (M1.1 69 11)).bind fun v2 =>
  zlet (zpI M1 69 14 v2) fun M3 =>
  some M3
  else
  some M
def fX12_wrong_L46 (x1 : Int32) (x3 : Int32) (M : zMem) : Option zMem :=
  zlet (zpI M 69 15 x1) fun M2 =>
  zlet (zpI M2 69 16 x3) fun M3 =>
  some M3
def fX12_wrong (x1 : Int32) (x2 : Int32) (M : zMem) : Option zMem :=
  (zldI M 73 403 x2).bind fun v1 =>
  if 0 < (M.1 69 13) then
  some M
  else
  if (M.1 69 15) = 0 then
  fX12_wrong_L46 x1 v1 M
  else
  if (M.1 69 16) < v1 then
  some M
  else
  if v1 = (M.1 69 16) then
  if x1 < (M.1 69 15) then
  fX12_wrong_L46 x1 v1 M
  else
  some M
  else
  fX12_wrong_L46 x1 v1 M
def fX12_next  (M : zMem) : Option zMem :=
  if (M.1 69 11) = (400 : Int32) then
  (fX12_fail (2 : Int32) M).bind fun M3 =>
  some M3
  else
  zlet (zpI M 69 11 ((M.1 69 11) + (1 : Int32))) fun M1 =>
  some M1
def fX12_must (x1 : Int32) (M : zMem) : Option zMem :=
  zb2 (fX12_is x1 M) fun r3 M2 =>
  if r3 = 0 then
  (fX12_fail (1 : Int32) M2).bind fun M5 =>
  some M5
  else
  (fX12_next M2).bind fun M7 =>
  some M7
def fX12_emit (x1 : Int32) (x2 : Int32) (M : zMem) : Option zMem :=
  (zstI M 89 1000 (M.1 69 32) x1).bind fun M1 =>
  (zstI M1 90 1000 (M1.1 69 32) x2).bind fun M2 =>
  zlet (zpI M2 69 32 ((M2.1 69 32) + (1 : Int32))) fun M3 =>
  some M3
def fX12_comesOut_L85 (N : Nat) (k0 : Int32 → zMem → Option zMem) (x1 : Int32) (s1 : Int32) (M : zMem) : Option zMem :=
  (fX12_emit s1 (0 : Int32) M).bind fun M6 =>
  k0 x1 M6
def fX12_comesOut_L43 (N : Nat) (k0 : Int32 → zMem → Option zMem) (x1 : Int32) (M : zMem) : Option zMem :=
  zlet (zpI M 69 36 ((M.1 69 36) - (1 : Int32))) fun M3 =>
  (zldI M3 91 48 (M3.1 69 36)).bind fun v4 =>
  if v4 = (8 : Int32) then
  fX12_comesOut_L85 N k0 x1 (2 : Int32) M3
  else
  if v4 = (9 : Int32) then
  fX12_comesOut_L85 N k0 x1 (3 : Int32) M3
  else
  fX12_comesOut_L85 N k0 x1 (4 : Int32) M3
def fX12_comesOut_L0 (N : Nat) : Nat → Int32 → zMem → Option zMem
  | 0, _, _ => none
  | n + 1, x1, M =>
  if (M.1 69 36) ≤ 0 then
  some M
  else
  (zldI M 91 48 ((M.1 69 36) - (1 : Int32))).bind fun v1 =>
  if v1 = (6 : Int32) then
  some M
  else
  if x1 = 0 then
  fX12_comesOut_L43 N (fX12_comesOut_L0 N n) x1 M
  else
  (zldI M 91 48 ((M.1 69 36) - (1 : Int32))).bind fun v2 =>
  if v2 = (10 : Int32) then
  fX12_comesOut_L43 N (fX12_comesOut_L0 N n) x1 M
  else
  some M
def fX12_comesOut (N : Nat) (x1 : Int32) (M : zMem) : Option zMem :=
  fX12_comesOut_L0 N N x1 M
def fX12_expression_L46 (N : Nat) (k12 : Int32 → Int32 → zMem → Option zMem) (x1 : Int32) (x2 : Int32) (M : zMem) : Option zMem :=
  if (M.1 69 13) ≤ 0 then
  zlet (zpI M 69 12 ((M.1 69 12) + (1 : Int32))) fun M15 =>
  (fX12_next M15).bind fun M17 =>
  (zstI M17 91 48 (M17.1 69 36) (6 : Int32)).bind fun M18 =>
  zlet (zpI M18 69 36 ((M18.1 69 36) + (1 : Int32))) fun M19 =>
  k12 x1 x2 M19
  else
  some M
def fX12_expression_L299 (N : Nat)  (M : zMem) : Option zMem :=
  (fX12_comesOut N (0 : Int32) M).bind fun M56 =>
  some M56
def fX12_expression_L329 (N : Nat) (k12 : Int32 → Int32 → zMem → Option zMem) (x1 : Int32) (x2 : Int32) (x4 : Int32) (s1 : Int32) (M : zMem) : Option zMem :=
  (fX12_comesOut N s1 M).bind fun M50 =>
  (zstI M50 91 48 (M50.1 69 36) x4).bind fun M51 =>
  zlet (zpI M51 69 36 ((M51.1 69 36) + (1 : Int32))) fun M52 =>
  (fX12_next M52).bind fun M54 =>
  k12 x1 x2 M54
def fX12_expression_L281 (N : Nat) (k12 : Int32 → Int32 → zMem → Option zMem) (x1 : Int32) (s0 : Int32) (M : zMem) : Option zMem :=
  if s0 = 0 then
  if (M.1 69 12) ≤ x1 then
  fX12_expression_L299 N M
  else
  (fX12_fail (1 : Int32) M).bind fun M48 =>
  fX12_expression_L299 N M48
  else
  (zldI M 72 403 (M.1 69 11)).bind fun v46 =>
  if v46 = (10 : Int32) then
  fX12_expression_L329 N k12 x1 s0 v46 (1 : Int32) M
  else
  fX12_expression_L329 N k12 x1 s0 v46 (0 : Int32) M
def fX12_expression_L276 (N : Nat) (k12 : Int32 → Int32 → zMem → Option zMem) (x1 : Int32) (M : zMem) : Option zMem :=
  fX12_expression_L281 N k12 x1 (1 : Int32) M
def fX12_expression_L249 (N : Nat) (k12 : Int32 → Int32 → zMem → Option zMem) (x1 : Int32) (M : zMem) : Option zMem :=
  zb2 (fX12_is (8 : Int32) M) fun r39 M38 =>
  if r39 = 0 then
  zb2 (fX12_is (9 : Int32) M38) fun r42 M41 =>
  if r42 = 0 then
  zb2 (fX12_is (10 : Int32) M41) fun r45 M44 =>
  if r45 = 0 then
  fX12_expression_L281 N k12 x1 (0 : Int32) M44
  else
  fX12_expression_L276 N k12 x1 M44
  else
  fX12_expression_L276 N k12 x1 M41
  else
  fX12_expression_L276 N k12 x1 M38
def fX12_expression_L200 (N : Nat) (k12 : Int32 → Int32 → zMem → Option zMem) : Nat → Int32 → zMem → Option zMem
  | 0, _, _ => none
  | n + 1, x1, M =>
  zb2 (fX12_is (7 : Int32) M) fun r30 M29 =>
  if r30 = 0 then
  fX12_expression_L249 N k12 x1 M29
  else
  if (M29.1 69 12) ≤ x1 then
  fX12_expression_L249 N k12 x1 M29
  else
  (fX12_comesOut N (0 : Int32) M29).bind fun M32 =>
  zlet (zpI M32 69 36 ((M32.1 69 36) - (1 : Int32))) fun M33 =>
  zlet (zpI M33 69 12 ((M33.1 69 12) - (1 : Int32))) fun M34 =>
  (fX12_next M34).bind fun M36 =>
  fX12_expression_L200 N k12 n x1 M36
def fX12_expression_L196 (N : Nat) (k12 : Int32 → Int32 → zMem → Option zMem) (x1 : Int32) (M : zMem) : Option zMem :=
  (fX12_next M).bind fun M27 =>
  fX12_expression_L200 N k12 N x1 M27
def fX12_expression_L150 (N : Nat) (k12 : Int32 → Int32 → zMem → Option zMem) (x1 : Int32) (x3 : Int32) (M : zMem) : Option zMem :=
  if (M.1 69 13) ≤ 0 then
  if x3 = 0 then
  (zldI M 74 403 (M.1 69 11)).bind fun v20 =>
  (fX12_emit (0 : Int32) v20 M).bind fun M22 =>
  fX12_expression_L196 N k12 x1 M22
  else
  (zldI M 72 403 (M.1 69 11)).bind fun v23 =>
  (fX12_emit (1 : Int32) (v23 - (26 : Int32)) M).bind fun M25 =>
  fX12_expression_L196 N k12 x1 M25
  else
  some M
def fX12_expression_L132 (N : Nat) (k12 : Int32 → Int32 → zMem → Option zMem) (x1 : Int32) (s0 : Int32) (M : zMem) : Option zMem :=
  zb2 (fX12_is (2 : Int32) M) fun r12 M11 =>
  if r12 = 0 then
  if s0 = 0 then
  (fX12_fail (1 : Int32) M11).bind fun M14 =>
  fX12_expression_L150 N k12 x1 s0 M14
  else
  fX12_expression_L150 N k12 x1 s0 M11
  else
  fX12_expression_L150 N k12 x1 s0 M11
def fX12_expression_L131 (N : Nat) (k12 : Int32 → Int32 → zMem → Option zMem) (x1 : Int32) (M : zMem) : Option zMem :=
  fX12_expression_L132 N k12 x1 (0 : Int32) M
def fX12_expression_L12 (N : Nat) : Nat → Int32 → Int32 → zMem → Option zMem
  | 0, _, _, _ => none
  | n + 1, x1, x2, M =>
  if x2 = 0 then
  some M
  else
  if (M.1 69 13) = 0 then
  zb2 (fX12_is (6 : Int32) M) fun r5 M4 =>
  if r5 = 0 then
  if (M4.1 69 13) = 0 then
  (zldI M4 72 403 (M4.1 69 11)).bind fun v6 =>
  if v6 < (26 : Int32) then
  fX12_expression_L131 N (fX12_expression_L12 N n) x1 M4
  else
  (zldI M4 72 403 (M4.1 69 11)).bind fun v7 =>
  if (31 : Int32) < v7 then
  fX12_expression_L131 N (fX12_expression_L12 N n) x1 M4
  else
  fX12_expression_L132 N (fX12_expression_L12 N n) x1 (1 : Int32) M4
  else
  fX12_expression_L131 N (fX12_expression_L12 N n) x1 M4
  else
  if (M4.1 69 12) = (6 : Int32) then
  (fX12_fail (2 : Int32) M4).bind fun M9 =>
  fX12_expression_L46 N (fX12_expression_L12 N n) x1 x2 M9
  else
  fX12_expression_L46 N (fX12_expression_L12 N n) x1 x2 M4
  else
  some M
def fX12_expression (N : Nat)  (M : zMem) : Option zMem :=
  zlet (zpI M 69 36 (0 : Int32)) fun M1 =>
  zlet (M1.1 69 12) fun x1_2 =>
  fX12_expression_L12 N N x1_2 (1 : Int32) M1
def fX12_relation_L54 (N : Nat) (x1 : Int32) (x2 : Int32) (M : zMem) : Option zMem :=
  (fX12_next M).bind fun M6 =>
  zlet (M6.1 69 32) fun x3_7 =>
  (fX12_expression N M6).bind fun M9 =>
  if (M9.1 69 13) ≤ 0 then
  (zldI M9 84 2 (M9.1 69 19)).bind fun v10 =>
  zlet (((200 : Int32) * (M9.1 69 19)) + v10) fun x4_11 =>
  (zstI M9 85 400 x4_11 x2).bind fun M12 =>
  (zstI M12 86 400 x4_11 x1).bind fun M13 =>
  (zstI M13 87 400 x4_11 x3_7).bind fun M14 =>
  (zstI M14 88 400 x4_11 (M14.1 69 32)).bind fun M15 =>
  (zldI M15 84 2 (M15.1 69 19)).bind fun v16 =>
  (zstI M15 84 2 (M15.1 69 19) (v16 + (1 : Int32))).bind fun M17 =>
  some M17
  else
  some M9
def fX12_relation_L49 (N : Nat) (x1 : Int32) (x2 : Int32) (M : zMem) : Option zMem :=
  (fX12_fail (1 : Int32) M).bind fun M19 =>
  fX12_relation_L54 N x1 x2 M19
def fX12_relation_L32 (N : Nat) (x1 : Int32) (s0 : Int32) (M : zMem) : Option zMem :=
  if (M.1 69 13) = 0 then
  if s0 < 0 then
  fX12_relation_L49 N x1 s0 M
  else
  if s0 ≤ (3 : Int32) then
  fX12_relation_L54 N x1 s0 M
  else
  fX12_relation_L49 N x1 s0 M
  else
  fX12_relation_L54 N x1 s0 M
def fX12_relation (N : Nat)  (M : zMem) : Option zMem :=
  zlet (M.1 69 32) fun x1_1 =>
  (fX12_expression N M).bind fun M3 =>
  if (M3.1 69 13) ≤ 0 then
  (zldI M3 72 403 (M3.1 69 11)).bind fun v4 =>
  fX12_relation_L32 N x1_1 (v4 - (11 : Int32)) M3
  else
  fX12_relation_L32 N x1_1 (0 : Int32) M3
def fX12_tellRule_L323 (N : Nat) (x2 : Int32) (M : zMem) : Option zMem :=
  (fX12_must (4 : Int32) M).bind fun M51 =>
  if (M51.1 69 13) ≤ 0 then
  (zldI M51 84 2 (M51.1 69 19)).bind fun v52 =>
  (zstI M51 83 40 x2 v52).bind fun M53 =>
  (zldI M53 77 2 (M53.1 69 19)).bind fun v54 =>
  (zstI M53 77 2 (M53.1 69 19) (v54 + (1 : Int32))).bind fun M55 =>
  some M55
  else
  some M51
def fX12_tellRule_L303 (N : Nat) : Nat → Int32 → zMem → Option zMem
  | 0, _, _ => none
  | n + 1, x2, M =>
  zb2 (fX12_is (25 : Int32) M) fun r58 M57 =>
  if r58 = 0 then
  fX12_tellRule_L323 N x2 M57
  else
  (fX12_next M57).bind fun M60 =>
  (fX12_relation N M60).bind fun M62 =>
  fX12_tellRule_L303 N n x2 M62
def fX12_tellRule_L295 (N : Nat) (x2 : Int32) (x3 : Int32) (M : zMem) : Option zMem :=
  if x3 = 0 then
  fX12_tellRule_L323 N x2 M
  else
  (fX12_relation N M).bind fun M49 =>
  fX12_tellRule_L303 N N x2 M49
def fX12_tellRule_L289 (N : Nat) (x2 : Int32) (x3 : Int32) (M : zMem) : Option zMem :=
  (fX12_must (21 : Int32) M).bind fun M47 =>
  fX12_tellRule_L295 N x2 x3 M47
def fX12_tellRule_L254 (N : Nat) (x2 : Int32) (M : zMem) : Option zMem :=
  (zldI M 84 2 (M.1 69 19)).bind fun v38 =>
  (zstI M 82 40 x2 v38).bind fun M39 =>
  zb2 (fX12_is (21 : Int32) M39) fun r42 M41 =>
  if r42 = 0 then
  (zldI M41 78 40 x2).bind fun v43 =>
  if v43 = 0 then
  fX12_tellRule_L295 N x2 r42 M41
  else
  fX12_tellRule_L289 N x2 r42 M41
  else
  fX12_tellRule_L289 N x2 r42 M41
def fX12_tellRule_L248 (N : Nat) (x2 : Int32) (x3 : Int32) (M : zMem) : Option zMem :=
  (fX12_wrong (5 : Int32) x3 M).bind fun M45 =>
  fX12_tellRule_L254 N x2 M45
def fX12_tellRule_L181 (N : Nat) (x2 : Int32) (M : zMem) : Option zMem :=
  zlet (M.1 69 11) fun x3_32 =>
  (fX12_must (2 : Int32) M).bind fun M34 =>
  if (M34.1 69 13) ≤ 0 then
  (zldI M34 74 403 x3_32).bind fun v35 =>
  (zstI M34 79 40 x2 v35).bind fun M36 =>
  (zldI M36 78 40 x2).bind fun v37 =>
  if v37 = (2 : Int32) then
  if v35 ≤ (7 : Int32) then
  fX12_tellRule_L254 N x2 M36
  else
  fX12_tellRule_L248 N x2 x3_32 M36
  else
  if v35 < (1 : Int32) then
  fX12_tellRule_L248 N x2 x3_32 M36
  else
  if v35 ≤ (60 : Int32) then
  fX12_tellRule_L254 N x2 M36
  else
  fX12_tellRule_L248 N x2 x3_32 M36
  else
  some M34
def fX12_tellRule_L151 (N : Nat) (x2 : Int32) (M : zMem) : Option zMem :=
  (zstI M 81 40 x2 (M.1 69 32)).bind fun M29 =>
  (zldI M29 78 40 x2).bind fun v30 =>
  if v30 = (2 : Int32) then
  fX12_tellRule_L181 N x2 M29
  else
  (zldI M29 78 40 x2).bind fun v31 =>
  if v31 = (4 : Int32) then
  fX12_tellRule_L181 N x2 M29
  else
  fX12_tellRule_L254 N x2 M29
def fX12_tellRule_L73 (N : Nat)  (M : zMem) : Option zMem :=
  if (M.1 69 13) ≤ 0 then
  (zldI M 77 2 (M.1 69 19)).bind fun v18 =>
  zlet (((20 : Int32) * (M.1 69 19)) + v18) fun x2_19 =>
  (zldI M 72 403 (M.1 69 11)).bind fun v20 =>
  (zstI M 78 40 x2_19 (v20 - (20 : Int32))).bind fun M21 =>
  (fX12_next M21).bind fun M23 =>
  (zstI M23 80 40 x2_19 (M23.1 69 32)).bind fun M24 =>
  (zstI M24 79 40 x2_19 (0 : Int32)).bind fun M25 =>
  (zldI M25 78 40 x2_19).bind fun v26 =>
  if v26 = 0 then
  (fX12_expression N M25).bind fun M28 =>
  fX12_tellRule_L151 N x2_19 M28
  else
  fX12_tellRule_L151 N x2_19 M25
  else
  some M
def fX12_tellRule_L41 (N : Nat) (s0 : Int32) (M : zMem) : Option zMem :=
  if s0 = 0 then
  (fX12_fail (1 : Int32) M).bind fun M17 =>
  fX12_tellRule_L73 N M17
  else
  (zldI M 77 2 (M.1 69 19)).bind fun v13 =>
  if v13 = (20 : Int32) then
  (fX12_fail (2 : Int32) M).bind fun M15 =>
  fX12_tellRule_L73 N M15
  else
  fX12_tellRule_L73 N M
def fX12_tellRule_L36 (N : Nat)  (M : zMem) : Option zMem :=
  fX12_tellRule_L41 N (1 : Int32) M
def fX12_tellRule (N : Nat)  (M : zMem) : Option zMem :=
  zb2 (fX12_is (20 : Int32) M) fun r3 M2 =>
  if r3 = 0 then
  zb2 (fX12_is (22 : Int32) M2) fun r6 M5 =>
  if r6 = 0 then
  zb2 (fX12_is (23 : Int32) M5) fun r9 M8 =>
  if r9 = 0 then
  zb2 (fX12_is (24 : Int32) M8) fun r12 M11 =>
  if r12 = 0 then
  fX12_tellRule_L41 N (0 : Int32) M11
  else
  fX12_tellRule_L36 N M11
  else
  fX12_tellRule_L36 N M8
  else
  fX12_tellRule_L36 N M5
  else
  fX12_tellRule_L36 N M2
def fX12_read_L159 (N : Nat) (s1 : Int32) (M : zMem) : Option (Int32 × zMem) :=
  zlet (zpI M 69 17 s1) fun M21 =>
  if (M21.1 69 13) ≤ 0 then
  if (M21.1 69 15) ≤ 0 then
  zlet (zpI M21 69 18 (M21.1 69 19)) fun M22 =>
  some ((0 : Int32), M22)
  else
  some ((M21.1 69 15), M21)
  else
  some ((M21.1 69 13), M21)
def fX12_read_L129 (N : Nat)  (M : zMem) : Option (Int32 × zMem) :=
  if (M.1 69 13) ≤ 0 then
  if (M.1 69 15) ≤ 0 then
  fX12_read_L159 N (-1 : Int32) M
  else
  fX12_read_L159 N (M.1 69 16) M
  else
  fX12_read_L159 N (M.1 69 14) M
def fX12_read_L107 (N : Nat) : Nat → zMem → Option (Int32 × zMem)
  | 0, _ => none
  | n + 1, M =>
  if (M.1 69 13) = 0 then
  zb2 (fX12_is (0 : Int32) M) fun r18 M17 =>
  if r18 = 0 then
  (fX12_tellRule N M17).bind fun M20 =>
  fX12_read_L107 N n M20
  else
  fX12_read_L129 N M17
  else
  fX12_read_L129 N M
def fX12_read_L10 (N : Nat) : Nat → Int32 → zMem → Option (Int32 × zMem)
  | 0, _, _ => none
  | n + 1, x1, M =>
  if (M.1 69 4) ≤ x1 then
  zlet (zpI M 69 2 (0 : Int32)) fun M2 =>
  (fX12_cut N M2).bind fun M4 =>
  zlet (zpI M4 69 11 (0 : Int32)) fun M5 =>
  zlet (zpI M5 69 12 (0 : Int32)) fun M6 =>
  zlet (zpI M6 69 13 (0 : Int32)) fun M7 =>
  zlet (zpI M7 69 15 (0 : Int32)) fun M8 =>
  zlet (zpI M8 69 19 ((1 : Int32) - (M8.1 69 18))) fun M9 =>
  (zstI M9 77 2 (M9.1 69 19) (0 : Int32)).bind fun M10 =>
  (zstI M10 84 2 (M10.1 69 19) (0 : Int32)).bind fun M11 =>
  zlet (zpI M11 69 32 ((500 : Int32) * (M11.1 69 19))) fun M12 =>
  fX12_read_L107 N N M12
  else
  (zldI M 70 2000 x1).bind fun v13 =>
  (zstB M 71 2000 x1 v13).bind fun M14 =>
  zlet (x1 + (1 : Int32)) fun x1_15 =>
  fX12_read_L10 N n x1_15 M14
def fX12_read (N : Nat)  (M : zMem) : Option (Int32 × zMem) :=
  zlet (zpI M 69 4 (M.1 69 2)) fun M1 =>
  fX12_read_L10 N N (0 : Int32) M1
def fX12_place  (M : zMem) : Option (Int32 × zMem) :=
  some ((M.1 69 17), M)
def fX12_isVolunteer (x1 : Int32) (M : zMem) : Option (Int32 × zMem) :=
  if x1 < 0 then
  some ((0 : Int32), M)
  else
  if (M.1 69 37) ≤ x1 then
  some ((0 : Int32), M)
  else
  some ((1 : Int32), M)
def fX12_isNight (x0 : Int32) (M : zMem) : Option (Int32 × zMem) :=
  if x0 < 0 then
  some ((0 : Int32), M)
  else
  if (200 : Int32) ≤ x0 then
  some ((0 : Int32), M)
  else
  some ((1 : Int32), M)
def fX12_volunteer (x1 : Int32) (M : zMem) : Option (Int32 × zMem) :=
  if (M.1 69 37) = (8 : Int32) then
  some ((-1 : Int32), M)
  else
  if x1 < 0 then
  some ((-1 : Int32), M)
  else
  if x1 ≤ (3 : Int32) then
  (zstI M 92 8 (M.1 69 37) x1).bind fun M1 =>
  zlet (zpI M1 69 37 ((M1.1 69 37) + (1 : Int32))) fun M2 =>
  some (((M2.1 69 37) - (1 : Int32)), M2)
  else
  some ((-1 : Int32), M)
def fX12_step_L26 (x1 : Int32) (x2 : Int32) (M : zMem) : Option (Int32 × zMem) :=
  if x2 < (1 : Int32) then
  some ((-1 : Int32), M)
  else
  if x2 ≤ (200 : Int32) then
  (zstI M 93 8 (M.1 69 39) x1).bind fun M1 =>
  (zstI M1 94 8 (M1.1 69 39) x2).bind fun M2 =>
  zlet (zpI M2 69 39 ((M2.1 69 39) + (1 : Int32))) fun M3 =>
  some (((M3.1 69 39) - (1 : Int32)), M3)
  else
  some ((-1 : Int32), M)
def fX12_step (x1 : Int32) (x2 : Int32) (M : zMem) : Option (Int32 × zMem) :=
  if (M.1 69 39) = (8 : Int32) then
  some ((-1 : Int32), M)
  else
  if x1 = (-1 : Int32) then
  fX12_step_L26 x1 x2 M
  else
  if x1 < 0 then
  some ((-1 : Int32), M)
  else
  if (M.1 69 39) ≤ x1 then
  some ((-1 : Int32), M)
  else
  fX12_step_L26 x1 x2 M
def fX12_hasStep_L67 (N : Nat) (k3 : Int32 → Int32 → Int32 → zMem → Option (Int32 × zMem)) (k15 : Int32 → Int32 → Int32 → Int32 → Int32 → zMem → Option (Int32 × zMem)) (x1 : Int32) (x3 : Int32) (x4 : Int32) (x6 : Int32) (s0 : Int32) (M : zMem) : Option (Int32 × zMem) :=
  zlet (x6 + (1 : Int32)) fun x6_4 =>
  k15 x1 x3 x4 s0 x6_4 M
def fX12_hasStep_L62 (N : Nat) (k3 : Int32 → Int32 → Int32 → zMem → Option (Int32 × zMem)) (k15 : Int32 → Int32 → Int32 → Int32 → Int32 → zMem → Option (Int32 × zMem)) (x1 : Int32) (x3 : Int32) (x4 : Int32) (x6 : Int32) (M : zMem) : Option (Int32 × zMem) :=
  fX12_hasStep_L67 N k3 k15 x1 x3 x4 x6 (1 : Int32) M
def fX12_hasStep_L75 (N : Nat) (k3 : Int32 → Int32 → Int32 → zMem → Option (Int32 × zMem)) (x1 : Int32) (x3 : Int32) (x4 : Int32) (x5 : Int32) (M : zMem) : Option (Int32 × zMem) :=
  if x5 = 0 then
  some ((0 : Int32), M)
  else
  (zldI M 93 8 x4).bind fun v3 =>
  k3 x1 x3 v3 M
def fX12_hasStep_L15 (N : Nat) (k3 : Int32 → Int32 → Int32 → zMem → Option (Int32 × zMem)) : Nat → Int32 → Int32 → Int32 → Int32 → Int32 → zMem → Option (Int32 × zMem)
  | 0, _, _, _, _, _, _ => none
  | n + 1, x1, x3, x4, x5, x6, M =>
  (zldI M 94 8 x4).bind fun v1 =>
  if v1 ≤ x6 then
  fX12_hasStep_L75 N k3 x1 x3 x4 x5 M
  else
  if x3 < x6 then
  fX12_hasStep_L75 N k3 x1 x3 x4 x5 M
  else
  if x5 = 0 then
  (zldI M 95 12800 ((((200 : Int32) * (((8 : Int32) * x1) + x4)) + x3) - x6)).bind fun v2 =>
  if v2 = 0 then
  fX12_hasStep_L67 N k3 (fX12_hasStep_L15 N k3 n) x1 x3 x4 x6 (0 : Int32) M
  else
  fX12_hasStep_L62 N k3 (fX12_hasStep_L15 N k3 n) x1 x3 x4 x6 M
  else
  fX12_hasStep_L62 N k3 (fX12_hasStep_L15 N k3 n) x1 x3 x4 x6 M
def fX12_hasStep_L3 (N : Nat) : Nat → Int32 → Int32 → Int32 → zMem → Option (Int32 × zMem)
  | 0, _, _, _, _ => none
  | n + 1, x1, x3, x4, M =>
  if x4 = (-1 : Int32) then
  some ((1 : Int32), M)
  else
  fX12_hasStep_L15 N (fX12_hasStep_L3 N n) N x1 x3 x4 (0 : Int32) (0 : Int32) M
def fX12_hasStep (N : Nat) (x1 : Int32) (x2 : Int32) (x3 : Int32) (M : zMem) : Option (Int32 × zMem) :=
  fX12_hasStep_L3 N N x1 x3 x2 M
def fX12_learn_L50 (N : Nat) (x1 : Int32) (x2 : Int32) (M : zMem) : Option (Int32 × zMem) :=
  (zstZ M 95 12800 (((200 : Int32) * (((8 : Int32) * x1) + x2)) + (M.1 69 44)) (1 : Int32)).bind fun M9 =>
  some ((1 : Int32), M9)
def fX12_learn (N : Nat) (x1 : Int32) (x2 : Int32) (M : zMem) : Option (Int32 × zMem) :=
  zb2 (fX12_isVolunteer x1 M) fun r3 M2 =>
  if r3 = 0 then
  some ((0 : Int32), M2)
  else
  if x2 < 0 then
  some ((0 : Int32), M2)
  else
  if (M2.1 69 39) ≤ x2 then
  some ((0 : Int32), M2)
  else
  (zldI M2 93 8 x2).bind fun v4 =>
  if v4 = (-1 : Int32) then
  fX12_learn_L50 N x1 x2 M2
  else
  (zldI M2 93 8 x2).bind fun v5 =>
  zb2 (fX12_hasStep N x1 v5 (M2.1 69 44) M2) fun r8 M7 =>
  if r8 = 0 then
  some ((0 : Int32), M7)
  else
  fX12_learn_L50 N x1 x2 M7
def fX12_has (N : Nat) (x1 : Int32) (x2 : Int32) (x3 : Int32) (M : zMem) : Option (Int32 × zMem) :=
  zb2 (fX12_isVolunteer x1 M) fun r3 M2 =>
  if r3 = 0 then
  some ((-1 : Int32), M2)
  else
  if x2 < 0 then
  some ((-1 : Int32), M2)
  else
  if (M2.1 69 39) ≤ x2 then
  some ((-1 : Int32), M2)
  else
  zb2 (fX12_isNight x3 M2) fun r6 M5 =>
  if r6 = 0 then
  some ((-1 : Int32), M5)
  else
  zb2 (fX12_hasStep N x1 x2 x3 M5) fun r9 M8 =>
  if r9 = 0 then
  some ((0 : Int32), M8)
  else
  some ((1 : Int32), M8)
def fX12_isBarred (x1 : Int32) (x2 : Int32) (x3 : Int32) (M : zMem) : Option (Int32 × zMem) :=
  (zldI M 96 160 (((8 : Int32) * x1) + x2)).bind fun v1 =>
  if v1 ≤ 0 then
  some ((0 : Int32), M)
  else
  if x3 < (v1 - (1 : Int32)) then
  some ((0 : Int32), M)
  else
  some ((1 : Int32), M)
def fX12_bar (x1 : Int32) (x2 : Int32) (M : zMem) : Option (Int32 × zMem) :=
  if x1 < 0 then
  some ((0 : Int32), M)
  else
  if (19 : Int32) < x1 then
  some ((0 : Int32), M)
  else
  zb2 (fX12_isVolunteer x2 M) fun r3 M2 =>
  if r3 = 0 then
  some ((0 : Int32), M2)
  else
  (zldI M2 96 160 (((8 : Int32) * x1) + x2)).bind fun v4 =>
  if v4 ≤ 0 then
  (zstI M2 96 160 (((8 : Int32) * x1) + x2) ((M2.1 69 44) + (1 : Int32))).bind fun M5 =>
  some ((1 : Int32), M5)
  else
  some ((0 : Int32), M2)
def fX12_isDue_L7 (N : Nat) : Nat → Int32 → Int32 → zMem → Option (Int32 × zMem)
  | 0, _, _, _ => none
  | n + 1, x1, x2, M =>
  if (M.1 69 44) ≤ x2 then
  some ((0 : Int32), M)
  else
  (zldI M 97 1600 (((200 : Int32) * x1) + x2)).bind fun v2 =>
  if v2 = 0 then
  zlet (x2 + (1 : Int32)) fun x2_3 =>
  fX12_isDue_L7 N n x1 x2_3 M
  else
  some ((1 : Int32), M)
def fX12_isDue (N : Nat) (x1 : Int32) (M : zMem) : Option (Int32 × zMem) :=
  (zldI M 98 8 x1).bind fun v1 =>
  fX12_isDue_L7 N N x1 v1 M
def fX12_care (N : Nat) (x1 : Int32) (M : zMem) : Option (Int32 × zMem) :=
  zb2 (fX12_isVolunteer x1 M) fun r3 M2 =>
  if r3 = 0 then
  some ((0 : Int32), M2)
  else
  zb2 (fX12_isDue N x1 M2) fun r6 M5 =>
  if r6 = 0 then
  some ((0 : Int32), M5)
  else
  (zstI M5 98 8 x1 (M5.1 69 44)).bind fun M7 =>
  some ((1 : Int32), M7)
def fX12_due (N : Nat) (x1 : Int32) (M : zMem) : Option (Int32 × zMem) :=
  zb2 (fX12_isVolunteer x1 M) fun r3 M2 =>
  if r3 = 0 then
  some ((-1 : Int32), M2)
  else
  zb2 (fX12_isDue N x1 M2) fun r6 M5 =>
  if r6 = 0 then
  some ((0 : Int32), M5)
  else
  some ((1 : Int32), M5)
def fX12_clock (x1 : Int32) (M : zMem) : Option (Int32 × zMem) :=
  if x1 < (M.1 69 44) then
  some ((0 : Int32), M)
  else
  if x1 ≤ (199 : Int32) then
  zlet (zpI M 69 44 x1) fun M1 =>
  some ((1 : Int32), M1)
  else
  some ((0 : Int32), M)
def fX12_holiday (x1 : Int32) (M : zMem) : Option (Int32 × zMem) :=
  zb2 (fX12_isNight x1 M) fun r3 M2 =>
  if r3 = 0 then
  some ((0 : Int32), M2)
  else
  (zldI M2 99 200 x1).bind fun v4 =>
  if v4 = 0 then
  (zldI M2 100 200 x1).bind fun v5 =>
  if v5 = 0 then
  (zstZ M2 99 200 x1 (1 : Int32)).bind fun M6 =>
  some ((1 : Int32), M6)
  else
  some ((0 : Int32), M2)
  else
  some ((0 : Int32), M2)
def fX12_offer_L76 (N : Nat) : Nat → Int32 → Int32 → Int32 → Int32 → zMem → Option (Int32 × zMem)
  | 0, _, _, _, _, _ => none
  | n + 1, x1, x2, x3, x4, M =>
  (zldI M 102 200 (M.1 69 44)).bind fun v8 =>
  if (((5 : Int32) * (M.1 69 44)) + v8) ≤ x4 then
  (zldI M 102 200 (M.1 69 44)).bind fun v9 =>
  zlet (((5 : Int32) * (M.1 69 44)) + v9) fun x4_10 =>
  (zstI M 103 1000 x4_10 x1).bind fun M11 =>
  (zstI M11 104 1000 x4_10 x2).bind fun M12 =>
  (zstI M12 105 1000 x4_10 x3).bind fun M13 =>
  (zldI M13 102 200 (M13.1 69 44)).bind fun v14 =>
  (zstI M13 102 200 (M13.1 69 44) (v14 + (1 : Int32))).bind fun M15 =>
  (zldI M15 102 200 (M15.1 69 44)).bind fun v16 =>
  some ((v16 - (1 : Int32)), M15)
  else
  (zldI M 103 1000 x4).bind fun v17 =>
  if v17 = x1 then
  some ((-1 : Int32), M)
  else
  zlet (x4 + (1 : Int32)) fun x4_18 =>
  fX12_offer_L76 N n x1 x2 x3 x4_18 M
def fX12_offer (N : Nat) (x1 : Int32) (x2 : Int32) (x3 : Int32) (M : zMem) : Option (Int32 × zMem) :=
  zb2 (fX12_isVolunteer x1 M) fun r3 M2 =>
  if r3 = 0 then
  some ((-1 : Int32), M2)
  else
  if x2 < (1 : Int32) then
  some ((-1 : Int32), M2)
  else
  if (63 : Int32) < x2 then
  some ((-1 : Int32), M2)
  else
  if x3 < (1 : Int32) then
  some ((-1 : Int32), M2)
  else
  if (3 : Int32) < x3 then
  some ((-1 : Int32), M2)
  else
  (zldI M2 101 200 (M2.1 69 44)).bind fun v4 =>
  if v4 = 0 then
  (zldI M2 100 200 (M2.1 69 44)).bind fun v5 =>
  if v5 = 0 then
  (zldI M2 102 200 (M2.1 69 44)).bind fun v6 =>
  if v6 = (5 : Int32) then
  some ((-1 : Int32), M2)
  else
  zlet ((5 : Int32) * (M2.1 69 44)) fun x4_7 =>
  fX12_offer_L76 N N x1 x2 x3 x4_7 M2
  else
  some ((-1 : Int32), M2)
  else
  some ((-1 : Int32), M2)
def fX12_lists_L129 (N : Nat) (k33 : Int32 → Int32 → Int32 → zMem → Option zMem) (x1 : Int32) (x2 : Int32) (x3 : Int32) (M : zMem) : Option zMem :=
  zlet (x3 + (1 : Int32)) fun x3_15 =>
  k33 x1 x2 x3_15 M
def fX12_lists_L45 (N : Nat) (k33 : Int32 → Int32 → Int32 → zMem → Option zMem) : Nat → Int32 → Int32 → Int32 → Int32 → Int32 → zMem → Option zMem
  | 0, _, _, _, _, _, _ => none
  | n + 1, x1, x2, x3, x4, x5, M =>
  (zldI M 105 1000 x2).bind fun v7 =>
  if v7 < x5 then
  fX12_lists_L129 N k33 x1 x2 x3 M
  else
  if (6 : Int32) < (x3 + x5) then
  fX12_lists_L129 N k33 x1 x2 x3 M
  else
  zlet (x4 ||| ((1 : Int32) <<< (((x3 + x5) - (1 : Int32)) &&& 31))) fun x4_8 =>
  (zldI M 104 1000 x2).bind fun v9 =>
  if (v9 &&& x4_8) = x4_8 then
  (zldI M 108 5 x1).bind fun v10 =>
  (zstI M 109 100 (((20 : Int32) * x1) + v10) x4_8).bind fun M11 =>
  (zldI M11 108 5 x1).bind fun v12 =>
  (zstI M11 108 5 x1 (v12 + (1 : Int32))).bind fun M13 =>
  zlet (x5 + (1 : Int32)) fun x5_14 =>
  fX12_lists_L45 N k33 n x1 x2 x3 x4_8 x5_14 M13
  else
  fX12_lists_L129 N k33 x1 x2 x3 M
def fX12_lists_L33 (N : Nat) : Nat → Int32 → Int32 → Int32 → zMem → Option zMem
  | 0, _, _, _, _ => none
  | n + 1, x1, x2, x3, M =>
  if (6 : Int32) ≤ x3 then
  some M
  else
  fX12_lists_L45 N (fX12_lists_L33 N n) N x1 x2 x3 (0 : Int32) (1 : Int32) M
def fX12_lists (N : Nat) (x1 : Int32) (x2 : Int32) (M : zMem) : Option zMem :=
  (zstI M 109 100 ((20 : Int32) * x1) (0 : Int32)).bind fun M1 =>
  (zstI M1 108 5 x1 (1 : Int32)).bind fun M2 =>
  (zldI M2 103 1000 x2).bind fun v3 =>
  zb2 (fX12_isDue N v3 M2) fun r6 M5 =>
  if r6 = 0 then
  fX12_lists_L33 N N x1 x2 (0 : Int32) M5
  else
  some M5
def fX12_bits_L4 (N : Nat) : Nat → Int32 → Int32 → Int32 → zMem → Option (Int32 × zMem)
  | 0, _, _, _, _ => none
  | n + 1, x0, x1, x2, M =>
  if (6 : Int32) ≤ x2 then
  some (x1, M)
  else
  zlet (x1 + ((x0 >>> (x2 &&& 31)) &&& (1 : Int32))) fun x1_1 =>
  zlet (x2 + (1 : Int32)) fun x2_2 =>
  fX12_bits_L4 N n x0 x1_1 x2_2 M
def fX12_bits (N : Nat) (x0 : Int32) (M : zMem) : Option (Int32 × zMem) :=
  fX12_bits_L4 N N x0 (0 : Int32) (0 : Int32) M
def fX12_keeps_L68 (N : Nat) (k11 : Int32 → Int32 → Int32 → Int32 → Int32 → Int32 → zMem → Option (Int32 × zMem)) (x1 : Int32) (x2 : Int32) (x3 : Int32) (x4 : Int32) (x5 : Int32) (x6 : Int32) (M : zMem) : Option (Int32 × zMem) :=
  zlet (x6 + (1 : Int32)) fun x6_6 =>
  k11 x1 x2 x3 x4 x5 x6_6 M
def fX12_keeps_L11 (N : Nat) : Nat → Int32 → Int32 → Int32 → Int32 → Int32 → Int32 → zMem → Option (Int32 × zMem)
  | 0, _, _, _, _, _, _, _ => none
  | n + 1, x1, x2, x3, x4, x5, x6, M =>
  if x1 ≤ x6 then
  some ((x4 &&& x5), M)
  else
  (zldI M 110 6 x6).bind fun v1 =>
  (zldI M 109 100 (((20 : Int32) * x6) + v1)).bind fun v2 =>
  zlet (x4 ||| (x3 &&& v2)) fun x4_3 =>
  zlet (x3 ||| v2) fun x3_4 =>
  if ((x2 >>> (x6 &&& 31)) &&& (1 : Int32)) = (1 : Int32) then
  zlet (x5 ||| v2) fun x5_5 =>
  fX12_keeps_L68 N (fX12_keeps_L11 N n) x1 x2 x3_4 x4_3 x5_5 x6 M
  else
  fX12_keeps_L68 N (fX12_keeps_L11 N n) x1 x2 x3_4 x4_3 x5 x6 M
def fX12_keeps (N : Nat) (x1 : Int32) (x2 : Int32) (M : zMem) : Option (Int32 × zMem) :=
  fX12_keeps_L11 N N x1 x2 (0 : Int32) (0 : Int32) (0 : Int32) (0 : Int32) M
def fX12_shifts_L103 (N : Nat) (k40 : Int32 → Int32 → Int32 → zMem → Option (Int32 × zMem)) (x1 : Int32) (x2 : Int32) (x3 : Int32) (M : zMem) : Option (Int32 × zMem) :=
  zlet (x3 + (1 : Int32)) fun x3_18 =>
  k40 x1 x2 x3_18 M
def fX12_shifts_L303 (N : Nat) (k117 : Int32 → Int32 → Int32 → Int32 → Int32 → zMem → Option (Int32 × zMem)) (x1 : Int32) (x2 : Int32) (x3 : Int32) (x4 : Int32) (x5 : Int32) (M : zMem) : Option (Int32 × zMem) :=
  k117 x1 x2 x3 x4 x5 M
def fX12_shifts_L285 (N : Nat) (k117 : Int32 → Int32 → Int32 → Int32 → Int32 → zMem → Option (Int32 × zMem)) (x1 : Int32) (x2 : Int32) (x3 : Int32) (x4 : Int32) (x8 : Int32) (s0 : Int32) (M : zMem) : Option (Int32 × zMem) :=
  if s0 = 0 then
  fX12_shifts_L303 N k117 x1 x2 x3 x4 s0 M
  else
  (zldI M 110 6 x8).bind fun v46 =>
  (zstI M 110 6 x8 (v46 + (1 : Int32))).bind fun M47 =>
  fX12_shifts_L303 N k117 x1 x2 x3 x4 s0 M47
def fX12_shifts_L275 (N : Nat) (k117 : Int32 → Int32 → Int32 → Int32 → Int32 → zMem → Option (Int32 × zMem)) (x1 : Int32) (x2 : Int32) (x3 : Int32) (x4 : Int32) (x8 : Int32) (M : zMem) : Option (Int32 × zMem) :=
  if x8 < 0 then
  fX12_shifts_L285 N k117 x1 x2 x3 x4 x8 (0 : Int32) M
  else
  fX12_shifts_L285 N k117 x1 x2 x3 x4 x8 (1 : Int32) M
def fX12_shifts_L237 (N : Nat) (k117 : Int32 → Int32 → Int32 → Int32 → Int32 → zMem → Option (Int32 × zMem)) : Nat → Int32 → Int32 → Int32 → Int32 → Int32 → zMem → Option (Int32 × zMem)
  | 0, _, _, _, _, _, _ => none
  | n + 1, x1, x2, x3, x4, x8, M =>
  if x8 < 0 then
  fX12_shifts_L275 N k117 x1 x2 x3 x4 x8 M
  else
  (zldI M 110 6 x8).bind fun v42 =>
  (zldI M 108 5 x8).bind fun v43 =>
  if v42 = (v43 - (1 : Int32)) then
  (zstI M 110 6 x8 (0 : Int32)).bind fun M44 =>
  zlet (x8 + (-1 : Int32)) fun x8_45 =>
  fX12_shifts_L237 N k117 n x1 x2 x3 x4 x8_45 M44
  else
  fX12_shifts_L275 N k117 x1 x2 x3 x4 x8 M
def fX12_shifts_L232 (N : Nat) (k117 : Int32 → Int32 → Int32 → Int32 → Int32 → zMem → Option (Int32 × zMem)) (x1 : Int32) (x2 : Int32) (x3 : Int32) (x4 : Int32) (M : zMem) : Option (Int32 × zMem) :=
  zlet (x1 - (1 : Int32)) fun x8_38 =>
  fX12_shifts_L237 N k117 N x1 x2 x3 x4 x8_38 M
def fX12_shifts_L206 (N : Nat) (k117 : Int32 → Int32 → Int32 → Int32 → Int32 → zMem → Option (Int32 × zMem)) : Nat → Int32 → Int32 → Int32 → Int32 → Int32 → zMem → Option (Int32 × zMem)
  | 0, _, _, _, _, _, _ => none
  | n + 1, x1, x2, x3, x4, x8, M =>
  if x1 ≤ x8 then
  fX12_shifts_L232 N k117 x1 x2 x3 x4 M
  else
  (zldI M 110 6 x8).bind fun v39 =>
  (zstI M 111 5 x8 v39).bind fun M40 =>
  zlet (x8 + (1 : Int32)) fun x8_41 =>
  fX12_shifts_L206 N k117 n x1 x2 x3 x4 x8_41 M40
def fX12_shifts_L196 (N : Nat) (k117 : Int32 → Int32 → Int32 → Int32 → Int32 → zMem → Option (Int32 × zMem)) (x1 : Int32) (x2 : Int32) (x6 : Int32) (x7 : Int32) (M : zMem) : Option (Int32 × zMem) :=
  fX12_shifts_L206 N k117 N x1 x2 x6 x7 (0 : Int32) M
def fX12_shifts_L139 (N : Nat) (k117 : Int32 → Int32 → Int32 → Int32 → Int32 → zMem → Option (Int32 × zMem)) : Nat → Int32 → Int32 → Int32 → Int32 → Int32 → Int32 → Int32 → zMem → Option (Int32 × zMem)
  | 0, _, _, _, _, _, _, _, _ => none
  | n + 1, x1, x2, x3, x4, x6, x7, x8, M =>
  if x1 ≤ x8 then
  if x3 < x6 then
  fX12_shifts_L196 N k117 x1 x2 x6 x7 M
  else
  if x6 = x3 then
  if x4 ≤ x7 then
  fX12_shifts_L232 N k117 x1 x2 x3 x4 M
  else
  fX12_shifts_L196 N k117 x1 x2 x6 x7 M
  else
  fX12_shifts_L232 N k117 x1 x2 x3 x4 M
  else
  (zldI M 110 6 x8).bind fun v31 =>
  (zldI M 109 100 (((20 : Int32) * x8) + v31)).bind fun v32 =>
  zb2 (fX12_bits N v32 M) fun r35 M34 =>
  zlet (x7 + r35) fun x7_36 =>
  zlet (x8 + (1 : Int32)) fun x8_37 =>
  fX12_shifts_L139 N k117 n x1 x2 x3 x4 x6 x7_36 x8_37 M34
def fX12_shifts_L309 (N : Nat) : Nat → Int32 → Int32 → Int32 → Int32 → zMem → Option (Int32 × zMem)
  | 0, _, _, _, _, _ => none
  | n + 1, x1, x2, x3, x6, M =>
  if x1 ≤ x6 then
  zb2 (fX12_keeps N x1 x2 M) fun r21 M20 =>
  (zstI M20 107 200 (M.1 69 44) r21).bind fun M22 =>
  (zstZ M22 101 200 (M22.1 69 44) (1 : Int32)).bind fun M23 =>
  some (x3, M23)
  else
  (zldI M 111 5 x6).bind fun v24 =>
  (zstI M 110 6 x6 v24).bind fun M25 =>
  (zldI M25 103 1000 (((5 : Int32) * (M25.1 69 44)) + x6)).bind fun v26 =>
  (zldI M25 111 5 x6).bind fun v27 =>
  (zldI M25 109 100 (((20 : Int32) * x6) + v27)).bind fun v28 =>
  (zstI M25 106 1600 (((8 : Int32) * (M25.1 69 44)) + v26) v28).bind fun M29 =>
  zlet (x6 + (1 : Int32)) fun x6_30 =>
  fX12_shifts_L309 N n x1 x2 x3 x6_30 M29
def fX12_shifts_L117 (N : Nat) : Nat → Int32 → Int32 → Int32 → Int32 → Int32 → zMem → Option (Int32 × zMem)
  | 0, _, _, _, _, _, _ => none
  | n + 1, x1, x2, x3, x4, x5, M =>
  if x5 = 0 then
  fX12_shifts_L309 N N x1 x2 x3 (0 : Int32) M
  else
  zb2 (fX12_keeps N x1 x2 M) fun r14 M13 =>
  zb2 (fX12_bits N r14 M13) fun r17 M16 =>
  fX12_shifts_L139 N (fX12_shifts_L117 N n) N x1 x2 x3 x4 r17 (0 : Int32) (0 : Int32) M16
def fX12_shifts_L40 (N : Nat) : Nat → Int32 → Int32 → Int32 → zMem → Option (Int32 × zMem)
  | 0, _, _, _, _ => none
  | n + 1, x1, x2, x3, M =>
  if x1 ≤ x3 then
  fX12_shifts_L117 N N x1 x2 (-1 : Int32) (0 : Int32) (1 : Int32) M
  else
  (fX12_lists N x3 (((5 : Int32) * (M.1 69 44)) + x3) M).bind fun M5 =>
  (zstI M5 110 6 x3 (0 : Int32)).bind fun M6 =>
  if (M6.1 69 39) ≤ 0 then
  fX12_shifts_L103 N (fX12_shifts_L40 N n) x1 x2 x3 M6
  else
  (zldI M6 103 1000 (((5 : Int32) * (M6.1 69 44)) + x3)).bind fun v7 =>
  zb2 (fX12_hasStep N v7 (0 : Int32) (M6.1 69 44) M6) fun r10 M9 =>
  if r10 = 0 then
  fX12_shifts_L103 N (fX12_shifts_L40 N n) x1 x2 x3 M9
  else
  zlet (x2 ||| ((1 : Int32) <<< (x3 &&& 31))) fun x2_11 =>
  fX12_shifts_L103 N (fX12_shifts_L40 N n) x1 x2_11 x3 M9
def fX12_shifts (N : Nat)  (M : zMem) : Option (Int32 × zMem) :=
  (zldI M 101 200 (M.1 69 44)).bind fun v1 =>
  if v1 = 0 then
  (zldI M 100 200 (M.1 69 44)).bind fun v2 =>
  if v2 = 0 then
  (zldI M 102 200 (M.1 69 44)).bind fun v3 =>
  fX12_shifts_L40 N N v3 (0 : Int32) (0 : Int32) M
  else
  some ((-1 : Int32), M)
  else
  some ((-1 : Int32), M)
def fX12_there (x1 : Int32) (x2 : Int32) (M : zMem) : Option (Int32 × zMem) :=
  zb2 (fX12_isVolunteer x1 M) fun r3 M2 =>
  if r3 = 0 then
  some ((-1 : Int32), M2)
  else
  zb2 (fX12_isNight x2 M2) fun r6 M5 =>
  if r6 = 0 then
  some ((-1 : Int32), M5)
  else
  (zldI M5 106 1600 (((8 : Int32) * x2) + x1)).bind fun v7 =>
  some (v7, M5)
def fX12_lacks (x1 : Int32) (M : zMem) : Option (Int32 × zMem) :=
  zb2 (fX12_isNight x1 M) fun r3 M2 =>
  if r3 = 0 then
  some ((-1 : Int32), M2)
  else
  (zldI M2 101 200 x1).bind fun v4 =>
  if v4 = 0 then
  some ((-1 : Int32), M2)
  else
  (zldI M2 107 200 x1).bind fun v5 =>
  some (((63 : Int32) &&& (v5 ^^^ (-1 : Int32))), M2)
def fX12_call_L112 (N : Nat) (k86 : Int32 → Int32 → Int32 → Int32 → Int32 → Int32 → Int32 → zMem → Option (Int32 × zMem)) (x1 : Int32) (x2 : Int32) (x3 : Int32) (x4 : Int32) (x5 : Int32) (x6 : Int32) (x7 : Int32) (M : zMem) : Option (Int32 × zMem) :=
  zlet (x7 + (1 : Int32)) fun x7_14 =>
  k86 x1 x2 x3 x4 x5 x6 x7_14 M
def fX12_call_L86 (N : Nat) : Nat → Int32 → Int32 → Int32 → Int32 → Int32 → Int32 → Int32 → zMem → Option (Int32 × zMem)
  | 0, _, _, _, _, _, _, _, _ => none
  | n + 1, x1, x2, x3, x4, x5, x6, x7, M =>
  if (M.1 69 60) ≤ x7 then
  if x6 = (40 : Int32) then
  some ((-1 : Int32), M)
  else
  (zstI M 112 400 (M.1 69 60) (M.1 69 44)).bind fun M2 =>
  (zstI M2 113 400 (M2.1 69 60) x1).bind fun M3 =>
  (zstI M3 114 400 (M3.1 69 60) x2).bind fun M4 =>
  (zstI M4 115 400 (M4.1 69 60) x3).bind fun M5 =>
  (zstI M5 116 400 (M5.1 69 60) x4).bind fun M6 =>
  (zstI M6 117 400 (M6.1 69 60) x5).bind fun M7 =>
  (zstI M7 118 400 (M7.1 69 60) (0 : Int32)).bind fun M8 =>
  (zstI M8 119 400 (M8.1 69 60) (-1 : Int32)).bind fun M9 =>
  (zstI M9 120 400 (M9.1 69 60) (-1 : Int32)).bind fun M10 =>
  zlet (zpI M10 69 60 ((M10.1 69 60) + (1 : Int32))) fun M11 =>
  some (((M11.1 69 60) - (1 : Int32)), M11)
  else
  (zldI M 112 400 x7).bind fun v12 =>
  if v12 = (M.1 69 44) then
  zlet (x6 + (1 : Int32)) fun x6_13 =>
  fX12_call_L112 N (fX12_call_L86 N n) x1 x2 x3 x4 x5 x6_13 x7 M
  else
  fX12_call_L112 N (fX12_call_L86 N n) x1 x2 x3 x4 x5 x6 x7 M
def fX12_call (N : Nat) (x1 : Int32) (x2 : Int32) (x3 : Int32) (x4 : Int32) (x5 : Int32) (M : zMem) : Option (Int32 × zMem) :=
  if (M.1 69 60) = (400 : Int32) then
  some ((-1 : Int32), M)
  else
  (zldI M 100 200 (M.1 69 44)).bind fun v1 =>
  if v1 = 0 then
  if x1 < 0 then
  some ((-1 : Int32), M)
  else
  if (359 : Int32) < x1 then
  some ((-1 : Int32), M)
  else
  if x2 < 0 then
  some ((-1 : Int32), M)
  else
  if (19 : Int32) < x2 then
  some ((-1 : Int32), M)
  else
  if x3 < 0 then
  some ((-1 : Int32), M)
  else
  if (9 : Int32) < x3 then
  some ((-1 : Int32), M)
  else
  if x4 < 0 then
  some ((-1 : Int32), M)
  else
  if (7 : Int32) < x4 then
  some ((-1 : Int32), M)
  else
  if x5 < (1 : Int32) then
  some ((-1 : Int32), M)
  else
  if x5 ≤ (90 : Int32) then
  fX12_call_L86 N N x1 x2 x3 x4 x5 (0 : Int32) (0 : Int32) M
  else
  some ((-1 : Int32), M)
  else
  some ((-1 : Int32), M)
def fX12_value_L138 (N : Nat) (k5 : Int32 → Int32 → Int32 → zMem → Option (Int32 × zMem)) (x2 : Int32) (x3 : Int32) (x4 : Int32) (M : zMem) : Option (Int32 × zMem) :=
  zlet (x4 + (1 : Int32)) fun x4_15 =>
  k5 x2 x3 x4_15 M
def fX12_value_L59 (N : Nat) (k5 : Int32 → Int32 → Int32 → zMem → Option (Int32 × zMem)) (x2 : Int32) (x3 : Int32) (x4 : Int32) (s1 : Int32) (s2 : Int32) (M : zMem) : Option (Int32 × zMem) :=
  (zstI M 123 500 s1 s2).bind fun M13 =>
  zlet (x3 + (1 : Int32)) fun x3_14 =>
  fX12_value_L138 N k5 x2 x3_14 x4 M13
def fX12_value_L137 (N : Nat) (k5 : Int32 → Int32 → Int32 → zMem → Option (Int32 × zMem)) (x2 : Int32) (x3 : Int32) (x4 : Int32) (s1 : Int32) (s2 : Int32) (M : zMem) : Option (Int32 × zMem) :=
  (zstI M 123 500 s1 s2).bind fun M12 =>
  fX12_value_L138 N k5 x2 x3 x4 M12
def fX12_value_L5 (N : Nat) : Nat → Int32 → Int32 → Int32 → zMem → Option (Int32 × zMem)
  | 0, _, _, _, _ => none
  | n + 1, x2, x3, x4, M =>
  if x2 ≤ x4 then
  (zldI M 123 500 (0 : Int32)).bind fun v1 =>
  some (v1, M)
  else
  (zldI M 89 1000 x4).bind fun v2 =>
  if (2 : Int32) ≤ v2 then
  zlet (x3 + (-1 : Int32)) fun x3_3 =>
  (zldI M 123 500 (x3_3 - (1 : Int32))).bind fun v4 =>
  (zldI M 123 500 x3_3).bind fun v5 =>
  (zldI M 89 1000 x4).bind fun v6 =>
  if v6 = (2 : Int32) then
  fX12_value_L137 N (fX12_value_L5 N n) x2 x3_3 x4 (x3_3 - (1 : Int32)) (v4 + v5) M
  else
  (zldI M 89 1000 x4).bind fun v7 =>
  if v7 = (3 : Int32) then
  fX12_value_L137 N (fX12_value_L5 N n) x2 x3_3 x4 (x3_3 - (1 : Int32)) (v4 - v5) M
  else
  fX12_value_L137 N (fX12_value_L5 N n) x2 x3_3 x4 (x3_3 - (1 : Int32)) (v4 * v5) M
  else
  (zldI M 89 1000 x4).bind fun v8 =>
  if v8 = 0 then
  (zldI M 90 1000 x4).bind fun v11 =>
  fX12_value_L59 N (fX12_value_L5 N n) x2 x3 x4 x3 v11 M
  else
  (zldI M 90 1000 x4).bind fun v9 =>
  (zldI M 122 6 v9).bind fun v10 =>
  fX12_value_L59 N (fX12_value_L5 N n) x2 x3 x4 x3 v10 M
def fX12_value (N : Nat) (x1 : Int32) (x2 : Int32) (M : zMem) : Option (Int32 × zMem) :=
  fX12_value_L5 N N x2 (0 : Int32) x1 M
def fX12_holds_L150 (N : Nat) (k7 : Int32 → Int32 → zMem → Option (Int32 × zMem)) (x1 : Int32) (x2 : Int32) (s0 : Int32) (M : zMem) : Option (Int32 × zMem) :=
  if s0 = 0 then
  some ((0 : Int32), M)
  else
  zlet (x2 + (1 : Int32)) fun x2_17 =>
  k7 x1 x2_17 M
def fX12_holds_L7 (N : Nat) : Nat → Int32 → Int32 → zMem → Option (Int32 × zMem)
  | 0, _, _, _ => none
  | n + 1, x1, x2, M =>
  (zldI M 83 40 x1).bind fun v2 =>
  if v2 ≤ x2 then
  some ((1 : Int32), M)
  else
  zlet (((200 : Int32) * (M.1 69 18)) + x2) fun x3_3 =>
  (zldI M 86 400 x3_3).bind fun v4 =>
  (zldI M 87 400 x3_3).bind fun v5 =>
  zb2 (fX12_value N v4 v5 M) fun r8 M7 =>
  (zldI M7 87 400 x3_3).bind fun v9 =>
  (zldI M7 88 400 x3_3).bind fun v10 =>
  zb2 (fX12_value N v9 v10 M7) fun r13 M12 =>
  (zldI M12 85 400 x3_3).bind fun v14 =>
  if v14 = 0 then
  if r8 = r13 then
  fX12_holds_L150 N (fX12_holds_L7 N n) x1 x2 (1 : Int32) M12
  else
  fX12_holds_L150 N (fX12_holds_L7 N n) x1 x2 (0 : Int32) M12
  else
  (zldI M12 85 400 x3_3).bind fun v15 =>
  if v15 = (1 : Int32) then
  if r8 = r13 then
  fX12_holds_L150 N (fX12_holds_L7 N n) x1 x2 (0 : Int32) M12
  else
  fX12_holds_L150 N (fX12_holds_L7 N n) x1 x2 (1 : Int32) M12
  else
  (zldI M12 85 400 x3_3).bind fun v16 =>
  if v16 = (2 : Int32) then
  if r13 ≤ r8 then
  fX12_holds_L150 N (fX12_holds_L7 N n) x1 x2 (0 : Int32) M12
  else
  fX12_holds_L150 N (fX12_holds_L7 N n) x1 x2 (1 : Int32) M12
  else
  if r13 < r8 then
  fX12_holds_L150 N (fX12_holds_L7 N n) x1 x2 (0 : Int32) M12
  else
  fX12_holds_L150 N (fX12_holds_L7 N n) x1 x2 (1 : Int32) M12
def fX12_holds (N : Nat) (x1 : Int32) (M : zMem) : Option (Int32 × zMem) :=
  (zldI M 82 40 x1).bind fun v1 =>
  fX12_holds_L7 N N x1 v1 M
def fX12_asks_L49 (x1 : Int32) (x2 : Int32) (x3 : Int32) (s1 : Int32) (s2 : Int32) (M : zMem) : Option zMem :=
  (zldI M 113 400 x1).bind fun v7 =>
  (zstI M 122 6 s1 (s2 - v7)).bind fun M8 =>
  (zstI M8 122 6 (3 : Int32) (x2 / (60 : Int32))).bind fun M9 =>
  (zldI M9 124 400 x1).bind fun v10 =>
  (zstI M9 122 6 (4 : Int32) v10).bind fun M11 =>
  (zstI M11 122 6 (5 : Int32) x3).bind fun M12 =>
  some M12
def fX12_asks (x1 : Int32) (x2 : Int32) (x3 : Int32) (M : zMem) : Option zMem :=
  (zldI M 115 400 x1).bind fun v1 =>
  (zstI M 122 6 (0 : Int32) v1).bind fun M2 =>
  (zldI M2 116 400 x1).bind fun v3 =>
  (zstI M2 122 6 (1 : Int32) v3).bind fun M4 =>
  (zldI M4 118 400 x1).bind fun v5 =>
  if v5 = (1 : Int32) then
  (zldI M4 120 400 x1).bind fun v6 =>
  fX12_asks_L49 x1 x2 x3 (2 : Int32) v6 M4
  else
  fX12_asks_L49 x1 x2 x3 (2 : Int32) x2 M4
def fX12_ends_L111 (N : Nat) (k50 : Int32 → Int32 → Int32 → zMem → Option zMem) (x2 : Int32) (x3 : Int32) (x4 : Int32) (M : zMem) : Option zMem :=
  zlet (x4 + (1 : Int32)) fun x4_17 =>
  k50 x2 x3 x4_17 M
def fX12_ends_L50 (N : Nat) : Nat → Int32 → Int32 → Int32 → zMem → Option zMem
  | 0, _, _, _, _ => none
  | n + 1, x2, x3, x4, M =>
  (zldI M 77 2 (M.1 69 18)).bind fun v10 =>
  if (((20 : Int32) * (M.1 69 18)) + v10) ≤ x4 then
  some M
  else
  (zldI M 78 40 x4).bind fun v11 =>
  if v11 = (4 : Int32) then
  zb2 (fX12_holds N x4 M) fun r14 M13 =>
  if r14 = 0 then
  fX12_ends_L111 N (fX12_ends_L50 N n) x2 x3 x4 M13
  else
  (zldI M13 79 40 x4).bind fun v15 =>
  (zstI M13 128 8 x3 (x2 + v15)).bind fun M16 =>
  some M16
  else
  fX12_ends_L111 N (fX12_ends_L50 N n) x2 x3 x4 M
def fX12_ends (N : Nat) (x1 : Int32) (x2 : Int32) (M : zMem) : Option zMem :=
  (zldI M 119 400 x1).bind fun v1 =>
  (zldI M 129 8 v1).bind fun v2 =>
  (zldI M 117 400 x1).bind fun v3 =>
  (zstI M 129 8 v1 (v2 + v3)).bind fun M4 =>
  (zstI M4 127 8 v1 (-1 : Int32)).bind fun M5 =>
  (zldI M5 129 8 v1).bind fun v6 =>
  (fX12_asks x1 x2 v6 M5).bind fun M8 =>
  zlet ((20 : Int32) * (M8.1 69 18)) fun x4_9 =>
  fX12_ends_L50 N N x2 v1 x4_9 M8
def fX12_isDropped_L56 (N : Nat) (k15 : Int32 → zMem → Option (Int32 × zMem)) (x3 : Int32) (M : zMem) : Option (Int32 × zMem) :=
  zlet (x3 + (1 : Int32)) fun x3_9 =>
  k15 x3_9 M
def fX12_isDropped_L15 (N : Nat) : Nat → Int32 → zMem → Option (Int32 × zMem)
  | 0, _, _ => none
  | n + 1, x3, M =>
  (zldI M 77 2 (M.1 69 18)).bind fun v4 =>
  if (((20 : Int32) * (M.1 69 18)) + v4) ≤ x3 then
  some ((0 : Int32), M)
  else
  (zldI M 78 40 x3).bind fun v5 =>
  if v5 = (3 : Int32) then
  zb2 (fX12_holds N x3 M) fun r8 M7 =>
  if r8 = 0 then
  fX12_isDropped_L56 N (fX12_isDropped_L15 N n) x3 M7
  else
  some ((1 : Int32), M7)
  else
  fX12_isDropped_L56 N (fX12_isDropped_L15 N n) x3 M
def fX12_isDropped (N : Nat) (x1 : Int32) (x2 : Int32) (M : zMem) : Option (Int32 × zMem) :=
  (fX12_asks x1 x2 (0 : Int32) M).bind fun M2 =>
  zlet ((20 : Int32) * (M2.1 69 18)) fun x3_3 =>
  fX12_isDropped_L15 N N x3_3 M2
def fX12_firstOf_L70 (N : Nat) (k15 : Int32 → Int32 → zMem → Option (Int32 × zMem)) (x1 : Int32) (x3 : Int32) (M : zMem) : Option (Int32 × zMem) :=
  zlet (x3 + (1 : Int32)) fun x3_15 =>
  k15 x1 x3_15 M
def fX12_firstOf_L15 (N : Nat) : Nat → Int32 → Int32 → zMem → Option (Int32 × zMem)
  | 0, _, _, _ => none
  | n + 1, x1, x3, M =>
  (zldI M 77 2 (M.1 69 18)).bind fun v4 =>
  if (((20 : Int32) * (M.1 69 18)) + v4) ≤ x3 then
  (zldI M 115 400 x1).bind fun v5 =>
  some (v5, M)
  else
  (zldI M 78 40 x3).bind fun v6 =>
  if v6 = 0 then
  zb2 (fX12_holds N x3 M) fun r9 M8 =>
  if r9 = 0 then
  fX12_firstOf_L70 N (fX12_firstOf_L15 N n) x1 x3 M8
  else
  (zldI M8 80 40 x3).bind fun v10 =>
  (zldI M8 81 40 x3).bind fun v11 =>
  zb2 (fX12_value N v10 v11 M8) fun r14 M13 =>
  some (r14, M13)
  else
  fX12_firstOf_L70 N (fX12_firstOf_L15 N n) x1 x3 M
def fX12_firstOf (N : Nat) (x1 : Int32) (x2 : Int32) (M : zMem) : Option (Int32 × zMem) :=
  (fX12_asks x1 x2 (0 : Int32) M).bind fun M2 =>
  zlet ((20 : Int32) * (M2.1 69 18)) fun x3_3 =>
  fX12_firstOf_L15 N N x1 x3_3 M2
def fX12_mayTake_L162 (N : Nat) (k85 : Int32 → Int32 → zMem → Option (Int32 × zMem)) (x1 : Int32) (x4 : Int32) (M : zMem) : Option (Int32 × zMem) :=
  zlet (x4 + (1 : Int32)) fun x4_22 =>
  k85 x1 x4_22 M
def fX12_mayTake_L85 (N : Nat) : Nat → Int32 → Int32 → zMem → Option (Int32 × zMem)
  | 0, _, _, _ => none
  | n + 1, x1, x4, M =>
  (zldI M 77 2 (M.1 69 18)).bind fun v12 =>
  if (((20 : Int32) * (M.1 69 18)) + v12) ≤ x4 then
  some ((1 : Int32), M)
  else
  (zldI M 78 40 x4).bind fun v13 =>
  if v13 = (2 : Int32) then
  zb2 (fX12_holds N x4 M) fun r16 M15 =>
  if r16 = 0 then
  fX12_mayTake_L162 N (fX12_mayTake_L85 N n) x1 x4 M15
  else
  (zldI M15 79 40 x4).bind fun v17 =>
  if (M15.1 69 39) ≤ v17 then
  some ((0 : Int32), M15)
  else
  (zldI M15 79 40 x4).bind fun v18 =>
  zb2 (fX12_hasStep N x1 v18 (M15.1 69 44) M15) fun r21 M20 =>
  if r21 = 0 then
  some ((0 : Int32), M20)
  else
  fX12_mayTake_L162 N (fX12_mayTake_L85 N n) x1 x4 M20
  else
  fX12_mayTake_L162 N (fX12_mayTake_L85 N n) x1 x4 M
def fX12_mayTake (N : Nat) (x1 : Int32) (x2 : Int32) (x3 : Int32) (M : zMem) : Option (Int32 × zMem) :=
  (zldI M 106 1600 (((8 : Int32) * (M.1 69 44)) + x1)).bind fun v1 =>
  if ((v1 >>> ((x3 / (60 : Int32)) &&& 31)) &&& (1 : Int32)) = 0 then
  some ((0 : Int32), M)
  else
  (zldI M 127 8 x1).bind fun v2 =>
  if v2 = (-1 : Int32) then
  (zldI M 128 8 x1).bind fun v3 =>
  if x3 < v3 then
  some ((0 : Int32), M)
  else
  (zldI M 114 400 x2).bind fun v4 =>
  zb2 (fX12_isBarred v4 x1 (M.1 69 44) M) fun r7 M6 =>
  if r7 = 0 then
  (zldI M6 129 8 x1).bind fun v8 =>
  (fX12_asks x2 x3 v8 M6).bind fun M10 =>
  zlet ((20 : Int32) * (M10.1 69 18)) fun x4_11 =>
  fX12_mayTake_L85 N N x1 x4_11 M10
  else
  some ((0 : Int32), M6)
  else
  some ((0 : Int32), M)
def fX12_takes_L49 (N : Nat) (k5 : Int32 → Int32 → Int32 → Int32 → zMem → Option zMem) (x1 : Int32) (x2 : Int32) (x3 : Int32) (x4 : Int32) (M : zMem) : Option zMem :=
  zlet (x4 + (1 : Int32)) fun x4_13 =>
  k5 x1 x2 x3 x4_13 M
def fX12_takes_L35 (N : Nat) (k5 : Int32 → Int32 → Int32 → Int32 → zMem → Option zMem) (x1 : Int32) (x2 : Int32) (x3 : Int32) (x4 : Int32) (M : zMem) : Option zMem :=
  zb2 (fX12_mayTake N x4 x1 x2 M) fun r12 M11 =>
  if r12 = 0 then
  fX12_takes_L49 N k5 x1 x2 x3 x4 M11
  else
  fX12_takes_L49 N k5 x1 x2 x4 x4 M11
def fX12_takes_L5 (N : Nat) : Nat → Int32 → Int32 → Int32 → Int32 → zMem → Option zMem
  | 0, _, _, _, _, _ => none
  | n + 1, x1, x2, x3, x4, M =>
  if (M.1 69 37) ≤ x4 then
  if x3 = (-1 : Int32) then
  some M
  else
  (zstI M 118 400 x1 (1 : Int32)).bind fun M1 =>
  (zstI M1 119 400 x1 x3).bind fun M2 =>
  (zstI M2 120 400 x1 x2).bind fun M3 =>
  (zstZ M3 126 400 x1 (0 : Int32)).bind fun M4 =>
  (zstI M4 127 8 x3 x1).bind fun M5 =>
  (zldI M5 115 400 x1).bind fun v6 =>
  if v6 ≤ (7 : Int32) then
  some M5
  else
  (zstZ M5 97 1600 (((200 : Int32) * x3) + (M5.1 69 44)) (1 : Int32)).bind fun M7 =>
  some M7
  else
  if x3 = (-1 : Int32) then
  fX12_takes_L35 N (fX12_takes_L5 N n) x1 x2 x3 x4 M
  else
  (zldI M 129 8 x4).bind fun v8 =>
  (zldI M 129 8 x3).bind fun v9 =>
  if v9 ≤ v8 then
  fX12_takes_L49 N (fX12_takes_L5 N n) x1 x2 x3 x4 M
  else
  fX12_takes_L35 N (fX12_takes_L5 N n) x1 x2 x3 x4 M
def fX12_takes (N : Nat) (x1 : Int32) (x2 : Int32) (M : zMem) : Option zMem :=
  fX12_takes_L5 N N x1 x2 (-1 : Int32) (0 : Int32) M
def fX12_oneMinute_L43 (N : Nat) (k2 : Int32 → Int32 → Int32 → zMem → Option zMem) (x1 : Int32) (x2 : Int32) (x3 : Int32) (M : zMem) : Option zMem :=
  zlet (x3 + (1 : Int32)) fun x3_8 =>
  k2 x1 x2 x3_8 M
def fX12_oneMinute_L76 (N : Nat) (k51 : Int32 → Int32 → Int32 → zMem → Option zMem) (x1 : Int32) (x2 : Int32) (x3 : Int32) (M : zMem) : Option zMem :=
  zlet (x3 + (1 : Int32)) fun x3_16 =>
  k51 x1 x2 x3_16 M
def fX12_oneMinute_L134 (N : Nat) (k84 : Int32 → Int32 → Int32 → zMem → Option zMem) (x1 : Int32) (x2 : Int32) (x3 : Int32) (M : zMem) : Option zMem :=
  zlet (x3 + (1 : Int32)) fun x3_24 =>
  k84 x1 x2 x3_24 M
def fX12_oneMinute_L192 (N : Nat) (k145 : Int32 → Int32 → Int32 → Int32 → zMem → Option zMem) (x1 : Int32) (x2 : Int32) (x3 : Int32) (x4 : Int32) (M : zMem) : Option zMem :=
  zlet (x4 + (1 : Int32)) fun x4_25 =>
  k145 x1 x2 x3 x4_25 M
def fX12_oneMinute_L264 (N : Nat) (k198 : Int32 → Int32 → Int32 → zMem → Option zMem) (k208 : Int32 → Int32 → Int32 → Int32 → Int32 → zMem → Option zMem) (x1 : Int32) (x2 : Int32) (x3 : Int32) (x4 : Int32) (x5 : Int32) (M : zMem) : Option zMem :=
  zlet (x5 + (1 : Int32)) fun x5_34 =>
  k208 x1 x2 x3 x4 x5_34 M
def fX12_oneMinute_L260 (N : Nat) (k198 : Int32 → Int32 → Int32 → zMem → Option zMem) (k208 : Int32 → Int32 → Int32 → Int32 → Int32 → zMem → Option zMem) (x1 : Int32) (x2 : Int32) (x3 : Int32) (x5 : Int32) (M : zMem) : Option zMem :=
  fX12_oneMinute_L264 N k198 k208 x1 x2 x3 x5 x5 M
def fX12_oneMinute_L208 (N : Nat) (k198 : Int32 → Int32 → Int32 → zMem → Option zMem) : Nat → Int32 → Int32 → Int32 → Int32 → Int32 → zMem → Option zMem
  | 0, _, _, _, _, _, _ => none
  | n + 1, x1, x2, x3, x4, x5, M =>
  if (M.1 69 60) ≤ x5 then
  (zstZ M 130 400 x4 (1 : Int32)).bind fun M26 =>
  (fX12_takes N x4 x2 M26).bind fun M28 =>
  zlet (x3 + (-1 : Int32)) fun x3_29 =>
  k198 x1 x2 x3_29 M28
  else
  (zldI M 126 400 x5).bind fun v30 =>
  if v30 = 0 then
  fX12_oneMinute_L264 N k198 (fX12_oneMinute_L208 N k198 n) x1 x2 x3 x4 x5 M
  else
  (zldI M 130 400 x5).bind fun v31 =>
  if v31 = 0 then
  if x4 = (-1 : Int32) then
  fX12_oneMinute_L260 N k198 (fX12_oneMinute_L208 N k198 n) x1 x2 x3 x5 M
  else
  (zldI M 125 400 x5).bind fun v32 =>
  (zldI M 125 400 x4).bind fun v33 =>
  if v32 ≤ v33 then
  fX12_oneMinute_L264 N k198 (fX12_oneMinute_L208 N k198 n) x1 x2 x3 x4 x5 M
  else
  fX12_oneMinute_L260 N k198 (fX12_oneMinute_L208 N k198 n) x1 x2 x3 x5 M
  else
  fX12_oneMinute_L264 N k198 (fX12_oneMinute_L208 N k198 n) x1 x2 x3 x4 x5 M
def fX12_oneMinute_L198 (N : Nat) : Nat → Int32 → Int32 → Int32 → zMem → Option zMem
  | 0, _, _, _, _ => none
  | n + 1, x1, x2, x3, M =>
  if x3 ≤ 0 then
  some M
  else
  fX12_oneMinute_L208 N (fX12_oneMinute_L198 N n) N x1 x2 x3 (-1 : Int32) x1 M
def fX12_oneMinute_L145 (N : Nat) : Nat → Int32 → Int32 → Int32 → Int32 → zMem → Option zMem
  | 0, _, _, _, _, _ => none
  | n + 1, x1, x2, x3, x4, M =>
  if (M.1 69 60) ≤ x4 then
  fX12_oneMinute_L198 N N x1 x2 x3 M
  else
  (zldI M 126 400 x4).bind fun v17 =>
  if v17 = 0 then
  fX12_oneMinute_L192 N (fX12_oneMinute_L145 N n) x1 x2 x3 x4 M
  else
  zb2 (fX12_firstOf N x4 x2 M) fun r20 M19 =>
  (zstI M19 125 400 x4 r20).bind fun M21 =>
  (zstZ M21 130 400 x4 (0 : Int32)).bind fun M22 =>
  zlet (x3 + (1 : Int32)) fun x3_23 =>
  fX12_oneMinute_L192 N (fX12_oneMinute_L145 N n) x1 x2 x3_23 x4 M22
def fX12_oneMinute_L84 (N : Nat) : Nat → Int32 → Int32 → Int32 → zMem → Option zMem
  | 0, _, _, _, _ => none
  | n + 1, x1, x2, x3, M =>
  if (M.1 69 60) ≤ x3 then
  fX12_oneMinute_L145 N N x1 x2 (0 : Int32) x1 M
  else
  (zldI M 126 400 x3).bind fun v9 =>
  if v9 = 0 then
  fX12_oneMinute_L134 N (fX12_oneMinute_L84 N n) x1 x2 x3 M
  else
  zb2 (fX12_isDropped N x3 x2 M) fun r12 M11 =>
  if r12 = 0 then
  fX12_oneMinute_L134 N (fX12_oneMinute_L84 N n) x1 x2 x3 M11
  else
  (zstZ M11 126 400 x3 (0 : Int32)).bind fun M13 =>
  (zstI M13 118 400 x3 (2 : Int32)).bind fun M14 =>
  (zstI M14 120 400 x3 x2).bind fun M15 =>
  fX12_oneMinute_L134 N (fX12_oneMinute_L84 N n) x1 x2 x3 M15
def fX12_oneMinute_L51 (N : Nat) : Nat → Int32 → Int32 → Int32 → zMem → Option zMem
  | 0, _, _, _, _ => none
  | n + 1, x1, x2, x3, M =>
  if (M.1 69 60) ≤ x3 then
  fX12_oneMinute_L84 N N x1 x2 x1 M
  else
  (zldI M 113 400 x3).bind fun v6 =>
  if v6 = x2 then
  (zstZ M 126 400 x3 (1 : Int32)).bind fun M7 =>
  fX12_oneMinute_L76 N (fX12_oneMinute_L51 N n) x1 x2 x3 M7
  else
  fX12_oneMinute_L76 N (fX12_oneMinute_L51 N n) x1 x2 x3 M
def fX12_oneMinute_L2 (N : Nat) : Nat → Int32 → Int32 → Int32 → zMem → Option zMem
  | 0, _, _, _, _ => none
  | n + 1, x1, x2, x3, M =>
  if (M.1 69 60) ≤ x3 then
  fX12_oneMinute_L51 N N x1 x2 x1 M
  else
  (zldI M 118 400 x3).bind fun v1 =>
  if v1 = (1 : Int32) then
  (zldI M 120 400 x3).bind fun v2 =>
  (zldI M 117 400 x3).bind fun v3 =>
  if (v2 + v3) = x2 then
  (fX12_ends N x3 x2 M).bind fun M5 =>
  fX12_oneMinute_L43 N (fX12_oneMinute_L2 N n) x1 x2 x3 M5
  else
  fX12_oneMinute_L43 N (fX12_oneMinute_L2 N n) x1 x2 x3 M
  else
  fX12_oneMinute_L43 N (fX12_oneMinute_L2 N n) x1 x2 x3 M
def fX12_oneMinute (N : Nat) (x1 : Int32) (x2 : Int32) (M : zMem) : Option zMem :=
  fX12_oneMinute_L2 N N x1 x2 x1 M
def fX12_go_L144 (N : Nat) (k80 : Int32 → Int32 → zMem → Option (Int32 × zMem)) (k104 : Int32 → Int32 → Int32 → zMem → Option (Int32 × zMem)) (x1 : Int32) (x2 : Int32) (x3 : Int32) (M : zMem) : Option (Int32 × zMem) :=
  zlet (x3 + (1 : Int32)) fun x3_23 =>
  k104 x1 x2 x3_23 M
def fX12_go_L104 (N : Nat) (k80 : Int32 → Int32 → zMem → Option (Int32 × zMem)) : Nat → Int32 → Int32 → Int32 → zMem → Option (Int32 × zMem)
  | 0, _, _, _, _ => none
  | n + 1, x1, x2, x3, M =>
  if x1 ≤ x3 then
  zlet (x2 + (1 : Int32)) fun x2_13 =>
  k80 x1 x2_13 M
  else
  (zldI M 114 400 x3).bind fun v14 =>
  (zldI M 114 400 x2).bind fun v15 =>
  if v14 = v15 then
  (zldI M 118 400 x3).bind fun v16 =>
  if v16 = (1 : Int32) then
  (zldI M 124 400 x2).bind fun v17 =>
  (zstI M 124 400 x2 (v17 + (1 : Int32))).bind fun M18 =>
  fX12_go_L144 N k80 (fX12_go_L104 N k80 n) x1 x2 x3 M18
  else
  fX12_go_L144 N k80 (fX12_go_L104 N k80 n) x1 x2 x3 M
  else
  fX12_go_L144 N k80 (fX12_go_L104 N k80 n) x1 x2 x3 M
def fX12_go_L250 (N : Nat) (k181 : Int32 → Int32 → zMem → Option (Int32 × zMem)) (x2 : Int32) (x3 : Int32) (M : zMem) : Option (Int32 × zMem) :=
  zlet (x3 + (1 : Int32)) fun x3_30 =>
  k181 x2 x3_30 M
def fX12_go_L205 (N : Nat) (k181 : Int32 → Int32 → zMem → Option (Int32 × zMem)) (x2 : Int32) (x3 : Int32) (M : zMem) : Option (Int32 × zMem) :=
  (zldI M 118 400 x3).bind fun v24 =>
  if v24 = (1 : Int32) then
  zlet (x2 + (1 : Int32)) fun x2_25 =>
  (zldI M 119 400 x3).bind fun v26 =>
  (zldI M 121 1600 (((200 : Int32) * v26) + (M.1 69 44))).bind fun v27 =>
  (zldI M 117 400 x3).bind fun v28 =>
  (zstI M 121 1600 (((200 : Int32) * v26) + (M.1 69 44)) (v27 + v28)).bind fun M29 =>
  fX12_go_L250 N k181 x2_25 x3 M29
  else
  fX12_go_L250 N k181 x2 x3 M
def fX12_go_L181 (N : Nat) : Nat → Int32 → Int32 → zMem → Option (Int32 × zMem)
  | 0, _, _, _ => none
  | n + 1, x2, x3, M =>
  if (M.1 69 60) ≤ x3 then
  (zstZ M 100 200 (M.1 69 44) (1 : Int32)).bind fun M19 =>
  zlet (zpI M19 69 71 ((M19.1 69 71) + (1 : Int32))) fun M20 =>
  some (x2, M20)
  else
  (zldI M 126 400 x3).bind fun v21 =>
  if v21 = 0 then
  fX12_go_L205 N (fX12_go_L181 N n) x2 x3 M
  else
  (zstI M 118 400 x3 (3 : Int32)).bind fun M22 =>
  fX12_go_L205 N (fX12_go_L181 N n) x2 x3 M22
def fX12_go_L158 (N : Nat) : Nat → Int32 → Int32 → zMem → Option (Int32 × zMem)
  | 0, _, _, _ => none
  | n + 1, x1, x2, M =>
  if (360 : Int32) ≤ x2 then
  fX12_go_L181 N N (0 : Int32) x1 M
  else
  (fX12_oneMinute N x1 x2 M).bind fun M11 =>
  zlet (x2 + (1 : Int32)) fun x2_12 =>
  fX12_go_L158 N n x1 x2_12 M11
def fX12_go_L80 (N : Nat) : Nat → Int32 → Int32 → zMem → Option (Int32 × zMem)
  | 0, _, _, _ => none
  | n + 1, x1, x2, M =>
  if (M.1 69 60) ≤ x2 then
  fX12_go_L158 N N x1 (0 : Int32) M
  else
  (zstZ M 126 400 x2 (0 : Int32)).bind fun M8 =>
  (zstI M8 124 400 x2 (0 : Int32)).bind fun M9 =>
  fX12_go_L104 N (fX12_go_L80 N n) N x1 x2 (0 : Int32) M9
def fX12_go_L78 (N : Nat) (x1 : Int32) (M : zMem) : Option (Int32 × zMem) :=
  fX12_go_L80 N N x1 x1 M
def fX12_go_L51 (N : Nat) : Nat → Int32 → zMem → Option (Int32 × zMem)
  | 0, _, _ => none
  | n + 1, x1, M =>
  if (M.1 69 60) ≤ x1 then
  fX12_go_L78 N x1 M
  else
  (zldI M 112 400 x1).bind fun v6 =>
  if (M.1 69 44) ≤ v6 then
  fX12_go_L78 N x1 M
  else
  zlet (x1 + (1 : Int32)) fun x1_7 =>
  fX12_go_L51 N n x1_7 M
def fX12_go_L16 (N : Nat) : Nat → Int32 → zMem → Option (Int32 × zMem)
  | 0, _, _ => none
  | n + 1, x1, M =>
  if (8 : Int32) ≤ x1 then
  fX12_go_L51 N N (0 : Int32) M
  else
  (zstI M 127 8 x1 (-1 : Int32)).bind fun M2 =>
  (zstI M2 128 8 x1 (0 : Int32)).bind fun M3 =>
  (zstI M3 129 8 x1 (0 : Int32)).bind fun M4 =>
  zlet (x1 + (1 : Int32)) fun x1_5 =>
  fX12_go_L16 N n x1_5 M4
def fX12_go (N : Nat)  (M : zMem) : Option (Int32 × zMem) :=
  (zldI M 100 200 (M.1 69 44)).bind fun v1 =>
  if v1 = 0 then
  fX12_go_L16 N N (0 : Int32) M
  else
  some ((-1 : Int32), M)
def fX12_told (x1 : Int32) (x2 : Int32) (M : zMem) : Option (Int32 × zMem) :=
  if x1 < 0 then
  some ((-1 : Int32), M)
  else
  if x1 < (M.1 69 60) then
  if x2 = (0 : Int32) then
  (zldI M 112 400 x1).bind fun v1 =>
  some (v1, M)
  else if x2 = (1 : Int32) then
  (zldI M 118 400 x1).bind fun v2 =>
  some (v2, M)
  else if x2 = (2 : Int32) then
  (zldI M 119 400 x1).bind fun v3 =>
  some (v3, M)
  else if x2 = (3 : Int32) then
  (zldI M 120 400 x1).bind fun v4 =>
  some (v4, M)
  else if x2 = (4 : Int32) then
  (zldI M 118 400 x1).bind fun v5 =>
  if v5 = (1 : Int32) then
  (zldI M 120 400 x1).bind fun v6 =>
  (zldI M 117 400 x1).bind fun v7 =>
  some ((v6 + v7), M)
  else
  some ((-1 : Int32), M)
  else if x2 = (5 : Int32) then
  (zldI M 114 400 x1).bind fun v8 =>
  some (v8, M)
  else 
  some ((-1 : Int32), M)
  else
  some ((-1 : Int32), M)
def fX12_talked (x1 : Int32) (x2 : Int32) (M : zMem) : Option (Int32 × zMem) :=
  zb2 (fX12_isVolunteer x1 M) fun r3 M2 =>
  if r3 = 0 then
  some ((-1 : Int32), M2)
  else
  zb2 (fX12_isNight x2 M2) fun r6 M5 =>
  if r6 = 0 then
  some ((-1 : Int32), M5)
  else
  (zldI M5 100 200 x2).bind fun v7 =>
  if v7 = 0 then
  some ((-1 : Int32), M5)
  else
  (zldI M5 121 1600 (((200 : Int32) * x1) + x2)).bind fun v8 =>
  some (v8, M5)
def fX12_note (x1 : Int32) (x2 : Int32) (M : zMem) : Option (Int32 × zMem) :=
  if (M.1 69 81) = (60 : Int32) then
  some ((-1 : Int32), M)
  else
  if x2 < 0 then
  some ((-1 : Int32), M)
  else
  if (3 : Int32) < x2 then
  some ((-1 : Int32), M)
  else
  if x1 < 0 then
  some ((-1 : Int32), M)
  else
  if (M.1 69 60) ≤ x1 then
  some ((-1 : Int32), M)
  else
  (zldI M 118 400 x1).bind fun v1 =>
  if v1 = (1 : Int32) then
  (zstI M 131 60 (M.1 69 81) x1).bind fun M2 =>
  (zstI M2 132 60 (M2.1 69 81) x2).bind fun M3 =>
  (zstI M3 133 60 (M3.1 69 81) (M3.1 69 44)).bind fun M4 =>
  zlet (zpI M4 69 81 ((M4.1 69 81) + (1 : Int32))) fun M5 =>
  some (((M5.1 69 81) - (1 : Int32)), M5)
  else
  some ((-1 : Int32), M)
def fX12_see (x1 : Int32) (x2 : Int32) (x3 : Int32) (M : zMem) : Option (Int32 × zMem) :=
  zb2 (fX12_isVolunteer x1 M) fun r3 M2 =>
  if r3 = 0 then
  some ((-1 : Int32), M2)
  else
  if x2 < 0 then
  some ((-1 : Int32), M2)
  else
  if (M2.1 69 81) ≤ x2 then
  some ((-1 : Int32), M2)
  else
  zb2 (fX12_isNight x3 M2) fun r6 M5 =>
  if r6 = 0 then
  some ((-1 : Int32), M5)
  else
  (zldI M5 133 60 x2).bind fun v7 =>
  if v7 ≤ x3 then
  (zldI M5 131 60 x2).bind fun v8 =>
  (zldI M5 119 400 v8).bind fun v9 =>
  if v9 = x1 then
  some ((1 : Int32), M5)
  else
  (zldI M5 92 8 x1).bind fun v10 =>
  (zldI M5 132 60 x2).bind fun v11 =>
  if v10 < v11 then
  some ((0 : Int32), M5)
  else
  (zldI M5 114 400 v8).bind fun v12 =>
  zb2 (fX12_isBarred v12 x1 x3 M5) fun r15 M14 =>
  if r15 = 0 then
  some ((1 : Int32), M14)
  else
  some ((0 : Int32), M14)
  else
  some ((0 : Int32), M5)
def fX12_foretold_L136 (N : Nat) (k26 : Int32 → Int32 → Int32 → Int32 → Int32 → zMem → Option (Int32 × zMem)) (x1 : Int32) (x2 : Int32) (x3 : Int32) (x4 : Int32) (x5 : Int32) (M : zMem) : Option (Int32 × zMem) :=
  zlet (x5 + (1 : Int32)) fun x5_8 =>
  k26 x1 x2 x3 x4 x5_8 M
def fX12_foretold_L130 (N : Nat) (k26 : Int32 → Int32 → Int32 → Int32 → Int32 → zMem → Option (Int32 × zMem)) (k92 : Int32 → Int32 → Int32 → Int32 → Int32 → Int32 → zMem → Option (Int32 × zMem)) (x1 : Int32) (x2 : Int32) (x3 : Int32) (x4 : Int32) (x5 : Int32) (x6 : Int32) (M : zMem) : Option (Int32 × zMem) :=
  zlet (x6 + (1 : Int32)) fun x6_13 =>
  k92 x1 x2 x3 x4 x5 x6_13 M
def fX12_foretold_L92 (N : Nat) (k26 : Int32 → Int32 → Int32 → Int32 → Int32 → zMem → Option (Int32 × zMem)) : Nat → Int32 → Int32 → Int32 → Int32 → Int32 → Int32 → zMem → Option (Int32 × zMem)
  | 0, _, _, _, _, _, _, _ => none
  | n + 1, x1, x2, x3, x4, x5, x6, M =>
  if (M.1 69 60) ≤ x6 then
  fX12_foretold_L136 N k26 x1 x2 x3 x4 x5 M
  else
  (zldI M 112 400 x6).bind fun v10 =>
  if v10 = x5 then
  (zldI M 113 400 x6).bind fun v11 =>
  if (v11 / (60 : Int32)) = x1 then
  zlet (x4 + (1 : Int32)) fun x4_12 =>
  fX12_foretold_L130 N k26 (fX12_foretold_L92 N k26 n) x1 x2 x3 x4_12 x5 x6 M
  else
  fX12_foretold_L130 N k26 (fX12_foretold_L92 N k26 n) x1 x2 x3 x4 x5 x6 M
  else
  fX12_foretold_L130 N k26 (fX12_foretold_L92 N k26 n) x1 x2 x3 x4 x5 x6 M
def fX12_foretold_L86 (N : Nat) (k26 : Int32 → Int32 → Int32 → Int32 → Int32 → zMem → Option (Int32 × zMem)) (x1 : Int32) (x2 : Int32) (x3 : Int32) (x4 : Int32) (x5 : Int32) (M : zMem) : Option (Int32 × zMem) :=
  zlet (x3 + (1 : Int32)) fun x3_9 =>
  fX12_foretold_L92 N k26 N x1 x2 x3_9 x4 x5 (0 : Int32) M
def fX12_foretold_L26 (N : Nat) : Nat → Int32 → Int32 → Int32 → Int32 → Int32 → zMem → Option (Int32 × zMem)
  | 0, _, _, _, _, _, _ => none
  | n + 1, x1, x2, x3, x4, x5, M =>
  if (M.1 69 44) ≤ x5 then
  if x3 = 0 then
  some ((-1 : Int32), M)
  else
  if ¬ x3 = 0 then
  some ((((100 : Int32) * x4) / x3), M)
  else none
  else
  (zldI M 100 200 x5).bind fun v4 =>
  if v4 = 0 then
  fX12_foretold_L136 N (fX12_foretold_L26 N n) x1 x2 x3 x4 x5 M
  else
  (zldI M 99 200 x5).bind fun v5 =>
  (zldI M 99 200 x2).bind fun v6 =>
  if v5 = v6 then
  (zldI M 99 200 x5).bind fun v7 =>
  if v7 = 0 then
  if (x5 - x5 / (7 : Int32) * (7 : Int32)) = (x2 - x2 / (7 : Int32) * (7 : Int32)) then
  fX12_foretold_L86 N (fX12_foretold_L26 N n) x1 x2 x3 x4 x5 M
  else
  fX12_foretold_L136 N (fX12_foretold_L26 N n) x1 x2 x3 x4 x5 M
  else
  fX12_foretold_L86 N (fX12_foretold_L26 N n) x1 x2 x3 x4 x5 M
  else
  fX12_foretold_L136 N (fX12_foretold_L26 N n) x1 x2 x3 x4 x5 M
def fX12_foretold (N : Nat) (x1 : Int32) (x2 : Int32) (M : zMem) : Option (Int32 × zMem) :=
  if x1 < 0 then
  some ((-1 : Int32), M)
  else
  if (5 : Int32) < x1 then
  some ((-1 : Int32), M)
  else
  zb2 (fX12_isNight x2 M) fun r3 M2 =>
  if r3 = 0 then
  some ((-1 : Int32), M2)
  else
  fX12_foretold_L26 N N x1 x2 (0 : Int32) (0 : Int32) (0 : Int32) M2
def fX12_how_L25 (N : Nat) (k4 : Int32 → Int32 → Int32 → zMem → Option (Int32 × zMem)) (x1 : Int32) (x2 : Int32) (x3 : Int32) (M : zMem) : Option (Int32 × zMem) :=
  zlet (x3 + (1 : Int32)) fun x3_3 =>
  k4 x1 x2 x3_3 M
def fX12_how_L4 (N : Nat) : Nat → Int32 → Int32 → Int32 → zMem → Option (Int32 × zMem)
  | 0, _, _, _, _ => none
  | n + 1, x1, x2, x3, M =>
  if (M.1 69 60) ≤ x3 then
  some (x2, M)
  else
  (zldI M 118 400 x3).bind fun v1 =>
  if v1 = x1 then
  zlet (x2 + (1 : Int32)) fun x2_2 =>
  fX12_how_L25 N (fX12_how_L4 N n) x1 x2_2 x3 M
  else
  fX12_how_L25 N (fX12_how_L4 N n) x1 x2 x3 M
def fX12_how (N : Nat) (x1 : Int32) (M : zMem) : Option (Int32 × zMem) :=
  fX12_how_L4 N N x1 (0 : Int32) (0 : Int32) M
def fX12_count (N : Nat) (x1 : Int32) (M : zMem) : Option (Int32 × zMem) :=
  if x1 = (0 : Int32) then
  some ((M.1 69 37), M)
  else if x1 = (1 : Int32) then
  some ((M.1 69 39), M)
  else if x1 = (2 : Int32) then
  some ((M.1 69 44), M)
  else if x1 = (3 : Int32) then
  some ((M.1 69 60), M)
  else if x1 = (4 : Int32) then
  zb2 (fX12_how N (1 : Int32) M) fun r3 M2 =>
  some (r3, M2)
  else if x1 = (5 : Int32) then
  zb2 (fX12_how N (2 : Int32) M) fun r6 M5 =>
  some (r6, M5)
  else if x1 = (6 : Int32) then
  zb2 (fX12_how N (3 : Int32) M) fun r9 M8 =>
  some (r9, M8)
  else if x1 = (7 : Int32) then
  some ((M.1 69 81), M)
  else if x1 = (8 : Int32) then
  (zldI M 77 2 (M.1 69 18)).bind fun v10 =>
  some (v10, M)
  else if x1 = (9 : Int32) then
  some ((M.1 69 71), M)
  else if x1 = (10 : Int32) then
  some ((M.1 69 2), M)
  else 
  some ((-1 : Int32), M)
