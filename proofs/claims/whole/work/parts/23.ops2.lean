/-! operations: what the class's and the reference's function give -/
theorem p_back {tl j : Nat} {M : zMem} (h0 : tl ≤ 2000) (h1 : M.1 1 1 = nI tl) (hj : j < 2147483648) : fX11_back (nI j) M = if j ≤ tl then some (nI (tl - j), zpI M 1 1 (nI (tl - j))) else some (-1, M) := by
  unfold fX11_back fX11_isWithin fX8_length fX8_cutTo
  by_cases c : j ≤ tl
  · simp (disch := omega) only [z_lit, z_le, z_lt, z_eq, z_add, z_sub, z_mul, z_ldI, z_ldJ, z_stI, z_stJ, z_stB, z_cl, zpI_1, zpI_2, zpJ_1, zb2_some, zbd_some, zlet_eq, if_pos, if_neg, z_m1, z_m1n, and_self, and_true, true_and, and_false, false_and, if_true, if_false, Nat.add_sub_cancel, eq_self, not_true_eq_false, not_false_eq_true, h1]
  · simp (disch := omega) only [z_lit, z_le, z_lt, z_eq, z_add, z_sub, z_mul, z_ldI, z_ldJ, z_stI, z_stJ, z_stB, z_cl, zpI_1, zpI_2, zpJ_1, zb2_some, zbd_some, zlet_eq, if_pos, if_neg, z_m1, z_m1n, and_self, and_true, true_and, and_false, false_and, if_true, if_false, Nat.add_sub_cancel, eq_self, not_true_eq_false, not_false_eq_true, h1]
theorem p_back_n {x : Int32} {M : zMem} (hx : x < nI 0) : fX11_back x M = some (-1, M) := by
  unfold fX11_back fX11_isWithin fX8_length
  simp (disch := omega) only [z_lit, z_le, z_lt, z_eq, z_add, z_sub, z_mul, z_ldI, z_ldJ, z_stI, z_stJ, z_stB, z_cl, zpI_1, zpI_2, zpJ_1, zb2_some, zbd_some, zlet_eq, if_pos, if_neg, z_m1, z_m1n, and_self, and_true, true_and, and_false, false_and, if_true, if_false, Nat.add_sub_cancel, eq_self, not_true_eq_false, not_false_eq_true, hx, if_true]
theorem m_back {tl j : Nat} {M : zMem} (h0 : tl ≤ 2000) (h1 : M.1 69 2 = nI tl) (hj : j < 2147483648) : fX12_back (nI j) M = if j ≤ tl then some (nI (tl - j), zpI M 69 2 (nI (tl - j))) else some (-1, M) := by
  unfold fX12_back
  by_cases c : j ≤ tl
  · simp (disch := omega) only [z_lit, z_le, z_lt, z_eq, z_add, z_sub, z_mul, z_ldI, z_ldJ, z_stI, z_stJ, z_stB, z_cl, zpI_1, zpI_2, zpJ_1, zb2_some, zbd_some, zlet_eq, if_pos, if_neg, z_m1, z_m1n, and_self, and_true, true_and, and_false, false_and, if_true, if_false, Nat.add_sub_cancel, eq_self, not_true_eq_false, not_false_eq_true, h1]
  · simp (disch := omega) only [z_lit, z_le, z_lt, z_eq, z_add, z_sub, z_mul, z_ldI, z_ldJ, z_stI, z_stJ, z_stB, z_cl, zpI_1, zpI_2, zpJ_1, zb2_some, zbd_some, zlet_eq, if_pos, if_neg, z_m1, z_m1n, and_self, and_true, true_and, and_false, false_and, if_true, if_false, Nat.add_sub_cancel, eq_self, not_true_eq_false, not_false_eq_true, h1]
theorem p_volunteer {nv j : Nat} {M : zMem} (h0 : nv ≤ 8) (h1 : M.1 22 2 = nI nv) (hj : j < 2147483648) : fX11_volunteer (nI j) M = if j < 4 ∧ nv < 8 then some (nI nv, zpI (zpI M 23 nv (nI j)) 22 2 (nI (nv + 1))) else some (-1, M) := by
  unfold fX11_volunteer fX11_isWithin fX9_addVolunteer
  by_cases c : j < 4
  · by_cases c2 : nv < 8
    · simp (disch := omega) only [z_lit, z_le, z_lt, z_eq, z_add, z_sub, z_mul, z_ldI, z_ldJ, z_stI, z_stJ, z_stB, z_cl, zpI_1, zpI_2, zpJ_1, zb2_some, zbd_some, zlet_eq, if_pos, if_neg, z_m1, z_m1n, and_self, and_true, true_and, and_false, false_and, if_true, if_false, Nat.add_sub_cancel, eq_self, not_true_eq_false, not_false_eq_true, h1]
    · simp (disch := omega) only [z_lit, z_le, z_lt, z_eq, z_add, z_sub, z_mul, z_ldI, z_ldJ, z_stI, z_stJ, z_stB, z_cl, zpI_1, zpI_2, zpJ_1, zb2_some, zbd_some, zlet_eq, if_pos, if_neg, z_m1, z_m1n, and_self, and_true, true_and, and_false, false_and, if_true, if_false, Nat.add_sub_cancel, eq_self, not_true_eq_false, not_false_eq_true, h1]
  · simp (disch := omega) only [z_lit, z_le, z_lt, z_eq, z_add, z_sub, z_mul, z_ldI, z_ldJ, z_stI, z_stJ, z_stB, z_cl, zpI_1, zpI_2, zpJ_1, zb2_some, zbd_some, zlet_eq, if_pos, if_neg, z_m1, z_m1n, and_self, and_true, true_and, and_false, false_and, if_true, if_false, Nat.add_sub_cancel, eq_self, not_true_eq_false, not_false_eq_true, h1]
theorem m_volunteer {nv j : Nat} {M : zMem} (h0 : nv ≤ 8) (h1 : M.1 69 37 = nI nv) (hj : j < 2147483648) : fX12_volunteer (nI j) M = if j < 4 ∧ nv < 8 then some (nI nv, zpI (zpI M 92 nv (nI j)) 69 37 (nI (nv + 1))) else some (-1, M) := by
  unfold fX12_volunteer
  by_cases c : j < 4
  · by_cases c2 : nv < 8
    · simp (disch := omega) only [z_lit, z_le, z_lt, z_eq, z_add, z_sub, z_mul, z_ldI, z_ldJ, z_stI, z_stJ, z_stB, z_cl, zpI_1, zpI_2, zpJ_1, zb2_some, zbd_some, zlet_eq, if_pos, if_neg, z_m1, z_m1n, and_self, and_true, true_and, and_false, false_and, if_true, if_false, Nat.add_sub_cancel, eq_self, not_true_eq_false, not_false_eq_true, h1]
    · simp (disch := omega) only [z_lit, z_le, z_lt, z_eq, z_add, z_sub, z_mul, z_ldI, z_ldJ, z_stI, z_stJ, z_stB, z_cl, zpI_1, zpI_2, zpJ_1, zb2_some, zbd_some, zlet_eq, if_pos, if_neg, z_m1, z_m1n, and_self, and_true, true_and, and_false, false_and, if_true, if_false, Nat.add_sub_cancel, eq_self, not_true_eq_false, not_false_eq_true, h1]
  · by_cases c2 : nv < 8
    · simp (disch := omega) only [z_lit, z_le, z_lt, z_eq, z_add, z_sub, z_mul, z_ldI, z_ldJ, z_stI, z_stJ, z_stB, z_cl, zpI_1, zpI_2, zpJ_1, zb2_some, zbd_some, zlet_eq, if_pos, if_neg, z_m1, z_m1n, and_self, and_true, true_and, and_false, false_and, if_true, if_false, Nat.add_sub_cancel, eq_self, not_true_eq_false, not_false_eq_true, h1]
    · simp (disch := omega) only [z_lit, z_le, z_lt, z_eq, z_add, z_sub, z_mul, z_ldI, z_ldJ, z_stI, z_stJ, z_stB, z_cl, zpI_1, zpI_2, zpJ_1, zb2_some, zbd_some, zlet_eq, if_pos, if_neg, z_m1, z_m1n, and_self, and_true, true_and, and_false, false_and, if_true, if_false, Nat.add_sub_cancel, eq_self, not_true_eq_false, not_false_eq_true, h1]
