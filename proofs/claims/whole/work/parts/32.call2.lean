/-! call, the class's side -/
theorem p_add {nc nst : Nat} {M : zMem} (h0 : nc ≤ 400) (hns : nst ≤ nc) (h1 : M.1 47 9 = nI nc) (h3 : M.1 47 10 = nI nst) (x1 x2 x3 x4 x5 x6 : Int32) :
    fX1_add x1 x2 x3 x4 x5 x6 M = if nc < 400 ∧ nc < nst + 40 then some (nI nc, zpI (zpI (zpI (zpI (zpI (zpI (zpI (zpI (zpI (zpI M 48 nc x1) 49 nc x2) 50 nc x3) 51 nc x4) 52 nc x5) 53 nc x6) 54 nc 0) 55 nc (-1)) 56 nc (-1)) 47 9 (nI (nc + 1))) else some (-1, M) := by
  unfold fX1_add
  by_cases c4 : nc < 400
  · by_cases c5 : nc < nst + 40
    · simp (disch := omega) only [z_lit, z_le, z_lt, z_eq, z_add, z_sub, z_mul, z_ldI, z_ldJ, z_stI, z_stJ, z_stB, z_cl, zpI_1, zpI_2, zpJ_1, zb2_some, zbd_some, zlet_eq, if_pos, if_neg, z_m1, z_m1n, and_self, and_true, true_and, and_false, false_and, if_true, if_false, Nat.add_sub_cancel, eq_self, not_true_eq_false, not_false_eq_true, h1, h3]
    · simp (disch := omega) only [z_lit, z_le, z_lt, z_eq, z_add, z_sub, z_mul, z_ldI, z_ldJ, z_stI, z_stJ, z_stB, z_cl, zpI_1, zpI_2, zpJ_1, zb2_some, zbd_some, zlet_eq, if_pos, if_neg, z_m1, z_m1n, and_self, and_true, true_and, and_false, false_and, if_true, if_false, Nat.add_sub_cancel, eq_self, not_true_eq_false, not_false_eq_true, h1, h3]
  · simp (disch := omega) only [z_lit, z_le, z_lt, z_eq, z_add, z_sub, z_mul, z_ldI, z_ldJ, z_stI, z_stJ, z_stB, z_cl, zpI_1, zpI_2, zpJ_1, zb2_some, zbd_some, zlet_eq, if_pos, if_neg, z_m1, z_m1n, and_self, and_true, true_and, and_false, false_and, if_true, if_false, Nat.add_sub_cancel, eq_self, not_true_eq_false, not_false_eq_true, h1, h3]
theorem p_call {nv c nc nst a b d e f : Nat} {M : zMem} (hK : gClock c M) (hL : gCal M) (hC : gCalls nv c nc nst M) (ha : a < 360) (hb : b < 20) (hd : d < 10) (he : e < 8) (hf1 : 1 ≤ f) (hf : f ≤ 90) :
    fX11_call (nI a) (nI b) (nI d) (nI e) (nI f) M = if M.1 100 c = 0 then fX1_add (nI c) (nI a) (nI b) (nI d) (nI e) (nI f) M else some (-1, M) := by
  obtain ⟨c0, c1, c2⟩ := hK
  have hg := p_isGone hL c0
  have hz : fX11_isWithin (nI f) 1 90 M = some (1, M) := by
    unfold fX11_isWithin
    simp (disch := omega) only [z_lit, z_le, z_lt, z_eq, z_add, z_sub, z_mul, z_ldI, z_ldJ, z_stI, z_stJ, z_stB, z_cl, zpI_1, zpI_2, zpJ_1, zb2_some, zbd_some, zlet_eq, if_pos, if_neg, z_m1, z_m1n, and_self, and_true, true_and, and_false, false_and, if_true, if_false, Nat.add_sub_cancel, eq_self, not_true_eq_false, not_false_eq_true]
  have y1 : zin (nI a) (359 + 1) = true := z_zinI (by omega) (by omega)
  have y2 : zin (nI b) 20 = true := z_zinI (by omega) hb
  have y3 : zin (nI d) (9 + 1) = true := z_zinI (by omega) (by omega)
  have y4 : zin (nI e) (7 + 1) = true := z_zinI (by omega) (by omega)
  unfold fX11_call
  rw [show (359 : Int32) = nI 359 from rfl, p_within0 _ (by omega), if_pos y1, zb2_some, if_neg (by decide), p_isCallerZ, if_pos y2, zb2_some, if_neg (by decide), show (9 : Int32) = nI 9 from rfl, p_within0 _ (by omega), if_pos y3, zb2_some, if_neg (by decide), show (7 : Int32) = nI 7 from rfl, p_within0 _ (by omega), if_pos y4, zb2_some, if_neg (by decide), hz, zb2_some, if_neg (by decide)]
  unfold fX11_call_L55
  rw [if_neg (by decide), c1, hg, zb2_some, c1]
  by_cases g : M.1 100 c = 0
  · rw [if_pos g, if_pos g]
    generalize fX1_add (nI c) (nI a) (nI b) (nI d) (nI e) (nI f) M = o
    cases o <;> rfl
  · rw [if_neg g, if_neg g]
