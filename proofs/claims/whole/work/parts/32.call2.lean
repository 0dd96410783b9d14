/-! call, the class's side; arguments that are not sound -/
theorem p_call {nv c nc nst a b d e f : Nat} {M : zMem} (hK : gClock c M) (hL : gCal M) (hC : gCalls nv c nc nst M) (ha : a < 360) (hb : b < 20) (hd : d < 10) (he : e < 8) (hf1 : 1 ≤ f) (hf : f ≤ 90) :
    fX11_call (nI a) (nI b) (nI d) (nI e) (nI f) M = if nc < 400 ∧ nc < nst + 40 ∧ M.1 100 c = 0 then some (nI nc, zpI (zpI (zpI (zpI (zpI (zpI (zpI (zpI (zpI (zpI M 48 nc (nI c)) 49 nc (nI a)) 50 nc (nI b)) 51 nc (nI d)) 52 nc (nI e)) 53 nc (nI f)) 54 nc 0) 55 nc (-1)) 56 nc (-1)) 47 9 (nI (nc + 1))) else some (-1, M) := by
  obtain ⟨c0, c1, c2⟩ := hK
  obtain ⟨h0, hns, hns2, h1, h2, h3, -⟩ := hC
  unfold fX11_call fX11_call_L54 fX11_call_L55 fX11_isWithin fX11_isCaller
  have hg := p_isGone hL c0
  rcases (gCal_01 hL c0).2.2 with g | g
  · have g' : M.1 100 c = nI 0 := g
    by_cases c4 : nc < 400
    · by_cases c5 : nc < nst + 40
      · simp (disch := omega) only [z_lit, z_le, z_lt, z_eq, z_add, z_sub, z_mul, z_ldI, z_ldJ, z_stI, z_stJ, z_stB, z_cl, zpI_1, zpI_2, zpJ_1, zb2_some, zbd_some, zlet_eq, if_pos, if_neg, z_m1, z_m1n, and_self, and_true, true_and, and_false, false_and, if_true, if_false, Nat.add_sub_cancel, eq_self, not_true_eq_false, not_false_eq_true, c1, hg, g', fX1_add, h1, h3]
      · simp (disch := omega) only [z_lit, z_le, z_lt, z_eq, z_add, z_sub, z_mul, z_ldI, z_ldJ, z_stI, z_stJ, z_stB, z_cl, zpI_1, zpI_2, zpJ_1, zb2_some, zbd_some, zlet_eq, if_pos, if_neg, z_m1, z_m1n, and_self, and_true, true_and, and_false, false_and, if_true, if_false, Nat.add_sub_cancel, eq_self, not_true_eq_false, not_false_eq_true, c1, hg, g', fX1_add, h1, h3]
    · simp (disch := omega) only [z_lit, z_le, z_lt, z_eq, z_add, z_sub, z_mul, z_ldI, z_ldJ, z_stI, z_stJ, z_stB, z_cl, zpI_1, zpI_2, zpJ_1, zb2_some, zbd_some, zlet_eq, if_pos, if_neg, z_m1, z_m1n, and_self, and_true, true_and, and_false, false_and, if_true, if_false, Nat.add_sub_cancel, eq_self, not_true_eq_false, not_false_eq_true, c1, hg, g', fX1_add, h1, h3]
  · have g' : M.1 100 c = nI 1 := g
    simp (disch := omega) only [z_lit, z_le, z_lt, z_eq, z_add, z_sub, z_mul, z_ldI, z_ldJ, z_stI, z_stJ, z_stB, z_cl, zpI_1, zpI_2, zpJ_1, zb2_some, zbd_some, zlet_eq, if_pos, if_neg, z_m1, z_m1n, and_self, and_true, true_and, and_false, false_and, if_true, if_false, Nat.add_sub_cancel, eq_self, not_true_eq_false, not_false_eq_true, c1, hg, g', h1]
