/-! call -/
theorem m_callL86 {c nc nst : Nat} {M : zMem} (hc : c < 200) (h0 : nc ≤ 400) (hns : nst ≤ nc) (hK : M.1 69 44 = nI c) (h2 : M.1 69 60 = nI nc) (h4 : ∀ k, k < nc → ∃ n, n < 200 ∧ (k < nst → n < c) ∧ (nst ≤ k → n = c) ∧ M.1 112 k = nI n) {x1 x2 x3 x4 x5 : Int32} {N : Nat} : ∀ d i n, i + d = nc → d < n → fX12_call_L86 N n x1 x2 x3 x4 x5 (nI (i - nst)) (nI i) M = fX12_call_L86 N 1 x1 x2 x3 x4 x5 (nI (nc - nst)) (nI nc) M
  | 0, i, n + 1, h, _ => by
    have e : i = nc := by omega
    subst e
    have hle : nI i ≤ nI i := by rw [z_le (by omega) (by omega)]; omega
    rw [fX12_call_L86, fX12_call_L86, h2, if_pos hle, if_pos hle]
  | d + 1, i, n + 1, h, hn => by
    have ih := m_callL86 hc h0 hns hK h2 h4 (x1 := x1) (x2 := x2) (x3 := x3) (x4 := x4) (x5 := x5) (N := N) d (i + 1) n (by omega) (by omega)
    obtain ⟨m, m1, m2, m3, em'⟩ := h4 i (by omega)
    have hi : ¬ nI nc ≤ nI i := by rw [z_le (by omega) (by omega)]; omega
    rw [fX12_call_L86, h2, if_neg hi, z_ldI (by omega) (by omega), zbd_some, em', hK]
    unfold fX12_call_L112
    by_cases q : i < nst
    · have hne : ¬ nI m = nI c := by rw [z_eq (by omega) (by omega)]; have := m2 q; omega
      rw [if_neg hne, zlet_eq, nI_1, ← ih, show i + 1 - nst = i - nst by omega]
    · have hme := m3 (by omega)
      subst hme
      rw [if_pos rfl, zlet_eq, zlet_eq, nI_1, nI_1, ← ih, show i - nst + 1 = i + 1 - nst by omega]
/-- the reference's call, of sound arguments -/
theorem m_call {c nc nst a b d e f : Nat} {M : zMem} (hc : c < 200) (h0 : nc ≤ 400) (hns : nst ≤ nc) (hns2 : nc ≤ nst + 40) (hK : M.1 69 44 = nI c) (h2 : M.1 69 60 = nI nc) (h4 : ∀ k, k < nc → ∃ n, n < 200 ∧ (k < nst → n < c) ∧ (nst ≤ k → n = c) ∧ M.1 112 k = nI n) (hg : M.1 100 c = 0 ∨ M.1 100 c = 1) (ha : a < 360) (hb : b < 20) (hd : d < 10) (he : e < 8) (hf1 : 1 ≤ f) (hf : f ≤ 90) {N : Nat} (hN : 400 < N) :
    fX12_call N (nI a) (nI b) (nI d) (nI e) (nI f) M = if nc < 400 ∧ nc < nst + 40 ∧ M.1 100 c = 0 then some (nI nc, zpI (zpI (zpI (zpI (zpI (zpI (zpI (zpI (zpI (zpI M 112 nc (nI c)) 113 nc (nI a)) 114 nc (nI b)) 115 nc (nI d)) 116 nc (nI e)) 117 nc (nI f)) 118 nc 0) 119 nc (-1)) 120 nc (-1)) 69 60 (nI (nc + 1))) else some (-1, M) := by
  unfold fX12_call
  by_cases c4 : nc < 400
  · rcases hg with hg | hg
    · have hg' : M.1 100 c = nI 0 := hg
      have hL := m_callL86 hc h0 hns hK h2 h4 (x1 := nI a) (x2 := nI b) (x3 := nI d) (x4 := nI e) (x5 := nI f) (N := N) nc 0 N (by omega) (by omega)
      rw [Nat.zero_sub] at hL
      by_cases c5 : nc < nst + 40
      · simp (disch := omega) only [z_lit, z_le, z_lt, z_eq, z_add, z_sub, z_mul, z_ldI, z_ldJ, z_stI, z_stJ, z_stB, z_cl, zpI_1, zpI_2, zpJ_1, zb2_some, zbd_some, zlet_eq, if_pos, if_neg, z_m1, z_m1n, and_self, and_true, true_and, and_false, false_and, if_true, if_false, Nat.add_sub_cancel, eq_self, not_true_eq_false, not_false_eq_true, h2, hK, hg', hL, fX12_call_L86]
      · simp (disch := omega) only [z_lit, z_le, z_lt, z_eq, z_add, z_sub, z_mul, z_ldI, z_ldJ, z_stI, z_stJ, z_stB, z_cl, zpI_1, zpI_2, zpJ_1, zb2_some, zbd_some, zlet_eq, if_pos, if_neg, z_m1, z_m1n, and_self, and_true, true_and, and_false, false_and, if_true, if_false, Nat.add_sub_cancel, eq_self, not_true_eq_false, not_false_eq_true, h2, hK, hg', hL, fX12_call_L86]
    · have hg' : M.1 100 c = nI 1 := hg
      simp (disch := omega) only [z_lit, z_le, z_lt, z_eq, z_add, z_sub, z_mul, z_ldI, z_ldJ, z_stI, z_stJ, z_stB, z_cl, zpI_1, zpI_2, zpJ_1, zb2_some, zbd_some, zlet_eq, if_pos, if_neg, z_m1, z_m1n, and_self, and_true, true_and, and_false, false_and, if_true, if_false, Nat.add_sub_cancel, eq_self, not_true_eq_false, not_false_eq_true, h2, hK, hg']
  · have e4 : nc = 400 := by omega
    subst e4
    simp (disch := omega) only [z_lit, z_le, z_lt, z_eq, z_add, z_sub, z_mul, z_ldI, z_ldJ, z_stI, z_stJ, z_stB, z_cl, zpI_1, zpI_2, zpJ_1, zb2_some, zbd_some, zlet_eq, if_pos, if_neg, z_m1, z_m1n, and_self, and_true, true_and, and_false, false_and, if_true, if_false, Nat.add_sub_cancel, eq_self, not_true_eq_false, not_false_eq_true, h2, Nat.lt_irrefl]
