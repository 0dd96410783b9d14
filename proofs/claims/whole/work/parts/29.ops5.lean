/-! note, see -/
theorem q_note {nv c nc nst nn : Nat} {M : zMem} (hK : gClock c M) (hC : gCalls nv c nc nst M) (hN : gNotes nc nn M) (x1 x2 : Int32) : (fX11_note x1 x2 M = some (-1, M) ∧ fX12_note x1 x2 M = some (-1, M)) ∨
    (nn < 60 ∧ ∃ k r, k < nc ∧ r < 4 ∧ x1 = nI k ∧ x2 = nI r ∧ M.1 54 k = 1 ∧ fX11_note x1 x2 M = some (nI nn, zpI (zpI (zpI (zpI M 66 nn (nI k)) 67 nn (nI r)) 68 nn (nI c)) 65 3 (nI (nn + 1))) ∧
      ∀ M0 : zMem, M0.1 69 81 = nI nn → M0.1 69 60 = nI nc → M0.1 69 44 = nI c → M0.1 118 k = 1 → fX12_note x1 x2 M0 = some (nI nn, zpI (zpI (zpI (zpI M0 131 nn (nI k)) 132 nn (nI r)) 133 nn (nI c)) 69 81 (nI (nn + 1)))) := by
  obtain ⟨c0, c1, c2⟩ := hK
  obtain ⟨h0, -, -, h1, h2, -, h3, h4⟩ := hC
  obtain ⟨n0, n1, n2, n3⟩ := hN
  have hr2 : ∀ (a b : Option (Int32 × zMem)), (if x2 < 0 then a else if (3 : Int32) < x2 then a else b) = if zin x2 4 = true then b else a := fun a b => z_rng2 x2 (n := 3) (by omega) a b
  have hr1 : ∀ (a b : Option (Int32 × zMem)), (if x1 < 0 then a else if nI nc ≤ x1 then a else b) = if zin x1 nc = true then b else a := fun a b => z_rng x1 (by omega) a b
  by_cases e2 : zin x2 4 = true
  · by_cases e1 : zin x1 nc = true
    · obtain ⟨k, hk, rfl⟩ := z_zinE (by omega) e1
      obtain ⟨r, hr, rfl⟩ := z_zinE (by omega) e2
      by_cases w : M.1 54 k = 1
      · by_cases c6 : nn < 60
        · refine Or.inr ⟨c6, k, r, hk, hr, rfl, rfl, w, ?_, fun M0 m1 m2 m3 m4 => ?_⟩
          · have w' : M.1 54 k = nI 1 := w
            unfold fX11_note fX11_isWithin fX1_stateOf fX1_isCall fX3_add
            simp (disch := omega) only [z_lit, z_le, z_lt, z_eq, z_add, z_sub, z_mul, z_ldI, z_ldJ, z_stI, z_stJ, z_stB, z_cl, zpI_1, zpI_2, zpJ_1, zb2_some, zbd_some, zlet_eq, if_pos, if_neg, z_m1, z_m1n, and_self, and_true, true_and, and_false, false_and, if_true, if_false, Nat.add_sub_cancel, eq_self, not_true_eq_false, not_false_eq_true, h1, n1, w', c1]
          · have m4' : M0.1 118 k = nI 1 := m4
            unfold fX12_note
            simp (disch := omega) only [z_lit, z_le, z_lt, z_eq, z_add, z_sub, z_mul, z_ldI, z_ldJ, z_stI, z_stJ, z_stB, z_cl, zpI_1, zpI_2, zpJ_1, zb2_some, zbd_some, zlet_eq, if_pos, if_neg, z_m1, z_m1n, and_self, and_true, true_and, and_false, false_and, if_true, if_false, Nat.add_sub_cancel, eq_self, not_true_eq_false, not_false_eq_true, m1, m2, m3, m4']
        · have e : nn = 60 := by omega
          subst e
          have w' : M.1 54 k = nI 1 := w
          refine Or.inl ⟨?_, ?_⟩
          · unfold fX11_note fX11_isWithin fX1_stateOf fX1_isCall fX3_add
            simp (disch := omega) only [z_lit, z_le, z_lt, z_eq, z_add, z_sub, z_mul, z_ldI, z_ldJ, z_stI, z_stJ, z_stB, z_cl, zpI_1, zpI_2, zpJ_1, zb2_some, zbd_some, zlet_eq, if_pos, if_neg, z_m1, z_m1n, and_self, and_true, true_and, and_false, false_and, if_true, if_false, Nat.add_sub_cancel, eq_self, not_true_eq_false, not_false_eq_true, h1, n1, w', c1]
          · unfold fX12_note
            simp (disch := omega) only [z_lit, z_le, z_lt, z_eq, z_add, z_sub, z_mul, z_ldI, z_ldJ, z_stI, z_stJ, z_stB, z_cl, zpI_1, zpI_2, zpJ_1, zb2_some, zbd_some, zlet_eq, if_pos, if_neg, z_m1, z_m1n, and_self, and_true, true_and, and_false, false_and, if_true, if_false, Nat.add_sub_cancel, eq_self, not_true_eq_false, not_false_eq_true, n2]
      · refine Or.inl ⟨?_, ?_⟩
        · unfold fX11_note
          rw [show (3 : Int32) = nI 3 from rfl, p_within0 _ (by omega), if_pos e2, zb2_some, if_neg (by decide), p_stateOf h0 h1, if_pos e1, zb2_some, z_cl (by omega), if_neg w]
        · unfold fX12_note
          rw [h2, hr2, if_pos e2, hr1, if_pos e1, z_ldI (by omega) (by omega), zbd_some, ← (h3 k hk).2.2.2.2.2.2.1, if_neg w]
          split <;> rfl
    · refine Or.inl ⟨?_, ?_⟩
      · unfold fX11_note
        rw [show (3 : Int32) = nI 3 from rfl, p_within0 _ (by omega), if_pos e2, zb2_some, if_neg (by decide), p_stateOf h0 h1, if_neg e1, zb2_some, if_neg (by decide)]
      · unfold fX12_note
        rw [h2, hr2, if_pos e2, hr1, if_neg e1]
        split <;> rfl
  · refine Or.inl ⟨?_, ?_⟩
    · unfold fX11_note
      rw [show (3 : Int32) = nI 3 from rfl, p_within0 _ (by omega), if_neg e2, zb2_some, if_pos rfl]
    · unfold fX12_note
      rw [hr2, if_neg e2]
      split <;> rfl
