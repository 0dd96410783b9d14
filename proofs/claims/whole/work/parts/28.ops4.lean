/-! bar, holiday, told, note, see -/
theorem q_bar {nv ns c : Nat} {M : zMem} (hT : gTeam nv ns M) (hK : gClock c M) (hB : gBars M) (x1 x2 : Int32) : (fX11_bar x1 x2 M = some (0, M) ∧ fX12_bar x1 x2 M = some (0, M)) ∨
    (∃ k v, k < 20 ∧ v < nv ∧ x1 = nI k ∧ x2 = nI v ∧ M.1 28 (k * 8 + v) = -1 ∧ fX11_bar x1 x2 M = some (1, zpI M 28 (k * 8 + v) (nI c)) ∧ ∀ M0 : zMem, M0.1 69 37 = nI nv → M0.1 69 44 = nI c → M0.1 96 (k * 8 + v) = 0 → fX12_bar x1 x2 M0 = some (1, zpI M0 96 (k * 8 + v) (nI (c + 1)))) := by
  obtain ⟨t0, t1, t2, -⟩ := hT
  obtain ⟨c0, c1, c2⟩ := hK
  by_cases e1 : zin x1 20 = true
  · obtain ⟨k, hk, rfl⟩ := z_zinE (by omega) e1
    by_cases e2 : zin x2 nv = true
    · obtain ⟨v, hv, rfl⟩ := z_zinE (by omega) e2
      obtain ⟨b1, b2⟩ := hB (k * 8 + v) (by omega)
      have e3 : 8 * k + v = k * 8 + v := by omega
      rcases b2 with b2 | ⟨n, hn, b2⟩
      · refine Or.inr ⟨k, v, hk, hv, rfl, rfl, b2, ?_, fun M0 m1 m2 m3 => ?_⟩
        · unfold fX11_bar fX9_addBar fX11_isCaller fX9_isVolunteer fX9_barIndex
          simp (disch := omega) only [z_lit, z_le, z_lt, z_eq, z_add, z_sub, z_mul, z_ldI, z_ldJ, z_stI, z_stJ, z_stB, z_cl, zpI_1, zpI_2, zpJ_1, zb2_some, zbd_some, zlet_eq, if_pos, if_neg, z_m1, z_m1n, and_self, and_true, true_and, and_false, false_and, if_true, if_false, Nat.add_sub_cancel, eq_self, not_true_eq_false, not_false_eq_true, t1, b2, c1, zgb, or_true]
        · unfold fX12_bar fX12_isVolunteer
          have m3' : M0.1 96 (k * 8 + v) = nI 0 := m3
          simp (disch := omega) only [z_lit, z_le, z_lt, z_eq, z_add, z_sub, z_mul, z_ldI, z_ldJ, z_stI, z_stJ, z_stB, z_cl, zpI_1, zpI_2, zpJ_1, zb2_some, zbd_some, zlet_eq, if_pos, if_neg, z_m1, z_m1n, and_self, and_true, true_and, and_false, false_and, if_true, if_false, Nat.add_sub_cancel, eq_self, not_true_eq_false, not_false_eq_true, m1, m2, m3', e3]
      · have b3 : M.1 96 (k * 8 + v) = nI (n + 1) := by rw [b1, b2]; exact nI_1 n
        refine Or.inl ⟨?_, ?_⟩
        · unfold fX11_bar fX9_addBar fX11_isCaller fX9_isVolunteer fX9_barIndex
          simp (disch := omega) only [z_lit, z_le, z_lt, z_eq, z_add, z_sub, z_mul, z_ldI, z_ldJ, z_stI, z_stJ, z_stB, z_cl, zpI_1, zpI_2, zpJ_1, zb2_some, zbd_some, zlet_eq, if_pos, if_neg, z_m1, z_m1n, and_self, and_true, true_and, and_false, false_and, if_true, if_false, Nat.add_sub_cancel, eq_self, not_true_eq_false, not_false_eq_true, t1, b2, c1, zgb, true_or]
        · unfold fX12_bar fX12_isVolunteer
          simp (disch := omega) only [z_lit, z_le, z_lt, z_eq, z_add, z_sub, z_mul, z_ldI, z_ldJ, z_stI, z_stJ, z_stB, z_cl, zpI_1, zpI_2, zpJ_1, zb2_some, zbd_some, zlet_eq, if_pos, if_neg, z_m1, z_m1n, and_self, and_true, true_and, and_false, false_and, if_true, if_false, Nat.add_sub_cancel, eq_self, not_true_eq_false, not_false_eq_true, t2, b3, e3]
    · refine Or.inl ⟨?_, ?_⟩
      · unfold fX11_bar fX9_addBar
        rw [p_isCallerZ, if_pos e1, zb2_some, if_neg (by decide), p_isVol t0 t1, if_neg e2]
        rfl
      · unfold fX12_bar
        rw [m_isVol t0 t2, if_neg e2]
        have h0 : ¬ nI k < (0 : Int32) := nI_pos (by omega)
        have h1 : ¬ (19 : Int32) < nI k := by rw [show (19 : Int32) = nI 19 from rfl, z_lt (by omega) (by omega)]; omega
        rw [if_neg h0, if_neg h1]
        rfl
  · refine Or.inl ⟨?_, ?_⟩
    · unfold fX11_bar fX9_addBar
      rw [p_isCallerZ, if_neg e1]
      rfl
    · unfold fX12_bar
      have hr := z_rng2 x1 (n := 19) (by omega) (some ((0 : Int32), M)) (zb2 (fX12_isVolunteer x2 M) fun r3 M2 => if r3 = 0 then some ((0 : Int32), M2) else (zldI M2 96 160 (((8 : Int32) * x1) + x2)).bind fun v4 => if v4 ≤ 0 then (zstI M2 96 160 (((8 : Int32) * x1) + x2) ((M2.1 69 44) + (1 : Int32))).bind fun M5 => some ((1 : Int32), M5) else some ((0 : Int32), M2))
      rw [if_neg e1] at hr
      exact hr
theorem q_holiday {M : zMem} (hC : gCal M) (x : Int32) : (fX11_holiday x M = some (0, M) ∧ fX12_holiday x M = some (0, M)) ∨
    (∃ n, n < 200 ∧ x = nI n ∧ M.1 99 n = 0 ∧ M.1 100 n = 0 ∧ fX11_holiday x M = some (1, zpI M 30 n (M.1 30 n ||| nI 1)) ∧ ∀ M0 : zMem, M0.1 99 n = 0 → M0.1 100 n = 0 → fX12_holiday x M0 = some (1, zpI M0 99 n 1)) := by
  by_cases e1 : zin x 200 = true
  · obtain ⟨n, hn, rfl⟩ := z_zinE (by omega) e1
    obtain ⟨a1, -, a3⟩ := gCal_01 hC hn
    rcases a1 with a1 | a1
    · rcases a3 with a3 | a3
      · refine Or.inr ⟨n, hn, rfl, a1, a3, ?_, fun M0 m1 m2 => ?_⟩
        · unfold fX11_holiday
          rw [p_isNightZ, if_pos e1, zb2_some, if_neg (by decide), p_isHoliday hC hn, zb2_some, a1, if_pos rfl, p_isGone hC hn, zb2_some, a3, if_pos rfl]
          unfold fX0_setHoliday fX0_mark
          rw [p_isNightZ, if_pos e1, zb2_some, if_neg (by decide), z_ldI (by omega) (by omega), zbd_some, z_stI (by omega) (by omega)]
          rfl
        · unfold fX12_holiday
          rw [m_isNightZ, if_pos e1, zb2_some, if_neg (by decide), z_ldI (by omega) (by omega), zbd_some, m1, if_pos rfl, z_ldI (by omega) (by omega), zbd_some, m2, if_pos rfl, z_stZ (by omega) (by omega) (Or.inr rfl)]
          rfl
      · refine Or.inl ⟨?_, ?_⟩
        · unfold fX11_holiday
          rw [p_isNightZ, if_pos e1, zb2_some, if_neg (by decide), p_isHoliday hC hn, zb2_some, a1, if_pos rfl, p_isGone hC hn, zb2_some, a3, if_neg (by decide)]
        · unfold fX12_holiday
          rw [m_isNightZ, if_pos e1, zb2_some, if_neg (by decide), z_ldI (by omega) (by omega), zbd_some, a1, if_pos rfl, z_ldI (by omega) (by omega), zbd_some, a3, if_neg (by decide)]
    · refine Or.inl ⟨?_, ?_⟩
      · unfold fX11_holiday
        rw [p_isNightZ, if_pos e1, zb2_some, if_neg (by decide), p_isHoliday hC hn, zb2_some, a1, if_neg (by decide)]
      · unfold fX12_holiday
        rw [m_isNightZ, if_pos e1, zb2_some, if_neg (by decide), z_ldI (by omega) (by omega), zbd_some, a1, if_neg (by decide)]
  · refine Or.inl ⟨?_, ?_⟩
    · unfold fX11_holiday
      rw [p_isNightZ, if_neg e1, zb2_some, if_pos rfl]
    · unfold fX12_holiday
      rw [m_isNightZ, if_neg e1, zb2_some, if_pos rfl]
theorem q_told {nv c nc nst : Nat} {M : zMem} (hC : gCalls nv c nc nst M) (x1 x2 : Int32) : ∃ r, fX11_told x1 x2 M = some (r, M) ∧ fX12_told x1 x2 M = some (r, M) := by
  obtain ⟨h0, -, -, h1, h2, -, h3, h4⟩ := hC
  unfold fX11_told fX12_told
  rw [p_isCall h0 h1]
  have hr : ∀ (a b : Option (Int32 × zMem)), (if x1 < 0 then a else if x1 < nI nc then b else a) = if zin x1 nc = true then b else a := fun a b => z_rng4 x1 (by omega) a b
  simp only [zb2_some, h2, hr]
  by_cases e1 : zin x1 nc = true
  · obtain ⟨k, hk, rfl⟩ := z_zinE (by omega) e1
    obtain ⟨g1, g2, g3, g4, g5, g6, g7, g8, g9⟩ := h3 k hk
    simp only [e1, if_true, if_neg (show ¬ (1 : Int32) = 0 by decide), p_nightOf h0 h1, p_stateOf h0 h1, p_takerOf h0 h1, p_sinceOf h0 h1, p_callerOf h0 h1, zb2_some, z_ldI (show k < 400 by omega) (show 400 < 2147483648 by omega), zbd_some, z_cl (show k < 2147483648 by omega)]
    unfold fX1_endOf
    simp only [p_isCall h0 h1, e1, if_true, if_neg (show ¬ (1 : Int32) = 0 by decide), zb2_some, z_ldI (show k < 400 by omega) (show 400 < 2147483648 by omega), zbd_some, ← g1, ← g3, ← g6, ← g7, ← g8, ← g9]
    by_cases q0 : x2 = 0
    · simp only [q0, if_true]; exact ⟨_, rfl, rfl⟩
    · by_cases q1 : x2 = 1
      · simp only [q0, q1, if_true, if_false]; exact ⟨_, rfl, rfl⟩
      · by_cases q2 : x2 = 2
        · simp only [q0, q1, q2, if_true, if_false]; exact ⟨_, rfl, rfl⟩
        · by_cases q3 : x2 = 3
          · simp only [q0, q1, q2, q3, if_true, if_false]; exact ⟨_, rfl, rfl⟩
          · by_cases q4 : x2 = 4
            · simp only [q0, q1, q2, q3, q4, if_true, if_false]
              by_cases w : M.1 54 k = 1
              · simp only [w, if_true]; exact ⟨_, rfl, rfl⟩
              · simp only [w, if_false]; exact ⟨_, rfl, rfl⟩
            · by_cases q5 : x2 = 5
              · simp only [q0, q1, q2, q3, q4, q5, if_true, if_false]; exact ⟨_, rfl, rfl⟩
              · simp only [q0, q1, q2, q3, q4, q5, if_false]; exact ⟨_, rfl, rfl⟩
  · simp only [e1, if_false]
    exact ⟨_, rfl, rfl⟩
