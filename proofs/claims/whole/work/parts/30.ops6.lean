/-! see -/
theorem q_see {nv ns c nc nst nn : Nat} {M : zMem} (hT : gTeam nv ns M) (hB : gBars M) (hC : gCalls nv c nc nst M) (hN : gNotes nc nn M) (x1 x2 x3 : Int32) : ∃ r, fX11_see x1 x2 x3 M = some (r, M) ∧ fX12_see x1 x2 x3 M = some (r, M) := by
  obtain ⟨t0, t1, t2, -, -, -, t3, -⟩ := hT
  obtain ⟨h0, -, -, h1, h2, -, h3, h4⟩ := hC
  obtain ⟨n0, n1, n2, n3⟩ := hN
  have hr : ∀ (a b : Option (Int32 × zMem)), (if x2 < 0 then a else if nI nn ≤ x2 then a else b) = if zin x2 nn = true then b else a := fun a b => z_rng x2 (by omega) a b
  unfold fX11_see fX12_see
  rw [p_isVol t0 t1, m_isVol t0 t2]
  simp only [zb2_some, p_isNote n0 n1, p_isNightZ, m_isNightZ, n2, hr]
  by_cases e1 : zin x1 nv = true
  · obtain ⟨v, hv, rfl⟩ := z_zinE (by omega) e1
    simp only [e1, if_true, if_neg (show ¬ (1 : Int32) = 0 by decide)]
    by_cases e2 : zin x2 nn = true
    · obtain ⟨k, hk, rfl⟩ := z_zinE (by omega) e2
      obtain ⟨g1, g2, g3, j, hj, g4⟩ := n3 k hk
      simp only [e2, if_true, if_neg (show ¬ (1 : Int32) = 0 by decide)]
      by_cases e3 : zin x3 200 = true
      · obtain ⟨n, hn, rfl⟩ := z_zinE (by omega) e3
        obtain ⟨i1, i2, i3, i4, i5, i6, i7, i8, i9⟩ := h3 j hj
        obtain ⟨-, -, ⟨w, hw, ew⟩, -⟩ := h4 j hj
        obtain ⟨b, hb, b1, b2⟩ := p_isBarred (k := w) (v := v) (n := n) t0 t1 hB hw hv hn
        have g4' : M.1 131 k = nI j := by rw [← g1]; exact g4
        have ew' : M.1 114 j = nI w := by rw [← i3]; exact ew
        simp only [e3, if_true, if_neg (show ¬ (1 : Int32) = 0 by decide)]
        unfold fX11_maySee
        rw [p_noteNight n0 n1, if_pos e2, zb2_some, z_cl (by omega), z_ldI (by omega) (by omega), zbd_some, ← g3]
        by_cases q1 : M.1 68 k ≤ nI n
        · rw [if_pos q1, if_pos q1, p_noteCall n0 n1, if_pos e2, zb2_some, z_cl (by omega), g4, p_takerOf h0 h1, if_pos (z_zinI (by omega) hj), zb2_some, z_cl (by omega), z_ldI (by omega) (by omega), zbd_some, g4', z_ldI (by omega) (by omega), zbd_some, ← i8]
          by_cases q2 : M.1 55 j = nI v
          · rw [if_pos q2, if_pos q2, zb2_some, if_neg (by decide)]; exact ⟨_, rfl, rfl⟩
          · rw [if_neg q2, if_neg q2, p_rankOf t0 t1, if_pos e1, zb2_some, p_noteRank n0 n1, if_pos e2, zb2_some, z_cl (by omega), z_cl (by omega), z_ldI (by omega) (by omega), zbd_some, z_ldI (by omega) (by omega), zbd_some, ← g2, ← t3 v hv]
            by_cases q3 : M.1 23 v < M.1 67 k
            · rw [if_pos q3, if_pos q3, zb2_some, if_pos rfl]; exact ⟨_, rfl, rfl⟩
            · rw [if_neg q3, if_neg q3, p_callerOf h0 h1, if_pos (z_zinI (by omega) hj), zb2_some, z_cl (by omega), ew, b1, zb2_some, z_ldI (by omega) (by omega), zbd_some, ew', b2, zb2_some]
              rcases hb with rfl | rfl
              · rw [if_pos rfl]; exact ⟨_, rfl, rfl⟩
              · rw [if_neg (by decide)]; exact ⟨_, rfl, rfl⟩
        · rw [if_neg q1, if_neg q1, zb2_some, if_pos rfl]; exact ⟨_, rfl, rfl⟩
      · simp only [e3, if_false]; exact ⟨_, rfl, rfl⟩
    · simp only [e2, if_false]; exact ⟨_, rfl, rfl⟩
  · simp only [e1, if_false]; exact ⟨_, rfl, rfl⟩
