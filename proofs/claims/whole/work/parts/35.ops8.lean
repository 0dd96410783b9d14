/-! there; bits of the hours -/
theorem z_hours (w : Int64) {v : Nat} (hv : v < 8) : ∃ h, h < 64 ∧ ((w.toUInt64 >>> ((nI (v * 6)).toInt64.toUInt64 &&& Int64.toUInt64 63)).toInt64.toInt32 &&& (63 : Int32)) = nI h ∧ ∀ j, j < 6 → h.testBit j = w.toBitVec.getLsbD (6 * v + j) := by
  obtain ⟨n, hn, rfl⟩ := wb_of w
  rw [wb_shr hn (by omega)]
  refine ⟨n / 2 ^ (v * 6) % 64, Nat.mod_lt _ (by decide), ?_, ?_⟩
  · have e : (lN (n / 2 ^ (v * 6))).toInt32 = nI (n / 2 ^ (v * 6)) := by
      apply Int32.toBitVec_inj.1
      rw [Int64.toBitVec_toInt32, wb_tb]
      apply BitVec.eq_of_getLsbD_eq
      intro i hi
      have hi2 : i < 64 := by omega
      show (BitVec.signExtend 32 (BitVec.ofNat 64 _)).getLsbD i = (BitVec.ofNat 32 _).getLsbD i
      rw [BitVec.getLsbD_signExtend, if_pos hi2, BitVec.getLsbD_ofNat, BitVec.getLsbD_ofNat]
      simp [hi, hi2]
    rw [e, show (63 : Int32) = nI (2 ^ 6 - 1) from rfl, fa_mask]
  · intro j hj
    have hj2 : 6 * v + j < 64 := by omega
    rw [wb_tb, show (64 : Nat) = 2 ^ 6 from rfl, Nat.testBit_mod_two_pow]
    rw [Nat.testBit_div_two_pow]
    rw [show j + v * 6 = 6 * v + j by omega, BitVec.getLsbD_ofNat]
    simp [hj, hj2]
theorem z_six {a b : Nat} (ha : a < 64) (hb : b < 64) (h : ∀ j, j < 6 → a.testBit j = b.testBit j) : a = b := by
  apply Nat.eq_of_testBit_eq
  intro i
  rcases Nat.lt_or_ge i 6 with hi | hi
  · exact h i hi
  · have : 2 ^ 6 ≤ 2 ^ i := Nat.pow_le_pow_right (by decide) hi
    rw [Nat.testBit_lt_two_pow (by omega), Nat.testBit_lt_two_pow (by omega)]
theorem p_hoursOf {nv : Nat} {M : zMem} (hP : gPres nv M) {v n : Nat} (hv : v < 8) (hn : n < 200) : fX0_hoursOf (nI v) (nI n) M = some (M.1 106 (8 * n + v), M) := by
  obtain ⟨h, h1, h2, h3, -⟩ := (hP n hn).1 v hv
  obtain ⟨q, q1, q2, q3⟩ := z_hours (M.2.1 31 n) hv
  have e : q = h := z_six q1 h1 (fun j hj => by rw [q3 j hj, h3 j hj])
  subst e
  unfold fX0_hoursOf
  rw [p_isNightZ, if_pos (z_zinI (by omega) hn), zb2_some, if_neg (by decide), if_neg (nI_pos (by omega)), if_neg (by rw [show (8 : Int32) = nI 8 from rfl, z_le (by omega) (by omega)]; omega), z_ldJ (by omega) (by omega), zbd_some, show (6 : Int32) = nI 6 from rfl, z_mul, q2, h2]
theorem q_there {nv ns : Nat} {M : zMem} (hT : gTeam nv ns M) (hP : gPres nv M) (x1 x2 : Int32) : ∃ r, fX11_there x1 x2 M = some (r, M) ∧ fX12_there x1 x2 M = some (r, M) := by
  obtain ⟨t0, t1, t2, -⟩ := hT
  unfold fX11_there fX12_there
  rw [p_isVol t0 t1, m_isVol t0 t2]
  simp only [p_isNightZ, m_isNightZ, zb2_some]
  by_cases e1 : zin x1 nv = true
  · obtain ⟨v, hv, rfl⟩ := z_zinE (by omega) e1
    simp only [e1, if_true, if_neg (show ¬ (1 : Int32) = 0 by decide)]
    by_cases e2 : zin x2 200 = true
    · obtain ⟨n, hn, rfl⟩ := z_zinE (by omega) e2
      simp only [e2, if_true, if_neg (show ¬ (1 : Int32) = 0 by decide)]
      rw [p_hoursOf hP (by omega) hn, zb2_some, show (8 : Int32) = nI 8 from rfl, z_mul, z_add, z_ldI (by omega) (by omega), zbd_some]
      exact ⟨_, rfl, rfl⟩
    · simp only [e2, if_false]; exact ⟨_, rfl, rfl⟩
  · simp only [e1, if_false]; exact ⟨_, rfl, rfl⟩
