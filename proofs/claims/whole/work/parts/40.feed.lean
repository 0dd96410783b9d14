/-! feed -/
theorem z_byte (x : Int32) {s : Nat} (hs : s ≤ 24) (a : UInt32) (b : Int32) (ha : a.toBitVec = BitVec.ofNat 32 s) (hb : b.toBitVec.smod 32 = BitVec.ofNat 32 s) : (x.toUInt32 >>> a).toInt32.toInt8 = (x >>> b).toInt8 := by
  apply Int8.toBitVec_inj.mp
  rw [Int32.toBitVec_toInt8, Int32.toBitVec_toInt8, Int32.toBitVec_shiftRight, hb]
  apply BitVec.eq_of_getLsbD_eq
  intro i hi
  rw [BitVec.getLsbD_signExtend, BitVec.getLsbD_signExtend]
  have h1 : (x.toUInt32 >>> a).toInt32.toBitVec = x.toBitVec >>> s := by
    show (x.toUInt32 >>> a).toBitVec = _
    rw [UInt32.toBitVec_shiftRight, ha]
    show x.toBitVec >>> (BitVec.ofNat 32 s % 32#32) = _
    apply BitVec.eq_of_toNat_eq
    simp [BitVec.toNat_ushiftRight, Nat.mod_eq_of_lt (show s < 4294967296 by omega), Nat.mod_eq_of_lt (show s < 32 by omega)]
  have h2 : x.toBitVec.sshiftRight' (BitVec.ofNat 32 s) = x.toBitVec.sshiftRight s := by
    show x.toBitVec.sshiftRight (BitVec.ofNat 32 s).toNat = _
    rw [BitVec.toNat_ofNat, Nat.mod_eq_of_lt (by omega)]
  rw [h1, h2, BitVec.getLsbD_ushiftRight, BitVec.getLsbD_sshiftRight]
  have h3 : i < 32 := by omega
  have h4 : s + i < 32 := by omega
  simp [h3, h4, hi]
theorem p_appS {t n : Nat} {M : zMem} (ht : t < 2000) (h : M.1 1 1 = nI t) (x s s' : Int32) (y : Int8) {N : Nat} (hs : ¬ s < 0) (e : s + (-8) = s') (hy : (x.toUInt32 >>> (s.toUInt32 &&& Int32.toUInt32 31)).toInt32.toInt8 = y) : fX8_append_L3 N (n + 1) x s M = fX8_append_L3 N n x s' (zpI (zpI M 2 t y.toInt32) 1 1 (nI (t + 1))) := by
  rw [fX8_append_L3, if_neg hs, h, if_neg (by rw [show (2000 : Int32) = nI 2000 from rfl, z_le (by omega) (by omega)]; omega), z_stB (by omega) (by omega), zbd_some, zlet_eq]
  unfold fX8_append_L40
  rw [zlet_eq, e, hy, Int8.toInt8_toInt32, zpI_1, if_neg (by omega), h, nI_1]
theorem m_putS {t n : Nat} {M : zMem} (ht : t < 2000) (h : M.1 69 2 = nI t) (x s s' : Int32) (y : Int8) {N : Nat} (hs : ¬ s < 0) (e : s + (-8) = s') (hy : (x >>> (s &&& 31)).toInt8 = y) : fX12_put_L3 N (n + 1) x s M = fX12_put_L3 N n x s' (zpI (zpI M 70 t y.toInt32) 69 2 (nI (t + 1))) := by
  rw [fX12_put_L3, if_neg hs, h, z_stB (by omega) (by omega), zbd_some, zlet_eq, zlet_eq, e, hy, Int8.toInt8_toInt32, zpI_1, if_neg (by omega), h, nI_1]
def zby (x : Int32) (j : Nat) : Int32 := if j = 0 then (x >>> ((24 : Int32) &&& 31)).toInt8.toInt32 else if j = 1 then (x >>> ((16 : Int32) &&& 31)).toInt8.toInt32 else if j = 2 then (x >>> ((8 : Int32) &&& 31)).toInt8.toInt32 else (x >>> ((0 : Int32) &&& 31)).toInt8.toInt32
theorem z_four (M : zMem) (p q o t : Nat) (hpq : p ≠ q) (y0 y1 y2 y3 : Int32) (f : Nat → Int32) (h0 : f 0 = y0) (h1 : f 1 = y1) (h2 : f 2 = y2) (h3 : f 3 = y3) (M1 : zMem) (hM : M1 = zpI (zpI (zpI (zpI (zpI (zpI (zpI (zpI M p t y0) q o (nI (t + 1))) p (t + 1) y1) q o (nI (t + 2))) p (t + 2) y2) q o (nI (t + 3))) p (t + 3) y3) q o (nI (t + 4))) :
    M1.2 = M.2 ∧ (∀ a j, a ≠ p → (a ≠ q ∨ j ≠ o) → M1.1 a j = M.1 a j) ∧ M1.1 q o = nI (t + 4) ∧ ∀ k, M1.1 p k = if t ≤ k ∧ k < t + 4 then f (k - t) else M.1 p k := by
  subst hM
  refine ⟨rfl, ?_, ?_, ?_⟩
  · intro a j h1 h2
    simp only [zpI_1]
    have h3 : ¬ (a = q ∧ j = o) := by omega
    have h4 : ∀ i, ¬ (a = p ∧ j = i) := fun i q => h1 q.1
    simp [h3, h4]
  · simp [zpI_1]
  · intro k
    simp only [zpI_1]
    have h4 : ∀ i, ¬ (p = q ∧ k = i) := fun i q => hpq q.1
    by_cases c : t ≤ k ∧ k < t + 4
    · rw [if_pos c]
      rcases (show k = t ∨ k = t + 1 ∨ k = t + 2 ∨ k = t + 3 by omega) with rfl | rfl | rfl | rfl
      · simp [h4, h0]
      · simp [h4, h1, show t + 1 - t = 1 by omega]
      · simp [h4, h2, show t + 2 - t = 2 by omega]
      · simp [h4, h3, show t + 3 - t = 3 by omega]
    · rw [if_neg c]
      have g0 : ¬ k = t := by omega
      have g1 : ¬ k = t + 1 := by omega
      have g2 : ¬ k = t + 2 := by omega
      have g3 : ¬ k = t + 3 := by omega
      simp [h4, g0, g1, g2, g3]
theorem p_append {t : Nat} {M : zMem} (ht : t + 4 ≤ 2000) (h : M.1 1 1 = nI t) (x : Int32) {N : Nat} (hN : 10 < N) : ∃ M1, fX8_append N x M = some M1 ∧ M1.2 = M.2 ∧ (∀ a j, a ≠ 2 → (a ≠ 1 ∨ j ≠ 1) → M1.1 a j = M.1 a j) ∧ M1.1 1 1 = nI (t + 4) ∧ ∀ k, M1.1 2 k = if t ≤ k ∧ k < t + 4 then zby x (k - t) else M.1 2 k := by
  obtain ⟨N', rfl⟩ : ∃ N', N = N' + 1 + 1 + 1 + 1 + 1 := ⟨N - 5, by omega⟩
  refine ⟨_, ?_, z_four M 2 1 1 t (by decide) (zby x 0) (zby x 1) (zby x 2) (zby x 3) (zby x) rfl rfl rfl rfl _ rfl⟩
  unfold fX8_append
  rw [p_appS (by omega) h x 24 16 _ (by decide) (by decide) (z_byte x (s := 24) (by omega) _ ((24 : Int32) &&& 31) (by decide) (by decide)),
    p_appS (t := t + 1) (by omega) (by simp [zpI_1]) x 16 8 _ (by decide) (by decide) (z_byte x (s := 16) (by omega) _ ((16 : Int32) &&& 31) (by decide) (by decide)),
    p_appS (t := t + 2) (by omega) (by simp [zpI_1]) x 8 0 _ (by decide) (by decide) (z_byte x (s := 8) (by omega) _ ((8 : Int32) &&& 31) (by decide) (by decide)),
    p_appS (t := t + 3) (by omega) (by simp [zpI_1]) x 0 (-8) _ (by decide) (by decide) (z_byte x (s := 0) (by omega) _ ((0 : Int32) &&& 31) (by decide) (by decide))]
  rw [fX8_append_L3, if_pos (by decide)]
  rfl
theorem m_put {t : Nat} {M : zMem} (ht : t + 4 ≤ 2000) (h : M.1 69 2 = nI t) (x : Int32) {N : Nat} (hN : 10 < N) : ∃ M1, fX12_put N x M = some M1 ∧ M1.2 = M.2 ∧ (∀ a j, a ≠ 70 → (a ≠ 69 ∨ j ≠ 2) → M1.1 a j = M.1 a j) ∧ M1.1 69 2 = nI (t + 4) ∧ ∀ k, M1.1 70 k = if t ≤ k ∧ k < t + 4 then zby x (k - t) else M.1 70 k := by
  obtain ⟨N', rfl⟩ : ∃ N', N = N' + 1 + 1 + 1 + 1 + 1 := ⟨N - 5, by omega⟩
  refine ⟨_, ?_, z_four M 70 69 2 t (by decide) (zby x 0) (zby x 1) (zby x 2) (zby x 3) (zby x) rfl rfl rfl rfl _ rfl⟩
  unfold fX12_put
  rw [m_putS (by omega) h x 24 16 _ (by decide) (by decide) rfl,
    m_putS (t := t + 1) (by omega) (by simp [zpI_1]) x 16 8 _ (by decide) (by decide) rfl,
    m_putS (t := t + 2) (by omega) (by simp [zpI_1]) x 8 0 _ (by decide) (by decide) rfl,
    m_putS (t := t + 3) (by omega) (by simp [zpI_1]) x 0 (-8) _ (by decide) (by decide) rfl]
  rw [fX12_put_L3, if_pos (by decide)]
  rfl
theorem z_tape4 {t : Nat} {A B A1 B1 : zMem} (x : Int32) (h : ∀ k, k < t → A.1 2 k = B.1 70 k) (h1 : ∀ k, A1.1 2 k = if t ≤ k ∧ k < t + 4 then zby x (k - t) else A.1 2 k) (h2 : ∀ k, B1.1 70 k = if t ≤ k ∧ k < t + 4 then zby x (k - t) else B.1 70 k) : ∀ k, k < t + 4 → A1.1 2 k = B1.1 70 k := by
  intro k hk
  rw [h1, h2]
  by_cases c : t ≤ k ∧ k < t + 4
  · rw [if_pos c, if_pos c]
  · rw [if_neg c, if_neg c, h k (by omega)]
theorem q_feed {tl : Nat} {M : zMem} (hT : gTape tl M) (x1 x2 x3 x4 x5 : Int32) {N : Nat} (hN : 10 < N) : (fX11_feed N x1 x2 x3 x4 x5 M = some (-1, M) ∧ fX12_feed N x1 x2 x3 x4 x5 M = some (-1, M)) ∨
    (tl + 20 ≤ 2000 ∧ ∃ A B, fX11_feed N x1 x2 x3 x4 x5 M = some (nI (tl + 20), A) ∧ fX12_feed N x1 x2 x3 x4 x5 M = some (nI (tl + 20), B) ∧ A.2 = M.2 ∧ B.2 = M.2 ∧ (∀ a j, a ≠ 2 → (a ≠ 1 ∨ j ≠ 1) → A.1 a j = M.1 a j) ∧ (∀ a j, a ≠ 70 → (a ≠ 69 ∨ j ≠ 2) → B.1 a j = M.1 a j) ∧ A.1 1 1 = nI (tl + 20) ∧ B.1 69 2 = nI (tl + 20) ∧ ∀ k, k < tl + 20 → A.1 2 k = B.1 70 k) := by
  obtain ⟨h0, h1, h2, h3⟩ := hT
  unfold fX11_feed fX12_feed fX8_hasRoomFor fX8_length
  by_cases c : tl + 20 ≤ 2000
  · obtain ⟨A1, a1, a2, a3, a4, a5⟩ := p_append (t := tl) (by omega) h1 x1 hN
    obtain ⟨A2, b1, b2, b3, b4, b5⟩ := p_append (t := tl + 4) (by omega) a4 x2 hN
    obtain ⟨A3, c1, c2, c3, c4, c5⟩ := p_append (t := tl + 8) (by omega) b4 x3 hN
    obtain ⟨A4, d1, d2, d3, d4, d5⟩ := p_append (t := tl + 12) (by omega) c4 x4 hN
    obtain ⟨A5, e1, e2, e3, e4, e5⟩ := p_append (t := tl + 16) (by omega) d4 x5 hN
    obtain ⟨B1, a1', a2', a3', a4', a5'⟩ := m_put (t := tl) (by omega) h2 x1 hN
    obtain ⟨B2, b1', b2', b3', b4', b5'⟩ := m_put (t := tl + 4) (by omega) a4' x2 hN
    obtain ⟨B3, c1', c2', c3', c4', c5'⟩ := m_put (t := tl + 8) (by omega) b4' x3 hN
    obtain ⟨B4, d1', d2', d3', d4', d5'⟩ := m_put (t := tl + 12) (by omega) c4' x4 hN
    obtain ⟨B5, e1', e2', e3', e4', e5'⟩ := m_put (t := tl + 16) (by omega) d4' x5 hN
    refine Or.inr ⟨c, A5, B5, ?_, ?_, by rw [e2, d2, c2, b2, a2], by rw [e2', d2', c2', b2', a2'], ?_, ?_, e4, e4', ?_⟩
    · rw [h1, show (2000 : Int32) = nI 2000 from rfl, show (20 : Int32) = nI 20 from rfl, z_add, if_neg (by rw [z_lt (by omega) (by omega)]; omega), zb2_some, if_neg (by decide), a1, zbd_some, b1, zbd_some, c1, zbd_some, d1, zbd_some, e1, zbd_some, zb2_some, e4]
    · rw [h2, show (2000 : Int32) = nI 2000 from rfl, show (20 : Int32) = nI 20 from rfl, z_add, if_pos (by rw [z_le (by omega) (by omega)]; omega), a1', zbd_some, b1', zbd_some, c1', zbd_some, d1', zbd_some, e1', zbd_some, e4']
    · intro a j q1 q2
      rw [e3 a j q1 q2, d3 a j q1 q2, c3 a j q1 q2, b3 a j q1 q2, a3 a j q1 q2]
    · intro a j q1 q2
      rw [e3' a j q1 q2, d3' a j q1 q2, c3' a j q1 q2, b3' a j q1 q2, a3' a j q1 q2]
    · exact z_tape4 x5 (z_tape4 x4 (z_tape4 x3 (z_tape4 x2 (z_tape4 x1 h3 a5 a5') b5 b5') c5 c5') d5 d5') e5 e5'
  · refine Or.inl ⟨?_, ?_⟩
    · rw [h1, show (2000 : Int32) = nI 2000 from rfl, show (20 : Int32) = nI 20 from rfl, z_add, if_pos (by rw [z_lt (by omega) (by omega)]; omega), zb2_some, if_pos rfl]
    · rw [h2, show (2000 : Int32) = nI 2000 from rfl, show (20 : Int32) = nI 20 from rfl, z_add, if_neg (by rw [z_le (by omega) (by omega)]; omega)]
