/-! GO: how the night begins -/
def zkc (M : zMem) (j i : Nat) : Nat := zcnt (fun k => (M.1 54 k == 1) && (M.1 50 k == nI j)) i
section GO
variable {tl nv ns c no nc nst nn r0 lv nr cs : Nat} {M : zMem} {R : Nat → Nat × Nat × List (Nat × Nat) × List (Nat × List (Nat × Nat) × List (Nat × Nat))} {N : Nat}
theorem p_beg73 (hC : gCalls nv c nc nst M) : ∀ d i f (A : zMem), i + d = nst → d < f → zGA M c r0 A → (∀ k, k < nc → A.1 54 k = M.1 54 k) → (∀ j, j < 20 → A.1 61 j = nI (zkc M j i)) → ∃ W, fX2_begin_L73 N f (nI i) A = some W ∧ zGA M c r0 W ∧ zbut 61 A W ∧ ∀ j, j < 20 → W.1 61 j = nI (zkc M j nst)
  | 0, i, f + 1, A, hi, hf, h, h54, h61 => by
    have n4 := hC.1
    have nst4 := hC.2.1
    have e : i = nst := by omega
    subst e
    refine ⟨A, ?_, h, zbut_r 61 A, h61⟩
    rw [fX2_begin_L73]
    unfold fX1_nightStart
    rw [zb2_some, show A.1 47 10 = nI i by rw [h.2.2.1 47 (by omega) (by omega) (by omega) (by omega)]; exact hC.2.2.2.2.2.1, if_pos (by rw [z_le (by omega) (by omega)]; omega)]
  | d + 1, i, f + 1, A, hi, hf, h, h54, h61 => by
    have n4 := hC.1
    have nst4 := hC.2.1
    have e9 : A.1 47 9 = nI nc := by rw [h.2.2.1 47 (by omega) (by omega) (by omega) (by omega)]; exact hC.2.2.2.1
    obtain ⟨-, -, ⟨w1, hw1, ew1⟩, -⟩ := hC.2.2.2.2.2.2.2 i (by omega)
    have e50 : A.1 50 i = nI w1 := by rw [h.2.2.1 50 (by omega) (by omega) (by omega) (by omega)]; exact ew1
    have zk : zin (nI i) nc = true := z_zinI (by omega) (by omega)
    have hkc : ∀ j, zkc M j (i + 1) = zkc M j i + (if ((M.1 54 i == 1) && (M.1 50 i == nI j)) = true then 1 else 0) := fun j => rfl
    rw [fX2_begin_L73]
    unfold fX1_nightStart fX2_begin_L125
    rw [zb2_some, show A.1 47 10 = nI nst by rw [h.2.2.1 47 (by omega) (by omega) (by omega) (by omega)]; exact hC.2.2.2.2.2.1, if_neg (by rw [z_le (by omega) (by omega)]; omega), p_callerOf n4 e9, if_pos zk, zb2_some, p_stateOf n4 e9, if_pos zk, zb2_some, z_cl (by omega), e50, h54 i (by omega)]
    simp only [zlet_eq, nI_1]
    by_cases q : M.1 54 i = 1
    · rw [if_pos q, p_isCallerZ, if_pos (z_zinI (by omega) hw1), zb2_some, if_neg (by decide), z_ldI (by omega) (by omega), zbd_some, z_stI (by omega) (by omega), zbd_some, h61 w1 hw1, nI_1]
      obtain ⟨W, y1, y2, y3, y4⟩ := p_beg73 hC d (i + 1) f (zpI A 61 w1 (nI (zkc M w1 i + 1))) (by omega) (by omega) ⟨h.1, h.2.1, fun a p1 p2 p3 p4 => by rw [zpI_r _ _ (by omega)]; exact h.2.2.1 a p1 p2 p3 p4, h.2.2.2⟩ (fun k hk => by rw [zpI_r _ _ (by omega)]; exact h54 k hk) (fun j hj => by
        rw [zpI_1, hkc]
        by_cases z : j = w1
        · subst z
          rw [if_pos ⟨rfl, rfl⟩, q, ew1]
          simp
        · rw [if_neg (fun t => z t.2), h61 j hj]
          have : ¬ nI w1 = nI j := by rw [z_eq (by omega) (by omega)]; exact fun t => z t.symm
          rw [ew1]
          simp [this])
      exact ⟨W, y1, y2, zbut_t zbut_p y3, y4⟩
    · rw [if_neg q]
      exact p_beg73 hC d (i + 1) f A (by omega) (by omega) h h54 (fun j hj => by
        rw [hkc, h61 j hj]
        simp [q])
theorem p_beg52 (hC : gCalls nv c nc nst M) (hN : 2000 < N) : ∀ d i f (A : zMem), i + d = 20 → d < f → zGA M c r0 A → (∀ k, k < nc → A.1 54 k = M.1 54 k) → (∀ j, j < i → A.1 61 j = 0) → ∃ W, fX2_begin_L52 N f (nI i) A = some W ∧ zGA M c r0 W ∧ zbut 61 A W ∧ ∀ j, j < 20 → W.1 61 j = nI (zkc M j nst)
  | 0, i, f + 1, A, hi, hf, h, h54, h61 => by
    have n4 := hC.1
    have nst4 := hC.2.1
    rw [fX2_begin_L52, show (20 : Int32) = nI 20 from rfl, if_pos (by rw [z_le (by omega) (by omega)]; omega)]
    exact p_beg73 hC nst 0 N A (by omega) (by omega) h h54 (fun j hj => h61 j (by omega))
  | d + 1, i, f + 1, A, hi, hf, h, h54, h61 => by
    rw [fX2_begin_L52, show (20 : Int32) = nI 20 from rfl, if_neg (by rw [z_le (by omega) (by omega)]; omega), z_stI (by omega) (by omega), zbd_some, zlet_eq, nI_1]
    obtain ⟨W, y1, y2, y3, y4⟩ := p_beg52 hC hN d (i + 1) f (zpI A 61 i 0) (by omega) (by omega) ⟨h.1, h.2.1, fun a p1 p2 p3 p4 => by rw [zpI_r _ _ (by omega)]; exact h.2.2.1 a p1 p2 p3 p4, h.2.2.2⟩ (fun k hk => by rw [zpI_r _ _ (by omega)]; exact h54 k hk) (fun j hj => by
      rw [zpI_1]
      by_cases z : j = i
      · rw [if_pos ⟨rfl, z⟩]
      · rw [if_neg (fun t => z t.2)]; exact h61 j (by omega))
    exact ⟨W, y1, y2, zbut_t zbut_p y3, y4⟩
theorem p_beg17 (hC : gCalls nv c nc nst M) (hN : 2000 < N) : ∀ d i f (A : zMem), i + d = 8 → d < f → zGA M c r0 A → (∀ k, k < nc → A.1 54 k = M.1 54 k) → (∀ v, v < i → A.1 58 v = -1 ∧ A.1 59 v = 0 ∧ A.1 60 v = 0) → ∃ W, fX2_begin_L17 N f (nI i) A = some W ∧ zGA M c r0 W ∧ W.2 = A.2 ∧ (∀ a, a ≠ 58 → a ≠ 59 → a ≠ 60 → a ≠ 61 → W.1 a = A.1 a) ∧ (∀ v, v < 8 → W.1 58 v = -1 ∧ W.1 59 v = 0 ∧ W.1 60 v = 0) ∧ ∀ j, j < 20 → W.1 61 j = nI (zkc M j nst)
  | 0, i, f + 1, A, hi, hf, h, h54, hv => by
    obtain ⟨W, y1, y2, y3, y4⟩ := p_beg52 hC hN 20 0 N A (by omega) (by omega) h h54 (fun j hj => absurd hj (Nat.not_lt_zero j))
    refine ⟨W, ?_, y2, y3.1, fun a p1 p2 p3 p4 => y3.2 a p4, fun v hv8 => ?_, y4⟩
    · rw [fX2_begin_L17, show (8 : Int32) = nI 8 from rfl, if_pos (by rw [z_le (by omega) (by omega)]; omega)]
      exact y1
    · rw [y3.2 58 (by omega), y3.2 59 (by omega), y3.2 60 (by omega)]; exact hv v (by omega)
  | d + 1, i, f + 1, A, hi, hf, h, h54, hv => by
    rw [fX2_begin_L17, show (8 : Int32) = nI 8 from rfl, if_neg (by rw [z_le (by omega) (by omega)]; omega), z_stI (by omega) (by omega), zbd_some, z_stI (by omega) (by omega), zbd_some, z_stI (by omega) (by omega), zbd_some, zlet_eq, nI_1]
    obtain ⟨W, y1, y2, y3, y4, y5, y6⟩ := p_beg17 hC hN d (i + 1) f (zpI (zpI (zpI A 58 i (-1)) 59 i 0) 60 i 0) (by omega) (by omega) ⟨h.1, h.2.1, fun a p1 p2 p3 p4 => by rw [zpI_r _ _ (by omega), zpI_r _ _ (by omega), zpI_r _ _ (by omega)]; exact h.2.2.1 a p1 p2 p3 p4, h.2.2.2⟩ (fun k hk => by rw [zpI_r _ _ (by omega), zpI_r _ _ (by omega), zpI_r _ _ (by omega)]; exact h54 k hk) (fun v hv' => by
      simp only [zpI_1]
      by_cases z : v = i
      · subst z; simp
      · obtain ⟨u1, u2, u3⟩ := hv v (by omega)
        simp [z, u1, u2, u3])
    exact ⟨W, y1, y2, y3, fun a p1 p2 p3 p4 => by rw [y4 a p1 p2 p3 p4, zpI_r _ _ p3, zpI_r _ _ p2, zpI_r _ _ p1], y5, y6⟩
/-- the reference -/
theorem m_beg104 (hC : gCalls nv c nc nst M) {k : Nat} (k1 : nst ≤ k) (k2 : k < nc) {k80 : Int32 → Int32 → zMem → Option (Int32 × zMem)} : ∀ d i f (B : zMem), i + d = nst → d < f → zGB M B → (∀ j, j < nst → B.1 118 j = M.1 118 j) → B.1 124 k = nI (zkc M (M.1 50 k).toNatClampNeg i) → ∃ W, fX12_go_L104 N k80 f (nI nst) (nI k) (nI i) B = k80 (nI nst) (nI (k + 1)) W ∧ zGB M W ∧ W.2 = B.2 ∧ (∀ a, a ≠ 124 → W.1 a = B.1 a) ∧ (∀ j, j ≠ k → W.1 124 j = B.1 124 j) ∧ W.1 124 k = nI (zkc M (M.1 50 k).toNatClampNeg nst)
  | 0, i, f + 1, B, hi, hf, h, h118, h124 => by
    have n4 := hC.1
    have e : i = nst := by omega
    subst e
    refine ⟨B, ?_, h, rfl, fun _ _ => rfl, fun _ _ => rfl, h124⟩
    rw [fX12_go_L104, if_pos (by rw [z_le (by omega) (by omega)]; omega), zlet_eq, nI_1]
  | d + 1, i, f + 1, B, hi, hf, h, h118, h124 => by
    have n4 := hC.1
    obtain ⟨-, -, ⟨w1, hw1, ew1⟩, -⟩ := hC.2.2.2.2.2.2.2 k k2
    have g3k := (hC.2.2.2.2.2.2.1 k k2).2.2.1
    have g3i := (hC.2.2.2.2.2.2.1 i (by omega)).2.2.1
    have g7i := (hC.2.2.2.2.2.2.1 i (by omega)).2.2.2.2.2.2.1
    have e114k : B.1 114 k = M.1 50 k := by rw [h.2 114 (by omega) (by omega) (by omega), g3k]
    have e114i : B.1 114 i = M.1 50 i := by rw [h.2 114 (by omega) (by omega) (by omega), g3i]
    have e118 : B.1 118 i = M.1 54 i := by rw [h118 i (by omega), g7i]
    have ec : (M.1 50 k).toNatClampNeg = w1 := by rw [ew1, z_cl (by omega)]
    have hkc : zkc M w1 (i + 1) = zkc M w1 i + (if ((M.1 54 i == 1) && (M.1 50 i == nI w1)) = true then 1 else 0) := rfl
    rw [fX12_go_L104, if_neg (by rw [z_le (by omega) (by omega)]; omega), z_ldI (by omega) (by omega), zbd_some, z_ldI (by omega) (by omega), zbd_some, e114k, e114i]
    unfold fX12_go_L144
    simp only [zlet_eq, nI_1]
    rw [ec] at h124 ⊢
    by_cases q1 : M.1 50 i = M.1 50 k
    · rw [if_pos q1, z_ldI (by omega) (by omega), zbd_some, e118]
      by_cases q2 : M.1 54 i = 1
      · rw [if_pos q2, z_ldI (by omega) (by omega), zbd_some, h124, nI_1, z_stI (by omega) (by omega), zbd_some]
        obtain ⟨W, y1, y2, y3, y4, y5, y6⟩ := m_beg104 hC k1 k2 (k80 := k80) d (i + 1) f (zpI B 124 k (nI (zkc M w1 i + 1))) (by omega) (by omega) ⟨h.1, fun a p1 p2 p3 => by rw [zpI_r _ _ (by omega)]; exact h.2 a p1 p2 p3⟩ (fun j hj => by rw [zpI_r _ _ (by omega)]; exact h118 j hj) (by
          rw [zpI_1, if_pos ⟨rfl, rfl⟩, ec, hkc, q2, q1, ew1]
          simp)
        rw [ec] at y6
        exact ⟨W, y1, y2, y3, fun a ha => by rw [y4 a ha, zpI_r _ _ ha], fun j hj => by rw [y5 j hj, zpI_1, if_neg (fun t => hj t.2)], y6⟩
      · rw [if_neg q2]
        obtain ⟨W, y1, y2, y3, y4, y5, y6⟩ := m_beg104 hC k1 k2 (k80 := k80) d (i + 1) f B (by omega) (by omega) h h118 (by rw [ec, hkc, h124]; simp [q2])
        rw [ec] at y6
        exact ⟨W, y1, y2, y3, y4, y5, y6⟩
    · rw [if_neg q1]
      have q1' : ¬ M.1 50 i = nI w1 := by rw [← ew1]; exact q1
      obtain ⟨W, y1, y2, y3, y4, y5, y6⟩ := m_beg104 hC k1 k2 (k80 := k80) d (i + 1) f B (by omega) (by omega) h h118 (by rw [ec, hkc, h124]; simp [q1'])
      rw [ec] at y6
      exact ⟨W, y1, y2, y3, y4, y5, y6⟩
theorem m_beg80 (hC : gCalls nv c nc nst M) (hN : 2000 < N) : ∀ d k f (B : zMem), k + d = nc → nst ≤ k → d < f → zGB M B → (∀ j, j < nst → B.1 118 j = M.1 118 j) → (∀ j, nst ≤ j → j < k → B.1 126 j = 0 ∧ B.1 124 j = nI (zkc M (M.1 50 j).toNatClampNeg nst)) → ∃ W, fX12_go_L80 N f (nI nst) (nI k) B = fX12_go_L158 N N (nI nst) 0 W ∧ zGB M W ∧ W.2 = B.2 ∧ (∀ a, a ≠ 124 → a ≠ 126 → W.1 a = B.1 a) ∧ ∀ j, nst ≤ j → j < nc → W.1 126 j = 0 ∧ W.1 124 j = nI (zkc M (M.1 50 j).toNatClampNeg nst)
  | 0, k, f + 1, B, hk, hst, hf, h, h118, hj => by
    have n4 := hC.1
    have e60 : B.1 69 60 = nI nc := by rw [h.2 69 (by omega) (by omega) (by omega)]; exact hC.2.2.2.2.1
    refine ⟨B, ?_, h, rfl, fun _ _ _ => rfl, fun j j1 j2 => hj j j1 (by omega)⟩
    rw [fX12_go_L80, e60, if_pos (by rw [z_le (by omega) (by omega)]; omega)]
  | d + 1, k, f + 1, B, hk, hst, hf, h, h118, hj => by
    have n4 := hC.1
    have e60 : B.1 69 60 = nI nc := by rw [h.2 69 (by omega) (by omega) (by omega)]; exact hC.2.2.2.2.1
    obtain ⟨W, y1, y2, y3, y4, y5, y6⟩ := m_beg104 (N := N) hC hst (show k < nc by omega) (k80 := fX12_go_L80 N f) nst 0 N (zpI (zpI B 126 k 0) 124 k 0) (by omega) (by omega) ⟨h.1, fun a p1 p2 p3 => by rw [zpI_r _ _ (by omega), zpI_r _ _ (by omega)]; exact h.2 a p1 p2 p3⟩ (fun j hj => by rw [zpI_r _ _ (by omega), zpI_r _ _ (by omega)]; exact h118 j hj) (by rw [zpI_1, if_pos ⟨rfl, rfl⟩]; rfl)
    obtain ⟨X, x1, x2, x3, x4, x5⟩ := m_beg80 hC hN d (k + 1) f W (by omega) (by omega) (by omega) y2 (fun j hj => by rw [y4 118 (by omega), zpI_r _ _ (by omega), zpI_r _ _ (by omega)]; exact h118 j hj) (fun j j1 j2 => by
      rw [y4 126 (by omega), zpI_r _ _ (show 126 ≠ 124 by omega), zpI_1]
      by_cases z : j = k
      · subst z; rw [if_pos ⟨rfl, rfl⟩]; exact ⟨rfl, y6⟩
      · rw [if_neg (fun t => z t.2), y5 j z, zpI_1, if_neg (fun t => z t.2), zpI_r _ _ (by omega)]
        exact hj j j1 (by omega))
    refine ⟨X, ?_, x2, by rw [x3, y3]; rfl, fun a a1 a2 => by rw [x4 a a1 a2, y4 a a1, zpI_r _ _ a1, zpI_r _ _ a2], x5⟩
    rw [fX12_go_L80, e60, if_neg (by rw [z_le (by omega) (by omega)]; omega), z_stZ (by omega) (by omega) (Or.inl rfl), zbd_some, z_stI (by omega) (by omega), zbd_some]
    rw [show (0 : Int32) = nI 0 from rfl] at y1 ⊢
    rw [y1]
    exact x1
theorem m_beg51 (hC : gCalls nv c nc nst M) (hK : gClock c M) {B : zMem} (h : zGB M B) : ∀ d i f, i + d = nst → d < f → fX12_go_L51 N f (nI i) B = fX12_go_L78 N (nI nst) B
  | 0, i, f + 1, hi, hf => by
    have n4 := hC.1
    have nst4 := hC.2.1
    have c0 := hK.1
    have e60 : B.1 69 60 = nI nc := by rw [h.2 69 (by omega) (by omega) (by omega)]; exact hC.2.2.2.2.1
    have e44 : B.1 69 44 = nI c := by rw [h.2 69 (by omega) (by omega) (by omega)]; exact hK.2.2
    have e : i = nst := by omega
    subst e
    rw [fX12_go_L51, e60]
    by_cases q : nc ≤ i
    · rw [if_pos (by rw [z_le (by omega) (by omega)]; exact q)]
    · rw [if_neg (by rw [z_le (by omega) (by omega)]; exact q), z_ldI (by omega) (by omega), zbd_some, e44]
      obtain ⟨⟨n, n1, n2, n3, n5⟩, -⟩ := hC.2.2.2.2.2.2.2 i (by omega)
      have e112 : B.1 112 i = nI c := by rw [h.2 112 (by omega) (by omega) (by omega), ← (hC.2.2.2.2.2.2.1 i (by omega)).1, n5, n3 (Nat.le_refl i)]
      rw [e112, if_pos (by rw [z_le (by omega) (by omega)]; omega)]
  | d + 1, i, f + 1, hi, hf => by
    have n4 := hC.1
    have nst4 := hC.2.1
    have c0 := hK.1
    have e60 : B.1 69 60 = nI nc := by rw [h.2 69 (by omega) (by omega) (by omega)]; exact hC.2.2.2.2.1
    have e44 : B.1 69 44 = nI c := by rw [h.2 69 (by omega) (by omega) (by omega)]; exact hK.2.2
    obtain ⟨⟨n, n1, n2, n3, n5⟩, -⟩ := hC.2.2.2.2.2.2.2 i (by omega)
    have hn := n2 (by omega)
    have e112 : B.1 112 i = nI n := by rw [h.2 112 (by omega) (by omega) (by omega), ← (hC.2.2.2.2.2.2.1 i (by omega)).1]; exact n5
    rw [fX12_go_L51, e60, if_neg (by rw [z_le (by omega) (by omega)]; omega), z_ldI (by omega) (by omega), zbd_some, e44, e112, if_neg (by rw [z_le (by omega) (by omega)]; omega), zlet_eq, nI_1]
    exact m_beg51 hC hK h d (i + 1) f (by omega) (by omega)
theorem m_beg16 : ∀ d i f (B : zMem), i + d = 8 → d < f → zGB M B → (∀ v, v < i → B.1 127 v = -1 ∧ B.1 128 v = 0 ∧ B.1 129 v = 0) → ∃ W, fX12_go_L16 N f (nI i) B = fX12_go_L51 N N 0 W ∧ zGB M W ∧ W.2 = B.2 ∧ (∀ a, a ≠ 127 → a ≠ 128 → a ≠ 129 → W.1 a = B.1 a) ∧ ∀ v, v < 8 → W.1 127 v = -1 ∧ W.1 128 v = 0 ∧ W.1 129 v = 0
  | 0, i, f + 1, B, hi, hf, h, hv => by
    refine ⟨B, ?_, h, rfl, fun _ _ _ _ => rfl, fun v hv8 => hv v (by omega)⟩
    rw [fX12_go_L16, show (8 : Int32) = nI 8 from rfl, if_pos (by rw [z_le (by omega) (by omega)]; omega)]
  | d + 1, i, f + 1, B, hi, hf, h, hv => by
    rw [fX12_go_L16, show (8 : Int32) = nI 8 from rfl, if_neg (by rw [z_le (by omega) (by omega)]; omega), z_stI (by omega) (by omega), zbd_some, z_stI (by omega) (by omega), zbd_some, z_stI (by omega) (by omega), zbd_some, zlet_eq, nI_1]
    obtain ⟨W, y1, y2, y3, y4, y5⟩ := m_beg16 d (i + 1) f (zpI (zpI (zpI B 127 i (-1)) 128 i 0) 129 i 0) (by omega) (by omega) ⟨h.1, fun a p1 p2 p3 => by rw [zpI_r _ _ (by omega), zpI_r _ _ (by omega), zpI_r _ _ (by omega)]; exact h.2 a p1 p2 p3⟩ (fun v hv' => by
      simp only [zpI_1]
      by_cases z : v = i
      · subst z; simp
      · obtain ⟨u1, u2, u3⟩ := hv v (by omega)
        simp [z, u1, u2, u3])
    exact ⟨W, y1, y2, y3, fun a p1 p2 p3 => by rw [y4 a p1 p2 p3, zpI_r _ _ p3, zpI_r _ _ p2, zpI_r _ _ p1], y5⟩
end GO
