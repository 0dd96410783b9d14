/-! call, of all arguments; care, due -/
theorem z_one (x : Int32) {n : Nat} (hn : n + 1 < 2147483648) : (∃ m, 1 ≤ m ∧ m ≤ n ∧ x = nI m) ∨ (x < nI 1) ∨ (¬ x < nI 1 ∧ nI n < x) := by
  rcases z_anyN x with h | ⟨j, hj, rfl⟩
  · have := z_negl h (a := 1) (by omega)
    exact Or.inr (Or.inl (this ▸ trivial))
  · rw [z_lt hj (by omega), z_lt (by omega) hj]
    by_cases c : 1 ≤ j ∧ j ≤ n
    · exact Or.inl ⟨j, c.1, c.2, rfl⟩
    · exact Or.inr (by omega)
theorem q_call {nv c nc nst : Nat} {M : zMem} (hK : gClock c M) (hL : gCal M) (hC : gCalls nv c nc nst M) (x1 x2 x3 x4 x5 : Int32) {N : Nat} (hN : 400 < N) : (fX11_call x1 x2 x3 x4 x5 M = some (-1, M) ∧ fX12_call N x1 x2 x3 x4 x5 M = some (-1, M)) ∨
    (nc < 400 ∧ nc < nst + 40 ∧ M.1 100 c = 0 ∧ ∃ a b d e f, a < 360 ∧ b < 20 ∧ d < 10 ∧ e < 8 ∧ 1 ≤ f ∧ f ≤ 90 ∧
      fX11_call x1 x2 x3 x4 x5 M = some (nI nc, zpI (zpI (zpI (zpI (zpI (zpI (zpI (zpI (zpI (zpI M 48 nc (nI c)) 49 nc (nI a)) 50 nc (nI b)) 51 nc (nI d)) 52 nc (nI e)) 53 nc (nI f)) 54 nc 0) 55 nc (-1)) 56 nc (-1)) 47 9 (nI (nc + 1))) ∧
      ∀ M0 : zMem, M0.1 69 44 = nI c → M0.1 69 60 = nI nc → M0.1 112 = M.1 112 → M0.1 100 c = 0 → fX12_call N x1 x2 x3 x4 x5 M0 = some (nI nc, zpI (zpI (zpI (zpI (zpI (zpI (zpI (zpI (zpI (zpI M0 112 nc (nI c)) 113 nc (nI a)) 114 nc (nI b)) 115 nc (nI d)) 116 nc (nI e)) 117 nc (nI f)) 118 nc 0) 119 nc (-1)) 120 nc (-1)) 69 60 (nI (nc + 1)))) := by
  have hK' := hK
  have hC' := hC
  obtain ⟨c0, c1, c2⟩ := hK
  obtain ⟨h0, hns, hns2, h1, h2, h5, h3, h4⟩ := hC
  have hg := (gCal_01 hL c0).2.2
  have h4' : ∀ k, k < nc → ∃ n, n < 200 ∧ (k < nst → n < c) ∧ (nst ≤ k → n = c) ∧ M.1 112 k = nI n := by
    intro k hk
    obtain ⟨⟨n, n1, n2, n3, n4⟩, -⟩ := h4 k hk
    exact ⟨n, n1, n2, n3, by rw [← (h3 k hk).1]; exact n4⟩
  by_cases s : zin x1 360 = true ∧ zin x2 20 = true ∧ zin x3 10 = true ∧ zin x4 8 = true ∧ ∃ m, 1 ≤ m ∧ m ≤ 90 ∧ x5 = nI m
  · obtain ⟨s1, s2, s3, s4, f, f1, f2, rfl⟩ := s
    obtain ⟨a, a1, rfl⟩ := z_zinE (by omega) s1
    obtain ⟨b, b1, rfl⟩ := z_zinE (by omega) s2
    obtain ⟨d, d1, rfl⟩ := z_zinE (by omega) s3
    obtain ⟨e, e1, rfl⟩ := z_zinE (by omega) s4
    have hp := p_call hK' hL hC' a1 b1 d1 e1 f1 f2
    by_cases q : nc < 400 ∧ nc < nst + 40 ∧ M.1 100 c = 0
    · refine Or.inr ⟨q.1, q.2.1, q.2.2, a, b, d, e, f, a1, b1, d1, e1, f1, f2, ?_, fun M0 m1 m2 m3 m4 => ?_⟩
      · rw [hp, if_pos q.2.2, p_add h0 hns h1 h5, if_pos ⟨q.1, q.2.1⟩]
      · rw [m_call c0 h0 hns hns2 m1 m2 (by rw [m3]; exact h4') (Or.inl m4) a1 b1 d1 e1 f1 f2 hN, if_pos ⟨q.1, q.2.1, m4⟩]
    · refine Or.inl ⟨?_, ?_⟩
      · rw [hp]
        by_cases g0 : M.1 100 c = 0
        · rw [if_pos g0, p_add h0 hns h1 h5, if_neg (fun w => q ⟨w.1, w.2, g0⟩)]
        · rw [if_neg g0]
      · rw [m_call c0 h0 hns hns2 c2 h2 h4' hg a1 b1 d1 e1 f1 f2 hN, if_neg q]
  · refine Or.inl ⟨?_, ?_⟩
    · have w1 : fX11_isWithin x1 0 359 M = some (if zin x1 360 = true then 1 else 0, M) := p_within0 x1 (n := 359) (by omega) M
      have w3 : fX11_isWithin x3 0 9 M = some (if zin x3 10 = true then 1 else 0, M) := p_within0 x3 (n := 9) (by omega) M
      have w4 : fX11_isWithin x4 0 7 M = some (if zin x4 8 = true then 1 else 0, M) := p_within0 x4 (n := 7) (by omega) M
      unfold fX11_call
      rw [w1, zb2_some]
      by_cases s1 : zin x1 360 = true
      · rw [if_pos s1, if_neg (by decide), p_isCallerZ, zb2_some]
        by_cases s2 : zin x2 20 = true
        · rw [if_pos s2, if_neg (by decide), w3, zb2_some]
          by_cases s3 : zin x3 10 = true
          · rw [if_pos s3, if_neg (by decide), w4, zb2_some]
            by_cases s4 : zin x4 8 = true
            · rw [if_pos s4, if_neg (by decide)]
              unfold fX11_isWithin
              rcases z_one x5 (n := 90) (by omega) with w | w | ⟨w, w'⟩
              · exact absurd ⟨s1, s2, s3, s4, w⟩ s
              · rw [show (1 : Int32) = nI 1 from rfl, if_pos w]; rfl
              · rw [show (1 : Int32) = nI 1 from rfl, if_neg w, show (90 : Int32) = nI 90 from rfl, if_pos w']; rfl
            · rw [if_neg s4, if_pos rfl]; rfl
          · rw [if_neg s3, if_pos rfl]; rfl
        · rw [if_neg s2, if_pos rfl]; rfl
      · rw [if_neg s1, if_pos rfl]; rfl
    · have r1 : ∀ (a b : Option (Int32 × zMem)), (if x1 < 0 then a else if (359 : Int32) < x1 then a else b) = if zin x1 360 = true then b else a := fun a b => z_rng2 x1 (n := 359) (by omega) a b
      have r2 : ∀ (a b : Option (Int32 × zMem)), (if x2 < 0 then a else if (19 : Int32) < x2 then a else b) = if zin x2 20 = true then b else a := fun a b => z_rng2 x2 (n := 19) (by omega) a b
      have r3 : ∀ (a b : Option (Int32 × zMem)), (if x3 < 0 then a else if (9 : Int32) < x3 then a else b) = if zin x3 10 = true then b else a := fun a b => z_rng2 x3 (n := 9) (by omega) a b
      have r4 : ∀ (a b : Option (Int32 × zMem)), (if x4 < 0 then a else if (7 : Int32) < x4 then a else b) = if zin x4 8 = true then b else a := fun a b => z_rng2 x4 (n := 7) (by omega) a b
      unfold fX12_call
      rw [h2, c2, z_ldI (by omega) (by omega), zbd_some, r4, r3, r2, r1]
      by_cases q4 : nI nc = (400 : Int32)
      · rw [if_pos q4]
      · rw [if_neg q4]
        rcases hg with hg | hg
        · rw [hg, if_pos rfl]
          by_cases s1 : zin x1 360 = true
          · rw [if_pos s1]
            by_cases s2 : zin x2 20 = true
            · rw [if_pos s2]
              by_cases s3 : zin x3 10 = true
              · rw [if_pos s3]
                by_cases s4 : zin x4 8 = true
                · rw [if_pos s4]
                  rcases z_one x5 (n := 90) (by omega) with w | w | ⟨w, w'⟩
                  · exact absurd ⟨s1, s2, s3, s4, w⟩ s
                  · rw [show (1 : Int32) = nI 1 from rfl, if_pos w]
                  · rw [show (1 : Int32) = nI 1 from rfl, if_neg w, show (90 : Int32) = nI 90 from rfl, if_neg (Int32.not_le.mpr w')]
                · rw [if_neg s4]
              · rw [if_neg s3]
            · rw [if_neg s2]
          · rw [if_neg s1]
        · rw [hg, if_neg (by decide)]
theorem q_due {nv ns c nc nst : Nat} {M : zMem} (hT : gTeam nv ns M) (hK : gClock c M) (hC : gCalls nv c nc nst M) (hH : gHard nc M) (x : Int32) {N : Nat} (hN : 400 < N) : ∃ r, fX11_due N x M = some (r, M) ∧ fX12_due N x M = some (r, M) := by
  have hT' := hT
  obtain ⟨t0, t1, t2, -⟩ := hT
  unfold fX11_due fX12_due
  rw [p_isVol t0 t1, m_isVol t0 t2]
  by_cases e1 : zin x nv = true
  · obtain ⟨v, hv, rfl⟩ := z_zinE (by omega) e1
    obtain ⟨b, hb, b1, b2⟩ := q_isDue hT' hK hC hH hv hN
    rw [if_pos e1, zb2_some, zb2_some, if_neg (by decide), if_neg (by decide), b1, b2, zb2_some]
    rcases hb with rfl | rfl
    · exact ⟨_, rfl, rfl⟩
    · exact ⟨_, rfl, rfl⟩
  · rw [if_neg e1]; exact ⟨_, rfl, rfl⟩
theorem q_care {nv ns c nc nst : Nat} {M : zMem} (hT : gTeam nv ns M) (hK : gClock c M) (hC : gCalls nv c nc nst M) (hH : gHard nc M) (x : Int32) {N : Nat} (hN : 400 < N) : (fX11_care N x M = some (0, M) ∧ fX12_care N x M = some (0, M)) ∨
    (∃ v, v < nv ∧ x = nI v ∧ fX11_care N x M = some (1, zpI M 24 v (nI c)) ∧ ∀ M0 : zMem, fX12_isDue N (nI v) M0 = some (1, M0) → M0.1 69 37 = nI nv → M0.1 69 44 = nI c → fX12_care N x M0 = some (1, zpI M0 98 v (nI c))) := by
  have hT' := hT
  obtain ⟨t0, t1, t2, -⟩ := hT
  have hc1 := hK.2.1
  by_cases e1 : zin x nv = true
  · obtain ⟨v, hv, rfl⟩ := z_zinE (by omega) e1
    obtain ⟨b, hb, b1, b2⟩ := q_isDue hT' hK hC hH hv hN
    unfold fX11_care fX12_care
    rcases hb with rfl | rfl
    · refine Or.inl ⟨?_, ?_⟩
      · rw [p_isVol t0 t1, if_pos e1, zb2_some, if_neg (by decide), b1]; rfl
      · rw [m_isVol t0 t2, if_pos e1, zb2_some, if_neg (by decide), b2]; rfl
    · refine Or.inr ⟨v, hv, rfl, ?_, fun M0 m1 m2 m3 => ?_⟩
      · rw [p_isVol t0 t1, if_pos e1, zb2_some, if_neg (by decide), b1, zb2_some, if_neg (by decide)]
        unfold fX9_giveCare
        rw [p_isVol t0 t1, if_pos e1, zb2_some, if_neg (by decide), hc1, z_stI (by omega) (by omega)]
        rfl
      · rw [m_isVol t0 m2, if_pos e1, zb2_some, if_neg (by decide), m1, zb2_some, if_neg (by decide), m3, z_stI (by omega) (by omega)]
        rfl
  · refine Or.inl ⟨?_, ?_⟩
    · unfold fX11_care; rw [p_isVol t0 t1, if_neg e1]; rfl
    · unfold fX12_care; rw [m_isVol t0 t2, if_neg e1]; rfl
