/-! learn -/
theorem z_setbit (w : Int64) {k : Nat} (hk : k < 64) (j : Nat) (hj : j < 64) : (w ||| ((1 : Int64) <<< ((nI k).toInt64 &&& 63))).toBitVec.getLsbD j = (w.toBitVec.getLsbD j || decide (j = k)) := by
  have h1 : ((1 : Int64) <<< ((nI k).toInt64 &&& 63)).toBitVec = BitVec.twoPow 64 k := by
    have : ∀ k, k < 64 → ((1 : Int64) <<< ((nI k).toInt64 &&& 63)).toBitVec = BitVec.twoPow 64 k := by decide +kernel
    exact this k hk
  rw [Int64.toBitVec_or, h1, BitVec.getLsbD_or, BitVec.getLsbD_twoPow]
  by_cases e : j = k
  · subst e; simp [hj]
  · have : ¬ k = j := fun q => e q.symm
    simp [e, this]
theorem zpJ_at (M : zMem) (a k : Nat) (v : Int64) (b j : Nat) : (zpJ M a k v).2.1 b j = if b = a ∧ j = k then v else M.2.1 b j := rfl
theorem p_teachL {v s c m : Nat} (hv : v < 8) (hs : s < 8) (hm : m ≤ 200) (hc : c < 200) {N : Nat} : ∀ d i n (M : zMem), M.1 26 s = nI m → i + d = min (c + m) 200 → d < n → ∃ M1, fX9_teach_L48 N n (nI v) (nI s) (nI c) (nI i) M = some (1, M1) ∧ M1.1 = M.1 ∧ M1.2.2 = M.2.2 ∧ (∀ a, a ≠ 27 → M1.2.1 a = M.2.1 a) ∧ ∀ t j, j < 64 → (M1.2.1 27 t).toBitVec.getLsbD j = ((M.2.1 27 t).toBitVec.getLsbD j || (decide (j = 8 * v + s) && decide (i ≤ t) && decide (t < i + d)))
  | 0, i, n + 1, M, h0, h, _ => by
    refine ⟨M, ?_, rfl, rfl, fun _ _ => rfl, fun t j _ => ?_⟩
    · rw [fX9_teach_L48, z_ldI (by omega) (by omega), zbd_some, h0, z_add]
      by_cases q : c + m ≤ i
      · rw [if_pos (by rw [z_le (by omega) (by omega)]; exact q)]
      · rw [if_neg (by rw [z_le (by omega) (by omega)]; exact q), p_isNightN (by omega), zb2_some, if_neg (show ¬ i < 200 by omega), if_pos rfl]
    · by_cases q : i ≤ t
      · have : ¬ t < i := by omega
        simp [this]
      · simp [q]
  | d + 1, i, n + 1, M, h0, h, hn => by
    have q : ¬ nI (c + m) ≤ nI i := by rw [z_le (by omega) (by omega)]; omega
    obtain ⟨M1, e1, e2, e3, e4, e5⟩ := p_teachL hv hs hm hc (N := N) d (i + 1) n (zpJ M 27 i (M.2.1 27 i ||| ((1 : Int64) <<< ((nI (v * 8 + s)).toInt64 &&& 63)))) h0 (by omega) (by omega)
    refine ⟨M1, ?_, e2, e3, ?_, ?_⟩
    · rw [fX9_teach_L48, z_ldI (by omega) (by omega), zbd_some, h0, z_add, if_neg q, p_isNightN (by omega), zb2_some, if_pos (show i < 200 by omega), if_neg (by decide), z_ldJ (by omega) (by omega), zbd_some]
      unfold fX9_learnedBit
      rw [zb2_some, show (8 : Int32) = nI 8 from rfl, z_mul, z_add, z_stJ (by omega) (by omega), zbd_some, zlet_eq, nI_1, e1]
    · intro a ha
      rw [e4 a ha, zpJ_2r _ _ ha]
    · intro t j hj
      rw [e5 t j hj, zpJ_at]
      by_cases w : t = i
      · subst w
        rw [if_pos ⟨rfl, rfl⟩, z_setbit _ (by omega) j hj]
        have a1 : ¬ t + 1 ≤ t := by omega
        have a2 : t < t + (d + 1) := by omega
        have a3 : (v * 8 + s) = (8 * v + s) := by omega
        simp [a1, a2, a3]
      · rw [if_neg (fun q => w q.2)]
        have a1 : (decide (i + 1 ≤ t) && decide (t < i + 1 + d)) = (decide (i ≤ t) && decide (t < i + (d + 1))) := by
          by_cases b1 : i + 1 ≤ t
          · have b2 : i ≤ t := by omega
            have b3 : (t < i + 1 + d) = (t < i + (d + 1)) := by apply propext; omega
            simp [b1, b2, b3]
          · have b2 : ¬ i ≤ t := by omega
            simp [b1, b2]
        rw [Bool.and_assoc, a1, ← Bool.and_assoc]
theorem q_learn {nv ns c : Nat} {M : zMem} (hT : gTeam nv ns M) (hK : gClock c M) (hL : gLearn nv ns M) (x1 x2 : Int32) {N : Nat} (hN : 400 < N) : (fX11_learn N x1 x2 M = some (0, M) ∧ fX12_learn N x1 x2 M = some (0, M)) ∨
    (∃ v s m M1, v < nv ∧ s < ns ∧ 1 ≤ m ∧ m ≤ 200 ∧ M.1 94 s = nI m ∧ fX11_learn N x1 x2 M = some (1, M1) ∧ M1.1 = M.1 ∧ M1.2.2 = M.2.2 ∧ (∀ a, a ≠ 27 → M1.2.1 a = M.2.1 a) ∧ (∀ t j, t < 200 → j < 64 → (M1.2.1 27 t).toBitVec.getLsbD j = ((M.2.1 27 t).toBitVec.getLsbD j || (decide (j = 8 * v + s) && decide (c ≤ t) && decide (t < c + m)))) ∧
      fX12_learn N x1 x2 M = some (1, zpI M 95 (200 * (8 * v + s) + c) 1)) := by
  have hT' := hT
  obtain ⟨t0, t1, t2, s0, s1, s2, r1, r2⟩ := hT
  obtain ⟨c0, c1, c2⟩ := hK
  have hr : ∀ (a b : Option (Int32 × zMem)), (if x2 < 0 then a else if nI ns ≤ x2 then a else b) = if zin x2 ns = true then b else a := fun a b => z_rng x2 (by omega) a b
  have hp : fX11_learn N x1 x2 M = zb2 (fX9_teach N x1 x2 (nI c) M) fun r3 M2 => zgb r3 (some (r3, M2)) := by unfold fX11_learn; rw [c1]
  unfold fX9_teach at hp
  unfold fX12_learn
  rw [p_isVol t0 t1, zb2_some] at hp
  rw [m_isVol t0 t2, zb2_some, s2, hr, c2]
  by_cases e1 : zin x1 nv = true
  · rw [if_pos e1, if_neg (by decide)] at hp
    rw [if_pos e1, if_neg (by decide)]
    rw [p_isStep s0 s1, zb2_some] at hp
    by_cases e2 : zin x2 ns = true
    · rw [if_pos e2, if_neg (by decide)] at hp
      rw [if_pos e2]
      obtain ⟨v, hv, rfl⟩ := z_zinE (by omega) e1
      obtain ⟨s, hs, rfl⟩ := z_zinE (by omega) e2
      obtain ⟨g1, g2, g3, m, m1, m2, g4⟩ := r2 s hs
      have hm : M.1 94 s = nI m := by rw [← g2]; exact g4
      rw [z_ldI (by omega) (by omega), zbd_some] at hp
      rw [z_ldI (by omega) (by omega), zbd_some, ← g1]
      obtain ⟨M1, k1, k2, k3, k4, k5⟩ := p_teachL (v := v) (s := s) (c := c) (m := m) (by omega) (by omega) m2 c0 (N := N) (min (c + m) 200 - c) c N M g4 (by omega) (by omega)
      have hgo : fX9_teach_L45 N (nI v) (nI s) (nI c) M = some (1, M1) := k1
      have hgo2 : fX12_learn_L50 N (nI v) (nI s) M = some (1, zpI M 95 (200 * (8 * v + s) + c) 1) := by
        unfold fX12_learn_L50
        rw [c2, show (200 : Int32) = nI 200 from rfl, show (8 : Int32) = nI 8 from rfl, z_mul, z_add, z_mul, z_add, z_stZ (by omega) (by omega) (Or.inr rfl)]
        rfl
      have hbit : ∀ t j, t < 200 → j < 64 → (M1.2.1 27 t).toBitVec.getLsbD j = ((M.2.1 27 t).toBitVec.getLsbD j || (decide (j = 8 * v + s) && decide (c ≤ t) && decide (t < c + m))) := by
        intro t j ht hj
        rw [k5 t j hj]
        have a1 : (decide (c ≤ t) && decide (t < c + (min (c + m) 200 - c))) = (decide (c ≤ t) && decide (t < c + m)) := by
          by_cases b1 : c ≤ t
          · have b3 : (t < c + (min (c + m) 200 - c)) = (t < c + m) := by apply propext; omega
            simp [b1, b3]
          · simp [b1]
        rw [Bool.and_assoc, a1, ← Bool.and_assoc]
      rcases g3 with g3 | ⟨j, hj, g3⟩
      · rw [g3, if_pos rfl, hgo] at hp
        rw [g3, if_pos rfl, hgo2]
        exact Or.inr ⟨v, s, m, M1, hv, hs, m1, m2, hm, hp, k2, k3, k4, hbit, rfl⟩
      · have hne : ¬ nI j = (-1 : Int32) := by rw [z_m1 (by omega)]; exact id
        rw [g3, if_neg hne, zbd_some, p_hasStep hT' hv (by omega) c0 (by omega), zb2_some] at hp
        rw [g3, if_neg hne, zbd_some, m_hasStep hT' hL hv (by omega) c0 (by omega), zb2_some]
        by_cases w : zhas M v 8 j c = true
        · rw [if_pos w, if_neg (by decide), hgo] at hp
          rw [if_pos w, if_neg (by decide), hgo2]
          exact Or.inr ⟨v, s, m, M1, hv, hs, m1, m2, hm, hp, k2, k3, k4, hbit, rfl⟩
        · rw [if_neg w, if_pos rfl] at hp
          rw [if_neg w, if_pos rfl]
          exact Or.inl ⟨hp, rfl⟩
    · rw [if_neg e2, if_pos rfl] at hp
      rw [if_neg e2]
      exact Or.inl ⟨hp, rfl⟩
  · rw [if_neg e1, if_pos rfl] at hp
    rw [if_neg e1, if_pos rfl]
    exact Or.inl ⟨hp, rfl⟩
