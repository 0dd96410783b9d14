/-! who HAS a step: the class's bits and the reference's nights of learning say the same -/
theorem zbp_01 (p : Prop) : zbp p = 0 ∨ zbp p = 1 := by
  by_cases h : p
  · exact Or.inr (zbp_t h)
  · exact Or.inl (zbp_f h)
theorem z_bit (w : Int64) {k : Nat} (hk : k < 64) : (lg_cmp (w &&& ((1 : Int64) <<< ((nI k).toInt64 &&& 63))) 0 = 0) ↔ w.toBitVec.getLsbD k = false := by
  have h1 : ((1 : Int64) <<< ((nI k).toInt64 &&& 63)).toBitVec = BitVec.twoPow 64 k := by
    have : ∀ k, k < 64 → ((1 : Int64) <<< ((nI k).toInt64 &&& 63)).toBitVec = BitVec.twoPow 64 k := by decide +kernel
    exact this k hk
  have h2 : ∀ a : Int64, lg_cmp a 0 = 0 ↔ a = 0 := by
    intro a
    unfold lg_cmp
    constructor
    · intro h
      split at h
      · exact absurd h (by decide)
      · split at h
        · assumption
        · exact absurd h (by decide)
    · rintro rfl; rfl
  rw [h2]
  constructor
  · intro h
    have h3 : (w &&& ((1 : Int64) <<< ((nI k).toInt64 &&& 63))).toBitVec = 0#64 := by rw [h]; rfl
    rw [Int64.toBitVec_and, h1] at h3
    have h4 := congrArg (fun b => b.getLsbD k) h3
    simpa [BitVec.getLsbD_and, BitVec.getLsbD_twoPow, hk] using h4
  · intro h
    have h3 : (w &&& ((1 : Int64) <<< ((nI k).toInt64 &&& 63))).toBitVec = 0#64 := by
      rw [Int64.toBitVec_and, h1]
      apply BitVec.eq_of_getLsbD_eq
      intro i hi
      by_cases e : i = k
      · subst e; simp [h]
      · simp [BitVec.getLsbD_twoPow]; intro _ _ q; exact absurd q.symm e
    exact Int64.toBitVec_inj.mp h3
/-- the class's loop, from a step s at depth t -/
theorem p_hasL31 {M : zMem} {nv ns : Nat} (hT : gTeam nv ns M) {v n : Nat} (hv : v < nv) (hn : n < 200) {N : Nat} : ∀ d s t f, s < ns → s < d → t + d = 8 → d < f → fX9_hasStep_L31 N f (nI v) (nI n) (nI s) (nI t) M = some (if zhas M v d s n = true then 1 else 0, M)
  | 0, s, t, f, h1, h2, h3, h4 => by omega
  | d + 1, s, t, f + 1, h1, h2, h3, h4 => by
    have ih := p_hasL31 hT hv hn (N := N) d
    obtain ⟨t0, t1, t2, s0, s1, s2, r1, r2⟩ := hT
    obtain ⟨g1, g2, g3, g4⟩ := r2 s h1
    have ht : ¬ (8 : Int32) ≤ nI t := by rw [show (8 : Int32) = nI 8 from rfl, z_le (by omega) (by omega)]; omega
    rw [fX9_hasStep_L31, if_neg ht, p_isStep s0 s1, if_pos (z_zinI (by omega) h1), zb2_some, if_neg (by decide), z_ldJ (by omega) (by omega), zbd_some]
    unfold fX9_learnedBit
    rw [zb2_some, show (8 : Int32) = nI 8 from rfl, z_mul, z_add]
    have hb := z_bit (M.2.1 27 n) (k := v * 8 + s) (by omega)
    rw [zhas]
    by_cases e : (M.2.1 27 n).toBitVec.getLsbD (8 * v + s) = true
    · have e2 : ¬ lg_cmp (M.2.1 27 n &&& ((1 : Int64) <<< ((nI (v * 8 + s)).toInt64 &&& 63))) 0 = 0 := by
        rw [hb, show v * 8 + s = 8 * v + s by omega, e]; decide
      rw [if_neg e2, z_ldI (by omega) (by omega), zbd_some, zlet_eq, nI_1]
      rcases g3 with g3 | ⟨j, hj, g3⟩
      · simp only [e, g3, Bool.true_and, if_true]
        obtain ⟨f', rfl⟩ : ∃ f', f = f' + 1 := ⟨f - 1, by omega⟩
        rw [fX9_hasStep_L31]
        by_cases c8 : 8 ≤ t + 1
        · have : (8 : Int32) ≤ nI (t + 1) := by rw [show (8 : Int32) = nI 8 from rfl, z_le (by omega) (by omega)]; omega
          rw [if_pos this]
        · have : ¬ (8 : Int32) ≤ nI (t + 1) := by rw [show (8 : Int32) = nI 8 from rfl, z_le (by omega) (by omega)]; omega
          have hz : zin (-1 : Int32) ns = false := by simp [zin]
          rw [if_neg this, p_isStep s0 s1, hz]
          rfl
      · have hne : ¬ M.1 25 s = -1 := by rw [g3, z_m1 (by omega)]; exact id
        rw [g3, ih j (t + 1) f (by omega) (by omega) (by omega) (by omega)]
        have hne2 : ¬ nI j = (-1 : Int32) := by rw [z_m1 (by omega)]; exact id
        simp only [e, Bool.true_and, if_neg hne2, z_cl (show j < 2147483648 by omega)]
    · have e' : (M.2.1 27 n).toBitVec.getLsbD (8 * v + s) = false := by simpa using e
      have e2 : lg_cmp (M.2.1 27 n &&& ((1 : Int64) <<< ((nI (v * 8 + s)).toInt64 &&& 63))) 0 = 0 := by
        rw [hb, show v * 8 + s = 8 * v + s by omega, e']
      rw [if_pos e2]
      simp [e']
/-- depth beyond the step's number changes nothing -/
theorem zhas_deep {M : zMem} {nv ns : Nat} (hT : gTeam nv ns M) {v n : Nat} : ∀ d s, s < ns → s < d → zhas M v d s n = zhas M v (s + 1) s n := by
  intro d
  induction d using Nat.strongRecOn with
  | _ d ih =>
    intro s h1 h2
    obtain ⟨d', rfl⟩ : ∃ d', d = d' + 1 := ⟨d - 1, by omega⟩
    rw [zhas, zhas]
    obtain ⟨-, -, -, -, -, -, -, r2⟩ := id hT
    rcases (r2 s h1).2.2.1 with g3 | ⟨j, hj, g3⟩
    · simp only [g3, if_true]
    · have hne : ¬ nI j = (-1 : Int32) := by rw [z_m1 (by have := hT.2.2.2.1; omega)]; exact id
      have hs := hT.2.2.2.1
      simp only [g3, if_neg hne, z_cl (show j < 2147483648 by omega)]
      rw [ih d' (by omega) j (by omega) (by omega)]
      by_cases hq : s < d' + 1 ∧ j < s
      · rcases Nat.lt_or_ge s (d' + 1) with _ | _
        · by_cases hsd : s = d' + 1
          · omega
          · rw [ih s (by omega) j (by omega) (by omega)]
        · omega
      · omega
theorem p_hasStep {M : zMem} {nv ns : Nat} (hT : gTeam nv ns M) {v s n : Nat} (hv : v < nv) (hs : s < ns) (hn : n < 200) {N : Nat} (hN : 10 < N) : fX9_hasStep N (nI v) (nI s) (nI n) M = some (if zhas M v 8 s n = true then 1 else 0, M) := by
  have hT' := hT
  obtain ⟨t0, t1, t2, s0, s1, s2, r1, r2⟩ := hT
  unfold fX9_hasStep
  rw [p_isVol t0 t1, if_pos (z_zinI (by omega) hv), zb2_some, if_neg (by decide), p_isStep s0 s1, if_pos (z_zinI (by omega) hs), zb2_some, if_neg (by decide), p_isNightZ, if_pos (z_zinI (by omega) hn), zb2_some, if_neg (by decide)]
  exact p_hasL31 hT' hv hn 8 s 0 N hs (by omega) (by omega) (by omega)
/-- where there is no such step, nobody has it -/
theorem p_hasStep_o {M : zMem} {nv ns : Nat} (hT : gTeam nv ns M) {x y z : Int32} (h : zin y ns = false) {N : Nat} : fX9_hasStep N x y z M = some (0, M) := by
  obtain ⟨t0, t1, t2, s0, s1, s2, r1, r2⟩ := hT
  unfold fX9_hasStep
  rw [p_isVol t0 t1, zb2_some]
  by_cases e : zin x nv = true
  · rw [if_pos e, if_neg (by decide), p_isStep s0 s1, h]; rfl
  · rw [if_neg e, if_pos rfl]
theorem m_split {M : zMem} {v s t m i : Nat} (h1 : i < m) (h2 : i ≤ t) : (∃ k, i ≤ k ∧ k < m ∧ k ≤ t ∧ M.1 95 (200 * (8 * v + s) + (t - k)) = 1) ↔ (M.1 95 (200 * (8 * v + s) + (t - i)) = 1 ∨ ∃ k, i + 1 ≤ k ∧ k < m ∧ k ≤ t ∧ M.1 95 (200 * (8 * v + s) + (t - k)) = 1) := by
  constructor
  · rintro ⟨k, k1, k2, k3, k4⟩
    rcases Nat.lt_or_ge i k with g | g
    · exact Or.inr ⟨k, g, k2, k3, k4⟩
    · have : k = i := by omega
      subst this
      exact Or.inl k4
  · rintro (g | ⟨k, k1, k2, k3, k4⟩)
    · exact ⟨i, Nat.le_refl i, h1, h2, g⟩
    · exact ⟨k, by omega, k2, k3, k4⟩
/-- the reference's inner loop -/
theorem m_hasL15 {M : zMem} {nv ns : Nat} (hT : gTeam nv ns M) (hL : gLearn nv ns M) {v s t m : Nat} (hv : v < 8) (hs : s < ns) (ht : t < 200) (hm : M.1 94 s = nI m) (hm2 : m ≤ 200) {N : Nat} {k3 : Int32 → Int32 → Int32 → zMem → Option (Int32 × zMem)} : ∀ d i f (P : Prop), (i + d = m ∧ i + d ≤ t + 1 ∨ i + d = t + 1 ∧ i + d ≤ m) → d < f →
    fX12_hasStep_L15 N k3 f (nI v) (nI t) (nI s) (zbp P) (nI i) M = fX12_hasStep_L75 N k3 (nI v) (nI t) (nI s) (zbp (P ∨ ∃ k, i ≤ k ∧ k < m ∧ k ≤ t ∧ M.1 95 (200 * (8 * v + s) + (t - k)) = 1)) M
  | 0, i, f + 1, P, h, _ => by
    have hs8 := hT.2.2.2.1
    have hno : (P ∨ ∃ k, i ≤ k ∧ k < m ∧ k ≤ t ∧ M.1 95 (200 * (8 * v + s) + (t - k)) = 1) ↔ P := by
      constructor
      · rintro (h1 | ⟨k, k1, k2, k3, -⟩)
        · exact h1
        · omega
      · exact Or.inl
    rw [zbp_iff hno, fX12_hasStep_L15, z_ldI (by omega) (by omega), zbd_some, hm]
    by_cases c : m ≤ i
    · rw [if_pos (by rw [z_le (by omega) (by omega)]; exact c)]
    · rw [if_neg (by rw [z_le (by omega) (by omega)]; exact c), if_pos (by rw [z_lt (by omega) (by omega)]; omega)]
  | d + 1, i, f + 1, P, h, hf => by
    have hs8 := hT.2.2.2.1
    have ih := m_hasL15 hT hL hv hs ht hm hm2 (N := N) (k3 := k3) d (i + 1) f
    have c1 : ¬ nI m ≤ nI i := by rw [z_le (by omega) (by omega)]; omega
    have c2 : ¬ nI t < nI i := by rw [z_lt (by omega) (by omega)]; omega
    rw [fX12_hasStep_L15, z_ldI (by omega) (by omega), zbd_some, hm, if_neg c1, if_neg c2]
    by_cases hP : P
    · rw [zbp_t hP, if_neg (by decide)]
      unfold fX12_hasStep_L62 fX12_hasStep_L67
      rw [zlet_eq, nI_1]
      have := ih True (by omega) (by omega)
      rw [zbp_t trivial] at this
      rw [this]
      rw [zbp_t (Or.inl trivial), zbp_t (Or.inl hP)]
    · rw [zbp_f hP, if_pos rfl]
      have hidx : 200 * (8 * v + s) + t - i = 200 * (8 * v + s) + (t - i) := by omega
      rw [show (200 : Int32) = nI 200 from rfl, show (8 : Int32) = nI 8 from rfl, z_mul, z_add, z_mul, z_add, z_sub (by omega), hidx, z_ldI (by omega) (by omega), zbd_some]
      rcases (hL v s (t - i) hv (by omega) (by omega)).1 with e | e
      · rw [e, if_pos rfl]
        unfold fX12_hasStep_L67
        rw [zlet_eq, nI_1]
        have := ih False (by omega) (by omega)
        rw [zbp_f id] at this
        rw [this]
        congr 1
        apply zbp_iff
        rw [m_split (v := v) (s := s) (t := t) (m := m) (i := i) (by omega) (by omega)]
        constructor
        · rintro (g | g)
          · exact g.elim
          · exact Or.inr (Or.inr g)
        · rintro (g | g | g)
          · exact absurd g hP
          · rw [e] at g; exact absurd g (by decide)
          · exact Or.inr g
      · rw [e, if_neg (by decide)]
        unfold fX12_hasStep_L62 fX12_hasStep_L67
        rw [zlet_eq, nI_1]
        have := ih True (by omega) (by omega)
        rw [zbp_t trivial] at this
        rw [this, zbp_t (Or.inl trivial), zbp_t (Or.inr ((m_split (v := v) (s := s) (t := t) (m := m) (i := i) (by omega) (by omega)).mpr (Or.inl e)))]
theorem m_hasL3 {M : zMem} {nv ns : Nat} (hT : gTeam nv ns M) (hL : gLearn nv ns M) {v t : Nat} (hv : v < nv) (ht : t < 200) {N : Nat} (hN : 300 < N) : ∀ d s f, s < ns → s < d → d < f → fX12_hasStep_L3 N f (nI v) (nI t) (nI s) M = some (if zhas M v d s t = true then 1 else 0, M)
  | 0, s, f, h1, h2, h3 => by omega
  | d + 1, s, f + 1, h1, h2, h3 => by
    have ih := m_hasL3 hT hL hv ht hN d
    have hT' := hT
    obtain ⟨t0, t1, t2, s0, s1, s2, r1, r2⟩ := hT
    obtain ⟨g1, g2, g3, m, m1, m2, g4⟩ := r2 s h1
    have hm : M.1 94 s = nI m := by rw [← g2]; exact g4
    have hne : ¬ nI s = (-1 : Int32) := by rw [z_m1 (by omega)]; exact id
    rw [fX12_hasStep_L3, if_neg hne]
    have hi := m_hasL15 hT' hL (v := v) (s := s) (t := t) (m := m) (by omega) h1 ht hm m2 (N := N) (k3 := fX12_hasStep_L3 N f) (min m (t + 1)) 0 N False (by omega) (by omega)
    rw [zbp_f id, show nI 0 = 0 from rfl] at hi
    rw [hi]
    have hbit := (hL v s t (by omega) (by omega) ht).2.2 hv h1
    rw [hm, z_cl (by omega)] at hbit
    have hiff : (False ∨ ∃ k, 0 ≤ k ∧ k < m ∧ k ≤ t ∧ M.1 95 (200 * (8 * v + s) + (t - k)) = 1) ↔ (M.2.1 27 t).toBitVec.getLsbD (8 * v + s) = true := by
      rw [hbit]
      constructor
      · rintro (g | ⟨k, -, k2, k3, k4⟩)
        · exact g.elim
        · exact ⟨t - k, by omega, by omega, k4⟩
      · rintro ⟨k, k1, k2, k3⟩
        refine Or.inr ⟨t - k, by omega, by omega, by omega, ?_⟩
        rw [show t - (t - k) = k by omega]
        exact k3
    rw [zbp_iff hiff, zhas]
    unfold fX12_hasStep_L75
    by_cases e : (M.2.1 27 t).toBitVec.getLsbD (8 * v + s) = true
    · rw [zbp_t e, if_neg (by decide), z_ldI (by omega) (by omega), zbd_some, ← g1]
      rcases g3 with g3 | ⟨j, hj, g3⟩
      · obtain ⟨f', rfl⟩ : ∃ f', f = f' + 1 := ⟨f - 1, by omega⟩
        rw [g3, fX12_hasStep_L3, if_pos rfl]
        simp [e]
      · rw [g3, ih j f (by omega) (by omega) (by omega)]
        have hne2 : ¬ nI j = (-1 : Int32) := by rw [z_m1 (by omega)]; exact id
        simp only [e, Bool.true_and, if_neg hne2, z_cl (show j < 2147483648 by omega)]
    · have e' : (M.2.1 27 t).toBitVec.getLsbD (8 * v + s) = false := by simpa using e
      rw [zbp_f e, if_pos rfl]
      simp [e']
theorem m_hasStep {M : zMem} {nv ns : Nat} (hT : gTeam nv ns M) (hL : gLearn nv ns M) {v s n : Nat} (hv : v < nv) (hs : s < ns) (hn : n < 200) {N : Nat} (hN : 300 < N) : fX12_hasStep N (nI v) (nI s) (nI n) M = some (if zhas M v 8 s n = true then 1 else 0, M) := by
  have := hT.2.2.2.1
  exact m_hasL3 hT hL hv hn hN 8 s N hs (by omega) (by omega)
/-- has -/
theorem q_has {M : zMem} {nv ns : Nat} (hT : gTeam nv ns M) (hL : gLearn nv ns M) (x1 x2 x3 : Int32) {N : Nat} (hN : 300 < N) : ∃ r, fX11_has N x1 x2 x3 M = some (r, M) ∧ fX12_has N x1 x2 x3 M = some (r, M) := by
  have hT' := hT
  obtain ⟨t0, t1, t2, s0, s1, s2, -⟩ := hT
  unfold fX11_has fX12_has
  rw [p_isVol t0 t1, m_isVol t0 t2]
  simp only [zb2_some, p_isStep s0 s1, p_isNightZ, m_isNightZ, s2]
  have hr : ∀ (a b : Option (Int32 × zMem)), (if x2 < 0 then a else if nI ns ≤ x2 then a else b) = if zin x2 ns = true then b else a := fun a b => z_rng x2 (by omega) a b
  by_cases e1 : zin x1 nv = true
  · obtain ⟨v, hv, rfl⟩ := z_zinE (by omega) e1
    simp only [e1, if_true, if_neg (show ¬ (1 : Int32) = 0 by decide), hr]
    by_cases e2 : zin x2 ns = true
    · obtain ⟨s, hs, rfl⟩ := z_zinE (by omega) e2
      simp only [e2, if_true, if_neg (show ¬ (1 : Int32) = 0 by decide)]
      by_cases e3 : zin x3 200 = true
      · obtain ⟨n, hn, rfl⟩ := z_zinE (by omega) e3
        simp only [e3, if_true, if_neg (show ¬ (1 : Int32) = 0 by decide), p_hasStep hT' hv hs hn (show 10 < N by omega), m_hasStep hT' hL hv hs hn hN, zb2_some]
        by_cases w : zhas M v 8 s n = true
        · simp only [w, if_true, if_neg (show ¬ (1 : Int32) = 0 by decide)]; exact ⟨_, rfl, rfl⟩
        · simp only [w, if_false, if_true]; exact ⟨_, rfl, rfl⟩
      · simp only [e3, if_false]
        exact ⟨_, rfl, rfl⟩
    · simp only [e2, if_false]
      exact ⟨_, rfl, rfl⟩
  · simp only [e1, if_false]
    exact ⟨_, rfl, rfl⟩
