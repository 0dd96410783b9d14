/-! care, due -/
noncomputable def zbp (p : Prop) : Int32 := @ite Int32 p (Classical.propDecidable p) 1 0
theorem zbp_t {p : Prop} (h : p) : zbp p = 1 := if_pos h
theorem zbp_f {p : Prop} (h : ¬ p) : zbp p = 0 := if_neg h
theorem zbp_iff {p q : Prop} (h : p ↔ q) : zbp p = zbp q := by rw [propext h]
theorem p_hardL3 {M : zMem} {nv c nc nst : Nat} (hC : gCalls nv c nc nst M) {v a b : Nat} (ha : a < 200) (hb : b < 200) {N : Nat} : ∀ d i n, i + d = nc → d < n → fX1_hasHardCall_L3 N n (nI v) (nI a) (nI b) (nI i) M = some (zbp (∃ k, i ≤ k ∧ k < nc ∧ (∃ q, a ≤ q ∧ q < b ∧ M.1 48 k = nI q) ∧ M.1 55 k = nI v ∧ nI 8 ≤ M.1 51 k), M)
  | 0, i, n + 1, h, _ => by
    obtain ⟨h0, -, -, h1, h2, -, h3, h4⟩ := hC
    rw [fX1_hasHardCall_L3]
    have hno : ¬ ∃ k, i ≤ k ∧ k < nc ∧ (∃ q, a ≤ q ∧ q < b ∧ M.1 48 k = nI q) ∧ M.1 55 k = nI v ∧ nI 8 ≤ M.1 51 k := fun ⟨k, q1, q2, _⟩ => by omega
    rw [zbp_f hno]
    simp (disch := omega) only [z_lit, z_le, z_lt, z_eq, z_add, z_sub, z_mul, z_ldI, z_ldJ, z_stI, z_stJ, z_stB, z_cl, zpI_1, zpI_2, zpJ_1, zb2_some, zbd_some, zlet_eq, if_pos, if_neg, z_m1, z_m1n, and_self, and_true, true_and, and_false, false_and, if_true, if_false, Nat.add_sub_cancel, eq_self, not_true_eq_false, not_false_eq_true, h1]
  | d + 1, i, n + 1, h, hn => by
    have ih := p_hardL3 hC (v := v) ha hb (N := N) d (i + 1) n (by omega) (by omega)
    obtain ⟨h0, -, -, h1, h2, -, h3, h4⟩ := hC
    obtain ⟨⟨q, q1, -, -, eq⟩, -, -, ⟨w, w1, ew⟩, -⟩ := h4 i (by omega)
    have hi : ¬ nI nc ≤ nI i := by rw [z_le (by omega) (by omega)]; omega
    have step : (∃ k, i ≤ k ∧ k < nc ∧ (∃ q, a ≤ q ∧ q < b ∧ M.1 48 k = nI q) ∧ M.1 55 k = nI v ∧ nI 8 ≤ M.1 51 k) ↔ ((a ≤ q ∧ q < b ∧ M.1 55 i = nI v ∧ 8 ≤ w) ∨ ∃ k, i + 1 ≤ k ∧ k < nc ∧ (∃ q, a ≤ q ∧ q < b ∧ M.1 48 k = nI q) ∧ M.1 55 k = nI v ∧ nI 8 ≤ M.1 51 k) := by
      constructor
      · rintro ⟨k, k1, k2, ⟨q', g1, g2, g3⟩, g4, g5⟩
        rcases Nat.lt_or_ge i k with hk | hk
        · exact Or.inr ⟨k, hk, k2, ⟨q', g1, g2, g3⟩, g4, g5⟩
        · have : k = i := by omega
          subst this
          rw [eq, z_eq (by omega) (by omega)] at g3
          rw [ew, z_le (by omega) (by omega)] at g5
          subst g3
          exact Or.inl ⟨g1, g2, g4, g5⟩
      · rintro (⟨g1, g2, g4, g5⟩ | ⟨k, k1, k2, g⟩)
        · exact ⟨i, Nat.le_refl i, by omega, ⟨q, g1, g2, eq⟩, g4, by rw [ew, z_le (by omega) (by omega)]; exact g5⟩
        · exact ⟨k, by omega, k2, g⟩
    rw [fX1_hasHardCall_L3, h1, if_neg hi]
    unfold fX1_hasHardCall_L38 fX1_hasHardCall_L39 fX1_hasHardCall_L71
    rw [show (8 : Int32) = nI 8 from rfl]
    simp only [zlet_eq, nI_1]
    rw [z_ldI (by omega) (by omega), zbd_some, zbd_some, z_ldI (by omega) (by omega), z_ldI (by omega) (by omega), zbd_some, zbd_some, eq, ew, ih]
    by_cases c1 : q < a
    · have e : (nI q < nI a) = True := by rw [z_lt (by omega) (by omega)]; exact eq_true c1
      simp only [e, if_true]
      refine congrArg some (Prod.ext (zbp_iff ?_) rfl)
      rw [step]
      constructor
      · intro g; exact Or.inr g
      · rintro (g | g)
        · omega
        · exact g
    · have e : (nI q < nI a) = False := by rw [z_lt (by omega) (by omega)]; exact eq_false c1
      simp only [e, if_false]
      by_cases c2 : b ≤ q
      · have e2 : (nI b ≤ nI q) = True := by rw [z_le (by omega) (by omega)]; exact eq_true c2
        simp only [e2, if_true]
        refine congrArg some (Prod.ext (zbp_iff ?_) rfl)
        rw [step]
        constructor
        · intro g; exact Or.inr g
        · rintro (g | g)
          · omega
          · exact g
      · have e2 : (nI b ≤ nI q) = False := by rw [z_le (by omega) (by omega)]; exact eq_false c2
        simp only [e2, if_false, if_neg (show ¬ (1 : Int32) = 0 by decide)]
        by_cases c3 : M.1 55 i = nI v
        · simp only [c3, if_true]
          by_cases c4 : w < 8
          · have e4 : (nI w < nI 8) = True := by rw [z_lt (by omega) (by omega)]; exact eq_true c4
            simp only [e4, if_true]
            refine congrArg some (Prod.ext (zbp_iff ?_) rfl)
            rw [step]
            constructor
            · intro g; exact Or.inr g
            · rintro (g | g)
              · omega
              · exact g
          · have e4 : (nI w < nI 8) = False := by rw [z_lt (by omega) (by omega)]; exact eq_false c4
            simp only [e4, if_false]
            rw [zbp_t (step.mpr (Or.inl ⟨by omega, by omega, c3, by omega⟩))]
        · simp only [c3, if_false]
          refine congrArg some (Prod.ext (zbp_iff ?_) rfl)
          rw [step]
          constructor
          · intro g; exact Or.inr g
          · rintro (g | g)
            · exact absurd g.2.2.1 c3
            · exact g
theorem m_dueL7 {M : zMem} {nc c : Nat} (hc : c < 200) (h1 : M.1 69 44 = nI c) (hH : gHard nc M) {v : Nat} (hv : v < 8) {N : Nat} : ∀ d i n, i + d = c → d < n → fX12_isDue_L7 N n (nI v) (nI i) M = some (zbp (∃ k, i ≤ k ∧ k < c ∧ M.1 97 (200 * v + k) = 1), M)
  | 0, i, n + 1, h, _ => by
    rw [fX12_isDue_L7]
    have hno : ¬ ∃ k, i ≤ k ∧ k < c ∧ M.1 97 (200 * v + k) = 1 := fun ⟨k, q1, q2, _⟩ => by omega
    rw [zbp_f hno]
    simp (disch := omega) only [z_lit, z_le, z_lt, z_eq, z_add, z_sub, z_mul, z_ldI, z_ldJ, z_stI, z_stJ, z_stB, z_cl, zpI_1, zpI_2, zpJ_1, zb2_some, zbd_some, zlet_eq, if_pos, if_neg, z_m1, z_m1n, and_self, and_true, true_and, and_false, false_and, if_true, if_false, Nat.add_sub_cancel, eq_self, not_true_eq_false, not_false_eq_true, h1]
  | d + 1, i, n + 1, h, hn => by
    have ih := m_dueL7 hc h1 hH hv (N := N) d (i + 1) n (by omega) (by omega)
    have hi : ¬ nI c ≤ nI i := by rw [z_le (by omega) (by omega)]; omega
    rw [fX12_isDue_L7, h1, if_neg hi, show (200 : Int32) = nI 200 from rfl, z_mul, z_add, z_ldI (by omega) (by omega), zbd_some]
    rcases (hH.1 v i hv (by omega)).1 with e | e
    · rw [e, if_pos rfl, zlet_eq, nI_1, ih]
      refine congrArg some (Prod.ext (zbp_iff ?_) rfl)
      constructor
      · rintro ⟨k, k1, k2, k3⟩; exact ⟨k, by omega, k2, k3⟩
      · rintro ⟨k, k1, k2, k3⟩
        rcases Nat.lt_or_ge i k with g | g
        · exact ⟨k, g, k2, k3⟩
        · have : k = i := by omega
          subst this
          rw [e] at k3
          exact absurd k3 (by decide)
    · rw [e, if_neg (by decide), zbp_t ⟨i, Nat.le_refl i, by omega, e⟩]
/-- CARE is due: both say the same -/
theorem q_isDue {nv ns c nc nst : Nat} {M : zMem} (hT : gTeam nv ns M) (hK : gClock c M) (hC : gCalls nv c nc nst M) (hH : gHard nc M) {v : Nat} (hv : v < nv) {N : Nat} (hN : 400 < N) : ∃ b : Int32, (b = 0 ∨ b = 1) ∧ fX11_careIsDue N (nI v) M = some (b, M) ∧ fX12_isDue N (nI v) M = some (b, M) := by
  obtain ⟨t0, t1, t2, -⟩ := hT
  obtain ⟨c0, c1, c2⟩ := hK
  obtain ⟨e1, n, hn, e2⟩ := hH.2 v (by omega)
  have hnc := hC.1
  unfold fX11_careIsDue fX12_isDue fX1_hasHardCall
  rw [p_caredFrom t0 t1, if_pos (z_zinI (by omega) hv), z_cl (by omega), zb2_some, e2, c1, show (0 : Int32) = nI 0 from rfl, p_hardL3 hC hn c0 nc 0 N (by omega) (by omega), zb2_some, z_ldI (by omega) (by omega), zbd_some, ← e1, e2]
  have hiff : (∃ k, 0 ≤ k ∧ k < nc ∧ (∃ q, n ≤ q ∧ q < c ∧ M.1 48 k = nI q) ∧ M.1 55 k = nI v ∧ nI 8 ≤ M.1 51 k) ↔ (∃ k, n ≤ k ∧ k < c ∧ M.1 97 (200 * v + k) = 1) := by
    constructor
    · rintro ⟨k, -, k2, ⟨q, q1, q2, q3⟩, k4, k5⟩
      exact ⟨q, q1, q2, ((hH.1 v q (by omega) (by omega)).2.1).mpr ⟨k, k2, q3, k4, k5⟩⟩
    · rintro ⟨q, q1, q2, q3⟩
      obtain ⟨k, k2, k3, k4, k5⟩ := ((hH.1 v q (by omega) (by omega)).2.1).mp q3
      exact ⟨k, Nat.zero_le k, k2, ⟨q, q1, q2, k3⟩, k4, k5⟩
  by_cases hq : ∃ k, n ≤ k ∧ k < c ∧ M.1 97 (200 * v + k) = 1
  · refine ⟨1, Or.inr rfl, ?_, ?_⟩
    · rw [zbp_t (hiff.mpr hq)]; rfl
    · obtain ⟨k, k1, k2, k3⟩ := id hq
      rw [m_dueL7 c0 c2 hH (by omega) (c - n) n N (by omega) (by omega), zbp_t hq]
  · refine ⟨0, Or.inl rfl, ?_, ?_⟩
    · rw [zbp_f (fun g => hq (hiff.mp g))]; rfl
    · by_cases hcn : n ≤ c
      · rw [m_dueL7 c0 c2 hH (by omega) (c - n) n N (by omega) (by omega), zbp_f hq]
      · obtain ⟨N', rfl⟩ : ∃ N', N = N' + 1 := ⟨N - 1, by omega⟩
        rw [fX12_isDue_L7]
        simp (disch := omega) only [z_lit, z_le, z_lt, z_eq, z_add, z_sub, z_mul, z_ldI, z_ldJ, z_stI, z_stJ, z_stB, z_cl, zpI_1, zpI_2, zpJ_1, zb2_some, zbd_some, zlet_eq, if_pos, if_neg, z_m1, z_m1n, and_self, and_true, true_and, and_false, false_and, if_true, if_false, Nat.add_sub_cancel, eq_self, not_true_eq_false, not_false_eq_true, c2]
