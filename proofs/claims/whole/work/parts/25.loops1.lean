/-! marks of nights; loops that only read -/
theorem z_mk : ∀ h, h < 2 → ∀ f, f < 2 → ∀ g, g < 2 → (nI (h + 2 * f + 4 * g) &&& nI 1 = nI h ∧ nI (h + 2 * f + 4 * g) &&& nI 2 = nI (2 * f) ∧ nI (h + 2 * f + 4 * g) &&& nI 4 = nI (4 * g) ∧ nI (h + 2 * f + 4 * g) ||| nI 1 = nI (1 + 2 * f + 4 * g) ∧ nI (h + 2 * f + 4 * g) ||| nI 2 = nI (h + 2 * 1 + 4 * g) ∧ nI (h + 2 * f + 4 * g) ||| nI 4 = nI (h + 2 * f + 4 * 1)) := by decide
theorem p_isHoliday {M : zMem} (hC : gCal M) {n : Nat} (hn : n < 200) : fX0_isHoliday (nI n) M = some (M.1 99 n, M) := by
  obtain ⟨h, f, g, h1, h2, h3, e1, e2, e3, e4⟩ := hC n hn
  obtain ⟨k1, k2, k3, -⟩ := z_mk h h1 f h2 g h3
  unfold fX0_isHoliday fX0_isMarked fX11_isNight
  rcases (show h = 0 ∨ h = 1 by omega) with rfl | rfl
  · simp (disch := omega) only [z_lit, z_le, z_lt, z_eq, z_add, z_sub, z_mul, z_ldI, z_ldJ, z_stI, z_stJ, z_stB, z_cl, zpI_1, zpI_2, zpJ_1, zb2_some, zbd_some, zlet_eq, if_pos, if_neg, z_m1, z_m1n, and_self, and_true, true_and, and_false, false_and, if_true, if_false, Nat.add_sub_cancel, eq_self, not_true_eq_false, not_false_eq_true, e1, k1, e2, zgb]; rfl
  · simp (disch := omega) only [z_lit, z_le, z_lt, z_eq, z_add, z_sub, z_mul, z_ldI, z_ldJ, z_stI, z_stJ, z_stB, z_cl, zpI_1, zpI_2, zpJ_1, zb2_some, zbd_some, zlet_eq, if_pos, if_neg, z_m1, z_m1n, and_self, and_true, true_and, and_false, false_and, if_true, if_false, Nat.add_sub_cancel, eq_self, not_true_eq_false, not_false_eq_true, e1, k1, e2, zgb]; rfl
theorem p_isFound {M : zMem} (hC : gCal M) {n : Nat} (hn : n < 200) : fX0_isFound (nI n) M = some (M.1 101 n, M) := by
  obtain ⟨h, f, g, h1, h2, h3, e1, e2, e3, e4⟩ := hC n hn
  obtain ⟨k1, k2, k3, -⟩ := z_mk h h1 f h2 g h3
  unfold fX0_isFound fX0_isMarked fX11_isNight
  rcases (show f = 0 ∨ f = 1 by omega) with rfl | rfl
  · simp (disch := omega) only [z_lit, z_le, z_lt, z_eq, z_add, z_sub, z_mul, z_ldI, z_ldJ, z_stI, z_stJ, z_stB, z_cl, zpI_1, zpI_2, zpJ_1, zb2_some, zbd_some, zlet_eq, if_pos, if_neg, z_m1, z_m1n, and_self, and_true, true_and, and_false, false_and, if_true, if_false, Nat.add_sub_cancel, eq_self, not_true_eq_false, not_false_eq_true, e1, k2, e3, zgb]; rfl
  · simp (disch := omega) only [z_lit, z_le, z_lt, z_eq, z_add, z_sub, z_mul, z_ldI, z_ldJ, z_stI, z_stJ, z_stB, z_cl, zpI_1, zpI_2, zpJ_1, zb2_some, zbd_some, zlet_eq, if_pos, if_neg, z_m1, z_m1n, and_self, and_true, true_and, and_false, false_and, if_true, if_false, Nat.add_sub_cancel, eq_self, not_true_eq_false, not_false_eq_true, e1, k2, e3, zgb]; rfl
theorem p_isGone {M : zMem} (hC : gCal M) {n : Nat} (hn : n < 200) : fX0_isGone (nI n) M = some (M.1 100 n, M) := by
  obtain ⟨h, f, g, h1, h2, h3, e1, e2, e3, e4⟩ := hC n hn
  obtain ⟨k1, k2, k3, -⟩ := z_mk h h1 f h2 g h3
  unfold fX0_isGone fX0_isMarked fX11_isNight
  rcases (show g = 0 ∨ g = 1 by omega) with rfl | rfl
  · simp (disch := omega) only [z_lit, z_le, z_lt, z_eq, z_add, z_sub, z_mul, z_ldI, z_ldJ, z_stI, z_stJ, z_stB, z_cl, zpI_1, zpI_2, zpJ_1, zb2_some, zbd_some, zlet_eq, if_pos, if_neg, z_m1, z_m1n, and_self, and_true, true_and, and_false, false_and, if_true, if_false, Nat.add_sub_cancel, eq_self, not_true_eq_false, not_false_eq_true, e1, k3, e4, zgb]; rfl
  · simp (disch := omega) only [z_lit, z_le, z_lt, z_eq, z_add, z_sub, z_mul, z_ldI, z_ldJ, z_stI, z_stJ, z_stB, z_cl, zpI_1, zpI_2, zpJ_1, zb2_some, zbd_some, zlet_eq, if_pos, if_neg, z_m1, z_m1n, and_self, and_true, true_and, and_false, false_and, if_true, if_false, Nat.add_sub_cancel, eq_self, not_true_eq_false, not_false_eq_true, e1, k3, e4, zgb]; rfl
theorem p_isGone_o {M : zMem} {x : Int32} (hx : zin x 200 = false) : fX0_isGone x M = some (0, M) := by
  unfold fX0_isGone fX0_isMarked
  rw [p_isNightZ]
  simp [hx, zb2, zgb]
theorem gCal_01 {M : zMem} (hC : gCal M) {n : Nat} (hn : n < 200) : (M.1 99 n = 0 ∨ M.1 99 n = 1) ∧ (M.1 101 n = 0 ∨ M.1 101 n = 1) ∧ (M.1 100 n = 0 ∨ M.1 100 n = 1) := by
  obtain ⟨h, f, g, h1, h2, h3, e1, e2, e3, e4⟩ := hC n hn
  rw [e2, e3, e4]
  rcases (show h = 0 ∨ h = 1 by omega) with rfl | rfl <;> rcases (show f = 0 ∨ f = 1 by omega) with rfl | rfl <;> rcases (show g = 0 ∨ g = 1 by omega) with rfl | rfl <;> decide
/-- counts and sums from i on -/
def zcr (p : Nat → Bool) : Nat → Nat → Nat
  | _, 0 => 0
  | i, d + 1 => (if p i then 1 else 0) + zcr p (i + 1) d
theorem zcr_le (p : Nat → Bool) : ∀ d i, zcr p i d ≤ d
  | 0, i => Nat.le_refl 0
  | d + 1, i => by
    have h := zcr_le p d (i + 1)
    rw [zcr]
    split <;> omega
theorem zcr_cnt (p : Nat → Bool) : ∀ d i, zcnt p (i + d) = zcnt p i + zcr p i d
  | 0, i => rfl
  | d + 1, i => by
    have h := zcr_cnt p d (i + 1)
    rw [zcr, show i + (d + 1) = i + 1 + d by omega, h, zcnt]
    omega
theorem zcr_cong {p q : Nat → Bool} : ∀ d i, (∀ k, i ≤ k → k < i + d → p k = q k) → zcr p i d = zcr q i d
  | 0, i, h => rfl
  | d + 1, i, h => by
    rw [zcr, zcr, h i (Nat.le_refl i) (by omega), zcr_cong d (i + 1) (fun k h1 h2 => h k (by omega) (by omega))]
def zsr (f : Nat → Nat) : Nat → Nat → Nat
  | _, 0 => 0
  | i, d + 1 => f i + zsr f (i + 1) d
theorem zsr_sum (f : Nat → Nat) : ∀ d i, zsum f (i + d) = zsum f i + zsr f i d
  | 0, i => rfl
  | d + 1, i => by
    have h := zsr_sum f d (i + 1)
    rw [zsr, show i + (d + 1) = i + 1 + d by omega, h, zsum]
    omega
theorem zsr_le (f : Nat → Nat) {c : Nat} : ∀ d i, (∀ k, i ≤ k → k < i + d → f k ≤ c) → zsr f i d ≤ d * c
  | 0, i, h => by simp [zsr]
  | d + 1, i, h => by
    have h1 := zsr_le f (c := c) d (i + 1) (fun k h1 h2 => h k (by omega) (by omega))
    have h2 := h i (Nat.le_refl i) (by omega)
    rw [zsr, Nat.succ_mul]
    omega
theorem p_goneL4 {M : zMem} (hC : gCal M) {N : Nat} : ∀ d i a n, i + d = 200 → d < n → a ≤ i → fX0_countGone_L4 N n (nI a) (nI i) M = some (nI (a + zcr (fun k => M.1 100 k == 1) i d), M)
  | 0, i, a, n + 1, h, _, ha => by
    rw [fX0_countGone_L4]
    simp (disch := omega) only [z_lit, z_le, z_lt, z_eq, z_add, z_sub, z_mul, z_ldI, z_ldJ, z_stI, z_stJ, z_stB, z_cl, zpI_1, zpI_2, zpJ_1, zb2_some, zbd_some, zlet_eq, if_pos, if_neg, z_m1, z_m1n, and_self, and_true, true_and, and_false, false_and, if_true, if_false, Nat.add_sub_cancel, eq_self, not_true_eq_false, not_false_eq_true, zcr, Nat.add_zero]
  | d + 1, i, a, n + 1, h, hn, ha => by
    have ih := p_goneL4 hC (N := N) d (i + 1)
    rw [fX0_countGone_L4]
    have hi : ¬ (200 : Int32) ≤ nI i := by rw [show (200 : Int32) = nI 200 from rfl, z_le (by omega) (by omega)]; omega
    rw [if_neg hi, p_isGone hC (by omega), zb2_some]
    rcases (gCal_01 hC (n := i) (by omega)).2.2 with e | e
    · rw [e, if_pos rfl, fX0_countGone_L22, zlet_eq, nI_1, ih a n (by omega) (by omega) (by omega), zcr, e]
      simp
    · rw [e, if_neg (by decide), zlet_eq, fX0_countGone_L22, zlet_eq, nI_1, nI_1, ih (a + 1) n (by omega) (by omega) (by omega), zcr, e]
      simp only [beq_self_eq_true, if_true]
      rw [show a + 1 + zcr (fun k => M.1 100 k == 1) (i + 1) d = a + (1 + zcr (fun k => M.1 100 k == 1) (i + 1) d) by omega]
theorem p_countGone {M : zMem} (hC : gCal M) {N : Nat} (hN : 200 < N) : fX0_countGone N M = some (nI (zcnt (fun k => M.1 100 k == 1) 200), M) := by
  unfold fX0_countGone
  have h := p_goneL4 hC (N := N) 200 0 0 N (by omega) hN (by omega)
  have h2 := zcr_cnt (fun k => M.1 100 k == 1) 200 0
  rw [show (0 : Int32) = nI 0 from rfl, h]
  rw [show (0 : Nat) + 200 = 200 from rfl] at h2
  rw [h2]
  rfl
theorem p_stateL4 {M : zMem} {nc : Nat} {q : Int32} (h0 : nc ≤ 400) (h1 : M.1 47 9 = nI nc) {N : Nat} : ∀ d i a n, i + d = nc → d < n → a ≤ i → fX1_countState_L4 N n q (nI a) (nI i) M = some (nI (a + zcr (fun k => M.1 54 k == q) i d), M)
  | 0, i, a, n + 1, h, _, ha => by
    rw [fX1_countState_L4]
    simp (disch := omega) only [z_lit, z_le, z_lt, z_eq, z_add, z_sub, z_mul, z_ldI, z_ldJ, z_stI, z_stJ, z_stB, z_cl, zpI_1, zpI_2, zpJ_1, zb2_some, zbd_some, zlet_eq, if_pos, if_neg, z_m1, z_m1n, and_self, and_true, true_and, and_false, false_and, if_true, if_false, Nat.add_sub_cancel, eq_self, not_true_eq_false, not_false_eq_true, zcr, Nat.add_zero, h1]
  | d + 1, i, a, n + 1, h, hn, ha => by
    have ih := p_stateL4 (q := q) h0 h1 (N := N) d (i + 1)
    rw [fX1_countState_L4, h1]
    have hi : ¬ nI nc ≤ nI i := by rw [z_le (by omega) (by omega)]; omega
    rw [if_neg hi, z_ldI (by omega) (by omega), zbd_some]
    by_cases e : M.1 54 i = q
    · rw [if_pos e, zlet_eq, fX1_countState_L25, zlet_eq, nI_1, nI_1, ih (a + 1) n (by omega) (by omega) (by omega), zcr]
      simp only [e, beq_self_eq_true, if_true]
      rw [show a + 1 + zcr (fun k => M.1 54 k == q) (i + 1) d = a + (1 + zcr (fun k => M.1 54 k == q) (i + 1) d) by omega]
    · rw [if_neg e, fX1_countState_L25, zlet_eq, nI_1, ih a n (by omega) (by omega) (by omega), zcr]
      simp [e]
theorem m_howL4 {M : zMem} {nc : Nat} {q : Int32} (h0 : nc ≤ 400) (h1 : M.1 69 60 = nI nc) {N : Nat} : ∀ d i a n, i + d = nc → d < n → a ≤ i → fX12_how_L4 N n q (nI a) (nI i) M = some (nI (a + zcr (fun k => M.1 118 k == q) i d), M)
  | 0, i, a, n + 1, h, _, ha => by
    rw [fX12_how_L4]
    simp (disch := omega) only [z_lit, z_le, z_lt, z_eq, z_add, z_sub, z_mul, z_ldI, z_ldJ, z_stI, z_stJ, z_stB, z_cl, zpI_1, zpI_2, zpJ_1, zb2_some, zbd_some, zlet_eq, if_pos, if_neg, z_m1, z_m1n, and_self, and_true, true_and, and_false, false_and, if_true, if_false, Nat.add_sub_cancel, eq_self, not_true_eq_false, not_false_eq_true, zcr, Nat.add_zero, h1]
  | d + 1, i, a, n + 1, h, hn, ha => by
    have ih := m_howL4 (q := q) h0 h1 (N := N) d (i + 1)
    rw [fX12_how_L4, h1]
    have hi : ¬ nI nc ≤ nI i := by rw [z_le (by omega) (by omega)]; omega
    rw [if_neg hi, z_ldI (by omega) (by omega), zbd_some]
    by_cases e : M.1 118 i = q
    · rw [if_pos e, zlet_eq, fX12_how_L25, zlet_eq, nI_1, nI_1, ih (a + 1) n (by omega) (by omega) (by omega), zcr]
      simp only [e, beq_self_eq_true, if_true]
      rw [show a + 1 + zcr (fun k => M.1 118 k == q) (i + 1) d = a + (1 + zcr (fun k => M.1 118 k == q) (i + 1) d) by omega]
    · rw [if_neg e, fX12_how_L25, zlet_eq, nI_1, ih a n (by omega) (by omega) (by omega), zcr]
      simp [e]
/-- how many calls are in a state: both count the same -/
theorem q_state {nv c nc nst : Nat} {M : zMem} (hC : gCalls nv c nc nst M) (q : Int32) {N : Nat} (hN : 400 < N) : ∃ r, fX1_countState N q M = some (r, M) ∧ fX12_how N q M = some (r, M) := by
  obtain ⟨h0, -, -, h1, h2, -, h3, -⟩ := hC
  refine ⟨_, p_stateL4 h0 h1 nc 0 0 N (by omega) (by omega) (by omega), ?_⟩
  rw [show fX12_how N q M = _ from m_howL4 h0 h2 nc 0 0 N (by omega) (by omega) (by omega)]
  rw [zcr_cong (q := fun k => M.1 54 k == q) nc 0 (fun k _ hk => by rw [(h3 k (by omega)).2.2.2.2.2.2.1])]
/-- minutes talked in a night -/
theorem p_minL5 {M : zMem} {nv c nc nst : Nat} (hC : gCalls nv c nc nst M) {v n0 : Nat} {N : Nat} : ∀ d i a n, i + d = nc → d < n → a ≤ i * 90 → fX1_minutesOf_L5 N n (nI v) (nI n0) (nI a) (nI i) M = some (nI (a + zsr (fun k => if M.1 48 k = nI n0 ∧ M.1 55 k = nI v then (M.1 53 k).toNatClampNeg else 0) i d), M)
  | 0, i, a, n + 1, h, _, ha => by
    obtain ⟨h0, -, -, h1, h2, -, h3, h4⟩ := hC
    rw [fX1_minutesOf_L5]
    simp (disch := omega) only [z_lit, z_le, z_lt, z_eq, z_add, z_sub, z_mul, z_ldI, z_ldJ, z_stI, z_stJ, z_stB, z_cl, zpI_1, zpI_2, zpJ_1, zb2_some, zbd_some, zlet_eq, if_pos, if_neg, z_m1, z_m1n, and_self, and_true, true_and, and_false, false_and, if_true, if_false, Nat.add_sub_cancel, eq_self, not_true_eq_false, not_false_eq_true, zsr, Nat.add_zero, h1]
  | d + 1, i, a, n + 1, h, hn, ha => by
    have ih := p_minL5 hC (v := v) (n0 := n0) (N := N) d (i + 1)
    obtain ⟨h0, -, -, h1, h2, -, h3, h4⟩ := hC
    obtain ⟨m, m1, m2, em⟩ := (h4 i (by omega)).2.2.2.2.2.1
    rw [fX1_minutesOf_L5, h1]
    have hi : ¬ nI nc ≤ nI i := by rw [z_le (by omega) (by omega)]; omega
    rw [if_neg hi, z_ldI (by omega) (by omega), zbd_some]
    by_cases e : M.1 48 i = nI n0
    · rw [if_pos e, z_ldI (by omega) (by omega), zbd_some]
      by_cases e2 : M.1 55 i = nI v
      · rw [if_pos e2, z_ldI (by omega) (by omega), zbd_some, em, z_add, zlet_eq, fX1_minutesOf_L46, zlet_eq, nI_1, ih (a + m) n (by omega) (by omega) (by omega), zsr]
        simp only [e, e2, em, and_self, if_true, z_cl (show m < 2147483648 by omega)]
        rw [Nat.add_assoc]
      · rw [if_neg e2, fX1_minutesOf_L46, zlet_eq, nI_1, ih a n (by omega) (by omega) (by omega), zsr]
        simp [e2]
    · rw [if_neg e, fX1_minutesOf_L46, zlet_eq, nI_1, ih a n (by omega) (by omega) (by omega), zsr]
      simp [e]
theorem p_minutesOf {M : zMem} {nv c nc nst : Nat} (hC : gCalls nv c nc nst M) {v n0 : Nat} {N : Nat} (hN : 400 < N) : fX1_minutesOf N (nI v) (nI n0) M = some (nI (zsum (fun k => if M.1 48 k = nI n0 ∧ M.1 55 k = nI v then (M.1 53 k).toNatClampNeg else 0) nc), M) := by
  have h0 := hC.1
  have h := p_minL5 hC (v := v) (n0 := n0) (N := N) nc 0 0 N (by omega) (by omega) (by omega)
  have h2 := zsr_sum (fun k => if M.1 48 k = nI n0 ∧ M.1 55 k = nI v then (M.1 53 k).toNatClampNeg else 0) nc 0
  unfold fX1_minutesOf
  rw [show (0 : Int32) = nI 0 from rfl, h, Nat.zero_add]
  rw [Nat.zero_add] at h2
  rw [h2]
  simp [zsum]
/-- talked -/
theorem q_talked {nv ns c nc nst : Nat} {M : zMem} (hT : gTeam nv ns M) (hL : gCal M) (hC : gCalls nv c nc nst M) (hH : gHard nc M) (x1 x2 : Int32) {N : Nat} (hN : 400 < N) : ∃ r, fX11_talked N x1 x2 M = some (r, M) ∧ fX12_talked x1 x2 M = some (r, M) := by
  obtain ⟨t0, t1, t2, -⟩ := hT
  unfold fX11_talked fX12_talked
  rw [p_isVol t0 t1, m_isVol t0 t2]
  simp only [m_isNightZ]
  by_cases e1 : zin x1 nv = true
  · obtain ⟨v, hv, rfl⟩ := z_zinE (by omega) e1
    simp only [e1, if_true, zb2_some, if_neg (show ¬ (1 : Int32) = 0 by decide)]
    by_cases e2 : zin x2 200 = true
    · obtain ⟨n, hn, rfl⟩ := z_zinE (by omega) e2
      simp only [e2, if_true, if_neg (show ¬ (1 : Int32) = 0 by decide)]
      rw [p_isGone hL hn, zb2_some, z_ldI (by omega) (by omega), zbd_some]
      rcases (gCal_01 hL hn).2.2 with e | e
      · rw [e, if_pos rfl, if_pos rfl]; exact ⟨_, rfl, rfl⟩
      · rw [e, if_neg (by decide), if_neg (by decide), p_minutesOf hC hN, zb2_some]
        refine ⟨_, rfl, ?_⟩
        simp (disch := omega) only [z_lit, z_le, z_lt, z_eq, z_add, z_sub, z_mul, z_ldI, z_ldJ, z_stI, z_stJ, z_stB, z_cl, zpI_1, zpI_2, zpJ_1, zb2_some, zbd_some, zlet_eq, if_pos, if_neg, z_m1, z_m1n, and_self, and_true, true_and, and_false, false_and, if_true, if_false, Nat.add_sub_cancel, eq_self, not_true_eq_false, not_false_eq_true, (hH.1 v n (by omega) hn).2.2]
    · have e3 : zin x2 200 = false := by simpa using e2
      rw [p_isGone_o e3]
      simp only [e3, zb2_some, if_true]
      exact ⟨_, rfl, rfl⟩
  · have e3 : zin x1 nv = false := by simpa using e1
    simp only [e3, zb2_some]
    exact ⟨_, rfl, rfl⟩
