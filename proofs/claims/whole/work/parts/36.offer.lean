/-! offer -/
theorem p_isOf {no nv : Nat} {M : zMem} (h0 : no ≤ 5) (h1 : M.1 32 3 = nI no) (x : Int32) {N : Nat} : ∀ d i n, i + d = no → d < n → fX4_isOfOffer_L2 N n x (nI i) M = some (zbp (∃ k, i ≤ k ∧ k < no ∧ M.1 33 k = x), M)
  | 0, i, n + 1, h, _ => by
    rw [fX4_isOfOffer_L2, h1, if_pos (by rw [z_le (by omega) (by omega)]; omega), zbp_f (by rintro ⟨k, k1, k2, -⟩; omega)]
  | d + 1, i, n + 1, h, hn => by
    have ih := p_isOf (nv := nv) h0 h1 x (N := N) d (i + 1) n (by omega) (by omega)
    rw [fX4_isOfOffer_L2, h1, if_neg (by rw [z_le (by omega) (by omega)]; omega), z_ldI (by omega) (by omega), zbd_some]
    by_cases e : M.1 33 i = x
    · rw [if_pos e, zbp_t ⟨i, Nat.le_refl i, by omega, e⟩]
    · rw [if_neg e, zlet_eq, nI_1, ih]
      refine congrArg some (Prod.ext (zbp_iff ?_) rfl)
      constructor
      · rintro ⟨k, k1, k2, k3⟩; exact ⟨k, by omega, k2, k3⟩
      · rintro ⟨k, k1, k2, k3⟩
        rcases Nat.lt_or_ge i k with q | q
        · exact ⟨k, q, k2, k3⟩
        · have : k = i := by omega
          subst this; exact absurd k3 e
theorem m_offEnd {no c : Nat} {M : zMem} (hc : c < 200) (h0 : no < 5) (hK : M.1 69 44 = nI c) (h1 : M.1 102 c = nI no) (x1 x2 x3 : Int32) {N : Nat} (n : Nat) : fX12_offer_L76 N (n + 1) x1 x2 x3 (nI (5 * c + no)) M = some (nI no, zpI (zpI (zpI (zpI M 103 (5 * c + no) x1) 104 (5 * c + no) x2) 105 (5 * c + no) x3) 102 c (nI (no + 1))) := by
  unfold fX12_offer_L76
  simp (disch := omega) only [z_lit, z_le, z_lt, z_eq, z_add, z_sub, z_mul, z_ldI, z_ldJ, z_stI, z_stJ, z_stB, z_cl, zpI_1, zpI_2, zpJ_1, zb2_some, zbd_some, zlet_eq, if_pos, if_neg, z_m1, z_m1n, and_self, and_true, true_and, and_false, false_and, if_true, if_false, Nat.add_sub_cancel, eq_self, not_true_eq_false, not_false_eq_true, hK, h1]
theorem m_offL {no c : Nat} {M : zMem} (hc : c < 200) (h0 : no < 5) (hK : M.1 69 44 = nI c) (h1 : M.1 102 c = nI no) (x1 x2 x3 : Int32) {N : Nat} : ∀ d i n, i + d = no → d < n → fX12_offer_L76 N n x1 x2 x3 (nI (5 * c + i)) M = (if zbp (∃ k, i ≤ k ∧ k < no ∧ M.1 103 (5 * c + k) = x1) = 1 then some (-1, M) else fX12_offer_L76 N (0 + 1) x1 x2 x3 (nI (5 * c + no)) M)
  | 0, i, n + 1, h, _ => by
    have e : i = no := by omega
    subst e
    rw [zbp_f (by rintro ⟨k, k1, k2, -⟩; omega), if_neg (by decide), m_offEnd hc h0 hK h1, m_offEnd hc h0 hK h1]
  | d + 1, i, n + 1, h, hn => by
    have ih := m_offL hc h0 hK h1 x1 x2 x3 (N := N) d (i + 1) n (by omega) (by omega)
    rw [fX12_offer_L76, hK, z_ldI (by omega) (by omega), zbd_some, h1, show (5 : Int32) = nI 5 from rfl, z_mul, z_add, if_neg (by rw [z_le (by omega) (by omega)]; omega), z_ldI (by omega) (by omega), zbd_some]
    by_cases e : M.1 103 (5 * c + i) = x1
    · rw [if_pos e, zbp_t ⟨i, Nat.le_refl i, by omega, e⟩, if_pos rfl]
    · rw [if_neg e, zlet_eq, nI_1, Nat.add_assoc, ih]
      have hq : (∃ k, i + 1 ≤ k ∧ k < no ∧ M.1 103 (5 * c + k) = x1) ↔ (∃ k, i ≤ k ∧ k < no ∧ M.1 103 (5 * c + k) = x1) := by
        constructor
        · rintro ⟨k, k1, k2, k3⟩; exact ⟨k, by omega, k2, k3⟩
        · rintro ⟨k, k1, k2, k3⟩
          rcases Nat.lt_or_ge i k with q | q
          · exact ⟨k, q, k2, k3⟩
          · have : k = i := by omega
            subst this; exact absurd k3 e
      rw [zbp_iff hq]
theorem q_offer {nv ns c no : Nat} {M : zMem} (hT : gTeam nv ns M) (hK : gClock c M) (hL : gCal M) (hO : gOffers nv c no M) (x1 x2 x3 : Int32) {N : Nat} (hN : 10 < N) : (fX11_offer N x1 x2 x3 M = some (-1, M) ∧ fX12_offer N x1 x2 x3 M = some (-1, M)) ∨
    (no < 5 ∧ M.1 101 c = 0 ∧ ∃ v h m, v < nv ∧ 1 ≤ h ∧ h < 64 ∧ 1 ≤ m ∧ m ≤ 3 ∧ (∀ k, k < no → M.1 33 k ≠ nI v) ∧
      fX11_offer N x1 x2 x3 M = some (nI no, zpI (zpI (zpI (zpI M 33 no (nI v)) 34 no (nI h)) 35 no (nI m)) 32 3 (nI (no + 1))) ∧
      ∀ M0 : zMem, M0.1 69 37 = nI nv → M0.1 69 44 = nI c → M0.1 101 c = M.1 101 c → M0.1 100 c = M.1 100 c → M0.1 102 c = M.1 102 c → M0.1 103 = M.1 103 → fX12_offer N x1 x2 x3 M0 = some (nI no, zpI (zpI (zpI (zpI M0 103 (5 * c + no) (nI v)) 104 (5 * c + no) (nI h)) 105 (5 * c + no) (nI m)) 102 c (nI (no + 1)))) := by
  obtain ⟨t0, t1, t2, -⟩ := hT
  obtain ⟨c0, c1, c2⟩ := hK
  obtain ⟨o0, o1, o2, -, o3, -⟩ := hO
  have hf := p_isFound hL c0
  have hg := p_isGone hL c0
  obtain ⟨-, hf01, hg01⟩ := gCal_01 hL c0
  have hcl : ∀ M0 : zMem, fX11_offer_L34 N x1 x2 x3 M0 = some (-1, M0) := fun M0 => rfl
  by_cases s : zin x1 nv = true ∧ (∃ h, 1 ≤ h ∧ h ≤ 63 ∧ x2 = nI h) ∧ ∃ m, 1 ≤ m ∧ m ≤ 3 ∧ x3 = nI m
  · obtain ⟨s1, ⟨h, h1, h2, rfl⟩, m, m1, m2, rfl⟩ := s
    obtain ⟨v, hv, rfl⟩ := z_zinE (by omega) s1
    have w2 : fX11_isWithin (nI h) 1 63 M = some (1, M) := by unfold fX11_isWithin; simp (disch := omega) only [z_lit, z_le, z_lt, z_eq, z_add, z_sub, z_mul, z_ldI, z_ldJ, z_stI, z_stJ, z_stB, z_cl, zpI_1, zpI_2, zpJ_1, zb2_some, zbd_some, zlet_eq, if_pos, if_neg, z_m1, z_m1n, and_self, and_true, true_and, and_false, false_and, if_true, if_false, Nat.add_sub_cancel, eq_self, not_true_eq_false, not_false_eq_true]
    have w3 : fX11_isWithin (nI m) 1 3 M = some (1, M) := by unfold fX11_isWithin; simp (disch := omega) only [z_lit, z_le, z_lt, z_eq, z_add, z_sub, z_mul, z_ldI, z_ldJ, z_stI, z_stJ, z_stB, z_cl, zpI_1, zpI_2, zpJ_1, zb2_some, zbd_some, zlet_eq, if_pos, if_neg, z_m1, z_m1n, and_self, and_true, true_and, and_false, false_and, if_true, if_false, Nat.add_sub_cancel, eq_self, not_true_eq_false, not_false_eq_true]
    have hp : fX11_offer N (nI v) (nI h) (nI m) M = fX11_offer_L35 N (nI v) (nI h) (nI m) 1 M := by
      unfold fX11_offer
      rw [p_isVol t0 t1, if_pos s1, zb2_some, if_neg (by decide), w2, zb2_some, if_neg (by decide), w3, zb2_some, if_neg (by decide)]
    have hm : ∀ M0 : zMem, M0.1 69 37 = nI nv → M0.1 69 44 = nI c → fX12_offer N (nI v) (nI h) (nI m) M0 = if M0.1 101 c = 0 then (if M0.1 100 c = 0 then (if M0.1 102 c = 5 then some (-1, M0) else fX12_offer_L76 N N (nI v) (nI h) (nI m) (nI (5 * c)) M0) else some (-1, M0)) else some (-1, M0) := by
      intro M0 e1 e2
      have g1 : ¬ nI h < (1 : Int32) := by rw [show (1 : Int32) = nI 1 from rfl, z_lt (by omega) (by omega)]; omega
      have g2 : ¬ (63 : Int32) < nI h := by rw [show (63 : Int32) = nI 63 from rfl, z_lt (by omega) (by omega)]; omega
      have g3 : ¬ nI m < (1 : Int32) := by rw [show (1 : Int32) = nI 1 from rfl, z_lt (by omega) (by omega)]; omega
      have g4 : ¬ (3 : Int32) < nI m := by rw [show (3 : Int32) = nI 3 from rfl, z_lt (by omega) (by omega)]; omega
      unfold fX12_offer
      rw [m_isVol t0 e1, if_pos s1, zb2_some, if_neg (by decide), if_neg g1, if_neg g2, if_neg g3, if_neg g4, e2, z_ldI (by omega) (by omega), zbd_some, z_ldI (by omega) (by omega), zbd_some, z_ldI (by omega) (by omega), zbd_some, zlet_eq, show (5 : Int32) = nI 5 from rfl, z_mul]
    unfold fX11_offer_L35 at hp
    rw [if_neg (by decide), c1, hf, zb2_some] at hp
    rcases hf01 with f0 | f0
    · rw [f0, if_pos rfl, c1, hg, zb2_some] at hp
      rcases hg01 with g0 | g0
      · rw [g0, if_pos rfl] at hp
        unfold fX4_add fX4_isOfOffer at hp
        by_cases c5 : no < 5
        · rw [o1, if_neg (by rw [show (5 : Int32) = nI 5 from rfl, z_le (by omega) (by omega)]; omega), show (0 : Int32) = nI 0 from rfl, p_isOf (nv := nv) o0 o1 (nI v) no 0 N (by omega) (by omega), zb2_some] at hp
          by_cases q : ∃ k, 0 ≤ k ∧ k < no ∧ M.1 33 k = nI v
          · refine Or.inl ⟨?_, ?_⟩
            · rw [hp, zbp_t q, if_neg (by decide)]; rfl
            · have q2 : ∃ k, 0 ≤ k ∧ k < no ∧ M.1 103 (5 * c + k) = nI v := by
                obtain ⟨k, k1, k2, k3⟩ := q
                exact ⟨k, k1, k2, by rw [← (o3 k k2).1]; exact k3⟩
              rw [hm M t2 c2, f0, if_pos rfl, g0, if_pos rfl, o2, if_neg (by rw [show (5 : Int32) = nI 5 from rfl, z_eq (by omega) (by omega)]; omega)]
              have := m_offL c0 c5 c2 o2 (nI v) (nI h) (nI m) (N := N) no 0 N (by omega) (by omega)
              rw [Nat.add_zero, zbp_t q2, if_pos rfl] at this
              exact this
          · refine Or.inr ⟨c5, f0, v, h, m, hv, h1, by omega, m1, m2, fun k hk e => q ⟨k, Nat.zero_le k, hk, e⟩, ?_, ?_⟩
            · rw [hp, zbp_f q, if_pos (show (0 : Int32) = nI 0 from rfl)]
              simp (disch := omega) only [z_lit, z_le, z_lt, z_eq, z_add, z_sub, z_mul, z_ldI, z_ldJ, z_stI, z_stJ, z_stB, z_cl, zpI_1, zpI_2, zpJ_1, zb2_some, zbd_some, zlet_eq, if_pos, if_neg, z_m1, z_m1n, and_self, and_true, true_and, and_false, false_and, if_true, if_false, Nat.add_sub_cancel, eq_self, not_true_eq_false, not_false_eq_true, o1]
            · intro M0 e1 e2 e3 e4 e5 e6
              have q2 : ¬ ∃ k, 0 ≤ k ∧ k < no ∧ M0.1 103 (5 * c + k) = nI v := by
                rintro ⟨k, k1, k2, k3⟩
                rw [e6, ← (o3 k k2).1] at k3
                exact q ⟨k, k1, k2, k3⟩
              rw [hm M0 e1 e2, e3, f0, if_pos rfl, e4, g0, if_pos rfl, e5, o2, if_neg (by rw [show (5 : Int32) = nI 5 from rfl, z_eq (by omega) (by omega)]; omega)]
              have e5' : M0.1 102 c = nI no := by rw [e5]; exact o2
              have := m_offL c0 c5 e2 e5' (nI v) (nI h) (nI m) (N := N) no 0 N (by omega) (by omega)
              rw [Nat.add_zero, zbp_f q2, if_neg (by decide), m_offEnd c0 c5 e2 e5'] at this
              exact this
        · have e5 : no = 5 := by omega
          subst e5
          refine Or.inl ⟨?_, ?_⟩
          · rw [hp, o1, if_pos (by decide)]; rfl
          · rw [hm M t2 c2, f0, if_pos rfl, g0, if_pos rfl, o2, if_pos (show nI 5 = (5 : Int32) from rfl)]
      · refine Or.inl ⟨?_, ?_⟩
        · rw [hp, g0, if_neg (by decide)]
        · rw [hm M t2 c2, f0, if_pos rfl, g0, if_neg (by decide)]
    · refine Or.inl ⟨?_, ?_⟩
      · rw [hp, f0, if_neg (by decide)]
      · rw [hm M t2 c2, f0, if_neg (by decide)]
  · refine Or.inl ⟨?_, ?_⟩
    · unfold fX11_offer
      rw [p_isVol t0 t1, zb2_some]
      by_cases s1 : zin x1 nv = true
      · rw [if_pos s1, if_neg (by decide)]
        unfold fX11_isWithin
        rcases z_one x2 (n := 63) (by omega) with w | w | ⟨w, w'⟩
        · obtain ⟨h, h1, h2, rfl⟩ := w
          rw [show (1 : Int32) = nI 1 from rfl, show (63 : Int32) = nI 63 from rfl, if_neg (by rw [z_lt (by omega) (by omega)]; omega), if_neg (by rw [z_lt (by omega) (by omega)]; omega), zb2_some, if_neg (by decide)]
          rcases z_one x3 (n := 3) (by omega) with w | w | ⟨w, w'⟩
          · exact absurd ⟨s1, ⟨h, h1, h2, rfl⟩, w⟩ s
          · rw [if_pos w]; rfl
          · rw [if_neg w, show (3 : Int32) = nI 3 from rfl, if_pos w']; rfl
        · rw [show (1 : Int32) = nI 1 from rfl, if_pos w]; rfl
        · rw [show (1 : Int32) = nI 1 from rfl, if_neg w, show (63 : Int32) = nI 63 from rfl, if_pos w']; rfl
      · rw [if_neg s1, if_pos rfl]; rfl
    · unfold fX12_offer
      rw [m_isVol t0 t2, zb2_some]
      by_cases s1 : zin x1 nv = true
      · rw [if_pos s1, if_neg (by decide)]
        rcases z_one x2 (n := 63) (by omega) with w | w | ⟨w, w'⟩
        · obtain ⟨h, h1, h2, rfl⟩ := w
          rw [show (1 : Int32) = nI 1 from rfl, show (63 : Int32) = nI 63 from rfl, if_neg (by rw [z_lt (by omega) (by omega)]; omega), if_neg (by rw [z_lt (by omega) (by omega)]; omega)]
          rcases z_one x3 (n := 3) (by omega) with w | w | ⟨w, w'⟩
          · exact absurd ⟨s1, ⟨h, h1, h2, rfl⟩, w⟩ s
          · rw [if_pos w]
          · rw [if_neg w, show (3 : Int32) = nI 3 from rfl, if_pos w']
        · rw [show (1 : Int32) = nI 1 from rfl, if_pos w]
        · rw [show (1 : Int32) = nI 1 from rfl, if_neg w, show (63 : Int32) = nI 63 from rfl, if_pos w']
      · rw [if_neg s1, if_pos rfl]
