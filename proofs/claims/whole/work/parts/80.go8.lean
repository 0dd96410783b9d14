/-! GO: calls come; calls are dropped -/
section GO
variable {tl nv ns c no nc nst nn r0 lv nr cs : Nat} {M : zMem} {R : Nat → Nat × Nat × List (Nat × Nat) × List (Nat × List (Nat × Nat) × List (Nat × Nat))} {N : Nat}
/-- phase 2: calls come (the reference marks them; the class looks at the minute) -/
theorem m_L51 (hC : gCalls nv c nc nst M) {m : Nat} (hm : m < 360) : ∀ d i f (B : zMem), i + d = nc → nst ≤ i → d < f → zGB M B → ∃ X, fX12_oneMinute_L51 N f (nI nst) (nI m) (nI i) B = fX12_oneMinute_L84 N N (nI nst) (nI m) (nI nst) X ∧ X.2 = B.2 ∧ (∀ a, a ≠ 126 → X.1 a = B.1 a) ∧ ∀ k, X.1 126 k = if i ≤ k ∧ k < nc ∧ zmi M k = m then 1 else B.1 126 k
  | 0, i, f + 1, B, hi, hst, hf, h => by
    have n4 := hC.1
    have e60 : B.1 69 60 = nI nc := by rw [h.2 69 (by omega) (by omega) (by omega)]; exact hC.2.2.2.2.1
    refine ⟨B, ?_, rfl, fun _ _ => rfl, fun k => by rw [if_neg (by omega)]⟩
    rw [fX12_oneMinute_L51, e60, if_pos (by rw [z_le (by omega) (by omega)]; omega)]
  | d + 1, i, f + 1, B, hi, hst, hf, h => by
    have n4 := hC.1
    have e60 : B.1 69 60 = nI nc := by rw [h.2 69 (by omega) (by omega) (by omega)]; exact hC.2.2.2.2.1
    obtain ⟨l1, l2⟩ := zmi_e hC (show i < nc by omega)
    have e113 : B.1 113 i = nI (zmi M i) := by rw [h.2 113 (by omega) (by omega) (by omega), ← (hC.2.2.2.2.2.2.1 i (by omega)).2.1]; exact l1
    rw [fX12_oneMinute_L51, e60, if_neg (by rw [z_le (by omega) (by omega)]; omega), z_ldI (by omega) (by omega), zbd_some, e113]
    unfold fX12_oneMinute_L76
    simp only [zlet_eq, nI_1]
    by_cases q : zmi M i = m
    · obtain ⟨X, x1, x2, x3, x4⟩ := m_L51 hC hm d (i + 1) f (zpI B 126 i 1) (by omega) (by omega) (by omega) ⟨h.1, fun a p1 p2 p3 => by rw [zpI_r _ _ (by omega)]; exact h.2 a p1 p2 p3⟩
      refine ⟨X, ?_, x2, fun a ha => by rw [x3 a ha, zpI_r _ _ ha], fun k => ?_⟩
      · rw [if_pos (by rw [q]), z_stZ (by omega) (by omega) (Or.inr rfl), zbd_some]
        exact x1
      · rw [x4, zpI_1]
        by_cases e : k = i
        · rw [if_neg (by omega), if_pos ⟨rfl, e⟩, if_pos (by rw [e]; exact ⟨Nat.le_refl i, by omega, q⟩)]
        · rw [if_neg (show ¬ (126 = 126 ∧ k = i) from fun t => e t.2)]
          by_cases y : i + 1 ≤ k ∧ k < nc ∧ zmi M k = m
          · rw [if_pos y, if_pos ⟨by omega, y.2⟩]
          · rw [if_neg y, if_neg (fun t => y ⟨by omega, t.2⟩)]
    · obtain ⟨X, x1, x2, x3, x4⟩ := m_L51 hC hm d (i + 1) f B (by omega) (by omega) (by omega) h
      refine ⟨X, ?_, x2, x3, fun k => ?_⟩
      · rw [if_neg (by rw [z_eq (by omega) (by omega)]; exact q)]
        exact x1
      · rw [x4]
        by_cases y : i + 1 ≤ k ∧ k < nc ∧ zmi M k = m
        · rw [if_pos y, if_pos ⟨by omega, y.2⟩]
        · rw [if_neg y, if_neg (fun t => y ⟨by rcases Nat.lt_or_ge i k with z | z; exact z; exact absurd (by rw [show i = k by omega]; exact t.2.2) q, t.2⟩)]
theorem g_come (hC : gCalls nv c nc nst M) {m : Nat} (hm : m < 360) {A B : zMem} (hB : zGB M B) (h : zDy M nv c nc nst (m + 1) m m A B) (hN : 2000 < N) : ∃ X, fX12_oneMinute_L51 N N (nI nst) (nI m) (nI nst) B = fX12_oneMinute_L84 N N (nI nst) (nI m) (nI nst) X ∧ zGB M X ∧ zDy M nv c nc nst (m + 1) (m + 1) m A X := by
  have n4 := hC.1
  have nst4 := hC.2.1
  obtain ⟨X, x1, x2, x3, x4⟩ := m_L51 (N := N) hC hm (nc - nst) nst N B (by omega) (Nat.le_refl nst) (by omega) hB
  obtain ⟨e1, e2, e3, e4, e5, e6, e7, e8, e9, e10, e11⟩ := h
  refine ⟨X, x1, ⟨by rw [x2]; exact hB.1, fun a p1 p2 p3 => by rw [x3 a (by omega)]; exact hB.2 a p1 p2 p3⟩, ?_, ?_, e3, e4, ?_, ?_, ?_, e8, e9, ?_, ?_⟩
  · unfold d1; rw [x3 118 (by omega), x3 119 (by omega), x3 120 (by omega)]; exact e1
  · unfold d2; rw [x3 127 (by omega), x3 129 (by omega)]; exact e2
  · unfold d5; rw [x3 128 (by omega)]; exact e5
  · unfold d6; rw [x3 124 (by omega)]; exact e6
  · unfold d7; rw [x3 97 (by omega)]; exact e7
  · intro k k1 k2
    rw [x4]
    by_cases q : zmi M k = m
    · rw [if_pos ⟨k1, k2, q⟩]
      have h0 := e11 k k1 k2 (by omega)
      have hlt : zmi M k < m + 1 := by omega
      simp [h0, hlt]; rfl
    · rw [if_neg (fun t => q t.2.2), e10 k k1 k2]
      have : (zmi M k < m) = (zmi M k < m + 1) := by apply propext; omega
      simp only [this]
  · intro k k1 k2 k3
    exact e11 k k1 k2 (by omega)
theorem p_waiting {A : zMem} (hC : gCalls nv c nc nst M) (h : zGA M c r0 A) {k m : Nat} (hk : k < nc) (hm : m < 360) : fX1_isWaiting (nI k) (nI m) A = some (zbi (decide (A.1 54 k = 0) && decide (zmi M k < m + 1)), A) := by
  have n4 := hC.1
  have e9 : A.1 47 9 = nI nc := by rw [h.2.2.1 47 (by omega) (by omega) (by omega) (by omega)]; exact hC.2.2.2.1
  obtain ⟨l1, l2⟩ := zmi_e hC hk
  have e49 : A.1 49 k = nI (zmi M k) := by rw [h.2.2.1 49 (by omega) (by omega) (by omega) (by omega)]; exact l1
  unfold fX1_isWaiting
  rw [p_isCall n4 e9, if_pos (z_zinI (by omega) hk), zb2_some, if_neg (by decide), z_ldI (by omega) (by omega), zbd_some]
  by_cases q : A.1 54 k = 0
  · rw [if_pos q, z_ldI (by omega) (by omega), zbd_some, e49]
    by_cases q2 : m < zmi M k
    · have q3 : ¬ zmi M k < m + 1 := by omega
      rw [if_pos (by rw [z_lt (by omega) (by omega)]; exact q2)]; simp [q3]; rfl
    · have q3 : zmi M k < m + 1 := by omega
      rw [if_neg (by rw [z_lt (by omega) (by omega)]; exact q2)]; simp [q, q3]; rfl
  · rw [if_neg q]; simp [q]; rfl
/-- what a drop, or a gift, of call k leaves as it was -/
theorem g_drop1 {A B : zMem} {m k : Nat} (hm : m < 360) (k1 : nst ≤ k) (k2 : k < nc) (hq : A.1 54 k = 0) (hwk : zmi M k < m + 1) (h : zDy M nv c nc nst (m + 1) (m + 1) m A B) : zDy M nv c nc nst (m + 1) (m + 1) m (zpI (zpI A 54 k 2) 56 k (nI m)) (zpI (zpI (zpI B 126 k 0) 118 k 2) 120 k (nI m)) := by
  obtain ⟨e1, e2, e3, e4, e5, e6, e7, e8, e9, e10, e11⟩ := h
  have a54 : ∀ j, (zpI (zpI A 54 k 2) 56 k (nI m)).1 54 j = if j = k then 2 else A.1 54 j := by intro j; simp [zpI_1]
  have a55 : (zpI (zpI A 54 k 2) 56 k (nI m)).1 55 = A.1 55 := by rw [zpI_r _ _ (by omega), zpI_r _ _ (by omega)]
  have a56 : ∀ j, (zpI (zpI A 54 k 2) 56 k (nI m)).1 56 j = if j = k then nI m else A.1 56 j := by intro j; simp [zpI_1]
  have b118 : ∀ j, (zpI (zpI (zpI B 126 k 0) 118 k 2) 120 k (nI m)).1 118 j = if j = k then 2 else B.1 118 j := by intro j; simp [zpI_1]
  have b120 : ∀ j, (zpI (zpI (zpI B 126 k 0) 118 k 2) 120 k (nI m)).1 120 j = if j = k then nI m else B.1 120 j := by intro j; simp [zpI_1]
  have b126 : ∀ j, (zpI (zpI (zpI B 126 k 0) 118 k 2) 120 k (nI m)).1 126 j = if j = k then 0 else B.1 126 j := by intro j; simp [zpI_1]
  have hA : ∀ a, a ≠ 54 → a ≠ 56 → (zpI (zpI A 54 k 2) 56 k (nI m)).1 a = A.1 a := fun a p1 p2 => by rw [zpI_r _ _ p2, zpI_r _ _ p1]
  have hB : ∀ a, a ≠ 118 → a ≠ 120 → a ≠ 126 → (zpI (zpI (zpI B 126 k 0) 118 k 2) 120 k (nI m)).1 a = B.1 a := fun a p1 p2 p3 => by rw [zpI_r _ _ p2, zpI_r _ _ p1, zpI_r _ _ p3]
  obtain ⟨y1, y2, y3⟩ : A.1 54 k = 0 ∧ A.1 55 k = -1 ∧ A.1 56 k = -1 := by
    rcases e3 k k1 k2 with z | ⟨v, t, z1, z2, z3, -⟩ | ⟨t, z1, z2, -⟩
    · exact z
    · rw [hq] at z3; exact absurd z3 (by decide)
    · rw [hq] at z2; exact absurd z2 (by decide)
  refine ⟨?_, ?_, ?_, ?_, ?_, ?_, ?_, ?_, ?_, ?_, ?_⟩
  · intro j hj
    rw [a54, a55, a56, b118, b120, hB 119 (by omega) (by omega) (by omega)]
    by_cases e : j = k
    · simp only [e, if_true]; exact ⟨trivial, (e1 k k2).2.1, trivial⟩
    · simp only [e, if_false]; exact e1 j hj
  · unfold d2; rw [hA 58 (by omega) (by omega), hA 60 (by omega) (by omega), hB 127 (by omega) (by omega) (by omega), hB 129 (by omega) (by omega) (by omega)]; exact e2
  · intro j j1 j2
    rw [a54, a55, a56]
    by_cases e : j = k
    · simp only [e, if_true]
      exact Or.inr (Or.inr ⟨m, hm, trivial, y2, rfl⟩)
    · simp only [e, if_false]; exact e3 j j1 j2
  · refine ⟨fun v hv => ?_, fun j v t j1 j2 j3 j4 j5 j6 j7 j8 => ?_⟩
    · rw [hA 58 (by omega) (by omega)]
      rcases e4.1 v hv with z | ⟨j, t, z1, z2, z3, z4, z5, z6, z7, z8⟩
      · exact Or.inl z
      · have e : j ≠ k := fun z => by rw [z, hq] at z5; exact absurd z5 (by decide)
        refine Or.inr ⟨j, t, z1, z2, z3, z4, ?_, ?_, ?_, z8⟩
        · rw [a54, if_neg e]; exact z5
        · rw [a55]; exact z6
        · rw [a56, if_neg e]; exact z7
    · have e : j ≠ k := fun z => by rw [z, a54, if_pos rfl] at j5; exact absurd j5 (by decide)
      rw [a54, if_neg e] at j5
      rw [a55] at j6
      rw [a56, if_neg e] at j7
      rw [hA 58 (by omega) (by omega)]
      exact e4.2 j v t j1 j2 j3 j4 j5 j6 j7 j8
  · unfold d5; rw [hA 59 (by omega) (by omega), hA 58 (by omega) (by omega), hB 128 (by omega) (by omega) (by omega)]; exact e5
  · unfold d6; rw [hA 61 (by omega) (by omega), hB 124 (by omega) (by omega) (by omega)]; exact e6
  · unfold d7; rw [a55, hB 97 (by omega) (by omega) (by omega)]; exact e7
  · intro j hj
    rw [a54, a55, a56, if_neg (by omega), if_neg (by omega)]
    exact e8 j hj
  · unfold d9
    rw [hA 57 (by omega) (by omega), show A.1 57 12 = _ from e9]
    refine congrArg nI (zcr_cong _ _ (fun j _ _ => ?_))
    rw [a54]
    by_cases e : j = k
    · rw [if_pos e, e, y1]; rfl
    · rw [if_neg e]
  · intro j j1 j2
    rw [b126, a54]
    by_cases e : j = k
    · simp only [e, if_true]; rfl
    · simp only [e, if_false]; exact e10 j j1 j2
  · intro j j1 j2 j3
    have e : j ≠ k := by intro z; subst z; omega
    rw [a54, if_neg e]
    exact e11 j j1 j2 j3
/-- phase 3: calls are dropped -/
theorem g_drops (hR : zRu r0 lv nr cs R M) (hC : gCalls nv c nc nst M) {m : Nat} (hm : m < 360) (hN : 2000 < N) : ∀ d i f g (A B : zMem), i + d = nc → nst ≤ i → d < f → d < g → zGA M c r0 A → zGB M B → zDy M nv c nc nst (m + 1) (m + 1) m A B → ∃ W X, fX2_dropCalls_L8 N f (nI m) (nI i) A = some W ∧ fX12_oneMinute_L84 N g (nI nst) (nI m) (nI i) B = fX12_oneMinute_L145 N N (nI nst) (nI m) 0 (nI nst) X ∧ zGA M c r0 W ∧ zGB M X ∧ zDy M nv c nc nst (m + 1) (m + 1) m W X
  | 0, i, f + 1, g + 1, A, B, hi, hst, hf, hg, hA, hB, h => by
    have n4 := hC.1
    have e9 : A.1 47 9 = nI nc := by rw [hA.2.2.1 47 (by omega) (by omega) (by omega) (by omega)]; exact hC.2.2.2.1
    have e60 : B.1 69 60 = nI nc := by rw [hB.2 69 (by omega) (by omega) (by omega)]; exact hC.2.2.2.2.1
    refine ⟨A, B, ?_, ?_, hA, hB, h⟩
    · rw [fX2_dropCalls_L8]
      unfold fX1_size
      rw [zb2_some, e9, if_pos (by rw [z_le (by omega) (by omega)]; omega)]
    · rw [fX12_oneMinute_L84, e60, if_pos (by rw [z_le (by omega) (by omega)]; omega)]
  | d + 1, i, f + 1, g + 1, A, B, hi, hst, hf, hg, hA, hB, h => by
    have n4 := hC.1
    have e9 : A.1 47 9 = nI nc := by rw [hA.2.2.1 47 (by omega) (by omega) (by omega) (by omega)]; exact hC.2.2.2.1
    have e60 : B.1 69 60 = nI nc := by rw [hB.2 69 (by omega) (by omega) (by omega)]; exact hC.2.2.2.2.1
    have e126 := h.2.2.2.2.2.2.2.2.2.1 i hst (by omega)
    rw [fX2_dropCalls_L8, fX12_oneMinute_L84]
    unfold fX1_size fX2_dropCalls_L65 fX12_oneMinute_L134
    have hle : ¬ nI nc ≤ nI i := by rw [z_le (by omega) (by omega)]; omega
    rw [zb2_some, e9, if_neg hle, p_waiting hC hA (by omega) hm, zb2_some, e60, if_neg hle, z_ldI (by omega) (by omega), zbd_some, e126]
    simp only [zlet_eq, nI_1]
    cases hw : (decide (A.1 54 i = 0) && decide (zmi M i < m + 1))
    · rw [if_pos (show zbi false = 0 from rfl)]
      exact g_drops hR hC hm hN d (i + 1) f g A B (by omega) (by omega) (by omega) (by omega) hA hB h
    · rw [Bool.and_eq_true, decide_eq_true_eq, decide_eq_true_eq] at hw
      rw [if_neg (by decide), if_neg (by decide)]
      have hq118 : ¬ B.1 118 i = 1 := by rw [← (h.1 i (by omega)).1, hw.1]; decide
      obtain ⟨Y, y1, y2, y3⟩ := pc_facts hC hA (show i < nc by omega) (nI m) (nI m) 0
      have hY := zGA_e hA (zeC_64 y3)
      obtain ⟨X, x1, x2⟩ := pc_first hR hY y2 (kind := 6) (by omega) (show 500 < N by omega)
      have hX := zGA_e hY x2
      have hAX : zeC A X := zeC_t (zeC_64 y3) x2
      obtain ⟨Z, z1, z2, z3⟩ := m_asks (K := A.1 61) hC hB (show i < nc by omega) (nI m) 0 (h.2.2.2.2.2.1 i hst (by omega))
      rw [if_neg hq118] at z2
      have hZ := zGB_e hB (zeR_122 z3)
      obtain ⟨V, v1, v2⟩ := m_dropL hR hN nr 0 N Z (by omega) (by have := hR.2.2.2.1; omega) hZ z2
      have hV := zGB_e hZ v1
      have hBV : zeR B V := zeR_t (zeR_122 z3) v1
      have e18 : Z.1 69 18 = nI lv := by rw [hZ.2 69 (by omega) (by omega) (by omega)]; exact hR.2.2.1
      have hdrop : fX12_isDropped N (nI i) (nI m) B = some (zbi (zfst (zfr R (zF M (A.1 61) i (nI m) (nI m) 0) 6) 0 nr).isSome, V) := by
        unfold fX12_isDropped
        rw [z1, zbd_some, zlet_eq, e18, show (20 : Int32) = nI 20 from rfl, z_mul]
        rw [Nat.add_zero] at v2
        exact v2
      have hXV : zDy M nv c nc nst (m + 1) (m + 1) m X V := zDy_e h (fun a ha => hAX.2 a (by omega) (by omega) (by omega)) (fun a ha => hBV.2 a (by omega) (by omega))
      rw [y1, zbd_some, show (6 : Int32) = nI 6 from rfl, x1, zb2_some, hdrop, zb2_some]
      cases hr : zfst (zfr R (zF M (A.1 61) i (nI m) (nI m) 0) 6) 0 nr with
      | none =>
        rw [if_pos (show zoi none = -1 from rfl), if_pos (show zbi (none : Option Nat).isSome = 0 from rfl)]
        exact g_drops hR hC hm hN d (i + 1) f g X V (by omega) (by omega) (by omega) (by omega) hX hV hXV
      | some r =>
        have hrl := (zfst_lt nr 0 r hr).2.1
        have hnr := hR.2.2.2.1
        rw [if_neg (show ¬ zoi (some r) = -1 by show ¬ nI r = -1; rw [z_m1 (by omega)]; exact id), if_neg (show ¬ zbi (some r).isSome = 0 from (by decide : ¬ zbi true = 0))]
        have hdr : fX1_drop (nI i) (nI m) X = some (zpI (zpI X 54 i 2) 56 i (nI m)) := by
          have e9' : X.1 47 9 = nI nc := by rw [hX.2.2.1 47 (by omega) (by omega) (by omega) (by omega)]; exact hC.2.2.2.1
          unfold fX1_drop
          rw [p_isCall n4 e9', if_pos (z_zinI (by omega) (by omega)), zb2_some, if_neg (by decide), z_stI (by omega) (by omega), zbd_some, z_stI (by omega) (by omega), zbd_some]
        rw [hdr, zbd_some, z_stZ (by omega) (by omega) (Or.inl rfl), zbd_some, z_stI (by omega) (by omega), zbd_some, z_stI (by omega) (by omega), zbd_some]
        refine g_drops hR hC hm hN d (i + 1) f g _ _ (by omega) (by omega) (by omega) (by omega) ⟨hX.1, hX.2.1, fun a p1 p2 p3 p4 => by rw [zpI_r _ _ (by omega), zpI_r _ _ (by omega)]; exact hX.2.2.1 a p1 p2 p3 p4, hX.2.2.2⟩ ⟨hV.1, fun a p1 p2 p3 => by rw [zpI_r _ _ (by omega), zpI_r _ _ (by omega), zpI_r _ _ (by omega)]; exact hV.2 a p1 p2 p3⟩ (g_drop1 hm hst (by omega) ?_ hw.2 hXV)
        rw [hAX.2 54 (by omega) (by omega) (by omega)]; exact hw.1
end GO
