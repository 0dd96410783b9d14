/-! GO: how the night ends -/
def ztk (M : zMem) (c : Nat) (by_ : Nat → Int32) (v i : Nat) : Nat := zsum (fun k => if M.1 48 k = nI c ∧ by_ k = nI v then zle M k else 0) i
section GO
variable {tl nv ns c no nc nst nn r0 lv nr cs : Nat} {M : zMem} {R : Nat → Nat × Nat × List (Nat × Nat) × List (Nat × List (Nat × Nat) × List (Nat × Nat))} {N : Nat}
theorem p_leaveL (hC : gCalls nv c nc nst M) : ∀ d i f (A : zMem), i + d = nc → d < f → zGA M c r0 A → ∃ W, fX2_leaveCalls_L8 N f (nI i) A = some W ∧ zbut 54 A W ∧ ∀ k, W.1 54 k = if i ≤ k ∧ k < nc ∧ A.1 54 k = 0 then 3 else A.1 54 k
  | 0, i, f + 1, A, hi, hf, h => by
    have n4 := hC.1
    have e9 : A.1 47 9 = nI nc := by rw [h.2.2.1 47 (by omega) (by omega) (by omega) (by omega)]; exact hC.2.2.2.1
    refine ⟨A, ?_, zbut_r 54 A, fun k => by rw [if_neg (by omega)]⟩
    rw [fX2_leaveCalls_L8]
    unfold fX1_size
    rw [zb2_some, e9, if_pos (by rw [z_le (by omega) (by omega)]; omega)]
  | d + 1, i, f + 1, A, hi, hf, h => by
    have n4 := hC.1
    have e9 : A.1 47 9 = nI nc := by rw [h.2.2.1 47 (by omega) (by omega) (by omega) (by omega)]; exact hC.2.2.2.1
    have zk : zin (nI i) nc = true := z_zinI (by omega) (by omega)
    rw [fX2_leaveCalls_L8]
    unfold fX1_size fX2_leaveCalls_L38
    rw [zb2_some, e9, if_neg (by rw [z_le (by omega) (by omega)]; omega), p_stateOf n4 e9, if_pos zk, zb2_some, z_cl (by omega)]
    simp only [zlet_eq, nI_1]
    by_cases q : A.1 54 i = 0
    · have hlv : fX1_leave (nI i) A = some (zpI A 54 i 3) := by
        unfold fX1_leave
        rw [p_isCall n4 e9, if_pos zk, zb2_some, if_neg (by decide), z_stI (by omega) (by omega), zbd_some]
      obtain ⟨W, y1, y2, y3⟩ := p_leaveL hC d (i + 1) f (zpI A 54 i 3) (by omega) (by omega) ⟨h.1, h.2.1, fun a p1 p2 p3 p4 => by rw [zpI_r _ _ (by omega)]; exact h.2.2.1 a p1 p2 p3 p4, h.2.2.2⟩
      refine ⟨W, ?_, zbut_t zbut_p y2, fun k => ?_⟩
      · rw [if_pos q, hlv, zbd_some]; exact y1
      · rw [y3, zpI_1]
        by_cases z : k = i
        · subst z
          rw [if_neg (by omega), if_pos ⟨rfl, rfl⟩, if_pos ⟨Nat.le_refl k, by omega, q⟩]
        · rw [if_neg (show ¬ (54 = 54 ∧ k = i) from fun t => z t.2)]
          by_cases y : i ≤ k ∧ k < nc ∧ A.1 54 k = 0
          · rw [if_pos y, if_pos ⟨by omega, y.2⟩]
          · rw [if_neg y, if_neg (fun t => y ⟨by omega, t.2⟩)]
    · obtain ⟨W, y1, y2, y3⟩ := p_leaveL hC d (i + 1) f A (by omega) (by omega) h
      refine ⟨W, ?_, y2, fun k => ?_⟩
      · rw [if_neg q]; exact y1
      · rw [y3]
        by_cases y : i ≤ k ∧ k < nc ∧ A.1 54 k = 0
        · have z : k ≠ i := fun t => by rw [t] at y; exact q y.2.2
          rw [if_pos y, if_pos ⟨by omega, y.2⟩]
        · rw [if_neg y, if_neg (fun t => y ⟨by omega, t.2⟩)]
theorem m_endN (hC : gCalls nv c nc nst M) (hK : gClock c M) (hv8 : nv ≤ 8) {A X0 : zMem} (hX : zGB M X0) (h : zDy M nv c nc nst 360 360 360 A X0) : ∀ d i f (B : zMem) (a : Nat), i + d = nc → nst ≤ i → d < f → B.2 = X0.2 → (∀ p, p ≠ 118 → p ≠ 121 → B.1 p = X0.1 p) → (∀ k, B.1 118 k = if nst ≤ k ∧ k < i ∧ X0.1 118 k = 0 then 3 else X0.1 118 k) → (∀ v, v < 8 → B.1 121 (200 * v + c) = nI (ztk M c (A.1 55) v i)) → (∀ v n, v < 8 → n < 200 → n ≠ c → B.1 121 (200 * v + n) = M.1 121 (200 * v + n)) →
    ∃ W, fX12_go_L181 N f (nI a) (nI i) B = some (nI (a + zcr (fun k => A.1 54 k == 1) i d), zpI (zpI W 100 c 1) 69 71 (M.1 69 71 + 1)) ∧ W.2 = X0.2 ∧ (∀ p, p ≠ 118 → p ≠ 121 → W.1 p = X0.1 p) ∧ (∀ k, W.1 118 k = if nst ≤ k ∧ k < nc ∧ X0.1 118 k = 0 then 3 else X0.1 118 k) ∧ (∀ v, v < 8 → W.1 121 (200 * v + c) = nI (ztk M c (A.1 55) v nc)) ∧ (∀ v n, v < 8 → n < 200 → n ≠ c → W.1 121 (200 * v + n) = M.1 121 (200 * v + n))
  | 0, i, f + 1, B, a, hi, hst, hf, b1, b2, b3, b4, b5 => by
    have n4 := hC.1
    have c0 := hK.1
    have e60 : B.1 69 60 = nI nc := by rw [b2 69 (by omega) (by omega), hX.2 69 (by omega) (by omega) (by omega)]; exact hC.2.2.2.2.1
    have e44 : B.1 69 44 = nI c := by rw [b2 69 (by omega) (by omega), hX.2 69 (by omega) (by omega) (by omega)]; exact hK.2.2
    have e71 : (zpI B 100 c 1).1 69 71 = M.1 69 71 := by rw [zpI_r _ _ (by omega), b2 69 (by omega) (by omega), hX.2 69 (by omega) (by omega) (by omega)]
    have e : i = nc := by omega
    subst e
    refine ⟨B, ?_, b1, b2, b3, b4, b5⟩
    rw [fX12_go_L181, e60, if_pos (by rw [z_le (by omega) (by omega)]; omega), e44, z_stZ c0 (by omega) (Or.inr rfl), zbd_some, zlet_eq, e71, zcr, Nat.add_zero]
  | d + 1, i, f + 1, B, a, hi, hst, hf, b1, b2, b3, b4, b5 => by
    have n4 := hC.1
    have c0 := hK.1
    have e60 : B.1 69 60 = nI nc := by rw [b2 69 (by omega) (by omega), hX.2 69 (by omega) (by omega) (by omega)]; exact hC.2.2.2.2.1
    have e44 : B.1 69 44 = nI c := by rw [b2 69 (by omega) (by omega), hX.2 69 (by omega) (by omega) (by omega)]; exact hK.2.2
    obtain ⟨l1, l2, l3⟩ := zle_e hC (show i < nc by omega)
    have hmi := (zmi_e hC (show i < nc by omega)).2
    have e117 : B.1 117 i = nI (zle M i) := by rw [b2 117 (by omega) (by omega), hX.2 117 (by omega) (by omega) (by omega), ← (hC.2.2.2.2.2.2.1 i (by omega)).2.2.2.2.2.1]; exact l1
    have e48 : M.1 48 i = nI c := by
      obtain ⟨⟨n, n1, n2, n3, n5⟩, -⟩ := hC.2.2.2.2.2.2.2 i (by omega)
      rw [n5, n3 hst]
    have hAX := h.1 i (by omega)
    have e126 : B.1 126 i = zbi (decide (A.1 54 i = 0)) := by
      rw [b2 126 (by omega) (by omega), h.2.2.2.2.2.2.2.2.2.1 i hst (by omega)]
      simp [hmi]
    have e118 : B.1 118 i = A.1 54 i := by rw [b3, if_neg (by omega), hAX.1]
    have hT : ∀ v, ztk M c (A.1 55) v (i + 1) = ztk M c (A.1 55) v i + (if M.1 48 i = nI c ∧ A.1 55 i = nI v then zle M i else 0) := fun v => rfl
    rw [fX12_go_L181, e60, if_neg (by rw [z_le (by omega) (by omega)]; omega), z_ldI (by omega) (by omega), zbd_some, e126, zcr]
    unfold fX12_go_L205 fX12_go_L250
    simp only [zlet_eq, nI_1]
    have next118 : ∀ (B' : zMem), (∀ k, B'.1 118 k = if k = i ∧ X0.1 118 i = 0 then 3 else B.1 118 k) → ∀ k, B'.1 118 k = if nst ≤ k ∧ k < i + 1 ∧ X0.1 118 k = 0 then 3 else X0.1 118 k := by
      intro B' g k
      rw [g, b3]
      by_cases z : k = i
      · subst z
        by_cases y : X0.1 118 k = 0
        · rw [if_pos ⟨rfl, y⟩, if_pos ⟨hst, by omega, y⟩]
        · rw [if_neg (fun t => y t.2), if_neg (fun t => y t.2.2), if_neg (fun t => y t.2.2)]
      · rw [if_neg (fun t => z t.1)]
        by_cases y : nst ≤ k ∧ k < i ∧ X0.1 118 k = 0
        · rw [if_pos y, if_pos ⟨y.1, by omega, y.2.2⟩]
        · rw [if_neg y, if_neg (fun t => y ⟨t.1, by omega, t.2.2⟩)]
    rcases h.2.2.1 i hst (by omega) with ⟨z1, z2, z3⟩ | ⟨v, t, v1, t1, z1, z2, z3⟩ | ⟨t, t1, z1, z2, z3⟩
    · have hne : ∀ v, v < 8 → ¬ (M.1 48 i = nI c ∧ A.1 55 i = nI v) := fun v hv t => by rw [z2, z_m1' (by omega)] at t; exact t.2
      rw [z1, show zbi (decide ((0 : Int32) = 0)) = 1 from rfl, if_neg (by decide), z_stI (by omega) (by omega), zbd_some, z_ldI (by omega) (by omega), zbd_some, show (zpI B 118 i 3).1 118 i = 3 by rw [zpI_1, if_pos ⟨rfl, rfl⟩], if_neg (by decide)]
      have := m_endN hC hK hv8 hX h d (i + 1) f (zpI B 118 i 3) a (by omega) (by omega) (by omega) b1 (fun p p1 p2 => by rw [zpI_r _ _ p1]; exact b2 p p1 p2) (next118 _ (fun k => by
        rw [zpI_1, ← hAX.1, z1]
        by_cases z : k = i
        · rw [if_pos ⟨rfl, z⟩, if_pos ⟨z, rfl⟩]
        · rw [if_neg (fun t => z t.2), if_neg (fun t => z t.1)])) (fun v hv => by rw [zpI_r _ _ (by omega), b4 v hv, hT, if_neg (hne v hv), Nat.add_zero]) (fun v n hv hn hc => by rw [zpI_r _ _ (by omega)]; exact b5 v n hv hn hc)
      simpa [z1] using this
    · have hst1 : ¬ X0.1 118 i = 0 := by rw [← hAX.1, z1]; decide
      rw [z1, show zbi (decide ((1 : Int32) = 0)) = 0 from rfl, if_pos rfl, z_ldI (by omega) (by omega), zbd_some, e118, z1, if_pos rfl, z_ldI (by omega) (by omega), zbd_some, show B.1 119 i = nI v by rw [b2 119 (by omega) (by omega), ← hAX.2.1]; exact z2, e44, show (200 : Int32) = nI 200 from rfl, z_mul, z_add, z_ldI (by omega) (by omega), zbd_some, z_ldI (by omega) (by omega), zbd_some, b4 v (by omega), e117, z_add, z_stI (by omega) (by omega), zbd_some]
      have := m_endN hC hK hv8 hX h d (i + 1) f (zpI B 121 (200 * v + c) (nI (ztk M c (A.1 55) v i + zle M i))) (a + 1) (by omega) (by omega) (by omega) b1 (fun p p1 p2 => by rw [zpI_r _ _ p2]; exact b2 p p1 p2) (next118 _ (fun k => by rw [zpI_r _ _ (by omega), if_neg (fun t => hst1 t.2)])) (fun u hu => by
        rw [zpI_1, hT, z2, e48]
        by_cases z : u = v
        · rw [if_pos ⟨rfl, by rw [z]⟩, if_pos ⟨rfl, by rw [z]⟩, z]
        · rw [if_neg (by omega), if_neg (fun t => z (by have := t.2; rw [z_eq (by omega) (by omega)] at this; exact this.symm)), b4 u hu, Nat.add_zero]) (fun u n hu hn hc => by
        rw [zpI_1, if_neg (by omega)]; exact b5 u n hu hn hc)
      rw [Nat.add_assoc] at this
      simpa [z1] using this
    · have hst1 : ¬ X0.1 118 i = 0 := by rw [← hAX.1, z1]; decide
      have hne : ∀ v, v < 8 → ¬ (M.1 48 i = nI c ∧ A.1 55 i = nI v) := fun v hv t => by rw [z2, z_m1' (by omega)] at t; exact t.2
      rw [z1, show zbi (decide ((2 : Int32) = 0)) = 0 from rfl, if_pos rfl, z_ldI (by omega) (by omega), zbd_some, e118, z1, if_neg (by decide)]
      have := m_endN hC hK hv8 hX h d (i + 1) f B a (by omega) (by omega) (by omega) b1 b2 (next118 _ (fun k => by rw [if_neg (fun t => hst1 t.2)])) (fun v hv => by rw [b4 v hv, hT, if_neg (hne v hv), Nat.add_zero]) b5
      simpa [z1] using this
end GO
