/-! call -/
theorem m_callL86 {nv c nc nst : Nat} {M : zMem} (hc : c < 200) (hK : M.1 69 44 = nI c) (hC : gCalls nv c nc nst M) {x1 x2 x3 x4 x5 : Int32} {N : Nat} : ∀ d i n, i + d = nc → d < n → fX12_call_L86 N n x1 x2 x3 x4 x5 (nI (i - nst)) (nI i) M = fX12_call_L86 N 1 x1 x2 x3 x4 x5 (nI (nc - nst)) (nI nc) M
  | 0, i, n + 1, h, _ => by
    have h0 := hC.1
    obtain ⟨-, -, -, -, h2, -⟩ := hC
    have e : i = nc := by omega
    subst e
    have hle : nI i ≤ nI i := by rw [z_le (by omega) (by omega)]; omega
    rw [fX12_call_L86, fX12_call_L86, h2, if_pos hle, if_pos hle]
  | d + 1, i, n + 1, h, hn => by
    have ih := m_callL86 hc hK hC (x1 := x1) (x2 := x2) (x3 := x3) (x4 := x4) (x5 := x5) (N := N) d (i + 1) n (by omega) (by omega)
    obtain ⟨h0, hns, -, -, h2, -, h3, h4⟩ := hC
    obtain ⟨⟨m, m1, m2, m3, em⟩, -⟩ := h4 i (by omega)
    have em' : M.1 112 i = nI m := by rw [← (h3 i (by omega)).1]; exact em
    have hi : ¬ nI nc ≤ nI i := by rw [z_le (by omega) (by omega)]; omega
    rw [fX12_call_L86, h2, if_neg hi, z_ldI (by omega) (by omega), zbd_some, em', hK]
    unfold fX12_call_L112
    by_cases q : i < nst
    · have hne : ¬ nI m = nI c := by rw [z_eq (by omega) (by omega)]; have := m2 q; omega
      rw [if_neg hne, zlet_eq, nI_1, ← ih, show i + 1 - nst = i - nst by omega]
    · have hme := m3 (by omega)
      subst hme
      rw [if_pos rfl, zlet_eq, zlet_eq, nI_1, nI_1, ← ih, show i - nst + 1 = i + 1 - nst by omega]
