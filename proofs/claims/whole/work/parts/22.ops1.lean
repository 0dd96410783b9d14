/-! PURE PART: the small tests, the small operations -/
theorem z_rng {α : Type} (x : Int32) {n : Nat} (hn : n < 2147483648) (a b : α) : (if x < 0 then a else if nI n ≤ x then a else b) = if zin x n = true then b else a := by
  rcases z_ix x hn with h | ⟨h, h2⟩ | ⟨j, hj, rfl⟩
  · have e : zin x n = false := by simp [zin, h]
    simp [h, e]
  · have e : zin x n = false := by
      obtain ⟨j, hj, rfl⟩ := nI_of h
      rw [z_zin hj]
      rw [z_le hn hj] at h2
      simp; omega
    simp [h, h2, e]
  · have h0 : ¬ nI j < 0 := nI_pos (by omega)
    have e : zin (nI j) n = true := by rw [z_zin (by omega)]; simp [hj]
    have h2 : ¬ nI n ≤ nI j := by rw [z_le hn (by omega)]; omega
    simp [h0, e, h2]
theorem z_zinE {x : Int32} {n : Nat} (hn : n < 2147483648) (h : zin x n = true) : ∃ j, j < n ∧ x = nI j := vp_in_of (zin_in h) hn
theorem z_zinI {j n : Nat} (hn : n < 2147483648) (h : j < n) : zin (nI j) n = true := by rw [z_zin (by omega)]; simp [h]
theorem z_zinF {x : Int32} {n : Nat} (hn : n < 2147483648) (h : zin x n = false) : x < 0 ∨ nI n ≤ x := by
  rcases z_ix x hn with q | ⟨q, q2⟩ | ⟨j, hj, rfl⟩
  · exact Or.inl q
  · exact Or.inr q2
  · rw [z_zinI hn hj] at h; cases h
/-- an upper bound told by 'greater', or the other way round -/
theorem z_rng2 {α : Type} (x : Int32) {n : Nat} (hn : n + 1 < 2147483648) (a b : α) : (if x < 0 then a else if nI n < x then a else b) = if zin x (n + 1) = true then b else a := by
  rw [← z_rng x hn]
  have e : (nI n < x) = (nI (n + 1) ≤ x) := by
    apply propext
    rw [Int32.lt_iff_toInt_lt, Int32.le_iff_toInt_le, nI_toInt (by omega), nI_toInt (by omega)]
    omega
  simp only [e]
theorem z_rng3 {α : Type} (x : Int32) {n : Nat} (hn : n + 1 < 2147483648) (a b : α) : (if x < 0 then a else if x ≤ nI n then b else a) = if zin x (n + 1) = true then b else a := by
  rw [← z_rng2 x hn]
  have e : (x ≤ nI n) = (¬ nI n < x) := propext Int32.not_lt.symm
  simp only [e]
  by_cases h : nI n < x <;> simp [h]
theorem z_rng4 {α : Type} (x : Int32) {n : Nat} (hn : n < 2147483648) (a b : α) : (if x < 0 then a else if x < nI n then b else a) = if zin x n = true then b else a := by
  rw [← z_rng x hn]
  have e : (x < nI n) = (¬ nI n ≤ x) := propext Int32.not_le.symm
  simp only [e]
  by_cases h : nI n ≤ x <;> simp [h]
theorem p_isNightZ (x : Int32) (M : zMem) : fX11_isNight x M = some (if zin x 200 = true then 1 else 0, M) := by
  have h := z_rng x (n := 200) (by omega) (some ((0 : Int32), M)) (some ((1 : Int32), M))
  rw [show fX11_isNight x M = _ from h]
  split <;> rfl
theorem m_isNightZ (x : Int32) (M : zMem) : fX12_isNight x M = some (if zin x 200 = true then 1 else 0, M) := p_isNightZ x M
theorem p_isCallerZ (x : Int32) (M : zMem) : fX11_isCaller x M = some (if zin x 20 = true then 1 else 0, M) := by
  have h := z_rng x (n := 20) (by omega) (some ((0 : Int32), M)) (some ((1 : Int32), M))
  rw [show fX11_isCaller x M = _ from h]
  split <;> rfl
theorem p_isVol {nv : Nat} {M : zMem} (hv : nv ≤ 8) (h : M.1 22 2 = nI nv) (x : Int32) : fX9_isVolunteer x M = some (if zin x nv = true then 1 else 0, M) := by
  have h1 := z_rng x (n := nv) (by omega) (some ((0 : Int32), M)) (some ((1 : Int32), M))
  unfold fX9_isVolunteer
  rw [h, h1]
  split <;> rfl
theorem m_isVol {nv : Nat} {M : zMem} (hv : nv ≤ 8) (h : M.1 69 37 = nI nv) (x : Int32) : fX12_isVolunteer x M = some (if zin x nv = true then 1 else 0, M) := by
  have h1 := z_rng x (n := nv) (by omega) (some ((0 : Int32), M)) (some ((1 : Int32), M))
  unfold fX12_isVolunteer
  rw [h, h1]
  split <;> rfl
theorem p_isStep {ns : Nat} {M : zMem} (hv : ns ≤ 8) (h : M.1 22 5 = nI ns) (x : Int32) : fX9_isStep x M = some (if zin x ns = true then 1 else 0, M) := by
  have h1 := z_rng x (n := ns) (by omega) (some ((0 : Int32), M)) (some ((1 : Int32), M))
  unfold fX9_isStep
  rw [h, h1]
  split <;> rfl
theorem p_isCall {nc : Nat} {M : zMem} (hv : nc ≤ 400) (h : M.1 47 9 = nI nc) (x : Int32) : fX1_isCall x M = some (if zin x nc = true then 1 else 0, M) := by
  have h1 := z_rng x (n := nc) (by omega) (some ((0 : Int32), M)) (some ((1 : Int32), M))
  unfold fX1_isCall
  rw [h, h1]
  split <;> rfl
theorem p_isNote {nn : Nat} {M : zMem} (hv : nn ≤ 60) (h : M.1 65 3 = nI nn) (x : Int32) : fX3_isNote x M = some (if zin x nn = true then 1 else 0, M) := by
  have h1 := z_rng x (n := nn) (by omega) (some ((0 : Int32), M)) (some ((1 : Int32), M))
  unfold fX3_isNote
  rw [h, h1]
  split <;> rfl
theorem p_within0 (x : Int32) {n : Nat} (hn : n + 1 < 2147483648) (M : zMem) : fX11_isWithin x 0 (nI n) M = some (if zin x (n + 1) = true then 1 else 0, M) := by
  have h := z_rng2 x (n := n) hn (some ((0 : Int32), M)) (some ((1 : Int32), M))
  unfold fX11_isWithin
  rw [h]
  split <;> rfl
-- getters of the call book
theorem p_get {f : Int32 → zMem → Option (Int32 × zMem)} {a n len : Nat} {M : zMem} {x dflt : Int32} (hlen : n ≤ len) (hl : len < 2147483648) (hf : f x M = zb2 (some (if zin x n = true then (1 : Int32) else 0, M)) fun r M2 => if r = 0 then some (dflt, M2) else (zldI M2 a len x).bind fun v => some (v, M2)) : f x M = some (if zin x n = true then M.1 a x.toNatClampNeg else dflt, M) := by
  rw [hf]
  by_cases h : zin x n = true
  · obtain ⟨j, hj, rfl⟩ := z_zinE (by omega) h
    rw [if_pos h, if_pos h, zb2_some, if_neg (by decide), z_ldI (by omega) hl, zbd_some, z_cl (by omega)]
  · rw [if_neg h, if_neg h, zb2_some, if_pos rfl]
theorem p_nightOf {nc : Nat} {M : zMem} (hv : nc ≤ 400) (h : M.1 47 9 = nI nc) (x : Int32) : fX1_nightOf x M = some (if zin x nc = true then M.1 48 x.toNatClampNeg else -1, M) := p_get hv (by omega) (by unfold fX1_nightOf; rw [p_isCall hv h])
theorem p_minuteOf {nc : Nat} {M : zMem} (hv : nc ≤ 400) (h : M.1 47 9 = nI nc) (x : Int32) : fX1_minuteOf x M = some (if zin x nc = true then M.1 49 x.toNatClampNeg else -1, M) := p_get hv (by omega) (by unfold fX1_minuteOf; rw [p_isCall hv h])
theorem p_callerOf {nc : Nat} {M : zMem} (hv : nc ≤ 400) (h : M.1 47 9 = nI nc) (x : Int32) : fX1_callerOf x M = some (if zin x nc = true then M.1 50 x.toNatClampNeg else -1, M) := p_get hv (by omega) (by unfold fX1_callerOf; rw [p_isCall hv h])
theorem p_needOf {nc : Nat} {M : zMem} (hv : nc ≤ 400) (h : M.1 47 9 = nI nc) (x : Int32) : fX1_needOf x M = some (if zin x nc = true then M.1 51 x.toNatClampNeg else -1, M) := p_get hv (by omega) (by unfold fX1_needOf; rw [p_isCall hv h])
theorem p_topicOf {nc : Nat} {M : zMem} (hv : nc ≤ 400) (h : M.1 47 9 = nI nc) (x : Int32) : fX1_topicOf x M = some (if zin x nc = true then M.1 52 x.toNatClampNeg else -1, M) := p_get hv (by omega) (by unfold fX1_topicOf; rw [p_isCall hv h])
theorem p_lengthOf {nc : Nat} {M : zMem} (hv : nc ≤ 400) (h : M.1 47 9 = nI nc) (x : Int32) : fX1_lengthOf x M = some (if zin x nc = true then M.1 53 x.toNatClampNeg else 0, M) := p_get hv (by omega) (by unfold fX1_lengthOf; rw [p_isCall hv h])
theorem p_stateOf {nc : Nat} {M : zMem} (hv : nc ≤ 400) (h : M.1 47 9 = nI nc) (x : Int32) : fX1_stateOf x M = some (if zin x nc = true then M.1 54 x.toNatClampNeg else -1, M) := p_get hv (by omega) (by unfold fX1_stateOf; rw [p_isCall hv h])
theorem p_takerOf {nc : Nat} {M : zMem} (hv : nc ≤ 400) (h : M.1 47 9 = nI nc) (x : Int32) : fX1_takerOf x M = some (if zin x nc = true then M.1 55 x.toNatClampNeg else -1, M) := p_get hv (by omega) (by unfold fX1_takerOf; rw [p_isCall hv h])
theorem p_sinceOf {nc : Nat} {M : zMem} (hv : nc ≤ 400) (h : M.1 47 9 = nI nc) (x : Int32) : fX1_sinceOf x M = some (if zin x nc = true then M.1 56 x.toNatClampNeg else -1, M) := p_get hv (by omega) (by unfold fX1_sinceOf; rw [p_isCall hv h])
theorem p_noteCall {nn : Nat} {M : zMem} (hv : nn ≤ 60) (h : M.1 65 3 = nI nn) (x : Int32) : fX3_callOf x M = some (if zin x nn = true then M.1 66 x.toNatClampNeg else -1, M) := p_get hv (by omega) (by unfold fX3_callOf; rw [p_isNote hv h])
theorem p_noteRank {nn : Nat} {M : zMem} (hv : nn ≤ 60) (h : M.1 65 3 = nI nn) (x : Int32) : fX3_rankOf x M = some (if zin x nn = true then M.1 67 x.toNatClampNeg else -1, M) := p_get hv (by omega) (by unfold fX3_rankOf; rw [p_isNote hv h])
theorem p_noteNight {nn : Nat} {M : zMem} (hv : nn ≤ 60) (h : M.1 65 3 = nI nn) (x : Int32) : fX3_nightOf x M = some (if zin x nn = true then M.1 68 x.toNatClampNeg else -1, M) := p_get hv (by omega) (by unfold fX3_nightOf; rw [p_isNote hv h])
theorem p_rankOf {nv : Nat} {M : zMem} (hv : nv ≤ 8) (h : M.1 22 2 = nI nv) (x : Int32) : fX9_rankOf x M = some (if zin x nv = true then M.1 23 x.toNatClampNeg else -1, M) := p_get hv (by omega) (by unfold fX9_rankOf; rw [p_isVol hv h])
theorem p_caredFrom {nv : Nat} {M : zMem} (hv : nv ≤ 8) (h : M.1 22 2 = nI nv) (x : Int32) : fX9_caredFrom x M = some (if zin x nv = true then M.1 24 x.toNatClampNeg else 0, M) := p_get hv (by omega) (by unfold fX9_caredFrom; rw [p_isVol hv h])
theorem z_m1n {a : Nat} (ha : a < 2147483648) : (nI a = -nI 1) = False := z_m1 ha
theorem z_anyN (x : Int32) : x < nI 0 ∨ ∃ j : Nat, j < 2147483648 ∧ x = nI j := z_any x
