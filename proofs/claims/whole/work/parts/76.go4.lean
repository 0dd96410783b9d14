/-! GO: who takes a call, by the reference -/
def zgvR (M : zMem) (c : Nat) (W : zMem) (k v : Nat) (m : Int32) : zMem :=
  if M.1 51 k ≤ 7 then zpI (zpI (zpI (zpI (zpI W 118 k 1) 119 k (nI v)) 120 k m) 126 k 0) 127 v (nI k) else zpI (zpI (zpI (zpI (zpI (zpI W 118 k 1) 119 k (nI v)) 120 k m) 126 k 0) 127 v (nI k)) 97 (200 * v + c) 1
section GO
variable {tl nv ns c no nc nst nn r0 lv nr cs : Nat} {M : zMem} {R : Nat → Nat × Nat × List (Nat × Nat) × List (Nat × List (Nat × Nat) × List (Nat × Nat))} {N : Nat} {F : Nat → Int32} {K : Nat → Int32}
theorem m_may {B : zMem} (hR : zRu r0 lv nr cs R M) (hT : gTeam nv ns M) (hL : gLearn nv ns M) (hB : gBars M) (hK : gClock c M) (hC : gCalls nv c nc nst M) {k m v : Nat} (hk : k < nc) (hv : v < nv) (hN : 2000 < N) (h : zGB M B) (hq : ¬ B.1 118 k = 1) (hkn : B.1 124 k = K (M.1 50 k).toNatClampNeg) : ∃ W, zeR B W ∧ fX12_mayTake N (nI v) (nI k) (nI m) B = some (zbi (zmay M R ns c nr K (B.1 127) (B.1 128) (B.1 129) k m v), W) := by
  have t0 := hT.1
  have c0 := hK.1
  have n4 := hC.1
  obtain ⟨-, -, ⟨w1, hw1, ew1⟩, -⟩ := hC.2.2.2.2.2.2.2 k hk
  have e44 : B.1 69 44 = nI c := by rw [h.2 69 (by omega) (by omega) (by omega)]; exact hK.2.2
  have e106 : B.1 106 (8 * c + v) = M.1 106 (8 * c + v) := by rw [h.2 106 (by omega) (by omega) (by omega)]
  have e114 : B.1 114 k = nI w1 := by rw [h.2 114 (by omega) (by omega) (by omega), ← (hC.2.2.2.2.2.2.1 k hk).2.2.1]; exact ew1
  have ec : (M.1 50 k).toNatClampNeg = w1 := by rw [ew1, z_cl (by omega)]
  unfold fX12_mayTake
  rw [e44, show (8 : Int32) = nI 8 from rfl, z_mul, z_add, z_ldI (by omega) (by omega), zbd_some, e106]
  by_cases q1 : (M.1 106 (8 * c + v) >>> ((nI m / (60 : Int32)) &&& 31)) &&& (1 : Int32) = 0
  · rw [if_pos q1]
    refine ⟨B, zeR_r B, ?_⟩
    have : zmay M R ns c nr K (B.1 127) (B.1 128) (B.1 129) k m v = false := by unfold zmay zhb; simp [q1]
    rw [this]; rfl
  · rw [if_neg q1, z_ldI (by omega) (by omega), zbd_some]
    have hhb : zhb M c v m = true := by unfold zhb; simp [q1]
    by_cases q2 : B.1 127 v = -1
    · rw [if_pos q2, z_ldI (by omega) (by omega), zbd_some]
      by_cases q3 : nI m < B.1 128 v
      · rw [if_pos q3]
        refine ⟨B, zeR_r B, ?_⟩
        have q3' : ¬ B.1 128 v ≤ nI m := Int32.not_le.mpr q3
        have : zmay M R ns c nr K (B.1 127) (B.1 128) (B.1 129) k m v = false := by unfold zmay; simp [q3']
        rw [this]; rfl
      · have q3' : B.1 128 v ≤ nI m := Int32.not_lt.mp q3
        rw [if_neg q3, z_ldI (by omega) (by omega), zbd_some, e114, m_bar2 (zGB_t hT h) (h.2 96 (by omega) (by omega) (by omega)) hB hw1 hv c0, zb2_some]
        cases e3 : zbarB M w1 v c
        · obtain ⟨Y, y1, y2, y3⟩ := m_asks hC h hk (nI m) (B.1 129 v) hkn
          rw [if_neg hq] at y2
          have hY := zGB_e h (zeR_122 y3)
          obtain ⟨X, x1, x2⟩ := m_trainL hR hT hL hK hv hN nr 0 N Y (by omega) (by have := hR.2.2.2.1; omega) hY y2
          have e18 : Y.1 69 18 = nI lv := by rw [hY.2 69 (by omega) (by omega) (by omega)]; exact hR.2.2.1
          refine ⟨X, zeR_t (zeR_122 y3) x1, ?_⟩
          rw [if_pos (show zbi false = 0 from rfl), z_ldI (by omega) (by omega), zbd_some, y1, zbd_some, zlet_eq, e18, show (20 : Int32) = nI 20 from rfl, z_mul]
          rw [Nat.add_zero] at x2
          rw [x2]
          have : zmay M R ns c nr K (B.1 127) (B.1 128) (B.1 129) k m v = ztr R (zF M K k (nI m) (nI m) (B.1 129 v)) (zhs ns c M v) 0 nr := by unfold zmay; rw [ec, e3, hhb]; simp [q2, q3']
          rw [this]
        · rw [if_neg (by decide)]
          refine ⟨B, zeR_r B, ?_⟩
          have : zmay M R ns c nr K (B.1 127) (B.1 128) (B.1 129) k m v = false := by unfold zmay; rw [ec, e3]; simp
          rw [this]; rfl
    · rw [if_neg q2]
      refine ⟨B, zeR_r B, ?_⟩
      have : zmay M R ns c nr K (B.1 127) (B.1 128) (B.1 129) k m v = false := by unfold zmay; simp [q2]
      rw [this]; rfl
theorem m_takesL (hR : zRu r0 lv nr cs R M) (hT : gTeam nv ns M) (hL : gLearn nv ns M) (hB : gBars M) (hK : gClock c M) (hC : gCalls nv c nc nst M) {k m : Nat} (hk : k < nc) (hN : 2000 < N) : ∀ d i f b (B : zMem), i + d = nv → d < f → (∀ j, b = some j → j < i) → zGB M B → ¬ B.1 118 k = 1 → B.1 124 k = K (M.1 50 k).toNatClampNeg → ∃ W, zeR B W ∧ fX12_takes_L5 N f (nI k) (nI m) (zoi b) (nI i) B = some (match zpick (zmay M R ns c nr K (B.1 127) (B.1 128) (B.1 129) k m) (B.1 129) i d b with | none => W | some v => zgvR M c W k v (nI m))
  | 0, i, f + 1, b, B, hi, hf, hb, h, hq, hkn => by
    have t0 := hT.1
    have c0 := hK.1
    have n4 := hC.1
    have e37 : B.1 69 37 = nI nv := (zGB_t hT h).2.2.1
    refine ⟨B, zeR_r B, ?_⟩
    rw [fX12_takes_L5, e37, if_pos (by rw [z_le (by omega) (by omega)]; omega)]
    cases b with
    | none => rw [if_pos (show zoi none = -1 from rfl)]; rfl
    | some v =>
      have hv := hb v rfl
      have e115 : B.1 115 k = M.1 51 k := by rw [h.2 115 (by omega) (by omega) (by omega), ← (hC.2.2.2.2.2.2.1 k hk).2.2.2.1]
      have e44 : B.1 69 44 = nI c := by rw [h.2 69 (by omega) (by omega) (by omega)]; exact hK.2.2
      rw [show zoi (some v) = nI v from rfl, if_neg (show ¬ nI v = -1 by rw [z_m1 (by omega)]; exact id), z_stI (by omega) (by omega), zbd_some, z_stI (by omega) (by omega), zbd_some, z_stI (by omega) (by omega), zbd_some, z_stZ (by omega) (by omega) (Or.inl rfl), zbd_some, z_stI (by omega) (by omega), zbd_some, z_ldI (by omega) (by omega), zbd_some]
      show (if (B.1 115 k) ≤ 7 then _ else _) = _
      rw [e115]
      show _ = some (zgvR M c B k v (nI m))
      unfold zgvR
      by_cases q : M.1 51 k ≤ 7
      · rw [if_pos q, if_pos q]
      · rw [if_neg q, if_neg q]
        rw [show (zpI (zpI (zpI (zpI (zpI B 118 k 1) 119 k (nI v)) 120 k (nI m)) 126 k 0) 127 v (nI k)).1 69 44 = nI c from e44, show (200 : Int32) = nI 200 from rfl, z_mul, z_add, z_stZ (by omega) (by omega) (Or.inr rfl), zbd_some]
  | d + 1, i, f + 1, b, B, hi, hf, hb, h, hq, hkn => by
    have t0 := hT.1
    have e37 : B.1 69 37 = nI nv := (zGB_t hT h).2.2.1
    have goon : ∀ (W : zMem) (b' : Option Nat), zeR B W → (∀ j, b' = some j → j < i + 1) → ∃ X, zeR B X ∧ fX12_takes_L49 N (fX12_takes_L5 N f) (nI k) (nI m) (zoi b') (nI i) W = some (match zpick (zmay M R ns c nr K (B.1 127) (B.1 128) (B.1 129) k m) (B.1 129) (i + 1) d b' with | none => X | some v => zgvR M c X k v (nI m)) := by
      intro W b' hW hb'
      obtain ⟨X, x1, x2⟩ := m_takesL hR hT hL hB hK hC (m := m) hk hN d (i + 1) f b' W (by omega) (by omega) hb' (zGB_e h hW) (by rw [hW.2 118 (by omega) (by omega)]; exact hq) (by rw [hW.2 124 (by omega) (by omega)]; exact hkn)
      refine ⟨X, zeR_t hW x1, ?_⟩
      unfold fX12_takes_L49
      rw [zlet_eq, nI_1, x2, hW.2 127 (by omega) (by omega), hW.2 128 (by omega) (by omega), hW.2 129 (by omega) (by omega)]
    have try_ : zbt (B.1 129) b i = true → ∃ X, zeR B X ∧ fX12_takes_L35 N (fX12_takes_L5 N f) (nI k) (nI m) (zoi b) (nI i) B = some (match zpick (zmay M R ns c nr K (B.1 127) (B.1 128) (B.1 129) k m) (B.1 129) i (d + 1) b with | none => X | some v => zgvR M c X k v (nI m)) := by
      intro hbt
      obtain ⟨W, w1, w2⟩ := m_may (K := K) hR hT hL hB hK hC (m := m) (v := i) hk (by omega) hN h hq hkn
      rw [zpick, hbt, Bool.true_and]
      unfold fX12_takes_L35
      rw [w2, zb2_some]
      cases zmay M R ns c nr K (B.1 127) (B.1 128) (B.1 129) k m i
      · rw [if_pos (show zbi false = 0 from rfl), if_neg (by decide)]
        exact goon W b w1 (fun j e => by have := hb j e; omega)
      · rw [if_neg (by decide), if_pos rfl]
        exact goon W (some i) w1 (fun j e => by have : i = j := Option.some.inj e; omega)
    rw [fX12_takes_L5, e37, if_neg (by rw [z_le (by omega) (by omega)]; omega)]
    cases b with
    | none => rw [if_pos (show zoi none = -1 from rfl)]; exact try_ rfl
    | some j =>
      have hj := hb j rfl
      rw [show zoi (some j) = nI j from rfl, if_neg (show ¬ nI j = -1 by rw [z_m1 (by omega)]; exact id)]
      rw [z_ldI (by omega) (by omega), zbd_some, z_ldI (by omega) (by omega), zbd_some]
      by_cases q : B.1 129 j ≤ B.1 129 i
      · rw [if_pos q, zpick]
        have hbt : zbt (B.1 129) (some j) i = false := by simp [zbt, q]
        rw [hbt, Bool.false_and, if_neg (by decide)]
        exact goon B (some j) (zeR_r B) (fun j' e => by have : j = j' := Option.some.inj e; omega)
      · rw [if_neg q]
        exact try_ (by simp [zbt, q])
end GO
