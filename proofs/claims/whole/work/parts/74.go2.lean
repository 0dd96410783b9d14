/-! GO: the rules asked, by the reference; who is trained, by both -/
section GO
variable {tl nv ns c no nc nst nn r0 lv nr cs : Nat} {M : zMem} {R : Nat → Nat × Nat × List (Nat × Nat) × List (Nat × List (Nat × Nat) × List (Nat × Nat))} {N : Nat} {F : Nat → Int32}
theorem z_sort {k : Nat} (hk : k = 4 ∨ k = 5 ∨ k = 6 ∨ k = 7) : (nI (if k = 4 then 0 else k - 3) = (0 : Int32) ↔ k = 4) ∧ (nI (if k = 4 then 0 else k - 3) = (2 : Int32) ↔ k = 5) ∧ (nI (if k = 4 then 0 else k - 3) = (3 : Int32) ↔ k = 6) ∧ (nI (if k = 4 then 0 else k - 3) = (4 : Int32) ↔ k = 7) := by
  rcases hk with rfl | rfl | rfl | rfl <;> decide
theorem m_endsL (hR : zRu r0 lv nr cs R M) {v : Nat} (hv : v < 8) (x2 : Int32) (hN : 2000 < N) : ∀ d i f (B : zMem), i + d = nr → d < f → zGB M B → (∀ j, j < 6 → B.1 122 j = F j) → ∃ W, zeR B W ∧ fX12_ends_L50 N f x2 (nI v) (nI (20 * lv + i)) B = some (match zfst (zfr R F 7) i d with | none => W | some r => zpI W 128 v (x2 + nI (R r).2.1))
  | 0, i, f + 1, B, hi, hf, h, hF => by
    obtain ⟨u0, u3, u4, u5, u6, u7, u8, u9, u10⟩ := zGB_u hR h
    refine ⟨B, zeR_r B, ?_⟩
    rw [fX12_ends_L50, u4, z_ldI (by omega) (by omega), zbd_some, u7, show (20 : Int32) = nI 20 from rfl, z_mul, z_add, if_pos (by rw [z_le (by omega) (by omega)]; omega)]
    rfl
  | d + 1, i, f + 1, B, hi, hf, h, hF => by
    have hRB := zGB_u hR h
    obtain ⟨u0, u3, u4, u5, u6, u7, u8, u9, u10⟩ := id hRB
    obtain ⟨v1, v2, v3, v4, v5, -, v6, v7, -⟩ := u10 i (by omega)
    obtain ⟨z0, z2, z3, z4⟩ := z_sort v1
    rw [fX12_ends_L50, u4, z_ldI (by omega) (by omega), zbd_some, u7, show (20 : Int32) = nI 20 from rfl, z_mul, z_add, if_neg (by rw [z_le (by omega) (by omega)]; omega), z_ldI (by omega) (by omega), zbd_some, v6, zfst]
    unfold fX12_ends_L111 zfr
    by_cases e : (R i).1 = 7
    · obtain ⟨W, w1, w2⟩ := m_holds hRB hF (r := i) (by omega) hN
      have hW := zGB_e h (zeR_123 w2)
      rw [if_pos (z4.mpr e), w1, zb2_some]
      cases hh : zholdR F (R i).2.2.2
      · obtain ⟨X, x1, x2'⟩ := m_endsL hR hv x2 hN d (i + 1) f W (by omega) (by omega) hW (by rw [w2.2 122 (by omega)]; exact hF)
        refine ⟨X, zeR_t (zeR_123 w2) x1, ?_⟩
        rw [if_pos (show zbi false = 0 from rfl), zlet_eq, nI_1, Nat.add_assoc, x2']
        simp
        rfl
      · refine ⟨W, zeR_123 w2, ?_⟩
        rw [if_neg (by decide), z_ldI (by omega) (by omega), zbd_some, show W.1 79 (20 * lv + i) = nI (R i).2.1 by rw [w2.2 79 (by omega)]; exact v7, z_stI (by omega) (by omega), zbd_some]
        simp [e]
    · obtain ⟨X, x1, x2'⟩ := m_endsL hR hv x2 hN d (i + 1) f B (by omega) (by omega) h hF
      refine ⟨X, x1, ?_⟩
      rw [if_neg (fun q => e (z4.mp q)), zlet_eq, nI_1, Nat.add_assoc, x2']
      simp [e]
      rfl
theorem m_dropL (hR : zRu r0 lv nr cs R M) (hN : 2000 < N) : ∀ d i f (B : zMem), i + d = nr → d < f → zGB M B → (∀ j, j < 6 → B.1 122 j = F j) → ∃ W, zeR B W ∧ fX12_isDropped_L15 N f (nI (20 * lv + i)) B = some (zbi (zfst (zfr R F 6) i d).isSome, W)
  | 0, i, f + 1, B, hi, hf, h, hF => by
    obtain ⟨u0, u3, u4, u5, u6, u7, u8, u9, u10⟩ := zGB_u hR h
    refine ⟨B, zeR_r B, ?_⟩
    rw [fX12_isDropped_L15, u4, z_ldI (by omega) (by omega), zbd_some, u7, show (20 : Int32) = nI 20 from rfl, z_mul, z_add, if_pos (by rw [z_le (by omega) (by omega)]; omega)]
    rfl
  | d + 1, i, f + 1, B, hi, hf, h, hF => by
    have hRB := zGB_u hR h
    obtain ⟨u0, u3, u4, u5, u6, u7, u8, u9, u10⟩ := id hRB
    obtain ⟨v1, v2, v3, v4, v5, -, v6, v7, -⟩ := u10 i (by omega)
    obtain ⟨z0, z2, z3, z4⟩ := z_sort v1
    rw [fX12_isDropped_L15, u4, z_ldI (by omega) (by omega), zbd_some, u7, show (20 : Int32) = nI 20 from rfl, z_mul, z_add, if_neg (by rw [z_le (by omega) (by omega)]; omega), z_ldI (by omega) (by omega), zbd_some, v6, zfst]
    unfold fX12_isDropped_L56 zfr
    by_cases e : (R i).1 = 6
    · obtain ⟨W, w1, w2⟩ := m_holds hRB hF (r := i) (by omega) hN
      have hW := zGB_e h (zeR_123 w2)
      rw [if_pos (z3.mpr e), w1, zb2_some]
      cases hh : zholdR F (R i).2.2.2
      · obtain ⟨X, x1, x2'⟩ := m_dropL hR hN d (i + 1) f W (by omega) (by omega) hW (by rw [w2.2 122 (by omega)]; exact hF)
        refine ⟨X, zeR_t (zeR_123 w2) x1, ?_⟩
        rw [if_pos (show zbi false = 0 from rfl), zlet_eq, nI_1, Nat.add_assoc, x2']
        simp
        rfl
      · refine ⟨W, zeR_123 w2, ?_⟩
        rw [if_neg (by decide)]
        simp [e]
        rfl
    · obtain ⟨X, x1, x2'⟩ := m_dropL hR hN d (i + 1) f B (by omega) (by omega) h hF
      refine ⟨X, x1, ?_⟩
      rw [if_neg (fun q => e (z3.mp q)), zlet_eq, nI_1, Nat.add_assoc, x2']
      simp [e]
      rfl
def zfv (R : Nat → Nat × Nat × List (Nat × Nat) × List (Nat × List (Nat × Nat) × List (Nat × Nat))) (F : Nat → Int32) (need : Int32) : Option Nat → Int32
  | none => need
  | some r => ztv F (R r).2.2.1
theorem m_firstL (hR : zRu r0 lv nr cs R M) (hC : gCalls nv c nc nst M) {k : Nat} (hk : k < nc) (hN : 2000 < N) : ∀ d i f (B : zMem), i + d = nr → d < f → zGB M B → (∀ j, j < 6 → B.1 122 j = F j) → ∃ W, zeR B W ∧ fX12_firstOf_L15 N f (nI k) (nI (20 * lv + i)) B = some (zfv R F (M.1 51 k) (zfst (zfr R F 4) i d), W)
  | 0, i, f + 1, B, hi, hf, h, hF => by
    have n4 := hC.1
    obtain ⟨u0, u3, u4, u5, u6, u7, u8, u9, u10⟩ := zGB_u hR h
    refine ⟨B, zeR_r B, ?_⟩
    rw [fX12_firstOf_L15, u4, z_ldI (by omega) (by omega), zbd_some, u7, show (20 : Int32) = nI 20 from rfl, z_mul, z_add, if_pos (by rw [z_le (by omega) (by omega)]; omega), z_ldI (by omega) (by omega), zbd_some, h.2 115 (by omega) (by omega) (by omega), ← (hC.2.2.2.2.2.2.1 k hk).2.2.2.1]
    rfl
  | d + 1, i, f + 1, B, hi, hf, h, hF => by
    have hRB := zGB_u hR h
    obtain ⟨u0, u3, u4, u5, u6, u7, u8, u9, u10⟩ := id hRB
    obtain ⟨v1, v2, v3, v4, v5, -, v6, v7, ⟨b, b1, b2, b3, b4⟩, -⟩ := u10 i (by omega)
    obtain ⟨z0, z2, z3, z4⟩ := z_sort v1
    rw [fX12_firstOf_L15, u4, z_ldI (by omega) (by omega), zbd_some, u7, show (20 : Int32) = nI 20 from rfl, z_mul, z_add, if_neg (by rw [z_le (by omega) (by omega)]; omega), z_ldI (by omega) (by omega), zbd_some, v6, zfst]
    unfold fX12_firstOf_L70
    by_cases e : (R i).1 = 4
    · obtain ⟨W, w1, w2⟩ := m_holds hRB hF (r := i) (by omega) hN
      have hW := zGB_e h (zeR_123 w2)
      rw [if_pos (z0.mpr e), w1, zb2_some]
      cases hh : zholdR F (R i).2.2.2
      · obtain ⟨X, x1, x2'⟩ := m_firstL hR hC hk hN d (i + 1) f W (by omega) (by omega) hW (by rw [w2.2 122 (by omega)]; exact hF)
        refine ⟨X, zeR_t (zeR_123 w2) x1, ?_⟩
        have ep : ¬ zfr R F 4 i = true := by simp [zfr, hh]
        rw [if_pos (show zbi false = 0 from rfl), zlet_eq, nI_1, Nat.add_assoc, x2', if_neg ep]
      · have ep : zfr R F 4 i = true := by simp [zfr, hh, e]
        obtain ⟨X, x1, x2⟩ := m_value (M := W) (F := F) (by rw [w2.2 122 (by omega)]; exact hF) (v3 e) b3.1 (zsegR_c (w2.2 89 (by omega)) (w2.2 90 (by omega)) _ _ b4) hN
        refine ⟨X, zeR_t (zeR_123 w2) (zeR_123 x2), ?_⟩
        rw [if_neg (by decide), z_ldI (by omega) (by omega), zbd_some, z_ldI (by omega) (by omega), zbd_some, show W.1 80 (20 * lv + i) = nI b by rw [w2.2 80 (by omega)]; exact b1, show W.1 81 (20 * lv + i) = nI (b + (R i).2.2.1.length) by rw [w2.2 81 (by omega)]; exact b2, x1, zb2_some, if_pos ep]
        rfl
    · obtain ⟨X, x1, x2'⟩ := m_firstL hR hC hk hN d (i + 1) f B (by omega) (by omega) h hF
      refine ⟨X, x1, ?_⟩
      have ep : ¬ zfr R F 4 i = true := by simp [zfr, e]
      rw [if_neg (fun q => e (z0.mp q)), zlet_eq, nI_1, Nat.add_assoc, x2', if_neg ep]
/-- trained: each STEP rule that holds names a step that is had -/
def ztr (R : Nat → Nat × Nat × List (Nat × Nat) × List (Nat × List (Nat × Nat) × List (Nat × Nat))) (F : Nat → Int32) (hs : Nat → Bool) : Nat → Nat → Bool
  | _, 0 => true
  | i, d + 1 => !(decide ((R i).1 = 5) && zholdR F (R i).2.2.2 && !hs (R i).2.1) && ztr R F hs (i + 1) d
def zhs (ns c : Nat) (M : zMem) (v s : Nat) : Bool := decide (s < ns) && zhas M v 8 s c
theorem m_trainL (hR : zRu r0 lv nr cs R M) (hT : gTeam nv ns M) (hL : gLearn nv ns M) (hK : gClock c M) {v : Nat} (hv : v < nv) (hN : 2000 < N) : ∀ d i f (B : zMem), i + d = nr → d < f → zGB M B → (∀ j, j < 6 → B.1 122 j = F j) → ∃ W, zeR B W ∧ fX12_mayTake_L85 N f (nI v) (nI (20 * lv + i)) B = some (zbi (ztr R F (zhs ns c M v) i d), W)
  | 0, i, f + 1, B, hi, hf, h, hF => by
    obtain ⟨u0, u3, u4, u5, u6, u7, u8, u9, u10⟩ := zGB_u hR h
    refine ⟨B, zeR_r B, ?_⟩
    rw [fX12_mayTake_L85, u4, z_ldI (by omega) (by omega), zbd_some, u7, show (20 : Int32) = nI 20 from rfl, z_mul, z_add, if_pos (by rw [z_le (by omega) (by omega)]; omega)]
    rfl
  | d + 1, i, f + 1, B, hi, hf, h, hF => by
    have hRB := zGB_u hR h
    obtain ⟨u0, u3, u4, u5, u6, u7, u8, u9, u10⟩ := id hRB
    obtain ⟨v1, v2, v3, v4, v5, -, v6, v7, -⟩ := u10 i (by omega)
    obtain ⟨z0, z2, z3, z4⟩ := z_sort v1
    have s8 := hT.2.2.2.1
    rw [fX12_mayTake_L85, u4, z_ldI (by omega) (by omega), zbd_some, u7, show (20 : Int32) = nI 20 from rfl, z_mul, z_add, if_neg (by rw [z_le (by omega) (by omega)]; omega), z_ldI (by omega) (by omega), zbd_some, v6, ztr]
    unfold fX12_mayTake_L162
    by_cases e : (R i).1 = 5
    · obtain ⟨W, w1, w2⟩ := m_holds hRB hF (r := i) (by omega) hN
      have hW := zGB_e h (zeR_123 w2)
      obtain ⟨X, x1, x2'⟩ := m_trainL hR hT hL hK hv hN d (i + 1) f W (by omega) (by omega) hW (by rw [w2.2 122 (by omega)]; exact hF)
      rw [if_pos (z2.mpr e), w1, zb2_some]
      cases hh : zholdR F (R i).2.2.2
      · refine ⟨X, zeR_t (zeR_123 w2) x1, ?_⟩
        rw [if_pos (show zbi false = 0 from rfl), zlet_eq, nI_1, Nat.add_assoc, x2']
        simp
      · have e79 : W.1 79 (20 * lv + i) = nI (R i).2.1 := by rw [w2.2 79 (by omega)]; exact v7
        have e39 : W.1 69 39 = nI ns := by rw [hW.2 69 (by omega) (by omega) (by omega)]; exact hT.2.2.2.2.2.1
        have e44 : W.1 69 44 = nI c := by rw [hW.2 69 (by omega) (by omega) (by omega)]; exact hK.2.2
        rw [if_neg (by decide), z_ldI (by omega) (by omega), zbd_some, e79, e39, zbd_some]
        by_cases q : (R i).2.1 < ns
        · rw [if_neg (by rw [z_le (by omega) (by omega)]; omega), e44, m_hasStep (zGB_t hT hW) (zGB_l hL hW) hv q hK.1 (by omega), zb2_some, zhas_c (hW.2 25 (by omega) (by omega) (by omega)) (by rw [hW.1])]
          by_cases w : zhas M v 8 (R i).2.1 c = true
          · refine ⟨X, zeR_t (zeR_123 w2) x1, ?_⟩
            rw [if_pos w, if_neg (by decide), zlet_eq, nI_1, Nat.add_assoc, x2']
            simp [zhs, q, w]
          · refine ⟨W, zeR_123 w2, ?_⟩
            rw [if_neg w, if_pos rfl]
            simp [zhs, e, w]
            rfl
        · refine ⟨W, zeR_123 w2, ?_⟩
          rw [if_pos (by rw [z_le (by omega) (by omega)]; omega)]
          simp [zhs, e, q]
          rfl
    · obtain ⟨X, x1, x2'⟩ := m_trainL hR hT hL hK hv hN d (i + 1) f B (by omega) (by omega) h hF
      refine ⟨X, x1, ?_⟩
      rw [if_neg (fun q => e (z2.mp q)), zlet_eq, nI_1, Nat.add_assoc, x2']
      simp [e]
theorem p_trainL (hR : zRu r0 lv nr cs R M) (hT : gTeam nv ns M) (hK : gClock c M) {v : Nat} (hv : v < nv) (hN : 500 < N) : ∀ d i f (A : zMem), i + d = nr → d < f → zGA M c r0 A → (∀ j, j < 6 → A.1 64 j = F j) → ∃ W, zeC A W ∧ fX2_isTrained_L28 N f (nI v) (nI i) A = some (zbi (ztr R F (zhs ns c M v) i d), W)
  | 0, i, f + 1, A, hi, hf, h, hF => by
    obtain ⟨u0, u3, u4, u5, u6, u7, u8, u9, u10⟩ := zGA_u hR h
    refine ⟨A, zeC_r A, ?_⟩
    rw [fX2_isTrained_L28, h.2.1]
    unfold zdy fX6_size
    rw [if_pos u0, zb2_some, u6, if_pos (by rw [z_le (by omega) (by omega)]; omega)]
    rfl
  | d + 1, i, f + 1, A, hi, hf, h, hF => by
    have hRA := zGA_u hR h
    obtain ⟨u0, u3, u4, u5, u6, u7, u8, u9, u10⟩ := id hRA
    have s8 := hT.2.2.2.1
    have v2 := (u10 i (by omega)).2.1
    have dy : ∀ {α : Type} (x : Option α), zdy r0 x = x := fun x => by unfold zdy; rw [if_pos u0]
    have hsz : fX6_size r0 A = some (nI nr, A) := by unfold fX6_size; rw [u6]
    rw [fX2_isTrained_L28, h.2.1, dy, hsz, zb2_some, if_neg (by rw [z_le (by omega) (by omega)]; omega), h.2.1, dy, p_kind hRA (by omega), zb2_some, ztr]
    unfold fX2_isTrained_L95
    by_cases e : (R i).1 = 5
    · obtain ⟨W, w1, w2⟩ := p_holds hRA hF (r := i) (by omega) hN
      have hW := zGA_e h (zeC_st u0 w2)
      obtain ⟨X, x1, x2'⟩ := p_trainL hR hT hK hv hN d (i + 1) f A (by omega) (by omega) h hF
      obtain ⟨Y, y1, y2⟩ := p_trainL hR hT hK hv hN d (i + 1) f W (by omega) (by omega) hW (by rw [w2.2 64 (by omega)]; exact hF)
      rw [if_pos (by rw [e]; rfl), h.2.1, dy, p_number hRA (by omega), zb2_some, h.2.2.2]
      have hstep : fX9_hasStep N (nI v) (nI (R i).2.1) (nI c) A = some (if zhs ns c M v (R i).2.1 = true then 1 else 0, A) := by
        unfold zhs
        by_cases q : (R i).2.1 < ns
        · rw [p_hasStep (zGA_t hT h) hv q hK.1 (by omega), zhas_c (h.2.2.1 25 (by omega) (by omega) (by omega) (by omega)) (by rw [h.1])]
          simp [q]
        · have hz : zin (nI (R i).2.1) ns = false := by rw [z_zin (by omega)]; simp; omega
          rw [p_hasStep_o (zGA_t hT h) hz]
          simp [q]
      rw [hstep, zb2_some]
      by_cases w : zhs ns c M v (R i).2.1 = true
      · refine ⟨X, x1, ?_⟩
        rw [if_pos w, if_neg (by decide), zlet_eq, nI_1, x2']
        simp [w]
      · rw [if_neg w, if_pos rfl, h.2.1, dy, w1, zb2_some]
        cases hh : zholdR F (R i).2.2.2
        · refine ⟨Y, zeC_t (zeC_st u0 w2) y1, ?_⟩
          rw [if_pos (show zbi false = 0 from rfl), zlet_eq, nI_1, y2]
          simp
        · refine ⟨W, zeC_st u0 w2, ?_⟩
          rw [if_neg (by decide)]
          simp [w, e]
          rfl
    · obtain ⟨X, x1, x2'⟩ := p_trainL hR hT hK hv hN d (i + 1) f A (by omega) (by omega) h hF
      refine ⟨X, x1, ?_⟩
      rw [if_neg (by rw [show (5 : Int32) = nI 5 from rfl, z_eq (by have := (u10 i (by omega)).1; omega) (by omega)]; exact e), zlet_eq, nI_1, x2']
      simp [e]
end GO
