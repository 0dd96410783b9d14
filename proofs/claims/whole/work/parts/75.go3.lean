/-! GO: who may take a call; who takes it -/
def zbarB (M : zMem) (k v n : Nat) : Bool := !decide (M.1 28 (k * 8 + v) = -1) && decide (M.1 28 (k * 8 + v) ≤ nI n)
def zhb (M : zMem) (c v m : Nat) : Bool := !decide ((M.1 106 (8 * c + v) >>> ((nI m / (60 : Int32)) &&& 31)) &&& (1 : Int32) = 0)
/-- may volunteer v take call k at minute m: cur, rest, sof are rows -/
def zmay (M : zMem) (R : Nat → Nat × Nat × List (Nat × Nat) × List (Nat × List (Nat × Nat) × List (Nat × Nat))) (ns c nr : Nat) (K : Nat → Int32) (cur rest sof : Nat → Int32) (k m v : Nat) : Bool :=
  (decide (cur v = -1) && decide (rest v ≤ nI m) && zhb M c v m) && (!zbarB M (M.1 50 k).toNatClampNeg v c && ztr R (zF M K k (nI m) (nI m) (sof v)) (zhs ns c M v) 0 nr)
def zbt (sof : Nat → Int32) : Option Nat → Nat → Bool
  | none, _ => true
  | some j, i => !decide (sof j ≤ sof i)
def zpick (may : Nat → Bool) (sof : Nat → Int32) : Nat → Nat → Option Nat → Option Nat
  | _, 0, b => b
  | i, d + 1, b => zpick may sof (i + 1) d (if (zbt sof b i && may i) = true then some i else b)
theorem zpick_lt {may : Nat → Bool} {sof : Nat → Int32} : ∀ d i b r, (∀ j, b = some j → j < i) → zpick may sof i d b = some r → r < i + d ∧ (b = some r ∨ may r = true)
  | 0, i, b, r, hb, h => ⟨hb r h, Or.inl h⟩
  | d + 1, i, b, r, hb, h => by
    rw [zpick] at h
    by_cases q : (zbt sof b i && may i) = true
    · rw [if_pos q] at h
      obtain ⟨h1, h2⟩ := zpick_lt d (i + 1) (some i) r (fun j e => by have : i = j := Option.some.inj e; omega) h
      refine ⟨by omega, ?_⟩
      rcases h2 with z | z
      · have : i = r := Option.some.inj z
        subst this
        rw [Bool.and_eq_true] at q
        exact Or.inr q.2
      · exact Or.inr z
    · rw [if_neg q] at h
      obtain ⟨h1, h2⟩ := zpick_lt d (i + 1) b r (fun j e => by have := hb j e; omega) h
      exact ⟨by omega, h2⟩
theorem zpick_no {may : Nat → Bool} {sof : Nat → Int32} : ∀ d i b, (∀ j, i ≤ j → j < i + d → may j = false) → zpick may sof i d b = b
  | 0, i, b, h => rfl
  | d + 1, i, b, h => by
    rw [zpick, h i (Nat.le_refl i) (by omega), Bool.and_false, if_neg (by decide)]
    exact zpick_no d (i + 1) b (fun j h1 h2 => h j (by omega) (by omega))
section GO
variable {tl nv ns c no nc nst nn r0 lv nr cs : Nat} {M : zMem} {R : Nat → Nat × Nat × List (Nat × Nat) × List (Nat × List (Nat × Nat) × List (Nat × Nat))} {N : Nat} {F : Nat → Int32}
theorem p_bar2 {A : zMem} (hT : gTeam nv ns A) (e28 : A.1 28 = M.1 28) (hB : gBars M) {k v n : Nat} (hk : k < 20) (hv : v < nv) (hn : n < 200) : fX9_isBarred (nI k) (nI v) (nI n) A = some (zbi (zbarB M k v n), A) := by
  have t0 := hT.1
  obtain ⟨-, e2⟩ := hB (k * 8 + v) (by omega)
  have h1 := hT.2.1
  unfold fX9_isBarred fX9_barIndex zbarB
  rw [p_isCallerZ, if_pos (z_zinI (by omega) hk), zb2_some, if_neg (by decide), p_isVol t0 h1, if_pos (z_zinI (by omega) hv), zb2_some, if_neg (by decide), zb2_some, show (8 : Int32) = nI 8 from rfl, z_mul, z_add, z_ldI (by omega) (by omega), zbd_some, e28]
  rcases e2 with e2 | ⟨q, hq, e2⟩
  · rw [e2]; rfl
  · rw [e2]
    have : ¬ nI q = (-1 : Int32) := by rw [z_m1 (by omega)]; exact id
    by_cases w : q ≤ n
    · have w2 : nI q ≤ nI n := by rw [z_le (by omega) (by omega)]; exact w
      have w3 : ¬ nI n < nI q := by rw [z_lt (by omega) (by omega)]; omega
      simp [zlet_eq, this, w2, w3]; rfl
    · have w2 : ¬ nI q ≤ nI n := by rw [z_le (by omega) (by omega)]; exact w
      have w3 : nI n < nI q := by rw [z_lt (by omega) (by omega)]; omega
      simp [zlet_eq, this, w2, w3]; rfl
theorem m_bar2 {B : zMem} (hT : gTeam nv ns B) (e96 : B.1 96 = M.1 96) (hB : gBars M) {k v n : Nat} (hk : k < 20) (hv : v < nv) (hn : n < 200) : fX12_isBarred (nI k) (nI v) (nI n) B = some (zbi (zbarB M k v n), B) := by
  have t0 := hT.1
  obtain ⟨e1, e2⟩ := hB (k * 8 + v) (by omega)
  have e3 : 8 * k + v = k * 8 + v := by omega
  unfold fX12_isBarred zbarB
  rw [show (8 : Int32) = nI 8 from rfl, z_mul, z_add, e3, z_ldI (by omega) (by omega), zbd_some, e96]
  rcases e2 with e2 | ⟨q, hq, e2⟩
  · have e4 : M.1 96 (k * 8 + v) = nI 0 := by rw [e1, e2]; decide
    rw [e4, e2]; rfl
  · have e4 : M.1 96 (k * 8 + v) = nI (q + 1) := by rw [e1, e2]; exact nI_1 q
    rw [e4, e2]
    have : ¬ nI q = (-1 : Int32) := by rw [z_m1 (by omega)]; exact id
    by_cases w : q ≤ n
    · have w2 : nI q ≤ nI n := by rw [z_le (by omega) (by omega)]; exact w
      simp (disch := omega) only [z_lit, z_le, z_lt, z_eq, z_add, z_sub, z_mul, z_ldI, z_ldJ, z_stI, z_stJ, z_stB, z_cl, zpI_1, zpI_2, zpJ_1, zb2_some, zbd_some, zlet_eq, if_pos, if_neg, z_m1, z_m1n, and_self, and_true, true_and, and_false, false_and, if_true, if_false, Nat.add_sub_cancel, eq_self, not_true_eq_false, not_false_eq_true]
      simp [this, w]; rfl
    · have w2 : ¬ nI q ≤ nI n := by rw [z_le (by omega) (by omega)]; exact w
      simp (disch := omega) only [z_lit, z_le, z_lt, z_eq, z_add, z_sub, z_mul, z_ldI, z_ldJ, z_stI, z_stJ, z_stB, z_cl, zpI_1, zpI_2, zpJ_1, zb2_some, zbd_some, zlet_eq, if_pos, if_neg, z_m1, z_m1n, and_self, and_true, true_and, and_false, false_and, if_true, if_false, Nat.add_sub_cancel, eq_self, not_true_eq_false, not_false_eq_true]
      simp [w]; rfl
theorem p_free {A : zMem} (hP : gPres nv M) (hK : gClock c M) (h : zGA M c r0 A) {v m : Nat} (hv : v < 8) : fX2_isFree (nI v) (nI m) A = some (zbi (decide (A.1 58 v = -1) && decide (A.1 59 v ≤ nI m) && zhb M c v m), A) := by
  unfold fX2_isFree zhb
  rw [if_neg (nI_pos (by omega)), show (8 : Int32) = nI 8 from rfl, if_neg (by rw [z_le (by omega) (by omega)]; omega), z_ldI (by omega) (by omega), zbd_some]
  by_cases e : A.1 58 v = -1
  · rw [if_pos e, z_ldI (by omega) (by omega), zbd_some]
    by_cases e2 : A.1 59 v ≤ nI m
    · rw [if_pos e2, h.2.2.2, p_hoursOf (zGA_p hP h) hv hK.1, zb2_some, h.2.2.1 106 (by omega) (by omega) (by omega) (by omega)]
      by_cases e3 : (M.1 106 (8 * c + v) >>> ((nI m / (60 : Int32)) &&& 31)) &&& (1 : Int32) = 0
      · rw [if_pos e3]; simp [e3]; rfl
      · rw [if_neg e3]; simp [e, e2, e3]; rfl
    · rw [if_neg e2]; simp [e2]; rfl
  · rw [if_neg e]; simp [e]; rfl
theorem p_volL (hR : zRu r0 lv nr cs R M) (hT : gTeam nv ns M) (hB : gBars M) (hP : gPres nv M) (hK : gClock c M) (hC : gCalls nv c nc nst M) {k m : Nat} (hk : k < nc) (hN : 500 < N) : ∀ d i f b (A : zMem), i + d = nv → d < f → (∀ j, b = some j → j < i) → zGA M c r0 A → ∃ W, zeC A W ∧ fX2_volunteerFor_L5 N f (nI k) (nI m) (zoi b) (nI i) A = some (zoi (zpick (zmay M R ns c nr (A.1 61) (A.1 58) (A.1 59) (A.1 60) k m) (A.1 60) i d b), W)
  | 0, i, f + 1, b, A, hi, hf, hb, h => by
    have t0 := hT.1
    have e2 : A.1 22 2 = nI nv := (zGA_t hT h).2.1
    refine ⟨A, zeC_r A, ?_⟩
    rw [fX2_volunteerFor_L5]
    unfold fX9_size
    rw [zb2_some, e2, if_pos (by rw [z_le (by omega) (by omega)]; omega)]
    rfl
  | d + 1, i, f + 1, b, A, hi, hf, hb, h => by
    have t0 := hT.1
    have hTA := zGA_t hT h
    have e2 : A.1 22 2 = nI nv := hTA.2.1
    have n4 := hC.1
    have e9 : A.1 47 9 = nI nc := by rw [h.2.2.1 47 (by omega) (by omega) (by omega) (by omega)]; exact hC.2.2.2.1
    obtain ⟨-, -, ⟨w1, hw1, ew1⟩, -⟩ := hC.2.2.2.2.2.2.2 k hk
    have er50 : A.1 50 k = nI w1 := by rw [h.2.2.1 50 (by omega) (by omega) (by omega) (by omega)]; exact ew1
    -- going on
    have goon : ∀ (W : zMem) (b' : Option Nat), zeC A W → (∀ j, b' = some j → j < i + 1) → ∃ X, zeC A X ∧ fX2_volunteerFor_L105 N (fX2_volunteerFor_L5 N f) (nI k) (nI m) (zoi b') (nI i) W = some (zoi (zpick (zmay M R ns c nr (A.1 61) (A.1 58) (A.1 59) (A.1 60) k m) (A.1 60) (i + 1) d b'), X) := by
      intro W b' hW hb'
      obtain ⟨X, x1, x2⟩ := p_volL hR hT hB hP hK hC (m := m) hk hN d (i + 1) f b' W (by omega) (by omega) hb' (zGA_e h hW)
      refine ⟨X, zeC_t hW x1, ?_⟩
      unfold fX2_volunteerFor_L105
      rw [zlet_eq, nI_1, x2, hW.2 61 (by omega) (by omega) (by omega), hW.2 58 (by omega) (by omega) (by omega), hW.2 59 (by omega) (by omega) (by omega), hW.2 60 (by omega) (by omega) (by omega)]
    have try_ : zbt (A.1 60) b i = true → ∃ X, zeC A X ∧ fX2_volunteerFor_L45 N (fX2_volunteerFor_L5 N f) (nI k) (nI m) (zoi b) (nI i) A = some (zoi (zpick (zmay M R ns c nr (A.1 61) (A.1 58) (A.1 59) (A.1 60) k m) (A.1 60) i (d + 1) b), X) := by
      intro hbt
      rw [zpick, hbt, Bool.true_and]
      unfold fX2_volunteerFor_L45 fX2_volunteerFor_L50
      rw [if_neg (by decide), p_free hP hK h (show i < 8 by omega), zb2_some]
      have hbi : ∀ j, b = some j → j < i + 1 := fun j e => by have := hb j e; omega
      cases e1 : (decide (A.1 58 i = -1) && decide (A.1 59 i ≤ nI m) && zhb M c i m)
      · have em : zmay M R ns c nr (A.1 61) (A.1 58) (A.1 59) (A.1 60) k m i = false := by unfold zmay; rw [e1]; rfl
        rw [em, if_pos (show zbi false = 0 from rfl), if_neg (by decide)]
        exact goon A b (zeC_r A) hbi
      · rw [if_neg (by decide), p_callerOf n4 e9, if_pos (z_zinI (by omega) hk), zb2_some, z_cl (by omega), er50, h.2.2.2, p_bar2 hTA (h.2.2.1 28 (by omega) (by omega) (by omega) (by omega)) hB hw1 (by omega) hK.1, zb2_some]
        have ec : (M.1 50 k).toNatClampNeg = w1 := by rw [ew1, z_cl (by omega)]
        cases e3 : zbarB M w1 i c
        · obtain ⟨Y, y1, y2, y3⟩ := pc_facts hC h hk (nI m) (nI m) (A.1 60 i)
          have hY := zGA_e h (zeC_64 y3)
          obtain ⟨X, x1, x2⟩ := p_trainL hR hT hK (v := i) (by omega) hN nr 0 N Y (by omega) (by have := hR.2.2.2.1; omega) hY y2
          have htr : fX2_isTrained N (nI i) (nI k) (nI m) A = some (zbi (ztr R (zF M (A.1 61) k (nI m) (nI m) (A.1 60 i)) (zhs ns c M i) 0 nr), X) := by
            unfold fX2_isTrained
            rw [if_neg (nI_pos (by omega)), show (8 : Int32) = nI 8 from rfl, if_pos (by rw [z_lt (by omega) (by omega)]; omega), z_ldI (by omega) (by omega), zbd_some, y1, zbd_some]
            exact x2
          rw [if_pos (show zbi false = 0 from rfl), htr, zb2_some]
          have em : zmay M R ns c nr (A.1 61) (A.1 58) (A.1 59) (A.1 60) k m i = ztr R (zF M (A.1 61) k (nI m) (nI m) (A.1 60 i)) (zhs ns c M i) 0 nr := by unfold zmay; rw [e1, ec, e3]; simp
          rw [em]
          have hX : zeC A X := zeC_t (zeC_64 y3) x1
          cases ztr R (zF M (A.1 61) k (nI m) (nI m) (A.1 60 i)) (zhs ns c M i) 0 nr
          · rw [if_pos (show zbi false = 0 from rfl), if_neg (by decide)]
            exact goon X b hX hbi
          · rw [if_neg (by decide), if_pos rfl]
            exact goon X (some i) hX (fun j e => by have : i = j := Option.some.inj e; omega)
        · have em : zmay M R ns c nr (A.1 61) (A.1 58) (A.1 59) (A.1 60) k m i = false := by unfold zmay; rw [e1, ec, e3]; rfl
          rw [em, if_neg (by decide), if_neg (by decide)]
          exact goon A b (zeC_r A) hbi
    rw [fX2_volunteerFor_L5]
    unfold fX9_size
    rw [zb2_some, e2, if_neg (by rw [z_le (by omega) (by omega)]; omega), show (8 : Int32) = nI 8 from rfl, if_neg (by rw [z_le (by omega) (by omega)]; omega)]
    cases b with
    | none => rw [if_pos (show zoi none = -1 from rfl)]; exact try_ rfl
    | some j =>
      have hj := hb j rfl
      rw [show zoi (some j) = nI j from rfl, if_neg (show ¬ nI j = -1 by rw [z_m1 (by omega)]; exact id)]
      rw [z_ldI (by omega) (by omega), zbd_some, z_ldI (by omega) (by omega), zbd_some]
      by_cases q : A.1 60 j ≤ A.1 60 i
      · rw [if_pos q]
        unfold fX2_volunteerFor_L50
        rw [if_pos rfl, zpick]
        have hbt : zbt (A.1 60) (some j) i = false := by simp [zbt, q]
        rw [hbt, Bool.false_and, if_neg (by decide)]
        exact goon A (some j) (zeC_r A) (fun j' e => by have : j = j' := Option.some.inj e; omega)
      · rw [if_neg q]
        exact try_ (by simp [zbt, q])
end GO
