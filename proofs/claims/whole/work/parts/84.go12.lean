/-! GO: a minute -/
def zex (p : Nat → Bool) : Nat → Nat → Bool
  | _, 0 => false
  | i, d + 1 => p i || zex p (i + 1) d
theorem zex_no {p : Nat → Bool} : ∀ d i, zex p i d = false → ∀ j, i ≤ j → j < i + d → p j = false
  | 0, i, _, j, h1, h2 => by omega
  | d + 1, i, h, j, h1, h2 => by
    rw [zex, Bool.or_eq_false_iff] at h
    by_cases e : j = i
    · subst e; exact h.1
    · exact zex_no d (i + 1) h.2 j (by omega) (by omega)
section GO
variable {tl nv ns c no nc nst nn r0 lv nr cs : Nat} {M : zMem} {R : Nat → Nat × Nat × List (Nat × Nat) × List (Nat × List (Nat × Nat) × List (Nat × Nat))} {N : Nat}
def zfreeB (M : zMem) (c : Nat) (A : zMem) (m v : Nat) : Bool := decide (A.1 58 v = -1) && decide (A.1 59 v ≤ nI m) && zhb M c v m
theorem p_anyL (hT : gTeam nv ns M) (hP : gPres nv M) (hK : gClock c M) {A : zMem} (h : zGA M c r0 A) {m : Nat} : ∀ d i f, i + d = nv → d < f → fX2_isAnyFree_L2 N f (nI m) (nI i) A = some (zbi (zex (zfreeB M c A m) i d), A)
  | 0, i, f + 1, hi, hf => by
    have t0 := hT.1
    rw [fX2_isAnyFree_L2]
    unfold fX9_size
    rw [zb2_some, (zGA_t hT h).2.1, if_pos (by rw [z_le (by omega) (by omega)]; omega)]
    rfl
  | d + 1, i, f + 1, hi, hf => by
    have t0 := hT.1
    rw [fX2_isAnyFree_L2]
    unfold fX9_size
    rw [zb2_some, (zGA_t hT h).2.1, if_neg (by rw [z_le (by omega) (by omega)]; omega), p_free hP hK h (show i < 8 by omega), zb2_some, zex]
    show (if zbi (zfreeB M c A m i) = 0 then _ else _) = _
    cases zfreeB M c A m i
    · rw [if_pos (show zbi false = 0 from rfl), zlet_eq, nI_1, p_anyL hT hP hK h d (i + 1) f (by omega) (by omega), Bool.false_or]
    · rw [if_neg (by decide)]; rfl
/-- nobody may take anything: the reference asks in vain -/
theorem m_noGive (hR : zRu r0 lv nr cs R M) (hT : gTeam nv ns M) (hL : gLearn nv ns M) (hBr : gBars M) (hK : gClock c M) (hC : gCalls nv c nc nst M) {m n : Nat} (hm : m < 360) (hn : n ≤ 40) (hN : 2000 < N) {fv : Nat → Int32} {wt : Nat → Bool} {l : Nat → Nat} (hln : zln fv wt nst nc n l) {K : Nat → Int32} {B0 : zMem} (hst : ∀ j, j < n → ¬ B0.1 118 (l j) = 1) (hkn : ∀ k, nst ≤ k → k < nc → B0.1 124 k = K (M.1 50 k).toNatClampNeg) (hno : ∀ k v, v < 8 → v < nv → zmay M R ns c nr K (B0.1 127) (B0.1 128) (B0.1 129) k m v = false) : ∀ d i g (B : zMem), i + d = n → d < g → zGB M B → zeS B0 B → zsel fv nst nc n i l B →
    ∃ X, fX12_oneMinute_L198 N g (nI nst) (nI m) (nI (n - i)) B = some X ∧ zGB M X ∧ zeS B0 X
  | 0, i, g + 1, B, hi, hg, hB, hS, hs => by
    refine ⟨B, ?_, hB, hS⟩
    rw [fX12_oneMinute_L198, show n - i = 0 by omega, if_pos (by decide)]
  | d + 1, i, g + 1, B, hi, hg, hB, hS, hs => by
    have t0 := hT.1
    have n4 := hC.1
    obtain ⟨li1, li2, li3⟩ := hln.1 i (by omega)
    have hB1 : zGB M (zpI B 130 (l i) 1) := ⟨hB.1, fun a p1 p2 p3 => by rw [zpI_r _ _ (by omega)]; exact hB.2 a p1 p2 p3⟩
    have hS1 : zeS B0 (zpI B 130 (l i) 1) := ⟨hS.1, fun a p1 p2 p3 p4 => by rw [zpI_r _ _ p4]; exact hS.2 a p1 p2 p3 p4⟩
    have hsel := m_L208 (N := N) hC hB hln (show i < n by omega) hs (k198 := fX12_oneMinute_L198 N g) (x2 := nI m) (x3 := nI (n - i)) (nc - nst) nst N none (Nat.le_refl nst) (by have := hC.2.1; omega) (by omega) (fun _ j _ j2 => (hln.1 j j2).1) (fun k e => by cases e)
    obtain ⟨X, x1, x2⟩ := m_takesL (K := K) hR hT hL hBr hK hC (m := m) li2 hN nv 0 N none (zpI B 130 (l i) 1) (by omega) (by omega) (fun j e => by cases e) hB1 (by rw [hS1.2 118 (by omega) (by omega) (by omega) (by omega)]; exact hst i (by omega)) (by rw [hS1.2 124 (by omega) (by omega) (by omega) (by omega)]; exact hkn (l i) li1 li2)
    have hpick : zpick (zmay M R ns c nr K ((zpI B 130 (l i) 1).1 127) ((zpI B 130 (l i) 1).1 128) ((zpI B 130 (l i) 1).1 129) (l i) m) ((zpI B 130 (l i) 1).1 129) 0 nv none = none := by
      rw [hS1.2 127 (by omega) (by omega) (by omega) (by omega), hS1.2 128 (by omega) (by omega) (by omega) (by omega), hS1.2 129 (by omega) (by omega) (by omega) (by omega)]
      exact zpick_no nv 0 none (fun j _ j2 => hno (l i) j (by omega) (by omega))
    rw [hpick] at x2
    have htak : fX12_takes N (nI (l i)) (nI m) (zpI B 130 (l i) 1) = some X := x2
    have hX := zGB_e hB1 x1
    have hSX : zeS B0 X := ⟨by rw [x1.1]; exact hS1.1, fun a p1 p2 p3 p4 => by rw [x1.2 a p1 p2]; exact hS1.2 a p1 p2 p3 p4⟩
    have hx3 : nI (n - i) + (-1 : Int32) = nI (n - (i + 1)) := by rw [show (-1 : Int32) = -nI 1 from rfl, ← Int32.sub_eq_add_neg, z_sub (by omega)]; congr 1
    have h0 : ¬ nI (n - i) ≤ (0 : Int32) := by rw [show (0 : Int32) = nI 0 from rfl, z_le (by omega) (by omega)]; omega
    have hne : ∀ j, i < j → j < n → l j ≠ l i := by
      intro j j1 j2 e
      rcases hln.2.2 i j j1 j2 with y | ⟨-, y⟩
      · rw [e] at y; exact absurd y (Int32.not_lt.mpr (Int32.le_refl _))
      · omega
    obtain ⟨Y, y1, y2, y3⟩ := m_noGive hR hT hL hBr hK hC hm hn hN hln hst hkn hno d (i + 1) g X (by omega) (by omega) hX hSX (by
      refine ⟨fun j hj => by rw [x1.2 125 (by omega) (by omega), zpI_r _ _ (by omega)]; exact hs.1 j hj, fun k kk1 kk2 => ?_⟩
      rw [x1.2 126 (by omega) (by omega), x1.2 130 (by omega) (by omega), zpI_r _ _ (show 126 ≠ 130 by omega), zpI_1]
      by_cases e : k = l i
      · rw [if_pos ⟨rfl, e⟩]
        constructor
        · rintro ⟨-, z⟩; exact absurd z (by decide)
        · rintro ⟨j, j1, j2, j3⟩; exact absurd (by rw [j3, e]) (hne j (by omega) j2)
      · rw [if_neg (fun t => e t.2), hs.2 k kk1 kk2]
        constructor
        · rintro ⟨j, j1, j2, j3⟩
          refine ⟨j, ?_, j2, j3⟩
          rcases Nat.lt_or_ge i j with z | z
          · exact z
          · exact absurd (by rw [← j3, show j = i by omega]) e
        · rintro ⟨j, j1, j2, j3⟩; exact ⟨j, by omega, j2, j3⟩)
    refine ⟨Y, ?_, y2, y3⟩
    rw [fX12_oneMinute_L198, if_neg h0]
    refine Eq.trans hsel ?_
    rw [htak, zbd_some, zlet_eq, hx3, y1]
theorem d5_up {m : Nat} (hm : m < 360) {A B : zMem} (h : d5 m A B) : d5 (m + 1) A B := by
  have hmm : ∀ x : Int32, x ≤ nI m → x ≤ nI (m + 1) := fun x hx => Int32.le_trans hx (by rw [z_le (by omega) (by omega)]; omega)
  intro v hv
  obtain ⟨y1, y2⟩ := h v hv
  refine ⟨?_, fun z => ⟨hmm _ (y2 z).1, hmm _ (y2 z).2⟩⟩
  rcases y1 with z | z
  · exact Or.inl z
  · exact Or.inr ⟨hmm _ z.1, hmm _ z.2⟩
/-- a minute, as a whole -/
theorem g_minute (hR : zRu r0 lv nr cs R M) (hT : gTeam nv ns M) (hL : gLearn nv ns M) (hBr : gBars M) (hP : gPres nv M) (hK : gClock c M) (hC : gCalls nv c nc nst M) {m : Nat} (hm : m < 360) (hN : 2000 < N) {A B : zMem} (hA : zGA M c r0 A) (hB : zGB M B) (h : zDy M nv c nc nst m m m A B) (f : Nat) :
    ∃ W X, fX2_goThrough_L8 N (f + 1) (nI m) A = fX2_goThrough_L8 N f (nI (m + 1)) W ∧ fX12_oneMinute N (nI nst) (nI m) B = some X ∧ zGA M c r0 W ∧ zGB M X ∧ zDy M nv c nc nst (m + 1) (m + 1) (m + 1) W X := by
  have t0 := hT.1
  have n4 := hC.1
  have nst4 := hC.2.1
  have n40 := hC.2.2.1
  obtain ⟨A1, B1, a1, b1, hA1, hB1, h1⟩ := g_ends hR hC t0 hm hN hA hB h
  obtain ⟨B2, b2, hB2, h2⟩ := g_come hC hm hB1 h1 hN
  obtain ⟨A3, B3, a3, b3, hA3, hB3, h3⟩ := g_drops hR hC hm hN (nc - nst) nst N N A1 B2 (by omega) (Nat.le_refl nst) (by omega) (by omega) hA1 hB2 h2
  have hdrop : fX2_dropCalls N (nI m) A1 = some A3 := by
    unfold fX2_dropCalls fX1_nightStart
    rw [zb2_some, show A1.1 47 10 = nI nst by rw [hA1.2.2.1 47 (by omega) (by omega) (by omega) (by omega)]; exact hC.2.2.2.2.2.1]
    exact a3
  have hany : fX2_isAnyFree N (nI m) A3 = some (zbi (zex (zfreeB M c A3 m) 0 nv), A3) := p_anyL hT hP hK hA3 nv 0 N (by omega) (by omega)
  have hwt : ∀ k, nst ≤ k → k < nc → B3.1 126 k = zbi (zwt M (A3.1 54) m k) := fun k k1 k2 => h3.2.2.2.2.2.2.2.2.2.1 k k1 k2
  have hst : ∀ k, nst ≤ k → k < nc → zwt M (A3.1 54) m k = true → ¬ B3.1 118 k = 1 := by
    intro k k1 k2 k3
    unfold zwt at k3
    rw [Bool.and_eq_true, decide_eq_true_eq] at k3
    rw [← (h3.1 k k2).1, k3.1]; decide
  obtain ⟨B4, b4, hB4, hS4, hl4⟩ := m_L145 (K := A3.1 61) (m := m) (A54 := A3.1 54) hR hC hN hwt hst (fun k k1 k2 => h3.2.2.2.2.2.1 k k1 k2) (nc - nst) 0 N B3 (by omega) (by omega) hB3 ⟨rfl, fun _ _ _ _ _ => rfl⟩ (fun k k1 k2 => by omega)
  obtain ⟨hln, hnl⟩ := zline_ok (zfirst M R nr (A3.1 61) m) (zwt M (A3.1 54) m) nst (nc - nst)
  rw [show nst + (nc - nst) = nc by omega] at hln
  rw [Nat.zero_add, Nat.add_zero] at b4
  have hsel : zsel (zfirst M R nr (A3.1 61) m) nst nc (zline (zfirst M R nr (A3.1 61) m) (zwt M (A3.1 54) m) nst (nc - nst)).1 0 (zline (zfirst M R nr (A3.1 61) m) (zwt M (A3.1 54) m) nst (nc - nst)).2 B4 := by
    refine ⟨fun j hj => ?_, fun k k1 k2 => ?_⟩
    · obtain ⟨y1, y2, y3⟩ := hln.1 j hj
      exact (hl4 _ y1 y2 y3).1
    · rw [hS4.2 126 (by omega) (by omega) (by omega) (by omega), hwt k k1 k2]
      constructor
      · rintro ⟨z1, z2⟩
        cases hw : zwt M (A3.1 54) m k
        · rw [hw] at z1; exact absurd rfl z1
        · obtain ⟨j, j1, j2⟩ := hln.2.1 k k1 k2 hw
          exact ⟨j, Nat.zero_le j, j1, j2⟩
      · rintro ⟨j, -, j1, j2⟩
        obtain ⟨y1, y2, y3⟩ := hln.1 j j1
        rw [← j2, y3]
        exact ⟨by decide, (hl4 _ y1 y2 y3).2⟩
  have h4 : zDy M nv c nc nst (m + 1) (m + 1) m A3 B4 := zDy_e h3 (fun _ _ => rfl) (fun a ha => hS4.2 a (by omega) (by omega) (by omega) (by omega))
  have hline0 : nI (zline (zfirst M R nr (A3.1 61) m) (zwt M (A3.1 54) m) nst 0).1 = (0 : Int32) := rfl
  have hrefto : fX12_oneMinute N (nI nst) (nI m) B = fX12_oneMinute_L198 N N (nI nst) (nI m) (nI (zline (zfirst M R nr (A3.1 61) m) (zwt M (A3.1 54) m) nst (nc - nst)).1) B4 := by
    rw [b1, b2, b3]
    exact b4
  have fin : ∀ (W X : zMem), zDy M nv c nc nst (m + 1) (m + 1) m W X → zDy M nv c nc nst (m + 1) (m + 1) (m + 1) W X := by
    rintro W X ⟨e1, e2, e3, e4, e5, e6, e7, e8, e9, e10, e11⟩
    exact ⟨e1, e2, e3, e4, d5_up hm e5, e6, e7, e8, e9, e10, e11⟩
  have hclass : ∀ x, fX2_goThrough_L8 N (f + 1) (nI m) A = x ↔ (zb2 (some (zbi (zex (zfreeB M c A3 m) 0 nv), A3)) fun r11 M10 => if r11 = 0 then fX2_goThrough_L43 N (fX2_goThrough_L8 N f) (nI m) M10 else zb2 (fX2_lineUp N (nI m) M10) fun r14 M13 => (fX2_giveCalls N (nI m) r14 M13).bind fun M16 => fX2_goThrough_L43 N (fX2_goThrough_L8 N f) (nI m) M16) = x := by
    intro x
    rw [fX2_goThrough_L8, show (360 : Int32) = nI 360 from rfl, if_neg (by rw [z_le (by omega) (by omega)]; omega), a1, zbd_some, hdrop, zbd_some, hany]
  simp only [hclass, zb2_some]
  unfold fX2_goThrough_L43
  cases hf : zex (zfreeB M c A3 m) 0 nv
  · have hnone := zex_no nv 0 hf
    have hno : ∀ k v, v < 8 → v < nv → zmay M R ns c nr (A3.1 61) (B4.1 127) (B4.1 128) (B4.1 129) k m v = false := by
      intro k v v8 hv
      have hfr := hnone v (Nat.zero_le v) (by omega)
      unfold zfreeB at hfr
      unfold zmay
      have hrr : decide (B4.1 128 v ≤ nI m) = decide (A3.1 59 v ≤ nI m) := by
        rcases (h4.2.2.2.2.1 v v8).1 with z | z
        · rw [z]
        · rw [decide_eq_true z.1, decide_eq_true z.2]
      rw [← (h4.2.1 v v8).1, hrr, hfr]
      rfl
    obtain ⟨X, x1, x2, x3⟩ := m_noGive hR hT hL hBr hK hC hm (by omega) hN hln (K := A3.1 61) (B0 := B4) (fun j hj => by
      obtain ⟨y1, y2, y3⟩ := hln.1 j hj
      rw [hS4.2 118 (by omega) (by omega) (by omega) (by omega)]; exact hst _ y1 y2 y3) (fun k k1 k2 => h4.2.2.2.2.2.1 k k1 k2) hno _ 0 N B4 (Nat.zero_add _) (by omega) hB4 ⟨rfl, fun _ _ _ _ _ => rfl⟩ hsel
    rw [Nat.sub_zero] at x1
    refine ⟨A3, X, ?_, by rw [hrefto]; exact x1, hA3, x2, fin _ _ (zDy_e h4 (fun _ _ => rfl) (fun a ha => x3.2 a (by omega) (by omega) (by omega) (by omega)))⟩
    rw [if_pos (show zbi false = 0 from rfl), zlet_eq, nI_1]
  · obtain ⟨A4, a4, hA4, hE4, hl63⟩ := p_lineL hR hC hm (show 500 < N by omega) (A0 := A3) (nc - nst) 0 N A3 (by omega) (by omega) hA3 ⟨rfl, fun _ _ _ _ _ _ => rfl⟩ (fun j hj => absurd hj (Nat.not_lt_zero j))
    rw [Nat.zero_add, Nat.add_zero] at a4
    rw [Nat.zero_add] at hl63
    have hD4 : zDy M nv c nc nst (m + 1) (m + 1) m A4 B4 := zDy_e h4 (fun a ha => hE4.2 a (by omega) (by omega) (by omega) (by omega) (by omega)) (fun _ _ => rfl)
    obtain ⟨W, X, w1, w2, w3, w4, w5⟩ := g_gives hR hT hL hBr hP hK hC hm (by omega) hN hln (fun k hk => by
      unfold zwt at hk
      rw [Bool.and_eq_true, decide_eq_true_eq, decide_eq_true_eq] at hk
      exact hk.2) _ 0 N N A4 B4 (Nat.zero_add _) (by omega) (by omega) hA4 hB4 hD4 hl63 (fun j _ hj => by
      obtain ⟨y1, y2, y3⟩ := hln.1 j hj
      unfold zwt at y3
      rw [Bool.and_eq_true, decide_eq_true_eq] at y3
      rw [hE4.2 54 (by omega) (by omega) (by omega) (by omega) (by omega)]; exact y3.1) hsel
    rw [Nat.sub_zero] at w2
    refine ⟨W, X, ?_, by rw [hrefto]; exact w2, w3, w4, fin _ _ w5⟩
    have hlu : fX2_lineUp N (nI m) A3 = some (nI (zline (zfirst M R nr (A3.1 61) m) (zwt M (A3.1 54) m) nst (nc - nst)).1, A4) := by
      unfold fX2_lineUp fX1_nightStart
      rw [zb2_some, show A3.1 47 10 = nI nst by rw [hA3.2.2.1 47 (by omega) (by omega) (by omega) (by omega)]; exact hC.2.2.2.2.2.1]
      exact a4
    have hgv : fX2_giveCalls N (nI m) (nI (zline (zfirst M R nr (A3.1 61) m) (zwt M (A3.1 54) m) nst (nc - nst)).1) A4 = some W := w1
    rw [if_neg (by decide), hlu, zb2_some, hgv, zbd_some, zlet_eq, nI_1]
/-- all minutes -/
theorem g_night (hR : zRu r0 lv nr cs R M) (hT : gTeam nv ns M) (hL : gLearn nv ns M) (hBr : gBars M) (hP : gPres nv M) (hK : gClock c M) (hC : gCalls nv c nc nst M) (hN : 2000 < N) : ∀ d m f g (A B : zMem), m + d = 360 → d < f → d < g → zGA M c r0 A → zGB M B → zDy M nv c nc nst m m m A B → ∃ W X, fX2_goThrough_L8 N f (nI m) A = ((fX2_leaveCalls N W).bind fun M4 => some ((M4.1 57 12), M4)) ∧ fX12_go_L158 N g (nI nst) (nI m) B = fX12_go_L181 N N 0 (nI nst) X ∧ zGA M c r0 W ∧ zGB M X ∧ zDy M nv c nc nst 360 360 360 W X
  | 0, m, f + 1, g + 1, A, B, hm, hf, hg, hA, hB, h => by
    have e : m = 360 := by omega
    subst e
    refine ⟨A, B, ?_, ?_, hA, hB, h⟩
    · rw [fX2_goThrough_L8, if_pos (by decide)]
    · rw [fX12_go_L158, if_pos (by decide)]
  | d + 1, m, f + 1, g + 1, A, B, hm, hf, hg, hA, hB, h => by
    obtain ⟨W, X, w1, w2, w3, w4, w5⟩ := g_minute hR hT hL hBr hP hK hC (show m < 360 by omega) hN hA hB h f
    obtain ⟨Y, Z, y1, y2, y3, y4, y5⟩ := g_night hR hT hL hBr hP hK hC hN d (m + 1) f g W X (by omega) (by omega) (by omega) w3 w4 w5
    refine ⟨Y, Z, by rw [w1]; exact y1, ?_, y3, y4, y5⟩
    rw [fX12_go_L158, show (360 : Int32) = nI 360 from rfl, if_neg (by rw [z_le (by omega) (by omega)]; omega), w2, zbd_some, zlet_eq, nI_1]
    exact y2
end GO
