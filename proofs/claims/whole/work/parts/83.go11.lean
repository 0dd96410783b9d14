/-! GO: calls are given -/
theorem zpick_cong {may may' : Nat → Bool} {sof sof' : Nat → Int32} (h1 : ∀ j, j < 8 → may j = may' j) (h2 : ∀ j, j < 8 → sof j = sof' j) : ∀ d i b, i + d ≤ 8 → (∀ j, b = some j → j < 8) → zpick may sof i d b = zpick may' sof' i d b
  | 0, i, b, _, _ => rfl
  | d + 1, i, b, hi, hb => by
    have e : zbt sof b i = zbt sof' b i := by
      cases b with
      | none => rfl
      | some j => show (!decide (sof j ≤ sof i)) = (!decide (sof' j ≤ sof' i)); rw [h2 j (hb j rfl), h2 i (by omega)]
    rw [zpick, zpick, e, h1 i (by omega)]
    refine zpick_cong h1 h2 d (i + 1) _ (by omega) (fun j hj => ?_)
    by_cases q : (zbt sof' b i && may' i) = true
    · rw [if_pos q] at hj
      have : i = j := Option.some.inj hj
      omega
    · rw [if_neg q] at hj; exact hb j hj
section GO
variable {tl nv ns c no nc nst nn r0 lv nr cs : Nat} {M : zMem} {R : Nat → Nat × Nat × List (Nat × Nat) × List (Nat × List (Nat × Nat) × List (Nat × Nat))} {N : Nat}
def zgvC (A : zMem) (k v : Nat) (m : Int32) : zMem := zpI (zpI (zpI (zpI (zpI A 54 k 1) 55 k (nI v)) 56 k m) 58 v (nI k)) 57 12 (A.1 57 12 + 1)
theorem zgvR_118 (M W : zMem) (c k v : Nat) (m : Int32) (j : Nat) : (zgvR M c W k v m).1 118 j = (if j = k then 1 else W.1 118 j) ∧ (zgvR M c W k v m).1 119 j = (if j = k then nI v else W.1 119 j) ∧ (zgvR M c W k v m).1 120 j = (if j = k then m else W.1 120 j) ∧ (zgvR M c W k v m).1 126 j = (if j = k then 0 else W.1 126 j) ∧ (zgvR M c W k v m).1 127 j = (if j = v then nI k else W.1 127 j) ∧ (zgvR M c W k v m).1 97 j = (if ¬ M.1 51 k ≤ 7 ∧ j = 200 * v + c then 1 else W.1 97 j) := by
  unfold zgvR
  by_cases q : M.1 51 k ≤ 7
  · rw [if_pos q]; simp [zpI_1, q]
  · rw [if_neg q]; simp [zpI_1, q]
theorem zgvR_o (M W : zMem) (c k v : Nat) (m : Int32) {a : Nat} (h1 : a ≠ 118) (h2 : a ≠ 119) (h3 : a ≠ 120) (h4 : a ≠ 126) (h5 : a ≠ 127) (h6 : a ≠ 97) : (zgvR M c W k v m).1 a = W.1 a := by
  unfold zgvR
  split
  · rw [zpI_r _ _ h5, zpI_r _ _ h4, zpI_r _ _ h3, zpI_r _ _ h2, zpI_r _ _ h1]
  · rw [zpI_r _ _ h6, zpI_r _ _ h5, zpI_r _ _ h4, zpI_r _ _ h3, zpI_r _ _ h2, zpI_r _ _ h1]
theorem zgvR_2 (M W : zMem) (c k v : Nat) (m : Int32) : (zgvR M c W k v m).2 = W.2 := by
  unfold zgvR
  split <;> rfl
theorem zcr_up {p q : Nat → Bool} {k : Nat} (hp : p k = false) (hq : q k = true) (hne : ∀ j, j ≠ k → p j = q j) : ∀ d i, i ≤ k → k < i + d → zcr q i d = zcr p i d + 1
  | 0, i, h1, h2 => by omega
  | d + 1, i, h1, h2 => by
    rw [zcr, zcr]
    by_cases e : i = k
    · subst e
      rw [hp, hq, zcr_cong (p := q) (q := p) d (i + 1) (fun j h1 h2 => (hne j (by omega)).symm)]
      simp; omega
    · rw [zcr_up hp hq hne d (i + 1) (by omega) (by omega), hne i e]
      omega
theorem g_give1 (hC : gCalls nv c nc nst M) (hc : c < 200) (hv8 : nv ≤ 8) {A B : zMem} {m k v : Nat} (hm : m < 360) (k1 : nst ≤ k) (k2 : k < nc) (hv : v < nv) (hq : A.1 54 k = 0) (hwk : zmi M k < m + 1) (hcur : A.1 58 v = -1) (hrest : A.1 59 v ≤ nI m) (h : zDy M nv c nc nst (m + 1) (m + 1) m A B) : zDy M nv c nc nst (m + 1) (m + 1) m (zgvC A k v (nI m)) (zgvR M c B k v (nI m)) := by
  obtain ⟨e1, e2, e3, e4, e5, e6, e7, e8, e9, e10, e11⟩ := h
  have n4 := hC.1
  have a54 : ∀ j, (zgvC A k v (nI m)).1 54 j = if j = k then 1 else A.1 54 j := by intro j; simp [zgvC, zpI_1]
  have a55 : ∀ j, (zgvC A k v (nI m)).1 55 j = if j = k then nI v else A.1 55 j := by intro j; simp [zgvC, zpI_1]
  have a56 : ∀ j, (zgvC A k v (nI m)).1 56 j = if j = k then nI m else A.1 56 j := by intro j; simp [zgvC, zpI_1]
  have a58 : ∀ j, (zgvC A k v (nI m)).1 58 j = if j = v then nI k else A.1 58 j := by intro j; simp [zgvC, zpI_1]
  have a57 : (zgvC A k v (nI m)).1 57 12 = A.1 57 12 + 1 := by simp [zgvC, zpI_1]
  have aO : ∀ a, a ≠ 54 → a ≠ 55 → a ≠ 56 → a ≠ 57 → a ≠ 58 → (zgvC A k v (nI m)).1 a = A.1 a := fun a p1 p2 p3 p4 p5 => by unfold zgvC; rw [zpI_r _ _ p4, zpI_r _ _ p5, zpI_r _ _ p3, zpI_r _ _ p2, zpI_r _ _ p1]
  have hB := zgvR_118 M B c k v (nI m)
  obtain ⟨l1, l2, l3⟩ := zle_e hC k2
  obtain ⟨y1, y2, y3⟩ : A.1 54 k = 0 ∧ A.1 55 k = -1 ∧ A.1 56 k = -1 := by
    rcases e3 k k1 k2 with z | ⟨v, t, z1, z2, z3, -⟩ | ⟨t, z1, z2, -⟩
    · exact z
    · rw [hq] at z3; exact absurd z3 (by decide)
    · rw [hq] at z2; exact absurd z2 (by decide)
  refine ⟨?_, ?_, ?_, ?_, ?_, ?_, ?_, ?_, ?_, ?_, ?_⟩
  · intro j hj
    rw [a54, a55, a56, (hB j).1, (hB j).2.1, (hB j).2.2.1]
    by_cases e : j = k
    · simp only [e, if_true, and_self]
    · simp only [e, if_false]; exact e1 j hj
  · intro u hu
    rw [a58, aO 60 (by omega) (by omega) (by omega) (by omega) (by omega), (hB u).2.2.2.2.1, zgvR_o M B c k v (nI m) (by omega) (by omega) (by omega) (by omega) (by omega) (by omega)]
    by_cases e : u = v
    · simp only [e, if_true]; exact ⟨trivial, (e2 v (by omega)).2⟩
    · simp only [e, if_false]; exact e2 u hu
  · intro j j1 j2
    rw [a54, a55, a56]
    by_cases e : j = k
    · simp only [e, if_true]
      exact Or.inr (Or.inl ⟨v, m, hv, hm, trivial, rfl, rfl⟩)
    · simp only [e, if_false]; exact e3 j j1 j2
  · refine ⟨fun u hu => ?_, fun j u t j1 j2 j3 j4 j5 j6 j7 j8 => ?_⟩
    · rw [a58]
      by_cases e : u = v
      · rw [if_pos e]
        refine Or.inr ⟨k, m, k1, k2, hm, rfl, ?_, ?_, ?_, by omega⟩
        · rw [a54, if_pos rfl]
        · rw [a55, if_pos rfl, e]
        · rw [a56, if_pos rfl]
      · rw [if_neg e]
        rcases e4.1 u hu with z | ⟨j, t, z1, z2, z3, z4, z5, z6, z7, z8⟩
        · exact Or.inl z
        · have ej : j ≠ k := fun z => by rw [z, hq] at z5; exact absurd z5 (by decide)
          refine Or.inr ⟨j, t, z1, z2, z3, z4, ?_, ?_, ?_, z8⟩
          · rw [a54, if_neg ej]; exact z5
          · rw [a55, if_neg ej]; exact z6
          · rw [a56, if_neg ej]; exact z7
    · by_cases ej : j = k
      · subst ej
        rw [a55, if_pos rfl, z_eq (by omega) (by omega)] at j6
        rw [a58, if_pos j6.symm]
      · rw [a54, if_neg ej] at j5
        rw [a55, if_neg ej] at j6
        rw [a56, if_neg ej] at j7
        have hold := e4.2 j u t j1 j2 j3 j4 j5 j6 j7 j8
        have eu : u ≠ v := fun z => by rw [z, hcur, z_m1' (by omega)] at hold; exact hold
        rw [a58, if_neg eu]; exact hold
  · intro u hu
    rw [a58, aO 59 (by omega) (by omega) (by omega) (by omega) (by omega), zgvR_o M B c k v (nI m) (by omega) (by omega) (by omega) (by omega) (by omega) (by omega)]
    by_cases e : u = v
    · subst e
      refine ⟨(e5 u hu).1, fun _ => ?_⟩
      rcases (e5 u hu).1 with z | z
      · exact ⟨hrest, by rw [← z]; exact hrest⟩
      · exact z
    · rw [if_neg e]; exact e5 u hu
  · unfold d6
    rw [aO 61 (by omega) (by omega) (by omega) (by omega) (by omega), zgvR_o M B c k v (nI m) (by omega) (by omega) (by omega) (by omega) (by omega) (by omega)]
    exact e6
  · intro u hu
    obtain ⟨g1, g2, g3⟩ := e7 u hu
    obtain ⟨-, -, -, ⟨nd, nd1, nd2⟩, -⟩ := hC.2.2.2.2.2.2.2 k k2
    have h87 : ¬ M.1 51 k ≤ 7 ↔ nI 8 ≤ M.1 51 k := by
      rw [nd2, show (7 : Int32) = nI 7 from rfl, z_le (by omega) (by omega), z_le (by omega) (by omega)]; omega
    refine ⟨fun n hn hne => ?_, ?_, ?_⟩
    · rw [(hB _).2.2.2.2.2, if_neg (by omega)]; exact g1 n hn hne
    · rw [(hB _).2.2.2.2.2]
      split
      · exact Or.inr rfl
      · exact g2
    · rw [(hB _).2.2.2.2.2]
      by_cases q : ¬ M.1 51 k ≤ 7 ∧ 200 * u + c = 200 * v + c
      · rw [if_pos q]
        refine ⟨fun _ => ⟨k, k1, k2, ?_, h87.mp q.1⟩, fun _ => rfl⟩
        rw [a55, if_pos rfl, show v = u by omega]
      · rw [if_neg q, g3]
        constructor
        · rintro ⟨j, j1, j2, j3, j4⟩
          have ej : j ≠ k := fun z => by rw [z, y2, z_m1' (by omega)] at j3; exact j3
          exact ⟨j, j1, j2, by rw [a55, if_neg ej]; exact j3, j4⟩
        · rintro ⟨j, j1, j2, j3, j4⟩
          by_cases ej : j = k
          · subst ej
            rw [a55, if_pos rfl, z_eq (by omega) (by omega)] at j3
            exact absurd ⟨h87.mpr j4, by omega⟩ q
          · rw [a55, if_neg ej] at j3
            exact ⟨j, j1, j2, j3, j4⟩
  · intro j hj
    rw [a54, a55, a56, if_neg (by omega), if_neg (by omega), if_neg (by omega)]
    exact e8 j hj
  · unfold d9
    rw [a57, show A.1 57 12 = _ from e9, nI_1]
    have := zcr_up (p := fun j => A.1 54 j == 1) (q := fun j => (zgvC A k v (nI m)).1 54 j == 1) (k := k) (by simp [y1]) (by simp [a54]) (fun j hj => by rw [a54, if_neg hj]) (nc - nst) nst k1 (by omega)
    rw [this]
  · intro j j1 j2
    rw [(hB j).2.2.2.1, a54]
    by_cases e : j = k
    · simp only [e, if_true]; rfl
    · simp only [e, if_false]; exact e10 j j1 j2
  · intro j j1 j2 j3
    have e : j ≠ k := by intro z; subst z; omega
    rw [a54, if_neg e]
    exact e11 j j1 j2 j3
theorem g_gives (hR : zRu r0 lv nr cs R M) (hT : gTeam nv ns M) (hL : gLearn nv ns M) (hBr : gBars M) (hP : gPres nv M) (hK : gClock c M) (hC : gCalls nv c nc nst M) {m n : Nat} (hm : m < 360) (hn : n ≤ 40) (hN : 2000 < N) {fv : Nat → Int32} {wt : Nat → Bool} {l : Nat → Nat} (hln : zln fv wt nst nc n l) (hwm : ∀ k, wt k = true → zmi M k < m + 1) : ∀ d i f g (A B : zMem), i + d = n → d < f → d < g → zGA M c r0 A → zGB M B → zDy M nv c nc nst (m + 1) (m + 1) m A B → (∀ j, j < n → A.1 63 j = nI (l j)) → (∀ j, i ≤ j → j < n → A.1 54 (l j) = 0) → zsel fv nst nc n i l B →
    ∃ W X, fX2_giveCalls_L2 N f (nI m) (nI n) (nI i) A = some W ∧ fX12_oneMinute_L198 N g (nI nst) (nI m) (nI (n - i)) B = some X ∧ zGA M c r0 W ∧ zGB M X ∧ zDy M nv c nc nst (m + 1) (m + 1) m W X
  | 0, i, f + 1, g + 1, A, B, hi, hf, hg, hA, hB, h, h63, h54, hs => by
    refine ⟨A, B, ?_, ?_, hA, hB, h⟩
    · rw [fX2_giveCalls_L2, if_pos (by rw [z_le (by omega) (by omega)]; omega)]
    · rw [fX12_oneMinute_L198, show n - i = 0 by omega, if_pos (by decide)]
  | d + 1, i, f + 1, g + 1, A, B, hi, hf, hg, hA, hB, h, h63, h54, hs => by
    have t0 := hT.1
    have n4 := hC.1
    obtain ⟨li1, li2, li3⟩ := hln.1 i (by omega)
    have hq := h54 i (Nat.le_refl i) (by omega)
    -- the reference's choice
    let B1 := zpI B 130 (l i) 1
    have hB1 : zGB M B1 := ⟨hB.1, fun a p1 p2 p3 => by show (zpI B 130 (l i) 1).1 a = _; rw [zpI_r _ _ (by omega)]; exact hB.2 a p1 p2 p3⟩
    have hD1 : zDy M nv c nc nst (m + 1) (m + 1) m A B1 := zDy_e h (fun _ _ => rfl) (fun a ha => by show (zpI B 130 (l i) 1).1 a = _; rw [zpI_r _ _ (by omega)])
    have hsel := m_L208 (N := N) hC hB hln (show i < n by omega) hs (k198 := fX12_oneMinute_L198 N g) (x2 := nI m) (x3 := nI (n - i)) (nc - nst) nst N none (Nat.le_refl nst) (by have := hC.2.1; omega) (by omega) (fun _ j _ j2 => (hln.1 j j2).1) (fun k e => by cases e)
    have hq118 : ¬ B1.1 118 (l i) = 1 := by rw [← (hD1.1 (l i) li2).1, hq]; decide
    obtain ⟨X, x1, x2⟩ := m_takesL (K := A.1 61) hR hT hL hBr hK hC (m := m) li2 hN nv 0 N none B1 (by omega) (by omega) (fun j e => by cases e) hB1 hq118 (hD1.2.2.2.2.2.1 (l i) li1 li2)
    obtain ⟨W, w1, w2⟩ := p_volL hR hT hBr hP hK hC (m := m) li2 (show 500 < N by omega) nv 0 N none A (by omega) (by omega) (fun j e => by cases e) hA
    have hpick : zpick (zmay M R ns c nr (A.1 61) (B1.1 127) (B1.1 128) (B1.1 129) (l i) m) (B1.1 129) 0 nv none = zpick (zmay M R ns c nr (A.1 61) (A.1 58) (A.1 59) (A.1 60) (l i) m) (A.1 60) 0 nv none := by
      refine zpick_cong (fun v hv => ?_) (fun v hv => ((hD1.2.1 v hv).2).symm) nv 0 none (by omega) (fun j e => by cases e)
      unfold zmay
      rw [← (hD1.2.1 v hv).1, ← (hD1.2.1 v hv).2]
      have hrr : decide (B1.1 128 v ≤ nI m) = decide (A.1 59 v ≤ nI m) := by
        rcases (hD1.2.2.2.2.1 v hv).1 with z | z
        · rw [z]
        · rw [decide_eq_true z.1, decide_eq_true z.2]
      rw [hrr]
    rw [hpick] at x2
    have hW := zGA_e hA w1
    have hX := zGB_e hB1 x1
    have hWX : zDy M nv c nc nst (m + 1) (m + 1) m W X := zDy_e hD1 (fun a ha => w1.2 a (by omega) (by omega) (by omega)) (fun a ha => x1.2 a (by omega) (by omega))
    have hvol : fX2_volunteerFor N (nI (l i)) (nI m) A = some (zoi (zpick (zmay M R ns c nr (A.1 61) (A.1 58) (A.1 59) (A.1 60) (l i) m) (A.1 60) 0 nv none), W) := w2
    have htak : fX12_takes N (nI (l i)) (nI m) B1 = some (match zpick (zmay M R ns c nr (A.1 61) (A.1 58) (A.1 59) (A.1 60) (l i) m) (A.1 60) 0 nv none with | none => X | some v => zgvR M c X (l i) v (nI m)) := x2
    have hne : ∀ j, i < j → j < n → l j ≠ l i := by
      intro j j1 j2 e
      rcases hln.2.2 i j j1 j2 with y | ⟨-, y⟩
      · rw [e] at y; exact absurd y (Int32.not_lt.mpr (Int32.le_refl _))
      · omega
    have hx3 : nI (n - i) + (-1 : Int32) = nI (n - (i + 1)) := by rw [show (-1 : Int32) = -nI 1 from rfl, ← Int32.sub_eq_add_neg, z_sub (by omega)]; congr 1
    -- what is still to be asked
    have hnext : ∀ X' : zMem, (∀ k, k ≠ l i → X'.1 126 k = B.1 126 k) → (∀ k, X'.1 130 k = B1.1 130 k) → X'.1 125 = B.1 125 → zsel fv nst nc n (i + 1) l X' := by
      intro X' g1 g2 g3
      refine ⟨fun j hj => by rw [g3]; exact hs.1 j hj, fun k kk1 kk2 => ?_⟩
      rw [g2]
      show (_ ∧ (zpI B 130 (l i) 1).1 130 k = 0) ↔ _
      rw [zpI_1]
      by_cases e : k = l i
      · rw [if_pos ⟨rfl, e⟩]
        constructor
        · rintro ⟨-, z⟩; exact absurd z (by decide)
        · rintro ⟨j, j1, j2, j3⟩; exact absurd (by rw [j3, e]) (hne j (by omega) j2)
      · rw [if_neg (fun t => e t.2), g1 k e, hs.2 k kk1 kk2]
        constructor
        · rintro ⟨j, j1, j2, j3⟩
          refine ⟨j, ?_, j2, j3⟩
          rcases Nat.lt_or_ge i j with z | z
          · exact z
          · exact absurd (by rw [← j3, show j = i by omega]) e
        · rintro ⟨j, j1, j2, j3⟩; exact ⟨j, by omega, j2, j3⟩
    have href : fX12_oneMinute_L198 N (g + 1) (nI nst) (nI m) (nI (n - i)) B = fX12_oneMinute_L198 N g (nI nst) (nI m) (nI (n - (i + 1))) (match zpick (zmay M R ns c nr (A.1 61) (A.1 58) (A.1 59) (A.1 60) (l i) m) (A.1 60) 0 nv none with | none => X | some v => zgvR M c X (l i) v (nI m)) := by
      have h0 : ¬ nI (n - i) ≤ (0 : Int32) := by rw [show (0 : Int32) = nI 0 from rfl, z_le (by omega) (by omega)]; omega
      rw [fX12_oneMinute_L198, if_neg h0]
      refine Eq.trans hsel ?_
      rw [show fX12_takes N (nI (l i)) (nI m) (zpI B 130 (l i) 1) = _ from htak, zbd_some, zlet_eq, hx3]
    rw [href, fX2_giveCalls_L2, if_neg (by rw [z_le (by omega) (by omega)]; omega), show (40 : Int32) = nI 40 from rfl, if_neg (by rw [z_le (by omega) (by omega)]; omega), z_ldI (by omega) (by omega), zbd_some, h63 i (by omega), hvol, zb2_some]
    unfold fX2_giveCalls_L71
    have hW63 : ∀ j, j < n → W.1 63 j = nI (l j) := by rw [w1.2 63 (by omega) (by omega) (by omega)]; exact h63
    cases hpk : zpick (zmay M R ns c nr (A.1 61) (A.1 58) (A.1 59) (A.1 60) (l i) m) (A.1 60) 0 nv none with
    | none =>
      rw [if_pos (show zoi none = -1 from rfl), zlet_eq, nI_1]
      refine g_gives hR hT hL hBr hP hK hC hm hn hN hln hwm d (i + 1) f g W X (by omega) (by omega) (by omega) hW hX hWX hW63 (fun j j1 j2 => by rw [w1.2 54 (by omega) (by omega) (by omega)]; exact h54 j (by omega) j2) (hnext X (fun k hk => ?_) (fun k => by rw [x1.2 130 (by omega) (by omega)]) ?_)
      · rw [x1.2 126 (by omega) (by omega)]; show (zpI B 130 (l i) 1).1 126 k = _; rw [zpI_r _ _ (by omega)]
      · rw [x1.2 125 (by omega) (by omega)]; show (zpI B 130 (l i) 1).1 125 = _; rw [zpI_r _ _ (by omega)]
    | some v =>
      obtain ⟨pv1, pv2⟩ := zpick_lt nv 0 none v (fun j e => by cases e) hpk
      have hmay : zmay M R ns c nr (A.1 61) (A.1 58) (A.1 59) (A.1 60) (l i) m v = true := by
        rcases pv2 with z | z
        · cases z
        · exact z
      have hfree : A.1 58 v = -1 ∧ A.1 59 v ≤ nI m := by
        unfold zmay at hmay
        simp only [Bool.and_eq_true, decide_eq_true_eq] at hmay
        exact hmay.1.1
      have e9W : W.1 47 9 = nI nc := by rw [hW.2.2.1 47 (by omega) (by omega) (by omega) (by omega)]; exact hC.2.2.2.1
      have hgive : fX1_give (nI (l i)) (nI v) (nI m) W = some (zpI (zpI (zpI W 54 (l i) 1) 55 (l i) (nI v)) 56 (l i) (nI m)) := by
        unfold fX1_give
        rw [p_isCall n4 e9W, if_pos (z_zinI (by omega) li2), zb2_some, if_neg (by decide), z_stI (by omega) (by omega), zbd_some, z_stI (by omega) (by omega), zbd_some, z_stI (by omega) (by omega), zbd_some]
      have h63i : W.1 63 i = nI (l i) := hW63 i (by omega)
      have h57 : (zpI (zpI (zpI (zpI W 54 (l i) 1) 55 (l i) (nI v)) 56 (l i) (nI m)) 58 v (nI (l i))).1 57 12 = W.1 57 12 := by simp [zpI_1]
      rw [show zoi (some v) = nI v from rfl, if_neg (show ¬ nI v = -1 by rw [z_m1 (by omega)]; exact id), z_ldI (by omega) (by omega), zbd_some, h63i, hgive, zbd_some, z_ldI (by omega) (by omega), zbd_some, show (zpI (zpI (zpI W 54 (l i) 1) 55 (l i) (nI v)) 56 (l i) (nI m)).1 63 i = nI (l i) from h63i, z_stI (by omega) (by omega), zbd_some, zlet_eq, zlet_eq, nI_1, h57]
      have hgD := g_give1 hC hK.1 t0 (k := l i) (v := v) hm li1 li2 (by omega) (by rw [w1.2 54 (by omega) (by omega) (by omega)]; exact hq) (hwm _ li3) (by rw [w1.2 58 (by omega) (by omega) (by omega)]; exact hfree.1) (by rw [w1.2 59 (by omega) (by omega) (by omega)]; exact hfree.2) hWX
      have hR118 := zgvR_118 M X c (l i) v (nI m)
      refine g_gives hR hT hL hBr hP hK hC hm hn hN hln hwm d (i + 1) f g (zgvC W (l i) v (nI m)) (zgvR M c X (l i) v (nI m)) (by omega) (by omega) (by omega) ⟨hW.1, hW.2.1, fun a p1 p2 p3 p4 => by unfold zgvC; rw [zpI_r _ _ (by omega), zpI_r _ _ (by omega), zpI_r _ _ (by omega), zpI_r _ _ (by omega), zpI_r _ _ (by omega)]; exact hW.2.2.1 a p1 p2 p3 p4, by simp only [zgvC, zpI_1]; simp; exact hW.2.2.2⟩ ⟨by rw [zgvR_2]; exact hX.1, fun a p1 p2 p3 => by rw [zgvR_o M X c (l i) v (nI m) (by omega) (by omega) (by omega) (by omega) (by omega) (by omega)]; exact hX.2 a p1 p2 p3⟩ hgD (fun j hj => ?_) (fun j j1 j2 => ?_) (hnext _ (fun k hk => ?_) (fun k => ?_) ?_)
      · unfold zgvC; rw [zpI_r _ _ (by omega), zpI_r _ _ (by omega), zpI_r _ _ (by omega), zpI_r _ _ (by omega), zpI_r _ _ (by omega)]; exact hW63 j hj
      · have ej := hne j (by omega) j2
        simp only [zgvC, zpI_1]
        simp only [ej, if_false, and_false, Nat.reduceEqDiff, false_and]
        rw [w1.2 54 (by omega) (by omega) (by omega)]
        exact h54 j (by omega) j2
      · rw [(hR118 k).2.2.2.1, if_neg hk, x1.2 126 (by omega) (by omega)]; show (zpI B 130 (l i) 1).1 126 k = _; rw [zpI_r _ _ (by omega)]
      · rw [zgvR_o M X c (l i) v (nI m) (by omega) (by omega) (by omega) (by omega) (by omega) (by omega), x1.2 130 (by omega) (by omega)]
      · rw [zgvR_o M X c (l i) v (nI m) (by omega) (by omega) (by omega) (by omega) (by omega) (by omega), x1.2 125 (by omega) (by omega)]; show (zpI B 130 (l i) 1).1 125 = _; rw [zpI_r _ _ (by omega)]
end GO
