/-! foretold -/
theorem zcr_add {p q r : Nat → Bool} : ∀ d i, (∀ k, i ≤ k → k < i + d → (if r k then 1 else 0) = (if p k then 1 else 0) + (if q k then 1 else 0)) → zcr r i d = zcr p i d + zcr q i d
  | 0, i, h => rfl
  | d + 1, i, h => by
    have h1 := zcr_add (p := p) (q := q) (r := r) d (i + 1) (fun k h1 h2 => h k (by omega) (by omega))
    have h2 := h i (Nat.le_refl i) (by omega)
    rw [zcr, zcr, zcr, h1, h2]
    omega
theorem zcr_none {p : Nat → Bool} : ∀ d i, (∀ k, i ≤ k → k < i + d → p k = false) → zcr p i d = 0
  | 0, i, h => rfl
  | d + 1, i, h => by
    rw [zcr, zcr_none d (i + 1) (fun k h1 h2 => h k (by omega) (by omega)), h i (Nat.le_refl i) (by omega)]
    rfl
theorem z_swap (nk : Nat → Nat) (h L : Nat → Bool) (nc : Nat) : ∀ c, zsum (fun n => if L n = true then zcr (fun k => decide (nk k = n) && h k) 0 nc else 0) c = zcr (fun k => decide (nk k < c) && L (nk k) && h k) 0 nc
  | 0 => by
    rw [zsum, zcr_none]
    intro k _ _
    simp
  | c + 1 => by
    rw [zsum, z_swap nk h L nc c]
    by_cases w : L c = true
    · rw [if_pos w]
      symm
      apply zcr_add
      intro k _ _
      by_cases e : nk k = c
      · have g1 : nk k < c + 1 := by omega
        have g2 : ¬ nk k < c := by omega
        simp [e, w]
      · by_cases g : nk k < c
        · have g1 : nk k < c + 1 := by omega
          simp [e, g, g1]
        · have g1 : ¬ nk k < c + 1 := by omega
          simp [e, g, g1]
    · rw [if_neg w, Nat.add_zero]
      apply zcr_cong
      intro k _ _
      by_cases e : nk k = c
      · have w' : L c = false := by simpa using w
        simp [e, w']
      · have g1 : (nk k < c) = (nk k < c + 1) := by apply propext; omega
        simp [g1]
def zalike (M : zMem) (q n : Nat) : Bool := decide (M.1 100 n = 1) && decide (M.1 99 n = M.1 99 q) && (decide (¬ M.1 99 n = 0) || decide ((nI n - nI n / (7 : Int32) * (7 : Int32)) = (nI q - nI q / (7 : Int32) * (7 : Int32))))
theorem p_fore {c : Nat} {M : zMem} (hK : gClock c M) (hL : gCal M) {a q : Nat} (ha : a < 200) (hq : q < 200) : fX11_isForerunner (nI a) (nI q) M = some (if (decide (a < c) && zalike M q a) = true then 1 else 0, M) := by
  obtain ⟨c0, c1, c2⟩ := hK
  unfold fX11_isForerunner fX0_areAlike fX0_areAlike_L34 zalike
  rw [c1]
  by_cases w : a < c
  · rw [if_neg (by rw [z_le (by omega) (by omega)]; omega), p_isGone hL ha, zb2_some]
    rcases (gCal_01 hL ha).2.2 with g0 | g0
    · rw [g0, if_pos rfl]; simp
    · rw [g0, if_neg (by decide), p_isHoliday hL ha, zb2_some, p_isHoliday hL hq, zb2_some]
      by_cases e : M.1 99 a = M.1 99 q
      · rw [if_pos e, p_isHoliday hL ha, zb2_some]
        by_cases e0 : M.1 99 a = 0
        · rw [if_pos e0]
          by_cases e7 : (nI a - nI a / (7 : Int32) * (7 : Int32)) = (nI q - nI q / (7 : Int32) * (7 : Int32))
          · rw [if_pos e7, zb2_some, if_neg (by decide)]
            simp [w, e, e7]
          · rw [if_neg e7, zb2_some, if_pos rfl]
            simp [w, e0, e7]
        · rw [if_neg e0, zb2_some, if_neg (by decide)]
          have e0' : ¬ M.1 99 q = 0 := by rw [← e]; exact e0
          simp [w, e, e0']
      · rw [if_neg e, zb2_some, if_pos rfl]
        simp [e]
  · rw [if_pos (by rw [z_le (by omega) (by omega)]; omega)]
    simp [w]
theorem p_foreL57 {nv c nc nst : Nat} {M : zMem} (hK : gClock c M) (hL : gCal M) (hC : gCalls nv c nc nst M) (nk : Nat → Nat) (hnk : ∀ k, k < nc → nk k < 200 ∧ M.1 48 k = nI (nk k)) {x1 x3 : Int32} {q : Nat} (hq : q < 200) {N : Nat} : ∀ d i a f, i + d = nc → d < f → fX11_foretold_L57 N f x1 (nI q) x3 (nI a) (nI i) M = (if x3 = 0 then some (-1, M) else some ((nI (a + zcr (fun k => decide (nk k < c) && zalike M q (nk k) && decide (M.1 49 k / 60 = x1)) i d) * 100) / x3, M))
  | 0, i, a, f + 1, h, _ => by
    have h0 := hC.1
    have h1 := hC.2.2.2.1
    rw [fX11_foretold_L57]
    unfold fX1_size
    rw [zb2_some, h1, if_pos (by rw [z_le (by omega) (by omega)]; omega), zcr, Nat.add_zero]
    by_cases e : x3 = 0
    · rw [if_pos e, if_pos e]
    · rw [if_neg e, if_neg e, if_pos e]
  | d + 1, i, a, f + 1, h, hf => by
    have h0 := hC.1
    have h1 := hC.2.2.2.1
    have ih := fun a => p_foreL57 hK hL hC nk hnk (x1 := x1) (x3 := x3) hq (N := N) d (i + 1) a f (by omega) (by omega)
    obtain ⟨n1, n2⟩ := hnk i (by omega)
    rw [fX11_foretold_L57]
    unfold fX1_size
    rw [zb2_some, h1, if_neg (by rw [z_le (by omega) (by omega)]; omega), p_minuteOf h0 h1, if_pos (z_zinI (by omega) (by omega)), zb2_some, z_cl (by omega)]
    unfold fX11_foretold_L105
    simp only [zlet_eq, nI_1]
    by_cases e : M.1 49 i / 60 = x1
    · rw [if_pos e, p_nightOf h0 h1, if_pos (z_zinI (by omega) (by omega)), zb2_some, z_cl (by omega), n2, p_fore hK hL n1 hq, zb2_some, zcr]
      by_cases w : (decide (nk i < c) && zalike M q (nk i)) = true
      · rw [if_pos w, if_neg (by decide), ih]
        simp only [w, e, decide_true, Bool.and_true, if_true, Nat.add_assoc]
      · rw [if_neg w, if_pos rfl, ih]
        simp only [w, Bool.false_and, if_false, Nat.zero_add, Bool.false_eq_true]
    · rw [if_neg e, ih, zcr]
      simp only [e, decide_false, Bool.and_false, if_false, Nat.zero_add, Bool.false_eq_true]
theorem p_foreL23 {c : Nat} {M : zMem} (hK : gClock c M) (hL : gCal M) {x1 : Int32} {q : Nat} (hq : q < 200) {N : Nat} : ∀ d i a f, i + d = c → d < f → fX11_foretold_L23 N f x1 (nI q) (nI a) (nI i) M = fX11_foretold_L57 N N x1 (nI q) (nI (a + zcr (fun n => zalike M q n) i d)) 0 0 M
  | 0, i, a, f + 1, h, _ => by
    have c0 := hK.1
    rw [fX11_foretold_L23, hK.2.1, if_pos (by rw [z_le (by omega) (by omega)]; omega), zcr, Nat.add_zero]
  | d + 1, i, a, f + 1, h, hf => by
    have c0 := hK.1
    have ih := fun a => p_foreL23 hK hL (x1 := x1) hq (N := N) d (i + 1) a f (by omega) (by omega)
    rw [fX11_foretold_L23, hK.2.1, if_neg (by rw [z_le (by omega) (by omega)]; omega), p_fore hK hL (by omega) hq, zb2_some]
    unfold fX11_foretold_L45
    simp only [zlet_eq, nI_1]
    have hi : i < c := by omega
    rw [zcr]
    by_cases w : zalike M q i = true
    · have e : (decide (i < c) && zalike M q i) = true := by simp [hi, w]
      rw [if_pos e, if_neg (by decide), ih, if_pos w, Nat.add_assoc]
    · have e : ¬ (decide (i < c) && zalike M q i) = true := by simp [w]
      rw [if_neg e, if_pos rfl, ih, if_neg w, Nat.zero_add]
theorem m_foreL92 {nv c nc nst : Nat} {M : zMem} (hC : gCalls nv c nc nst M) (nk : Nat → Nat) (hnk : ∀ k, k < nc → nk k < 200 ∧ M.1 48 k = nI (nk k)) {x1 x2 x3 : Int32} {n : Nat} (hn : n < 200) {N : Nat} {k26 : Int32 → Int32 → Int32 → Int32 → Int32 → zMem → Option (Int32 × zMem)} : ∀ d i a f, i + d = nc → d < f → fX12_foretold_L92 N k26 f x1 x2 x3 (nI a) (nI n) (nI i) M = fX12_foretold_L136 N k26 x1 x2 x3 (nI (a + zcr (fun k => decide (nk k = n) && decide (M.1 49 k / 60 = x1)) i d)) (nI n) M
  | 0, i, a, f + 1, h, _ => by
    have h0 := hC.1
    rw [fX12_foretold_L92, hC.2.2.2.2.1, if_pos (by rw [z_le (by omega) (by omega)]; omega), zcr, Nat.add_zero]
  | d + 1, i, a, f + 1, h, hf => by
    have h0 := hC.1
    have ih := fun a => m_foreL92 hC nk hnk (x1 := x1) (x2 := x2) (x3 := x3) hn (N := N) (k26 := k26) d (i + 1) a f (by omega) (by omega)
    obtain ⟨g1, g2, -⟩ := hC.2.2.2.2.2.2.1 i (by omega)
    obtain ⟨n1, n2⟩ := hnk i (by omega)
    rw [fX12_foretold_L92, hC.2.2.2.2.1, if_neg (by rw [z_le (by omega) (by omega)]; omega), z_ldI (by omega) (by omega), zbd_some, z_ldI (by omega) (by omega), zbd_some, ← g1, ← g2, n2]
    unfold fX12_foretold_L130
    simp only [zlet_eq, nI_1]
    rw [zcr]
    by_cases e : nk i = n
    · rw [if_pos (by rw [e])]
      by_cases w : M.1 49 i / 60 = x1
      · rw [if_pos w, ih]
        simp only [e, w, decide_true, Bool.and_true, if_true, Nat.add_assoc]
      · rw [if_neg w, ih]
        simp only [w, decide_false, Bool.and_false, if_false, Nat.zero_add, Bool.false_eq_true]
    · have e' : ¬ nI (nk i) = nI n := by rw [z_eq (by omega) (by omega)]; exact e
      rw [if_neg e', ih]
      simp only [e, decide_false, Bool.false_and, if_false, Nat.zero_add, Bool.false_eq_true]
theorem m_foreL26 {nv c nc nst : Nat} {M : zMem} (hK : gClock c M) (hL : gCal M) (hC : gCalls nv c nc nst M) (nk : Nat → Nat) (hnk : ∀ k, k < nc → nk k < 200 ∧ M.1 48 k = nI (nk k)) {x1 : Int32} {q : Nat} (hq : q < 200) {N : Nat} (hN : 400 < N) : ∀ d i a b f, i + d = c → d < f → fX12_foretold_L26 N f x1 (nI q) (nI a) (nI b) (nI i) M = (if nI (a + zcr (fun n => zalike M q n) i d) = 0 then some (-1, M) else some (((100 : Int32) * nI (b + zsr (fun n => if zalike M q n = true then zcr (fun k => decide (nk k = n) && decide (M.1 49 k / 60 = x1)) 0 nc else 0) i d)) / nI (a + zcr (fun n => zalike M q n) i d), M))
  | 0, i, a, b, f + 1, h, _ => by
    have c0 := hK.1
    rw [fX12_foretold_L26, hK.2.2, if_pos (by rw [z_le (by omega) (by omega)]; omega), zcr, Nat.add_zero, zsr, Nat.add_zero]
    by_cases e : nI a = 0
    · rw [if_pos e, if_pos e]
    · rw [if_neg e, if_neg e, if_pos e]
  | d + 1, i, a, b, f + 1, h, hf => by
    have c0 := hK.1
    have h0 := hC.1
    have ih := fun a b => m_foreL26 hK hL hC nk hnk (x1 := x1) hq hN d (i + 1) a b f (by omega) (by omega)
    have hin : ∀ a, fX12_foretold_L92 N (fX12_foretold_L26 N f) N x1 (nI q) (nI a) (nI b) (nI i) 0 M = fX12_foretold_L136 N (fX12_foretold_L26 N f) x1 (nI q) (nI a) (nI (b + zcr (fun k => decide (nk k = i) && decide (M.1 49 k / 60 = x1)) 0 nc)) (nI i) M := fun a => m_foreL92 hC nk hnk (n := i) (by omega) nc 0 b N (by omega) (by omega)
    rw [fX12_foretold_L26, hK.2.2, if_neg (by rw [z_le (by omega) (by omega)]; omega), z_ldI (by omega) (by omega), zbd_some]
    unfold fX12_foretold_L86
    simp only [zlet_eq, nI_1, hin]
    unfold fX12_foretold_L136
    simp only [zlet_eq, nI_1, ih, z_ldI (show i < 200 by omega) (show 200 < 2147483648 by omega), z_ldI hq (show 200 < 2147483648 by omega), zbd_some]
    rw [zcr, zsr]
    have yes : zalike M q i = true → ∀ X Y Z : Nat, a + ((if zalike M q i = true then 1 else 0) + X) = a + 1 + X ∧ b + ((if zalike M q i = true then Y else 0) + Z) = b + Y + Z := fun w X Y Z => by rw [if_pos w, if_pos w]; omega
    have no : zalike M q i = false → ∀ X Y Z : Nat, a + ((if zalike M q i = true then 1 else 0) + X) = a + X ∧ b + ((if zalike M q i = true then Y else 0) + Z) = b + Z := fun w X Y Z => by rw [if_neg (by rw [w]; decide), if_neg (by rw [w]; decide)]; omega
    rcases (gCal_01 hL (n := i) (by omega)).2.2 with g0 | g0
    · have w : zalike M q i = false := by simp [zalike, g0]
      rw [g0, if_pos rfl, (no w _ 0 0).1, (no w 0 _ _).2]
    · rw [g0, if_neg (by decide)]
      by_cases e : M.1 99 i = M.1 99 q
      · rw [if_pos e]
        by_cases e0 : M.1 99 i = 0
        · rw [if_pos e0]
          by_cases e7 : (nI i - nI i / (7 : Int32) * (7 : Int32)) = (nI q - nI q / (7 : Int32) * (7 : Int32))
          · have w : zalike M q i = true := by simp [zalike, g0, e, e7]
            rw [if_pos e7, (yes w _ 0 0).1, (yes w 0 _ _).2]
          · have w : zalike M q i = false := by simp [zalike, e0, e7]
            rw [if_neg e7, (no w _ 0 0).1, (no w 0 _ _).2]
        · have e0' : ¬ M.1 99 q = 0 := by rw [← e]; exact e0
          have w : zalike M q i = true := by simp [zalike, g0, e, e0']
          rw [if_neg e0, (yes w _ 0 0).1, (yes w 0 _ _).2]
      · have w : zalike M q i = false := by simp [zalike, e]
        rw [if_neg e, (no w _ 0 0).1, (no w 0 _ _).2]
theorem q_foretold {nv c nc nst : Nat} {M : zMem} (hK : gClock c M) (hL : gCal M) (hC : gCalls nv c nc nst M) (x1 x2 : Int32) {N : Nat} (hN : 400 < N) : ∃ r, fX11_foretold N x1 x2 M = some (r, M) ∧ fX12_foretold N x1 x2 M = some (r, M) := by
  have c0 := hK.1
  have h0 := hC.1
  have w1 : fX11_isWithin x1 0 5 M = some (if zin x1 6 = true then 1 else 0, M) := p_within0 x1 (n := 5) (by omega) M
  have r1 : ∀ (a b : Option (Int32 × zMem)), (if x1 < 0 then a else if (5 : Int32) < x1 then a else b) = if zin x1 6 = true then b else a := fun a b => z_rng2 x1 (n := 5) (by omega) a b
  unfold fX11_foretold fX12_foretold
  rw [w1, zb2_some, r1]
  by_cases e1 : zin x1 6 = true
  · rw [if_pos e1, if_neg (by decide), if_pos e1, p_isNightZ, m_isNightZ, zb2_some, zb2_some]
    by_cases e2 : zin x2 200 = true
    · obtain ⟨q, hq, rfl⟩ := z_zinE (by omega) e2
      rw [if_pos e2, if_neg (by decide), if_neg (by decide)]
      have hnk : ∀ k, k < nc → (M.1 48 k).toNatClampNeg < 200 ∧ M.1 48 k = nI (M.1 48 k).toNatClampNeg := by
        intro k hk
        obtain ⟨⟨n, n1, -, -, n4⟩, -⟩ := hC.2.2.2.2.2.2.2 k hk
        rw [n4, z_cl (by omega)]
        exact ⟨n1, rfl⟩
      have hp := p_foreL23 hK hL (x1 := x1) hq (N := N) c 0 0 N (by omega) (by omega)
      have hm := m_foreL26 hK hL hC (fun k => (M.1 48 k).toNatClampNeg) hnk (x1 := x1) hq hN c 0 0 0 N (by omega) (by omega)
      have hp2 := p_foreL57 hK hL hC (fun k => (M.1 48 k).toNatClampNeg) hnk (x1 := x1) (x3 := nI (0 + zcr (fun n => zalike M q n) 0 c)) hq (N := N) nc 0 0 N (by omega) (by omega)
      rw [show nI 0 = (0 : Int32) from rfl] at hp hp2 hm
      rw [hp, hp2, hm]
      have hs := zsr_sum (fun n => if zalike M q n = true then zcr (fun k => decide ((M.1 48 k).toNatClampNeg = n) && decide (M.1 49 k / 60 = x1)) 0 nc else 0) c 0
      rw [z_swap (fun k => (M.1 48 k).toNatClampNeg) (fun k => decide (M.1 49 k / 60 = x1)) (fun n => zalike M q n) nc, Nat.zero_add] at hs
      rw [zsum, Nat.zero_add] at hs
      rw [← hs, Int32.mul_comm]
      by_cases e : nI (0 + zcr (fun n => zalike M q n) 0 c) = 0
      · rw [if_pos e]; exact ⟨_, rfl, rfl⟩
      · rw [if_neg e]; exact ⟨_, rfl, rfl⟩
    · rw [if_neg e2, if_pos rfl]; exact ⟨_, rfl, rfl⟩
  · rw [if_neg e1, if_pos rfl, if_neg e1]; exact ⟨_, rfl, rfl⟩
