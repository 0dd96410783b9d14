/-! SHIFTS, the class's search -/
def zsC (H m : Nat → Nat) (S : Nat → Bool) (n : Nat) (M : zMem) : Prop := n ≤ 5 ∧ M.1 36 10 = nI n ∧ (∀ i, i < n → H i < 64 ∧ 1 ≤ m i ∧ m i ≤ 3 ∧ M.1 37 i = nI (H i) ∧ M.1 38 i = nI (m i) ∧ M.1 39 i = (if S i = true then 1 else 0)) ∧
  ∀ i, i ≤ n → M.1 40 i = nI (zl1 H i (n - i)) ∧ M.1 41 i = nI (zl2 H i (n - i)) ∧ M.1 42 i = nI (zls H S i (n - i)) ∧ M.1 43 i = nI (zlh H m i (n - i)) ∧ M.1 44 i = nI (zlk2 H m S i (n - i))
def zbC (n : Nat) (M : zMem) : Option (Nat × Nat × (Nat → Nat)) → Prop
  | none => M.1 36 11 = -1 ∧ M.1 36 12 = 0
  | some b => b.1 ≤ 6 ∧ b.2.1 ≤ 1000 ∧ M.1 36 11 = nI b.1 ∧ M.1 36 12 = nI b.2.1 ∧ ∀ j, j < n → M.1 46 j = nI (b.2.2 j)
def zpost (i : Nat) (M W : zMem) : Prop := W.2 = M.2 ∧ (∀ a, a ≠ 36 → a ≠ 45 → a ≠ 46 → W.1 a = M.1 a) ∧ (∀ j, j ≠ 11 → j ≠ 12 → W.1 36 j = M.1 36 j) ∧ ∀ j, j < i → W.1 45 j = M.1 45 j
theorem zpost_t {i : Nat} {M W X : zMem} (h1 : zpost i M W) (h2 : zpost i W X) : zpost i M X := by
  obtain ⟨a1, a2, a3, a4⟩ := h1
  obtain ⟨b1, b2, b3, b4⟩ := h2
  exact ⟨by rw [b1, a1], fun a p q r => by rw [b2 a p q r, a2 a p q r], fun j p q => by rw [b3 j p q, a3 j p q], fun j p => by rw [b4 j p, a4 j p]⟩
theorem zpost_r (i : Nat) (M : zMem) : zpost i M M := ⟨rfl, fun _ _ _ _ => rfl, fun _ _ _ => rfl, fun _ _ => rfl⟩
theorem zpost_w {i k : Nat} {M W : zMem} (h : zpost i M W) (hk : k ≤ i) : zpost k M W := ⟨h.1, h.2.1, h.2.2.1, fun j p => h.2.2.2 j (by omega)⟩
theorem zsC_post {H m : Nat → Nat} {S : Nat → Bool} {n i : Nat} {M W : zMem} (h : zsC H m S n M) (p : zpost i M W) : zsC H m S n W := by
  obtain ⟨h0, h1, h2, h3⟩ := h
  obtain ⟨-, p2, p3, -⟩ := p
  refine ⟨h0, by rw [p3 10 (by omega) (by omega)]; exact h1, ?_, ?_⟩
  · rw [p2 37 (by omega) (by omega) (by omega), p2 38 (by omega) (by omega) (by omega), p2 39 (by omega) (by omega) (by omega)]; exact h2
  · rw [p2 40 (by omega) (by omega) (by omega), p2 41 (by omega) (by omega) (by omega), p2 42 (by omega) (by omega) (by omega), p2 43 (by omega) (by omega) (by omega), p2 44 (by omega) (by omega) (by omega)]; exact h3
theorem z_or6 {x y : Nat} (hx : x < 64) (hy : y < 64) : x ||| y < 64 := Nat.or_lt_two_pow (n := 6) hx hy
theorem z_and6 {x y : Nat} (hy : y < 64) : x &&& y < 64 := Nat.and_lt_two_pow (n := 6) x hy
theorem z_and6l {x y : Nat} (hx : x < 64) : x &&& y < 64 := by
  have : x &&& y ≤ x := Nat.and_le_left
  omega
theorem zl_lt {H m : Nat → Nat} {S : Nat → Bool} {n : Nat} (hH : ∀ i, i < n → H i < 64 ∧ m i ≤ 3) : ∀ d i, i + d = n → zl1 H i d < 64 ∧ zl2 H i d < 64 ∧ zls H S i d < 64 ∧ zlh H m i d ≤ 3 * d ∧ zlk2 H m S i d ≤ 3 * d
  | 0, i, _ => by simp [zl1, zl2, zls, zlh, zlk2]
  | d + 1, i, h => by
    obtain ⟨a1, a2, a3, a4, a5⟩ := zl_lt (S := S) hH d (i + 1) (by omega)
    obtain ⟨b1, b2⟩ := hH i (by omega)
    refine ⟨z_or6 a1 b1, z_or6 a2 (z_and6 b1), z_or6 a3 (by split <;> omega), ?_, ?_⟩
    · rw [zlh]; omega
    · rw [zlk2]; split <;> omega
theorem z_max0 : ∀ k, k < 7 → ∀ f, f < 13 → (if (0 : Int32) < (2 : Int32) * nI k - nI f then (2 : Int32) * nI k - nI f else (0 : Int32)) = nI (2 * k - f) := by decide +kernel
theorem z_half {a : Nat} (ha : a < 1000) : nI a / (2 : Int32) = nI (a / 2) := by
  have : ∀ a, a < 1000 → nI a / (2 : Int32) = nI (a / 2) := by decide +kernel
  exact this a ha
theorem z_minI {a b : Nat} (ha : a < 2147483648) (hb : b < 2147483648) : (if nI a < nI b then nI a else nI b) = nI (min a b) := by
  by_cases h : a < b
  · rw [if_pos (by rw [z_lt ha hb]; exact h), Nat.min_eq_left (by omega)]
  · rw [if_neg (by rw [z_lt ha hb]; exact h), Nat.min_eq_right (by omega)]
/-- can be better: yes at a leaf just where it is; no only where nothing below is better -/
theorem p_can {H m : Nat → Nat} {S : Nat → Bool} {n : Nat} {M : zMem} (hs : zsC H m S n M) {d i one two sk g : Nat} {pre : Nat → Nat} {b : Option (Nat × Nat × (Nat → Nat))} (hi : i + d = n) (h1 : one < 64) (h2 : two < 64) (h3 : sk < 64) (hg : g ≤ 100) (hto : ∀ j, j < 6 → two.testBit j = true → one.testBit j = true) (hb : zbC n M b) :
    ∃ r : Int32, fX7_canBeBetter (nI i) (nI one) (nI two) (nI sk) (nI g) M = some (r, M) ∧ (r = 0 ∨ r = 1) ∧ (r = 0 → zdfs (zoff H m S i d) i one two sk g pre b = b) ∧ (d = 0 → r = 1 → zbet (zpc (two &&& sk)) g b = true) := by
  obtain ⟨n5, s1, s2, s3⟩ := hs
  obtain ⟨l1, l2, l3, l4, l5⟩ := s3 i (by omega)
  rw [show n - i = d by omega] at l1 l2 l3 l4 l5
  have hH : ∀ i, i < n → H i < 64 ∧ m i ≤ 3 := fun i q => ⟨(s2 i q).1, (s2 i q).2.2.1⟩
  obtain ⟨b1, b2, b3, b4, b5⟩ := zl_lt (S := S) hH d i hi
  generalize hO : ((two ||| (one &&& zl1 H i d)) ||| zl2 H i d) &&& (sk ||| zls H S i d) = O
  have hO6 : O < 64 := by rw [← hO]; exact z_and6 (z_or6 h3 b3)
  have c1 := zpc_6 (one &&& O)
  have c2 := zpc_6 (two &&& O)
  have c3 := zpc_6 (sk &&& O)
  have c4 := zpc_6 O
  have hpure : ∀ k g' w, b = some (k, g', w) → (min (zpc (sk &&& O) + zlk2 H m S i d) (min ((zpc (one &&& O) + zpc (two &&& O) + zlh H m i d) / 2) (zpc O)) < k ∨ (min (zpc (sk &&& O) + zlk2 H m S i d) (min ((zpc (one &&& O) + zpc (two &&& O) + zlh H m i d) / 2) (zpc O)) = k ∧ g' ≤ g + (2 * k - (zpc (one &&& O) + zpc (two &&& O))))) → zdfs (zoff H m S i d) i one two sk g pre b = b := by
    intro k g' w e hc
    rw [e]
    refine zdfs_cut hH (O := O) (G0 := g) (F0 := zpc (one &&& O) + zpc (two &&& O)) (LH := zlh H m i d) (LS := zlk2 H m S i d) (SK0 := zpc (sk &&& O)) (K0 := min (zpc (sk &&& O) + zlk2 H m S i d) (min ((zpc (one &&& O) + zpc (two &&& O) + zlh H m i d) / 2) (zpc O))) (by omega) (by omega) (by omega) (by omega) hc d i one two sk g pre hi hto ?_ (Nat.le_refl _) (by omega) (Nat.le_refl _) (Nat.le_refl _)
    intro j hj hb'
    rw [← hO]
    simp only [Nat.testBit_and, Nat.testBit_or]
    exact hb'
  have hcode : fX7_canBeBetter (nI i) (nI one) (nI two) (nI sk) (nI g) M = (if nI (min (zpc (sk &&& O) + zlk2 H m S i d) (min ((zpc (one &&& O) + zpc (two &&& O) + zlh H m i d) / 2) (zpc O))) = M.1 36 11 then (if M.1 36 12 ≤ nI g + (if (0 : Int32) < (2 : Int32) * M.1 36 11 - nI (zpc (one &&& O) + zpc (two &&& O)) then (2 : Int32) * M.1 36 11 - nI (zpc (one &&& O) + zpc (two &&& O)) else (0 : Int32)) then some ((0 : Int32), M) else some ((1 : Int32), M)) else (if nI (min (zpc (sk &&& O) + zlk2 H m S i d) (min ((zpc (one &&& O) + zpc (two &&& O) + zlh H m i d) / 2) (zpc O))) ≤ M.1 36 11 then some ((0 : Int32), M) else some ((1 : Int32), M))) := by
    unfold fX7_canBeBetter
    rw [z_ldI (by omega) (by omega), zbd_some, z_ldI (by omega) (by omega), zbd_some, z_ldI (by omega) (by omega), zbd_some, zlet_eq, l1, l2, l3, fa_and, fa_or, fa_or, fa_or, fa_and, hO, fa_and, p_bc (z_and6 hO6), zb2_some, fa_and, p_bc (z_and6 hO6), zb2_some, zlet_eq, z_add, p_bc hO6, zb2_some, z_ldI (by omega) (by omega), zbd_some, l4, z_add, z_half (by omega), z_minI (by omega) (by omega), zlet_eq, fa_and, p_bc (z_and6 hO6), zb2_some, z_ldI (by omega) (by omega), zbd_some, l5, z_add, z_minI (by omega) (by omega), zlet_eq]
  rw [hcode]
  match b, hb, hpure with
  | none, hb, _ =>
    obtain ⟨e1, e2⟩ := hb
    rw [e1, if_neg (by rw [z_m1 (by omega)]; exact id), if_neg (by
      intro q
      have := Int32.le_iff_toInt_le.mp q
      rw [nI_toInt (by omega)] at this
      have h4 : (-1 : Int32).toInt = -1 := by decide
      omega)]
    exact ⟨1, rfl, Or.inr rfl, fun q => absurd q (by decide), fun _ _ => rfl⟩
  | some (k, g', w), hb, hpure =>
    obtain ⟨e0, e00, e1, e2, e3⟩ := hb
    have hp := hpure k g' w rfl
    rw [e1, e2]
    have hleaf : d = 0 → min (zpc (sk &&& O) + zlk2 H m S i d) (min ((zpc (one &&& O) + zpc (two &&& O) + zlh H m i d) / 2) (zpc O)) = zpc (two &&& sk) ∧ 2 * zpc (two &&& sk) = zpc (one &&& O) + zpc (two &&& O) := by
      intro hd
      subst hd
      have eO : O = two &&& sk := by rw [← hO]; simp [zl1, zl2, zls]
      have q1 : zpc (one &&& O) = zpc O := by
        apply Nat.le_antisymm
        · exact zpc_le (fun j hj q => by rw [Nat.testBit_and, Bool.and_eq_true] at q; exact q.2)
        · refine zpc_le (fun j hj q => ?_)
          rw [Nat.testBit_and, Bool.and_eq_true]
          refine ⟨hto j hj ?_, q⟩
          rw [eO, Nat.testBit_and, Bool.and_eq_true] at q
          exact q.1
      have q2 : zpc (two &&& O) = zpc O := by
        apply Nat.le_antisymm
        · exact zpc_le (fun j hj q => by rw [Nat.testBit_and, Bool.and_eq_true] at q; exact q.2)
        · refine zpc_le (fun j hj q => ?_)
          rw [Nat.testBit_and, Bool.and_eq_true]
          refine ⟨?_, q⟩
          rw [eO, Nat.testBit_and, Bool.and_eq_true] at q
          exact q.1
      have q3 : zpc (sk &&& O) = zpc O := by
        apply Nat.le_antisymm
        · exact zpc_le (fun j hj q => by rw [Nat.testBit_and, Bool.and_eq_true] at q; exact q.2)
        · refine zpc_le (fun j hj q => ?_)
          rw [Nat.testBit_and, Bool.and_eq_true]
          refine ⟨?_, q⟩
          rw [eO, Nat.testBit_and, Bool.and_eq_true] at q
          exact q.2
      rw [q1, q2, q3, zlh, zlk2, ← eO]
      omega
    have hmk := z_max0 k (by omega) (zpc (one &&& O) + zpc (two &&& O)) (by omega)
    rw [hmk, z_add]
    by_cases w1 : min (zpc (sk &&& O) + zlk2 H m S i d) (min ((zpc (one &&& O) + zpc (two &&& O) + zlh H m i d) / 2) (zpc O)) = k
    · rw [if_pos (by rw [w1])]
      by_cases w2 : g' ≤ g + (2 * k - (zpc (one &&& O) + zpc (two &&& O)))
      · rw [if_pos (by rw [z_le (by omega) (by omega)]; exact w2)]
        exact ⟨0, rfl, Or.inl rfl, fun _ => hp (Or.inr ⟨w1, w2⟩), fun _ q => absurd q (by decide)⟩
      · rw [if_neg (by rw [z_le (by omega) (by omega)]; exact w2)]
        refine ⟨1, rfl, Or.inr rfl, fun q => absurd q (by decide), fun hd _ => ?_⟩
        obtain ⟨f1, f2⟩ := hleaf hd
        simp only [zbet, decide_eq_true_eq]
        omega
    · rw [if_neg (by rw [z_eq (by omega) (by omega)]; exact w1)]
      by_cases w2 : min (zpc (sk &&& O) + zlk2 H m S i d) (min ((zpc (one &&& O) + zpc (two &&& O) + zlh H m i d) / 2) (zpc O)) ≤ k
      · rw [if_pos (by rw [z_le (by omega) (by omega)]; exact w2)]
        exact ⟨0, rfl, Or.inl rfl, fun _ => hp (Or.inl (by omega)), fun _ q => absurd q (by decide)⟩
      · rw [if_neg (by rw [z_le (by omega) (by omega)]; exact w2)]
        refine ⟨1, rfl, Or.inr rfl, fun q => absurd q (by decide), fun hd _ => ?_⟩
        obtain ⟨f1, f2⟩ := hleaf hd
        simp only [zbet, decide_eq_true_eq]
        omega
