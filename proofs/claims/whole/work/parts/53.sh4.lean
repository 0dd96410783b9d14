/-! SHIFTS, the class: look ahead -/
def zdC (H m : Nat → Nat) (S : Nat → Bool) (n : Nat) (M : zMem) : Prop := n ≤ 5 ∧ M.1 36 10 = nI n ∧ ∀ i, i < n → H i < 64 ∧ 1 ≤ m i ∧ m i ≤ 3 ∧ M.1 37 i = nI (H i) ∧ M.1 38 i = nI (m i) ∧ M.1 39 i = (if S i = true then 1 else 0)
def zlaC (H m : Nat → Nat) (S : Nat → Bool) (n e : Nat) (M : zMem) : Prop := ∀ i, e ≤ i → i ≤ n → M.1 40 i = nI (zl1 H i (n - i)) ∧ M.1 41 i = nI (zl2 H i (n - i)) ∧ M.1 42 i = nI (zls H S i (n - i)) ∧ M.1 43 i = nI (zlh H m i (n - i)) ∧ M.1 44 i = nI (zlk2 H m S i (n - i))
def zfrL (M W : zMem) : Prop := W.2 = M.2 ∧ ∀ a, a < 40 ∨ 44 < a → W.1 a = M.1 a
theorem z_m1add {e : Nat} (he : e < 2147483648) : nI e + (-1 : Int32) = nI e - 1 := by rw [Int32.sub_eq_add_neg]
theorem p_lookL {H m : Nat → Nat} {S : Nat → Bool} {n : Nat} {N : Nat} : ∀ e f (M : zMem), e ≤ n → e < f → zdC H m S n M → zlaC H m S n e M → ∃ W, fX7_lookAhead_L57 N f (nI e - 1) M = some W ∧ zfrL M W ∧ zlaC H m S n 0 W
  | 0, f + 1, M, he, hf, hd, hl => by
    refine ⟨M, ?_, ⟨rfl, fun _ _ => rfl⟩, hl⟩
    rw [fX7_lookAhead_L57, if_pos (by decide)]
  | e + 1, f + 1, M, he, hf, hd, hl => by
    obtain ⟨n5, d1, d2⟩ := id hd
    obtain ⟨q1, q2, q3, q4, q5, q6⟩ := d2 e (by omega)
    obtain ⟨l1, l2, l3, l4, l5⟩ := hl (e + 1) (by omega) (by omega)
    have hH : ∀ i, i < n → H i < 64 ∧ m i ≤ 3 := fun i q => ⟨(d2 i q).1, (d2 i q).2.2.1⟩
    have c6 := zpc_6 (H e)
    have hne : n - e = (n - (e + 1)) + 1 := by omega
    have hx : nI (e + 1) - 1 = nI e := by rw [show (1 : Int32) = nI 1 from rfl, z_sub (by omega), Nat.add_sub_cancel]
    let M1 := zpI M 40 e (nI (zl1 H e (n - e)))
    let M2 := zpI M1 41 e (nI (zl2 H e (n - e)))
    let M3 := zpI M2 42 e (nI (zls H S e (n - e)))
    let M4 := zpI M3 43 e (nI (zlh H m e (n - e)))
    let M5 := zpI M4 44 e (nI (zlk2 H m S e (n - e)))
    have hd5 : zdC H m S n M5 := hd
    have row : ∀ a v, ∀ i, (zpI M a e v).1 a i = if i = e then v else M.1 a i := by intro a v i; rw [zpI_1]; simp
    have r40 : ∀ i, M5.1 40 i = if i = e then nI (zl1 H e (n - e)) else M.1 40 i := by intro i; show (zpI (zpI (zpI (zpI (zpI M 40 e _) 41 e _) 42 e _) 43 e _) 44 e _).1 40 i = _; simp [zpI_1]
    have r41 : ∀ i, M5.1 41 i = if i = e then nI (zl2 H e (n - e)) else M.1 41 i := by intro i; show (zpI (zpI (zpI (zpI (zpI M 40 e _) 41 e _) 42 e _) 43 e _) 44 e _).1 41 i = _; simp [zpI_1]
    have r42 : ∀ i, M5.1 42 i = if i = e then nI (zls H S e (n - e)) else M.1 42 i := by intro i; show (zpI (zpI (zpI (zpI (zpI M 40 e _) 41 e _) 42 e _) 43 e _) 44 e _).1 42 i = _; simp [zpI_1]
    have r43 : ∀ i, M5.1 43 i = if i = e then nI (zlh H m e (n - e)) else M.1 43 i := by intro i; show (zpI (zpI (zpI (zpI (zpI M 40 e _) 41 e _) 42 e _) 43 e _) 44 e _).1 43 i = _; simp [zpI_1]
    have r44 : ∀ i, M5.1 44 i = if i = e then nI (zlk2 H m S e (n - e)) else M.1 44 i := by intro i; show (zpI (zpI (zpI (zpI (zpI M 40 e _) 41 e _) 42 e _) 43 e _) 44 e _).1 44 i = _; simp [zpI_1]
    have hl5 : zlaC H m S n e M5 := by
      intro i h1 h2
      rw [r40, r41, r42, r43, r44]
      by_cases z : i = e
      · subst z; simp
      · simp only [z, if_false]
        exact hl i (by omega) h2
    obtain ⟨W, w1, w2, w3⟩ := p_lookL (N := N) e f M5 (by omega) (by omega) hd5 hl5
    refine ⟨W, ?_, ⟨w2.1, fun a ha => ?_⟩, w3⟩
    · rw [fX7_lookAhead_L57, hx, if_neg (nI_pos (by omega)), z_ldI (by omega) (by omega), zbd_some, z_ldI (by omega) (by omega), zbd_some, q4, q5, p_bc q1, zb2_some, zlet_eq, z_minI (by omega) (by omega), nI_1, z_ldI (by omega) (by omega), zbd_some, z_ldI (by omega) (by omega), zbd_some, l1, q4, fa_or, z_stI (by omega) (by omega), zbd_some]
      have e1 : zl1 H (e + 1) (n - (e + 1)) ||| H e = zl1 H e (n - e) := by rw [hne]; rfl
      rw [e1]
      have a41 : (zpI M 40 e (nI (zl1 H e (n - e)))).1 41 (e + 1) = nI (zl2 H (e + 1) (n - (e + 1))) := l2
      have a40 : (zpI M 40 e (nI (zl1 H e (n - e)))).1 40 (e + 1) = nI (zl1 H (e + 1) (n - (e + 1))) := by rw [zpI_1, if_neg (by omega)]; exact l1
      have a37 : (zpI M 40 e (nI (zl1 H e (n - e)))).1 37 e = nI (H e) := q4
      rw [z_ldI (by omega) (by omega), zbd_some, z_ldI (by omega) (by omega), zbd_some, z_ldI (by omega) (by omega), zbd_some, a41, a40, a37, fa_and, fa_or, z_stI (by omega) (by omega), zbd_some]
      have e2 : zl2 H (e + 1) (n - (e + 1)) ||| (zl1 H (e + 1) (n - (e + 1)) &&& H e) = zl2 H e (n - e) := by rw [hne]; rfl
      rw [e2]
      show ((zldI M2 42 6 (nI (e + 1))).bind fun v20 => (zldI M2 39 5 (nI e)).bind fun v21 => if v21 = 0 then fX7_lookAhead_L163 N (fX7_lookAhead_L57 N f) (nI e) (nI (min (zpc (H e)) (m e))) (nI e) v20 0 M2 else (zldI M2 37 5 (nI e)).bind fun v22 => fX7_lookAhead_L163 N (fX7_lookAhead_L57 N f) (nI e) (nI (min (zpc (H e)) (m e))) (nI e) v20 v22 M2) = some W
      have a42 : M2.1 42 (e + 1) = nI (zls H S (e + 1) (n - (e + 1))) := l3
      have a39 : M2.1 39 e = if S e = true then 1 else 0 := q6
      have a37' : M2.1 37 e = nI (H e) := q4
      rw [z_ldI (by omega) (by omega), zbd_some, z_ldI (by omega) (by omega), zbd_some, z_ldI (by omega) (by omega), zbd_some, a42, a39, a37']
      have go : ∀ s3 : Nat, s3 = (if S e = true then H e else 0) → fX7_lookAhead_L163 N (fX7_lookAhead_L57 N f) (nI e) (nI (min (zpc (H e)) (m e))) (nI e) (nI (zls H S (e + 1) (n - (e + 1)))) (nI s3) M2 = some W := by
        intro s3 hs3
        unfold fX7_lookAhead_L163
        rw [fa_or, z_stI (by omega) (by omega), zbd_some]
        have e3 : zls H S (e + 1) (n - (e + 1)) ||| s3 = zls H S e (n - e) := by rw [hne, hs3]; rfl
        rw [e3]
        show ((zldI M3 43 6 (nI e + 1)).bind fun v24 => (zstI M3 43 6 (nI e) (v24 + nI (min (zpc (H e)) (m e)))).bind fun M25 => (zldI M25 44 6 (nI e + 1)).bind fun v26 => (zldI M25 39 5 (nI e)).bind fun v27 => if v27 = 0 then fX7_lookAhead_L208 N (fX7_lookAhead_L57 N f) (nI e) (nI e) v26 0 M25 else fX7_lookAhead_L208 N (fX7_lookAhead_L57 N f) (nI e) (nI e) v26 (nI (min (zpc (H e)) (m e))) M25) = some W
        have a43 : M3.1 43 (e + 1) = nI (zlh H m (e + 1) (n - (e + 1))) := l4
        rw [nI_1, z_ldI (by omega) (by omega), zbd_some, a43, z_add, z_stI (by omega) (by omega), zbd_some]
        have e4 : zlh H m (e + 1) (n - (e + 1)) + min (zpc (H e)) (m e) = zlh H m e (n - e) := by rw [hne, Nat.min_comm]; rfl
        rw [e4]
        have a44 : M4.1 44 (e + 1) = nI (zlk2 H m S (e + 1) (n - (e + 1))) := l5
        have a39' : M4.1 39 e = if S e = true then 1 else 0 := q6
        show ((zldI M4 44 6 (nI (e + 1))).bind fun v26 => (zldI M4 39 5 (nI e)).bind fun v27 => if v27 = 0 then fX7_lookAhead_L208 N (fX7_lookAhead_L57 N f) (nI e) (nI e) v26 0 M4 else fX7_lookAhead_L208 N (fX7_lookAhead_L57 N f) (nI e) (nI e) v26 (nI (min (zpc (H e)) (m e))) M4) = some W
        rw [z_ldI (by omega) (by omega), zbd_some, z_ldI (by omega) (by omega), zbd_some, a44, a39']
        have go2 : ∀ s : Nat, s = (if S e = true then min (m e) (zpc (H e)) else 0) → fX7_lookAhead_L208 N (fX7_lookAhead_L57 N f) (nI e) (nI e) (nI (zlk2 H m S (e + 1) (n - (e + 1)))) (nI s) M4 = some W := by
          intro s hs
          unfold fX7_lookAhead_L208
          rw [z_add, z_stI (by omega) (by omega), zbd_some, zlet_eq, z_m1add (by omega)]
          have e5 : zlk2 H m S (e + 1) (n - (e + 1)) + s = zlk2 H m S e (n - e) := by rw [hne, hs]; rfl
          rw [e5]
          exact w1
        by_cases z : S e = true
        · rw [if_pos z, if_neg (by decide)]
          exact go2 _ (by rw [if_pos z, Nat.min_comm])
        · rw [if_neg z, if_pos rfl]
          exact go2 0 (by rw [if_neg z])
      by_cases z : S e = true
      · rw [if_pos z, if_neg (by decide)]
        exact go _ (by rw [if_pos z])
      · rw [if_neg z, if_pos rfl]
        exact go 0 (by rw [if_neg z])
    · rw [w2.2 a ha]
      show (zpI (zpI (zpI (zpI (zpI M 40 e _) 41 e _) 42 e _) 43 e _) 44 e _).1 a = _
      rw [zpI_r _ _ (by omega), zpI_r _ _ (by omega), zpI_r _ _ (by omega), zpI_r _ _ (by omega), zpI_r _ _ (by omega)]
theorem p_look {H m : Nat → Nat} {S : Nat → Bool} {n : Nat} {M : zMem} (hd : zdC H m S n M) {N : Nat} (hN : 10 < N) : ∃ W, fX7_lookAhead N M = some W ∧ zfrL M W ∧ zsC H m S n W := by
  obtain ⟨n5, d1, d2⟩ := id hd
  obtain ⟨W, w1, w2, w3⟩ := p_lookL (H := H) (m := m) (S := S) (n := n) (N := N) n N (zpI (zpI (zpI (zpI (zpI M 40 n 0) 41 n 0) 42 n 0) 43 n 0) 44 n 0) (Nat.le_refl n) (by omega) hd (by
    intro i h1 h2
    have e : i = n := by omega
    subst e
    rw [Nat.sub_self]
    simp [zpI_1, zl1, zl2, zls, zlh, zlk2]
    rfl)
  refine ⟨W, ?_, ⟨w2.1, fun a ha => ?_⟩, ?_⟩
  · unfold fX7_lookAhead
    have s1 : (zpI M 40 n 0).1 36 10 = nI n := d1
    have s2 : (zpI (zpI M 40 n 0) 41 n 0).1 36 10 = nI n := d1
    have s3 : (zpI (zpI (zpI M 40 n 0) 41 n 0) 42 n 0).1 36 10 = nI n := d1
    have s4 : (zpI (zpI (zpI (zpI M 40 n 0) 41 n 0) 42 n 0) 43 n 0).1 36 10 = nI n := d1
    have s5 : (zpI (zpI (zpI (zpI (zpI M 40 n 0) 41 n 0) 42 n 0) 43 n 0) 44 n 0).1 36 10 = nI n := d1
    rw [d1, z_stI (by omega) (by omega), zbd_some, s1, z_stI (by omega) (by omega), zbd_some, s2, z_stI (by omega) (by omega), zbd_some, s3, z_stI (by omega) (by omega), zbd_some, s4, z_stI (by omega) (by omega), zbd_some, s5, zlet_eq]
    exact w1
  · rw [w2.2 a ha, zpI_r _ _ (by omega), zpI_r _ _ (by omega), zpI_r _ _ (by omega), zpI_r _ _ (by omega), zpI_r _ _ (by omega)]
  · refine ⟨n5, by rw [w2.2 36 (by omega)]; exact d1, ?_, fun i hi => w3 i (Nat.zero_le i) hi⟩
    rw [w2.2 37 (by omega), w2.2 38 (by omega), w2.2 39 (by omega)]
    exact d2
/-- the search as a whole -/
theorem p_findBest {H m : Nat → Nat} {S : Nat → Bool} {n : Nat} {M : zMem} (hd : zdC H m S n M) {N : Nat} (hN : 10 < N) : ∃ W, fX7_findBest N M = some (W.1 36 11, W) ∧ W.2 = M.2 ∧ (∀ a, a < 36 ∨ 46 < a → W.1 a = M.1 a) ∧ W.1 36 10 = nI n ∧ zbC n W (zdfs (zoff H m S 0 n) 0 0 0 0 0 (fun _ => 0) none) := by
  obtain ⟨W1, w1, w2, w3⟩ := p_look hd hN
  have n5 := hd.1
  have hs2 : zsC H m S n (zpI (zpI W1 36 11 (-1)) 36 12 0) := by
    obtain ⟨a0, a1, a2, a3⟩ := w3
    exact ⟨a0, a1, a2, a3⟩
  obtain ⟨W, v1, v2, v3⟩ := p_try (H := H) (m := m) (S := S) (n := n) hN n 0 7 (by omega) (by omega) 0 0 0 0 (fun _ => 0) none (zpI (zpI W1 36 11 (-1)) 36 12 0) (by omega) (by omega) (by omega) (by omega) (fun j _ q => q) hs2 ⟨rfl, rfl⟩ (fun j hj => absurd hj (Nat.not_lt_zero j))
  refine ⟨W, ?_, by rw [v2.1]; exact w2.1, ?_, ?_, v3⟩
  · unfold fX7_findBest
    rw [w1, zbd_some, zlet_eq, zlet_eq, show fX7_tryFrom N 7 0 0 0 0 0 (zpI (zpI W1 36 11 (-1)) 36 12 0) = some W from v1, zbd_some]
  · intro a ha
    rw [v2.2.1 a (by omega) (by omega) (by omega), zpI_r _ _ (by omega), zpI_r _ _ (by omega), w2.2 a (by omega)]
  · rw [v2.2.2.1 10 (by omega) (by omega)]
    exact w3.2.1
