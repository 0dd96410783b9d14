/-! SHIFTS, the class's search: all ways -/
theorem z_shiftC : ∀ f, f < 6 → ∀ l, l < 4 → (((1 : Int32) <<< (nI l &&& 31)) - (1 : Int32)) <<< (nI f &&& 31) = nI (zmask f l) := by decide +kernel
theorem z_fitC : ∀ f, f < 6 → ∀ l, l < 4 → ∀ h, h < 64 → ((nI (zmask f l) &&& (nI h ^^^ (-1 : Int32))) = 0 ↔ zmask f l &&& h = zmask f l) := by decide +kernel
def zfold (H m : Nat → Nat) (S : Nat → Bool) (d i one two sk g : Nat) (pre : Nat → Nat) (b : Option (Nat × Nat × (Nat → Nat))) (c : Nat) : Option (Nat × Nat × (Nat → Nat)) :=
  zdfs (zoff H m S (i + 1) d) (i + 1) (one ||| c) (two ||| (one &&& c)) (if S i = true then sk ||| c else sk) (g + zpc c) (fun j => if j = i then c else pre j) b
theorem zdfs_fold {H m : Nat → Nat} {S : Nat → Bool} {d i one two sk g : Nat} {pre : Nat → Nat} {b : Option (Nat × Nat × (Nat → Nat))} : zdfs (zoff H m S i (d + 1)) i one two sk g pre b = (zch (H i) (m i)).foldl (zfold H m S d i one two sk g pre) b := rfl
/-- what the call for the offer behind does -/
def zrc (H m : Nat → Nat) (S : Nat → Bool) (n d i : Nat) (rc : Int32 → Int32 → Int32 → Int32 → Int32 → zMem → Option zMem) : Prop :=
  ∀ one two sk g pre b (M : zMem), one < 64 → two < 64 → sk < 64 → g + 3 * d ≤ 100 → (∀ j, j < 6 → two.testBit j = true → one.testBit j = true) → zsC H m S n M → zbC n M b → (∀ j, j < i → M.1 45 j = nI (pre j)) →
    ∃ W, rc (nI i) (nI one) (nI two) (nI sk) (nI g) M = some W ∧ zpost i M W ∧ zbC n W (zdfs (zoff H m S i d) i one two sk g pre b)
theorem z_pre1 {i c : Nat} {M : zMem} {pre : Nat → Nat} (h : ∀ j, j < i → M.1 45 j = nI (pre j)) : ∀ j, j < i + 1 → (zpI M 45 i (nI c)).1 45 j = nI (if j = i then c else pre j) := by
  intro j hj
  rw [zpI_1]
  by_cases e : j = i
  · rw [if_pos ⟨rfl, e⟩, if_pos e]
  · rw [if_neg (fun q => e q.2), if_neg e]; exact h j (by omega)
theorem z_post45 {i c : Nat} {M : zMem} : zpost i M (zpI M 45 i (nI c)) := by
  refine ⟨rfl, fun a h1 h2 h3 => zpI_r _ _ h2, fun j h1 h2 => ?_, fun j hj => ?_⟩
  · rw [zpI_1, if_neg (by omega)]
  · rw [zpI_1, if_neg (by omega)]
theorem z_best45 {n i c : Nat} {M : zMem} {b : Option (Nat × Nat × (Nat → Nat))} (h : zbC n M b) : zbC n (zpI M 45 i (nI c)) b := by
  cases b with
  | none => exact h
  | some b => exact h
theorem z_two1 {one two c : Nat} (hto : ∀ j, j < 6 → two.testBit j = true → one.testBit j = true) : ∀ j, j < 6 → (two ||| (one &&& c)).testBit j = true → (one ||| c).testBit j = true := by
  intro j hj
  simp only [Nat.testBit_and, Nat.testBit_or]
  have := hto j hj
  revert this
  cases one.testBit j <;> cases two.testBit j <;> cases c.testBit j <;> simp
theorem p_L103 {H m : Nat → Nat} {S : Nat → Bool} {n d i : Nat} (hi : i + d + 1 = n) {rc : Int32 → Int32 → Int32 → Int32 → Int32 → zMem → Option zMem} (hrc : zrc H m S n d (i + 1) rc) {one two sk g : Nat} {pre : Nat → Nat} (h1 : one < 64) (h2 : two < 64) (h3 : sk < 64) (hg : g + 3 * (d + 1) ≤ 100) (hto : ∀ j, j < 6 → two.testBit j = true → one.testBit j = true) {N : Nat} {k93 : Int32 → Int32 → Int32 → Int32 → Int32 → Int32 → zMem → Option zMem} {f0 : Nat} (hf0 : f0 < 6) :
    ∀ k l f b (M : zMem), l + k = m i + 1 → 1 ≤ l → k < f → zsC H m S n M → zbC n M b → (∀ j, j < i → M.1 45 j = nI (pre j)) →
      ∃ W, fX7_tryFrom_L103 N rc k93 f (nI i) (nI one) (nI two) (nI sk) (nI g) (nI f0) (nI l) M = fX7_tryFrom_L201 N rc k93 (nI i) (nI one) (nI two) (nI sk) (nI g) (nI f0) W ∧ zpost i M W ∧ zbC n W ((zrl (H i) f0 l k).foldl (zfold H m S d i one two sk g pre) b)
  | 0, l, f + 1, b, M, hl, hl1, hf, hs, hb, hp => by
    obtain ⟨n5, s1, s2, -⟩ := id hs
    obtain ⟨q1, q2, q3, q4, q5, q6⟩ := s2 i (by omega)
    refine ⟨M, ?_, zpost_r i M, by rw [zrl]; exact hb⟩
    rw [fX7_tryFrom_L103, z_ldI (by omega) (by omega), zbd_some, q5, if_pos (by rw [z_lt (by omega) (by omega)]; omega)]
  | k + 1, l, f + 1, b, M, hl, hl1, hf, hs, hb, hp => by
    obtain ⟨n5, s1, s2, -⟩ := id hs
    obtain ⟨q1, q2, q3, q4, q5, q6⟩ := s2 i (by omega)
    rw [fX7_tryFrom_L103, z_ldI (by omega) (by omega), zbd_some, q5, if_neg (by rw [z_lt (by omega) (by omega)]; omega), zlet_eq, z_shiftC f0 hf0 l (by omega), z_ldI (by omega) (by omega), zbd_some, q4]
    rw [zrl]
    by_cases e : zmask f0 l &&& H i = zmask f0 l
    · rw [if_pos ((z_fitC f0 hf0 l (by omega) (H i) q1).mpr e), if_pos e, z_stI (by omega) (by omega), zbd_some]
      have c6 := z_sub_lt q1 e
      have cpc := zmask_pc f0 hf0 l (by omega) c6
      have hS : (zpI M 45 i (nI (zmask f0 l))).1 39 i = M.1 39 i := rfl
      rw [z_ldI (by omega) (by omega), zbd_some, hS, q6]
      obtain ⟨W1, w1, w2, w3⟩ := hrc (one ||| zmask f0 l) (two ||| (one &&& zmask f0 l)) (if S i = true then sk ||| zmask f0 l else sk) (g + zpc (zmask f0 l)) (fun j => if j = i then zmask f0 l else pre j) b (zpI M 45 i (nI (zmask f0 l))) (z_or6 h1 c6) (z_or6 h2 (z_and6 c6)) (by split; exact z_or6 h3 c6; exact h3) (by omega) (z_two1 hto) (zsC_post hs (z_post45 (i := i))) (z_best45 hb) (z_pre1 hp)
      have p1 : zpost i M W1 := zpost_t (z_post45 (i := i) (c := zmask f0 l)) (zpost_w w2 (by omega))
      obtain ⟨W2, v1, v2, v3⟩ := p_L103 hi hrc h1 h2 h3 hg hto hf0 (N := N) (k93 := k93) k (l + 1) f (zfold H m S d i one two sk g pre b (zmask f0 l)) W1 (by omega) (by omega) (by omega) (zsC_post hs p1) w3 (fun j hj => by rw [p1.2.2.2 j hj]; exact hp j hj)
      refine ⟨W2, ?_, zpost_t p1 v2, by rw [List.foldl_cons]; exact v3⟩
      rw [← v1]
      rw [cpc] at w1
      unfold fX7_tryFrom_L169
      by_cases q : S i = true
      · rw [if_pos q] at w1 ⊢
        rw [if_neg (by decide), nI_1, fa_or, fa_and, fa_or, fa_or, z_add, w1, zbd_some, zlet_eq, nI_1]
      · rw [if_neg q] at w1 ⊢
        rw [if_pos rfl, nI_1, fa_or, fa_and, fa_or, z_add, w1, zbd_some, zlet_eq, nI_1]
    · rw [if_neg (fun z => e ((z_fitC f0 hf0 l (by omega) (H i) q1).mp z)), if_neg e]
      exact ⟨M, rfl, zpost_r i M, hb⟩
theorem p_L93 {H m : Nat → Nat} {S : Nat → Bool} {n d i : Nat} (hi : i + d + 1 = n) {rc : Int32 → Int32 → Int32 → Int32 → Int32 → zMem → Option zMem} (hrc : zrc H m S n d (i + 1) rc) {one two sk g : Nat} {pre : Nat → Nat} (h1 : one < 64) (h2 : two < 64) (h3 : sk < 64) (hg : g + 3 * (d + 1) ≤ 100) (hto : ∀ j, j < 6 → two.testBit j = true → one.testBit j = true) {N : Nat} (hN : 10 < N) :
    ∀ k f0 f b (M : zMem), f0 + k = 6 → k < f → zsC H m S n M → zbC n M b → (∀ j, j < i → M.1 45 j = nI (pre j)) →
      ∃ W, fX7_tryFrom_L93 N rc f (nI i) (nI one) (nI two) (nI sk) (nI g) (nI f0) M = some W ∧ zpost i M W ∧ zbC n W ((zhl (H i) (m i) f0 k).foldl (zfold H m S d i one two sk g pre) b)
  | 0, f0, f + 1, b, M, hl, hf, hs, hb, hp => by
    refine ⟨M, ?_, zpost_r i M, by rw [zhl]; exact hb⟩
    rw [fX7_tryFrom_L93, show (6 : Int32) = nI 6 from rfl, if_pos (by rw [z_le (by omega) (by omega)]; omega)]
  | k + 1, f0, f + 1, b, M, hl, hf, hs, hb, hp => by
    obtain ⟨n5, s1, s2, -⟩ := id hs
    obtain ⟨q1, q2, q3, q4, q5, q6⟩ := s2 i (by omega)
    obtain ⟨W1, w1, w2, w3⟩ := p_L103 hi hrc h1 h2 h3 hg hto (N := N) (k93 := fX7_tryFrom_L93 N rc f) (f0 := f0) (by omega) (m i) 1 N b M (by omega) (by omega) (by omega) hs hb hp
    obtain ⟨W2, v1, v2, v3⟩ := p_L93 hi hrc h1 h2 h3 hg hto hN k (f0 + 1) f _ W1 (by omega) (by omega) (zsC_post hs w2) w3 (fun j hj => by rw [w2.2.2.2 j hj]; exact hp j hj)
    refine ⟨W2, ?_, zpost_t w2 v2, by rw [zhl, List.foldl_append]; exact v3⟩
    rw [fX7_tryFrom_L93, show (6 : Int32) = nI 6 from rfl, if_neg (by rw [z_le (by omega) (by omega)]; omega), show (1 : Int32) = nI 1 from rfl, w1]
    unfold fX7_tryFrom_L201
    rw [zlet_eq, nI_1, v1]
theorem p_try {H m : Nat → Nat} {S : Nat → Bool} {n : Nat} {N : Nat} (hN : 10 < N) : ∀ d i f, i + d = n → d < f → zrc H m S n d i (fX7_tryFrom N f)
  | 0, i, f + 1, hi, hf => by
    intro one two sk g pre b M h1 h2 h3 hg hto hs hb hp
    obtain ⟨r, r1, r2, r3, r4⟩ := p_can hs (d := 0) (g := g) (pre := pre) hi h1 h2 h3 (by omega) hto hb
    obtain ⟨n5, s1, s2, -⟩ := id hs
    have e : i = n := by omega
    subst e
    rw [fX7_tryFrom, zlet_eq, if_neg (nI_pos (by omega)), s1, if_neg (by rw [z_lt (by omega) (by omega)]; omega), r1, zb2_some]
    rcases r2 with rfl | rfl
    · rw [if_pos rfl, r3 rfl]
      exact ⟨M, rfl, zpost_r i M, hb⟩
    · have hbet := r4 rfl rfl
      rw [if_neg (by decide), s1, if_pos rfl, fa_and, p_bc (z_and6 h3), zb2_some, zlet_eq, zlet_eq]
      have hz : zdfs (zoff H m S i 0) i one two sk g pre b = some (zpc (two &&& sk), g, pre) := by rw [zoff, zdfs, if_pos hbet]
      rw [hz]
      have hsz : (zpI (zpI M 36 11 (nI (zpc (two &&& sk)))) 36 12 (nI g)).1 36 10 = nI i := by
        simp only [zpI_1]
        rw [if_neg (by omega), if_neg (by omega), s1]
      unfold zcpI
      rw [hsz, if_pos (by
        refine ⟨by decide, by decide, nI_pos (by omega), ?_, ?_⟩
        · rw [z_cl (by omega)]; show 0 + i ≤ 5; omega
        · rw [z_cl (by omega)]; show 0 + i ≤ 5; omega), zbd_some]
      refine ⟨_, rfl, ⟨rfl, ?_, ?_, ?_⟩, ?_⟩
      · intro a a1 a2 a3
        simp only [if_neg a3]
        rw [zpI_r _ _ a1, zpI_r _ _ a1]
      · intro j j1 j2
        show (zpI (zpI M 36 11 (nI (zpc (two &&& sk)))) 36 12 (nI g)).1 36 j = M.1 36 j
        simp only [zpI_1]
        rw [if_neg (by omega), if_neg (by omega)]
      · intro j hj
        show (zpI (zpI M 36 11 (nI (zpc (two &&& sk)))) 36 12 (nI g)).1 45 j = M.1 45 j
        simp only [zpI_1]
        rw [if_neg (by omega), if_neg (by omega)]
      · have c6 := zpc_6 (two &&& sk)
        refine ⟨by show zpc (two &&& sk) ≤ 6; omega, by show g ≤ 1000; omega, ?_, ?_, ?_⟩
        · simp [zpI_1]
        · simp [zpI_1]
        · intro j hj
          have hcp := sb_cpy0 (f := (zpI (zpI M 36 11 (nI (zpc (two &&& sk)))) 36 12 (nI g)).1 45) (g := (zpI (zpI M 36 11 (nI (zpc (two &&& sk)))) 36 12 (nI g)).1 46) hj
          simp only [if_true, z_cl (show i < 2147483648 by omega)]
          refine Eq.trans hcp ?_
          exact hp j hj
  | d + 1, i, f + 1, hi, hf => by
    intro one two sk g pre b M h1 h2 h3 hg hto hs hb hp
    obtain ⟨r, r1, r2, r3, -⟩ := p_can hs (d := d + 1) (g := g) (pre := pre) hi h1 h2 h3 (by omega) hto hb
    obtain ⟨n5, s1, s2, -⟩ := id hs
    rw [fX7_tryFrom, zlet_eq, if_neg (nI_pos (by omega)), s1, if_neg (by rw [z_lt (by omega) (by omega)]; omega), r1, zb2_some]
    rcases r2 with rfl | rfl
    · rw [if_pos rfl, r3 rfl]
      exact ⟨M, rfl, zpost_r i M, hb⟩
    · rw [if_neg (by decide), s1, if_neg (by rw [z_eq (by omega) (by omega)]; omega), show (0 : Int32) = nI 0 from rfl, z_stI (by omega) (by omega), zbd_some]
      have hrc : zrc H m S n d (i + 1) (fX7_tryFrom N f) := p_try hN d (i + 1) f (by omega) (by omega)
      obtain ⟨W1, w1, w2, w3⟩ := hrc one two sk g (fun j => if j = i then 0 else pre j) b (zpI M 45 i (nI 0)) h1 h2 h3 (by omega) hto (zsC_post hs (z_post45 (i := i))) (z_best45 hb) (z_pre1 hp)
      have p1 : zpost i M W1 := zpost_t (z_post45 (i := i) (c := 0)) (zpost_w w2 (by omega))
      obtain ⟨W2, v1, v2, v3⟩ := p_L93 (d := d) (i := i) (by omega) hrc (pre := pre) h1 h2 h3 hg hto hN 6 0 N _ W1 (by omega) (by omega) (zsC_post hs p1) w3 (fun j hj => by rw [p1.2.2.2 j hj]; exact hp j hj)
      refine ⟨W2, ?_, zpost_t p1 v2, ?_⟩
      · rw [nI_1, w1, zbd_some, v1]
      · rw [zdfs_fold, zch, List.foldl_cons]
        have e0 : zfold H m S d i one two sk g pre b 0 = zdfs (zoff H m S (i + 1) d) (i + 1) one two sk g (fun j => if j = i then 0 else pre j) b := by
          unfold zfold
          have z0 : zpc 0 = 0 := by decide
          rw [Nat.or_zero, Nat.and_zero, Nat.or_zero, Nat.or_zero, z0, Nat.add_zero]
          split <;> rfl
        rw [e0]
        exact v3
