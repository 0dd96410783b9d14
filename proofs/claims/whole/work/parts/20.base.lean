/-! PURE PART: numbers and memory -/
theorem z_lit (n : Nat) : (OfNat.ofNat n : Int32) = nI n := rfl
theorem z_litL (n : Nat) : (OfNat.ofNat n : Int64) = lN n := rfl
theorem z_le {a b : Nat} (ha : a < 2147483648) (hb : b < 2147483648) : (nI a ≤ nI b) = (a ≤ b) := propext (nI_leI ha hb)
theorem z_lt {a b : Nat} (ha : a < 2147483648) (hb : b < 2147483648) : (nI a < nI b) = (a < b) := propext (nI_ltI ha hb)
theorem z_eq {a b : Nat} (ha : a < 2147483648) (hb : b < 2147483648) : (nI a = nI b) = (a = b) := propext (nI_eq ha hb)
theorem z_add (a b : Nat) : nI a + nI b = nI (a + b) := nI_add a b
theorem z_mul (a b : Nat) : nI a * nI b = nI (a * b) := pk_mul a b
theorem z_sub {a b : Nat} (h : b ≤ a) : nI a - nI b = nI (a - b) := pk_sub h
theorem z_cl {a : Nat} (ha : a < 2147483648) : (nI a).toNatClampNeg = a := nI_clamp ha
theorem z_toInt {a : Nat} (ha : a < 2147483648) : (nI a).toInt = a := nI_toInt ha
theorem z_m1 {a : Nat} (ha : a < 2147483648) : (nI a = -1) = False := by
  refine eq_false (fun h => ?_)
  have h1 := congrArg Int32.toInt h
  rw [nI_toInt ha] at h1
  have h2 : (-1 : Int32).toInt = -1 := by decide
  omega
theorem z_m1' {a : Nat} (ha : a < 2147483648) : ((-1 : Int32) = nI a) = False := by
  refine eq_false (fun h => ?_)
  exact (z_m1 ha).mp h.symm
theorem z_zin {a n : Nat} (ha : a < 2147483648) : zin (nI a) n = decide (a < n) := by
  unfold zin
  rw [z_cl ha]
  have h : ¬ nI a < 0 := nI_pos ha
  simp [h]
theorem z_ldI {M : zMem} {a n i : Nat} (h : i < n) (hn : n < 2147483648) : zldI M a n (nI i) = some (M.1 a i) := by
  unfold zldI
  rw [z_zin (by omega), z_cl (by omega)]
  simp [h]
theorem z_ldJ {M : zMem} {a n i : Nat} (h : i < n) (hn : n < 2147483648) : zldJ M a n (nI i) = some (M.2.1 a i) := by
  unfold zldJ
  rw [z_zin (by omega), z_cl (by omega)]
  simp [h]
theorem z_stI {M : zMem} {a n i : Nat} {x : Int32} (h : i < n) (hn : n < 2147483648) : zstI M a n (nI i) x = some (zpI M a i x) := by
  unfold zstI
  rw [z_zin (by omega), z_cl (by omega)]
  simp [h]
theorem z_stJ {M : zMem} {a n i : Nat} {x : Int64} (h : i < n) (hn : n < 2147483648) : zstJ M a n (nI i) x = some (zpJ M a i x) := by
  unfold zstJ
  rw [z_zin (by omega), z_cl (by omega)]
  simp [h]
theorem z_stB {M : zMem} {a n i : Nat} {x : Int32} (h : i < n) (hn : n < 2147483648) : zstB M a n (nI i) x = some (zpI M a i (x.toInt8.toInt32)) := by
  unfold zstB
  rw [z_zin (by omega), z_cl (by omega), vp_nar_byte]
  simp [h]
theorem z_stZ {M : zMem} {a n i : Nat} {x : Int32} (h : i < n) (hn : n < 2147483648) (hx : x = 0 ∨ x = 1) : zstZ M a n (nI i) x = some (zpI M a i x) := by
  have e : vp_nar .boolean x = x := by rcases hx with rfl | rfl <;> rfl
  unfold zstZ
  rw [z_zin (by omega), z_cl (by omega), e]
  simp [h]
-- reading what was written
theorem zpI_1 (M : zMem) (a k : Nat) (v : Int32) (b j : Nat) : (zpI M a k v).1 b j = if b = a ∧ j = k then v else M.1 b j := rfl
theorem zpI_r {M : zMem} {a b : Nat} (k : Nat) (v : Int32) (h : b ≠ a) : (zpI M a k v).1 b = M.1 b := zu_off _ _ _ h
theorem zpI_s (M : zMem) (a k : Nat) (v : Int32) : (zpI M a k v).1 a = fun j => if j = k then v else M.1 a j := zu_row _ _ _ _
theorem zpI_2 (M : zMem) (a k : Nat) (v : Int32) : (zpI M a k v).2 = M.2 := rfl
theorem zpJ_1 (M : zMem) (a k : Nat) (v : Int64) : (zpJ M a k v).1 = M.1 := rfl
theorem zpJ_2r {M : zMem} {a b : Nat} (k : Nat) (v : Int64) (h : b ≠ a) : (zpJ M a k v).2.1 b = M.2.1 b := zu_off _ _ _ h
theorem zpJ_2s (M : zMem) (a k : Nat) (v : Int64) : (zpJ M a k v).2.1 a = fun j => if j = k then v else M.2.1 a j := zu_row _ _ _ _
theorem zpJ_3 (M : zMem) (a k : Nat) (v : Int64) : (zpJ M a k v).2.2 = M.2.2 := rfl
theorem zpR_1 (M : zMem) (a k r : Nat) : (zpR M a k r).1 = M.1 := rfl
theorem zpR_2 (M : zMem) (a k r : Nat) : (zpR M a k r).2.1 = M.2.1 := rfl
theorem zpR_3 (M : zMem) (a k r b j : Nat) : (zpR M a k r).2.2 b j = if b = a ∧ j = k then r else M.2.2 b j := rfl
theorem zb2_some {α β : Type} (v : α) (M : zMem) (f : α → zMem → Option β) : zb2 (some (v, M)) f = f v M := rfl
theorem zbd_some {α β : Type} (v : α) (f : α → Option β) : (some v).bind f = f v := rfl
theorem zlet_eq {α β : Type} (x : α) (f : α → Option β) : zlet x f = f x := rfl
theorem zgb_b {α : Type} {v : Int32} {x : Option α} (h : v = 0 ∨ v = 1) : zgb v x = x := by simp [zgb, h]
theorem z01 : (nI 0 = 0) = True := eq_true rfl
theorem z10 : ((1 : Int32) = 0) = False := eq_false (by decide)
theorem z_ix (x : Int32) {n : Nat} (hn : n < 2147483648) : x < 0 ∨ (¬ x < 0 ∧ nI n ≤ x) ∨ ∃ j : Nat, j < n ∧ x = nI j := by
  rcases pk_ix x hn with h | h | h
  · exact Or.inl h
  · by_cases h0 : x < 0
    · exact Or.inl h0
    · exact Or.inr (Or.inl ⟨h0, h⟩)
  · exact Or.inr (Or.inr h)
/-- every int is an index or none -/
theorem z_any (x : Int32) : x < 0 ∨ ∃ j : Nat, j < 2147483648 ∧ x = nI j := by
  by_cases h : x < 0
  · exact Or.inl h
  · exact Or.inr (nI_of h)
theorem z_neg {x : Int32} (h : x < 0) {a : Nat} (ha : a < 2147483648) : (nI a ≤ x) = False := by
  refine eq_false (fun q => ?_)
  have h1 := Int32.lt_iff_toInt_lt.mp h
  have h2 := Int32.le_iff_toInt_le.mp q
  rw [nI_toInt ha] at h2
  have h3 : (0 : Int32).toInt = 0 := by decide
  omega
theorem z_negl {x : Int32} (h : x < 0) {a : Nat} (ha : a < 2147483648) : (x < nI a) = True := by
  refine eq_true ?_
  have h1 := Int32.lt_iff_toInt_lt.mp h
  refine Int32.lt_iff_toInt_lt.mpr ?_
  rw [nI_toInt ha]
  have h3 : (0 : Int32).toInt = 0 := by decide
  omega
-- simple tests
theorem p_isNight (x : Int32) (M : zMem) : fX11_isNight x M = some (if 0 ≤ x ∧ x < 200 then 1 else 0, M) := by
  unfold fX11_isNight
  by_cases h1 : x < 0
  · have : ¬ (0 ≤ x) := fun h => absurd h (Int32.not_le.mpr h1)
    simp [h1, this]
  · by_cases h2 : (200 : Int32) ≤ x
    · have : ¬ x < 200 := Int32.not_lt.mpr h2
      simp [h1, h2, this]
    · have : x < 200 := Int32.not_le.mp h2
      have h3 : 0 ≤ x := Int32.not_lt.mp h1
      simp [h1, h2, this, h3]
theorem p_isNightN {n : Nat} (hn : n < 2147483648) (M : zMem) : fX11_isNight (nI n) M = some (if n < 200 then 1 else 0, M) := by
  unfold fX11_isNight
  have h0 : ¬ nI n < 0 := nI_pos hn
  simp (disch := omega) only [z_lit, z_le, z_lt, h0, if_false]
  by_cases h : 200 ≤ n
  · have : ¬ n < 200 := by omega
    simp [h, this]
  · have : n < 200 := by omega
    simp [h, this]
