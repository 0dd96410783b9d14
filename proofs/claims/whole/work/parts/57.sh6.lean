/-! SHIFTS, the class: the hours found go into the calendar -/
theorem z_orshl (w : Int64) {x v : Nat} (hx : x < 64) (hv : v < 8) (k : Nat) (hk : k < 64) : (w ||| ((nI x).toInt64 <<< ((nI (v * 6)).toInt64 &&& 63))).toBitVec.getLsbD k = (w.toBitVec.getLsbD k || (decide (6 * v ≤ k ∧ k < 6 * v + 6) && x.testBit (k - 6 * v))) := by
  have e : (nI x).toInt64 = lN x := by
    have : ∀ x, x < 64 → (nI x).toInt64 = lN x := by decide +kernel
    exact this x hx
  rw [e, wb_shl x (by omega), Int64.toBitVec_or, BitVec.getLsbD_or, wb_tb, BitVec.getLsbD_ofNat]
  congr 1
  rw [Nat.testBit_mul_two_pow]
  have e6 : v * 6 = 6 * v := by omega
  rw [e6]
  by_cases q : 6 * v ≤ k
  · by_cases q2 : k < 6 * v + 6
    · simp [hk, q, q2]
    · have : x.testBit (k - 6 * v) = false := by
        have : 2 ^ 6 ≤ 2 ^ (k - 6 * v) := Nat.pow_le_pow_right (by decide) (by omega)
        exact Nat.testBit_lt_two_pow (by omega)
      simp [q2, this]
  · simp [q]
def zpb (J0 : Int64) (v w : Nat → Nat) : Nat → Nat → Bool
  | 0, k => J0.toBitVec.getLsbD k
  | i + 1, k => zpb J0 v w i k || (decide (6 * v i ≤ k ∧ k < 6 * v i + 6) && (w i).testBit (k - 6 * v i))
theorem p_shL125 {no c : Nat} {I : Nat → Nat → Int32} {R : Nat → Nat → Nat} {J0 : Nat → Nat → Int64} {v w : Nat → Nat} {r : Int32} (hc : c < 200) (h0 : no ≤ 5) (i1 : I 32 3 = nI no) (i2 : I 36 10 = nI no) (i3 : I 0 11 = nI c) (i4 : ∀ k, k < no → v k < 8 ∧ w k < 64 ∧ I 33 k = nI (v k) ∧ I 46 k = nI (w k)) {N : Nat} : ∀ d i f (J : Nat → Nat → Int64), i + d = no → d < f → (∀ a, a ≠ 31 → J a = J0 a) → (∀ t, t ≠ c → J 31 t = J0 31 t) → (∀ k, k < 64 → (J 31 c).toBitVec.getLsbD k = zpb (J0 31 c) v w i k) →
    ∃ K, fX11_shifts_L125 N f r (nI i) (I, J, R) = some (r, zpI (I, K, R) 30 c (I 30 c ||| 2)) ∧ (∀ a, a ≠ 31 → K a = J0 a) ∧ (∀ t, t ≠ c → K 31 t = J0 31 t) ∧ ∀ k, k < 64 → (K 31 c).toBitVec.getLsbD k = zpb (J0 31 c) v w no k
  | 0, i, f + 1, J, hi, hf, j1, j2, j3 => by
    have e : i = no := by omega
    subst e
    refine ⟨J, ?_, j1, j2, j3⟩
    rw [fX11_shifts_L125]
    unfold fX4_size fX0_setFound fX0_mark
    rw [zb2_some, show ((I, J, R) : zMem).1 32 3 = nI i from i1, if_pos (by rw [z_le (by omega) (by omega)]; omega), show ((I, J, R) : zMem).1 0 11 = nI c from i3, p_isNightN (by omega), zb2_some, if_pos hc, if_neg (by decide), z_ldI hc (by omega), zbd_some, z_stI hc (by omega)]
    rfl
  | d + 1, i, f + 1, J, hi, hf, j1, j2, j3 => by
    obtain ⟨k1, k2, k3, k4⟩ := i4 i (by omega)
    obtain ⟨K, q1, q2, q3, q4⟩ := p_shL125 (I := I) (R := R) (J0 := J0) (r := r) hc h0 i1 i2 i3 i4 (N := N) d (i + 1) f (zu J 31 c (J 31 c ||| ((nI (w i)).toInt64 <<< ((nI (v i * 6)).toInt64 &&& 63)))) (by omega) (by omega) (fun a ha => by rw [zu_off _ _ _ ha]; exact j1 a ha) (fun t ht => by show (if 31 = 31 ∧ t = c then _ else J 31 t) = _; rw [if_neg (fun q => ht q.2)]; exact j2 t ht) (fun k hk => by
      show (if 31 = 31 ∧ c = c then (J 31 c ||| ((nI (w i)).toInt64 <<< ((nI (v i * 6)).toInt64 &&& 63))) else J 31 c).toBitVec.getLsbD k = _
      rw [if_pos ⟨rfl, rfl⟩, z_orshl _ k2 k1 k hk, j3 k hk]
      rfl)
    refine ⟨K, ?_, q2, q3, q4⟩
    have z0 : ¬ nI i < (0 : Int32) := nI_pos (by omega)
    have z1 : ¬ nI no ≤ nI i := by rw [z_le (by omega) (by omega)]; omega
    have g1 : fX4_volunteerOf (nI i) (I, J, R) = some (nI (v i), (I, J, R)) := by unfold fX4_volunteerOf; rw [if_neg z0, show ((I, J, R) : zMem).1 32 3 = nI no from i1, if_neg z1, z_ldI (by omega) (by omega), zbd_some]; exact congrArg (fun z => some (z, ((I, J, R) : zMem))) k3
    have g2 : fX7_shiftOf (nI i) (I, J, R) = some (nI (w i), (I, J, R)) := by unfold fX7_shiftOf; rw [if_neg z0, show ((I, J, R) : zMem).1 36 10 = nI no from i2, if_neg z1, z_ldI (by omega) (by omega), zbd_some]; exact congrArg (fun z => some (z, ((I, J, R) : zMem))) k4
    have g3 : fX0_setHours (nI (v i)) (nI c) (nI (w i)) (I, J, R) = some (I, zu J 31 c (J 31 c ||| ((nI (w i)).toInt64 <<< ((nI (v i * 6)).toInt64 &&& 63))), R) := by
      unfold fX0_setHours
      rw [p_isNightN (by omega), zb2_some, if_pos hc, if_neg (by decide), if_neg (nI_pos (by omega)), show (8 : Int32) = nI 8 from rfl, if_neg (by rw [z_le (by omega) (by omega)]; omega), z_ldJ hc (by omega), zbd_some, z_stJ hc (by omega), show (6 : Int32) = nI 6 from rfl, z_mul]
      rfl
    rw [fX11_shifts_L125]
    unfold fX4_size
    rw [zb2_some, show ((I, J, R) : zMem).1 32 3 = nI no from i1, if_neg z1, g1, zb2_some, g2, zb2_some, show ((I, J, R) : zMem).1 0 11 = nI c from i3, g3, zbd_some, zlet_eq, nI_1, q1]
/-- all that the class does -/
theorem p_shifts {tl nv ns c no nc nst nn r0 lv nr : Nat} {M : zMem} (hM : gAll tl nv ns c no nc nst nn r0 lv nr M) (hf : M.1 101 c = 0) (hg : M.1 100 c = 0) {N : Nat} (hN : 400 < N) : ∃ k g w A, zdfs (zoff (zHo N M) (zmo M) (zso ns c M) 0 no) 0 0 0 0 0 (fun _ => 0) none = some (k, g, w) ∧ k ≤ 6 ∧ fX11_shifts N M = some (nI k, A) ∧ A.2.2 = M.2.2 ∧ (∀ a, a ≠ 31 → A.2.1 a = M.2.1 a) ∧ (∀ t, t ≠ c → A.2.1 31 t = M.2.1 31 t) ∧ (∀ q, q < 64 → (A.2.1 31 c).toBitVec.getLsbD q = zpb (M.2.1 31 c) (fun i => (M.1 33 i).toNatClampNeg) w no q) ∧ (∀ a, (a < 36 ∨ 46 < a) → a ≠ 30 → A.1 a = M.1 a) ∧ ∀ t, A.1 30 t = if t = c then M.1 30 c ||| 2 else M.1 30 t := by
  have hM' := hM
  obtain ⟨-, -, hT, -, -, hK, hL, -, hO, -⟩ := hM
  obtain ⟨c0, c1, c2⟩ := hK
  have o0 := hO.1
  have t0 := hT.1
  obtain ⟨X, x1, x2, x3⟩ := p_shL39 hM' hN no 0 N (zpI M 36 10 0) (by omega) (by omega) (zag_p (zag_r 36 46 M) (by omega) (by omega)) rfl (fun k hk => absurd hk (Nat.not_lt_zero k))
  obtain ⟨W, w1, w2, w3, w4, w5⟩ := p_findBest x3 (N := N) (by omega)
  obtain ⟨⟨k, g, w⟩, hb, hb2, -⟩ := zdfs_spec (H := zHo N M) (m := zmo M) (S := zso ns c M) no 0 0 0 0 0 (fun _ => 0) none
  rw [hb] at w5
  obtain ⟨b0, b00, b1, b2, b3⟩ := w5
  have hW : ∀ a, a < 36 ∨ 46 < a → W.1 a = M.1 a := fun a ha => by rw [w3 a ha, x2.2 a ha]
  have hwlt : ∀ j, j < no → w j < 64 := by
    intro j hj
    rcases hb2 with z | ⟨-, -, -, z⟩
    · cases z
    · obtain ⟨y1, y2, y3, -⟩ := x3.2.2 j hj
      exact (zch_mem y1 y3 (z j (Nat.zero_le j) (by omega))).1
  obtain ⟨K, k1, k2, k3, k4⟩ := p_shL125 (no := no) (c := c) (I := W.1) (R := W.2.2) (J0 := M.2.1) (v := fun i => (M.1 33 i).toNatClampNeg) (w := w) (r := nI k) c0 o0 (by rw [hW 32 (by omega)]; exact hO.2.1) w4 (by rw [hW 0 (by omega)]; exact c1) (fun q hq => by
    obtain ⟨a1, a2, a3, ⟨v, v1, v2⟩, -⟩ := hO.2.2.2.2.1 q hq
    refine ⟨?_, hwlt q hq, ?_, b3 q hq⟩
    · show (M.1 33 q).toNatClampNeg < 8
      rw [v2, z_cl (by omega)]; omega
    · rw [hW 33 (by omega)]
      show M.1 33 q = nI (M.1 33 q).toNatClampNeg
      rw [v2, z_cl (by omega)]) (N := N) no 0 N M.2.1 (by omega) (by omega) (fun _ _ => rfl) (fun _ _ => rfl) (fun _ _ => rfl)
  refine ⟨k, g, w, zpI (W.1, K, W.2.2) 30 c (W.1 30 c ||| 2), hb, b0, ?_, ?_, k2, k3, k4, ?_, ?_⟩
  · unfold fX11_shifts fX7_clear
    rw [c1, p_isFound hL c0, zb2_some, hf, if_pos rfl, c1, p_isGone hL c0, zb2_some, hg, if_pos rfl, zlet_eq, zbd_some]
    rw [show (0 : Int32) = nI 0 from rfl] at x1 ⊢
    rw [x1, w1, zb2_some, b1]
    have hW2 : W = (W.1, M.2.1, W.2.2) := by
      refine Prod.ext rfl (Prod.ext ?_ rfl)
      show W.2.1 = M.2.1
      rw [w2, x2.1]
    rw [hW2]
    exact k1
  · show W.2.2 = M.2.2
    rw [w2, x2.1]
  · intro a ha h30
    rw [zpI_r _ _ h30]
    exact hW a ha
  · intro t
    rw [zpI_1]
    show (if 30 = 30 ∧ t = c then (W.1 30 c ||| 2) else W.1 30 t) = _
    rw [hW 30 (by omega)]
    by_cases q : t = c
    · rw [if_pos ⟨rfl, q⟩, if_pos q]
    · rw [if_neg (fun z => q z.2), if_neg q]
