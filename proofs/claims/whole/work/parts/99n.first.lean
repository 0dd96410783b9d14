/-! THE FIRST MEMORY -/
def zM0 : zMem := (fun a j => if a = 28 then (if j < 160 then -1 else 0) else if a = 19 then (if j = 8 ∨ j = 9 then -1 else 0) else if a = 36 then (if j = 11 then -1 else 0) else if a = 69 then (if j = 17 then -1 else 0) else 0, fun a j => if a = 76 then (if j < 12 then lN (zkey j) else 0) else 0, fun a j => if a = 0 ∧ j = 2 then 3 else if a = 0 ∧ j = 3 then 11 else if a = 19 ∧ j = 10 then 11 else if a = 57 ∧ j = 10 then 3 else 0)
theorem zM0_0 {a : Nat} (h1 : a ≠ 28) (h2 : a ≠ 19) (h3 : a ≠ 36) (h4 : a ≠ 69) (j : Nat) : zM0.1 a j = nI 0 := by
  show (if a = 28 then _ else if a = 19 then _ else if a = 36 then _ else if a = 69 then _ else (0 : Int32)) = nI 0
  rw [if_neg h1, if_neg h2, if_neg h3, if_neg h4]; rfl
theorem zM0_69 {j : Nat} (h : j ≠ 17) : zM0.1 69 j = nI 0 := by
  show (if j = 17 then (-1 : Int32) else 0) = nI 0
  rw [if_neg h]; rfl
theorem zM0_J {a : Nat} (h : a ≠ 76) (j : Nat) : zM0.2.1 a j = 0 := by
  show (if a = 76 then _ else (0 : Int64)) = 0
  rw [if_neg h]
theorem zcnt_0 {p : Nat → Bool} (h : ∀ n, p n = false) : ∀ n, zcnt p n = 0
  | 0 => rfl
  | n + 1 => by rw [zcnt, zcnt_0 h n, h n]; rfl
theorem zInv_0 : zInv zM0 := by
  refine ⟨0, 0, 0, 0, 0, 0, 0, 0, 3, 0, 0, ?_, ?_, ?_, ?_, ?_, ?_, ?_, ?_, ?_, ?_, ?_, ?_, ?_, ?_, ?_, ?_⟩
  · exact ⟨by omega, rfl, rfl, fun k hk => absurd hk (Nat.not_lt_zero k)⟩
  · rfl
  · exact ⟨by omega, rfl, rfl, by omega, rfl, rfl, fun k hk => absurd hk (Nat.not_lt_zero k), fun k hk => absurd hk (Nat.not_lt_zero k)⟩
  · intro v s n hv hs hn
    have e : zM0.1 95 (200 * (8 * v + s) + n) = 0 := zM0_0 (by omega) (by omega) (by omega) (by omega) _
    refine ⟨Or.inl e, fun _ => ⟨e, ?_⟩, fun z => absurd z (Nat.not_lt_zero v)⟩
    rw [zM0_J (by omega)]
    simp
  · intro k hk
    have e1 : zM0.1 28 k = -1 := by
      show (if k < 160 then (-1 : Int32) else 0) = -1
      rw [if_pos hk]
    have e2 : zM0.1 96 k = nI 0 := zM0_0 (by omega) (by omega) (by omega) (by omega) _
    rw [e1, e2]
    exact ⟨by decide, Or.inl rfl⟩
  · exact ⟨by omega, rfl, rfl⟩
  · intro n hn
    exact ⟨0, 0, 0, by omega, by omega, by omega, zM0_0 (by omega) (by omega) (by omega) (by omega) _, zM0_0 (by omega) (by omega) (by omega) (by omega) _, zM0_0 (by omega) (by omega) (by omega) (by omega) _, zM0_0 (by omega) (by omega) (by omega) (by omega) _⟩
  · show zM0.1 69 71 = nI (zcnt (fun n => zM0.1 100 n == 1) 200)
    rw [zcnt_0 (fun n => by rw [zM0_0 (by omega) (by omega) (by omega) (by omega)]; rfl)]
    rfl
  · exact ⟨by omega, zM0_0 (by omega) (by omega) (by omega) (by omega) _, zM0_0 (by omega) (by omega) (by omega) (by omega) _, fun n _ _ => zM0_0 (by omega) (by omega) (by omega) (by omega) _, fun k hk => absurd hk (Nat.not_lt_zero k), fun k j hk => absurd hk (Nat.not_lt_zero k)⟩
  · intro n hn
    refine ⟨fun v hv => ⟨0, by omega, zM0_0 (by omega) (by omega) (by omega) (by omega) _, fun j hj => ?_, fun _ => rfl, fun _ => rfl⟩, fun j hj => ?_⟩
    · rw [zM0_J (by omega)]; simp
    · rw [zM0_J (by omega)]; simp
  · intro n hn h1
    rw [zM0_0 (by omega) (by omega) (by omega) (by omega)] at h1
    exact absurd h1 (by decide)
  · exact ⟨by omega, by omega, by omega, zM0_0 (by omega) (by omega) (by omega) (by omega) _, rfl, zM0_0 (by omega) (by omega) (by omega) (by omega) _, fun k hk => absurd hk (Nat.not_lt_zero k), fun k hk => absurd hk (Nat.not_lt_zero k)⟩
  · refine ⟨fun v n hv hn => ⟨Or.inl (zM0_0 (by omega) (by omega) (by omega) (by omega) _), ⟨fun z => ?_, fun z => ?_⟩, zM0_0 (by omega) (by omega) (by omega) (by omega) _⟩, fun v hv => ⟨?_, 0, by omega, zM0_0 (by omega) (by omega) (by omega) (by omega) _⟩⟩
    · rw [zM0_0 (by omega) (by omega) (by omega) (by omega)] at z
      exact absurd z (by decide)
    · obtain ⟨k, hk, -⟩ := z
      exact absurd hk (Nat.not_lt_zero k)
    · rw [zM0_0 (by omega) (by omega) (by omega) (by omega), zM0_0 (by omega) (by omega) (by omega) (by omega)]
  · exact ⟨by omega, zM0_0 (by omega) (by omega) (by omega) (by omega) _, rfl, fun k hk => absurd hk (Nat.not_lt_zero k)⟩
  · exact ⟨Or.inl rfl, rfl, rfl, by omega, rfl, by omega, rfl, rfl, 0, by omega, rfl, fun _ => (0, 0, [], []), fun r hr => absurd hr (Nat.not_lt_zero r)⟩
  · intro k hk
    show (if k < 12 then lN (zkey k) else 0) = lN (zkey k)
    rw [if_pos hk]
