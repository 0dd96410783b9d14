/-! SHIFTS, the reference: all lists; who is trained -/
def zat (N no : Nat) (M W : zMem) (a : Nat → Nat) : Prop := zag 108 111 M W ∧ (∀ o, o < no → zli W o (zch (zHo N M o) (zmo M o))) ∧ ∀ o, o < no → W.1 110 o = nI (a o)
theorem z_one2 : ∀ o, o < 5 → (1 : Int32) <<< (nI o &&& 31) = nI (2 ^ o) := by decide +kernel
theorem z_trbit {T o j : Nat} : (T ||| 2 ^ o).testBit j = (T.testBit j || decide (j = o)) := by
  rw [Nat.testBit_or, Nat.testBit_two_pow]
  by_cases e : o = j
  · simp [e]
  · have : ¬ j = o := fun q => e q.symm
    simp [e, this]
theorem m_has0 {tl nv ns c no nc nst nn r0 lv nr : Nat} {M W : zMem} (hM : gAll tl nv ns c no nc nst nn r0 lv nr M) (h : zag 108 111 M W) {v : Nat} (hv : v < nv) (hs : 0 < ns) {N : Nat} (hN : 400 < N) : fX12_hasStep N (nI v) 0 (nI c) W = some (if zhas0 ns M v c = true then 1 else 0, W) := by
  obtain ⟨-, -, hT, hL, -, hK, -⟩ := gAll_108 hM h
  have := m_hasStep hT hL hv hs hK.1 (N := N) (by omega)
  rw [show nI 0 = (0 : Int32) from rfl] at this
  rw [this]
  unfold zhas0
  rw [zhas_c (h.2 25 (by omega)) (by rw [h.1])]
  simp [hs]
theorem m_shL40 {tl nv ns c no nc nst nn r0 lv nr : Nat} {M : zMem} (hM : gAll tl nv ns c no nc nst nn r0 lv nr M) {N : Nat} (hN : 400 < N) : ∀ d o f T (W : zMem), o + d = no → d < f → zag 108 111 M W → (∀ j, j < o → zli W j (zch (zHo N M j) (zmo M j)) ∧ W.1 110 j = 0) → T < 2 ^ o → (∀ j, j < o → T.testBit j = zso ns c M j) →
    ∃ X T', fX12_shifts_L40 N f (nI no) (nI T) (nI o) W = fX12_shifts_L117 N N (nI no) (nI T') (-1) 0 1 X ∧ zat N no M X (fun _ => 0) ∧ T' < 32 ∧ ∀ j, j < no → T'.testBit j = zso ns c M j
  | 0, o, f + 1, T, W, ho, hf, hz, hl, hT, hb => by
    have hO := hM.2.2.2.2.2.2.2.2.1
    have o0 := hO.1
    have e : o = no := by omega
    subst e
    refine ⟨W, T, ?_, ⟨hz, fun j hj => (hl j hj).1, fun j hj => (hl j hj).2⟩, ?_, hb⟩
    · rw [fX12_shifts_L40, if_pos (by rw [z_le (by omega) (by omega)]; omega)]
    · have : (2 : Nat) ^ o ≤ 2 ^ 5 := Nat.pow_le_pow_right (by decide) o0
      omega
  | d + 1, o, f + 1, T, W, ho, hf, hz, hl, hT, hb => by
    have hW := gAll_108 hM hz
    obtain ⟨-, -, hTm, -, -, hK, -, -, hO, -⟩ := id hM
    have o0 := hO.1
    have t0 := hTm.1
    obtain ⟨c0, c1, c2⟩ := hK
    obtain ⟨a1, a2, a3, ⟨v, v1, v2⟩, -⟩ := hO.2.2.2.2.1 o (by omega)
    obtain ⟨X, x1, x2, x3⟩ := m_lists hM hz (o := o) (by omega) hN
    have hzX : zag 108 111 M X := ⟨by rw [x2.1, hz.1], fun a ha => by rw [x2.2.1 a (by omega) (by omega), hz.2 a ha]⟩
    have hzY : zag 108 111 M (zpI X 110 o 0) := zag_p hzX (by omega) (by omega)
    have hlY : ∀ j, j < o + 1 → zli (zpI X 110 o 0) j (zch (zHo N M j) (zmo M j)) ∧ (zpI X 110 o 0).1 110 j = 0 := by
      intro j hj
      by_cases e : j = o
      · subst e
        exact ⟨x3, by rw [zpI_1, if_pos ⟨rfl, rfl⟩]⟩
      · obtain ⟨y1, y2⟩ := hl j (by omega)
        have hlen := zch_len (h := zHo N M j) (m := zmo M j) (by
          obtain ⟨-, -, -, -, -, m, m1, m2, m3⟩ := hO.2.2.2.2.1 j (by omega)
          unfold zmo; rw [m3, z_cl (by omega)]; exact m2)
        refine ⟨⟨?_, fun k hk => ?_⟩, ?_⟩
        · show X.1 108 j = _
          rw [x2.2.2.1 j e]; exact y1.1
        · show X.1 109 (20 * j + k) = _
          rw [x2.2.2.2 _ (by omega)]; exact y1.2 k hk
        · rw [zpI_1, if_neg (fun q => e q.2), x2.2.1 110 (by omega) (by omega)]; exact y2
    have eso : zso ns c M o = zhas0 ns M v c := by unfold zso; rw [v2, z_cl (by omega)]
    have e44 : W.1 69 44 = nI c := by rw [hz.2 69 (by omega)]; exact c2
    have e44Y : (zpI X 110 o 0).1 69 44 = nI c := by
      show X.1 69 44 = nI c
      rw [hzX.2 69 (by omega)]; exact c2
    have e39Y : (zpI X 110 o 0).1 69 39 = nI ns := by
      show X.1 69 39 = nI ns
      rw [hzX.2 69 (by omega)]; exact hTm.2.2.2.2.2.1
    have hs8 := hTm.2.2.2.1
    have next : ∀ T2, T2 < 2 ^ (o + 1) → (∀ j, j < o + 1 → T2.testBit j = zso ns c M j) → ∃ Y T', fX12_shifts_L103 N (fX12_shifts_L40 N f) (nI no) (nI T2) (nI o) (zpI X 110 o 0) = fX12_shifts_L117 N N (nI no) (nI T') (-1) 0 1 Y ∧ zat N no M Y (fun _ => 0) ∧ T' < 32 ∧ ∀ j, j < no → T'.testBit j = zso ns c M j := by
      intro T2 h1 h2
      unfold fX12_shifts_L103
      rw [zlet_eq, nI_1]
      exact m_shL40 hM hN d (o + 1) f T2 _ (by omega) (by omega) hzY hlY h1 h2
    have hp2 : (2 : Nat) ^ (o + 1) = 2 * 2 ^ o := by rw [Nat.pow_succ]; omega
    have keep : zso ns c M o = false → ∀ j, j < o + 1 → T.testBit j = zso ns c M j := by
      intro q j hj
      by_cases e : j = o
      · subst e; rw [q]; exact Nat.testBit_lt_two_pow hT
      · exact hb j (by omega)
    rw [fX12_shifts_L40, if_neg (by rw [z_le (by omega) (by omega)]; omega), e44, show (5 : Int32) = nI 5 from rfl, z_mul, z_add, x1, zbd_some, z_stI (by omega) (by omega), zbd_some, e39Y]
    by_cases q0 : 0 < ns
    · rw [if_neg (by rw [show (0 : Int32) = nI 0 from rfl, z_le (by omega) (by omega)]; omega), e44Y, z_mul, z_add, z_ldI (by omega) (by omega), zbd_some, show (zpI X 110 o 0).1 103 (5 * c + o) = nI v from (by show X.1 103 (5 * c + o) = nI v; rw [hzX.2 103 (by omega), ← a1]; exact v2), m_has0 hM hzY v1 q0 hN, zb2_some]
      by_cases w : zhas0 ns M v c = true
      · rw [if_pos w, if_neg (by decide), zlet_eq, z_one2 o (by omega), fa_or]
        refine next (T ||| 2 ^ o) ?_ ?_
        · exact Nat.or_lt_two_pow (by omega) (by omega)
        · intro j hj
          rw [z_trbit]
          by_cases e : j = o
          · subst e; rw [eso, w]; simp
          · rw [hb j (by omega)]; simp [e]
      · rw [if_neg w, if_pos rfl]
        exact next T (by omega) (keep (by rw [eso]; simpa using w))
    · rw [if_pos (by rw [show (0 : Int32) = nI 0 from rfl, z_le (by omega) (by omega)]; omega)]
      refine next T (by omega) (keep ?_)
      rw [eso]
      unfold zhas0
      simp [q0]
