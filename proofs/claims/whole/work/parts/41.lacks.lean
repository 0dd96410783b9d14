/-! lacks -/
theorem z_mask6 (a : Nat) (ha : a < 64) : (63 : Int32) &&& (nI a ^^^ (-1 : Int32)) = nI (63 - a) := by
  have : ∀ a, a < 64 → (63 : Int32) &&& (nI a ^^^ (-1 : Int32)) = nI (63 - a) := by decide
  exact this a ha
theorem zthere_mono (M : zMem) (n j : Nat) : ∀ v w, v ≤ w → zthere M n j v ≤ zthere M n j w := by
  intro v w h
  induction w with
  | zero => rw [Nat.le_zero.mp h]; exact Nat.le_refl _
  | succ w ih =>
    rcases Nat.lt_or_ge v (w + 1) with q | q
    · have := ih (by omega)
      rw [zthere]; omega
    · rw [show v = w + 1 by omega]; exact Nat.le_refl _
/-- the loop of the class: one, two, skilled of the first i volunteers -/
def zsk (ns : Nat) (M : zMem) (n j : Nat) : Nat → Bool
  | 0 => false
  | v + 1 => zsk ns M n j v || ((M.1 106 (8 * n + v)).toNatClampNeg.testBit j && zhas0 ns M v n)
theorem zsk_ex {ns : Nat} {M : zMem} {n j v w : Nat} (h : v < w) (h1 : (M.1 106 (8 * n + v)).toNatClampNeg.testBit j = true) (h2 : zhas0 ns M v n = true) : zsk ns M n j w = true := by
  induction w with
  | zero => omega
  | succ w ih =>
    rw [zsk]
    by_cases e : v = w
    · subst e; simp [h1, h2]
    · rw [ih (by omega)]; rfl
theorem p_has0 {M : zMem} {nv ns : Nat} (hT : gTeam nv ns M) {v n : Nat} (hv : v < nv) (hn : n < 200) {N : Nat} (hN : 10 < N) : fX9_hasStep N (nI v) (nI 0) (nI n) M = some (if zhas0 ns M v n = true then 1 else 0, M) := by
  unfold zhas0
  by_cases q : 0 < ns
  · rw [p_hasStep hT hv q hn hN]
    simp [q]
  · have h0 : ns = 0 := by omega
    subst h0
    have hz : zin (nI 0) 0 = false := by decide
    rw [p_hasStep_o hT hz]
    simp
theorem p_keptL {nv ns : Nat} {M : zMem} (hT : gTeam nv ns M) (hP : gPres nv M) {n : Nat} (hn : n < 200) {N : Nat} (hN : 10 < N) : ∀ d i f a b s, i + d = nv → d < f → a < 64 → b < 64 → s < 64 → (∀ j, j < 6 → a.testBit j = decide (1 ≤ zthere M n j i)) → (∀ j, j < 6 → b.testBit j = decide (2 ≤ zthere M n j i)) → (∀ j, j < 6 → s.testBit j = zsk ns M n j i) →
    ∃ b' s', b' < 64 ∧ s' < 64 ∧ fX11_keptHours_L10 N f (nI n) (nI a) (nI b) (nI s) (nI i) M = some (nI (b' &&& s'), M) ∧ (∀ j, j < 6 → b'.testBit j = decide (2 ≤ zthere M n j nv)) ∧ ∀ j, j < 6 → s'.testBit j = zsk ns M n j nv
  | 0, i, f + 1, a, b, s, h, _, a1, b1, s1, ha, hb, hs => by
    have t0 := hT.1
    have t1 := hT.2.1
    have e : i = nv := by omega
    subst e
    refine ⟨b, s, b1, s1, ?_, hb, hs⟩
    rw [fX11_keptHours_L10]
    unfold fX9_size
    rw [zb2_some, t1, if_pos (by rw [z_le (by omega) (by omega)]; omega), fa_and]
  | d + 1, i, f + 1, a, b, s, h, hf, a1, b1, s1, ha, hb, hs => by
    have t0 := hT.1
    have t1 := hT.2.1
    obtain ⟨q, q1, q2, q3, -⟩ := (hP n hn).1 i (by omega)
    have hcl : (M.1 106 (8 * n + i)).toNatClampNeg = q := by rw [q2, z_cl (by omega)]
    have l6 : ∀ x y : Nat, x < 64 → y < 64 → x ||| y < 64 := fun x y hx hy => Nat.or_lt_two_pow (n := 6) hx hy
    have l6a : ∀ x y : Nat, y < 64 → x &&& y < 64 := fun x y hy => Nat.and_lt_two_pow (n := 6) x hy
    have key := p_keptL hT hP hn hN d (i + 1) f (a ||| q) (b ||| (a &&& q)) (s ||| (if zhas0 ns M i n = true then q else 0)) (by omega) (by omega) (l6 _ _ a1 q1) (l6 _ _ b1 (l6a _ _ q1)) (l6 _ _ s1 (by split <;> omega)) (by
      intro j hj
      rw [Nat.testBit_or, ha j hj, zthere, hcl]
      cases q.testBit j
      · simp
      · simp) (by
      intro j hj
      rw [Nat.testBit_or, Nat.testBit_and, ha j hj, hb j hj, zthere, hcl]
      cases q.testBit j
      · simp
      · by_cases w : 1 ≤ zthere M n j i
        · have : 2 ≤ zthere M n j i + 1 := by omega
          simp [w, this]
        · have g1 : ¬ 2 ≤ zthere M n j i := by omega
          have g2 : ¬ 2 ≤ zthere M n j i + 1 := by omega
          simp [w, g1, g2]) (by
      intro j hj
      rw [Nat.testBit_or, hs j hj, zsk, hcl]
      by_cases w : zhas0 ns M i n = true
      · simp [w]
      · simp [w])
    obtain ⟨b', s', k1, k2, k3, k4, k5⟩ := key
    refine ⟨b', s', k1, k2, ?_, k4, k5⟩
    rw [fX11_keptHours_L10]
    unfold fX9_size
    rw [zb2_some, t1, if_neg (by rw [z_le (by omega) (by omega)]; omega), p_hoursOf hP (by omega) hn, zb2_some, zlet_eq, zlet_eq, show (0 : Int32) = nI 0 from rfl, p_has0 hT (by omega) hn hN, zb2_some, q2]
    unfold fX11_keptHours_L68
    simp only [zlet_eq, nI_1, fa_or, fa_and]
    by_cases w : zhas0 ns M i n = true
    · rw [if_pos w] at k3
      rw [if_pos w, if_neg (by decide), k3]
    · rw [if_neg w] at k3
      rw [if_neg w, if_pos (show (0 : Int32) = nI 0 from rfl), k3]
theorem q_lacks {nv ns : Nat} {M : zMem} (hT : gTeam nv ns M) (hL : gCal M) (hP : gPres nv M) (hQ : gKept nv ns M) (x : Int32) {N : Nat} (hN : 10 < N) : ∃ r, fX11_lacks N x M = some (r, M) ∧ fX12_lacks x M = some (r, M) := by
  have t0 := hT.1
  unfold fX11_lacks fX12_lacks
  rw [p_isNightZ, m_isNightZ, zb2_some, zb2_some]
  by_cases e1 : zin x 200 = true
  · obtain ⟨n, hn, rfl⟩ := z_zinE (by omega) e1
    rw [if_pos e1, if_neg (by decide), if_neg (by decide), p_isFound hL hn, zb2_some, z_ldI (by omega) (by omega), zbd_some]
    rcases (gCal_01 hL hn).2.1 with f0 | f0
    · rw [f0, if_pos rfl]; exact ⟨_, rfl, rfl⟩
    · rw [f0, if_neg (by decide), if_neg (by decide)]
      obtain ⟨t, t1, t2, t3⟩ := hQ n hn f0
      obtain ⟨b', s', k1, k2, k3, k4, k5⟩ := p_keptL hT hP hn hN nv 0 N 0 0 0 (by omega) (by omega) (by omega) (by omega) (by omega) (by intro j hj; simp [zthere]) (by intro j hj; simp [zthere]) (by intro j hj; simp [zsk])
      have hk : fX11_keptHours N (nI n) M = some (nI (b' &&& s'), M) := k3
      have he : b' &&& s' = t := by
        refine z_six (Nat.and_lt_two_pow (n := 6) _ k2) t1 (fun j hj => ?_)
        rw [Nat.testBit_and, k4 j hj, k5 j hj, (t3 j hj).1]
        by_cases w : 2 ≤ zthere M n j nv
        · obtain ⟨v, v1, v2, v3⟩ := (t3 j hj).2 w
          rw [zsk_ex v1 v2 v3]
          simp
        · simp [w]
      rw [hk, zb2_some, z_ldI (by omega) (by omega), zbd_some, t2, he]
      exact ⟨_, rfl, rfl⟩
  · rw [if_neg e1, if_pos rfl]; exact ⟨_, rfl, rfl⟩
