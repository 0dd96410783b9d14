/-! SHIFTS, the reference: one way -/
theorem z_offs {tl nv ns c no nc nst nn r0 lv nr : Nat} {M : zMem} (hM : gAll tl nv ns c no nc nst nn r0 lv nr M) (N : Nat) : ∀ k, k < no → zHo N M k < 64 ∧ 1 ≤ zmo M k ∧ zmo M k ≤ 3 := by
  intro k hk
  have hO := hM.2.2.2.2.2.2.2.2.1
  obtain ⟨a1, a2, a3, ⟨v, v1, v2⟩, ⟨h, h1, h2, h3⟩, m, m1, m2, m3⟩ := hO.2.2.2.2.1 k hk
  refine ⟨?_, ?_, ?_⟩
  · unfold zHo; rw [h3, z_cl (by omega)]; split <;> omega
  · unfold zmo; rw [m3, z_cl (by omega)]; exact m1
  · unfold zmo; rw [m3, z_cl (by omega)]; exact m2
noncomputable def zwv (N : Nat) (M : zMem) (a : Nat → Nat) (j : Nat) : Nat := (zch (zHo N M j) (zmo M j)).getD (a j) 0
def zin2 (N no : Nat) (M : zMem) (a : Nat → Nat) : Prop := ∀ j, j < no → a j < (zch (zHo N M j) (zmo M j)).length
theorem z_getD_mem {L : List Nat} {k : Nat} (h : k < L.length) : L.getD k 0 ∈ L := by
  rw [List.getD_eq_getElem?_getD, List.getElem?_eq_getElem h]
  exact List.getElem_mem h
def zat2 (N no : Nat) (M W : zMem) (a : Nat → Nat) : Prop := (∀ o, o < no → zli W o (zch (zHo N M o) (zmo M o))) ∧ ∀ o, o < no → W.1 110 o = nI (a o)
theorem z_load {N no : Nat} {M W : zMem} {a : Nat → Nat} (h0 : no ≤ 5) (hoff : ∀ k, k < no → zHo N M k < 64 ∧ 1 ≤ zmo M k ∧ zmo M k ≤ 3) (h : zat2 N no M W a) (ha : zin2 N no M a) {j : Nat} (hj : j < no) : zldI W 110 6 (nI j) = some (nI (a j)) ∧ zldI W 109 100 ((20 : Int32) * nI j + nI (a j)) = some (nI (zwv N M a j)) ∧ zwv N M a j < 64 := by
  obtain ⟨h2, h3⟩ := h
  have hl := zch_len (h := zHo N M j) (hoff j hj).2.2
  have hal := ha j hj
  refine ⟨by rw [z_ldI (by omega) (by omega), h3 j hj], ?_, ?_⟩
  · rw [show (20 : Int32) = nI 20 from rfl, z_mul, z_add, z_ldI (by omega) (by omega), (h2 j hj).2 (a j) hal]; rfl
  · exact (zch_mem (hoff j hj).1 (hoff j hj).2.2 (z_getD_mem hal)).1
theorem m_keepsL {N no T : Nat} {M W : zMem} {a : Nat → Nat} {S : Nat → Bool} (h0 : no ≤ 5) (hoff : ∀ k, k < no → zHo N M k < 64 ∧ 1 ≤ zmo M k ∧ zmo M k ≤ 3) (h : zat2 N no M W a) (ha : zin2 N no M a) (hT : T < 32) (hTS : ∀ j, j < no → T.testBit j = S j) : ∀ d i f one two sk g, i + d = no → d < f → fX12_keeps_L11 N f (nI no) (nI T) (nI one) (nI two) (nI sk) (nI i) W = some (nI ((zacc S (zwv N M a) i d one two sk g).2.1 &&& (zacc S (zwv N M a) i d one two sk g).2.2.1), W)
  | 0, i, f + 1, one, two, sk, g, hi, hf => by
    rw [fX12_keeps_L11, if_pos (by rw [z_le (by omega) (by omega)]; omega), fa_and, zacc]
  | d + 1, i, f + 1, one, two, sk, g, hi, hf => by
    obtain ⟨l1, l2, l3⟩ := z_load h0 hoff h ha (j := i) (by omega)
    rw [fX12_keeps_L11, if_neg (by rw [z_le (by omega) (by omega)]; omega), l1, zbd_some, l2, zbd_some, zlet_eq, zlet_eq, z_bitAt T (by omega) i (by omega), hTS i (by omega), zacc]
    unfold fX12_keeps_L68
    simp only [zlet_eq, nI_1, fa_or, fa_and]
    by_cases q : S i = true
    · have e1 : nI (if S i = true then 1 else 0) = (1 : Int32) := by rw [if_pos q]; rfl
      rw [if_pos e1, if_pos q]
      exact m_keepsL h0 hoff h ha hT hTS d (i + 1) f _ _ _ _ (by omega) (by omega)
    · have e1 : ¬ nI (if S i = true then 1 else 0) = (1 : Int32) := by rw [if_neg q]; decide
      rw [if_neg e1, if_neg q]
      exact m_keepsL h0 hoff h ha hT hTS d (i + 1) f _ _ _ _ (by omega) (by omega)
theorem zacc_lt {N no : Nat} {M : zMem} {a : Nat → Nat} {S : Nat → Bool} (hoff : ∀ k, k < no → zHo N M k < 64 ∧ 1 ≤ zmo M k ∧ zmo M k ≤ 3) (ha : zin2 N no M a) : ∀ d i one two sk g, i + d = no → one < 64 → two < 64 → sk < 64 → (zacc S (zwv N M a) i d one two sk g).2.1 < 64 ∧ (zacc S (zwv N M a) i d one two sk g).2.2.1 < 64 ∧ (zacc S (zwv N M a) i d one two sk g).2.2.2 ≤ g + 3 * d
  | 0, i, one, two, sk, g, hi, h1, h2, h3 => ⟨h2, h3, Nat.le_refl _⟩
  | d + 1, i, one, two, sk, g, hi, h1, h2, h3 => by
    have hm := zch_mem (hoff i (by omega)).1 (hoff i (by omega)).2.2 (z_getD_mem (ha i (by omega)))
    have h4 : zwv N M a i < 64 := hm.1
    have h5 : zpc (zwv N M a i) ≤ 3 := Nat.le_trans hm.2.2.1 (hoff i (by omega)).2.2
    rw [zacc]
    obtain ⟨k1, k2, k3⟩ := zacc_lt (S := S) hoff ha d (i + 1) (one ||| zwv N M a i) (two ||| (one &&& zwv N M a i)) (if S i = true then sk ||| zwv N M a i else sk) (g + zpc (zwv N M a i)) (by omega) (z_or6 h1 h4) (z_or6 h2 (z_and6 h4)) (by split; exact z_or6 h3 h4; exact h3)
    exact ⟨k1, k2, by omega⟩
theorem m_sumL {N no T : Nat} {M W : zMem} {a : Nat → Nat} {S : Nat → Bool} (h0 : no ≤ 5) (hN : 10 < N) (hoff : ∀ k, k < no → zHo N M k < 64 ∧ 1 ≤ zmo M k ∧ zmo M k ≤ 3) (h : zat N no M W a) (ha : zin2 N no M a) {k117 : Int32 → Int32 → Int32 → Int32 → Int32 → zMem → Option (Int32 × zMem)} {x3 x4 x6 : Int32} : ∀ d i f one two sk g, i + d = no → d < f → fX12_shifts_L139 N k117 f (nI no) (nI T) x3 x4 x6 (nI g) (nI i) W = fX12_shifts_L139 N k117 1 (nI no) (nI T) x3 x4 x6 (nI (zacc S (zwv N M a) i d one two sk g).2.2.2) (nI no) W
  | 0, i, f + 1, one, two, sk, g, hi, hf => by
    have e : i = no := by omega
    subst e
    have hle : nI i ≤ nI i := by rw [z_le (by omega) (by omega)]; omega
    rw [fX12_shifts_L139, fX12_shifts_L139, if_pos hle, if_pos hle, zacc]
  | d + 1, i, f + 1, one, two, sk, g, hi, hf => by
    obtain ⟨l1, l2, l3⟩ := z_load h0 hoff h.2 ha (j := i) (by omega)
    rw [fX12_shifts_L139, if_neg (by rw [z_le (by omega) (by omega)]; omega), l1, zbd_some, l2, zbd_some, m_bits l3 W hN, zb2_some, zlet_eq, zlet_eq, z_add, nI_1]
    exact m_sumL h0 hN hoff h ha d (i + 1) f _ _ _ _ (by omega) (by omega)
def zx3 : Option (Nat × Nat × (Nat → Nat)) → Int32
  | none => -1
  | some r => nI r.1
def zx4 : Option (Nat × Nat × (Nat → Nat)) → Int32
  | none => 0
  | some r => nI r.2.1
def zbR (N no : Nat) (M W : zMem) : Option (Nat × Nat × (Nat → Nat)) → Prop
  | none => True
  | some r => r.1 ≤ 6 ∧ r.2.1 ≤ 1000 ∧ ∀ j, j < no → ∃ k, k < (zch (zHo N M j) (zmo M j)).length ∧ W.1 111 j = nI k ∧ (zch (zHo N M j) (zmo M j)).getD k 0 = r.2.2 j
theorem m_copyL {N no T : Nat} {M : zMem} {a : Nat → Nat} (h0 : no ≤ 5) {k117 : Int32 → Int32 → Int32 → Int32 → Int32 → zMem → Option (Int32 × zMem)} {x3 x4 : Int32} : ∀ d i f (W : zMem), i + d = no → d < f → zat N no M W a → (∀ j, j < i → W.1 111 j = nI (a j)) → ∃ X, fX12_shifts_L206 N k117 f (nI no) (nI T) x3 x4 (nI i) W = fX12_shifts_L232 N k117 (nI no) (nI T) x3 x4 X ∧ zat N no M X a ∧ ∀ j, j < no → X.1 111 j = nI (a j)
  | 0, i, f + 1, W, hi, hf, h, hc => by
    refine ⟨W, ?_, h, fun j hj => hc j (by omega)⟩
    rw [fX12_shifts_L206, if_pos (by rw [z_le (by omega) (by omega)]; omega)]
  | d + 1, i, f + 1, W, hi, hf, h, hc => by
    obtain ⟨h1, h2, h3⟩ := id h
    obtain ⟨X, x1, x2, x3'⟩ := m_copyL (T := T) h0 (k117 := k117) (x3 := x3) (x4 := x4) d (i + 1) f (zpI W 111 i (nI (a i))) (by omega) (by omega) ⟨zag_p h1 (by omega) (by omega), h2, h3⟩ (by
      intro j hj
      rw [zpI_1]
      by_cases e : j = i
      · rw [if_pos ⟨rfl, e⟩, e]
      · rw [if_neg (fun q => e q.2)]; exact hc j (by omega))
    refine ⟨X, ?_, x2, x3'⟩
    rw [fX12_shifts_L206, if_neg (by rw [z_le (by omega) (by omega)]; omega), z_ldI (by omega) (by omega), zbd_some, h3 i (by omega), z_stI (by omega) (by omega), zbd_some, zlet_eq, nI_1, x1]
theorem m_leaf {N no T n : Nat} {M W : zMem} {a : Nat → Nat} {S : Nat → Bool} (h0 : no ≤ 5) (hN : 10 < N) (hoff : ∀ k, k < no → zHo N M k < 64 ∧ 1 ≤ zmo M k ∧ zmo M k ≤ 3) (h : zat N no M W a) (ha : zin2 N no M a) (hT : T < 32) (hTS : ∀ j, j < no → T.testBit j = S j) {b : Option (Nat × Nat × (Nat → Nat))} (hb : zbR N no M W b) {pre : Nat → Nat} (hpre : ∀ j, j < no → pre j = zwv N M a j) :
    ∃ X, fX12_shifts_L117 N (n + 1) (nI no) (nI T) (zx3 b) (zx4 b) 1 W = fX12_shifts_L237 N (fX12_shifts_L117 N n) N (nI no) (nI T) (zx3 (zdfs [] no (zacc S pre 0 no 0 0 0 0).1 (zacc S pre 0 no 0 0 0 0).2.1 (zacc S pre 0 no 0 0 0 0).2.2.1 (zacc S pre 0 no 0 0 0 0).2.2.2 pre b)) (zx4 (zdfs [] no (zacc S pre 0 no 0 0 0 0).1 (zacc S pre 0 no 0 0 0 0).2.1 (zacc S pre 0 no 0 0 0 0).2.2.1 (zacc S pre 0 no 0 0 0 0).2.2.2 pre b)) (nI no - 1) X ∧ zat N no M X a ∧ zbR N no M X (zdfs [] no (zacc S pre 0 no 0 0 0 0).1 (zacc S pre 0 no 0 0 0 0).2.1 (zacc S pre 0 no 0 0 0 0).2.2.1 (zacc S pre 0 no 0 0 0 0).2.2.2 pre b) := by
  have ecg : zacc S pre 0 no 0 0 0 0 = zacc S (zwv N M a) 0 no 0 0 0 0 := zacc_cong no 0 0 0 0 0 (fun j _ hj => hpre j (by omega))
  rw [ecg, zdfs]
  have hk := m_keepsL h0 hoff h.2 ha hT hTS no 0 N 0 0 0 0 (by omega) (by omega)
  obtain ⟨k1, k2, k3⟩ := zacc_lt (S := S) hoff ha no 0 0 0 0 0 (by omega) (by omega) (by omega) (by omega)
  have hsum := fun (k117 : Int32 → Int32 → Int32 → Int32 → Int32 → zMem → Option (Int32 × zMem)) x3 x4 x6 => m_sumL (T := T) (S := S) h0 hN hoff h ha (k117 := k117) (x3 := x3) (x4 := x4) (x6 := x6) no 0 N 0 0 0 0 (by omega) (by omega)
  generalize zacc S (zwv N M a) 0 no 0 0 0 0 = A at *
  have c6 := zpc_6 (A.2.1 &&& A.2.2.1)
  have hkeeps : fX12_keeps N (nI no) (nI T) W = some (nI (A.2.1 &&& A.2.2.1), W) := hk
  rw [fX12_shifts_L117, if_neg (by decide), hkeeps, zb2_some, m_bits (z_and6 k2) W hN, zb2_some, show (0 : Int32) = nI 0 from rfl, hsum, fX12_shifts_L139, if_pos (by rw [z_le (by omega) (by omega)]; omega)]
  have hcopy : ∃ X, fX12_shifts_L196 N (fX12_shifts_L117 N n) (nI no) (nI T) (nI (zpc (A.2.1 &&& A.2.2.1))) (nI A.2.2.2) W = fX12_shifts_L237 N (fX12_shifts_L117 N n) N (nI no) (nI T) (nI (zpc (A.2.1 &&& A.2.2.1))) (nI A.2.2.2) (nI no - 1) X ∧ zat N no M X a ∧ zbR N no M X (some (zpc (A.2.1 &&& A.2.2.1), A.2.2.2, pre)) := by
    obtain ⟨X, x1, x2, x3⟩ := m_copyL (T := T) h0 (k117 := fX12_shifts_L117 N n) (x3 := nI (zpc (A.2.1 &&& A.2.2.1))) (x4 := nI A.2.2.2) no 0 N W (by omega) (by omega) h (fun j hj => absurd hj (Nat.not_lt_zero j))
    refine ⟨X, ?_, x2, c6, by show A.2.2.2 ≤ 1000; omega, fun j hj => ⟨a j, ha j hj, x3 j hj, (hpre j hj).symm⟩⟩
    unfold fX12_shifts_L196
    rw [show (0 : Int32) = nI 0 from rfl, x1]
    unfold fX12_shifts_L232
    rw [zlet_eq]
  have hkeep : ∀ x3 x4, fX12_shifts_L232 N (fX12_shifts_L117 N n) (nI no) (nI T) x3 x4 W = fX12_shifts_L237 N (fX12_shifts_L117 N n) N (nI no) (nI T) x3 x4 (nI no - 1) W := by
    intro x3 x4
    unfold fX12_shifts_L232
    rw [zlet_eq]
  cases b with
  | none =>
    have e : zbet (zpc (A.2.1 &&& A.2.2.1)) A.2.2.2 none = true := rfl
    rw [if_pos e]
    have hlt : zx3 none < nI (zpc (A.2.1 &&& A.2.2.1)) := by
      rw [Int32.lt_iff_toInt_lt, nI_toInt (by omega)]
      show (-1 : Int32).toInt < _
      have : (-1 : Int32).toInt = -1 := by decide
      omega
    rw [if_pos hlt]
    exact hcopy
  | some r =>
    obtain ⟨r1, r2, r3⟩ := id hb
    show ∃ X, (if nI r.1 < nI (zpc (A.2.1 &&& A.2.2.1)) then _ else if nI (zpc (A.2.1 &&& A.2.2.1)) = nI r.1 then (if nI r.2.1 ≤ nI A.2.2.2 then _ else _) else _) = _ ∧ _
    by_cases w1 : r.1 < zpc (A.2.1 &&& A.2.2.1)
    · have e : zbet (zpc (A.2.1 &&& A.2.2.1)) A.2.2.2 (some r) = true := by simp only [zbet, decide_eq_true_eq]; omega
      rw [if_pos (by rw [z_lt (by omega) (by omega)]; exact w1), if_pos e]
      exact hcopy
    · rw [if_neg (by rw [z_lt (by omega) (by omega)]; exact w1)]
      by_cases w2 : zpc (A.2.1 &&& A.2.2.1) = r.1
      · rw [if_pos (by rw [w2])]
        by_cases w3 : r.2.1 ≤ A.2.2.2
        · have e : ¬ zbet (zpc (A.2.1 &&& A.2.2.1)) A.2.2.2 (some r) = true := by simp only [zbet, decide_eq_true_eq]; omega
          rw [if_pos (by rw [z_le (by omega) (by omega)]; exact w3), if_neg e]
          exact ⟨W, hkeep _ _, h, hb⟩
        · have e : zbet (zpc (A.2.1 &&& A.2.2.1)) A.2.2.2 (some r) = true := by simp only [zbet, decide_eq_true_eq]; omega
          rw [if_neg (by rw [z_le (by omega) (by omega)]; exact w3), if_pos e]
          exact hcopy
      · have e : ¬ zbet (zpc (A.2.1 &&& A.2.2.1)) A.2.2.2 (some r) = true := by simp only [zbet, decide_eq_true_eq]; omega
        rw [if_neg (by rw [z_eq (by omega) (by omega)]; exact w2), if_neg e]
        exact ⟨W, hkeep _ _, h, hb⟩
