/-! SHIFTS, the reference: what is found is written down -/
def zfin (N no c : Nat) (v w idx : Nat → Nat) (M : zMem) (i : Nat) (X : zMem) : Prop := X.2 = M.2 ∧ (∀ a, a ≠ 106 → (a < 108 ∨ 111 < a) → X.1 a = M.1 a) ∧ (∀ o, o < no → zli X o (zch (zHo N M o) (zmo M o))) ∧ (∀ j, j < no → X.1 111 j = nI (idx j)) ∧ (∀ j, j < i → X.1 110 j = nI (idx j)) ∧ (∀ j, j < i → X.1 106 (8 * c + v j) = nI (w j)) ∧ ∀ t, (∀ j, j < i → t ≠ 8 * c + v j) → X.1 106 t = M.1 106 t
theorem m_L309 {N no c T : Nat} {M : zMem} {v w idx : Nat → Nat} {S : Nat → Bool} {x3 : Int32} (h0 : no ≤ 5) (hN : 10 < N) (hc : c < 200) (c2 : M.1 69 44 = nI c) (hoff : ∀ k, k < no → zHo N M k < 64 ∧ 1 ≤ zmo M k ∧ zmo M k ≤ 3) (hT : T < 32) (hTS : ∀ j, j < no → T.testBit j = S j) (hv : ∀ j, j < no → v j < 8 ∧ M.1 103 (5 * c + j) = nI (v j)) (hdis : ∀ j k, j < no → k < no → v j = v k → j = k) (hidx : ∀ j, j < no → idx j < (zch (zHo N M j) (zmo M j)).length ∧ (zch (zHo N M j) (zmo M j)).getD (idx j) 0 = w j) :
    ∀ d i f (X : zMem), i + d = no → d < f → zfin N no c v w idx M i X → ∃ Y, fX12_shifts_L309 N f (nI no) (nI T) x3 (nI i) X = some (x3, zpI (zpI Y 107 c (nI ((zacc S w 0 no 0 0 0 0).2.1 &&& (zacc S w 0 no 0 0 0 0).2.2.1))) 101 c 1) ∧ zfin N no c v w idx M no Y
  | 0, i, f + 1, X, hi, hf, hX => by
    have e : i = no := by omega
    subst e
    obtain ⟨x1, x2, x3', x4, x5, x6, x7⟩ := id hX
    have hat : zat2 N i M X idx := ⟨x3', x5⟩
    have hk := m_keepsL h0 hoff hat (fun j hj => (hidx j hj).1) hT hTS i 0 N 0 0 0 0 (by omega) (by omega)
    have ecg : zacc S (zwv N M idx) 0 i 0 0 0 0 = zacc S w 0 i 0 0 0 0 := zacc_cong i 0 0 0 0 0 (fun j _ hj => (hidx j (by omega)).2)
    rw [ecg] at hk
    have hkeeps : fX12_keeps N (nI i) (nI T) X = some (nI ((zacc S w 0 i 0 0 0 0).2.1 &&& (zacc S w 0 i 0 0 0 0).2.2.1), X) := hk
    have e44 : X.1 69 44 = nI c := by rw [x2 69 (by omega) (by omega)]; exact c2
    refine ⟨X, ?_, hX⟩
    rw [fX12_shifts_L309, if_pos (by rw [z_le (by omega) (by omega)]; omega), hkeeps, zb2_some, e44, z_stI hc (by omega), zbd_some]
    have e44' : (zpI X 107 c (nI ((zacc S w 0 i 0 0 0 0).2.1 &&& (zacc S w 0 i 0 0 0 0).2.2.1))).1 69 44 = nI c := e44
    rw [e44', z_stZ hc (by omega) (Or.inr rfl), zbd_some]
  | d + 1, i, f + 1, X, hi, hf, hX => by
    obtain ⟨x1, x2, x3', x4, x5, x6, x7⟩ := id hX
    obtain ⟨i1, i2⟩ := hidx i (by omega)
    obtain ⟨v1, v2⟩ := hv i (by omega)
    have hlen := zch_len (h := zHo N M i) (hoff i (by omega)).2.2
    have e44 : X.1 69 44 = nI c := by rw [x2 69 (by omega) (by omega)]; exact c2
    obtain ⟨Y, y1, y2⟩ := m_L309 (S := S) (T := T) (x3 := x3) h0 hN hc c2 hoff hT hTS hv hdis hidx d (i + 1) f (zpI (zpI X 110 i (nI (idx i))) 106 (8 * c + v i) (nI (w i))) (by omega) (by omega) (by
      refine ⟨x1, fun a a1 a2 => ?_, x3', x4, ?_, ?_, ?_⟩
      · rw [zpI_r _ _ a1, zpI_r _ _ (by omega)]; exact x2 a a1 a2
      · intro j hj
        simp only [zpI_1]
        rw [if_neg (by omega)]
        by_cases e : j = i
        · rw [if_pos ⟨trivial, e⟩, e]
        · rw [if_neg (fun q => e q.2)]; exact x5 j (by omega)
      · intro j hj
        simp only [zpI_1]
        by_cases e : j = i
        · rw [if_pos ⟨trivial, by rw [e]⟩, e]
        · rw [if_neg (fun q => e (hdis j i (by omega) (by omega) (by omega))), if_neg (by omega)]
          exact x6 j (by omega)
      · intro t ht
        simp only [zpI_1]
        rw [if_neg (fun q => ht i (by omega) q.2), if_neg (by omega)]
        exact x7 t (fun j hj => ht j (by omega)))
    refine ⟨Y, ?_, y2⟩
    have a44 : (zpI X 110 i (nI (idx i))).1 69 44 = nI c := e44
    have a103 : (zpI X 110 i (nI (idx i))).1 103 (5 * c + i) = nI (v i) := by show X.1 103 _ = _; rw [x2 103 (by omega) (by omega)]; exact v2
    have a111 : (zpI X 110 i (nI (idx i))).1 111 i = nI (idx i) := x4 i (by omega)
    have a109 : (zpI X 110 i (nI (idx i))).1 109 (20 * i + idx i) = nI (w i) := by show X.1 109 _ = _; rw [(x3' i (by omega)).2 (idx i) i1, i2]
    rw [fX12_shifts_L309, if_neg (by rw [z_le (by omega) (by omega)]; omega), z_ldI (by omega) (by omega), zbd_some, x4 i (by omega), z_stI (by omega) (by omega), zbd_some, a44, show (5 : Int32) = nI 5 from rfl, z_mul, z_add, z_ldI (by omega) (by omega), zbd_some, a103, z_ldI (by omega) (by omega), zbd_some, a111, show (20 : Int32) = nI 20 from rfl, z_mul, z_add, z_ldI (by omega) (by omega), zbd_some, a109, show (8 : Int32) = nI 8 from rfl, z_mul, z_add, z_stI (by omega) (by omega), zbd_some, zlet_eq, nI_1, y1]
theorem zwn_le {N no : Nat} {M : zMem} (hoff : ∀ k, k < no → zHo N M k < 64 ∧ 1 ≤ zmo M k ∧ zmo M k ≤ 3) : ∀ d o, o + d = no → zwn N M o d ≤ 19 ^ d
  | 0, o, _ => Nat.le_refl 1
  | d + 1, o, h => by
    have h1 := zch_len (h := zHo N M o) (hoff o (by omega)).2.2
    have h2 := zwn_le hoff d (o + 1) (by omega)
    rw [zwn, Nat.pow_succ, Nat.mul_comm]
    exact Nat.mul_le_mul h2 h1
/-- all that the reference does -/
theorem m_shifts {tl nv ns c no nc nst nn r0 lv nr : Nat} {M : zMem} (hM : gAll tl nv ns c no nc nst nn r0 lv nr M) (hf : M.1 101 c = 0) (hg : M.1 100 c = 0) {N : Nat} (hN : 3000000 < N) {k g : Nat} {w : Nat → Nat} (hdfs : zdfs (zoff (zHo N M) (zmo M) (zso ns c M) 0 no) 0 0 0 0 0 (fun _ => 0) none = some (k, g, w)) : ∃ idx Y, fX12_shifts N M = some (nI k, zpI (zpI Y 107 c (nI ((zacc (zso ns c M) w 0 no 0 0 0 0).2.1 &&& (zacc (zso ns c M) w 0 no 0 0 0 0).2.2.1))) 101 c 1) ∧ zfin N no c (fun i => (M.1 33 i).toNatClampNeg) w idx M no Y := by
  have hM' := hM
  obtain ⟨-, -, hT, -, -, hK, hL, -, hO, -⟩ := hM
  obtain ⟨c0, c1, c2⟩ := hK
  have o0 := hO.1
  have t0 := hT.1
  have hoff := z_offs hM' N
  obtain ⟨X, T, x1, x2, x3, x4⟩ := m_shL40 hM' (N := N) (by omega) no 0 N 0 M (by omega) (by omega) (zag_r 108 111 M) (fun j hj => absurd hj (Nat.not_lt_zero j)) (by decide) (fun j hj => absurd hj (Nat.not_lt_zero j))
  have hw19 : (19 : Nat) ^ no ≤ 19 ^ 5 := Nat.pow_le_pow_right (by decide) o0
  have hwn := zwn_le hoff no 0 (by omega)
  have h195 : (19 : Nat) ^ 5 = 2476099 := by decide
  obtain ⟨n, hn⟩ : ∃ n, N = (n + 1) + zwn N M 0 no := ⟨N - zwn N M 0 no - 1, by omega⟩
  obtain ⟨Y, f, f1, y1, y2, y3⟩ := m_odo (S := zso ns c M) o0 (show 10 < N by omega) hoff x3 x4 no 0 (n + 1) (fun _ => 0) (fun _ => 0) none X (by omega) (fun j hj => absurd hj (Nat.not_lt_zero j)) (by
      obtain ⟨z1, z2, z3⟩ := x2
      refine ⟨z1, z2, fun i hi => ?_⟩
      rw [z3 i hi]; unfold zdg; simp) (fun j hj => absurd hj (Nat.not_lt_zero j)) trivial (fun _ _ => rfl)
  have eS : zS3 no (zso ns c M) (fun _ => 0) 0 (zoff (zHo N M) (zmo M) (zso ns c M) 0 no) none = some (k, g, w) := by
    unfold zS3
    rw [zacc]
    exact hdfs
  rw [eS] at y1 y3
  obtain ⟨b1, b2, b3⟩ := y3
  have hv : ∀ j, j < no → (M.1 33 j).toNatClampNeg < 8 ∧ M.1 103 (5 * c + j) = nI (M.1 33 j).toNatClampNeg := by
    intro j hj
    obtain ⟨a1, a2, a3, ⟨v, v1, v2⟩, -⟩ := hO.2.2.2.2.1 j hj
    rw [← a1, v2, z_cl (by omega)]
    exact ⟨by omega, rfl⟩
  have hdis : ∀ j k, j < no → k < no → (M.1 33 j).toNatClampNeg = (M.1 33 k).toNatClampNeg → j = k := by
    intro j k hj hk e
    obtain ⟨a1, a2, a3, ⟨v, v1, v2⟩, -⟩ := hO.2.2.2.2.1 j hj
    obtain ⟨a1', a2', a3', ⟨v', v1', v2'⟩, -⟩ := hO.2.2.2.2.1 k hk
    apply hO.2.2.2.2.2 j k hj hk
    rw [v2, v2', z_cl (by omega), z_cl (by omega)] at e
    rw [v2, v2', e]
  have hex : ∃ idx : Nat → Nat, ∀ j, j < no → idx j < (zch (zHo N M j) (zmo M j)).length ∧ Y.1 111 j = nI (idx j) ∧ (zch (zHo N M j) (zmo M j)).getD (idx j) 0 = w j := by
    refine ⟨fun j => if hj : j < no then Classical.choose (b3 j hj) else 0, fun j hj => ?_⟩
    have := Classical.choose_spec (b3 j hj)
    simp only [hj, dif_pos]
    exact this
  obtain ⟨idx, hidx⟩ := hex
  obtain ⟨Z, z1, z2⟩ := m_L309 (N := N) (no := no) (c := c) (T := T) (M := M) (v := fun i => (M.1 33 i).toNatClampNeg) (w := w) (idx := idx) (S := zso ns c M) (x3 := nI k) o0 (by omega) c0 c2 hoff x3 x4 hv hdis (fun j hj => ⟨(hidx j hj).1, (hidx j hj).2.2⟩) no 0 N Y (by omega) (by omega) ⟨y2.1.1, fun a a1 a2 => y2.1.2 a a2, y2.2.1, fun j hj => (hidx j hj).2.1, fun j hj => absurd hj (Nat.not_lt_zero j), fun j hj => absurd hj (Nat.not_lt_zero j), fun t _ => by rw [y2.1.2 106 (by omega)]⟩
  refine ⟨idx, Z, ?_, z2⟩
  unfold fX12_shifts
  rw [c2, z_ldI c0 (by omega), zbd_some, hf, if_pos rfl, z_ldI c0 (by omega), zbd_some, hg, if_pos rfl, z_ldI c0 (by omega), zbd_some, hO.2.2.1, show (0 : Int32) = nI 0 from rfl, x1]
  obtain ⟨f', rfl⟩ : ∃ f', f = f' + 1 := ⟨f - 1, by omega⟩
  have hend : fX12_shifts_L117 N N (nI no) (nI T) (-1) 0 1 X = some (nI k, zpI (zpI Z 107 c (nI ((zacc (zso ns c M) w 0 no 0 0 0 0).2.1 &&& (zacc (zso ns c M) w 0 no 0 0 0 0).2.2.1))) 101 c 1) := by
    have e : fX12_shifts_L117 N (n + 1 + zwn N M 0 no) (nI no) (nI T) (-1) 0 1 X = fX12_shifts_L117 N N (nI no) (nI T) (-1) 0 1 X := by rw [← hn]
    rw [← e]
    refine Eq.trans y1 ?_
    rw [fX12_shifts_L237, if_pos (by decide)]
    unfold fX12_shifts_L275 fX12_shifts_L285 fX12_shifts_L303
    rw [if_pos (by decide), if_pos rfl, fX12_shifts_L117, if_pos rfl]
    exact z1
  exact hend
