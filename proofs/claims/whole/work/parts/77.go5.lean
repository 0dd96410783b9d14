/-! GO: calls that end -/
def znum (R : Nat → Nat × Nat × List (Nat × Nat) × List (Nat × List (Nat × Nat) × List (Nat × Nat))) : Option Nat → Int32
  | none => 0
  | some r => nI (R r).2.1
/-- volunteer v ends call k at minute m -/
def zec (nst nc : Nat) (M : zMem) (at_ cur : Nat → Int32) (m v k : Nat) : Prop := nst ≤ k ∧ k < nc ∧ cur v = nI k ∧ at_ k + M.1 53 k = nI m
def zrr (R : Nat → Nat × Nat × List (Nat × Nat) × List (Nat × List (Nat × Nat) × List (Nat × Nat))) (nr : Nat) (M : zMem) (K at_ : Nat → Int32) (m k : Nat) (s : Int32) : Option Nat := zfst (zfr R (zF M K k (at_ k) (nI m) (s + M.1 53 k)) 7) 0 nr
section GO
variable {tl nv ns c no nc nst nn r0 lv nr cs : Nat} {M : zMem} {R : Nat → Nat × Nat × List (Nat × Nat) × List (Nat × List (Nat × Nat) × List (Nat × Nat))} {N : Nat} {F : Nat → Int32} {K : Nat → Int32}
theorem p_endL (hR : zRu r0 lv nr cs R M) (hC : gCalls nv c nc nst M) {m : Nat} (hm : m < 360) (hN : 500 < N) : ∀ d i f (A : zMem), i + d = 8 → d < f → zGA M c r0 A → (∀ v, v < 8 → A.1 58 v = -1 ∨ ∃ k, nst ≤ k ∧ k < nc ∧ A.1 58 v = nI k ∧ A.1 54 k = 1) →
    ∃ W, fX2_endCalls_L2 N f (nI m) (nI i) A = some W ∧ W.2 = A.2 ∧ (∀ a, a ≠ 58 → a ≠ 59 → a ≠ 60 → a ≠ 64 → a ≠ 10 → a ≠ 18 → W.1 a = A.1 a) ∧ (∀ v, v < i → W.1 58 v = A.1 58 v ∧ W.1 59 v = A.1 59 v ∧ W.1 60 v = A.1 60 v) ∧
      ∀ v, i ≤ v → v < 8 → (∃ k, zec nst nc M (A.1 56) (A.1 58) m v k ∧ W.1 58 v = -1 ∧ W.1 60 v = A.1 60 v + M.1 53 k ∧ W.1 59 v = nI m + znum R (zrr R nr M (A.1 61) (A.1 56) m k (A.1 60 v))) ∨ ((¬ ∃ k, zec nst nc M (A.1 56) (A.1 58) m v k) ∧ W.1 58 v = A.1 58 v ∧ W.1 59 v = A.1 59 v ∧ W.1 60 v = A.1 60 v)
  | 0, i, f + 1, A, hi, hf, h, hcur => by
    refine ⟨A, ?_, rfl, fun _ _ _ _ _ _ _ => rfl, fun _ _ => ⟨rfl, rfl, rfl⟩, fun v h1 h2 => by omega⟩
    rw [fX2_endCalls_L2, show (8 : Int32) = nI 8 from rfl, if_pos (by rw [z_le (by omega) (by omega)]; omega)]
  | d + 1, i, f + 1, A, hi, hf, h, hcur => by
    have n4 := hC.1
    have e9 : A.1 47 9 = nI nc := by rw [h.2.2.1 47 (by omega) (by omega) (by omega) (by omega)]; exact hC.2.2.2.1
    have r53 : A.1 53 = M.1 53 := h.2.2.1 53 (by omega) (by omega) (by omega) (by omega)
    rw [fX2_endCalls_L2, show (8 : Int32) = nI 8 from rfl, if_neg (by rw [z_le (by omega) (by omega)]; omega), z_ldI (by omega) (by omega), zbd_some]
    unfold fX2_endCalls_L108
    simp only [zlet_eq, nI_1]
    have skip : (¬ ∃ k, zec nst nc M (A.1 56) (A.1 58) m i k) → ∃ W, fX2_endCalls_L2 N f (nI m) (nI (i + 1)) A = some W ∧ W.2 = A.2 ∧ (∀ a, a ≠ 58 → a ≠ 59 → a ≠ 60 → a ≠ 64 → a ≠ 10 → a ≠ 18 → W.1 a = A.1 a) ∧ (∀ v, v < i → W.1 58 v = A.1 58 v ∧ W.1 59 v = A.1 59 v ∧ W.1 60 v = A.1 60 v) ∧
      ∀ v, i ≤ v → v < 8 → (∃ k, zec nst nc M (A.1 56) (A.1 58) m v k ∧ W.1 58 v = -1 ∧ W.1 60 v = A.1 60 v + M.1 53 k ∧ W.1 59 v = nI m + znum R (zrr R nr M (A.1 61) (A.1 56) m k (A.1 60 v))) ∨ ((¬ ∃ k, zec nst nc M (A.1 56) (A.1 58) m v k) ∧ W.1 58 v = A.1 58 v ∧ W.1 59 v = A.1 59 v ∧ W.1 60 v = A.1 60 v) := by
      intro hno
      obtain ⟨W, w1, w2, w3, w4, w5⟩ := p_endL hR hC hm hN d (i + 1) f A (by omega) (by omega) h hcur
      refine ⟨W, w1, w2, w3, fun v hv => w4 v (by omega), fun v h1 h2 => ?_⟩
      by_cases e : v = i
      · subst e
        exact Or.inr ⟨hno, (w4 v (by omega)).1, (w4 v (by omega)).2.1, (w4 v (by omega)).2.2⟩
      · exact w5 v (by omega) h2
    rcases hcur i (by omega) with e | ⟨k, k1, k2, e, ek⟩
    · rw [if_pos e]
      exact skip (fun ⟨k, z1, z2, z3, z4⟩ => by rw [e, z_m1' (by omega)] at z3; exact z3)
    · have zk : zin (nI k) nc = true := z_zinI (by omega) k2
      have hend : fX1_endOf (nI k) A = some (A.1 56 k + M.1 53 k, A) := by
        unfold fX1_endOf
        rw [p_isCall n4 e9, if_pos zk, zb2_some, if_neg (by decide), z_ldI (by omega) (by omega), zbd_some, ek, if_pos rfl, z_ldI (by omega) (by omega), zbd_some, z_ldI (by omega) (by omega), zbd_some, r53]
      rw [e, if_neg (show ¬ nI k = -1 by rw [z_m1 (by omega)]; exact id), hend, zb2_some]
      by_cases q : A.1 56 k + M.1 53 k = nI m
      · -- the call ends
        let A1 := zpI A 58 i (-1)
        let A2 := zpI A1 60 i (A.1 60 i + M.1 53 k)
        have hA2 : zGA M c r0 A2 := ⟨h.1, h.2.1, fun a p1 p2 p3 p4 => by
          show (zpI (zpI A 58 i (-1)) 60 i _).1 a = _
          rw [zpI_r _ _ (by omega), zpI_r _ _ (by omega)]; exact h.2.2.1 a p1 p2 p3 p4, h.2.2.2⟩
        obtain ⟨Y, y1, y2, y3⟩ := pc_facts hC hA2 k2 (A.1 56 k) (nI m) (A.1 60 i + M.1 53 k)
        have hY := zGA_e hA2 (zeC_64 y3)
        obtain ⟨X, x1, x2⟩ := pc_first hR hY y2 (kind := 7) (by omega) hN
        have hX := zGA_e hY x2
        have hAX : zeC A2 X := zeC_t (zeC_64 y3) x2
        have hnum : zdy (X.2.2 57 10) (fX6_numberOf (X.2.2 57 10) (zoi (zrr R nr M (A.1 61) (A.1 56) m k (A.1 60 i))) X) = some (znum R (zrr R nr M (A.1 61) (A.1 56) m k (A.1 60 i)), X) := by
          rw [hX.2.1]
          unfold zdy
          rw [if_pos hR.1]
          cases hr : zrr R nr M (A.1 61) (A.1 56) m k (A.1 60 i) with
          | none =>
            unfold fX6_numberOf
            rw [show zoi none = -1 from rfl, if_pos (by decide)]
            rfl
          | some r =>
            have hlt := (zfst_lt nr 0 r hr).2.1
            exact p_number (zGA_u hR hX) (by omega)
        let Z := zpI X 59 i (nI m + znum R (zrr R nr M (A.1 61) (A.1 56) m k (A.1 60 i)))
        have hZ : zGA M c r0 Z := ⟨hX.1, hX.2.1, fun a p1 p2 p3 p4 => by
          show (zpI X 59 i _).1 a = _
          rw [zpI_r _ _ (by omega)]; exact hX.2.2.1 a p1 p2 p3 p4, hX.2.2.2⟩
        have r58 : ∀ v, Z.1 58 v = if v = i then -1 else A.1 58 v := by
          intro v
          show (zpI X 59 i _).1 58 v = _
          rw [zpI_r _ _ (by omega), hAX.2 58 (by omega) (by omega) (by omega)]
          show (zpI (zpI A 58 i (-1)) 60 i _).1 58 v = _
          rw [zpI_r _ _ (by omega), zpI_1]
          by_cases z : v = i
          · rw [if_pos ⟨rfl, z⟩, if_pos z]
          · rw [if_neg (fun t => z t.2), if_neg z]
        have r60 : ∀ v, Z.1 60 v = if v = i then A.1 60 i + M.1 53 k else A.1 60 v := by
          intro v
          show (zpI X 59 i _).1 60 v = _
          rw [zpI_r _ _ (by omega), hAX.2 60 (by omega) (by omega) (by omega)]
          show (zpI (zpI A 58 i (-1)) 60 i _).1 60 v = _
          rw [zpI_1]
          by_cases z : v = i
          · rw [if_pos ⟨rfl, z⟩, if_pos z]
          · rw [if_neg (fun t => z t.2), if_neg z, zpI_r _ _ (by omega)]
        have r59 : ∀ v, Z.1 59 v = if v = i then nI m + znum R (zrr R nr M (A.1 61) (A.1 56) m k (A.1 60 i)) else A.1 59 v := by
          intro v
          show (zpI X 59 i _).1 59 v = _
          rw [zpI_1]
          by_cases z : v = i
          · rw [if_pos ⟨rfl, z⟩, if_pos z]
          · rw [if_neg (fun t => z t.2), if_neg z, hAX.2 59 (by omega) (by omega) (by omega)]
            show (zpI (zpI A 58 i (-1)) 60 i _).1 59 v = _
            rw [zpI_r _ _ (by omega), zpI_r _ _ (by omega)]
        have ro : ∀ a, a ≠ 58 → a ≠ 59 → a ≠ 60 → a ≠ 64 → a ≠ 10 → a ≠ 18 → Z.1 a = A.1 a := by
          intro a p1 p2 p3 p4 p5 p6
          show (zpI X 59 i _).1 a = _
          rw [zpI_r _ _ p2, hAX.2 a p4 p5 p6]
          show (zpI (zpI A 58 i (-1)) 60 i _).1 a = _
          rw [zpI_r _ _ p3, zpI_r _ _ p1]
        have r56 : Z.1 56 = A.1 56 := ro 56 (by omega) (by omega) (by omega) (by omega) (by omega) (by omega)
        have r61 : Z.1 61 = A.1 61 := ro 61 (by omega) (by omega) (by omega) (by omega) (by omega) (by omega)
        obtain ⟨W, w1, w2, w3, w4, w5⟩ := p_endL hR hC hm hN d (i + 1) f Z (by omega) (by omega) hZ (by
          intro v hv
          rw [r58, ro 54 (by omega) (by omega) (by omega) (by omega) (by omega) (by omega)]
          by_cases z : v = i
          · rw [if_pos z]; exact Or.inl rfl
          · rw [if_neg z]; exact hcur v hv)
        refine ⟨W, ?_, by rw [w2]; exact hAX.1, fun a p1 p2 p3 p4 p5 p6 => by rw [w3 a p1 p2 p3 p4 p5 p6, ro a p1 p2 p3 p4 p5 p6], fun v hv => ?_, fun v h1 h2 => ?_⟩
        · rw [if_pos q, z_stI (by omega) (by omega), zbd_some, z_ldI (by omega) (by omega), zbd_some, p_lengthOf n4 (show (zpI A 58 i (-1)).1 47 9 = nI nc from e9), if_pos zk, zb2_some, z_cl (by omega), show (zpI A 58 i (-1)).1 53 k = M.1 53 k from congrFun r53 k, show (zpI A 58 i (-1)).1 60 i = A.1 60 i from rfl, z_stI (by omega) (by omega), zbd_some, p_sinceOf n4 (show A2.1 47 9 = nI nc from e9), if_pos zk, zb2_some, z_cl (by omega), show (zpI (zpI A 58 i (-1)) 60 i (A.1 60 i + M.1 53 k)).1 56 k = A.1 56 k from rfl, z_ldI (by omega) (by omega), zbd_some, show (zpI (zpI A 58 i (-1)) 60 i (A.1 60 i + M.1 53 k)).1 60 i = A.1 60 i + M.1 53 k by rw [zpI_1, if_pos ⟨rfl, rfl⟩], show fX2_setFacts (nI k) (A.1 56 k) (nI m) (A.1 60 i + M.1 53 k) (zpI (zpI A 58 i (-1)) 60 i (A.1 60 i + M.1 53 k)) = some Y from y1, zbd_some, show (7 : Int32) = nI 7 from rfl]
          rw [x1, zb2_some]
          rw [show zdy (X.2.2 57 10) (fX6_numberOf (X.2.2 57 10) (zoi (zfst (zfr R (zF M (A2.1 61) k (A.1 56 k) (nI m) (A.1 60 i + M.1 53 k)) 7) 0 nr)) X) = _ from hnum, zb2_some, z_stI (by omega) (by omega), zbd_some]
          exact w1
        · obtain ⟨u1, u2, u3⟩ := w4 v (by omega)
          rw [u1, u2, u3, r58, r59, r60, if_neg (by omega), if_neg (by omega), if_neg (by omega)]
          exact ⟨rfl, rfl, rfl⟩
        · by_cases z : v = i
          · subst z
            obtain ⟨u1, u2, u3⟩ := w4 v (by omega)
            refine Or.inl ⟨k, ⟨k1, k2, e, q⟩, ?_, ?_, ?_⟩
            · rw [u1, r58, if_pos rfl]
            · rw [u3, r60, if_pos rfl]
            · rw [u2, r59, if_pos rfl]
          · have hv := w5 v (by omega) h2
            rw [r56, r61] at hv
            have hc58 : ∀ k, zec nst nc M (A.1 56) (Z.1 58) m v k ↔ zec nst nc M (A.1 56) (A.1 58) m v k := by
              intro k'
              unfold zec
              rw [r58, if_neg z]
            simp only [hc58, r58, r59, r60, if_neg z] at hv
            exact hv
      · rw [if_neg q]
        exact skip (fun ⟨k', z1, z2, z3, z4⟩ => by
          rw [e, z_eq (by omega) (by omega)] at z3
          subst z3
          exact q z4)
end GO
