/-! GO: calls that end, by the reference -/
def znr (R : Nat → Nat × Nat × List (Nat × Nat) × List (Nat × List (Nat × Nat) × List (Nat × Nat))) (m : Nat) (old : Int32) : Option Nat → Int32
  | none => old
  | some r => nI m + nI (R r).2.1
section GO
variable {tl nv ns c no nc nst nn r0 lv nr cs : Nat} {M : zMem} {R : Nat → Nat × Nat × List (Nat × Nat) × List (Nat × List (Nat × Nat) × List (Nat × Nat))} {N : Nat} {F : Nat → Int32} {K : Nat → Int32}
theorem m_ends (hR : zRu r0 lv nr cs R M) (hC : gCalls nv c nc nst M) {m k v : Nat} (hk : k < nc) (hv : v < 8) (hN : 2000 < N) {B : zMem} (h : zGB M B) (e118 : B.1 118 k = 1) (e119 : B.1 119 k = nI v) (hkn : B.1 124 k = K (M.1 50 k).toNatClampNeg) :
    ∃ W, fX12_ends N (nI k) (nI m) B = some W ∧ W.2 = B.2 ∧ (∀ a, a ≠ 122 → a ≠ 123 → a ≠ 127 → a ≠ 128 → a ≠ 129 → W.1 a = B.1 a) ∧ (∀ u, W.1 127 u = if u = v then -1 else B.1 127 u) ∧ (∀ u, W.1 129 u = if u = v then B.1 129 v + M.1 53 k else B.1 129 u) ∧ (∀ u, W.1 128 u = if u = v then znr R m (B.1 128 v) (zrr R nr M K (B.1 120) m k (B.1 129 v)) else B.1 128 u) := by
  have n4 := hC.1
  have e117 : B.1 117 k = M.1 53 k := by rw [h.2 117 (by omega) (by omega) (by omega), ← (hC.2.2.2.2.2.2.1 k hk).2.2.2.2.2.1]
  let B2 := zpI (zpI B 129 v (B.1 129 v + M.1 53 k)) 127 v (-1)
  have hB2 : zGB M B2 := ⟨h.1, fun a p1 p2 p3 => by
    show (zpI (zpI B 129 v _) 127 v _).1 a = _
    rw [zpI_r _ _ (by omega), zpI_r _ _ (by omega)]; exact h.2 a p1 p2 p3⟩
  obtain ⟨Y, y1, y2, y3⟩ := m_asks (K := K) hC hB2 hk (nI m) (B.1 129 v + M.1 53 k) hkn
  rw [show B2.1 118 k = B.1 118 k from rfl, if_pos e118, show B2.1 120 k = B.1 120 k from rfl] at y2
  have hY := zGB_e hB2 (zeR_122 y3)
  obtain ⟨X, x1, x2⟩ := m_endsL hR hv (nI m) hN nr 0 N Y (by omega) (by have := hR.2.2.2.1; omega) hY y2
  have hX : zeR B2 X := zeR_t (zeR_122 y3) x1
  have e18 : Y.1 69 18 = nI lv := by rw [hY.2 69 (by omega) (by omega) (by omega)]; exact hR.2.2.1
  have hfun : fX12_ends N (nI k) (nI m) B = some (match zrr R nr M K (B.1 120) m k (B.1 129 v) with | none => X | some r => zpI X 128 v (nI m + nI (R r).2.1)) := by
    unfold fX12_ends
    rw [z_ldI (by omega) (by omega), zbd_some, e119, z_ldI (by omega) (by omega), zbd_some, z_ldI (by omega) (by omega), zbd_some, e117, z_stI (by omega) (by omega), zbd_some, z_stI (by omega) (by omega), zbd_some, z_ldI (by omega) (by omega), zbd_some, show (zpI (zpI B 129 v (B.1 129 v + M.1 53 k)) 127 v (-1)).1 129 v = B.1 129 v + M.1 53 k by rw [zpI_r _ _ (by omega), zpI_1, if_pos ⟨rfl, rfl⟩]]
    rw [show fX12_asks (nI k) (nI m) (B.1 129 v + M.1 53 k) (zpI (zpI B 129 v (B.1 129 v + M.1 53 k)) 127 v (-1)) = some Y from y1, zbd_some, zlet_eq, e18, show (20 : Int32) = nI 20 from rfl, z_mul]
    rw [Nat.add_zero] at x2
    exact x2
  have a127 : ∀ u, X.1 127 u = if u = v then -1 else B.1 127 u := by
    intro u
    rw [hX.2 127 (by omega) (by omega)]
    show (zpI (zpI B 129 v _) 127 v _).1 127 u = _
    rw [zpI_1]
    by_cases z : u = v
    · rw [if_pos ⟨rfl, z⟩, if_pos z]
    · rw [if_neg (fun t => z t.2), if_neg z, zpI_r _ _ (by omega)]
  have a129 : ∀ u, X.1 129 u = if u = v then B.1 129 v + M.1 53 k else B.1 129 u := by
    intro u
    rw [hX.2 129 (by omega) (by omega)]
    show (zpI (zpI B 129 v _) 127 v _).1 129 u = _
    rw [zpI_r _ _ (by omega), zpI_1]
    by_cases z : u = v
    · rw [if_pos ⟨rfl, z⟩, if_pos z]
    · rw [if_neg (fun t => z t.2), if_neg z]
  have a128 : X.1 128 = B.1 128 := by
    rw [hX.2 128 (by omega) (by omega)]
    show (zpI (zpI B 129 v _) 127 v _).1 128 = _
    rw [zpI_r _ _ (by omega), zpI_r _ _ (by omega)]
  have ao : ∀ a, a ≠ 122 → a ≠ 123 → a ≠ 127 → a ≠ 129 → X.1 a = B.1 a := by
    intro a p1 p2 p3 p4
    rw [hX.2 a p1 p2]
    show (zpI (zpI B 129 v _) 127 v _).1 a = _
    rw [zpI_r _ _ p3, zpI_r _ _ p4]
  rw [hfun]
  cases hr : zrr R nr M K (B.1 120) m k (B.1 129 v) with
  | none =>
    refine ⟨X, rfl, hX.1, fun a p1 p2 p3 p4 p5 => ao a p1 p2 p3 p5, a127, a129, fun u => ?_⟩
    rw [a128]
    by_cases z : u = v
    · rw [if_pos z, z]; rfl
    · rw [if_neg z]
  | some r =>
    refine ⟨_, rfl, hX.1, fun a p1 p2 p3 p4 p5 => by rw [zpI_r _ _ p4]; exact ao a p1 p2 p3 p5, fun u => by rw [zpI_r _ _ (by omega)]; exact a127 u, fun u => by rw [zpI_r _ _ (by omega)]; exact a129 u, fun u => ?_⟩
    rw [zpI_1, a128]
    by_cases z : u = v
    · rw [if_pos ⟨rfl, z⟩, if_pos z]; rfl
    · rw [if_neg (fun t => z t.2), if_neg z]
theorem m_L2 (hR : zRu r0 lv nr cs R M) (hC : gCalls nv c nc nst M) {m : Nat} (hm : m < 360) (hN : 2000 < N) : ∀ d i f (B : zMem), i + d = nc → nst ≤ i → d < f → zGB M B → (∀ k, nst ≤ k → k < nc → B.1 124 k = K (M.1 50 k).toNatClampNeg) → (∀ v, v < 8 → B.1 127 v = -1 ∨ ∃ k, nst ≤ k ∧ k < nc ∧ B.1 127 v = nI k ∧ B.1 118 k = 1 ∧ B.1 119 k = nI v) → (∀ k, i ≤ k → k < nc → B.1 118 k = 1 → B.1 120 k + M.1 53 k = nI m → ∃ v, v < 8 ∧ B.1 119 k = nI v ∧ B.1 127 v = nI k) →
    ∃ W, fX12_oneMinute_L2 N f (nI nst) (nI m) (nI i) B = fX12_oneMinute_L51 N N (nI nst) (nI m) (nI nst) W ∧ W.2 = B.2 ∧ (∀ a, a ≠ 122 → a ≠ 123 → a ≠ 127 → a ≠ 128 → a ≠ 129 → W.1 a = B.1 a) ∧
      ∀ v, v < 8 → (∃ k, i ≤ k ∧ zec nst nc M (B.1 120) (B.1 127) m v k ∧ W.1 127 v = -1 ∧ W.1 129 v = B.1 129 v + M.1 53 k ∧ W.1 128 v = znr R m (B.1 128 v) (zrr R nr M K (B.1 120) m k (B.1 129 v))) ∨ ((¬ ∃ k, i ≤ k ∧ zec nst nc M (B.1 120) (B.1 127) m v k) ∧ W.1 127 v = B.1 127 v ∧ W.1 128 v = B.1 128 v ∧ W.1 129 v = B.1 129 v)
  | 0, i, f + 1, B, hi, hst, hf, h, hkn, h1, h2 => by
    have n4 := hC.1
    have e60 : B.1 69 60 = nI nc := by rw [h.2 69 (by omega) (by omega) (by omega)]; exact hC.2.2.2.2.1
    refine ⟨B, ?_, rfl, fun _ _ _ _ _ _ => rfl, fun v hv => Or.inr ⟨fun ⟨k, k1, z1, z2, _⟩ => by omega, rfl, rfl, rfl⟩⟩
    rw [fX12_oneMinute_L2, e60, if_pos (by rw [z_le (by omega) (by omega)]; omega)]
  | d + 1, i, f + 1, B, hi, hst, hf, h, hkn, h1, h2 => by
    have n4 := hC.1
    have e60 : B.1 69 60 = nI nc := by rw [h.2 69 (by omega) (by omega) (by omega)]; exact hC.2.2.2.2.1
    have e117 : B.1 117 i = M.1 53 i := by rw [h.2 117 (by omega) (by omega) (by omega), ← (hC.2.2.2.2.2.2.1 i (by omega)).2.2.2.2.2.1]
    rw [fX12_oneMinute_L2, e60, if_neg (by rw [z_le (by omega) (by omega)]; omega), z_ldI (by omega) (by omega), zbd_some]
    unfold fX12_oneMinute_L43
    simp only [zlet_eq, nI_1]
    by_cases q : B.1 118 i = 1 ∧ B.1 120 i + M.1 53 i = nI m
    · obtain ⟨q1, q2⟩ := q
      obtain ⟨v, v1, v2, v3⟩ := h2 i (Nat.le_refl i) (by omega) q1 q2
      obtain ⟨X, x1, x2, x3, x4, x5, x6⟩ := m_ends (m := m) hR hC (show i < nc by omega) v1 hN h q1 v2 (hkn i hst (by omega))
      have hX : zGB M X := ⟨by rw [x2]; exact h.1, fun a p1 p2 p3 => by rw [x3 a (by omega) (by omega) (by omega) (by omega) (by omega)]; exact h.2 a p1 p2 p3⟩
      have r118 : X.1 118 = B.1 118 := x3 118 (by omega) (by omega) (by omega) (by omega) (by omega)
      have r119 : X.1 119 = B.1 119 := x3 119 (by omega) (by omega) (by omega) (by omega) (by omega)
      have r120 : X.1 120 = B.1 120 := x3 120 (by omega) (by omega) (by omega) (by omega) (by omega)
      obtain ⟨W, w1, w2, w3, w4⟩ := m_L2 hR hC hm hN d (i + 1) f X (by omega) (by omega) (by omega) hX (fun k k1 k2 => by rw [x3 124 (by omega) (by omega) (by omega) (by omega) (by omega)]; exact hkn k k1 k2) (by
        intro u hu
        rw [x4, r118, r119]
        by_cases z : u = v
        · rw [if_pos z]; exact Or.inl rfl
        · rw [if_neg z]; exact h1 u hu) (by
        intro k k1 k2 k3 k4
        rw [r118] at k3
        rw [r120] at k4
        obtain ⟨u, u1, u2, u3⟩ := h2 k (by omega) k2 k3 k4
        refine ⟨u, u1, by rw [r119]; exact u2, ?_⟩
        rw [x4, if_neg (fun z => by rw [z, v3, z_eq (by omega) (by omega)] at u3; omega)]
        exact u3)
      refine ⟨W, ?_, by rw [w2, x2], fun a p1 p2 p3 p4 p5 => by rw [w3 a p1 p2 p3 p4 p5, x3 a p1 p2 p3 p4 p5], fun u hu => ?_⟩
      · rw [if_pos q1, z_ldI (by omega) (by omega), zbd_some, z_ldI (by omega) (by omega), zbd_some, e117, if_pos q2, x1, zbd_some]
        exact w1
      · rcases w4 u hu with ⟨k, k1, ⟨z1, z2, z3, z4⟩, k3, k4, k5⟩ | ⟨k1, k2, k3, k4⟩
        · have huv : u ≠ v := fun z => by rw [x4, if_pos z, z_m1' (by omega)] at z3; exact z3
          rw [x4, if_neg huv] at z3
          rw [r120] at z4 k5
          rw [x5, if_neg huv] at k4 k5
          rw [x6, if_neg huv] at k5
          exact Or.inl ⟨k, by omega, ⟨z1, z2, z3, z4⟩, k3, k4, k5⟩
        · by_cases huv : u = v
          · subst huv
            refine Or.inl ⟨i, Nat.le_refl i, ⟨hst, by omega, v3, q2⟩, ?_, ?_, ?_⟩
            · rw [k2, x4, if_pos rfl]
            · rw [k4, x5, if_pos rfl]
            · rw [k3, x6, if_pos rfl]
          · rw [x4, if_neg huv] at k2
            rw [x5, if_neg huv] at k4
            rw [x6, if_neg huv] at k3
            refine Or.inr ⟨?_, k2, k3, k4⟩
            rintro ⟨k, j1, z1, z2, z3, z4⟩
            by_cases e : k = i
            · subst e
              rcases h1 u hu with y | ⟨k', y1, y2, y3, y4, y5⟩
              · rw [y, z_m1' (by omega)] at z3; exact z3
              · rw [z3, z_eq (by omega) (by omega)] at y3
                subst y3
                rw [v2, z_eq (by omega) (by omega)] at y5
                exact huv y5.symm
            · exact k1 ⟨k, by omega, z1, z2, by rw [x4, if_neg huv]; exact z3, by rw [r120]; exact z4⟩
    · obtain ⟨W, w1, w2, w3, w4⟩ := m_L2 hR hC hm hN d (i + 1) f B (by omega) (by omega) (by omega) h hkn h1 (fun k k1 k2 k3 k4 => h2 k (by omega) k2 k3 k4)
      have hiff : ∀ v, v < 8 → ((∃ k, i ≤ k ∧ zec nst nc M (B.1 120) (B.1 127) m v k) ↔ ∃ k, i + 1 ≤ k ∧ zec nst nc M (B.1 120) (B.1 127) m v k) := by
        intro v hv
        constructor
        · rintro ⟨k, j1, z1, z2, z3, z4⟩
          refine ⟨k, ?_, z1, z2, z3, z4⟩
          rcases Nat.lt_or_ge i k with y | y
          · exact y
          · have e : k = i := by omega
            subst e
            rcases h1 v hv with y | ⟨k', y1, y2, y3, y4, y5⟩
            · rw [y, z_m1' (by omega)] at z3; exact z3.elim
            · rw [z3, z_eq (by omega) (by omega)] at y3
              subst y3
              exact absurd ⟨y4, z4⟩ q
        · rintro ⟨k, j1, z⟩; exact ⟨k, by omega, z⟩
      refine ⟨W, ?_, w2, w3, fun v hv => ?_⟩
      · by_cases q1 : B.1 118 i = 1
        · rw [if_pos q1, z_ldI (by omega) (by omega), zbd_some, z_ldI (by omega) (by omega), zbd_some, e117, if_neg (fun z => q ⟨q1, z⟩)]
          exact w1
        · rw [if_neg q1]; exact w1
      · rcases w4 v hv with ⟨k, k1, k2⟩ | ⟨k1, k2⟩
        · exact Or.inl ⟨k, by omega, k2⟩
        · exact Or.inr ⟨fun z => k1 ((hiff v hv).mp z), k2⟩
end GO
