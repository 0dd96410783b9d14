/-! GO: class and reference side by side -/
def zmi (M : zMem) (k : Nat) : Nat := (M.1 49 k).toNatClampNeg
def zle (M : zMem) (k : Nat) : Nat := (M.1 53 k).toNatClampNeg
def d1 (nc : Nat) (A B : zMem) : Prop := ∀ k, k < nc → A.1 54 k = B.1 118 k ∧ A.1 55 k = B.1 119 k ∧ A.1 56 k = B.1 120 k
def d2 (A B : zMem) : Prop := ∀ v, v < 8 → A.1 58 v = B.1 127 v ∧ A.1 60 v = B.1 129 v
def d3 (nv nc nst : Nat) (A : zMem) : Prop := ∀ k, nst ≤ k → k < nc → (A.1 54 k = 0 ∧ A.1 55 k = -1 ∧ A.1 56 k = -1) ∨ (∃ v t, v < nv ∧ t < 360 ∧ A.1 54 k = 1 ∧ A.1 55 k = nI v ∧ A.1 56 k = nI t) ∨ (∃ t, t < 360 ∧ A.1 54 k = 2 ∧ A.1 55 k = -1 ∧ A.1 56 k = nI t)
def d4 (M : zMem) (nc nst m : Nat) (A : zMem) : Prop := (∀ v, v < 8 → A.1 58 v = -1 ∨ ∃ k t, nst ≤ k ∧ k < nc ∧ t < 360 ∧ A.1 58 v = nI k ∧ A.1 54 k = 1 ∧ A.1 55 k = nI v ∧ A.1 56 k = nI t ∧ m ≤ t + zle M k) ∧ ∀ k v t, nst ≤ k → k < nc → v < 8 → t < 360 → A.1 54 k = 1 → A.1 55 k = nI v → A.1 56 k = nI t → m ≤ t + zle M k → A.1 58 v = nI k
def d5 (m : Nat) (A B : zMem) : Prop := ∀ v, v < 8 → (A.1 59 v = B.1 128 v ∨ (A.1 59 v ≤ nI m ∧ B.1 128 v ≤ nI m)) ∧ (A.1 58 v ≠ -1 → A.1 59 v ≤ nI m ∧ B.1 128 v ≤ nI m)
def d6 (M : zMem) (nc nst : Nat) (A B : zMem) : Prop := ∀ k, nst ≤ k → k < nc → B.1 124 k = A.1 61 (M.1 50 k).toNatClampNeg
def d7 (M : zMem) (c nc nst : Nat) (A B : zMem) : Prop := ∀ v, v < 8 → (∀ n, n < 200 → n ≠ c → B.1 97 (200 * v + n) = M.1 97 (200 * v + n)) ∧ (B.1 97 (200 * v + c) = 0 ∨ B.1 97 (200 * v + c) = 1) ∧ (B.1 97 (200 * v + c) = 1 ↔ ∃ k, nst ≤ k ∧ k < nc ∧ A.1 55 k = nI v ∧ nI 8 ≤ M.1 51 k)
def d8 (M : zMem) (nst : Nat) (A : zMem) : Prop := ∀ k, k < nst → A.1 54 k = M.1 54 k ∧ A.1 55 k = M.1 55 k ∧ A.1 56 k = M.1 56 k
def d9 (nc nst : Nat) (A : zMem) : Prop := A.1 57 12 = nI (zcr (fun k => A.1 54 k == 1) nst (nc - nst))
def d10 (M : zMem) (nc nst w : Nat) (A B : zMem) : Prop := ∀ k, nst ≤ k → k < nc → B.1 126 k = zbi (decide (A.1 54 k = 0) && decide (zmi M k < w))
def d11 (M : zMem) (nc nst w : Nat) (A : zMem) : Prop := ∀ k, nst ≤ k → k < nc → w ≤ zmi M k → A.1 54 k = 0
def zDy (M : zMem) (nv c nc nst m w q : Nat) (A B : zMem) : Prop := d1 nc A B ∧ d2 A B ∧ d3 nv nc nst A ∧ d4 M nc nst m A ∧ d5 q A B ∧ d6 M nc nst A B ∧ d7 M c nc nst A B ∧ d8 M nst A ∧ d9 nc nst A ∧ d10 M nc nst w A B ∧ d11 M nc nst w A
/-- scratch rows do not matter -/
theorem zDy_e {M A B W X : zMem} {nv c nc nst m w q : Nat} (h : zDy M nv c nc nst m w q A B) (hA : ∀ a, a = 54 ∨ a = 55 ∨ a = 56 ∨ a = 57 ∨ a = 58 ∨ a = 59 ∨ a = 60 ∨ a = 61 → W.1 a = A.1 a) (hB : ∀ a, a = 97 ∨ a = 118 ∨ a = 119 ∨ a = 120 ∨ a = 124 ∨ a = 126 ∨ a = 127 ∨ a = 128 ∨ a = 129 → X.1 a = B.1 a) : zDy M nv c nc nst m w q W X := by
  unfold zDy d1 d2 d3 d4 d5 d6 d7 d8 d9 d10 d11 at *
  rw [hA 54 (by omega), hA 55 (by omega), hA 56 (by omega), hA 57 (by omega), hA 58 (by omega), hA 59 (by omega), hA 60 (by omega), hA 61 (by omega), hB 97 (by omega), hB 118 (by omega), hB 119 (by omega), hB 120 (by omega), hB 124 (by omega), hB 126 (by omega), hB 127 (by omega), hB 128 (by omega), hB 129 (by omega)]
  exact h
section GO
variable {tl nv ns c no nc nst nn r0 lv nr cs : Nat} {M : zMem} {R : Nat → Nat × Nat × List (Nat × Nat) × List (Nat × List (Nat × Nat) × List (Nat × Nat))} {N : Nat}
theorem zle_e (hC : gCalls nv c nc nst M) {k : Nat} (hk : k < nc) : M.1 53 k = nI (zle M k) ∧ 1 ≤ zle M k ∧ zle M k ≤ 90 := by
  obtain ⟨-, -, -, -, -, ⟨n, n1, n2, n3⟩, -⟩ := hC.2.2.2.2.2.2.2 k hk
  unfold zle
  rw [n3, z_cl (by omega)]
  exact ⟨rfl, n1, n2⟩
theorem zmi_e (hC : gCalls nv c nc nst M) {k : Nat} (hk : k < nc) : M.1 49 k = nI (zmi M k) ∧ zmi M k < 360 := by
  obtain ⟨-, ⟨n, n1, n3⟩, -⟩ := hC.2.2.2.2.2.2.2 k hk
  unfold zmi
  rw [n3, z_cl (by omega)]
  exact ⟨rfl, n1⟩
/-- phase 1: calls end -/
theorem g_ends (hR : zRu r0 lv nr cs R M) (hC : gCalls nv c nc nst M) (hv8 : nv ≤ 8) {m : Nat} (hm : m < 360) (hN : 2000 < N) {A B : zMem} (hA : zGA M c r0 A) (hB : zGB M B) (h : zDy M nv c nc nst m m m A B) :
    ∃ W X, fX2_endCalls N (nI m) A = some W ∧ fX12_oneMinute N (nI nst) (nI m) B = fX12_oneMinute_L51 N N (nI nst) (nI m) (nI nst) X ∧ zGA M c r0 W ∧ zGB M X ∧ zDy M nv c nc nst (m + 1) m m W X := by
  obtain ⟨e1, e2, e3, e4, e5, e6, e7, e8, e9, e10, e11⟩ := h
  have n4 := hC.1
  have nst4 := hC.2.1
  obtain ⟨W, w1, w2, w3, -, w5⟩ := p_endL hR hC hm (show 500 < N by omega) 8 0 N A (by omega) (by omega) hA (by
    intro v hv
    rcases e4.1 v hv with z | ⟨k, t, z1, z2, z3, z4, z5, -⟩
    · exact Or.inl z
    · exact Or.inr ⟨k, z1, z2, z4, z5⟩)
  obtain ⟨X, x1, x2, x3, x4⟩ := m_L2 (K := A.1 61) hR hC hm hN (nc - nst) nst N B (by omega) (Nat.le_refl nst) (by omega) hB (fun k k1 k2 => e6 k k1 k2) (by
    intro v hv
    rw [← (e2 v hv).1]
    rcases e4.1 v hv with z | ⟨k, t, z1, z2, z3, z4, z5, z6, -⟩
    · exact Or.inl z
    · exact Or.inr ⟨k, z1, z2, z4, by rw [← (e1 k z2).1]; exact z5, by rw [← (e1 k z2).2.1]; exact z6⟩) (by
    intro k k1 k2 k3 k4
    rw [← (e1 k k2).1] at k3
    rw [← (e1 k k2).2.2] at k4
    obtain ⟨l1, l2, l3⟩ := zle_e hC k2
    rcases e3 k k1 k2 with ⟨z, -⟩ | ⟨v, t, z1, z2, z3, z4, z5⟩ | ⟨t, z1, z2, -⟩
    · rw [z] at k3; exact absurd k3 (by decide)
    · refine ⟨v, by omega, by rw [← (e1 k k2).2.1]; exact z4, ?_⟩
      rw [← (e2 v (by omega)).1]
      rw [z5, l1, z_add, z_eq (by omega) (by omega)] at k4
      exact e4.2 k v t k1 k2 (by omega) z2 z3 z4 z5 (by omega)
    · rw [z2] at k3; exact absurd k3 (by decide))
  have hzec : ∀ v, v < 8 → ∀ k, (zec nst nc M (B.1 120) (B.1 127) m v k ↔ zec nst nc M (A.1 56) (A.1 58) m v k) := by
    intro v hv k
    unfold zec
    constructor
    · rintro ⟨z1, z2, z3, z4⟩
      exact ⟨z1, z2, by rw [(e2 v hv).1]; exact z3, by rw [(e1 k z2).2.2]; exact z4⟩
    · rintro ⟨z1, z2, z3, z4⟩
      exact ⟨z1, z2, by rw [← (e2 v hv).1]; exact z3, by rw [← (e1 k z2).2.2]; exact z4⟩
  have hrow : ∀ a, a = 54 ∨ a = 55 ∨ a = 56 ∨ a = 57 ∨ a = 61 → W.1 a = A.1 a := fun a ha => w3 a (by omega) (by omega) (by omega) (by omega) (by omega) (by omega)
  have hrowB : ∀ a, a = 97 ∨ a = 118 ∨ a = 119 ∨ a = 120 ∨ a = 124 ∨ a = 126 → X.1 a = B.1 a := fun a ha => x3 a (by omega) (by omega) (by omega) (by omega) (by omega)
  -- each volunteer, on both sides
  have each : ∀ v, v < 8 → (∃ k, zec nst nc M (A.1 56) (A.1 58) m v k ∧ W.1 58 v = -1 ∧ X.1 127 v = -1 ∧ W.1 60 v = X.1 129 v ∧ (W.1 59 v = X.1 128 v ∨ (W.1 59 v ≤ nI m ∧ X.1 128 v ≤ nI m))) ∨ ((¬ ∃ k, zec nst nc M (A.1 56) (A.1 58) m v k) ∧ W.1 58 v = A.1 58 v ∧ X.1 127 v = B.1 127 v ∧ W.1 60 v = A.1 60 v ∧ X.1 129 v = B.1 129 v ∧ W.1 59 v = A.1 59 v ∧ X.1 128 v = B.1 128 v) := by
    intro v hv
    rcases w5 v (Nat.zero_le v) hv with ⟨k, k1, k2, k3, k4⟩ | ⟨k1, k2, k3, k4⟩
    · rcases x4 v hv with ⟨k', j0, j1, j2, j3, j4⟩ | ⟨j1, -⟩
      · have j1' := (hzec v hv k').mp j1
        have ekk : k' = k := by
          have q1 := k1.2.2.1
          have q2 := j1'.2.2.1
          have := k1.2.1
          have := j1'.2.1
          rw [q1, z_eq (by omega) (by omega)] at q2
          exact q2.symm
        subst ekk
        refine Or.inl ⟨k', k1, k2, j2, ?_, ?_⟩
        · rw [k3, j3, (e2 v hv).2]
        · have hrr : zrr R nr M (A.1 61) (B.1 120) m k' (B.1 129 v) = zrr R nr M (A.1 61) (A.1 56) m k' (A.1 60 v) := by
            unfold zrr
            rw [← (e1 k' k1.2.1).2.2, ← (e2 v hv).2]
          rw [k4, j4, hrr]
          have hb := (e5 v hv).2 (by rw [k1.2.2.1]; intro z; rw [z_m1 (by have := k1.2.1; omega)] at z; exact z)
          cases zrr R nr M (A.1 61) (A.1 56) m k' (A.1 60 v) with
          | none =>
            refine Or.inr ⟨?_, hb.2⟩
            show nI m + 0 ≤ nI m
            rw [show (0 : Int32) = nI 0 from rfl, z_add, z_le (by omega) (by omega)]
            omega
          | some r => exact Or.inl rfl
      · exact absurd ⟨k, k1.1, (hzec v hv k).mpr k1⟩ j1
    · rcases x4 v hv with ⟨k', j0, j1, -⟩ | ⟨j1, j2, j3, j4⟩
      · exact absurd ⟨k', (hzec v hv k').mp j1⟩ k1
      · exact Or.inr ⟨k1, k2, j2, k4, j4, k3, j3⟩
  refine ⟨W, X, w1, x1, ⟨by rw [w2]; exact hA.1, by rw [w2]; exact hA.2.1, fun a p1 p2 p3 p4 => by rw [w3 a (by omega) (by omega) (by omega) (by omega) p2 p3]; exact hA.2.2.1 a p1 p2 p3 p4, by rw [hrow 57 (by omega)]; exact hA.2.2.2⟩, ⟨by rw [x2]; exact hB.1, fun a p1 p2 p3 => by rw [x3 a (by omega) (by omega) (by omega) (by omega) (by omega)]; exact hB.2 a p1 p2 p3⟩, ?_, ?_, ?_, ?_, ?_, ?_, ?_, ?_, ?_, ?_, ?_⟩
  · unfold d1
    rw [hrow 54 (by omega), hrow 55 (by omega), hrow 56 (by omega), hrowB 118 (by omega), hrowB 119 (by omega), hrowB 120 (by omega)]
    exact e1
  · intro v hv
    rcases each v hv with ⟨k, k1, k2, k3, k4, k5⟩ | ⟨k1, k2, k3, k4, k5, k6, k7⟩
    · exact ⟨by rw [k2, k3], k4⟩
    · exact ⟨by rw [k2, k3]; exact (e2 v hv).1, by rw [k4, k5]; exact (e2 v hv).2⟩
  · unfold d3
    rw [hrow 54 (by omega), hrow 55 (by omega), hrow 56 (by omega)]
    exact e3
  · unfold d4
    rw [hrow 54 (by omega), hrow 55 (by omega), hrow 56 (by omega)]
    refine ⟨fun v hv => ?_, fun k v t k1 k2 hv ht k3 k4 k5 k6 => ?_⟩
    · rcases each v hv with ⟨k, k1, k2, k3, k4, k5⟩ | ⟨k1, k2, -⟩
      · exact Or.inl k2
      · rw [k2]
        rcases e4.1 v hv with z | ⟨k, t, z1, z2, z3, z4, z5, z6, z7, z8⟩
        · exact Or.inl z
        · refine Or.inr ⟨k, t, z1, z2, z3, z4, z5, z6, z7, ?_⟩
          obtain ⟨l1, l2, l3⟩ := zle_e hC z2
          rcases Nat.lt_or_ge m (t + zle M k) with y | y
          · exact y
          · exact absurd ⟨k, z1, z2, z4, by rw [z7, l1, z_add]; congr 1; omega⟩ k1
    · have hold := e4.2 k v t k1 k2 hv ht k3 k4 k5 (by omega)
      rcases each v hv with ⟨k', j1, j2, -⟩ | ⟨j1, j2, -⟩
      · obtain ⟨y1, y2, y3, y4⟩ := j1
        obtain ⟨l1, l2, l3⟩ := zle_e hC k2
        rw [hold, z_eq (by omega) (by omega)] at y3
        subst y3
        rw [k5, l1, z_add, z_eq (by omega) (by omega)] at y4
        omega
      · rw [j2]; exact hold
  · intro v hv
    rcases each v hv with ⟨k, k1, k2, k3, k4, k5⟩ | ⟨k1, k2, k3, k4, k5, k6, k7⟩
    · exact ⟨k5, fun z => absurd k2 z⟩
    · rw [k6, k7, k2]
      exact e5 v hv
  · unfold d6
    rw [hrow 61 (by omega), hrowB 124 (by omega)]
    exact e6
  · unfold d7
    rw [hrow 55 (by omega), hrowB 97 (by omega)]
    exact e7
  · unfold d8
    rw [hrow 54 (by omega), hrow 55 (by omega), hrow 56 (by omega)]
    exact e8
  · unfold d9
    rw [hrow 54 (by omega), hrow 57 (by omega)]
    exact e9
  · unfold d10
    rw [hrow 54 (by omega), hrowB 126 (by omega)]
    exact e10
  · unfold d11
    rw [hrow 54 (by omega)]
    exact e11
end GO
