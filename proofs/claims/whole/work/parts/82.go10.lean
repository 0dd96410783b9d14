/-! GO: the reference looks for the next call -/
section GO
variable {tl nv ns c no nc nst nn r0 lv nr cs : Nat} {M : zMem} {R : Nat → Nat × Nat × List (Nat × Nat) × List (Nat × List (Nat × Nat) × List (Nat × Nat))} {N : Nat} {K : Nat → Int32}
theorem m_firstOf {B : zMem} (hR : zRu r0 lv nr cs R M) (hC : gCalls nv c nc nst M) {k m : Nat} (hk : k < nc) (hN : 2000 < N) (h : zGB M B) (hq : ¬ B.1 118 k = 1) (hkn : B.1 124 k = K (M.1 50 k).toNatClampNeg) : ∃ W, zeR B W ∧ fX12_firstOf N (nI k) (nI m) B = some (zfirst M R nr K m k, W) := by
  obtain ⟨Y, y1, y2, y3⟩ := m_asks (K := K) hC h hk (nI m) 0 hkn
  rw [if_neg hq] at y2
  have hY := zGB_e h (zeR_122 y3)
  obtain ⟨X, x1, x2⟩ := m_firstL hR hC hk hN nr 0 N Y (by omega) (by have := hR.2.2.2.1; omega) hY y2
  have e18 : Y.1 69 18 = nI lv := by rw [hY.2 69 (by omega) (by omega) (by omega)]; exact hR.2.2.1
  refine ⟨X, zeR_t (zeR_122 y3) x1, ?_⟩
  unfold fX12_firstOf
  rw [y1, zbd_some, zlet_eq, e18, show (20 : Int32) = nI 20 from rfl, z_mul]
  rw [Nat.add_zero] at x2
  exact x2
/-- rows that the reference's line-up changes -/
def zeS (M W : zMem) : Prop := W.2 = M.2 ∧ ∀ a, a ≠ 122 → a ≠ 123 → a ≠ 125 → a ≠ 130 → W.1 a = M.1 a
theorem m_L145 (hR : zRu r0 lv nr cs R M) (hC : gCalls nv c nc nst M) {m : Nat} {A54 : Nat → Int32} (hN : 2000 < N) {B0 : zMem} (hwt : ∀ k, nst ≤ k → k < nc → B0.1 126 k = zbi (zwt M A54 m k)) (hst : ∀ k, nst ≤ k → k < nc → zwt M A54 m k = true → ¬ B0.1 118 k = 1) (hkn : ∀ k, nst ≤ k → k < nc → B0.1 124 k = K (M.1 50 k).toNatClampNeg) : ∀ d i f (B : zMem), nst + i + d = nc → d < f → zGB M B → zeS B0 B → (∀ k, nst ≤ k → k < nst + i → zwt M A54 m k = true → B.1 125 k = zfirst M R nr K m k ∧ B.1 130 k = 0) →
    ∃ X, fX12_oneMinute_L145 N f (nI nst) (nI m) (nI (zline (zfirst M R nr K m) (zwt M A54 m) nst i).1) (nI (nst + i)) B = fX12_oneMinute_L198 N N (nI nst) (nI m) (nI (zline (zfirst M R nr K m) (zwt M A54 m) nst (i + d)).1) X ∧ zGB M X ∧ zeS B0 X ∧ ∀ k, nst ≤ k → k < nc → zwt M A54 m k = true → X.1 125 k = zfirst M R nr K m k ∧ X.1 130 k = 0
  | 0, i, f + 1, B, hi, hf, h, hS, hl => by
    have n4 := hC.1
    have e60 : B.1 69 60 = nI nc := by rw [h.2 69 (by omega) (by omega) (by omega)]; exact hC.2.2.2.2.1
    refine ⟨B, ?_, h, hS, fun k k1 k2 k3 => hl k k1 (by omega) k3⟩
    rw [fX12_oneMinute_L145, e60, if_pos (by rw [z_le (by omega) (by omega)]; omega)]
    rfl
  | d + 1, i, f + 1, B, hi, hf, h, hS, hl => by
    have n4 := hC.1
    have e60 : B.1 69 60 = nI nc := by rw [h.2 69 (by omega) (by omega) (by omega)]; exact hC.2.2.2.2.1
    have e126 : B.1 126 (nst + i) = zbi (zwt M A54 m (nst + i)) := by rw [hS.2 126 (by omega) (by omega) (by omega) (by omega)]; exact hwt _ (by omega) (by omega)
    rw [fX12_oneMinute_L145, e60, if_neg (by rw [z_le (by omega) (by omega)]; omega), z_ldI (by omega) (by omega), zbd_some, e126, show i + (d + 1) = i + 1 + d by omega]
    unfold fX12_oneMinute_L192
    cases hw : zwt M A54 m (nst + i)
    · have el : zline (zfirst M R nr K m) (zwt M A54 m) nst (i + 1) = zline (zfirst M R nr K m) (zwt M A54 m) nst i := by rw [zline, if_neg (by rw [hw]; decide)]
      have := m_L145 hR hC hN hwt hst hkn d (i + 1) f B (by omega) (by omega) h hS (fun k k1 k2 k3 => by
        rcases Nat.lt_or_ge k (nst + i) with z | z
        · exact hl k k1 z k3
        · have : k = nst + i := by omega
          subst this; rw [hw] at k3; cases k3)
      rw [el] at this
      rw [if_pos (show zbi false = 0 from rfl), zlet_eq, nI_1, show nst + i + 1 = nst + (i + 1) by omega]
      exact this
    · have el1 : (zline (zfirst M R nr K m) (zwt M A54 m) nst (i + 1)).1 = (zline (zfirst M R nr K m) (zwt M A54 m) nst i).1 + 1 := by rw [zline, if_pos hw]
      obtain ⟨W, w1, w2⟩ := m_firstOf (K := K) (m := m) hR hC (show nst + i < nc by omega) hN h (by rw [hS.2 118 (by omega) (by omega) (by omega) (by omega)]; exact hst _ (by omega) (by omega) hw) (by rw [hS.2 124 (by omega) (by omega) (by omega) (by omega)]; exact hkn _ (by omega) (by omega))
      have hW := zGB_e h w1
      rw [if_neg (by decide), w2, zb2_some, z_stI (by omega) (by omega), zbd_some, z_stZ (by omega) (by omega) (Or.inl rfl), zbd_some, zlet_eq, zlet_eq, nI_1, nI_1, ← el1, show nst + i + 1 = nst + (i + 1) by omega]
      refine m_L145 hR hC hN hwt hst hkn d (i + 1) f _ (by omega) (by omega) ⟨hW.1, fun a p1 p2 p3 => by rw [zpI_r _ _ (by omega), zpI_r _ _ (by omega)]; exact hW.2 a p1 p2 p3⟩ ⟨by show W.2 = _; rw [w1.1, hS.1], fun a p1 p2 p3 p4 => by rw [zpI_r _ _ p4, zpI_r _ _ p3, w1.2 a p1 p2, hS.2 a p1 p2 p3 p4]⟩ (fun k k1 k2 k3 => ?_)
      simp only [zpI_1]
      by_cases z : k = nst + i
      · subst z; simp
      · obtain ⟨y1, y2⟩ := hl k k1 (by omega) k3
        have q1 : W.1 125 k = zfirst M R nr K m k := by rw [w1.2 125 (by omega) (by omega)]; exact y1
        have q2 : W.1 130 k = 0 := by rw [w1.2 130 (by omega) (by omega)]; exact y2
        simp [z, q1, q2]
/-- who is still to be asked: those from i on in the line -/
def zsel (fv : Nat → Int32) (nst nc n i : Nat) (l : Nat → Nat) (B : zMem) : Prop := (∀ j, j < n → B.1 125 (l j) = fv (l j)) ∧ ∀ k, nst ≤ k → k < nc → ((¬ B.1 126 k = 0 ∧ B.1 130 k = 0) ↔ ∃ j, i ≤ j ∧ j < n ∧ l j = k)
theorem m_L208 {fv : Nat → Int32} {wt : Nat → Bool} {n i : Nat} {l : Nat → Nat} {B : zMem} (hC : gCalls nv c nc nst M) (h : zGB M B) (hln : zln fv wt nst nc n l) (hi : i < n) (hs : zsel fv nst nc n i l B) {k198 : Int32 → Int32 → Int32 → zMem → Option zMem} {x2 x3 : Int32} : ∀ d p f b, nst ≤ p → p + d = nc → d < f → (b = none → ∀ j, i ≤ j → j < n → p ≤ l j) → (∀ k, b = some k → k < p ∧ ∃ j0, i ≤ j0 ∧ j0 < n ∧ l j0 = k ∧ ∀ j, i ≤ j → j < n → l j < p → fv (l j) < fv k ∨ (fv (l j) = fv k ∧ k ≤ l j)) →
    fX12_oneMinute_L208 N k198 f (nI nst) x2 x3 (zoi b) (nI p) B = (fX12_takes N (nI (l i)) x2 (zpI B 130 (l i) 1)).bind fun M28 => zlet (x3 + (-1 : Int32)) fun x3_29 => k198 (nI nst) x2 x3_29 M28
  | 0, p, f + 1, b, hp, hd, hf, hb0, hb => by
    have n4 := hC.1
    have e60 : B.1 69 60 = nI nc := by rw [h.2 69 (by omega) (by omega) (by omega)]; exact hC.2.2.2.2.1
    have eb : b = some (l i) := by
      cases b with
      | none =>
        have := hb0 rfl i (Nat.le_refl i) hi
        have := (hln.1 i hi).2.1
        omega
      | some k =>
        obtain ⟨k1, j0, j1, j2, j3, j4⟩ := hb k rfl
        by_cases e : j0 = i
        · rw [← j3, e]
        · exfalso
          have hc := hln.2.2 i j0 (by omega) j2
          have hq := j4 i (Nat.le_refl i) hi (by have := (hln.1 i hi).2.1; omega)
          rw [j3] at hc
          rcases hc with y | ⟨y, y2⟩
          · rcases hq with z | ⟨z, -⟩
            · exact absurd (Int32.le_of_lt z) (Int32.not_le.mpr y)
            · rw [z] at y; exact absurd y (Int32.not_lt.mpr (Int32.le_refl _))
          · rcases hq with z | ⟨-, z⟩
            · rw [y] at z; exact absurd z (Int32.not_lt.mpr (Int32.le_refl _))
            · omega
    have hli := hln.1 i hi
    subst eb
    rw [fX12_oneMinute_L208, e60, if_pos (by rw [z_le (by omega) (by omega)]; omega), show zoi (some (l i)) = nI (l i) from rfl, z_stZ (by omega) (by omega) (Or.inr rfl), zbd_some]
  | d + 1, p, f + 1, b, hp, hd, hf, hb0, hb => by
    have n4 := hC.1
    have e60 : B.1 69 60 = nI nc := by rw [h.2 69 (by omega) (by omega) (by omega)]; exact hC.2.2.2.2.1
    have hcand := hs.2 p hp (by omega)
    -- p is none of them: go on
    have skip : (¬ ∃ j, i ≤ j ∧ j < n ∧ l j = p) → fX12_oneMinute_L264 N k198 (fX12_oneMinute_L208 N k198 f) (nI nst) x2 x3 (zoi b) (nI p) B = (fX12_takes N (nI (l i)) x2 (zpI B 130 (l i) 1)).bind fun M28 => zlet (x3 + (-1 : Int32)) fun x3_29 => k198 (nI nst) x2 x3_29 M28 := by
      intro hno
      unfold fX12_oneMinute_L264
      rw [zlet_eq, nI_1]
      refine m_L208 hC h hln hi hs d (p + 1) f b (by omega) (by omega) (by omega) (fun e j j1 j2 => ?_) (fun k e => ?_)
      · have := hb0 e j j1 j2
        have hne : l j ≠ p := fun z => hno ⟨j, j1, j2, z⟩
        omega
      · obtain ⟨k1, j0, y1, y2, y3, y4⟩ := hb k e
        refine ⟨by omega, j0, y1, y2, y3, fun j j1 j2 j3 => y4 j j1 j2 ?_⟩
        have hne : l j ≠ p := fun z => hno ⟨j, j1, j2, z⟩
        omega
    have take_ : (∃ j, i ≤ j ∧ j < n ∧ l j = p) → (∀ k, b = some k → fv k < fv p) → fX12_oneMinute_L260 N k198 (fX12_oneMinute_L208 N k198 f) (nI nst) x2 x3 (nI p) B = (fX12_takes N (nI (l i)) x2 (zpI B 130 (l i) 1)).bind fun M28 => zlet (x3 + (-1 : Int32)) fun x3_29 => k198 (nI nst) x2 x3_29 M28 := by
      rintro ⟨j0, y1, y2, y3⟩ hlt
      unfold fX12_oneMinute_L260 fX12_oneMinute_L264
      rw [zlet_eq, nI_1]
      refine m_L208 hC h hln hi hs d (p + 1) f (some p) (by omega) (by omega) (by omega) (fun e => by cases e) (fun k e => ?_)
      have ek : p = k := Option.some.inj e
      subst ek
      refine ⟨by omega, j0, y1, y2, y3, fun j j1 j2 j3 => ?_⟩
      by_cases z : l j = p
      · exact Or.inr ⟨by rw [z], by omega⟩
      · cases b with
        | none => have := hb0 rfl j j1 j2; omega
        | some k =>
          obtain ⟨k1, jj, q1, q2, q3, q4⟩ := hb k rfl
          have hlt' := hlt k rfl
          rcases q4 j j1 j2 (by omega) with w | ⟨w, -⟩
          · exact Or.inl (fa_trans w (Int32.le_of_lt hlt'))
          · rw [w]; exact Or.inl hlt'
    rw [fX12_oneMinute_L208, e60, if_neg (by rw [z_le (by omega) (by omega)]; omega), z_ldI (by omega) (by omega), zbd_some]
    by_cases q1 : B.1 126 p = 0
    · rw [if_pos q1]
      exact skip (fun z => (hcand.mpr z).1 q1)
    · rw [if_neg q1, z_ldI (by omega) (by omega), zbd_some]
      by_cases q2 : B.1 130 p = 0
      · have hc := hcand.mp ⟨q1, q2⟩
        rw [if_pos q2]
        cases b with
        | none =>
          rw [if_pos (show zoi none = -1 from rfl)]
          exact take_ hc (fun k e => by cases e)
        | some k =>
          obtain ⟨k1, jj, y1, y2, y3, y4⟩ := hb k rfl
          obtain ⟨j0, z1, z2, z3⟩ := hc
          have f1 : B.1 125 p = fv p := by rw [← z3]; exact hs.1 j0 z2
          have f2 : B.1 125 k = fv k := by rw [← y3]; exact hs.1 jj y2
          rw [show zoi (some k) = nI k from rfl, if_neg (show ¬ nI k = -1 by rw [z_m1 (by omega)]; exact id), z_ldI (by omega) (by omega), zbd_some, z_ldI (by omega) (by omega), zbd_some, f1, f2]
          by_cases w : fv p ≤ fv k
          · rw [if_pos w]
            -- not greater: stays
            unfold fX12_oneMinute_L264
            rw [zlet_eq, nI_1]
            refine m_L208 hC h hln hi hs d (p + 1) f (some k) (by omega) (by omega) (by omega) (fun e => by cases e) (fun k' e => ?_)
            have ek : k = k' := Option.some.inj e
            subst ek
            refine ⟨by omega, jj, y1, y2, y3, fun j j1 j2 j3 => ?_⟩
            by_cases t : l j = p
            · rw [t]
              rcases fa_three (fv p) (fv k) with u | u | u
              · exact Or.inl u
              · exact Or.inr ⟨u, by omega⟩
              · exact absurd w (Int32.not_le.mpr u)
            · exact y4 j j1 j2 (by omega)
          · rw [if_neg w]
            exact take_ ⟨j0, z1, z2, z3⟩ (fun k' e => by
              have ek : k = k' := Option.some.inj e
              subst ek
              exact Int32.not_le.mp w)
      · rw [if_neg q2]
        exact skip (fun z => q2 (hcand.mpr z).2)
end GO
