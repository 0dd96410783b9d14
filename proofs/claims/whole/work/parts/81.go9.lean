/-! GO: the line -/
def zpos (fv : Nat → Int32) (k : Nat) (l : Nat → Nat) : Nat → Nat
  | 0 => 0
  | e + 1 => if fv (l e) < fv k then zpos fv k l e else e + 1
def zat3 (l : Nat → Nat) (k p : Nat) (j : Nat) : Nat := if j < p then l j else if j = p then k else l (j - 1)
def zline (fv : Nat → Int32) (wt : Nat → Bool) (s : Nat) : Nat → Nat × (Nat → Nat)
  | 0 => (0, fun _ => 0)
  | d + 1 => if wt (s + d) = true then ((zline fv wt s d).1 + 1, zat3 (zline fv wt s d).2 (s + d) (zpos fv (s + d) (zline fv wt s d).2 (zline fv wt s d).1)) else zline fv wt s d
/-- the line is in order -/
def zln (fv : Nat → Int32) (wt : Nat → Bool) (s e n : Nat) (l : Nat → Nat) : Prop := (∀ j, j < n → s ≤ l j ∧ l j < e ∧ wt (l j) = true) ∧ (∀ k, s ≤ k → k < e → wt k = true → ∃ j, j < n ∧ l j = k) ∧ ∀ i j, i < j → j < n → fv (l j) < fv (l i) ∨ (fv (l i) = fv (l j) ∧ l i < l j)
theorem zpos_le (fv : Nat → Int32) (k : Nat) (l : Nat → Nat) : ∀ e, zpos fv k l e ≤ e ∧ (∀ j, zpos fv k l e ≤ j → j < e → fv (l j) < fv k) ∧ (∀ j, j + 1 = zpos fv k l e → ¬ fv (l j) < fv k)
  | 0 => ⟨Nat.le_refl 0, fun j _ h => by omega, fun j h => by simp [zpos] at h⟩
  | e + 1 => by
    obtain ⟨h1, h2, h3⟩ := zpos_le fv k l e
    rw [zpos]
    by_cases q : fv (l e) < fv k
    · rw [if_pos q]
      refine ⟨by omega, fun j j1 j2 => ?_, h3⟩
      by_cases z : j = e
      · subst z; exact q
      · exact h2 j j1 (by omega)
    · rw [if_neg q]
      refine ⟨Nat.le_refl _, fun j j1 j2 => by omega, fun j hj => ?_⟩
      have : j = e := by omega
      subst this; exact q
theorem zln_ins {fv : Nat → Int32} {wt : Nat → Bool} {s e n : Nat} {l : Nat → Nat} (h : zln fv wt s e n l) (hse : s ≤ e) (hw : wt e = true) : zln fv wt s (e + 1) (n + 1) (zat3 l e (zpos fv e l n)) := by
  obtain ⟨h1, h2, h3⟩ := h
  obtain ⟨p1, p2, p3⟩ := zpos_le fv e l n
  generalize zpos fv e l n = p at *
  have hl : ∀ j, j < p → zat3 l e p j = l j := fun j hj => by unfold zat3; rw [if_pos hj]
  have he : zat3 l e p p = e := by unfold zat3; rw [if_neg (by omega), if_pos rfl]
  have hr : ∀ j, p < j → zat3 l e p j = l (j - 1) := fun j hj => by unfold zat3; rw [if_neg (by omega), if_neg (by omega)]
  -- those ahead of p have a FIRST at least as great
  have hge : ∀ j, j < p → fv e < fv (l j) ∨ fv e = fv (l j) := by
    intro j hj
    have hlast := p3 (p - 1) (by omega)
    have hle : fv e ≤ fv (l (p - 1)) := Int32.not_lt.mp hlast
    have key : fv e ≤ fv (l j) := by
      by_cases z : j = p - 1
      · rw [z]; exact hle
      · rcases h3 j (p - 1) (by omega) (by omega) with y | ⟨y, -⟩
        · exact Int32.le_trans hle (Int32.le_of_lt y)
        · rw [y]; exact hle
    rcases fa_three (fv e) (fv (l j)) with y | y | y
    · exact Or.inl y
    · exact Or.inr y
    · exact absurd key (Int32.not_le.mpr y)
  refine ⟨fun j hj => ?_, fun k k1 k2 k3 => ?_, fun i j hij hj => ?_⟩
  · rcases Nat.lt_trichotomy j p with q | q | q
    · rw [hl j q]; obtain ⟨a1, a2, a3⟩ := h1 j (by omega); exact ⟨a1, by omega, a3⟩
    · rw [q, he]; exact ⟨hse, by omega, hw⟩
    · rw [hr j q]; obtain ⟨a1, a2, a3⟩ := h1 (j - 1) (by omega); exact ⟨a1, by omega, a3⟩
  · by_cases z : k = e
    · exact ⟨p, by omega, by rw [he, z]⟩
    · obtain ⟨j, j1, j2⟩ := h2 k k1 (by omega) k3
      by_cases q : j < p
      · exact ⟨j, by omega, by rw [hl j q]; exact j2⟩
      · exact ⟨j + 1, by omega, by rw [hr (j + 1) (by omega)]; exact j2⟩
  · rcases Nat.lt_trichotomy i p with q | q | q
    · rw [hl i q]
      rcases Nat.lt_trichotomy j p with r | r | r
      · rw [hl j r]; exact h3 i j hij (by omega)
      · rw [r, he]
        rcases hge i q with y | y
        · exact Or.inl y
        · exact Or.inr ⟨y.symm, (h1 i (by omega)).2.1⟩
      · rw [hr j r]; exact h3 i (j - 1) (by omega) (by omega)
    · rw [q, he, hr j (by omega)]
      exact Or.inl (p2 (j - 1) (by omega) (by omega))
    · rw [hr i q, hr j (by omega)]
      exact h3 (i - 1) (j - 1) (by omega) (by omega)
theorem zline_ok (fv : Nat → Int32) (wt : Nat → Bool) (s : Nat) : ∀ d, zln fv wt s (s + d) (zline fv wt s d).1 (zline fv wt s d).2 ∧ (zline fv wt s d).1 ≤ d
  | 0 => ⟨⟨fun j h => absurd h (Nat.not_lt_zero j), fun k h1 h2 => by omega, fun i j _ h => absurd h (Nat.not_lt_zero j)⟩, Nat.le_refl 0⟩
  | d + 1 => by
    obtain ⟨h, hn⟩ := zline_ok fv wt s d
    rw [zline]
    by_cases q : wt (s + d) = true
    · rw [if_pos q]
      exact ⟨zln_ins h (Nat.le_add_right s d) q, by show _ + 1 ≤ d + 1; omega⟩
    · rw [if_neg q]
      refine ⟨⟨fun j hj => ?_, fun k k1 k2 k3 => ?_, h.2.2⟩, by omega⟩
      · obtain ⟨a1, a2, a3⟩ := h.1 j hj; exact ⟨a1, by omega, a3⟩
      · refine h.2.1 k k1 ?_ k3
        rcases Nat.lt_or_ge k (s + d) with z | z
        · exact z
        · have : k = s + d := by omega
          subst this; exact absurd k3 q
section GO
variable {tl nv ns c no nc nst nn r0 lv nr cs : Nat} {M : zMem} {R : Nat → Nat × Nat × List (Nat × Nat) × List (Nat × List (Nat × Nat) × List (Nat × Nat))} {N : Nat}
theorem pc_firstB {A : zMem} {F : Nat → Int32} (hR : zRu r0 lv nr cs R M) (h : zGA M c r0 A) (hF : ∀ j, j < 6 → A.1 64 j = F j) {kind : Nat} (hkd : kind < 100) (hN : 500 < N) : ∃ W, zdy (A.2.2 57 10) (fX6_firstHolding N (A.2.2 57 10) (nI kind) A) = some (zoi (zfst (zfr R F kind) 0 nr), W) ∧ zbut (r0 + 7) A W := by
  obtain ⟨W, w1, w2⟩ := p_first (zGA_u hR h) hF hkd hN
  refine ⟨W, ?_, w2⟩
  rw [h.2.1]
  unfold zdy
  rw [if_pos hR.1, w1]
/-- the class's insertion -/
theorem p_putL {fv : Nat → Int32} {k w : Nat} {l : Nat → Nat} {M0 : zMem} (hw : w < 40) (h62 : ∀ j, j < w → M0.1 62 j = fv (l j)) (h63 : ∀ j, j < w → M0.1 63 j = nI (l j)) : ∀ e f (M : zMem), e ≤ w → e < f → M.2 = M0.2 → (∀ a, a ≠ 62 → a ≠ 63 → M.1 a = M0.1 a) → (∀ j, j < e → M.1 62 j = fv (l j) ∧ M.1 63 j = nI (l j)) → (∀ j, e < j → j ≤ w → M.1 62 j = fv (l (j - 1)) ∧ M.1 63 j = nI (l (j - 1))) →
    ∃ W, fX2_putInLine_L19 N f (nI k) (fv k) (nI e) (nI e - 1) M = some W ∧ W.2 = M0.2 ∧ (∀ a, a ≠ 62 → a ≠ 63 → W.1 a = M0.1 a) ∧ ∀ j, j ≤ w → W.1 62 j = fv (zat3 l k (zpos fv k l e) j) ∧ W.1 63 j = nI (zat3 l k (zpos fv k l e) j)
  | 0, f + 1, M, he, hf, g1, g2, g3, g4 => by
    have fin := g4
    refine ⟨zpI (zpI M 62 0 (fv k)) 63 0 (nI k), ?_, g1, fun a a1 a2 => by rw [zpI_r _ _ a2, zpI_r _ _ a1]; exact g2 a a1 a2, fun j hj => ?_⟩
    · rw [fX2_putInLine_L19, if_pos (by decide)]
      unfold fX2_putInLine_L77
      rw [z_stI (by omega) (by omega), zbd_some, z_stI (by omega) (by omega), zbd_some]
    · have e0 : zpos fv k l 0 = 0 := rfl
      rw [e0]
      simp only [zpI_1]
      unfold zat3
      rw [if_neg (show ¬ j < 0 by omega)]
      by_cases z : j = 0
      · subst z; simp
      · simp only [z, if_false, and_false]
        have := g4 j (by omega) hj
        simp [this]
  | e + 1, f + 1, M, he, hf, g1, g2, g3, g4 => by
    have hx : nI (e + 1) - 1 = nI e := by rw [show (1 : Int32) = nI 1 from rfl, z_sub (by omega), Nat.add_sub_cancel]
    obtain ⟨q1, q2⟩ := g3 e (by omega)
    rw [fX2_putInLine_L19, hx, if_neg (nI_pos (by omega)), z_ldI (by omega) (by omega), zbd_some, q1, zpos]
    by_cases q : fv (l e) < fv k
    · rw [if_neg (Int32.not_le.mpr q), zbd_some, if_pos q, nI_1, z_stI (by omega) (by omega), zbd_some, z_ldI (by omega) (by omega), zbd_some, show (zpI M 62 (e + 1) (fv (l e))).1 63 e = nI (l e) from q2, z_stI (by omega) (by omega), zbd_some, zlet_eq]
      have hm1 : nI e + (-1 : Int32) = nI e - 1 := by rw [Int32.sub_eq_add_neg]
      rw [hm1]
      refine p_putL hw h62 h63 e f _ (by omega) (by omega) g1 (fun a a1 a2 => by rw [zpI_r _ _ a2, zpI_r _ _ a1]; exact g2 a a1 a2) ?_ ?_
      · intro j hj
        simp only [zpI_1]
        obtain ⟨y1, y2⟩ := g3 j (by omega)
        have z : ¬ j = e + 1 := by omega
        simp [z, y1, y2]
      · intro j j1 j2
        simp only [zpI_1]
        by_cases z : j = e + 1
        · subst z; simp
        · obtain ⟨y1, y2⟩ := g4 j (by omega) j2
          simp [z, y1, y2]
    · rw [if_pos (Int32.not_lt.mp q), if_neg q]
      unfold fX2_putInLine_L77
      rw [z_stI (by omega) (by omega), zbd_some, z_stI (by omega) (by omega), zbd_some]
      refine ⟨_, rfl, g1, fun a a1 a2 => by rw [zpI_r _ _ a2, zpI_r _ _ a1]; exact g2 a a1 a2, fun j hj => ?_⟩
      simp only [zpI_1]
      unfold zat3
      by_cases z : j < e + 1
      · obtain ⟨y1, y2⟩ := g3 j z
        have z2 : ¬ j = e + 1 := by omega
        simp [z, z2, y1, y2]
      · rw [if_neg z]
        by_cases z2 : j = e + 1
        · subst z2; simp
        · obtain ⟨y1, y2⟩ := g4 j (by omega) hj
          simp [z2, y1, y2]
/-- FIRST of a call -/
def zfirst (M : zMem) (R : Nat → Nat × Nat × List (Nat × Nat) × List (Nat × List (Nat × Nat) × List (Nat × Nat))) (nr : Nat) (K : Nat → Int32) (m k : Nat) : Int32 := zfv R (zF M K k (nI m) (nI m) 0) (M.1 51 k) (zfst (zfr R (zF M K k (nI m) (nI m) 0) 4) 0 nr)
def zwt (M : zMem) (A54 : Nat → Int32) (m k : Nat) : Bool := decide (A54 k = 0) && decide (zmi M k < m + 1)
def zeL (M W : zMem) : Prop := W.2 = M.2 ∧ ∀ a, a ≠ 64 → a ≠ 10 → a ≠ 18 → a ≠ 62 → a ≠ 63 → W.1 a = M.1 a
theorem p_lineL (hR : zRu r0 lv nr cs R M) (hC : gCalls nv c nc nst M) {m : Nat} (hm : m < 360) (hN : 500 < N) {A0 : zMem} : ∀ d i f (A : zMem), nst + i + d = nc → d < f → zGA M c r0 A → zeL A0 A → (∀ j, j < (zline (zfirst M R nr (A0.1 61) m) (zwt M (A0.1 54) m) nst i).1 → A.1 62 j = zfirst M R nr (A0.1 61) m ((zline (zfirst M R nr (A0.1 61) m) (zwt M (A0.1 54) m) nst i).2 j) ∧ A.1 63 j = nI ((zline (zfirst M R nr (A0.1 61) m) (zwt M (A0.1 54) m) nst i).2 j)) →
    ∃ W, fX2_lineUp_L10 N f (nI m) (nI (zline (zfirst M R nr (A0.1 61) m) (zwt M (A0.1 54) m) nst i).1) (nI (nst + i)) A = some (nI (zline (zfirst M R nr (A0.1 61) m) (zwt M (A0.1 54) m) nst (i + d)).1, W) ∧ zGA M c r0 W ∧ zeL A0 W ∧ ∀ j, j < (zline (zfirst M R nr (A0.1 61) m) (zwt M (A0.1 54) m) nst (i + d)).1 → W.1 63 j = nI ((zline (zfirst M R nr (A0.1 61) m) (zwt M (A0.1 54) m) nst (i + d)).2 j)
  | 0, i, f + 1, A, hi, hf, h, hL, hl => by
    have n4 := hC.1
    have e9 : A.1 47 9 = nI nc := by rw [h.2.2.1 47 (by omega) (by omega) (by omega) (by omega)]; exact hC.2.2.2.1
    refine ⟨A, ?_, h, hL, fun j hj => (hl j hj).2⟩
    rw [fX2_lineUp_L10]
    unfold fX1_size
    rw [zb2_some, e9, if_pos (by rw [z_le (by omega) (by omega)]; omega)]
    rfl
  | d + 1, i, f + 1, A, hi, hf, h, hL, hl => by
    have n4 := hC.1
    have n40 := hC.2.2.1
    have e9 : A.1 47 9 = nI nc := by rw [h.2.2.1 47 (by omega) (by omega) (by omega) (by omega)]; exact hC.2.2.2.1
    have r54 : A.1 54 = A0.1 54 := hL.2 54 (by omega) (by omega) (by omega) (by omega) (by omega)
    have r61 : A.1 61 = A0.1 61 := hL.2 61 (by omega) (by omega) (by omega) (by omega) (by omega)
    rw [fX2_lineUp_L10]
    unfold fX1_size fX2_lineUp_L94
    rw [zb2_some, e9, if_neg (by rw [z_le (by omega) (by omega)]; omega), p_waiting hC h (by omega) hm, zb2_some, show i + (d + 1) = i + 1 + d by omega]
    have hq : (decide (A.1 54 (nst + i) = 0) && decide (zmi M (nst + i) < m + 1)) = zwt M (A0.1 54) m (nst + i) := by unfold zwt; rw [r54]
    rw [hq]
    have hlen := (zline_ok (zfirst M R nr (A0.1 61) m) (zwt M (A0.1 54) m) nst i).2
    cases hw : zwt M (A0.1 54) m (nst + i)
    · rw [if_pos (show zbi false = 0 from rfl), zlet_eq, nI_1]
      have el : zline (zfirst M R nr (A0.1 61) m) (zwt M (A0.1 54) m) nst (i + 1) = zline (zfirst M R nr (A0.1 61) m) (zwt M (A0.1 54) m) nst i := by rw [zline, if_neg (by rw [hw]; decide)]
      have := p_lineL hR hC hm hN (A0 := A0) d (i + 1) f A (by omega) (by omega) h hL (by rw [el]; exact hl)
      rw [el] at this
      rw [show nst + i + 1 = nst + (i + 1) by omega]
      exact this
    · have el1 : (zline (zfirst M R nr (A0.1 61) m) (zwt M (A0.1 54) m) nst (i + 1)).1 = (zline (zfirst M R nr (A0.1 61) m) (zwt M (A0.1 54) m) nst i).1 + 1 := by rw [zline, if_pos hw]
      have el2 : (zline (zfirst M R nr (A0.1 61) m) (zwt M (A0.1 54) m) nst (i + 1)).2 = zat3 (zline (zfirst M R nr (A0.1 61) m) (zwt M (A0.1 54) m) nst i).2 (nst + i) (zpos (zfirst M R nr (A0.1 61) m) (nst + i) (zline (zfirst M R nr (A0.1 61) m) (zwt M (A0.1 54) m) nst i).2 (zline (zfirst M R nr (A0.1 61) m) (zwt M (A0.1 54) m) nst i).1) := by rw [zline, if_pos hw]
      obtain ⟨Y, y1, y2, y3⟩ := pc_facts hC h (show nst + i < nc by omega) (nI m) (nI m) 0
      have hY := zGA_e h (zeC_64 y3)
      rw [r61] at y2
      obtain ⟨X, x1, x2'⟩ := pc_firstB hR hY y2 (kind := 4) (by omega) hN
      have x2 := zeC_st hR.1 x2'
      have hX := zGA_e hY x2
      have hAX : zeC A X := zeC_t (zeC_64 y3) x2
      have hr0 := hR.1
      -- the value of FIRST
      have hval : ∃ Z, zeC A Z ∧ (if zoi (zfst (zfr R (zF M (A0.1 61) (nst + i) (nI m) (nI m) 0) 4) 0 nr) = (-1 : Int32) then zb2 (fX1_needOf (nI (nst + i)) X) fun r20 M19 => fX2_lineUp_L87 N (fX2_lineUp_L10 N f) (nI m) (nI (zline (zfirst M R nr (A0.1 61) m) (zwt M (A0.1 54) m) nst i).1) (nI (nst + i)) (nI (nst + i)) r20 M19 else zb2 (zdy (X.2.2 57 10) (fX6_termOf N (X.2.2 57 10) (zoi (zfst (zfr R (zF M (A0.1 61) (nst + i) (nI m) (nI m) 0) 4) 0 nr)) X)) fun r17 M16 => fX2_lineUp_L87 N (fX2_lineUp_L10 N f) (nI m) (nI (zline (zfirst M R nr (A0.1 61) m) (zwt M (A0.1 54) m) nst i).1) (nI (nst + i)) (nI (nst + i)) r17 M16) = fX2_lineUp_L87 N (fX2_lineUp_L10 N f) (nI m) (nI (zline (zfirst M R nr (A0.1 61) m) (zwt M (A0.1 54) m) nst i).1) (nI (nst + i)) (nI (nst + i)) (zfirst M R nr (A0.1 61) m (nst + i)) Z := by
        unfold zfirst
        cases hr : zfst (zfr R (zF M (A0.1 61) (nst + i) (nI m) (nI m) 0) 4) 0 nr with
        | none =>
          have e9X : X.1 47 9 = nI nc := by rw [hX.2.2.1 47 (by omega) (by omega) (by omega) (by omega)]; exact hC.2.2.2.1
          refine ⟨X, hAX, ?_⟩
          rw [if_pos (show zoi none = -1 from rfl), p_needOf n4 e9X, if_pos (z_zinI (by omega) (by omega)), zb2_some, z_cl (by omega), hX.2.2.1 51 (by omega) (by omega) (by omega) (by omega)]
          rfl
        | some r =>
          obtain ⟨r1, r2, r3⟩ := zfst_lt nr 0 r hr
          have hnr := hR.2.2.2.1
          have h4 : (R r).1 = 4 := by
            unfold zfr at r3
            rw [Bool.and_eq_true, decide_eq_true_eq] at r3
            exact r3.1
          obtain ⟨Z, z1, z2⟩ := pc_term hR hX (F := zF M (A0.1 61) (nst + i) (nI m) (nI m) 0) (by rw [x2'.2 64 (by omega)]; exact y2) (r := r) (by omega) h4 hN
          refine ⟨Z, zeC_t hAX z2, ?_⟩
          rw [if_neg (show ¬ zoi (some r) = -1 by show ¬ nI r = -1; rw [z_m1 (by omega)]; exact id), show zoi (some r) = nI r from rfl, z1, zb2_some]
          rfl
      obtain ⟨Z, z1, z2⟩ := hval
      have hZ := zGA_e h z1
      have hZ62 : Z.1 62 = A.1 62 := z1.2 62 (by omega) (by omega) (by omega)
      have hZ63 : Z.1 63 = A.1 63 := z1.2 63 (by omega) (by omega) (by omega)
      obtain ⟨V, v1, v2, v3, v4⟩ := p_putL (N := N) (fv := zfirst M R nr (A0.1 61) m) (k := nst + i) (w := (zline (zfirst M R nr (A0.1 61) m) (zwt M (A0.1 54) m) nst i).1) (l := (zline (zfirst M R nr (A0.1 61) m) (zwt M (A0.1 54) m) nst i).2) (M0 := Z) (by omega) (fun j hj => by rw [hZ62]; exact (hl j hj).1) (fun j hj => by rw [hZ63]; exact (hl j hj).2) (zline (zfirst M R nr (A0.1 61) m) (zwt M (A0.1 54) m) nst i).1 N Z (Nat.le_refl _) (by omega) rfl (fun _ _ _ => rfl) (fun j hj => by rw [hZ62, hZ63]; exact hl j hj) (fun j j1 j2 => by omega)
      have hV : zGA M c r0 V := ⟨by rw [v2]; exact hZ.1, by rw [v2]; exact hZ.2.1, fun a p1 p2 p3 p4 => by rw [v3 a (by omega) (by omega)]; exact hZ.2.2.1 a p1 p2 p3 p4, by rw [v3 57 (by omega) (by omega)]; exact hZ.2.2.2⟩
      have hLV : zeL A0 V := ⟨by rw [v2, z1.1, hL.1], fun a p1 p2 p3 p4 p5 => by rw [v3 a p4 p5, z1.2 a p1 p2 p3, hL.2 a p1 p2 p3 p4 p5]⟩
      obtain ⟨U, u1, u2, u3, u4⟩ := p_lineL hR hC hm hN (A0 := A0) d (i + 1) f V (by omega) (by omega) hV hLV (by
        rw [el1, el2]
        intro j hj
        exact v4 j (by omega))
      refine ⟨U, ?_, u2, u3, u4⟩
      rw [if_neg (by decide), y1, zbd_some, show (4 : Int32) = nI 4 from rfl, x1, zb2_some]
      refine Eq.trans z2 ?_
      unfold fX2_lineUp_L87 fX2_putInLine fX2_lineUp_L94
      rw [if_neg (nI_pos (by omega)), show (40 : Int32) = nI 40 from rfl, if_pos (by rw [z_lt (by omega) (by omega)]; omega), zlet_eq, v1, zbd_some, zlet_eq, zlet_eq, nI_1, nI_1, ← el1, show nst + i + 1 = nst + (i + 1) by omega]
      exact u1
end GO
