/-! RULES: the reference works them out -/
theorem m_vrun {to_ : Nat} (hto : to_ ≤ 1000) {F : Nat → Int32} {N : Nat} : ∀ (L : List (Nat × Nat)) (s : List Int32) (i f d' : Nat) (M : zMem), (∀ x, x ∈ L → (x.1 = 2 ∧ x.2 < 10000) ∨ (x.1 = 3 ∧ x.2 < 6) ∨ ((x.1 = 13 ∨ x.1 = 14 ∨ x.1 = 15) ∧ x.2 = 0)) → zdp L s.length = some d' → s.length ≤ 16 → i + L.length ≤ to_ → zsegR M i L → zstk M 123 s → (∀ j, j < 6 → M.1 122 j = F j) →
    ∃ W, fX12_value_L5 N (f + L.length) (nI to_) (nI s.length) (nI i) M = fX12_value_L5 N f (nI to_) (nI (zev F L s).length) (nI (i + L.length)) W ∧ zbut 123 M W ∧ zstk W 123 (zev F L s) ∧ (zev F L s).length = d' ∧ d' ≤ 16
  | [], s, i, f, d', M, hk, hd, hs32, hi, hg, hs, hF => by
    refine ⟨M, rfl, zbut_r _ M, hs, Option.some.inj hd, ?_⟩
    have : s.length = d' := Option.some.inj hd
    omega
  | x :: L, s, i, f, d', M, hk, hd, hs32, hi, hg, hs, hF => by
    have hx := hk x (List.mem_cons.mpr (Or.inl rfl))
    have hk' : ∀ y, y ∈ L → _ := fun y hy => hk y (List.mem_cons.mpr (Or.inr hy))
    rw [List.length_cons] at hi ⊢
    obtain ⟨⟨g1, g1'⟩, g2⟩ := hg
    rw [show f + (L.length + 1) = (f + L.length) + 1 by omega, fX12_value_L5, if_neg (by rw [z_le (by omega) (by omega)]; omega), z_ldI (by omega) (by omega), zbd_some, g1]
    have next : ∀ (W : zMem) (s2 : List Int32), zbut 123 M W → zstk W 123 s2 → zdp L s2.length = some d' → s2.length ≤ 16 → ∃ X, fX12_value_L138 N (fX12_value_L5 N (f + L.length)) (nI to_) (nI s2.length) (nI i) W = fX12_value_L5 N f (nI to_) (nI (zev F L s2).length) (nI (i + (L.length + 1))) X ∧ zbut 123 M X ∧ zstk X 123 (zev F L s2) ∧ (zev F L s2).length = d' ∧ d' ≤ 16 := by
      intro W s2 hb hs2 hd2 hl2
      obtain ⟨X, x1, x2, x3, x4, x5⟩ := m_vrun hto (F := F) (N := N) L s2 (i + 1) f d' W hk' hd2 hl2 (by omega) (zsegR_c (hb.2 _ (by omega)) (hb.2 _ (by omega)) _ _ g2) hs2 (by rw [hb.2 122 (by omega)]; exact hF)
      refine ⟨X, ?_, zbut_t hb x2, x3, x4, x5⟩
      unfold fX12_value_L138
      rw [zlet_eq, nI_1, x1, show i + 1 + L.length = i + (L.length + 1) by omega]
    rw [zdp] at hd
    rcases hx with ⟨e1, e2⟩ | ⟨e1, e2⟩ | ⟨e1, e2⟩
    · have ek : zrk x.1 = 0 := by rw [e1]; rfl
      rw [if_pos (Or.inl e1)] at hd
      by_cases q : s.length < 16
      · rw [if_pos q] at hd
        rw [ek, if_neg (by decide), zbd_some, if_pos (by decide), z_ldI (by omega) (by omega), zbd_some, g1']
        unfold fX12_value_L59
        rw [z_stI (by omega) (by omega), zbd_some, zlet_eq, nI_1]
        have ev : zev F (x :: L) s = zev F L (nI x.2 :: s) := by rw [zev, if_pos e1]
        rw [ev]
        exact next (zpI M 123 s.length (nI x.2)) (nI x.2 :: s) zbut_p (zstk_push hs) hd (by simp; omega)
      · rw [if_neg q] at hd; cases hd
    · have ek : zrk x.1 = 1 := by rw [e1]; rfl
      rw [if_pos (Or.inr e1)] at hd
      by_cases q : s.length < 16
      · rw [if_pos q] at hd
        rw [ek, if_neg (by decide), zbd_some, if_neg (by decide), z_ldI (by omega) (by omega), zbd_some, g1', z_ldI (by omega) (by omega), zbd_some, hF x.2 e2]
        unfold fX12_value_L59
        rw [z_stI (by omega) (by omega), zbd_some, zlet_eq, nI_1]
        have ev : zev F (x :: L) s = zev F L (F x.2 :: s) := by rw [zev, if_neg (by omega), if_pos e1]
        rw [ev]
        exact next (zpI M 123 s.length (F x.2)) (F x.2 :: s) zbut_p (zstk_push hs) hd (by simp; omega)
      · rw [if_neg q] at hd; cases hd
    · have n2 : ¬ (x.1 = 2 ∨ x.1 = 3) := by omega
      rw [if_neg n2] at hd
      match s, hs, hd, hs32 with
      | [], _, hd, _ => simp at hd
      | [b], _, hd, _ => simp at hd
      | b :: a :: t, hs, hd, hs32 =>
        rw [if_pos (by simp)] at hd
        obtain ⟨s1, s2, s3⟩ := hs
        simp only [List.length_cons] at hs32 s1 hd
        have el : nI (b :: a :: t).length = nI (t.length + 2) := rfl
        have e1' : nI (t.length + 2) + (-1 : Int32) = nI (t.length + 1) := by rw [show (-1 : Int32) = -nI 1 from rfl, ← Int32.sub_eq_add_neg, z_sub (by omega)]; rfl
        have e2' : nI (t.length + 1) - (1 : Int32) = nI t.length := by rw [show (1 : Int32) = nI 1 from rfl, z_sub (by omega)]; rfl
        have ev : zev F (x :: L) (b :: a :: t) = zev F L (zcomb x.1 a b :: t) := by
          show zev F L (if x.1 = 2 then _ else if x.1 = 3 then _ else _) = _
          rw [if_neg (by omega), if_neg (by omega)]; rfl
        rw [ev]
        have go := next (zpI M 123 t.length (zcomb x.1 a b)) (zcomb x.1 a b :: t) zbut_p (zstk_push s3) hd (by simp; omega)
        have ec : nI (zcomb x.1 a b :: t).length = nI (t.length + 1) := rfl
        rw [ec] at go
        rcases e1 with e1 | e1 | e1
        · have ek : zrk x.1 = 2 := by rw [e1]; rfl
          have ez : zcomb x.1 a b = a + b := by rw [e1]; rfl
          rw [ek, if_pos (by decide), zlet_eq, el, e1', e2', z_ldI (by omega) (by omega), zbd_some, z_ldI (by omega) (by omega), zbd_some, s1, s2, zbd_some, if_pos (by decide)]
          unfold fX12_value_L137
          rw [z_stI (by omega) (by omega), zbd_some, ← ez]
          exact go
        · have ek : zrk x.1 = 3 := by rw [e1]; rfl
          have ez : zcomb x.1 a b = a - b := by rw [e1]; rfl
          rw [ek, if_pos (by decide), zlet_eq, el, e1', e2', z_ldI (by omega) (by omega), zbd_some, z_ldI (by omega) (by omega), zbd_some, s1, s2, zbd_some, if_neg (by decide), zbd_some, if_pos (by decide)]
          unfold fX12_value_L137
          rw [z_stI (by omega) (by omega), zbd_some, ← ez]
          exact go
        · have ek : zrk x.1 = 4 := by rw [e1]; rfl
          have ez : zcomb x.1 a b = a * b := by rw [e1]; rfl
          rw [ek, if_pos (by decide), zlet_eq, el, e1', e2', z_ldI (by omega) (by omega), zbd_some, z_ldI (by omega) (by omega), zbd_some, s1, s2, zbd_some, if_neg (by decide), zbd_some, if_neg (by decide)]
          unfold fX12_value_L137
          rw [z_stI (by omega) (by omega), zbd_some, ← ez]
          exact go
theorem zdp_len : ∀ (L : List (Nat × Nat)) (d d' : Nat), zdp L d = some d' → d' ≤ d + L.length
  | [], d, d', h => by rw [Option.some.inj h]; simp
  | x :: L, d, d', h => by
    rw [zdp] at h
    rw [List.length_cons]
    by_cases q : x.1 = 2 ∨ x.1 = 3
    · rw [if_pos q] at h
      by_cases q2 : d < 16
      · rw [if_pos q2] at h; have := zdp_len L _ _ h; omega
      · rw [if_neg q2] at h; cases h
    · rw [if_neg q] at h
      by_cases q2 : 2 ≤ d
      · rw [if_pos q2] at h; have := zdp_len L _ _ h; omega
      · rw [if_neg q2] at h; cases h
theorem m_value {a : Nat} {F : Nat → Int32} {L : List (Nat × Nat)} {M : zMem} (hF : ∀ j, j < 6 → M.1 122 j = F j) (hz : zterm L) (hl : a + L.length ≤ 1000) (hg : zsegR M a L) {N : Nat} (hN : 2000 < N) : ∃ W, fX12_value N (nI a) (nI (a + L.length)) M = some (ztv F L, W) ∧ zbut 123 M W := by
  obtain ⟨f, hf⟩ : ∃ f, N = (f + 1) + L.length := ⟨N - L.length - 1, by omega⟩
  obtain ⟨W, w1, w2, w3, w4, w5⟩ := m_vrun (to_ := a + L.length) hl (F := F) (N := N) L [] a (f + 1) 1 M hz.2 hz.1 (by simp) (Nat.le_refl _) hg trivial hF
  rw [ztv_ev hz] at w1 w3
  refine ⟨W, ?_, w2⟩
  unfold fX12_value
  have e : fX12_value_L5 N (f + 1 + L.length) (nI (a + L.length)) (nI ([] : List Int32).length) (nI a) M = fX12_value_L5 N N (nI (a + L.length)) 0 (nI a) M := by rw [← hf]; rfl
  rw [← e, w1, fX12_value_L5, if_pos (by rw [z_le (by omega) (by omega)]; omega), show (0 : Int32) = nI 0 from rfl, z_ldI (by omega) (by omega), zbd_some, zstk_bot w3]
theorem m_holdsL {lv n k : Nat} {F : Nat → Int32} {N : Nat} (hlv : lv < 2) (hn : n < 40) (hN : 2000 < N) : ∀ (Rs : List (Nat × List (Nat × Nat) × List (Nat × Nat))) (j f : Nat) (M : zMem), M.1 69 18 = nI lv → M.1 83 n = nI k → j + Rs.length = k → k ≤ 200 → zrels M (200 * lv) j Rs → (∀ j, j < 6 → M.1 122 j = F j) → Rs.length < f → ∃ W, fX12_holds_L7 N f (nI n) (nI j) M = some (zbi (zholdR F Rs), W) ∧ zbut 123 M W
  | [], j, f + 1, M, h18, h83, hj, hk, hr, hF, hf => by
    rw [List.length_nil] at hj
    refine ⟨M, ?_, zbut_r _ M⟩
    rw [fX12_holds_L7, z_ldI (by omega) (by omega), zbd_some, h83, if_pos (by rw [z_le (by omega) (by omega)]; omega)]
    rfl
  | x :: Rs, j, f + 1, M, h18, h83, hj, hk, hr, hF, hf => by
    rw [List.length_cons] at hj hf
    obtain ⟨⟨q1, q2, q3, a, q4, q5, q6, q7, q8, q9, q10⟩, q11⟩ := hr
    obtain ⟨W1, w1, w2⟩ := m_value hF q2 (by omega) q9 hN
    obtain ⟨W2, y1, y2⟩ := m_value (M := W1) (F := F) (by rw [w2.2 122 (by omega)]; exact hF) q3 q8.1 (zsegR_c (w2.2 89 (by omega)) (w2.2 90 (by omega)) _ _ q10) hN
    have hb := zbut_t w2 y2
    have ih : ∃ W, fX12_holds_L7 N f (nI n) (nI (j + 1)) W2 = some (zbi (zholdR F Rs), W) ∧ zbut 123 W2 W := m_holdsL hlv hn hN Rs (j + 1) f W2 (by rw [hb.2 69 (by omega)]; exact h18) (by rw [hb.2 83 (by omega)]; exact h83) (by omega) hk (zrels_c (fun a h1 h2 => hb.2 a (by omega)) _ _ q11) (by rw [hb.2 122 (by omega)]; exact hF) (by omega)
    obtain ⟨W3, z1, z2⟩ := ih
    have hfin : ∀ b : Bool, ∃ W, fX12_holds_L150 N (fX12_holds_L7 N f) (nI n) (nI j) (zbi b) W2 = some (zbi (b && zholdR F Rs), W) ∧ zbut 123 M W := by
      intro b
      unfold fX12_holds_L150
      cases b
      · exact ⟨W2, rfl, hb⟩
      · rw [if_neg (by decide), zlet_eq, nI_1, z1]
        exact ⟨W3, rfl, zbut_t hb z2⟩
    have e86 : M.1 86 (200 * lv + j) = nI a := q5
    have e87 : M.1 87 (200 * lv + j) = nI (a + x.2.1.length) := q6
    have e87' : W1.1 87 (200 * lv + j) = nI (a + x.2.1.length) := by rw [w2.2 87 (by omega)]; exact q6
    have e88 : W1.1 88 (200 * lv + j) = nI (a + x.2.1.length + x.2.2.length) := by rw [w2.2 88 (by omega)]; exact q7
    have e85 : W2.1 85 (200 * lv + j) = nI x.1 := by rw [hb.2 85 (by omega)]; exact q4
    rw [fX12_holds_L7, z_ldI (by omega) (by omega), zbd_some, h83, if_neg (by rw [z_le (by omega) (by omega)]; omega), zlet_eq, h18, show (200 : Int32) = nI 200 from rfl, z_mul, z_add, z_ldI (by omega) (by omega), zbd_some, z_ldI (by omega) (by omega), zbd_some, e86, e87, w1, zb2_some, z_ldI (by omega) (by omega), zbd_some, z_ldI (by omega) (by omega), zbd_some, e87', e88, y1, zb2_some, z_ldI (by omega) (by omega), zbd_some, e85, zbd_some, zbd_some, zholdR]
    have fin := hfin (zrelB x.1 (ztv F x.2.1) (ztv F x.2.2))
    generalize hb1 : ztv F x.2.1 = va at *
    generalize hb2 : ztv F x.2.2 = vb at *
    rcases (show x.1 = 0 ∨ x.1 = 1 ∨ x.1 = 2 ∨ x.1 = 3 by omega) with e | e | e | e
    · rw [e] at fin ⊢
      rw [if_pos (by decide)]
      by_cases q : va = vb
      · rw [if_pos q]
        have : zrelB 0 va vb = true := by simp [zrelB, q]
        rw [this] at fin ⊢; exact fin
      · rw [if_neg q]
        have : zrelB 0 va vb = false := by simp [zrelB, q]
        rw [this] at fin ⊢; exact fin
    · rw [e] at fin ⊢
      rw [if_neg (by decide), if_pos (by decide)]
      by_cases q : va = vb
      · rw [if_pos q]
        have : zrelB 1 va vb = false := by simp [zrelB, q]
        rw [this] at fin ⊢; exact fin
      · rw [if_neg q]
        have : zrelB 1 va vb = true := by simp [zrelB, q]
        rw [this] at fin ⊢; exact fin
    · rw [e] at fin ⊢
      rw [if_neg (by decide), if_neg (by decide), if_pos (by decide)]
      by_cases q : vb ≤ va
      · rw [if_pos q]
        have : zrelB 2 va vb = false := by simp [zrelB, q]
        rw [this] at fin ⊢; exact fin
      · rw [if_neg q]
        have : zrelB 2 va vb = true := by simp [zrelB, q]
        rw [this] at fin ⊢; exact fin
    · rw [e] at fin ⊢
      rw [if_neg (by decide), if_neg (by decide), if_neg (by decide)]
      by_cases q : vb < va
      · rw [if_pos q]
        have : zrelB 3 va vb = false := by simp [zrelB, q]
        rw [this] at fin ⊢; exact fin
      · rw [if_neg q]
        have : zrelB 3 va vb = true := by simp [zrelB, q]
        rw [this] at fin ⊢; exact fin
theorem m_holds {r0 lv nr cs : Nat} {R : Nat → Nat × Nat × List (Nat × Nat) × List (Nat × List (Nat × Nat) × List (Nat × Nat))} {F : Nat → Int32} {M : zMem} {N : Nat} (h : zRu r0 lv nr cs R M) (hF : ∀ j, j < 6 → M.1 122 j = F j) {r : Nat} (hr : r < nr) (hN : 2000 < N) : ∃ W, fX12_holds N (nI (20 * lv + r)) M = some (zbi (zholdR F (R r).2.2.2), W) ∧ zbut 123 M W := by
  obtain ⟨u0, u3, u4, u5, u6, u7, u8, u9, u10⟩ := h
  obtain ⟨v1, v2, v3, v4, v5, -, v6, v7, -, k, k1, k2, k3, k4⟩ := u10 r hr
  obtain ⟨W, w1, w2⟩ := m_holdsL (lv := lv) (n := 20 * lv + r) (k := k + (R r).2.2.2.length) (F := F) (N := N) u3 (by omega) hN (R r).2.2.2 k N M u4 k2 rfl k3 k4 hF (by omega)
  refine ⟨W, ?_, w2⟩
  unfold fX12_holds
  rw [z_ldI (by omega) (by omega), zbd_some, k1, w1]
