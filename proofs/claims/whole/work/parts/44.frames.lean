/-! frames of the groups -/
theorem gTape_c {tl : Nat} {M W : zMem} (h1 : W.1 1 1 = M.1 1 1) (h2 : W.1 2 = M.1 2) (h3 : W.1 69 2 = M.1 69 2) (h4 : W.1 70 = M.1 70) (h : gTape tl M) : gTape tl W := by unfold gTape at *; rw [h1, h2, h3, h4]; exact h
theorem gPlace_c {M W : zMem} (h1 : W.1 19 9 = M.1 19 9) (h2 : W.1 69 17 = M.1 69 17) (h : gPlace M) : gPlace W := by unfold gPlace at *; rw [h1, h2]; exact h
theorem gTeam_c {nv ns : Nat} {M W : zMem} (h1 : W.1 22 2 = M.1 22 2) (h2 : W.1 69 37 = M.1 69 37) (h3 : W.1 22 5 = M.1 22 5) (h4 : W.1 69 39 = M.1 69 39) (h5 : W.1 23 = M.1 23) (h6 : W.1 92 = M.1 92) (h7 : W.1 25 = M.1 25) (h8 : W.1 93 = M.1 93) (h9 : W.1 26 = M.1 26) (h10 : W.1 94 = M.1 94) (h : gTeam nv ns M) : gTeam nv ns W := by unfold gTeam at *; rw [h1, h2, h3, h4, h5, h6, h7, h8, h9, h10]; exact h
theorem gLearn_c {nv ns : Nat} {M W : zMem} (h1 : W.1 95 = M.1 95) (h2 : W.1 94 = M.1 94) (h3 : W.2.1 27 = M.2.1 27) (h : gLearn nv ns M) : gLearn nv ns W := by unfold gLearn at *; rw [h1, h2, h3]; exact h
theorem gBars_c {M W : zMem} (h1 : W.1 96 = M.1 96) (h2 : W.1 28 = M.1 28) (h : gBars M) : gBars W := by unfold gBars at *; rw [h1, h2]; exact h
theorem gClock_c {c : Nat} {M W : zMem} (h1 : W.1 0 11 = M.1 0 11) (h2 : W.1 69 44 = M.1 69 44) (h : gClock c M) : gClock c W := by unfold gClock at *; rw [h1, h2]; exact h
theorem gCal_c {M W : zMem} (h1 : W.1 30 = M.1 30) (h2 : W.1 99 = M.1 99) (h3 : W.1 101 = M.1 101) (h4 : W.1 100 = M.1 100) (h : gCal M) : gCal W := by unfold gCal at *; rw [h1, h2, h3, h4]; exact h
theorem gGone_c {M W : zMem} (h1 : W.1 69 71 = M.1 69 71) (h2 : W.1 100 = M.1 100) (h : gGone M) : gGone W := by unfold gGone at *; rw [h1, h2]; exact h
theorem gOffers_c {nv c no : Nat} {M W : zMem} (h1 : W.1 32 3 = M.1 32 3) (h2 : W.1 102 = M.1 102) (h3 : W.1 33 = M.1 33) (h4 : W.1 103 = M.1 103) (h5 : W.1 34 = M.1 34) (h6 : W.1 104 = M.1 104) (h7 : W.1 35 = M.1 35) (h8 : W.1 105 = M.1 105) (h : gOffers nv c no M) : gOffers nv c no W := by unfold gOffers at *; rw [h1, h2, h3, h4, h5, h6, h7, h8]; exact h
theorem gPres_c {nv : Nat} {M W : zMem} (h1 : W.1 106 = M.1 106) (h2 : W.1 101 = M.1 101) (h3 : W.2.1 31 = M.2.1 31) (h : gPres nv M) : gPres nv W := by unfold gPres at *; rw [h1, h2, h3]; exact h
theorem zthere_c {M W : zMem} (h1 : W.1 106 = M.1 106) (n j : Nat) : ∀ v, zthere W n j v = zthere M n j v
  | 0 => rfl
  | v + 1 => by rw [zthere, zthere, zthere_c h1 n j v, h1]
theorem zhas_c {M W : zMem} (h1 : W.1 25 = M.1 25) (h2 : W.2.1 27 = M.2.1 27) (v : Nat) : ∀ d s n, zhas W v d s n = zhas M v d s n
  | 0, _, _ => rfl
  | d + 1, s, n => by rw [zhas, zhas, h1, h2, zhas_c h1 h2 v d]
theorem zhas0_c {ns : Nat} {M W : zMem} (h1 : W.1 25 = M.1 25) (h2 : W.2.1 27 = M.2.1 27) (v n : Nat) : zhas0 ns W v n = zhas0 ns M v n := by unfold zhas0; rw [zhas_c h1 h2]
theorem gKept_c {nv ns : Nat} {M W : zMem} (h1 : W.1 101 = M.1 101) (h2 : W.1 107 = M.1 107) (h3 : W.1 106 = M.1 106) (h4 : W.1 25 = M.1 25) (h5 : W.2.1 27 = M.2.1 27) (h : gKept nv ns M) : gKept nv ns W := by
  unfold gKept at *
  simp only [h1, h2, h3, zthere_c h3, zhas0_c h4 h5]
  exact h
theorem gCalls_c {nv c nc nst : Nat} {M W : zMem} (h1 : W.1 47 9 = M.1 47 9) (h2 : W.1 69 60 = M.1 69 60) (h3 : W.1 47 10 = M.1 47 10) (h4 : ∀ a, 48 ≤ a → a < 57 → W.1 a = M.1 a) (h5 : ∀ a, 112 ≤ a → a < 121 → W.1 a = M.1 a) (h6 : W.1 100 = M.1 100) (h : gCalls nv c nc nst M) : gCalls nv c nc nst W := by
  unfold gCalls at *
  rw [h1, h2, h3, h6, h4 48 (by omega) (by omega), h4 49 (by omega) (by omega), h4 50 (by omega) (by omega), h4 51 (by omega) (by omega), h4 52 (by omega) (by omega), h4 53 (by omega) (by omega), h4 54 (by omega) (by omega), h4 55 (by omega) (by omega), h4 56 (by omega) (by omega), h5 112 (by omega) (by omega), h5 113 (by omega) (by omega), h5 114 (by omega) (by omega), h5 115 (by omega) (by omega), h5 116 (by omega) (by omega), h5 117 (by omega) (by omega), h5 118 (by omega) (by omega), h5 119 (by omega) (by omega), h5 120 (by omega) (by omega)]
  exact h
theorem gHard_c {nc : Nat} {M W : zMem} (h1 : W.1 97 = M.1 97) (h2 : W.1 48 = M.1 48) (h3 : W.1 55 = M.1 55) (h4 : W.1 51 = M.1 51) (h5 : W.1 121 = M.1 121) (h6 : W.1 53 = M.1 53) (h7 : W.1 24 = M.1 24) (h8 : W.1 98 = M.1 98) (h : gHard nc M) : gHard nc W := by unfold gHard at *; rw [h1, h2, h3, h4, h5, h6, h7, h8]; exact h
theorem gNotes_c {nc nn : Nat} {M W : zMem} (h1 : W.1 65 3 = M.1 65 3) (h2 : W.1 69 81 = M.1 69 81) (h3 : W.1 66 = M.1 66) (h4 : W.1 131 = M.1 131) (h5 : W.1 67 = M.1 67) (h6 : W.1 132 = M.1 132) (h7 : W.1 68 = M.1 68) (h8 : W.1 133 = M.1 133) (h : gNotes nc nn M) : gNotes nc nn W := by unfold gNotes at *; rw [h1, h2, h3, h4, h5, h6, h7, h8]; exact h
theorem gKeys_c {M W : zMem} (h1 : W.2.1 76 = M.2.1 76) (h : gKeys M) : gKeys W := by unfold gKeys at *; rw [h1]; exact h
theorem zsegC_c {M W : zMem} {p : Nat} (h : W.1 p = M.1 p) : ∀ L i, zsegC M p i L → zsegC W p i L
  | [], _, _ => trivial
  | x :: L, i, ⟨q1, q2⟩ => ⟨by rw [h]; exact q1, zsegC_c h L (i + 1) q2⟩
theorem zsegR_c {M W : zMem} (h : W.1 89 = M.1 89) (h2 : W.1 90 = M.1 90) : ∀ L i, zsegR M i L → zsegR W i L
  | [], _, _ => trivial
  | x :: L, i, ⟨q1, q2⟩ => ⟨by rw [h, h2]; exact q1, zsegR_c h h2 L (i + 1) q2⟩
theorem zrels_c {M W : zMem} {o : Nat} (h : ∀ a, 77 ≤ a → a < 91 → W.1 a = M.1 a) : ∀ Rs k, zrels M o k Rs → zrels W o k Rs
  | [], _, _ => trivial
  | x :: Rs, k, ⟨⟨q1, q2, q3, a, q4, q5, q6, q7, q8, q9, q10⟩, q11⟩ => ⟨⟨q1, q2, q3, a, by rw [h 85 (by omega) (by omega)]; exact q4, by rw [h 86 (by omega) (by omega)]; exact q5, by rw [h 87 (by omega) (by omega)]; exact q6, by rw [h 88 (by omega) (by omega)]; exact q7, q8, zsegR_c (h 89 (by omega) (by omega)) (h 90 (by omega) (by omega)) _ _ q9, zsegR_c (h 89 (by omega) (by omega)) (h 90 (by omega) (by omega)) _ _ q10⟩, zrels_c h Rs (k + 1) q11⟩
theorem gRules_c {r0 lv nr : Nat} {M W : zMem} (h1 : W.2.2 0 2 = M.2.2 0 2) (h2 : W.2.2 0 3 = M.2.2 0 3) (h3 : W.1 69 18 = M.1 69 18) (hA : ∀ a, 3 ≤ a → a < 18 → a ≠ 10 → W.1 a = M.1 a) (hB : ∀ a, 77 ≤ a → a < 91 → W.1 a = M.1 a) (h : gRules r0 lv nr M) : gRules r0 lv nr W := by
  obtain ⟨u0, u1, u2, u3, u4, u5, u6, u7, cs, u8, u9, R, u10⟩ := h
  refine ⟨u0, by rw [h1]; exact u1, by rw [h2]; exact u2, u3, by rw [h3]; exact u4, u5, by rw [hA r0 (by omega) (by omega) (by omega)]; exact u6, by rw [hB 77 (by omega) (by omega)]; exact u7, cs, u8, by rw [hA r0 (by omega) (by omega) (by omega)]; exact u9, R, fun r hr => ?_⟩
  obtain ⟨v1, v2, v3, v4, v5, ⟨a, a1, a2, a3, a4, a5, a6⟩, v6, v7, ⟨b, b1, b2, b3, b4⟩, k, k1, k2, k3, k4⟩ := u10 r hr
  exact ⟨v1, v2, v3, by rw [hA _ (by omega) (by omega) (by omega)]; exact v4, by rw [hA _ (by omega) (by omega) (by omega)]; exact v5, ⟨a, by rw [hA _ (by omega) (by omega) (by omega)]; exact a1, by rw [hA _ (by omega) (by omega) (by omega)]; exact a2, by rw [hA _ (by omega) (by omega) (by omega)]; exact a3, a4, zsegC_c (hA _ (by omega) (by omega) (by omega)) _ _ a5, zsegC_c (hA _ (by omega) (by omega) (by omega)) _ _ a6⟩, by rw [hB 78 (by omega) (by omega)]; exact v6, by rw [hB 79 (by omega) (by omega)]; exact v7, ⟨b, by rw [hB 80 (by omega) (by omega)]; exact b1, by rw [hB 81 (by omega) (by omega)]; exact b2, b3, zsegR_c (hB 89 (by omega) (by omega)) (hB 90 (by omega) (by omega)) _ _ b4⟩, k, by rw [hB 82 (by omega) (by omega)]; exact k1, by rw [hB 83 (by omega) (by omega)]; exact k2, k3, zrels_c hB _ _ k4⟩
