/-! GO: what stays through the night -/
def zGA (M : zMem) (c r0 : Nat) (W : zMem) : Prop := W.2 = M.2 ∧ W.2.2 57 10 = r0 ∧ (∀ a, a ≠ 1000 → a ≠ 10 → a ≠ 18 → (a < 54 ∨ 64 < a) → W.1 a = M.1 a) ∧ W.1 57 11 = nI c
def zGB (M W : zMem) : Prop := W.2 = M.2 ∧ ∀ a, a ≠ 97 → (a < 118 ∨ 120 < a) → (a < 122 ∨ 130 < a) → W.1 a = M.1 a
/-- the facts of a call: what the rules may ask -/
def zF (M : zMem) (K : Nat → Int32) (k : Nat) (w m t : Int32) (j : Nat) : Int32 := if j = 0 then M.1 51 k else if j = 1 then M.1 52 k else if j = 2 then w - M.1 49 k else if j = 3 then m / 60 else if j = 4 then K (M.1 50 k).toNatClampNeg else t
section GO
variable {tl nv ns c no nc nst nn r0 lv nr cs : Nat} {M : zMem} {R : Nat → Nat × Nat × List (Nat × Nat) × List (Nat × List (Nat × Nat) × List (Nat × Nat))} {N : Nat}
theorem zGA_t {W : zMem} (hT : gTeam nv ns M) (h : zGA M c r0 W) : gTeam nv ns W := gTeam_c (M := M) (congrFun (h.2.2.1 22 (by omega) (by omega) (by omega) (by omega)) 2) (congrFun (h.2.2.1 69 (by omega) (by omega) (by omega) (by omega)) 37) (congrFun (h.2.2.1 22 (by omega) (by omega) (by omega) (by omega)) 5) (congrFun (h.2.2.1 69 (by omega) (by omega) (by omega) (by omega)) 39) (h.2.2.1 23 (by omega) (by omega) (by omega) (by omega)) (h.2.2.1 92 (by omega) (by omega) (by omega) (by omega)) (h.2.2.1 25 (by omega) (by omega) (by omega) (by omega)) (h.2.2.1 93 (by omega) (by omega) (by omega) (by omega)) (h.2.2.1 26 (by omega) (by omega) (by omega) (by omega)) (h.2.2.1 94 (by omega) (by omega) (by omega) (by omega)) hT
theorem zGB_t {W : zMem} (hT : gTeam nv ns M) (h : zGB M W) : gTeam nv ns W := gTeam_c (M := M) (congrFun (h.2 22 (by omega) (by omega) (by omega)) 2) (congrFun (h.2 69 (by omega) (by omega) (by omega)) 37) (congrFun (h.2 22 (by omega) (by omega) (by omega)) 5) (congrFun (h.2 69 (by omega) (by omega) (by omega)) 39) (h.2 23 (by omega) (by omega) (by omega)) (h.2 92 (by omega) (by omega) (by omega)) (h.2 25 (by omega) (by omega) (by omega)) (h.2 93 (by omega) (by omega) (by omega)) (h.2 26 (by omega) (by omega) (by omega)) (h.2 94 (by omega) (by omega) (by omega)) hT
theorem zGB_l {W : zMem} (hL : gLearn nv ns M) (h : zGB M W) : gLearn nv ns W := gLearn_c (M := M) (h.2 95 (by omega) (by omega) (by omega)) (h.2 94 (by omega) (by omega) (by omega)) (by rw [h.1]) hL
theorem zGA_b {W : zMem} (hB : gBars M) (h : zGA M c r0 W) : gBars W := gBars_c (M := M) (h.2.2.1 96 (by omega) (by omega) (by omega) (by omega)) (h.2.2.1 28 (by omega) (by omega) (by omega) (by omega)) hB
theorem zGB_b {W : zMem} (hB : gBars M) (h : zGB M W) : gBars W := gBars_c (M := M) (h.2 96 (by omega) (by omega) (by omega)) (h.2 28 (by omega) (by omega) (by omega)) hB
theorem zGA_p {W : zMem} (hP : gPres nv M) (h : zGA M c r0 W) : gPres nv W := gPres_c (M := M) (h.2.2.1 106 (by omega) (by omega) (by omega) (by omega)) (h.2.2.1 101 (by omega) (by omega) (by omega) (by omega)) (by rw [h.1]) hP
theorem zGB_p {W : zMem} (hP : gPres nv M) (h : zGB M W) : gPres nv W := gPres_c (M := M) (h.2 106 (by omega) (by omega) (by omega)) (h.2 101 (by omega) (by omega) (by omega)) (by rw [h.1]) hP
theorem zGA_u {W : zMem} (hR : zRu r0 lv nr cs R M) (h : zGA M c r0 W) : zRu r0 lv nr cs R W := zRu_c (congrFun (h.2.2.1 69 (by omega) (by omega) (by omega) (by omega)) 18) (fun a h1 h2 h3 => h.2.2.1 a (by omega) (by omega) (by omega) (by omega)) (fun a h1 h2 => h.2.2.1 a (by omega) (by omega) (by omega) (by omega)) hR
theorem zGB_u {W : zMem} (hR : zRu r0 lv nr cs R M) (h : zGB M W) : zRu r0 lv nr cs R W := zRu_c (congrFun (h.2 69 (by omega) (by omega) (by omega)) 18) (fun a h1 h2 h3 => h.2 a (by omega) (by omega) (by omega)) (fun a h1 h2 => h.2 a (by omega) (by omega) (by omega)) hR
/-- scratch rows of the class: facts and stack -/
def zeC (M W : zMem) : Prop := W.2 = M.2 ∧ ∀ a, a ≠ 64 → a ≠ 10 → a ≠ 18 → W.1 a = M.1 a
def zeR (M W : zMem) : Prop := W.2 = M.2 ∧ ∀ a, a ≠ 122 → a ≠ 123 → W.1 a = M.1 a
theorem zeC_r (M : zMem) : zeC M M := ⟨rfl, fun _ _ _ _ => rfl⟩
theorem zeR_r (M : zMem) : zeR M M := ⟨rfl, fun _ _ _ => rfl⟩
theorem zeC_t {M W X : zMem} (h1 : zeC M W) (h2 : zeC W X) : zeC M X := ⟨by rw [h2.1, h1.1], fun a p q r => by rw [h2.2 a p q r, h1.2 a p q r]⟩
theorem zeR_t {M W X : zMem} (h1 : zeR M W) (h2 : zeR W X) : zeR M X := ⟨by rw [h2.1, h1.1], fun a p q => by rw [h2.2 a p q, h1.2 a p q]⟩
theorem zeC_64 {M W : zMem} (h : zbut 64 M W) : zeC M W := ⟨h.1, fun a p _ _ => h.2 a p⟩
theorem zeC_st {M W : zMem} (hr : r0 = 3 ∨ r0 = 11) (h : zbut (r0 + 7) M W) : zeC M W := ⟨h.1, fun a _ p q => h.2 a (by omega)⟩
theorem zeR_122 {M W : zMem} (h : zbut 122 M W) : zeR M W := ⟨h.1, fun a p _ => h.2 a p⟩
theorem zeR_123 {M W : zMem} (h : zbut 123 M W) : zeR M W := ⟨h.1, fun a _ p => h.2 a p⟩
theorem zGA_e {A W : zMem} (h : zGA M c r0 A) (e : zeC A W) : zGA M c r0 W := ⟨by rw [e.1]; exact h.1, by rw [e.1]; exact h.2.1, fun a p q r s => by rw [e.2 a (by omega) q r]; exact h.2.2.1 a p q r s, by rw [e.2 57 (by omega) (by omega) (by omega)]; exact h.2.2.2⟩
theorem zGB_e {B W : zMem} (h : zGB M B) (e : zeR B W) : zGB M W := ⟨by rw [e.1]; exact h.1, fun a p q r => by rw [e.2 a (by omega) (by omega)]; exact h.2 a p q r⟩
theorem pc_facts {A : zMem} (hC : gCalls nv c nc nst M) (h : zGA M c r0 A) {k : Nat} (hk : k < nc) (w m t : Int32) : ∃ W, fX2_setFacts (nI k) w m t A = some W ∧ (∀ j, j < 6 → W.1 64 j = zF M (A.1 61) k w m t j) ∧ zbut 64 A W := by
  have n4 := hC.1
  have e9 : A.1 47 9 = nI nc := by rw [h.2.2.1 47 (by omega) (by omega) (by omega) (by omega)]; exact hC.2.2.2.1
  obtain ⟨-, -, ⟨w1, hw1, ew1⟩, -⟩ := hC.2.2.2.2.2.2.2 k hk
  have r49 : A.1 49 = M.1 49 := h.2.2.1 49 (by omega) (by omega) (by omega) (by omega)
  have r50 : A.1 50 = M.1 50 := h.2.2.1 50 (by omega) (by omega) (by omega) (by omega)
  have r51 : A.1 51 = M.1 51 := h.2.2.1 51 (by omega) (by omega) (by omega) (by omega)
  have r52 : A.1 52 = M.1 52 := h.2.2.1 52 (by omega) (by omega) (by omega) (by omega)
  have zk : zin (nI k) nc = true := z_zinI (by omega) hk
  have zc : zin (nI w1) 20 = true := z_zinI (by omega) hw1
  let A1 := zpI A 64 0 (M.1 51 k)
  let A2 := zpI A1 64 1 (M.1 52 k)
  let A3 := zpI A2 64 2 (w - M.1 49 k)
  let A4 := zpI A3 64 3 (m / 60)
  let A5 := zpI A4 64 4 (A.1 61 w1)
  let A6 := zpI A5 64 5 t
  refine ⟨A6, ?_, ?_, ⟨rfl, fun a ha => ?_⟩⟩
  · unfold fX2_setFacts fX2_setFacts_L88
    rw [p_callerOf n4 e9, if_pos zk, zb2_some, p_needOf n4 e9, if_pos zk, zb2_some, z_cl (by omega), r50, r51, ew1, show (0 : Int32) = nI 0 from rfl, z_stI (by omega) (by omega), zbd_some, p_topicOf n4 (show (zpI A 64 0 (M.1 51 k)).1 47 9 = nI nc from e9), if_pos zk, zb2_some, z_cl (by omega), show (zpI A 64 0 (M.1 51 k)).1 52 k = M.1 52 k from congrFun r52 k, show (1 : Int32) = nI 1 from rfl, z_stI (by omega) (by omega), zbd_some, p_minuteOf n4 (show A2.1 47 9 = nI nc from e9), if_pos zk, zb2_some, z_cl (by omega), show (zpI (zpI A 64 0 (M.1 51 k)) 64 1 (M.1 52 k)).1 49 k = M.1 49 k from congrFun r49 k, show (2 : Int32) = nI 2 from rfl, z_stI (by omega) (by omega), zbd_some, show (3 : Int32) = nI 3 from rfl, z_stI (by omega) (by omega), zbd_some, p_isCallerZ, if_pos zc, zb2_some, if_neg (by decide), z_ldI (by omega) (by omega), zbd_some, show (4 : Int32) = nI 4 from rfl, z_stI (by omega) (by omega), zbd_some, show (5 : Int32) = nI 5 from rfl, z_stI (by omega) (by omega), zbd_some]
    rfl
  · intro j hj
    have e61 : (zF M (A.1 61) k w m t 4) = A.1 61 w1 := by unfold zF; rw [ew1, z_cl (by omega)]; rfl
    rcases (show j = 0 ∨ j = 1 ∨ j = 2 ∨ j = 3 ∨ j = 4 ∨ j = 5 by omega) with rfl | rfl | rfl | rfl | rfl | rfl
    · rfl
    · rfl
    · rfl
    · rfl
    · rw [e61]; rfl
    · rfl
  · show (zpI (zpI (zpI (zpI (zpI (zpI A 64 0 _) 64 1 _) 64 2 _) 64 3 _) 64 4 _) 64 5 _).1 a = A.1 a
    rw [zpI_r _ _ ha, zpI_r _ _ ha, zpI_r _ _ ha, zpI_r _ _ ha, zpI_r _ _ ha, zpI_r _ _ ha]
theorem m_asks {B : zMem} {K : Nat → Int32} (hC : gCalls nv c nc nst M) (h : zGB M B) {k : Nat} (hk : k < nc) (m t : Int32) (hK : B.1 124 k = K (M.1 50 k).toNatClampNeg) : ∃ W, fX12_asks (nI k) m t B = some W ∧ (∀ j, j < 6 → W.1 122 j = zF M K k (if B.1 118 k = 1 then B.1 120 k else m) m t j) ∧ zbut 122 B W := by
  have n4 := hC.1
  obtain ⟨g1, g2, g3, g4, g5, g6, -⟩ := hC.2.2.2.2.2.2.1 k hk
  have r113 : B.1 113 k = M.1 49 k := by rw [h.2 113 (by omega) (by omega) (by omega), g2]
  have r115 : B.1 115 k = M.1 51 k := by rw [h.2 115 (by omega) (by omega) (by omega), g4]
  have r116 : B.1 116 k = M.1 52 k := by rw [h.2 116 (by omega) (by omega) (by omega), g5]
  have fin : ∀ w : Int32, ∃ W, fX12_asks_L49 (nI k) m t 2 w (zpI (zpI B 122 0 (M.1 51 k)) 122 1 (M.1 52 k)) = some W ∧ (∀ j, j < 6 → W.1 122 j = zF M K k w m t j) ∧ zbut 122 B W := by
    intro w
    refine ⟨zpI (zpI (zpI (zpI (zpI (zpI B 122 0 (M.1 51 k)) 122 1 (M.1 52 k)) 122 2 (w - M.1 49 k)) 122 3 (m / 60)) 122 4 (B.1 124 k)) 122 5 t, ?_, ?_, ⟨rfl, fun a ha => ?_⟩⟩
    · unfold fX12_asks_L49
      rw [z_ldI (by omega) (by omega), zbd_some, show (zpI (zpI B 122 0 (M.1 51 k)) 122 1 (M.1 52 k)).1 113 k = M.1 49 k from r113, show (2 : Int32) = nI 2 from rfl, z_stI (by omega) (by omega), zbd_some, show (3 : Int32) = nI 3 from rfl, z_stI (by omega) (by omega), zbd_some, z_ldI (by omega) (by omega), zbd_some, show (4 : Int32) = nI 4 from rfl, z_stI (by omega) (by omega), zbd_some, show (5 : Int32) = nI 5 from rfl, z_stI (by omega) (by omega), zbd_some]
      rfl
    · intro j hj
      have e4 : zF M K k w m t 4 = B.1 124 k := by rw [hK]; rfl
      rcases (show j = 0 ∨ j = 1 ∨ j = 2 ∨ j = 3 ∨ j = 4 ∨ j = 5 by omega) with rfl | rfl | rfl | rfl | rfl | rfl
      · rfl
      · rfl
      · rfl
      · rfl
      · rw [e4]; rfl
      · rfl
    · rw [zpI_r _ _ ha, zpI_r _ _ ha, zpI_r _ _ ha, zpI_r _ _ ha, zpI_r _ _ ha, zpI_r _ _ ha]
  unfold fX12_asks
  rw [z_ldI (by omega) (by omega), zbd_some, r115, show (0 : Int32) = nI 0 from rfl, z_stI (by omega) (by omega), zbd_some, z_ldI (by omega) (by omega), zbd_some, show (zpI B 122 0 (M.1 51 k)).1 116 k = M.1 52 k from r116]
  rw [show (1 : Int32) = nI 1 from rfl, z_stI (by omega) (by omega), zbd_some, z_ldI (by omega) (by omega), zbd_some, show (zpI (zpI B 122 0 (M.1 51 k)) 122 1 (M.1 52 k)).1 118 k = B.1 118 k from rfl]
  by_cases q : B.1 118 k = nI 1
  · rw [if_pos q, z_ldI (by omega) (by omega), zbd_some, if_pos q]
    exact fin (B.1 120 k)
  · rw [if_neg q, if_neg q]
    exact fin m
theorem pc_first {A : zMem} {F : Nat → Int32} (hR : zRu r0 lv nr cs R M) (h : zGA M c r0 A) (hF : ∀ j, j < 6 → A.1 64 j = F j) {kind : Nat} (hkd : kind < 100) (hN : 500 < N) : ∃ W, zdy (A.2.2 57 10) (fX6_firstHolding N (A.2.2 57 10) (nI kind) A) = some (zoi (zfst (zfr R F kind) 0 nr), W) ∧ zeC A W := by
  obtain ⟨W, w1, w2⟩ := p_first (zGA_u hR h) hF hkd hN
  refine ⟨W, ?_, zeC_st hR.1 w2⟩
  rw [h.2.1]
  unfold zdy
  rw [if_pos hR.1, w1]
theorem pc_term {A : zMem} {F : Nat → Int32} (hR : zRu r0 lv nr cs R M) (h : zGA M c r0 A) (hF : ∀ j, j < 6 → A.1 64 j = F j) {r : Nat} (hr : r < nr) (h4 : (R r).1 = 4) (hN : 500 < N) : ∃ W, zdy (A.2.2 57 10) (fX6_termOf N (A.2.2 57 10) (nI r) A) = some (ztv F (R r).2.2.1, W) ∧ zeC A W := by
  obtain ⟨W, w1, w2⟩ := p_term (zGA_u hR h) hF hr h4 hN
  refine ⟨W, ?_, zeC_st hR.1 w2⟩
  rw [h.2.1]
  unfold zdy
  rw [if_pos hR.1, w1]
end GO
