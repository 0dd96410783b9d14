/-! the rules in force: class code and reference code say the same -/
/-- terms as rows of (kind, value), operators behind their operands: 2 number, 3 fact, 13 + 14 - 15 *, 16 .. 19 relations, 9 and -/
def zsegC (M : zMem) (p : Nat) : Nat → List (Nat × Nat) → Prop
  | _, [] => True
  | i, x :: L => M.1 p i = nI (32 * x.2 + x.1) ∧ zsegC M p (i + 1) L
def zrk (k : Nat) : Nat := if k = 2 then 0 else if k = 3 then 1 else k - 11
def zsegR (M : zMem) : Nat → List (Nat × Nat) → Prop
  | _, [] => True
  | i, x :: L => (M.1 89 i = nI (zrk x.1) ∧ M.1 90 i = nI x.2) ∧ zsegR M (i + 1) L
/-- how deep the stack stands behind a term; none: too deep or too little -/
def zdp : List (Nat × Nat) → Nat → Option Nat
  | [], d => some d
  | x :: L, d => if x.1 = 2 ∨ x.1 = 3 then (if d < 16 then zdp L (d + 1) else none) else if 2 ≤ d then zdp L (d - 1) else none
def zterm (L : List (Nat × Nat)) : Prop := zdp L 0 = some 1 ∧ ∀ x, x ∈ L → (x.1 = 2 ∧ x.2 < 10000) ∨ (x.1 = 3 ∧ x.2 < 6) ∨ ((x.1 = 13 ∨ x.1 = 14 ∨ x.1 = 15) ∧ x.2 = 0)
def zcond : Bool → List (Nat × List (Nat × Nat) × List (Nat × Nat)) → List (Nat × Nat)
  | _, [] => []
  | j, x :: Rs => x.2.1 ++ (x.2.2 ++ ((16 + x.1, 0) :: ((if j then [(9, 0)] else []) ++ zcond true Rs)))
def zrels (M : zMem) (o : Nat) : Nat → List (Nat × List (Nat × Nat) × List (Nat × Nat)) → Prop
  | _, [] => True
  | k, x :: Rs => (x.1 < 4 ∧ zterm x.2.1 ∧ zterm x.2.2 ∧ ∃ a, M.1 85 (o + k) = nI x.1 ∧ M.1 86 (o + k) = nI a ∧ M.1 87 (o + k) = nI (a + x.2.1.length) ∧ M.1 88 (o + k) = nI (a + x.2.1.length + x.2.2.length) ∧ (a + x.2.1.length + x.2.2.length ≤ 1000 ∧ 5 * o ≤ 2 * a ∧ 2 * (a + x.2.1.length + x.2.2.length) ≤ 5 * o + 1000) ∧ zsegR M a x.2.1 ∧ zsegR M (a + x.2.1.length) x.2.2) ∧ zrels M o (k + 1) Rs
/-- one rule: kind, number, term, relations -/
def zrule (M : zMem) (r0 lv cs r : Nat) (x : Nat × Nat × List (Nat × Nat) × List (Nat × List (Nat × Nat) × List (Nat × Nat))) : Prop :=
  (x.1 = 4 ∨ x.1 = 5 ∨ x.1 = 6 ∨ x.1 = 7) ∧ x.2.1 < 10000 ∧ (x.1 = 4 → zterm x.2.2.1) ∧ M.1 (r0 + 1) r = nI x.1 ∧ M.1 (r0 + 2) r = nI x.2.1 ∧
  (∃ a, M.1 (r0 + 3) r = nI a ∧ M.1 (r0 + 4) r = nI (a + x.2.2.1.length) ∧ M.1 (r0 + 5) r = nI (a + x.2.2.1.length + (zcond false x.2.2.2).length) ∧ a + x.2.2.1.length + (zcond false x.2.2.2).length ≤ cs ∧ zsegC M (r0 + 6) a x.2.2.1 ∧ zsegC M (r0 + 6) (a + x.2.2.1.length) (zcond false x.2.2.2)) ∧
  M.1 78 (20 * lv + r) = nI (if x.1 = 4 then 0 else x.1 - 3) ∧ M.1 79 (20 * lv + r) = nI x.2.1 ∧
  (∃ b, M.1 80 (20 * lv + r) = nI b ∧ M.1 81 (20 * lv + r) = nI (b + x.2.2.1.length) ∧ (b + x.2.2.1.length ≤ 1000 ∧ 500 * lv ≤ b ∧ b + x.2.2.1.length ≤ 500 * lv + 500) ∧ zsegR M b x.2.2.1) ∧
  ∃ k, M.1 82 (20 * lv + r) = nI k ∧ M.1 83 (20 * lv + r) = nI (k + x.2.2.2.length) ∧ k + x.2.2.2.length ≤ 200 ∧ zrels M (200 * lv) k x.2.2.2
def gRules (r0 lv nr : Nat) (M : zMem) : Prop := (r0 = 3 ∨ r0 = 11) ∧ M.2.2 0 2 = r0 ∧ M.2.2 0 3 = 14 - r0 ∧ lv < 2 ∧ M.1 69 18 = nI lv ∧ nr ≤ 20 ∧ M.1 r0 7 = nI nr ∧ M.1 77 lv = nI nr ∧ ∃ cs, cs ≤ 400 ∧ M.1 r0 8 = nI cs ∧
  ∃ R : Nat → Nat × Nat × List (Nat × Nat) × List (Nat × List (Nat × Nat) × List (Nat × Nat)), ∀ r, r < nr → zrule M r0 lv cs r (R r)
/-- the reference's words that mean something -/
def gKeys (M : zMem) : Prop := ∀ k, k < 12 → M.2.1 76 k = lN ([3379448, 249, 388708, 92275, 358472, 1111, 279346, 10935975, 330748168, 168984, 6132983, 287753935].getD k 0)
/-- THE INVARIANT -/
def gAll (tl nv ns c no nc nst nn r0 lv nr : Nat) (M : zMem) : Prop := gTape tl M ∧ gPlace M ∧ gTeam nv ns M ∧ gLearn nv ns M ∧ gBars M ∧ gClock c M ∧ gCal M ∧ gGone M ∧ gOffers nv c no M ∧ gPres nv M ∧ gKept nv ns M ∧ gCalls nv c nc nst M ∧ gHard nc M ∧ gNotes nc nn M ∧ gRules r0 lv nr M ∧ gKeys M
def zInv (M : zMem) : Prop := ∃ tl nv ns c no nc nst nn r0 lv nr, gAll tl nv ns c no nc nst nn r0 lv nr M
/-- class first, then the reference -/
theorem zmx_self (M : zMem) : zmx M M = M := by
  refine Prod.ext ?_ (Prod.ext ?_ rfl)
  · funext a; show (if a < 69 then M.1 a else M.1 a) = M.1 a; split <;> rfl
  · funext a; show (if a < 69 then M.2.1 a else M.2.1 a) = M.2.1 a; split <;> rfl
theorem z_glue {f g : zMem → Option (Int32 × zMem)} (hf : ∀ A B, f (zmx A B) = zcp B (f A)) (hg : ∀ A B, g (zmx A B) = zmp A (g B)) {M A B : zMem} {r : Int32} (h1 : f M = some (r, A)) (h2 : g M = some (r, B)) : g A = some (r, zmx A B) := by
  have e := hf M M
  rw [zmx_self, h1, zcp_some] at e
  have e2 : A = zmx A M := congrArg Prod.snd (Option.some.inj e)
  have e3 := hg A M
  rw [← e2, h2, zmp_some] at e3
  exact e3
def zop (f g : zMem → Option (Int32 × zMem)) : Prop := ∀ M, zInv M → ∃ r A, f M = some (r, A) ∧ ∃ B, g A = some (r, B) ∧ zInv B
theorem z_opI {f g : zMem → Option (Int32 × zMem)} (hf : ∀ A B, f (zmx A B) = zcp B (f A)) (hg : ∀ A B, g (zmx A B) = zmp A (g B)) (h : ∀ tl nv ns c no nc nst nn r0 lv nr M, gAll tl nv ns c no nc nst nn r0 lv nr M → ∃ r A B, f M = some (r, A) ∧ g M = some (r, B) ∧ zInv (zmx A B)) : zop f g := by
  rintro M ⟨tl, nv, ns, c, no, nc, nst, nn, r0, lv, nr, hM⟩
  obtain ⟨r, A, B, h1, h2, h3⟩ := h _ _ _ _ _ _ _ _ _ _ _ M hM
  exact ⟨r, A, h1, zmx A B, z_glue hf hg h1 h2, h3⟩
/-- nothing changed -/
theorem z_opR {f g : zMem → Option (Int32 × zMem)} (h : ∀ tl nv ns c no nc nst nn r0 lv nr M, gAll tl nv ns c no nc nst nn r0 lv nr M → ∃ r, f M = some (r, M) ∧ g M = some (r, M)) : zop f g := by
  rintro M ⟨tl, nv, ns, c, no, nc, nst, nn, r0, lv, nr, hM⟩
  obtain ⟨r, h1, h2⟩ := h _ _ _ _ _ _ _ _ _ _ _ M hM
  exact ⟨r, M, h1, M, h2, _, _, _, _, _, _, _, _, _, _, _, hM⟩
theorem z_same {tl nv ns c no nc nst nn r0 lv nr : Nat} {M : zMem} (h : gAll tl nv ns c no nc nst nn r0 lv nr M) : zInv (zmx M M) := by
  rw [zmx_self]; exact ⟨_, _, _, _, _, _, _, _, _, _, _, h⟩
theorem q_count {tl nv ns c no nc nst nn r0 lv nr : Nat} {M : zMem} (h : gAll tl nv ns c no nc nst nn r0 lv nr M) (x : Int32) {N : Nat} (hN : 400 < N) : ∃ r, fX11_count N x M = some (r, M) ∧ fX12_count N x M = some (r, M) := by
  obtain ⟨hTape, hPlace, hTeam, hLearn, hBars, hClock, hCal, hGone, hOffers, hPres, hKept, hCalls, hHard, hNotes, hRules, hKeys⟩ := h
  obtain ⟨y1, a1, b1⟩ := q_state hCalls 1 hN
  obtain ⟨y2, a2, b2⟩ := q_state hCalls 2 hN
  obtain ⟨y3, a3, b3⟩ := q_state hCalls 3 hN
  obtain ⟨u0, u1, u2, u3, u4, u5, u6, u7, -⟩ := hRules
  have hsz : zdy (M.2.2 0 2) (fX6_size (M.2.2 0 2) M) = some (nI nr, M) := by
    rw [u1]
    unfold zdy fX6_size
    rw [if_pos u0, u6]
  unfold fX11_count fX12_count fX9_size fX9_stepCount fX1_size fX3_size fX8_length
  rw [a1, a2, a3, b1, b2, b3, hsz, p_countGone hCal (by omega), u4, z_ldI u3 (by omega), zbd_some, u7, hTeam.2.1, hTeam.2.2.1, hTeam.2.2.2.2.1, hTeam.2.2.2.2.2.1, hClock.2.1, hClock.2.2, hCalls.2.2.2.1, hCalls.2.2.2.2.1, hNotes.2.1, hNotes.2.2.1, hTape.2.1, hTape.2.2.1, show M.1 69 71 = _ from hGone]
  simp only [zb2_some]
  have pick : ∀ (q : Prop) [Decidable q] (a b : Option (Int32 × zMem)), (∃ r, a = some (r, M)) → (∃ r, b = some (r, M)) → ∃ r, (if q then a else b) = some (r, M) := by
    intro q _ a b h1 h2
    split
    · exact h1
    · exact h2
  obtain ⟨r, e⟩ := pick (x = 0) _ _ ⟨_, rfl⟩ (pick (x = 1) _ _ ⟨_, rfl⟩ (pick (x = 2) _ _ ⟨_, rfl⟩ (pick (x = 3) _ _ ⟨_, rfl⟩ (pick (x = 4) _ _ ⟨_, rfl⟩ (pick (x = 5) _ _ ⟨_, rfl⟩ (pick (x = 6) _ _ ⟨_, rfl⟩ (pick (x = 7) _ _ ⟨_, rfl⟩ (pick (x = 8) _ _ ⟨_, rfl⟩ (pick (x = 9) _ _ ⟨_, rfl⟩ (pick (x = 10) _ _ ⟨_, rfl⟩ ⟨-1, rfl⟩))))))))))
  exact ⟨r, e, e⟩
