/-! SHIFTS, the class: the offers go into the search; the hours found go into the calendar -/
noncomputable def zdue (N : Nat) (M : zMem) (v : Nat) : Bool := @decide (fX12_isDue N (nI v) M = some (1, M)) (Classical.propDecidable _)
theorem zmx_of36 {M W : zMem} (h : zag 36 46 M W) : zmx W M = W := by
  refine Prod.ext ?_ (Prod.ext ?_ rfl)
  · funext a
    show (if a < 69 then W.1 a else M.1 a) = W.1 a
    split
    · rfl
    · rw [h.2 a (by omega)]
  · funext a
    show (if a < 69 then W.2.1 a else M.2.1 a) = W.2.1 a
    split
    · rfl
    · rw [h.1]
theorem q_due36 {tl nv ns c no nc nst nn r0 lv nr : Nat} {M W : zMem} (hM : gAll tl nv ns c no nc nst nn r0 lv nr M) (h : zag 36 46 M W) {v : Nat} (hv : v < nv) {N : Nat} (hN : 400 < N) : fX11_careIsDue N (nI v) W = some (if zdue N M v = true then 1 else 0, W) ∧ fX12_isDue N (nI v) M = some (if zdue N M v = true then 1 else 0, M) := by
  obtain ⟨-, -, hT, -, -, hK, -, -, -, -, -, hC, hH, -⟩ := gAll_36 hM h
  obtain ⟨b, b0, b1, b2⟩ := q_isDue hT hK hC hH hv hN
  have e := lm_fX12_isDue (A := W) N (nI v) M
  rw [zmx_of36 h, b2] at e
  obtain ⟨-, -, hT', -, -, hK', -, -, -, -, -, hC', hH', -⟩ := hM
  obtain ⟨b', b0', b1', b2'⟩ := q_isDue hT' hK' hC' hH' hv hN
  rw [b2', zmp_some] at e
  have eb : b = b' := congrArg Prod.fst (Option.some.inj e)
  subst eb
  have hz : zdue N M v = true ↔ b = 1 := by
    unfold zdue
    rw [b2', @decide_eq_true_eq _ (Classical.propDecidable _)]
    constructor
    · intro q; exact congrArg Prod.fst (Option.some.inj q)
    · intro q; rw [q]
  rcases b0 with rfl | rfl
  · have : ¬ zdue N M v = true := fun q => absurd (hz.mp q) (by decide)
    rw [if_neg this]; exact ⟨b1, b2'⟩
  · rw [if_pos (hz.mpr rfl)]; exact ⟨b1, b2'⟩
noncomputable def zHo (N : Nat) (M : zMem) (k : Nat) : Nat := if zdue N M (M.1 33 k).toNatClampNeg = true then 0 else (M.1 34 k).toNatClampNeg
def zmo (M : zMem) (k : Nat) : Nat := (M.1 35 k).toNatClampNeg
def zso (ns c : Nat) (M : zMem) (k : Nat) : Bool := zhas0 ns M (M.1 33 k).toNatClampNeg c
theorem p_shL39 {tl nv ns c no nc nst nn r0 lv nr : Nat} {M : zMem} (hM : gAll tl nv ns c no nc nst nn r0 lv nr M) {N : Nat} (hN : 400 < N) : ∀ d i f (W : zMem), i + d = no → d < f → zag 36 46 M W → W.1 36 10 = nI i → (∀ k, k < i → W.1 37 k = nI (zHo N M k) ∧ W.1 38 k = nI (zmo M k) ∧ W.1 39 k = (if zso ns c M k = true then 1 else 0)) →
    ∃ X, fX11_shifts_L39 N f (nI i) W = (zb2 (fX7_findBest N X) fun r14 M13 => fX11_shifts_L125 N N r14 0 M13) ∧ zag 36 46 M X ∧ zdC (zHo N M) (zmo M) (zso ns c M) no X
  | 0, i, f + 1, W, hi, hf, hz, h10, hr => by
    have e : i = no := by omega
    subst e
    obtain ⟨-, -, hT, -, -, hK, -, -, hO, -, -, hC, hH, -⟩ := gAll_36 hM hz
    obtain ⟨-, -, -, -, -, -, -, -, hO', -⟩ := hM
    have o0 := hO.1
    refine ⟨W, ?_, hz, o0, h10, fun k hk => ?_⟩
    · rw [fX11_shifts_L39]
      unfold fX4_size
      rw [zb2_some, hO.2.1, if_pos (by rw [z_le (by omega) (by omega)]; omega)]
    · obtain ⟨a1, a2, a3, ⟨v, v1, v2⟩, ⟨h, h1, h2, h3⟩, m, m1, m2, m3⟩ := hO'.2.2.2.2.1 k hk
      refine ⟨?_, ?_, ?_, hr k hk⟩
      · unfold zHo; rw [h3, z_cl (by omega)]; split <;> omega
      · unfold zmo; rw [m3, z_cl (by omega)]; exact m1
      · unfold zmo; rw [m3, z_cl (by omega)]; exact m2
  | d + 1, i, f + 1, W, hi, hf, hz, h10, hr => by
    have hW := gAll_36 hM hz
    obtain ⟨-, -, hT, -, -, hK, -, -, hO, -, -, hC, hH, -⟩ := hW
    have o0 := hO.1
    have t0 := hT.1
    obtain ⟨a1, a2, a3, ⟨v, v1, v2⟩, ⟨h, h1, h2, h3⟩, m, m1, m2, m3⟩ := hO.2.2.2.2.1 i (by omega)
    obtain ⟨q1, -⟩ := q_due36 hM hz v1 hN
    have v2' : M.1 33 i = nI v := by rw [← hz.2 33 (by omega)]; exact v2
    have h3' : M.1 34 i = nI h := by rw [← hz.2 34 (by omega)]; exact h3
    have m3' : M.1 35 i = nI m := by rw [← hz.2 35 (by omega)]; exact m3
    have ehas : zhas0 ns W v c = zso ns c M i := by
      unfold zso
      rw [v2', z_cl (by omega)]
      exact zhas0_c (hz.2 25 (by omega)) (by rw [hz.1]) v c
    have eh : zHo N M i = if zdue N M v = true then 0 else h := by unfold zHo; rw [v2', h3', z_cl (by omega), z_cl (by omega)]
    have em : zmo M i = m := by unfold zmo; rw [m3', z_cl (by omega)]
    have z0 : ¬ nI i < (0 : Int32) := nI_pos (by omega)
    have z1 : ¬ nI no ≤ nI i := by rw [z_le (by omega) (by omega)]; omega
    have g1 : fX4_volunteerOf (nI i) W = some (nI v, W) := by unfold fX4_volunteerOf; rw [if_neg z0, hO.2.1, if_neg z1, z_ldI (by omega) (by omega), zbd_some, v2]
    have g2 : fX4_hoursOf (nI i) W = some (nI h, W) := by unfold fX4_hoursOf; rw [if_neg z0, hO.2.1, if_neg z1, z_ldI (by omega) (by omega), zbd_some, h3]
    have g3 : fX4_mostOf (nI i) W = some (nI m, W) := by unfold fX4_mostOf; rw [if_neg z0, hO.2.1, if_neg z1, z_ldI (by omega) (by omega), zbd_some, m3]
    have g4 := p_has0 hT v1 hK.1 (N := N) (by omega)
    rw [ehas] at g4
    have hadd : fX7_add (nI (zHo N M i)) (nI m) (if zso ns c M i = true then 1 else 0) W = some (zpI (zpI (zpI (zpI W 37 i (nI (zHo N M i))) 38 i (nI m)) 39 i (if zso ns c M i = true then 1 else 0)) 36 10 (nI (i + 1))) := by
      have k1 : (zpI W 37 i (nI (zHo N M i))).1 36 10 = nI i := h10
      have k2 : (zpI (zpI W 37 i (nI (zHo N M i))) 38 i (nI m)).1 36 10 = nI i := h10
      have k3 : (zpI (zpI (zpI W 37 i (nI (zHo N M i))) 38 i (nI m)) 39 i (if zso ns c M i = true then 1 else 0)).1 36 10 = nI i := h10
      unfold fX7_add
      rw [h10, show (5 : Int32) = nI 5 from rfl, if_neg (by rw [z_le (by omega) (by omega)]; omega), z_stI (by omega) (by omega), zbd_some, k1, z_stI (by omega) (by omega), zbd_some, k2, z_stZ (by omega) (by omega) (by split; exact Or.inr rfl; exact Or.inl rfl), zbd_some, zlet_eq, k3, nI_1]
    obtain ⟨X, x1, x2, x3⟩ := p_shL39 hM hN d (i + 1) f (zpI (zpI (zpI (zpI W 37 i (nI (zHo N M i))) 38 i (nI m)) 39 i (if zso ns c M i = true then 1 else 0)) 36 10 (nI (i + 1))) (by omega) (by omega) (zag_p (zag_p (zag_p (zag_p hz (by omega) (by omega)) (by omega) (by omega)) (by omega) (by omega)) (by omega) (by omega)) rfl (by
      intro k hk
      have e37 : ∀ k, (zpI (zpI (zpI (zpI W 37 i (nI (zHo N M i))) 38 i (nI m)) 39 i (if zso ns c M i = true then 1 else 0)) 36 10 (nI (i + 1))).1 37 k = if k = i then nI (zHo N M i) else W.1 37 k := by intro k; simp [zpI_1]
      have e38 : ∀ k, (zpI (zpI (zpI (zpI W 37 i (nI (zHo N M i))) 38 i (nI m)) 39 i (if zso ns c M i = true then 1 else 0)) 36 10 (nI (i + 1))).1 38 k = if k = i then nI m else W.1 38 k := by intro k; simp [zpI_1]
      have e39 : ∀ k, (zpI (zpI (zpI (zpI W 37 i (nI (zHo N M i))) 38 i (nI m)) 39 i (if zso ns c M i = true then 1 else 0)) 36 10 (nI (i + 1))).1 39 k = if k = i then (if zso ns c M i = true then 1 else 0) else W.1 39 k := by intro k; simp [zpI_1]
      rw [e37, e38, e39]
      by_cases w : k = i
      · rw [if_pos w, if_pos w, if_pos w, w, em]; exact ⟨rfl, rfl, rfl⟩
      · rw [if_neg w, if_neg w, if_neg w]; exact hr k (by omega))
    refine ⟨X, ?_, x2, x3⟩
    rw [fX11_shifts_L39]
    unfold fX4_size fX11_shifts_L79
    rw [zb2_some, hO.2.1, if_neg z1, g1, zb2_some, q1, zb2_some]
    by_cases w : zdue N M v = true
    · rw [if_pos w] at eh
      rw [eh] at hadd x1
      rw [if_pos w, if_neg (by decide), g3, zb2_some, hK.2.1, show (0 : Int32) = nI 0 from rfl, g4, zb2_some, hadd, zbd_some, zlet_eq, nI_1, x1]
      rfl
    · rw [if_neg w] at eh
      rw [eh] at hadd x1
      rw [if_neg w, if_pos rfl, g2, zb2_some, g3, zb2_some, hK.2.1, show (0 : Int32) = nI 0 from rfl, g4, zb2_some, hadd, zbd_some, zlet_eq, nI_1, x1]
      rfl
