/-! READ: the class's scanner -/
theorem z_sl : ∀ w, w < 12 → zslen w = some (nI (zstr w).length) := by decide +kernel
theorem z_sc : ∀ w, w < 12 → ∀ j, j < (zstr w).length → zschr w (nI j) = some (nI ((zstr w).getD j 0)) := by decide +kernel
theorem z_slen6 : ∀ w, w < 12 → (zstr w).length ≤ 6 := by decide +kernel
theorem z_sch256 : ∀ w, w < 12 → ∀ j, j < (zstr w).length → (zstr w).getD j 0 < 256 := by decide +kernel
section LEX2
variable {B : Nat → Nat} {tl : Nat} {N : Nat}
theorem p_skip {M : zMem} {p : Nat} (h : zbyte B tl M) (h0 : M.1 20 0 = nI p) (hp : p ≤ tl) (hN : 2000 < N) : ∃ W, fX10_skipBlanks N M = some W ∧ zb20 M W (ztokS B tl p) := by
  have h2 := h.1
  exact p_skipL (tl - p) p 0 N M h h0 (by omega) (by omega) (by omega)
theorem p_wordL : ∀ k i x f (M : zMem), zbyte B tl M → M.1 20 0 = nI i → i + k = tl → x + k ≤ 2000 → k < f → ∃ W, fX10_scanWord_L2 N f (nI x) M = fX10_scanWord_L39 N W ∧ zb20 M W (i + zspan (fun i => zltr (B i)) i k)
  | 0, i, x, f + 1, M, h, h0, hi, hx, hf => by
    have t2 := h.1
    refine ⟨M, ?_, rfl, fun _ _ => rfl, fun _ _ => rfl, h0⟩
    rw [fX10_scanWord_L2, show (2000 : Int32) = nI 2000 from rfl]
    by_cases q : 2000 ≤ x
    · rw [if_pos (by rw [z_le (by omega) (by omega)]; exact q)]
    · rw [if_neg (by rw [z_le (by omega) (by omega)]; exact q), h0, p_byteAt h (by omega), zb2_some, p_letter h, zb2_some, h.2.2.2 i (by omega), if_pos (by decide)]
  | k + 1, i, x, f + 1, M, h, h0, hi, hx, hf => by
    have t2 := h.1
    rw [fX10_scanWord_L2, show (2000 : Int32) = nI 2000 from rfl, if_neg (by rw [z_le (by omega) (by omega)]; omega), h0, p_byteAt h (by omega), zb2_some, p_letter h, zb2_some, zspan]
    cases q : zltr (B i)
    · rw [if_pos (show zbi false = 0 from rfl), if_neg (by decide)]
      exact ⟨M, rfl, rfl, fun _ _ => rfl, fun _ _ => rfl, h0⟩
    · rw [if_neg (by decide), if_pos rfl, zlet_eq, zlet_eq, h0, nI_1, nI_1]
      obtain ⟨W, w1, w2, w3, w4, w5⟩ := p_wordL k (i + 1) (x + 1) f (zpI M 20 0 (nI (i + 1))) (zbyte_c h rfl rfl) rfl (by omega) (by omega) (by omega)
      refine ⟨W, w1, w2, fun a ha => by rw [w3 a ha, zpI_r _ _ ha], fun j hj => by rw [w4 j hj, zpI_1, if_neg (fun z => hj z.2)], ?_⟩
      rw [w5]; congr 1; omega
theorem zdgt_48 {b : Nat} (h : zdgt b = true) : 48 ≤ b ∧ b ≤ 57 := by
  unfold zdgt at h
  simp at h
  exact h
theorem p_numL : ∀ k i x a f (M : zMem), zbyte B tl M → M.1 20 0 = nI i → i + k = tl → x + k ≤ 2000 → k < f → ∃ W, fX10_scanNumber_L4 N f (nI a) (nI x) M = fX10_scanNumber_L58 N (nI (zdec (zlst B i (zspan (fun i => zdgt (B i)) i k)) a)) W ∧ zb20 M W (i + zspan (fun i => zdgt (B i)) i k)
  | 0, i, x, a, f + 1, M, h, h0, hi, hx, hf => by
    have t2 := h.1
    refine ⟨M, ?_, rfl, fun _ _ => rfl, fun _ _ => rfl, h0⟩
    rw [fX10_scanNumber_L4, show (2000 : Int32) = nI 2000 from rfl]
    by_cases q : 2000 ≤ x
    · rw [if_pos (by rw [z_le (by omega) (by omega)]; exact q)]; rfl
    · rw [if_neg (by rw [z_le (by omega) (by omega)]; exact q), h0, p_byteAt h (by omega), zb2_some, p_digit h, zb2_some, h.2.2.2 i (by omega), if_pos (by decide)]; rfl
  | k + 1, i, x, a, f + 1, M, h, h0, hi, hx, hf => by
    have t2 := h.1
    rw [fX10_scanNumber_L4, show (2000 : Int32) = nI 2000 from rfl, if_neg (by rw [z_le (by omega) (by omega)]; omega), h0, p_byteAt h (by omega), zb2_some, p_digit h, zb2_some, zspan]
    cases q : zdgt (B i)
    · rw [if_pos (show zbi false = 0 from rfl), if_neg (by decide)]
      exact ⟨M, rfl, rfl, fun _ _ => rfl, fun _ _ => rfl, h0⟩
    · have q2 := zdgt_48 q
      have ev : zbv B tl i = nI (B i) := if_pos (by omega)
      have en : nI a * (10 : Int32) + nI (B i) - (48 : Int32) = nI (a * 10 + (B i - 48)) := by
        rw [show (10 : Int32) = nI 10 from rfl, show (48 : Int32) = nI 48 from rfl, pk_mul, nI_add, pk_sub (by omega)]
        congr 1; omega
      rw [if_neg (by decide), if_pos rfl, h0, p_byteAt h (by omega), zb2_some, zlet_eq, zlet_eq, zlet_eq, h0, nI_1, nI_1, ev, en]
      obtain ⟨W, w1, w2, w3, w4, w5⟩ := p_numL k (i + 1) (x + 1) (a * 10 + (B i - 48)) f (zpI M 20 0 (nI (i + 1))) (zbyte_c h rfl rfl) rfl (by omega) (by omega) (by omega)
      refine ⟨W, ?_, w2, fun a ha => by rw [w3 a ha, zpI_r _ _ ha], fun j hj => by rw [w4 j hj, zpI_1, if_neg (fun z => hj z.2)], ?_⟩
      · rw [w1, Nat.add_comm 1 (zspan (fun i => zdgt (B i)) (i + 1) k), zlst, zdec]
      · rw [w5]; congr 1; omega
theorem p_num58 {W : zMem} {s e v : Nat} (h0 : W.1 20 0 = nI e) (h1 : W.1 20 1 = nI s) (hs : s ≤ e) (he : e ≤ 2000) : fX10_scanNumber_L58 N (nI v) W = some (zpI (zpI W 20 2 (nI (if e - s ≤ 4 then 2 else 1))) 20 3 (nI (if e - s ≤ 4 then v else 0))) := by
  unfold fX10_scanNumber_L58 fX10_scanNumber_L77 fX10_scanNumber_L94
  rw [h0, h1, pk_sub hs, show (4 : Int32) = nI 4 from rfl]
  by_cases q : e - s ≤ 4
  · rw [if_pos (by rw [z_le (by omega) (by omega)]; exact q), zlet_eq, if_pos (show (zpI W 20 2 2).1 20 2 = 2 from rfl), zlet_eq, if_pos q, if_pos q]; rfl
  · rw [if_neg (by rw [z_le (by omega) (by omega)]; exact q), zlet_eq, if_neg (show ¬ (zpI W 20 2 1).1 20 2 = 2 from by rw [zpI_1, if_pos ⟨rfl, rfl⟩]; decide), zlet_eq, if_neg q, if_neg q]; rfl
theorem p_spL {w : Nat} (hw : w < 12) {M : zMem} {s : Nat} (h : zbyte B tl M) (h1 : M.1 20 1 = nI s) (hl : s + (zstr w).length ≤ tl) : ∀ k j f, j + k = (zstr w).length → k < f → fX10_spells_L20 N f w (nI j) M = some (zbi (decide (zlst B (s + j) k = (zstr w).drop j)), M)
  | 0, j, f + 1, hj, hf => by
    have h6 := z_slen6 w hw
    rw [fX10_spells_L20, z_sl w hw, zbd_some, if_pos (by rw [z_le (by omega) (by omega)]; omega), zlst, List.drop_eq_nil_of_le (by omega)]
    rfl
  | k + 1, j, f + 1, hj, hf => by
    have h6 := z_slen6 w hw
    have t2 := h.1
    have hlt : j < (zstr w).length := by omega
    have hb := (h.2.2.1 (s + j) (by omega)).1
    have h256 := z_sch256 w hw j hlt
    rw [fX10_spells_L20, z_sl w hw, zbd_some, if_neg (by rw [z_le (by omega) (by omega)]; omega), h1, nI_add, p_byteAt h (by omega), zb2_some, z_sc w hw j hlt, zbd_some, show zbv B tl (s + j) = nI (B (s + j)) from if_pos (by omega), zlst, List.drop_eq_getElem_cons hlt]
    have eg : (zstr w).getD j 0 = (zstr w)[j] := by rw [List.getD_eq_getElem?_getD, List.getElem?_eq_getElem hlt]; rfl
    rw [eg] at h256 ⊢
    by_cases q : B (s + j) = (zstr w)[j]
    · rw [if_pos (by rw [q]), zlet_eq, nI_1, p_spL hw h h1 hl k (j + 1) f (by omega) (by omega), q, show s + j + 1 = s + (j + 1) by omega]
      simp only [List.cons.injEq, true_and]
    · rw [if_neg (by rw [z_eq (by omega) (by omega)]; exact q)]
      congr 2
      rw [decide_eq_false (fun z => q (List.cons.inj z).1)]
      rfl
theorem p_spells {w : Nat} (hw : w < 12) {M : zMem} {s e : Nat} (h : zbyte B tl M) (h0 : M.1 20 0 = nI e) (h1 : M.1 20 1 = nI s) (hs : s ≤ e) (he : e ≤ tl) (hN : 10 < N) : fX10_spells N w M = some (zbi (decide (zlst B s (e - s) = zstr w)), M) := by
  have h6 := z_slen6 w hw
  have t2 := h.1
  unfold fX10_spells
  rw [z_sl w hw, zbd_some, h0, h1, pk_sub hs]
  by_cases q : e - s = (zstr w).length
  · rw [if_pos (by rw [q]), show (0 : Int32) = nI 0 from rfl, p_spL hw h h1 (by omega) (zstr w).length 0 N (by omega) (by omega), q]
    rfl
  · rw [if_neg (by rw [z_eq (by omega) (by omega)]; exact q), decide_eq_false (fun z => q (by rw [← z, zlst_len]))]
    rfl
end LEX2
