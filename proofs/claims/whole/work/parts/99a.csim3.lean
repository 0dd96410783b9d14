/-! READ: a token is taken, the class: terms -/
theorem zgetD_l {Rs : List zRl} {x d : zRl} {j : Nat} (h : j < Rs.length) : (Rs ++ [x]).getD j d = Rs.getD j d := by
  simp only [List.getD_eq_getElem?_getD, List.getElem?_append_left h]
theorem zgetD_r {Rs : List zRl} {x d : zRl} : (Rs ++ [x]).getD Rs.length d = x := by
  simp [List.getD_eq_getElem?_getD]
theorem zcond_st (x : zRe) : ∀ Cs : List zRe, zcond true (Cs ++ [x]) = zcond true Cs ++ (x.2.1 ++ (x.2.2 ++ ((16 + x.1, 0) :: [(9, 0)])))
  | [] => rfl
  | y :: Cs => by
    rw [List.cons_append, zcond, zcond, zcond_st x Cs]
    simp only [List.append_assoc, List.cons_append]
theorem zcond_sf (x : zRe) (Cs : List zRe) : zcond false (Cs ++ [x]) = zcond false Cs ++ (x.2.1 ++ (x.2.2 ++ ((16 + x.1, 0) :: (if Cs.length = 0 then [] else [(9, 0)])))) := by
  cases Cs with
  | nil => rfl
  | cons y Cs =>
    rw [List.cons_append, zcond, zcond, zcond_st x Cs, if_neg (show ¬ (y :: Cs).length = 0 by rw [List.length_cons]; omega)]
    simp only [List.append_assoc, List.cons_append]
section CSIM3
variable {r : Nat} {M0 M : zMem} {N t : Nat} {Rs : List zRl} {w : Option Nat} {k n : Nat} {L : zTm} {Cs : List zRe} {sd q : Nat} {A E : zTm} {K : List Nat} {c v p : Nat} {x : Int32}
/-- a condition begins -/
theorem p_bcond (hr : r = 3 ∨ r = 11) {X : zMem} {a : Nat} {C : zTm} (h10 : X.2.2 19 10 = r) (hf : zfrc r M0 X) (h8 : X.1 19 8 = zwp w) (h2 : X.1 19 2 = nI 0) (h3 : X.1 19 3 = nI 0) (h7 : X.1 r 7 = nI (Rs.length + 1)) (hn : Rs.length < 20) (hT : zRT r Rs a C X) (c1 : X.1 (r + 1) Rs.length = nI k) (c2 : X.1 (r + 2) Rs.length = nI n) (c3 : X.1 (r + 3) Rs.length = nI a) (hb : a + C.length + 1 ≤ t) : ∃ W, fX5_beginCondition X = some W ∧ zCRc r M0 t 3 Rs w k n C [] 1 0 [] [] [] W ∧ W.1 20 = X.1 20 := by
  unfold fX5_beginCondition
  obtain ⟨Y, y1, y2, y3, y4, y5⟩ := p_bgc hr h10 h7 hT.2.2 hn
  rw [h10, zdy_r hr, y1, zbd_some, zlet_eq, zlet_eq, zlet_eq]
  have eo : ∀ b, b ≠ 19 → (zpI (zpI (zpI Y 19 7 0) 19 5 1) 19 4 3).1 b = Y.1 b := fun b hb => by rw [zpI_r _ _ hb, zpI_r _ _ hb, zpI_r _ _ hb]
  refine ⟨_, rfl, ⟨?_, ?_, rfl, ?_, ?_, trivial, ?_, fun _ => rfl, fun z => absurd z (by omega), fun _ => rfl, ?_, a, ?_, fun _ => ⟨?_, ?_, ?_, fun _ => ?_⟩, ?_⟩, ?_⟩
  · show Y.2.2 19 10 = r
    rw [y5]; exact h10
  · refine zfrc_c (M := X) (fun b b1 b2 b3 b4 => ?_) (show Y.2 = X.2 from y5) hf
    rw [eo b b1, y4 b (by omega)]
  · show Y.1 19 8 = _
    rw [y4 19 (by omega)]; exact h8
  · show Y.1 19 2 = _
    rw [y4 19 (by omega)]; exact h2
  · show Y.1 19 3 = _
    rw [y4 19 (by omega)]; exact h3
  · rw [if_neg (show ¬ (3 : Nat) = 0 by omega), eo r (by omega), y4 r (by omega)]; exact h7
  · simp only [zcond, List.append_nil]
    refine zRT_c (M := X) (fun b j b1 b2 hj => ?_) ?_ ?_ hT
    · rw [eo _ (by omega)]
      by_cases b4 : b = 4
      · rw [b4, y3 j (by omega)]
      · rw [y4 _ (by omega)]
    · rw [eo _ (by omega), y4 _ (by omega)]
    · rw [eo _ (by omega), y4 _ (by omega)]
  · rw [eo _ (by omega), y4 _ (by omega)]; exact c1
  · rw [eo _ (by omega), y4 _ (by omega)]; exact c2
  · rw [eo _ (by omega), y4 _ (by omega)]; exact c3
  · rw [eo _ (by omega)]; exact y2
  · rw [if_neg (show ¬ (1 : Nat) = 2 by omega), if_neg (show ¬ (3 : Nat) = 0 by omega)]
    simp only [zcond, List.append_nil]
    show a + C.length + 0 + 0 + 0 + 1 ≤ t
    omega
  · rw [eo _ (by omega), y4 _ (by omega)]
/-- a rule ends -/
theorem p_erule (hr : r = 3 ∨ r = 11) {X : zMem} {a : Nat} {C : zTm} (hC : C = L ++ zcond false Cs) (h10 : X.2.2 19 10 = r) (hf : zfrc r M0 X) (h8 : X.1 19 8 = zwp w) (h2 : X.1 19 2 = nI 0) (h3 : X.1 19 3 = nI 0) (h7 : X.1 r 7 = nI (Rs.length + 1)) (hn : Rs.length < 20) (hT : zRT r Rs a C X) (c1 : X.1 (r + 1) Rs.length = nI k) (c2 : X.1 (r + 2) Rs.length = nI n) (c3 : X.1 (r + 3) Rs.length = nI a) (c4 : X.1 (r + 4) Rs.length = nI (a + L.length)) (hb : a + C.length ≤ t) : ∃ W, fX5_endRule X = some W ∧ zCRc r M0 t 0 (Rs ++ [(k, n, L, Cs)]) w 0 0 [] [] 0 0 [] [] [] W ∧ W.1 20 = X.1 20 := by
  unfold fX5_endRule
  obtain ⟨Y, y1, y2, y3, y4, y5⟩ := p_en hr h10 h7 hT.2.2 hn
  rw [h10, zdy_r hr, y1, zbd_some, zlet_eq]
  have eo : ∀ b, b ≠ 19 → (zpI Y 19 4 0).1 b = Y.1 b := fun b hb => by rw [zpI_r _ _ hb]
  have hlen : (Rs ++ [(k, n, L, Cs)]).length = Rs.length + 1 := by rw [List.length_append]; rfl
  have hCl : C.length = L.length + (zcond false Cs).length := by rw [hC, List.length_append]
  refine ⟨_, rfl, ⟨?_, ?_, rfl, ?_, ?_, trivial, ?_, fun z => absurd rfl z, fun z => absurd z (by omega), fun z => absurd z (by omega), ?_, a + C.length, ⟨fun j hj => ?_, trivial, ?_⟩, fun z => absurd rfl z, ?_⟩, ?_⟩
  · show Y.2.2 19 10 = r
    rw [y5]; exact h10
  · refine zfrc_c (M := X) (fun b b1 b2 b3 b4 => ?_) (show Y.2 = X.2 from y5) hf
    rw [eo b b1, y4 b (by omega)]
  · show Y.1 19 8 = _
    rw [y4 19 (by omega)]; exact h8
  · show Y.1 19 2 = _
    rw [y4 19 (by omega)]; exact h2
  · show Y.1 19 3 = _
    rw [y4 19 (by omega)]; exact h3
  · rw [if_pos rfl, hlen, Nat.add_zero, eo r (by omega), y4 r (by omega)]; exact h7
  · rw [hlen] at hj
    by_cases e : j < Rs.length
    · rw [zgetD_l e]
      refine zruC_c (M := X) (fun b b1 b2 => ?_) (fun i hi => ?_) (by omega) (hT.1 j e)
      · rw [eo _ (by omega)]
        by_cases b5 : b = 5
        · rw [b5, y3 j (by omega)]
        · rw [y4 _ (by omega)]
      · rw [eo _ (by omega), y4 _ (by omega)]
    · have e2 : j = Rs.length := by omega
      rw [e2, zgetD_r]
      have hs : zsegC (zpI Y 19 4 0) (r + 6) a (L ++ zcond false Cs) := by
        rw [← hC]
        exact zsegC_c (by rw [eo _ (by omega), y4 _ (by omega)]) _ _ hT.2.1
      refine ⟨?_, ?_, a, ?_, ?_, ?_, ?_, zsegC_l _ _ _ hs, zsegC_r _ _ _ hs⟩
      · rw [eo _ (by omega), y4 _ (by omega)]; exact c1
      · rw [eo _ (by omega), y4 _ (by omega)]; exact c2
      · rw [eo _ (by omega), y4 _ (by omega)]; exact c3
      · rw [eo _ (by omega), y4 _ (by omega)]; exact c4
      · rw [eo _ (by omega), y2]
        show nI (a + C.length) = nI (a + L.length + (zcond false Cs).length)
        congr 1; omega
      · show a + L.length + (zcond false Cs).length ≤ a + C.length
        omega
  · rw [eo _ (by omega), y4 _ (by omega)]; exact hT.2.2
  · rw [if_neg (show ¬ (0 : Nat) = 2 by omega), if_pos rfl]
    show a + C.length + 0 + 0 + 0 + 0 + 0 ≤ t
    omega
  · rw [eo _ (by omega), y4 _ (by omega)]
theorem p_t2 (hr : r = 3 ∨ r = 11) (h : zCRc r M0 t 2 Rs w k n [] [] 0 q [] [] [] M) (h20 : Rs.length < 20) (hc : c ≤ 19) : zTake r M0 M t (fX5_takeIf (nI c) M) (zstp 2 Rs w k n [] [] 0 q [] [] [] c v p) := by
  obtain ⟨u1, u2, u3, u4, u5, u6, u7, u8, u9, u10, u11, a, u12, u13, u14⟩ := h
  rw [if_neg (show ¬ (2 : Nat) = 0 by omega)] at u11 u14
  rw [if_neg (show ¬ (0 : Nat) = 2 by omega)] at u14
  obtain ⟨v1, v2, v3, -⟩ := u13 (by omega)
  unfold zstp fX5_takeIf
  rw [if_neg (show ¬ (2 : Nat) = 0 by omega), if_neg (show ¬ (2 : Nat) = 1 by omega), if_pos (show (2 : Nat) = 2 from rfl), show (8 : Int32) = nI 8 from rfl, zif_eq (by omega) (by omega)]
  by_cases c8 : c = 8
  · rw [if_pos c8, if_pos c8]
    obtain ⟨W, w1, w2, w3⟩ := p_bcond (t := t + 1) (w := w) hr u1 u2 u4 u5 u7 u11 h20 u12 v1 v2 v3 (by omega)
    rw [w1, zbd_some]
    exact Or.inr ⟨_, W, rfl, rfl, w2, w3⟩
  · rw [if_neg c8, if_neg c8]
    exact Or.inl ⟨1, M, rfl, rfl, Or.inl rfl, u2, rfl⟩
theorem p_t3 (hr : r = 3 ∨ r = 11) (h : zCRc r M0 t 3 Rs w k n L Cs sd q A E K M) (hK : ∃ ρ, zwk K = some (zopn K, ρ)) (hK6 : zopn K ≤ 6) (ht : t ≤ 400) (hc : c ≤ 19) (hx : c = 2 ∨ c = 3 → x = nI v) (hv : c = 2 ∨ c = 3 → v < 10000) : zTake r M0 M t (fX5_takeOperand (nI c) x M) (zstp 3 Rs w k n L Cs sd q A E K c v p) := by
  obtain ⟨u1, u2, u3, u4, u5, u6, u7, u8, u9, u10, u11, a, u12, u13, u14⟩ := h
  rw [if_neg (show ¬ (3 : Nat) = 0 by omega)] at u11 u14
  obtain ⟨ρ, hK⟩ := hK
  obtain ⟨k1, k2, k3, k4, k5⟩ := zwk_f K _ _ hK
  unfold zstp fX5_takeOperand
  rw [if_neg (show ¬ (3 : Nat) = 0 by omega), if_neg (show ¬ (3 : Nat) = 1 by omega), if_neg (show ¬ (3 : Nat) = 2 by omega), if_pos (show (3 : Nat) = 3 from rfl), show (2 : Int32) = nI 2 from rfl, show (3 : Int32) = nI 3 from rfl, show (11 : Int32) = nI 11 from rfl, show (6 : Int32) = nI 6 from rfl, zif_eq (by omega) (by omega), zif_eq (by omega) (by omega), zif_eq (by omega) (by omega), u7, zif_eq (by omega) (by omega)]
  have operand : c = 2 ∨ c = 3 → zTake r M0 M t (fX5_takeOperand_L10 (nI c) x M) (.inr (4, Rs, w, k, n, L, Cs, sd, q, A, E ++ [(c, v)], K)) := by
    intro c23
    have hx := hx c23
    have hv := hv c23
    unfold fX5_takeOperand_L10
    obtain ⟨X, x1, x2, x3, x4, x5⟩ := p_write hr (x := c) (v := v) (by omega) hv u12 (by omega)
    rw [u1, zdy_r hr, hx, x1, zbd_some, zlet_eq]
    have eo : ∀ b, b ≠ 19 → b ≠ r → b ≠ r + 6 → (zpI X 19 4 4).1 b = M.1 b := fun b b1 b2 b3 => by rw [zpI_r _ _ b1, x3 b b2 b3]
    have e19 : ∀ j, j ≠ 4 → (zpI X 19 4 4).1 19 j = M.1 19 j := fun j hj => by rw [zpI_1, if_neg (fun z => hj z.2), x3 19 (by omega) (by omega)]
    refine Or.inr ⟨_, _, rfl, rfl, ?_, eo 20 (by omega) (by omega) (by omega)⟩
    show zCRc r M0 (t + 1) 4 Rs w k n L Cs sd q A (E ++ [(c, v)]) K _
    refine ⟨by rw [zpI_2, x5]; exact u1, zfrc_c (M := M) (fun b b1 b2 b3 b4 => eo b b1 (by omega) (by omega)) (by rw [zpI_2, x5]) u2, rfl, by rw [e19 8 (by omega)]; exact u4, by rw [e19 2 (by omega)]; exact u5, zstkk_c K (fun i _ => by rw [eo 21 (by omega) (by omega) (by omega)]) u6, by rw [e19 3 (by omega)]; exact u7, fun _ => by rw [e19 5 (by omega)]; exact u8 (by omega), fun z => by rw [e19 6 (by omega)]; exact u9 z, fun z => by rw [e19 7 (by omega)]; exact u10 z, ?_, a, ?_, fun _ => ?_, ?_⟩
    · rw [if_neg (show ¬ (4 : Nat) = 0 by omega), zpI_r _ _ (by omega), x4 7 (by omega)]; exact u11
    · have e : L ++ (zcond false Cs ++ (A ++ (E ++ [(c, v)]))) = L ++ (zcond false Cs ++ (A ++ E)) ++ [(c, v)] := by simp only [List.append_assoc]
      rw [e]
      exact zRT_c (M := X) (fun b j b1 b2 hj => by rw [zpI_r _ _ (by omega)]) (zpI_r _ _ (by omega)) (by rw [zpI_r _ _ (by omega)]) x2
    · obtain ⟨v1, v2, v3, v4⟩ := u13 (by omega)
      exact ⟨by rw [eo _ (by omega) (by omega) (by omega)]; exact v1, by rw [eo _ (by omega) (by omega) (by omega)]; exact v2, by rw [eo _ (by omega) (by omega) (by omega)]; exact v3, fun z => by rw [eo _ (by omega) (by omega) (by omega)]; exact v4 z⟩
    · rw [if_neg (show ¬ (4 : Nat) = 0 by omega)]
      simp only [List.length_append, List.length_cons, List.length_nil] at u14 ⊢
      omega
  by_cases c2 : c = 2
  · rw [if_pos c2, if_pos (Or.inl c2)]
    exact operand (Or.inl c2)
  by_cases c3 : c = 3
  · rw [if_neg c2, if_pos c3, if_pos (Or.inr c3)]
    exact operand (Or.inr c3)
  rw [if_neg c2, if_neg c3, if_neg (show ¬ (c = 2 ∨ c = 3) by omega)]
  by_cases c11 : c = 11
  · rw [if_pos c11, if_pos c11]
    by_cases o6 : zopn K = 6
    · rw [if_pos o6, if_pos o6]
      exact Or.inl ⟨2, M, rfl, rfl, Or.inr rfl, u2, rfl⟩
    · rw [if_neg o6, if_neg o6, zlet_eq, nI_1]
      obtain ⟨Y, y1, y2, y3, y4, y5, y6⟩ := p_push (M := zpI M 19 3 (nI (zopn K + 1))) (K := K) (x := c) (by omega) u5 (zstkk_c (M := M) K (fun i _ => by rw [zpI_r _ _ (by omega)]) u6)
      rw [y1, zbd_some]
      have eo : ∀ b, b ≠ 19 → b ≠ 21 → Y.1 b = M.1 b := fun b b1 b2 => by rw [y4 b b1 b2, zpI_r _ _ b1]
      have e19 : ∀ j, j ≠ 2 → j ≠ 3 → Y.1 19 j = M.1 19 j := fun j j1 j2 => by rw [y5 j j1, zpI_1, if_neg (fun z => j2 z.2)]
      refine Or.inr ⟨_, Y, rfl, rfl, ?_, eo 20 (by omega) (by omega)⟩
      show zCRc r M0 (t + 1) 3 Rs w k n L Cs sd q A E (11 :: K) Y
      rw [← c11]
      refine ⟨by rw [y6]; exact u1, zfrc_c (M := M) (fun b b1 b2 b3 b4 => eo b b1 b3) (by rw [y6]; rfl) u2, by rw [e19 4 (by omega) (by omega)]; exact u3, by rw [e19 8 (by omega) (by omega)]; exact u4, y2, y3, ?_, fun _ => by rw [e19 5 (by omega) (by omega)]; exact u8 (by omega), fun z => by rw [e19 6 (by omega) (by omega)]; exact u9 z, fun z => by rw [e19 7 (by omega) (by omega)]; exact u10 z, ?_, a, ?_, fun _ => ?_, ?_⟩
      · rw [y5 3 (by omega), zopn, if_pos c11]; rfl
      · rw [if_neg (show ¬ (3 : Nat) = 0 by omega), eo r (by omega) (by omega)]; exact u11
      · exact zRT_c (M := M) (fun b j b1 b2 hj => by rw [eo _ (by omega) (by omega)]) (eo _ (by omega) (by omega)) (by rw [eo _ (by omega) (by omega)]) u12
      · obtain ⟨v1, v2, v3, v4⟩ := u13 (by omega)
        exact ⟨by rw [eo _ (by omega) (by omega)]; exact v1, by rw [eo _ (by omega) (by omega)]; exact v2, by rw [eo _ (by omega) (by omega)]; exact v3, fun z => by rw [eo _ (by omega) (by omega)]; exact v4 z⟩
      · rw [if_neg (show ¬ (3 : Nat) = 0 by omega), zops, if_pos c11]
        omega
  · rw [if_neg c11, if_neg c11]
    exact Or.inl ⟨1, M, rfl, rfl, Or.inl rfl, u2, rfl⟩
end CSIM3
