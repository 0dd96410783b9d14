/-! READ: a token is taken, the class: behind an operand -/
section CSIM4
variable {r : Nat} {M0 M : zMem} {N t : Nat} {Rs : List zRl} {w : Option Nat} {k n : Nat} {L : zTm} {Cs : List zRe} {sd q : Nat} {A E : zTm} {K : List Nat} {c v p : Nat} {x : Int32}
theorem p_arith (hc : c ≤ 19) (M : zMem) : fX5_isArithmetic (nI c) M = some (nI (if 0 < zrnk c then 1 else 0), M) := by
  unfold fX5_isArithmetic
  have h2 := zrnk_2 c
  rw [p_rank (by omega), zb2_some, show (0 : Int32) = nI 0 from rfl, zif_le (by omega) (by omega)]
  by_cases h : 0 < zrnk c
  · rw [if_neg (show ¬ zrnk c ≤ 0 by omega), if_pos h]; rfl
  · rw [if_pos (show zrnk c ≤ 0 by omega), if_neg h]
/-- an operator -/
theorem p_t4o (hr : r = 3 ∨ r = 11) (hN : 100 < N) (h : zCRc r M0 t 4 Rs w k n L Cs sd q A E K M) (hK : ∃ ρ, zwk K = some (zopn K, ρ)) (hK6 : zopn K ≤ 6) (ht : t ≤ 400) (hc : c ≤ 19) (c1 : 0 < zrnk c) : zTake r M0 M t ((fX5_writeOperators N (nI (zrnk c)) M).bind fun M20 => (fX5_push (nI c) M20).bind fun M22 => zlet (zpI M22 19 4 (3 : Int32)) fun M23 => some ((0 : Int32), M23)) (.inr (3, Rs, w, k, n, L, Cs, sd, q, A, E ++ (zpop (zrnk c) K).1, c :: (zpop (zrnk c) K).2)) := by
  obtain ⟨u1, u2, u3, u4, u5, u6, u7, u8, u9, u10, u11, a, u12, u13, u14⟩ := h
  rw [if_neg (show ¬ (4 : Nat) = 0 by omega)] at u11 u14
  obtain ⟨ρ, hK⟩ := hK
  obtain ⟨k1, k2, k3, k4, k5⟩ := zwk_f K _ _ hK
  have h2 := zrnk_2 c
  obtain ⟨r', g1, g2, g3, g4⟩ := zpop_f (ρ := zrnk c) (by omega) K _ _ hK
  obtain ⟨l1, l2, l3, l4, l5⟩ := zwk_f _ _ _ g1
  obtain ⟨X, x1, x2, x3, x4, x5, x6, x7, x8⟩ := p_wo (ρ := zrnk c) hr (by omega) h2.1 hN k5 (by omega) u12 (by omega) u1 u5 u6
  obtain ⟨Y, y1, y2, y3, y4, y5, y6⟩ := p_push (M := X) (x := c) (by omega) x3 x4
  have cne : c ≠ 11 := by have := h2.2 c1; omega
  rw [x1, zbd_some, y1, zbd_some, zlet_eq]
  have eo : ∀ b, b ≠ 19 → b ≠ 21 → b ≠ r → b ≠ r + 6 → (zpI Y 19 4 3).1 b = M.1 b := fun b b1 b2 b3 b4 => by rw [zpI_r _ _ b1, y4 b b1 b2, x5 b b1 b3 b4]
  have e19 : ∀ j, j ≠ 2 → j ≠ 4 → (zpI Y 19 4 3).1 19 j = M.1 19 j := fun j j1 j2 => by rw [zpI_1, if_neg (fun z => j2 z.2), y5 j j1, x6 j j1]
  refine Or.inr ⟨_, _, rfl, rfl, ?_, eo 20 (by omega) (by omega) (by omega) (by omega)⟩
  show zCRc r M0 (t + 1) 3 Rs w k n L Cs sd q A (E ++ (zpop (zrnk c) K).1) (c :: (zpop (zrnk c) K).2) _
  refine ⟨by rw [zpI_2, y6, x8]; exact u1, zfrc_c (M := M) (fun b b1 b2 b3 b4 => eo b b1 b3 (by omega) (by omega)) (by rw [zpI_2, y6, x8]) u2, rfl, by rw [e19 8 (by omega) (by omega)]; exact u4, y2, zstkk_c (M := Y) _ (fun i _ => by rw [zpI_r _ _ (by omega)]) y3, ?_, fun _ => by rw [e19 5 (by omega) (by omega)]; exact u8 (by omega), fun z => by rw [e19 6 (by omega) (by omega)]; exact u9 z, fun z => by rw [e19 7 (by omega) (by omega)]; exact u10 z, ?_, a, ?_, fun _ => ?_, ?_⟩
  · rw [e19 3 (by omega) (by omega), zopn, if_neg cne, Nat.add_zero, ← l1]; exact u7
  · rw [if_neg (show ¬ (3 : Nat) = 0 by omega), zpI_r _ _ (by omega), y4 r (by omega) (by omega), x7 7 (by omega)]; exact u11
  · have e : L ++ (zcond false Cs ++ (A ++ (E ++ (zpop (zrnk c) K).1))) = L ++ (zcond false Cs ++ (A ++ E)) ++ (zpop (zrnk c) K).1 := by simp only [List.append_assoc]
    rw [e]
    exact zRT_c (M := X) (fun b j b1 b2 hj => by rw [zpI_r _ _ (by omega), y4 _ (by omega) (by omega)]) (by rw [zpI_r _ _ (by omega), y4 _ (by omega) (by omega)]) (by rw [zpI_r _ _ (by omega), y4 _ (by omega) (by omega)]) x2
  · obtain ⟨v1, v2, v3, v4⟩ := u13 (by omega)
    exact ⟨by rw [eo _ (by omega) (by omega) (by omega) (by omega)]; exact v1, by rw [eo _ (by omega) (by omega) (by omega) (by omega)]; exact v2, by rw [eo _ (by omega) (by omega) (by omega) (by omega)]; exact v3, fun z => by rw [eo _ (by omega) (by omega) (by omega) (by omega)]; exact v4 z⟩
  · rw [if_neg (show ¬ (3 : Nat) = 0 by omega), zops, if_neg cne]
    simp only [List.length_append] at u14 ⊢
    omega
/-- a closing parenthesis -/
theorem p_t4c (hr : r = 3 ∨ r = 11) (hN : 100 < N) (h : zCRc r M0 t 4 Rs w k n L Cs sd q A E K M) (hK : ∃ ρ, zwk K = some (zopn K, ρ)) (hK6 : zopn K ≤ 6) (ht : t ≤ 400) (hc : c ≤ 19) (c2 : 0 < zopn K) : zTake r M0 M t (fX5_takeClose N (nI c) M) (if c = 12 then .inr (4, Rs, w, k, n, L, Cs, sd, q, A, E ++ (zpop 1 K).1, (zpop 1 K).2.tail) else .inl 1) := by
  obtain ⟨u1, u2, u3, u4, u5, u6, u7, u8, u9, u10, u11, a, u12, u13, u14⟩ := h
  rw [if_neg (show ¬ (4 : Nat) = 0 by omega)] at u11 u14
  obtain ⟨ρ, hK⟩ := hK
  obtain ⟨k1, k2, k3, k4, k5⟩ := zwk_f K _ _ hK
  unfold fX5_takeClose
  rw [show (12 : Int32) = nI 12 from rfl, zif_eq (by omega) (by omega)]
  by_cases c12 : c = 12
  · rw [if_pos c12, if_pos c12]
    obtain ⟨r', g1, g2, g3, g4⟩ := zpop_f (ρ := 1) (by omega) K _ _ hK
    have e0 : r' = 0 := by omega
    rw [e0] at g1
    rcases zwk_0 g1 with ⟨z1, z2⟩ | ⟨K2, r2, z1, z2, z3⟩
    · omega
    obtain ⟨X, x1, x2, x3, x4, x5, x6, x7, x8⟩ := p_wo (ρ := 1) hr (by omega) (by omega) hN k5 (by omega) u12 (by omega) u1 u5 u6
    have e2 := (zwk_f _ _ _ z3).1
    have hlen : K.length ≤ 20 := by omega
    rw [z1] at x3 x4 g3 ⊢
    rw [List.length_cons] at x3
    rw [zops, if_pos rfl] at g3
    have l2 : K2.length ≤ 20 := by
      obtain ⟨l1, l2, l3, l4, l5⟩ := zwk_f _ _ _ z3
      omega
    rw [show (1 : Int32) = nI 1 from rfl, x1, zbd_some, x3, if_neg (nI_nle (by omega) (by omega)), zlet_eq]
    unfold fX5_takeClose_L30
    rw [zlet_eq, show nI (K2.length + 1) - nI 1 = nI K2.length from nI_pred _, show (zpI X 19 2 (nI K2.length)).1 19 3 = X.1 19 3 from rfl, x6 3 (by omega), u7, List.tail_cons]
    have eo : ∀ b, b ≠ 19 → b ≠ r → b ≠ r + 6 → (zpI (zpI X 19 2 (nI K2.length)) 19 3 (nI (zopn K) - 1)).1 b = M.1 b := fun b b1 b3 b4 => by rw [zpI_r _ _ b1, zpI_r _ _ b1, x5 b b1 b3 b4]
    have e19 : ∀ j, j ≠ 2 → j ≠ 3 → (zpI (zpI X 19 2 (nI K2.length)) 19 3 (nI (zopn K) - 1)).1 19 j = M.1 19 j := fun j j1 j2 => by rw [zpI_1, if_neg (fun z => j2 z.2), zpI_1, if_neg (fun z => j1 z.2), x6 j j1]
    refine Or.inr ⟨_, _, rfl, rfl, ?_, eo 20 (by omega) (by omega) (by omega)⟩
    show zCRc r M0 (t + 1) 4 Rs w k n L Cs sd q A (E ++ (zpop 1 K).1) K2 _
    refine ⟨by rw [zpI_2, zpI_2, x8]; exact u1, zfrc_c (M := M) (fun b b1 b2 b3 b4 => eo b b1 (by omega) (by omega)) (by rw [zpI_2, zpI_2, x8]) u2, by rw [e19 4 (by omega) (by omega)]; exact u3, by rw [e19 8 (by omega) (by omega)]; exact u4, rfl, zstkk_c (M := X) _ (fun i _ => by rw [zpI_r _ _ (by omega), zpI_r _ _ (by omega)]) x4.2, ?_, fun _ => by rw [e19 5 (by omega) (by omega)]; exact u8 (by omega), fun z => by rw [e19 6 (by omega) (by omega)]; exact u9 z, fun z => by rw [e19 7 (by omega) (by omega)]; exact u10 z, ?_, a, ?_, fun _ => ?_, ?_⟩
    · rw [zpI_1, if_pos ⟨rfl, rfl⟩, ← e2, show zopn K = (zopn K - 1) + 1 by omega, nI_pred]; rfl
    · rw [if_neg (show ¬ (4 : Nat) = 0 by omega), zpI_r _ _ (by omega), zpI_r _ _ (by omega), x7 7 (by omega)]; exact u11
    · have e : L ++ (zcond false Cs ++ (A ++ (E ++ (zpop 1 K).1))) = L ++ (zcond false Cs ++ (A ++ E)) ++ (zpop 1 K).1 := by simp only [List.append_assoc]
      rw [e]
      exact zRT_c (M := X) (fun b j b1 b2 hj => by rw [zpI_r _ _ (by omega), zpI_r _ _ (by omega)]) (by rw [zpI_r _ _ (by omega), zpI_r _ _ (by omega)]) (by rw [zpI_r _ _ (by omega), zpI_r _ _ (by omega)]) x2
    · obtain ⟨v1, v2, v3, v4⟩ := u13 (by omega)
      exact ⟨by rw [eo _ (by omega) (by omega) (by omega)]; exact v1, by rw [eo _ (by omega) (by omega) (by omega)]; exact v2, by rw [eo _ (by omega) (by omega) (by omega)]; exact v3, fun z => by rw [eo _ (by omega) (by omega) (by omega)]; exact v4 z⟩
    · rw [if_neg (show ¬ (4 : Nat) = 0 by omega)]
      simp only [List.length_append] at u14 ⊢
      omega
  · rw [if_neg c12, if_neg c12]
    exact Or.inl ⟨1, M, rfl, rfl, Or.inl rfl, u2, rfl⟩
/-- behind the term of a first rule -/
theorem p_t4f (hr : r = 3 ∨ r = 11) (hN : 100 < N) (h : zCRc r M0 t 4 Rs w k n [] [] 0 q [] E K M) (h20 : Rs.length < 20) (hK : ∃ ρ, zwk K = some (zopn K, ρ)) (ht : t ≤ 400) (hc : c ≤ 19) (c2 : zopn K = 0) (hp : (zpop 1 K).2 = []) : zTake r M0 M t (fX5_takeBehindFirst N (nI c) M) (if c = 8 then .inr (3, Rs, w, k, n, E ++ (zpop 1 K).1, [], 1, 0, [], [], []) else if c = 10 then .inr (0, Rs ++ [(k, n, E ++ (zpop 1 K).1, [])], w, 0, 0, [], [], 0, 0, [], [], []) else .inl 1) := by
  obtain ⟨u1, u2, u3, u4, u5, u6, u7, u8, u9, u10, u11, a, u12, u13, u14⟩ := h
  rw [if_neg (show ¬ (4 : Nat) = 0 by omega)] at u11 u14
  rw [if_neg (show ¬ (0 : Nat) = 2 by omega)] at u14
  obtain ⟨v1, v2, v3, -⟩ := u13 (by omega)
  obtain ⟨ρ, hK⟩ := hK
  obtain ⟨k1, k2, k3, k4, k5⟩ := zwk_f K _ _ hK
  obtain ⟨r', g1, g2, g3, g4⟩ := zpop_f (ρ := 1) (by omega) K _ _ hK
  rw [hp] at g3
  have gz : zops [] = 0 := rfl
  simp only [zcond, List.nil_append] at u12 u14
  obtain ⟨X, x1, x2, x3, x4, x5, x6, x7, x8⟩ := p_wo (ρ := 1) hr (by omega) (by omega) hN k5 (by omega) u12 (by omega) u1 u5 u6
  rw [hp] at x3
  have fX : zfrc r M0 X := zfrc_c (M := M) (fun b b1 b2 b3 b4 => x5 b b1 (by omega) (by omega)) x8 u2
  have f10 : X.2.2 19 10 = r := by rw [x8]; exact u1
  have f8 : X.1 19 8 = zwp w := by rw [x6 8 (by omega)]; exact u4
  have f3 : X.1 19 3 = nI 0 := by rw [x6 3 (by omega), u7, c2]
  have f7 : X.1 r 7 = nI (Rs.length + 1) := by rw [x7 7 (by omega)]; exact u11
  have d1 : X.1 (r + 1) Rs.length = nI k := by rw [x5 _ (by omega) (by omega) (by omega)]; exact v1
  have d2 : X.1 (r + 2) Rs.length = nI n := by rw [x5 _ (by omega) (by omega) (by omega)]; exact v2
  have d3 : X.1 (r + 3) Rs.length = nI a := by rw [x5 _ (by omega) (by omega) (by omega)]; exact v3
  have hb2 : a + (E ++ (zpop 1 K).1).length + 1 ≤ t + 1 := by rw [List.length_append]; omega
  unfold fX5_takeBehindFirst
  rw [show (8 : Int32) = nI 8 from rfl, show (10 : Int32) = nI 10 from rfl, zif_eq (by omega) (by omega), zif_eq (by omega) (by omega)]
  unfold fX5_takeBehindFirst_L14
  rw [show (8 : Int32) = nI 8 from rfl, show (1 : Int32) = nI 1 from rfl, x1]
  by_cases c8 : c = 8
  · rw [if_pos c8, if_pos c8, zbd_some, zif_eq (by omega) (by omega), if_pos c8]
    obtain ⟨W, w1, w2, w3⟩ := p_bcond (t := t + 1) (w := w) hr f10 fX f8 x3 f3 f7 h20 x2 d1 d2 d3 hb2
    rw [w1, zbd_some]
    exact Or.inr ⟨_, W, rfl, rfl, w2, w3.trans (x5 20 (by omega) (by omega) (by omega))⟩
  · rw [if_neg c8, if_neg c8]
    by_cases c10 : c = 10
    · rw [if_pos c10, if_pos c10, zbd_some, zif_eq (by omega) (by omega), if_neg c8]
      obtain ⟨Y, y1, y2, y3, y4, y5⟩ := p_bgc hr f10 f7 x2.2.2 h20
      rw [f10, zdy_r hr, y1, zbd_some]
      obtain ⟨W, w1, w2, w3⟩ := p_erule (X := Y) (t := t + 1) (w := w) (L := E ++ (zpop 1 K).1) (Cs := []) (k := k) (n := n) (C := E ++ (zpop 1 K).1) hr (by simp only [zcond, List.append_nil]) (by rw [y5]; exact f10) (zfrc_c (M := X) (fun b b1 b2 b3 b4 => y4 b (by omega)) y5 fX) (by rw [y4 _ (by omega)]; exact f8) (by rw [y4 _ (by omega)]; exact x3) (by rw [y4 _ (by omega)]; exact f3) (by rw [y4 _ (by omega)]; exact f7) h20 (zRT_c (M := X) (fun b j b1 b2 hj => by
          by_cases b4 : b = 4
          · rw [b4, y3 j (by omega)]
          · rw [y4 _ (by omega)]) (y4 _ (by omega)) (by rw [y4 _ (by omega)]) x2) (by rw [y4 _ (by omega)]; exact d1) (by rw [y4 _ (by omega)]; exact d2) (by rw [y4 _ (by omega)]; exact d3) y2 (by omega)
      rw [w1, zbd_some]
      refine Or.inr ⟨_, W, rfl, rfl, w2, ?_⟩
      rw [w3, y4 _ (by omega), x5 20 (by omega) (by omega) (by omega)]
    · rw [if_neg c10, if_neg c10]
      exact Or.inl ⟨1, M, rfl, rfl, Or.inl rfl, u2, rfl⟩
/-- a relation -/
theorem p_t4r (hr : r = 3 ∨ r = 11) (hN : 100 < N) (h : zCRc r M0 t 4 Rs w k n L Cs 1 q [] E K M) (hK : ∃ ρ, zwk K = some (zopn K, ρ)) (ht : t ≤ 400) (hc : c ≤ 19) (c2 : zopn K = 0) (hp : (zpop 1 K).2 = []) : zTake r M0 M t (fX5_takeRelation N (nI c) M) (if 16 ≤ c ∧ c ≤ 19 then .inr (3, Rs, w, k, n, L, Cs, 2, c, E ++ (zpop 1 K).1, [], []) else .inl 1) := by
  obtain ⟨u1, u2, u3, u4, u5, u6, u7, u8, u9, u10, u11, a, u12, u13, u14⟩ := h
  rw [if_neg (show ¬ (4 : Nat) = 0 by omega)] at u11 u14
  rw [if_neg (show ¬ (1 : Nat) = 2 by omega)] at u14
  obtain ⟨v1, v2, v3, v4⟩ := u13 (by omega)
  obtain ⟨ρ, hK⟩ := hK
  obtain ⟨k1, k2, k3, k4, k5⟩ := zwk_f K _ _ hK
  obtain ⟨r', g1, g2, g3, g4⟩ := zpop_f (ρ := 1) (by omega) K _ _ hK
  rw [hp] at g3
  have gz : zops [] = 0 := rfl
  obtain ⟨X, x1, x2, x3, x4, x5, x6, x7, x8⟩ := p_wo (ρ := 1) hr (by omega) (by omega) hN k5 (by omega) u12 (by omega) u1 u5 u6
  rw [hp] at x3
  unfold fX5_takeRelation fX5_isRelation fX11_isWithin
  rw [show (16 : Int32) = nI 16 from rfl, show (19 : Int32) = nI 19 from rfl, zif_lt (by omega) (by omega), zif_lt (by omega) (by omega)]
  by_cases q1 : c < 16
  · rw [if_pos q1, zb2_some, zgb_b (Or.inl rfl), zb2_some, if_pos rfl, if_neg (by omega)]
    exact Or.inl ⟨1, M, rfl, rfl, Or.inl rfl, u2, rfl⟩
  · rw [if_neg q1, if_neg (show ¬ 19 < c by omega), zb2_some, zgb_b (Or.inr rfl), zb2_some, if_neg (by decide), if_pos (show 16 ≤ c ∧ c ≤ 19 by omega), show (1 : Int32) = nI 1 from rfl, x1, zbd_some, zlet_eq, zlet_eq, zlet_eq]
    have eo : ∀ b, b ≠ 19 → b ≠ r → b ≠ r + 6 → (zpI (zpI (zpI X 19 6 (nI c)) 19 5 2) 19 4 3).1 b = M.1 b := fun b b1 b3 b4 => by rw [zpI_r _ _ b1, zpI_r _ _ b1, zpI_r _ _ b1, x5 b b1 b3 b4]
    have eX : ∀ b, b ≠ 19 → (zpI (zpI (zpI X 19 6 (nI c)) 19 5 2) 19 4 3).1 b = X.1 b := fun b b1 => by rw [zpI_r _ _ b1, zpI_r _ _ b1, zpI_r _ _ b1]
    refine Or.inr ⟨_, _, rfl, rfl, ?_, eo 20 (by omega) (by omega) (by omega)⟩
    show zCRc r M0 (t + 1) 3 Rs w k n L Cs 2 c (E ++ (zpop 1 K).1) [] [] _
    refine ⟨by rw [zpI_2, zpI_2, zpI_2, x8]; exact u1, zfrc_c (M := M) (fun b b1 b2 b3 b4 => eo b b1 (by omega) (by omega)) (by rw [zpI_2, zpI_2, zpI_2, x8]) u2, rfl, ?_, x3, trivial, ?_, fun _ => rfl, fun _ => rfl, fun _ => ?_, ?_, a, ?_, fun _ => ?_, ?_⟩
    · show X.1 19 8 = _
      rw [x6 8 (by omega)]; exact u4
    · show X.1 19 3 = _
      rw [x6 3 (by omega), u7, c2]; rfl
    · show X.1 19 7 = _
      rw [x6 7 (by omega)]; exact u10 (by omega)
    · rw [if_neg (show ¬ (3 : Nat) = 0 by omega), eX r (by omega), x7 7 (by omega)]; exact u11
    · have e : L ++ (zcond false Cs ++ (E ++ (zpop 1 K).1 ++ [])) = L ++ (zcond false Cs ++ ([] ++ E)) ++ (zpop 1 K).1 := by simp only [List.append_assoc, List.append_nil, List.nil_append]
      rw [e]
      exact zRT_c (M := X) (fun b j b1 b2 hj => by rw [eX _ (by omega)]) (eX _ (by omega)) (by rw [eX _ (by omega)]) x2
    · exact ⟨by rw [eo _ (by omega) (by omega) (by omega)]; exact v1, by rw [eo _ (by omega) (by omega) (by omega)]; exact v2, by rw [eo _ (by omega) (by omega) (by omega)]; exact v3, fun z => by rw [eo _ (by omega) (by omega) (by omega)]; exact v4 (by omega)⟩
    · rw [if_neg (show ¬ (3 : Nat) = 0 by omega), if_pos rfl]
      simp only [List.length_append, List.length_nil] at u14 ⊢
      omega
end CSIM4
