/-! READ: the class reads all tokens -/
theorem zb2_id {α : Type} (o : Option (α × zMem)) : (zb2 o fun a b => some (a, b)) = o := by cases o <;> rfl
section CSIM5
variable {r : Nat} {M0 M : zMem} {N t : Nat} {Rs : List zRl} {w : Option Nat} {k n : Nat} {L : zTm} {Cs : List zRe} {sd q : Nat} {A E : zTm} {K : List Nat} {c v p : Nat} {x : Int32}
/-- behind a relation -/
theorem p_t4b (hr : r = 3 ∨ r = 11) (hN : 100 < N) (h : zCRc r M0 t 4 Rs w k n L Cs 2 q A E K M) (h20 : Rs.length < 20) (hK : ∃ ρ, zwk K = some (zopn K, ρ)) (ht : t ≤ 400) (hc : c ≤ 19) (c2 : zopn K = 0) (hp : (zpop 1 K).2 = []) (hq1 : 16 ≤ q) (hq2 : q ≤ 19) : zTake r M0 M t (fX5_takeBehindRelation N (nI c) M) (if c = 9 then .inr (3, Rs, w, k, n, L, Cs ++ [(q - 16, A, E ++ (zpop 1 K).1)], 1, 0, [], [], []) else if c = 10 then .inr (0, Rs ++ [(k, n, L, Cs ++ [(q - 16, A, E ++ (zpop 1 K).1)])], w, 0, 0, [], [], 0, 0, [], [], []) else .inl 1) := by
  obtain ⟨u1, u2, u3, u4, u5, u6, u7, u8, u9, u10, u11, a, u12, u13, u14⟩ := h
  rw [if_neg (show ¬ (4 : Nat) = 0 by omega)] at u11 u14
  rw [if_pos rfl] at u14
  obtain ⟨v1, v2, v3, v4⟩ := u13 (by omega)
  obtain ⟨ρ, hK⟩ := hK
  obtain ⟨k1, k2, k3, k4, k5⟩ := zwk_f K _ _ hK
  obtain ⟨r', g1, g2, g3, g4⟩ := zpop_f (ρ := 1) (by omega) K _ _ hK
  rw [hp] at g3
  have gz : zops [] = 0 := rfl
  obtain ⟨X, x1, x2, x3, x4, x5, x6, x7, x8⟩ := p_wo (ρ := 1) hr (by omega) (by omega) hN k5 (by omega) u12 (by omega) u1 u5 u6
  rw [hp] at x3
  have hX10 : X.2.2 19 10 = r := by rw [x8]; exact u1
  have hj1 : zjn Cs ≤ 1 := by unfold zjn; split <;> omega
  obtain ⟨Y, y1, y2, y3, y4, y5⟩ := p_write hr (x := q) (v := 0) (by omega) (by omega) x2 (by rw [List.length_append]; omega)
  have hY10 : Y.2.2 19 10 = r := by rw [y5]; exact hX10
  have mid : ∃ Z, fX5_takeBehindRelation_L14 N (nI c) M = fX5_takeBehindRelation_L48 N (nI c) Z ∧ zRT r Rs a (L ++ zcond false (Cs ++ [(q - 16, A, E ++ (zpop 1 K).1)])) Z ∧ (∀ b, b ≠ 19 → b ≠ r → b ≠ r + 6 → Z.1 b = M.1 b) ∧ (∀ j, j ≠ 2 → Z.1 19 j = M.1 19 j) ∧ (∀ j, j ≠ 8 → Z.1 r j = M.1 r j) ∧ Z.2 = M.2 ∧ Z.1 19 2 = nI 0 := by
    unfold fX5_takeBehindRelation_L14
    rw [show (1 : Int32) = nI 1 from rfl, x1, zbd_some, hX10, zdy_r hr, x6 6 (by omega), u9 rfl, show (0 : Int32) = nI 0 from rfl, y1, zbd_some, y3 19 (by omega) (by omega), x6 7 (by omega), u10 (by omega), zif_eq (by omega) (by omega)]
    unfold zjn at u14 ⊢
    have e1 : (16 + (q - 16), 0) = (q, 0) := by rw [show 16 + (q - 16) = q by omega]
    by_cases j0 : Cs.length = 0
    · rw [if_pos j0, if_pos rfl]
      refine ⟨Y, rfl, ?_, fun b b1 b2 b3 => ?_, fun j hj => ?_, fun j hj => ?_, ?_, ?_⟩
      · rw [zcond_sf, if_pos j0]
        show zRT r Rs a (L ++ (zcond false Cs ++ (A ++ (E ++ (zpop 1 K).1 ++ [(16 + (q - 16), 0)])))) Y
        rw [e1]
        simp only [List.append_assoc] at y2 ⊢
        exact y2
      · rw [y3 b b2 b3, x5 b b1 b2 b3]
      · rw [y3 19 (by omega) (by omega), x6 j hj]
      · rw [y4 j hj, x7 j hj]
      · rw [y5, x8]
      · rw [y3 19 (by omega) (by omega)]; exact x3
    · rw [if_neg j0] at u14
      obtain ⟨Z, z1, z2, z3, z4, z5⟩ := p_write hr (x := 9) (v := 0) (by omega) (by omega) y2 (by simp only [List.length_append, List.length_cons, List.length_nil] at u14 ⊢; omega)
      rw [if_neg j0, if_neg (show ¬ (1 : Nat) = 0 by omega), hY10, zdy_r hr, show (9 : Int32) = nI 9 from rfl, z1, zbd_some]
      refine ⟨Z, rfl, ?_, fun b b1 b2 b3 => ?_, fun j hj => ?_, fun j hj => ?_, ?_, ?_⟩
      · rw [zcond_sf, if_neg j0]
        show zRT r Rs a (L ++ (zcond false Cs ++ (A ++ (E ++ (zpop 1 K).1 ++ [(16 + (q - 16), 0), (9, 0)])))) Z
        rw [e1]
        simp only [List.append_assoc, List.cons_append, List.nil_append] at z2 ⊢
        exact z2
      · rw [z3 b b2 b3, y3 b b2 b3, x5 b b1 b2 b3]
      · rw [z3 19 (by omega) (by omega), y3 19 (by omega) (by omega), x6 j hj]
      · rw [z4 j hj, y4 j hj, x7 j hj]
      · rw [z5, y5, x8]
      · rw [z3 19 (by omega) (by omega), y3 19 (by omega) (by omega)]; exact x3
  have hlen : (L ++ zcond false (Cs ++ [(q - 16, A, E ++ (zpop 1 K).1)])).length = (L ++ (zcond false Cs ++ (A ++ E))).length + (zpop 1 K).1.length + 1 + zjn Cs := by
    rw [zcond_sf]
    unfold zjn
    by_cases j0 : Cs.length = 0
    · rw [if_pos j0, if_pos j0]
      simp only [List.length_append, List.length_cons, List.length_nil]; omega
    · rw [if_neg j0, if_neg j0]
      simp only [List.length_append, List.length_cons, List.length_nil]; omega
  obtain ⟨Z, z1, z2, z3, z4, z5, z6, z7⟩ := mid
  have hZ10 : Z.2.2 19 10 = r := by rw [z6]; exact u1
  have fZ : zfrc r M0 Z := zfrc_c (M := M) (fun b b1 b2 b3 b4 => z3 b b1 (by omega) (by omega)) z6 u2
  have hj' : zjn (Cs ++ [(q - 16, A, E ++ (zpop 1 K).1)]) = 1 := by
    unfold zjn
    rw [List.length_append, if_neg (by simp)]
  unfold fX5_takeBehindRelation
  rw [show (9 : Int32) = nI 9 from rfl, show (10 : Int32) = nI 10 from rfl, zif_eq (by omega) (by omega), zif_eq (by omega) (by omega), z1]
  unfold fX5_takeBehindRelation_L48
  rw [show (9 : Int32) = nI 9 from rfl]
  by_cases c9 : c = 9
  · rw [if_pos c9, if_pos c9, zif_eq (by omega) (by omega), if_pos c9, zlet_eq, zlet_eq, zlet_eq]
    have eX : ∀ b, b ≠ 19 → (zpI (zpI (zpI Z 19 7 1) 19 5 1) 19 4 3).1 b = Z.1 b := fun b b1 => by rw [zpI_r _ _ b1, zpI_r _ _ b1, zpI_r _ _ b1]
    refine Or.inr ⟨_, _, rfl, rfl, ?_, by rw [eX 20 (by omega), z3 20 (by omega) (by omega) (by omega)]⟩
    show zCRc r M0 (t + 1) 3 Rs w k n L (Cs ++ [(q - 16, A, E ++ (zpop 1 K).1)]) 1 0 [] [] [] _
    refine ⟨hZ10, zfrc_c (M := Z) (fun b b1 b2 b3 b4 => eX b b1) rfl fZ, rfl, ?_, z7, trivial, ?_, fun _ => rfl, fun z => absurd z (by omega), fun _ => ?_, ?_, a, ?_, fun _ => ?_, ?_⟩
    · show Z.1 19 8 = _
      rw [z4 8 (by omega)]; exact u4
    · show Z.1 19 3 = _
      rw [z4 3 (by omega), u7, c2]; rfl
    · rw [hj']; rfl
    · rw [if_neg (show ¬ (3 : Nat) = 0 by omega), eX r (by omega), z5 7 (by omega)]; exact u11
    · simp only [List.append_nil]
      exact zRT_c (M := Z) (fun b j b1 b2 hj => by rw [eX _ (by omega)]) (eX _ (by omega)) (by rw [eX _ (by omega)]) z2
    · exact ⟨by rw [eX _ (by omega), z3 _ (by omega) (by omega) (by omega)]; exact v1, by rw [eX _ (by omega), z3 _ (by omega) (by omega) (by omega)]; exact v2, by rw [eX _ (by omega), z3 _ (by omega) (by omega) (by omega)]; exact v3, fun _ => by rw [eX _ (by omega), z3 _ (by omega) (by omega) (by omega)]; exact v4 (by omega)⟩
    · rw [if_neg (show ¬ (3 : Nat) = 0 by omega), if_neg (show ¬ (1 : Nat) = 2 by omega), hj']
      simp only [List.append_nil]
      rw [hlen]
      show _ + 0 + 0 + 1 + 1 ≤ t + 1
      omega
  · rw [if_neg c9, if_neg c9]
    by_cases c10 : c = 10
    · rw [if_pos c10, if_pos c10, zif_eq (by omega) (by omega), if_neg c9]
      obtain ⟨W, w1, w2, w3⟩ := p_erule (X := Z) (t := t + 1) (w := w) (k := k) (n := n) hr rfl hZ10 fZ (by rw [z4 8 (by omega)]; exact u4) z7 (by rw [z4 3 (by omega), u7, c2]) (by rw [z5 7 (by omega)]; exact u11) h20 z2 (by rw [z3 _ (by omega) (by omega) (by omega)]; exact v1) (by rw [z3 _ (by omega) (by omega) (by omega)]; exact v2) (by rw [z3 _ (by omega) (by omega) (by omega)]; exact v3) (by rw [z3 _ (by omega) (by omega) (by omega)]; exact v4 (by omega)) (by rw [hlen]; omega)
      rw [w1, zbd_some]
      refine Or.inr ⟨_, W, rfl, rfl, w2, ?_⟩
      rw [w3, z3 20 (by omega) (by omega) (by omega)]
    · rw [if_neg c10, if_neg c10]
      exact Or.inl ⟨1, M, rfl, rfl, Or.inl rfl, u2, rfl⟩
theorem p_t4 (hr : r = 3 ∨ r = 11) (hN : 100 < N) (h : zCRc r M0 t 4 Rs w k n L Cs sd q A E K M) (hPI : zPIc 4 Rs w k n L Cs sd q A E K) (ht : t ≤ 400) (hc : c ≤ 19) : zTake r M0 M t (fX5_takeBehindOperand N (nI c) M) (zstp 4 Rs w k n L Cs sd q A E K c v p) := by
  obtain ⟨p1, p2, p3, p4, p5, p6, p7, p8, p9, p10, p11, p12, p13, p14, p15, p16, p17⟩ := hPI
  obtain ⟨h20, -, -⟩ := p4 (by omega)
  rw [if_pos rfl] at p15
  have h7 := h.2.2.2.2.2.2.1
  have h5 := h.2.2.2.2.2.2.2.1 (by omega)
  have h2 := zrnk_2 c
  unfold zstp fX5_takeBehindOperand
  rw [if_neg (show ¬ (4 : Nat) = 0 by omega), if_neg (show ¬ (4 : Nat) = 1 by omega), if_neg (show ¬ (4 : Nat) = 2 by omega), if_neg (show ¬ (4 : Nat) = 3 by omega), p_arith hc, zb2_some]
  by_cases c1 : 0 < zrnk c
  · rw [if_pos c1, if_pos c1, if_neg (show ¬ nI 1 = 0 by decide), p_rank (by omega), zb2_some]
    exact p_t4o hr hN h p13 p14 ht hc c1
  · rw [if_neg c1, if_neg c1, if_pos (show nI 0 = 0 from rfl), h7, show (0 : Int32) = nI 0 from rfl, zif_le (by omega) (by omega)]
    by_cases c2 : 0 < zopn K
    · rw [if_pos c2, if_neg (show ¬ zopn K ≤ 0 by omega), zb2_id]
      exact p_t4c hr hN h p13 p14 ht hc c2
    · have c0 : zopn K = 0 := by omega
      obtain ⟨ρ, p13'⟩ := id p13
      obtain ⟨hp, -⟩ := z_fin p13' c0 p15 p16
      rw [if_neg c2, if_pos (show zopn K ≤ 0 by omega), h5, zif_eq (by omega) (by omega), show (1 : Int32) = nI 1 from rfl, zif_eq (by omega) (by omega), zb2_id, zb2_id, zb2_id]
      by_cases s0 : sd = 0
      · rw [if_pos s0, if_pos s0]
        obtain ⟨e1, e2⟩ := p7 s0
        have e3 := p8 (by omega)
        subst s0 e1 e2 e3
        exact p_t4f hr hN h h20 p13 ht hc c0 hp
      · rw [if_neg s0, if_neg s0]
        by_cases s1 : sd = 1
        · rw [if_pos s1, if_pos s1]
          have e3 := p8 (by omega)
          subst s1 e3
          exact p_t4r hr hN h p13 ht hc c0 hp
        · rw [if_neg s1, if_neg s1]
          have s2 : sd = 2 := by omega
          subst s2
          obtain ⟨-, q1, q2⟩ := p10 rfl
          exact p_t4b hr hN h h20 p13 ht hc c0 hp q1 q2
theorem p_take {st : Nat} (hr : r = 3 ∨ r = 11) (hN : 100 < N) (h : zCRc r M0 t st Rs w k n L Cs sd q A E K M) (hPI : zPIc st Rs w k n L Cs sd q A E K) (ht : t ≤ 400) (hc : c ≤ 19) (hx : c = 2 ∨ c = 3 → x = nI v) (hv2 : c = 2 → v < 10000) (hv3 : c = 3 → v < 6) (hp : M.1 20 1 = nI p) (hp2 : p ≤ 2000) : zTake r M0 M t (fX5_take N (nI c) x M) (zstp st Rs w k n L Cs sd q A E K c v p) := by
  have hPI' := hPI
  obtain ⟨p1, p2, p3, p4, p5, p6, p7, p8, p9, p10, p11, p12, p13, p14, p15, p16, p17⟩ := hPI
  have h4 := h.2.2.1
  unfold fX5_take
  rw [h4, show (0 : Int32) = nI 0 from rfl, show (1 : Int32) = nI 1 from rfl, show (2 : Int32) = nI 2 from rfl, show (3 : Int32) = nI 3 from rfl, zif_eq (by omega) (by omega), zif_eq (by omega) (by omega), zif_eq (by omega) (by omega), zif_eq (by omega) (by omega), zb2_id, zb2_id, zb2_id, zb2_id, zb2_id]
  by_cases s0 : st = 0
  · rw [if_pos s0]
    obtain ⟨e1, e2, e3, e4, e5, e6⟩ := p5 (by omega)
    subst s0 e1 e2 e3 e4 e5 e6
    obtain ⟨u1, u2, u3, u4, u5, u6, u7, u8, u9, u10, u11, a, u12, u13, u14⟩ := h
    exact p_t0 (v := v) (p := p) hr ⟨u1, u2, u3, u4, u5, u6, u7, u8, fun z => absurd z (by omega), u10, u11, a, u12, fun z => absurd rfl z, u14⟩ p3 ht hc
  rw [if_neg s0]
  obtain ⟨h20, hk4, hn4⟩ := p4 s0
  by_cases s1 : st = 1
  · rw [if_pos s1]
    obtain ⟨e1, e2, e3, e4, e5, e6⟩ := p5 (by omega)
    subst s1 e1 e2 e3 e4 e5 e6
    exact p_t1 hr h h20 ht hc (by omega) (fun z => hx (Or.inl z)) hv2 hp hp2 p17
  rw [if_neg s1]
  by_cases s2 : st = 2
  · rw [if_pos s2]
    obtain ⟨e1, e2, e3, e4, e5, e6⟩ := p5 (by omega)
    subst s2 e1 e2 e3 e4 e5 e6
    exact p_t2 hr h h20 hc
  rw [if_neg s2]
  by_cases s3 : st = 3
  · rw [if_pos s3]
    subst s3
    exact p_t3 hr h p13 p14 ht hc hx (fun z => by rcases z with z | z; exact hv2 z; have := hv3 z; omega)
  rw [if_neg s3]
  have s4 : st = 4 := by omega
  subst s4
  exact p_t4 hr hN h hPI' ht hc
end CSIM5
