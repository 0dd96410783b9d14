/-! READ: the reference's terms, behind an operand -/
section RSIM3
variable {T V P : Nat → Nat} {t : Nat} {M M0 : zMem} {N : Nat} {Rs : List zRl} {w : Option Nat} {k n : Nat} {L : zTm} {Cs : List zRe} {sd q : Nat} {A E : zTm} {K : List Nat} {c0 b t0 : Nat} {o : (Nat × Nat) ⊕ (List zRl × Option Nat)}
theorem m_q4 (hc0 : c0 ≤ 500) (hN : 100 < N) (hT : zTRg T V P M) (hV : zVal T V P) {f f2 : Nat} (h : zAt T t M) (hPI : zPIc 4 Rs w k n L Cs sd q A E K) (hX : zXM b E K M) (hb : b + E.length + zops K ≤ c0 + t) (ho : zRn T V P t (4, Rs, w, k, n, L, Cs, sd, q, A, E, K) = o) (hfe : zfe c0 b M0 M) (ht0 : t0 < t)
    (hn3 : ∀ (E' : zTm) (K' : List Nat) (X : zMem), t < 400 → zAt T (t + 1) X → zPIc 3 Rs w k n L Cs sd q A E' K' → zXM b E' K' X → b + E'.length + zops K' ≤ c0 + (t + 1) → zRn T V P (t + 1) (3, Rs, w, k, n, L, Cs, sd, q, A, E', K') = o → zfe c0 b M0 X → zXP T V P Rs w k n L Cs sd q A c0 b t0 o M0 (fX12_expression_L12 N (f + 1) (nI 0) (nI 1) X))
    (hn4 : ∀ (E' : zTm) (K' : List Nat) (X : zMem), t < 400 → zAt T (t + 1) X → zPIc 4 Rs w k n L Cs sd q A E' K' → zXM b E' K' X → b + E'.length + zops K' ≤ c0 + (t + 1) → zRn T V P (t + 1) (4, Rs, w, k, n, L, Cs, sd, q, A, E', K') = o → zfe c0 b M0 X → zXP T V P Rs w k n L Cs sd q A c0 b t0 o M0 (fX12_expression_L200 N (fX12_expression_L12 N (f + 1)) (f2 + 1) (nI 0) X)) : zXP T V P Rs w k n L Cs sd q A c0 b t0 o M0 (fX12_expression_L200 N (fX12_expression_L12 N (f + 1)) (f2 + 2) (nI 0) M) := by
  obtain ⟨p1, p2, p3, p4, p5, p6, p7, p8, p9, p10, p11, p12, ⟨ρ, p13⟩, p14, p15, p16, p17⟩ := id hPI
  obtain ⟨k1, k2, k3, k4, k5⟩ := zwk_f K _ _ p13
  clear p1 p2 p3 p4 p5 p6 p7 p8 p9 p10 p11 p12 p15 p16 p17
  obtain ⟨v1, v2, v3, v4⟩ := hV t
  obtain ⟨x1, x2, x3, x4, x5⟩ := id hX
  obtain ⟨a1, a2, a3, a4⟩ := id h
  obtain ⟨c, c1, c2, c3, c4⟩ := hT t a2 a3
  have hs : ∀ (z : Nat ⊕ zSta), zstp 4 Rs w k n L Cs sd q A E K (T t) (V t) (P t) = z → zstS (4, Rs, w, k, n, L, Cs, sd, q, A, E, K) (T t) (V t) (P t) = z := fun z hz => hz
  have hne : ¬ (T t = 0 ∧ ((4, Rs, w, k, n, L, Cs, sd, q, A, E, K) : zSta).1 = 0) := fun z => absurd z.2 (show ¬ (4 : Nat) = 0 by omega)
  have hrk := zrnk_2 (T t)
  have hz0 : zstp 4 Rs w k n L Cs sd q A E K (T t) (V t) (P t) = if 0 < zrnk (T t) then .inr (3, Rs, w, k, n, L, Cs, sd, q, A, E ++ (zpop (zrnk (T t)) K).1, T t :: (zpop (zrnk (T t)) K).2) else if 0 < zopn K then (if T t = 12 then .inr (4, Rs, w, k, n, L, Cs, sd, q, A, E ++ (zpop 1 K).1, (zpop 1 K).2.tail) else .inl 1) else zstp 4 Rs w k n L Cs sd q A E K (T t) (V t) (P t) := by
    by_cases z1 : 0 < zrnk (T t)
    · unfold zstp
      rw [if_neg (show ¬ (4 : Nat) = 0 by omega), if_neg (show ¬ (4 : Nat) = 1 by omega), if_neg (show ¬ (4 : Nat) = 2 by omega), if_neg (show ¬ (4 : Nat) = 3 by omega), if_pos z1, if_pos z1]
    · by_cases z2 : 0 < zopn K
      · unfold zstp
        rw [if_neg (show ¬ (4 : Nat) = 0 by omega), if_neg (show ¬ (4 : Nat) = 1 by omega), if_neg (show ¬ (4 : Nat) = 2 by omega), if_neg (show ¬ (4 : Nat) = 3 by omega), if_neg z1, if_neg z1, if_pos z2, if_pos z2]
      · rw [if_neg z1, if_neg z2]
  -- what is not a closing parenthesis of this term
  have rest : (T t = 12 → zopn K = 0) → zXP T V P Rs w k n L Cs sd q A c0 b t0 o M0 (fX12_expression_L249 N (fX12_expression_L12 N (f + 1)) (nI 0) M) := by
    intro h12
    have sign : 0 < zrnk (T t) → zXP T V P Rs w k n L Cs sd q A c0 b t0 o M0 (fX12_expression_L281 N (fX12_expression_L12 N (f + 1)) (nI 0) (nI 1) M) := by
      intro z1
      rw [if_pos z1] at hz0
      have hPn : zPIc 3 Rs w k n L Cs sd q A (E ++ (zpop (zrnk (T t)) K).1) (T t :: (zpop (zrnk (T t)) K).2) := zPI_step hPI v2 v3 v4 hz0
      have t13 := hrk.2 z1
      have hcT : c = T t - 5 := by
        rw [c2.1 (by omega)]
        rcases t13 with z | z | z <;> rw [z] <;> rfl
      have hρ : zrnk (T t) = 1 ∨ zrnk (T t) = 2 := by omega
      have hρT : zrnk (T t) = if T t = 15 then 2 else 1 := by
        rcases t13 with z | z | z <;> rw [z] <;> rfl
      obtain ⟨r', g1, g2, g3, g4⟩ := zpop_f (ρ := zrnk (T t)) (by omega) K _ _ p13
      obtain ⟨l1, l2, l3, l4, l5⟩ := zwk_f _ _ _ g1
      obtain ⟨X, e1, e2, e3, e4, e5, e6, e7⟩ := m_co (N := N) hρ hN k5 (by omega) hX (by omega) hc0
      have e8 : fX12_expression_L281 N (fX12_expression_L12 N (f + 1)) (nI 0) (nI 1) M = fX12_expression_L329 N (fX12_expression_L12 N (f + 1)) (nI 0) (nI 1) (nI (T t - 5)) (nI (zrnk (T t) - 1)) M := by
        unfold fX12_expression_L281
        rw [if_neg (show ¬ nI 1 = 0 by decide), a1, z_ldI (by omega) (by omega), zbd_some, c1, hcT, show (10 : Int32) = nI 10 from rfl, zif_eq (by omega) (by omega), hρT]
        by_cases z15 : T t = 15
        · rw [if_pos (show T t - 5 = 10 by omega), if_pos z15]; rfl
        · rw [if_neg (show ¬ T t - 5 = 10 by omega), if_neg z15]; rfl
      have hA : zAt T t X := m_at_c h (e6 11 (by omega) (by omega)) (e6 13 (by omega) (by omega))
      have hlen : (E ++ (zpop (zrnk (T t)) K).1).length = E.length + (zpop (zrnk (T t)) K).1.length := List.length_append
      have T11 : ¬ T t = 11 := by omega
      have hck : zck (T t) 0 = T t - 5 := by
        rcases t13 with z | z | z <;> rw [z] <;> rfl
      rw [e8]
      unfold fX12_expression_L329
      rw [e1, zbd_some, e4, z_stI (by omega) (by omega), zbd_some, zlet_eq, show (zpI X 91 (zpop (zrnk (T t)) K).2.length (nI (T t - 5))).1 69 36 = X.1 69 36 from rfl, e4, nI_1]
      generalize hY : zpI (zpI X 91 (zpop (zrnk (T t)) K).2.length (nI (T t - 5))) 69 36 (nI ((zpop (zrnk (T t)) K).2.length + 1)) = Y
      have hfY : zfe c0 b M0 Y := by
        rw [← hY]
        exact zfe_tr hfe (zfe_tr e7 (zfe_tr (zfe_w c0 b _ _ _) (zfe_1 c0 b _ _ (by omega))))
      have hAY : zAt T t Y := by
        rw [← hY]
        exact m_at_c hA rfl rfl
      have hTY : zTRg T V P Y := zTRg_e (c0 := c0) (b := b) (M := M) (by rw [← hY]; exact zfe_tr e7 (zfe_tr (zfe_w c0 b _ _ _) (zfe_1 c0 b _ _ (by omega)))) hT
      have hXY : zXM b (E ++ (zpop (zrnk (T t)) K).1) (T t :: (zpop (zrnk (T t)) K).2) Y := by
        rw [← hY]
        refine ⟨?_, rfl, ⟨?_, zwts_c (M := X) _ (fun i hi => ?_) e5⟩, e3, zsR1 (zsR2 e2)⟩
        · rw [zopn, if_neg T11, Nat.add_zero, ← l1]
          show X.1 69 12 = _
          rw [e6 12 (by omega) (by omega)]; exact x1
        · rw [zpI_r _ _ (by omega), zpI_1, if_pos ⟨rfl, rfl⟩, hck]
        · rw [zpI_r _ _ (by omega), zpI_1, if_neg (by omega)]
      by_cases t4 : t < 400
      · rw [m_next hAY t4, zbd_some]
        obtain ⟨y1, y2, y3, y4, y5⟩ := hXY
        refine hn3 _ _ _ t4 (m_at1 hAY t4 (by omega) rfl rfl) hPn ⟨y1, y2, zwts_c (M := Y) _ (fun i hi => by rw [zpI_r _ _ (by omega)]) y3, y4, zsR1 y5⟩ ?_ ?_ (zfe_tr hfY (zfe_1 c0 b _ _ (by omega)))
        · rw [hlen, zops, if_neg T11]; omega
        · rw [← ho]; exact (zRn_go t4 hne (hs _ hz0)).symm
      · rw [m_next4 hTY hAY (by omega), zbd_some, f_L12 (m_flt (P := P) hAY (Or.inr rfl))]
        refine ⟨_, rfl, zfe_tr hfY (zfe_tr (zfe_1 c0 b _ _ (by omega)) (zfe_1 c0 b _ _ (by omega))), Or.inl ⟨2, t, m_flt hAY (Or.inr rfl), ?_⟩⟩
        rw [← ho]; exact zRn_room (by omega) hne (hs _ hz0)
    have none_ : zrnk (T t) = 0 → zXP T V P Rs w k n L Cs sd q A c0 b t0 o M0 (fX12_expression_L281 N (fX12_expression_L12 N (f + 1)) (nI 0) (nI 0) M) := by
      intro z1
      rw [if_neg (by omega)] at hz0
      unfold fX12_expression_L281 fX12_expression_L299
      rw [if_pos (show nI 0 = 0 from rfl), x1, zif_le (by omega) (by omega)]
      by_cases z2 : 0 < zopn K
      · rw [if_pos z2, if_neg (by omega)] at hz0
        rw [if_neg (by omega), show (1 : Int32) = nI 1 from rfl, m_fail hT h 1, zbd_some]
        have hF : zFl P 1 t (zpI (zpI M 69 13 (nI 1)) 69 14 (nI (P t))) := m_flt h (Or.inl rfl)
        obtain ⟨X, e1, e2, e3, e4, e5, e6, e7⟩ := m_co (N := N) (ρ := 1) (b := b) (E := E) (K := K) (M := zpI (zpI M 69 13 (nI 1)) 69 14 (nI (P t))) (Or.inl rfl) hN k5 (by omega) ⟨x1, x2, zwts_c (M := M) K (fun i hi => by rw [zpI_r _ _ (by omega), zpI_r _ _ (by omega)]) x3, x4, zsR1 (zsR1 x5)⟩ (by omega) hc0
        rw [show (0 : Int32) = nI (1 - 1) from rfl, e1, zbd_some]
        refine ⟨X, rfl, zfe_tr hfe (zfe_tr (zfe_tr (zfe_1 c0 b _ _ (by omega)) (zfe_1 c0 b _ _ (by omega))) e7), Or.inl ⟨1, t, ⟨?_, Or.inl rfl, ?_, t, a2, ?_⟩, ?_⟩⟩
        · rw [e6 13 (by omega) (by omega)]; rfl
        · rw [e6 14 (by omega) (by omega)]; rfl
        · rw [e6 11 (by omega) (by omega)]; exact a1
        · rw [← ho]; exact zRn_bad a2 hne (hs _ hz0)
      · have o0 : zopn K = 0 := by omega
        rw [if_pos (by omega)]
        obtain ⟨X, e1, e2, e3, e4, e5, e6, e7⟩ := m_co (N := N) (ρ := 1) (Or.inl rfl) hN k5 (by omega) hX (by omega) hc0
        obtain ⟨r', g1, g2, g3, g4⟩ := zpop_f (ρ := 1) (by omega) K _ _ p13
        rw [show (0 : Int32) = nI (1 - 1) from rfl, e1, zbd_some]
        refine ⟨X, rfl, zfe_tr hfe e7, Or.inr ⟨t, E, K, m_at_c h (e6 11 (by omega) (by omega)) (e6 13 (by omega) (by omega)), ht0, ?_, o0, z1, e3, e2, ?_, hPI, ho.symm⟩⟩
        · rw [e6 12 (by omega) (by omega), x1, o0]
        · rw [List.length_append]; omega
    unfold fX12_expression_L249 fX12_expression_L276
    rw [show (8 : Int32) = nI (zck 13 0) from rfl, show (9 : Int32) = nI (zck 14 0) from rfl, show (10 : Int32) = nI (zck 15 0) from rfl, m_is hT hV h 13 (by omega) (by omega) (by omega), zb2_some, m_is hT hV h 14 (by omega) (by omega) (by omega), zb2_some, m_is hT hV h 15 (by omega) (by omega) (by omega), zb2_some]
    by_cases z13 : T t = 13
    · rw [if_pos z13, if_neg (show ¬ nI 1 = 0 by decide)]
      exact sign (by rw [z13]; decide)
    by_cases z14 : T t = 14
    · rw [if_neg z13, if_pos (show nI 0 = 0 from rfl), if_pos z14, if_neg (show ¬ nI 1 = 0 by decide)]
      exact sign (by rw [z14]; decide)
    by_cases z15 : T t = 15
    · rw [if_neg z13, if_pos (show nI 0 = 0 from rfl), if_neg z14, if_pos (show nI 0 = 0 from rfl), if_pos z15, if_neg (show ¬ nI 1 = 0 by decide)]
      exact sign (by rw [z15]; decide)
    rw [if_neg z13, if_pos (show nI 0 = 0 from rfl), if_neg z14, if_pos (show nI 0 = 0 from rfl), if_neg z15, if_pos (show nI 0 = 0 from rfl)]
    refine none_ ?_
    rcases Nat.eq_zero_or_pos (zrnk (T t)) with z | z
    · exact z
    · have := hrk.2 z; omega
  rw [fX12_expression_L200, show (7 : Int32) = nI (zck 12 0) from rfl, m_is hT hV h 12 (by omega) (by omega) (by omega), zb2_some]
  by_cases c12 : T t = 12
  · rw [if_pos c12, if_neg (show ¬ nI 1 = 0 by decide), x1, zif_le (by omega) (by omega)]
    by_cases z2 : 0 < zopn K
    · have r0 : ¬ 0 < zrnk (T t) := by rw [c12]; decide
      rw [if_neg r0, if_pos z2, if_pos c12] at hz0
      rw [if_neg (by omega)]
      obtain ⟨r', g1, g2, g3, g4⟩ := zpop_f (ρ := 1) (by omega) K _ _ p13
      have e0 : r' = 0 := by omega
      rw [e0] at g1
      rcases zwk_0 g1 with ⟨z3, z4⟩ | ⟨K2, r2, z3, z4, z5⟩
      · omega
      obtain ⟨l1, l2, l3, l4, l5⟩ := zwk_f _ _ _ z5
      obtain ⟨X, e1, e2, e3, e4, e5, e6, e7⟩ := m_co (N := N) (ρ := 1) (Or.inl rfl) hN k5 (by omega) hX (by omega) hc0
      rw [z3] at e4 e5 g3 hz0
      rw [zops, if_pos rfl] at g3
      rw [List.tail_cons] at hz0
      have hPn : zPIc 4 Rs w k n L Cs sd q A (E ++ (zpop 1 K).1) K2 := zPI_step hPI v2 v3 v4 hz0
      rw [show (0 : Int32) = nI (1 - 1) from rfl, e1, zbd_some, zlet_eq, zlet_eq, e4, List.length_cons, nI_pred, show (zpI X 69 36 (nI K2.length)).1 69 12 = X.1 69 12 from rfl, e6 12 (by omega) (by omega), x1, show zopn K = (zopn K - 1) + 1 by omega, nI_pred]
      have hA : zAt T t X := m_at_c h (e6 11 (by omega) (by omega)) (e6 13 (by omega) (by omega))
      have hlen : (E ++ (zpop 1 K).1).length = E.length + (zpop 1 K).1.length := List.length_append
      generalize hY : zpI (zpI X 69 36 (nI K2.length)) 69 12 (nI (zopn K - 1)) = Y
      have hfM : zfe c0 b M Y := by rw [← hY]; exact zfe_tr e7 (zfe_tr (zfe_1 c0 b _ _ (by omega)) (zfe_1 c0 b _ _ (by omega)))
      have hAY : zAt T t Y := by
        rw [← hY]
        exact m_at_c hA rfl rfl
      have hXY : zXM b (E ++ (zpop 1 K).1) K2 Y := by
        rw [← hY]
        refine ⟨?_, rfl, zwts_c (M := X) _ (fun i hi => by rw [zpI_r _ _ (by omega), zpI_r _ _ (by omega)]) e5.2, e3, zsR1 (zsR1 e2)⟩
        rw [← l1]; rfl
      by_cases t4 : t < 400
      · rw [m_next hAY t4, zbd_some]
        obtain ⟨y1, y2, y3, y4, y5⟩ := hXY
        refine hn4 _ _ _ t4 (m_at1 hAY t4 (by omega) rfl rfl) hPn ⟨y1, y2, zwts_c (M := Y) _ (fun i hi => by rw [zpI_r _ _ (by omega)]) y3, y4, zsR1 y5⟩ (by rw [hlen]; omega) ?_ (zfe_tr hfe (zfe_tr hfM (zfe_1 c0 b _ _ (by omega))))
        rw [← ho]; exact (zRn_go t4 hne (hs _ hz0)).symm
      · rw [m_next4 (zTRg_e hfM hT) hAY (by omega), zbd_some]
        obtain ⟨y1, y2, y3, y4, y5⟩ := hXY
        obtain ⟨W, w1, w2, w3⟩ := f_L200 (N := N) (f := f2) (k12 := fX12_expression_L12 N (f + 1)) (b := b) (E := E ++ (zpop 1 K).1) (K := K2) hN (m_flt (P := P) hAY (Or.inr rfl)) l5 (by omega) ⟨y1, y2, zwts_c (M := Y) _ (fun i hi => by rw [zpI_r _ _ (by omega), zpI_r _ _ (by omega)]) y3, y4, zsR1 (zsR1 y5)⟩ (by rw [hlen]; omega) hc0
        rw [w1]
        refine ⟨W, rfl, zfe_tr hfe (zfe_tr hfM (zfe_tr (zfe_tr (zfe_1 c0 b _ _ (by omega)) (zfe_1 c0 b _ _ (by omega))) w3)), Or.inl ⟨2, t, w2, ?_⟩⟩
        rw [← ho]; exact zRn_room (by omega) hne (hs _ hz0)
    · rw [if_pos (by omega)]
      exact rest (fun _ => by omega)
  · rw [if_neg c12, if_pos (show nI 0 = 0 from rfl)]
    exact rest (fun z => absurd z c12)
/-- both, down from the last token -/
theorem m_q34 (hc0 : c0 ≤ 500) (hN : 500 < N) (hT : zTRg T V P M0) (hV : zVal T V P) : ∀ D t, t + D = 400 → t0 ≤ t →
    (∀ f (E : zTm) (K : List Nat) (M : zMem), D < f → zAt T t M → zPIc 3 Rs w k n L Cs sd q A E K → zXM b E K M → b + E.length + zops K ≤ c0 + t → zRn T V P t (3, Rs, w, k, n, L, Cs, sd, q, A, E, K) = o → zfe c0 b M0 M → zXP T V P Rs w k n L Cs sd q A c0 b t0 o M0 (fX12_expression_L12 N (f + 1) (nI 0) (nI 1) M)) ∧
    (t0 < t → ∀ f f2 (E : zTm) (K : List Nat) (M : zMem), D < f → D < f2 → zAt T t M → zPIc 4 Rs w k n L Cs sd q A E K → zXM b E K M → b + E.length + zops K ≤ c0 + t → zRn T V P t (4, Rs, w, k, n, L, Cs, sd, q, A, E, K) = o → zfe c0 b M0 M → zXP T V P Rs w k n L Cs sd q A c0 b t0 o M0 (fX12_expression_L200 N (fX12_expression_L12 N (f + 1)) (f2 + 1) (nI 0) M))
  | 0, t, hD, ht => by
    refine ⟨fun f E K M hf h1 h2 h3 h4 h5 h6 => ?_, fun ht1 f f2 E K M hf hf2 h1 h2 h3 h4 h5 h6 => ?_⟩
    · obtain ⟨m, rfl⟩ : ∃ m, f = m + 1 := ⟨f - 1, by omega⟩
      exact m_q3 hc0 (by omega) (zTRg_e h6 hT) hV h1 h2 h3 h4 h5 h6 ht (fun _ _ _ z => absurd z (by omega)) (fun _ _ _ z => absurd z (by omega))
    · obtain ⟨m, rfl⟩ : ∃ m, f2 = m + 1 := ⟨f2 - 1, by omega⟩
      exact m_q4 hc0 (by omega) (zTRg_e h6 hT) hV h1 h2 h3 h4 h5 h6 ht1 (fun _ _ _ z => absurd z (by omega)) (fun _ _ _ z => absurd z (by omega))
  | D + 1, t, hD, ht => by
    obtain ⟨i3, i4⟩ := m_q34 hc0 hN hT hV D (t + 1) (by omega) (by omega)
    have i4 := i4 (by omega)
    refine ⟨fun f E K M hf h1 h2 h3 h4 h5 h6 => ?_, fun ht1 f f2 E K M hf hf2 h1 h2 h3 h4 h5 h6 => ?_⟩
    · obtain ⟨m, rfl⟩ : ∃ m, f = m + 1 := ⟨f - 1, by omega⟩
      obtain ⟨m2, hm2⟩ : ∃ m, N = m + 1 := ⟨N - 1, by omega⟩
      refine m_q3 hc0 (by omega) (zTRg_e h6 hT) hV h1 h2 h3 h4 h5 h6 ht (fun E' K' X _ g1 g2 g3 g4 g5 g6 => i3 m E' K' X (by omega) g1 g2 g3 g4 g5 g6) (fun E' K' X _ g1 g2 g3 g4 g5 g6 => ?_)
      have := i4 m m2 E' K' X (by omega) (by omega) g1 g2 g3 g4 g5 g6
      rw [← hm2] at this
      exact this
    · obtain ⟨m, rfl⟩ : ∃ m, f2 = m + 1 := ⟨f2 - 1, by omega⟩
      exact m_q4 hc0 (by omega) (zTRg_e h6 hT) hV h1 h2 h3 h4 h5 h6 ht1 (fun E' K' X _ g1 g2 g3 g4 g5 g6 => i3 f E' K' X (by omega) g1 g2 g3 g4 g5 g6) (fun E' K' X _ g1 g2 g3 g4 g5 g6 => i4 f m E' K' X (by omega) (by omega) g1 g2 g3 g4 g5 g6)
/-- a whole term -/
theorem m_expr (hc0 : c0 ≤ 500) (hN : 500 < N) (hT : zTRg T V P M) (hV : zVal T V P) (h : zAt T t M) (hPI : zPIc 3 Rs w k n L Cs sd q A [] []) (h12 : M.1 69 12 = nI 0) (h32 : M.1 69 32 = nI b) (hb : b ≤ c0 + t) : zXP T V P Rs w k n L Cs sd q A c0 b t (zRn T V P t (3, Rs, w, k, n, L, Cs, sd, q, A, [], [])) M (fX12_expression N M) := by
  unfold fX12_expression
  rw [zlet_eq, zlet_eq, show (zpI M 69 36 0).1 69 12 = M.1 69 12 from rfl, h12]
  obtain ⟨m, hm⟩ : ∃ m, N = m + 1 := ⟨N - 1, by omega⟩
  have := (m_q34 (N := N) (M0 := M) (b := b) (t0 := t) hc0 hN hT hV (400 - t) t (by have := h.2.1; omega) (Nat.le_refl t)).1 m [] [] (zpI M 69 36 0) (by omega) (m_at_c h rfl rfl) hPI ⟨h12, rfl, trivial, h32, trivial⟩ hb rfl (zfe_1 c0 b M _ (by omega))
  rw [← hm] at this
  exact this
theorem f_expr {g u : Nat} (hN : 0 < N) (h : zFl P g u M) : fX12_expression N M = some (zpI M 69 36 0) := by
  unfold fX12_expression
  rw [zlet_eq, zlet_eq]
  obtain ⟨m, rfl⟩ : ∃ m, N = m + 1 := ⟨N - 1, by omega⟩
  exact f_L12 (M := zpI M 69 36 0) (N := m + 1) (f := m) (P := P) (g := g) (u := u) ⟨h.1, h.2.1, h.2.2.1, h.2.2.2⟩ _
end RSIM3
