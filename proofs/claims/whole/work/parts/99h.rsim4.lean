/-! READ: the reference's relations -/
def zflr (s b kk : Nat) (M W : zMem) : Prop := (∀ a, a ≠ 69 → (a < 84 ∨ 92 ≤ a) → W.1 a = M.1 a) ∧ W.2 = M.2 ∧ (∀ j, j ≠ 11 → j ≠ 12 → j ≠ 13 → j ≠ 14 → j ≠ 32 → j ≠ 36 → W.1 69 j = M.1 69 j) ∧ (∀ i, (i < b ∨ 500 * s + 401 ≤ i) → W.1 89 i = M.1 89 i ∧ W.1 90 i = M.1 90 i) ∧ (∀ a i, 85 ≤ a → a ≤ 88 → i ≠ 200 * s + kk → W.1 a i = M.1 a i) ∧ ∀ i, i ≠ s → W.1 84 i = M.1 84 i
theorem zflr_e {s b kk : Nat} {M W : zMem} (h : zfe (500 * s) b M W) : zflr s b kk M W :=
  ⟨fun a a1 a2 => h.1 a a1 (by omega) (by omega) (by omega), h.2.1, h.2.2.1, h.2.2.2, fun a i a1 a2 _ => by rw [h.1 a (by omega) (by omega) (by omega) (by omega)], fun i _ => by rw [h.1 84 (by omega) (by omega) (by omega) (by omega)]⟩
theorem zflr_tr {s b kk : Nat} {M X W : zMem} (h1 : zflr s b kk M X) (h2 : zflr s b kk X W) : zflr s b kk M W :=
  ⟨fun a a1 a2 => (h2.1 a a1 a2).trans (h1.1 a a1 a2), h2.2.1.trans h1.2.1, fun j j1 j2 j3 j4 j5 j6 => (h2.2.2.1 j j1 j2 j3 j4 j5 j6).trans (h1.2.2.1 j j1 j2 j3 j4 j5 j6), fun i hi => ⟨(h2.2.2.2.1 i hi).1.trans (h1.2.2.2.1 i hi).1, (h2.2.2.2.1 i hi).2.trans (h1.2.2.2.1 i hi).2⟩, fun a i a1 a2 a3 => (h2.2.2.2.2.1 a i a1 a2 a3).trans (h1.2.2.2.2.1 a i a1 a2 a3), fun i hi => (h2.2.2.2.2.2 i hi).trans (h1.2.2.2.2.2 i hi)⟩
theorem zsegR_d {M W : zMem} : ∀ (L : zTm) (i : Nat), (∀ j, i ≤ j → j < i + L.length → W.1 89 j = M.1 89 j ∧ W.1 90 j = M.1 90 j) → zsegR M i L → zsegR W i L
  | [], _, _, _ => trivial
  | x :: L, i, h, ⟨q1, q2⟩ => ⟨⟨(h i (by omega) (by rw [List.length_cons]; omega)).1.trans q1.1, (h i (by omega) (by rw [List.length_cons]; omega)).2.trans q1.2⟩, zsegR_d L (i + 1) (fun j h1 h2 => h j (by omega) (by rw [List.length_cons]; omega)) q2⟩
section RSIM4
variable {T V P : Nat → Nat} {t : Nat} {M M0 : zMem} {N : Nat} {Rs : List zRl} {w : Option Nat} {k n : Nat} {L : zTm} {Cs : List zRe} {sd q : Nat} {A E : zTm} {K : List Nat} {b s kk : Nat}
/-- a fault runs through -/
theorem f_L54 {g u : Nat} (hN : 0 < N) (h : zFl P g u M) (x1 x2 : Int32) : ∃ W, fX12_relation_L54 N x1 x2 M = some W ∧ zFl P g u W ∧ ∀ c0 b, zfe c0 b M W := by
  unfold fX12_relation_L54
  obtain ⟨X, x3, x4, x5, x6, x7⟩ := f_next h
  have hX : ∀ c0 b, zfe c0 b M X := fun c0 b => ⟨fun a a1 _ _ _ => x5 a a1, x7, fun j j1 _ _ _ _ _ => x6 j j1, fun i _ => by rw [x5 89 (by omega), x5 90 (by omega)]; exact ⟨rfl, rfl⟩⟩
  have hF : zFl P g u (zpI X 69 36 0) := ⟨x4.1, x4.2.1, x4.2.2.1, x4.2.2.2⟩
  rw [x3, zbd_some, zlet_eq, f_expr hN x4, zbd_some, if_neg (f_ne hF).2]
  exact ⟨_, rfl, hF, fun c0 b => zfe_tr (hX c0 b) (zfe_1 c0 b _ _ (by omega))⟩
theorem f_relation {g u : Nat} (hN : 0 < N) (h : zFl P g u M) : ∃ W, fX12_relation N M = some W ∧ zFl P g u W ∧ ∀ c0 b, zfe c0 b M W := by
  unfold fX12_relation
  have hF : zFl P g u (zpI M 69 36 0) := ⟨h.1, h.2.1, h.2.2.1, h.2.2.2⟩
  rw [zlet_eq, f_expr hN h, zbd_some, if_neg (f_ne hF).2]
  unfold fX12_relation_L32
  rw [if_neg (f_ne hF).1]
  obtain ⟨W, w1, w2, w3⟩ := f_L54 hN hF (M.1 69 32) 0
  rw [w1]
  exact ⟨W, rfl, w2, fun c0 b => zfe_tr (zfe_1 c0 b _ _ (by omega)) (w3 c0 b)⟩
/-- a relation, or a fault -/
def zLP (T V P : Nat → Nat) (Rs : List zRl) (w : Option Nat) (k n : Nat) (L : zTm) (Cs : List zRe) (s b kk t0 : Nat) (o : (Nat × Nat) ⊕ (List zRl × Option Nat)) (M0 : zMem) (res : Option zMem) : Prop := ∃ W, res = some W ∧ zflr s b kk M0 W ∧ ((∃ g u, zFl P g u W ∧ o = .inl (g, u)) ∨ ∃ t q A E K, zAt T t W ∧ t0 + 2 < t ∧ W.1 69 12 = nI 0 ∧ zopn K = 0 ∧ zrnk (T t) = 0 ∧ W.1 84 s = nI (kk + 1) ∧ W.1 85 (200 * s + kk) = nI (q - 16) ∧ W.1 86 (200 * s + kk) = nI b ∧ W.1 87 (200 * s + kk) = nI (b + A.length) ∧ W.1 88 (200 * s + kk) = nI (b + A.length + (E ++ (zpop 1 K).1).length) ∧ zsegR W b A ∧ zsegR W (b + A.length) (E ++ (zpop 1 K).1) ∧ W.1 69 32 = nI (b + A.length + (E ++ (zpop 1 K).1).length) ∧ b + A.length + (E ++ (zpop 1 K).1).length ≤ 500 * s + t ∧ zPIc 4 Rs w k n L Cs 2 q A E K ∧ o = zRn T V P t (4, Rs, w, k, n, L, Cs, 2, q, A, E, K))
theorem m_relation (hN : 500 < N) (hs : s < 2) (hT : zTRg T V P M) (hV : zVal T V P) (h : zAt T t M) (hPI : zPIc 3 Rs w k n L Cs 1 0 [] [] []) (h12 : M.1 69 12 = nI 0) (h32 : M.1 69 32 = nI b) (hb : b ≤ 500 * s + t) (h19 : M.1 69 19 = nI s) (h84 : M.1 84 s = nI kk) (hkk : 2 * kk ≤ t) : zLP T V P Rs w k n L Cs s b kk t (zRn T V P t (3, Rs, w, k, n, L, Cs, 1, 0, [], [], [])) M (fX12_relation N M) := by
  unfold fX12_relation
  rw [zlet_eq, h32]
  obtain ⟨W1, e1, e2, e3⟩ := m_expr (c0 := 500 * s) (by omega) hN hT hV h hPI h12 h32 hb
  rw [e1, zbd_some]
  rcases e3 with ⟨g, u, f1, f2⟩ | ⟨t1, E1, K1, d1, d2, d3, d4, d5, d6, d7, d8, d9, d10⟩
  · rw [if_neg (f_ne f1).2]
    unfold fX12_relation_L32
    rw [if_neg (f_ne f1).1]
    obtain ⟨W, w1, w2, w3⟩ := f_L54 (N := N) (by omega) f1 (nI b) 0
    rw [w1]
    exact ⟨W, rfl, zflr_e (zfe_tr e2 (w3 _ _)), Or.inl ⟨g, u, w2, f2⟩⟩
  · obtain ⟨v1, v2, v3, v4⟩ := hV t1
    obtain ⟨a1, a2, a3, a4⟩ := id d1
    have hT1 : zTRg T V P W1 := zTRg_e e2 hT
    obtain ⟨c, c1, c2, c3, c4⟩ := hT1 t1 a2 a3
    have hc32 := zcv_32 c2 v1 v3
    have hst : ∀ (z : Nat ⊕ zSta), zstp 4 Rs w k n L Cs 1 0 [] E1 K1 (T t1) (V t1) (P t1) = z → zstS (4, Rs, w, k, n, L, Cs, 1, 0, [], E1, K1) (T t1) (V t1) (P t1) = z := fun z hz => hz
    have hne : ¬ (T t1 = 0 ∧ ((4, Rs, w, k, n, L, Cs, 1, 0, [], E1, K1) : zSta).1 = 0) := fun z => absurd z.2 (show ¬ (4 : Nat) = 0 by omega)
    have hz : zstp 4 Rs w k n L Cs 1 0 [] E1 K1 (T t1) (V t1) (P t1) = if 16 ≤ T t1 ∧ T t1 ≤ 19 then .inr (3, Rs, w, k, n, L, Cs, 2, T t1, E1 ++ (zpop 1 K1).1, [], []) else .inl 1 := by
      unfold zstp
      rw [if_neg (show ¬ (4 : Nat) = 0 by omega), if_neg (show ¬ (4 : Nat) = 1 by omega), if_neg (show ¬ (4 : Nat) = 2 by omega), if_neg (show ¬ (4 : Nat) = 3 by omega), if_neg (show ¬ 0 < zrnk (T t1) by omega), if_neg (show ¬ 0 < zopn K1 by omega), if_neg (show ¬ (1 : Nat) = 0 by omega), if_pos (show (1 : Nat) = 1 from rfl)]
    rw [if_pos (show W1.1 69 13 ≤ 0 from by rw [a4]; decide), a1, z_ldI (by omega) (by omega), zbd_some, c1, show (11 : Int32) = nI 11 from rfl]
    unfold fX12_relation_L32
    rw [if_pos (show W1.1 69 13 = 0 from a4)]
    by_cases rel : 16 ≤ T t1 ∧ T t1 ≤ 19
    · rw [if_pos rel] at hz
      have hPn : zPIc 3 Rs w k n L Cs 2 (T t1) (E1 ++ (zpop 1 K1).1) [] [] := zPI_step d9 v2 v3 v4 hz
      have hc : c = T t1 - 5 := by
        rw [c2.1 (by omega)]
        rcases (show T t1 = 16 ∨ T t1 = 17 ∨ T t1 = 18 ∨ T t1 = 19 by omega) with z | z | z | z <;> rw [z] <;> rfl
      rw [hc, pk_sub (by omega), show (3 : Int32) = nI 3 from rfl, if_neg (nI_pos (by omega)), zif_le (by omega) (by omega), if_pos (by omega)]
      by_cases t4 : t1 < 400
      · unfold fX12_relation_L54
        rw [m_next d1 t4, zbd_some, zlet_eq, show (zpI W1 69 11 (nI (t1 + 1))).1 69 32 = W1.1 69 32 from rfl, d6]
        have hA2 : zAt T (t1 + 1) (zpI W1 69 11 (nI (t1 + 1))) := m_at1 d1 t4 (by omega) rfl rfl
        have hf2 : ∀ c0 b, zfe c0 b W1 (zpI W1 69 11 (nI (t1 + 1))) := fun c0 b => zfe_1 c0 b _ _ (by omega)
        obtain ⟨W2, g1, g2, g3⟩ := m_expr (b := b + (E1 ++ (zpop 1 K1).1).length) (c0 := 500 * s) (by omega) hN (zTRg_e (hf2 0 0) hT1) hV hA2 hPn d3 d6 (by omega)
        rw [← zRn_go t4 hne (hst _ hz), ← d10] at g3
        have hfe : zfe (500 * s) b M W2 := zfe_tr e2 (zfe_tr (hf2 _ _) (zfe_le g2 (by omega)))
        rw [g1, zbd_some]
        rcases g3 with ⟨g, u, f1, f2⟩ | ⟨t2, E2, K2, j1, j2, j3, j4, j5, j6, j7, j8, j9, j10⟩
        · rw [if_neg (f_ne f1).2]
          exact ⟨W2, rfl, zflr_e hfe, Or.inl ⟨g, u, f1, f2⟩⟩
        · have i19 : W2.1 69 19 = nI s := by rw [hfe.2.2.1 19 (by omega) (by omega) (by omega) (by omega) (by omega) (by omega)]; exact h19
          have i84 : W2.1 84 s = nI kk := by rw [hfe.1 84 (by omega) (by omega) (by omega) (by omega)]; exact h84
          have t24 := j1.2.1
          rw [if_pos (show W2.1 69 13 ≤ 0 from by rw [j1.2.2.2]; decide), i19, z_ldI hs (by omega), zbd_some, i84, show (200 : Int32) = nI 200 from rfl, pk_mul, nI_add, zlet_eq, z_stI (by omega) (by omega), zbd_some, z_stI (by omega) (by omega), zbd_some, z_stI (by omega) (by omega), zbd_some]
          rw [show (zpI (zpI (zpI W2 85 (200 * s + kk) (nI (T t1 - 5 - 11))) 86 (200 * s + kk) (nI b)) 87 (200 * s + kk) (nI (b + (E1 ++ (zpop 1 K1).1).length))).1 69 32 = W2.1 69 32 from rfl, j6, z_stI (by omega) (by omega), zbd_some]
          generalize hX : zpI (zpI (zpI (zpI W2 85 (200 * s + kk) (nI (T t1 - 5 - 11))) 86 (200 * s + kk) (nI b)) 87 (200 * s + kk) (nI (b + (E1 ++ (zpop 1 K1).1).length))) 88 (200 * s + kk) (nI (b + (E1 ++ (zpop 1 K1).1).length + (E2 ++ (zpop 1 K2).1).length)) = X
          have xo : ∀ a, a ≠ 85 → a ≠ 86 → a ≠ 87 → a ≠ 88 → X.1 a = W2.1 a := fun a b1 b2 b3 b4 => by rw [← hX, zpI_r _ _ b4, zpI_r _ _ b3, zpI_r _ _ b2, zpI_r _ _ b1]
          have xi : ∀ a i, i ≠ 200 * s + kk → X.1 a i = W2.1 a i := fun a i hi => by rw [← hX, zpI_1, if_neg (fun z => hi z.2), zpI_1, if_neg (fun z => hi z.2), zpI_1, if_neg (fun z => hi z.2), zpI_1, if_neg (fun z => hi z.2)]
          have x85 : X.1 85 (200 * s + kk) = nI (T t1 - 16) := by
            rw [← hX, zpI_r _ _ (by omega), zpI_r _ _ (by omega), zpI_r _ _ (by omega), zpI_1, if_pos ⟨rfl, rfl⟩]
            congr 1
          have x86 : X.1 86 (200 * s + kk) = nI b := by rw [← hX, zpI_r _ _ (by omega), zpI_r _ _ (by omega), zpI_1, if_pos ⟨rfl, rfl⟩]
          have x87 : X.1 87 (200 * s + kk) = nI (b + (E1 ++ (zpop 1 K1).1).length) := by rw [← hX, zpI_r _ _ (by omega), zpI_1, if_pos ⟨rfl, rfl⟩]
          have x88 : X.1 88 (200 * s + kk) = nI (b + (E1 ++ (zpop 1 K1).1).length + (E2 ++ (zpop 1 K2).1).length) := by rw [← hX, zpI_1, if_pos ⟨rfl, rfl⟩]
          have x2 : X.2 = W2.2 := by rw [← hX]; rfl
          have x19 : X.1 69 19 = nI s := by rw [xo 69 (by omega) (by omega) (by omega) (by omega)]; exact i19
          have x84 : X.1 84 s = nI kk := by rw [xo 84 (by omega) (by omega) (by omega) (by omega)]; exact i84
          rw [x19, z_ldI hs (by omega), zbd_some, x84, nI_1, z_stI hs (by omega), zbd_some]
          have yo : ∀ a, a ≠ 84 → a ≠ 85 → a ≠ 86 → a ≠ 87 → a ≠ 88 → (zpI X 84 s (nI (kk + 1))).1 a = W2.1 a := fun a b0 b1 b2 b3 b4 => by rw [zpI_r _ _ b0, xo a b1 b2 b3 b4]
          refine ⟨_, rfl, zflr_tr (zflr_e hfe) ⟨fun a a1 a2 => yo a (by omega) (by omega) (by omega) (by omega) (by omega), by rw [zpI_2, x2], fun j _ _ _ _ _ _ => by rw [yo 69 (by omega) (by omega) (by omega) (by omega) (by omega)], fun i _ => by rw [yo 89 (by omega) (by omega) (by omega) (by omega) (by omega), yo 90 (by omega) (by omega) (by omega) (by omega) (by omega)]; exact ⟨rfl, rfl⟩, fun a i a1 a2 a3 => by rw [zpI_r _ _ (by omega), xi a i a3], fun i hi => by rw [zpI_1, if_neg (fun z => hi z.2), xo 84 (by omega) (by omega) (by omega) (by omega)]⟩, Or.inr ⟨t2, T t1, E1 ++ (zpop 1 K1).1, E2, K2, ?_, by omega, ?_, j4, j5, ?_, ?_, ?_, ?_, ?_, ?_, ?_, ?_, j8, j9, j10⟩⟩
          · exact m_at_c j1 (by rw [yo 69 (by omega) (by omega) (by omega) (by omega) (by omega)]) (by rw [yo 69 (by omega) (by omega) (by omega) (by omega) (by omega)])
          · rw [yo 69 (by omega) (by omega) (by omega) (by omega) (by omega)]; exact j3
          · rw [zpI_1, if_pos ⟨rfl, rfl⟩]
          · rw [zpI_r _ _ (by omega)]; exact x85
          · rw [zpI_r _ _ (by omega)]; exact x86
          · rw [zpI_r _ _ (by omega)]; exact x87
          · rw [zpI_r _ _ (by omega)]; exact x88
          · refine zsegR_d (M := W1) _ _ (fun i _ hi => ?_) d7
            rw [yo 89 (by omega) (by omega) (by omega) (by omega) (by omega), yo 90 (by omega) (by omega) (by omega) (by omega) (by omega)]
            have := g2.2.2.2 i (Or.inl hi)
            rw [this.1, this.2, zpI_r _ _ (by omega), zpI_r _ _ (by omega)]
            exact ⟨rfl, rfl⟩
          · exact zsegR_c (M := W2) (yo 89 (by omega) (by omega) (by omega) (by omega) (by omega)) (yo 90 (by omega) (by omega) (by omega) (by omega) (by omega)) _ _ j7
          · rw [yo 69 (by omega) (by omega) (by omega) (by omega) (by omega)]; exact j6
      · unfold fX12_relation_L54
        rw [m_next4 hT1 d1 (by omega), zbd_some, zlet_eq]
        have hF : zFl P 2 t1 (zpI (zpI W1 69 13 (nI 2)) 69 14 (nI (P t1))) := m_flt d1 (Or.inr rfl)
        rw [f_expr (by omega) hF, zbd_some]
        have hF2 : zFl P 2 t1 (zpI (zpI (zpI W1 69 13 (nI 2)) 69 14 (nI (P t1))) 69 36 0) := ⟨hF.1, hF.2.1, hF.2.2.1, hF.2.2.2⟩
        rw [if_neg (f_ne hF2).2]
        refine ⟨_, rfl, zflr_e (zfe_tr e2 (zfe_tr (zfe_1 _ _ _ _ (by omega)) (zfe_tr (zfe_1 _ _ _ _ (by omega)) (zfe_1 _ _ _ _ (by omega))))), Or.inl ⟨2, t1, hF2, ?_⟩⟩
        rw [d10]; exact zRn_room (by omega) hne (hst _ hz)
    · rw [if_neg rel] at hz
      have hF : zFl P 1 t1 (zpI (zpI W1 69 13 (nI 1)) 69 14 (nI (P t1))) := m_flt d1 (Or.inl rfl)
      have l49 : ∀ x2, zLP T V P Rs w k n L Cs s b kk t (zRn T V P t (3, Rs, w, k, n, L, Cs, 1, 0, [], [], [])) M (fX12_relation_L49 N (nI b) x2 W1) := by
        intro x2
        unfold fX12_relation_L49
        rw [show (1 : Int32) = nI 1 from rfl, m_fail hT1 d1 1, zbd_some]
        obtain ⟨W, w1, w2, w3⟩ := f_L54 (N := N) (by omega) hF (nI b) x2
        rw [w1]
        refine ⟨W, rfl, zflr_e (zfe_tr e2 (zfe_tr (zfe_tr (zfe_1 _ _ _ _ (by omega)) (zfe_1 _ _ _ _ (by omega))) (w3 _ _))), Or.inl ⟨1, t1, w2, ?_⟩⟩
        rw [d10]; exact zRn_bad a2 hne (hst _ hz)
      have hcr : ¬ (11 ≤ c ∧ c ≤ 14) := by
        intro hc
        by_cases t1k : T t1 = 1
        · rcases c2.2 t1k with z | z <;> omega
        · have e := c2.1 t1k
          by_cases t3 : T t1 = 3
          · rw [t3] at e
            have : zck 3 (V t1) = 26 + V t1 := rfl
            omega
          · rw [zck_v t3] at e
            have : ∀ τ, τ < 20 → 16 ≤ τ ∨ τ = 3 ∨ ¬ (11 ≤ zck τ 0 ∧ zck τ 0 ≤ 14) := by decide
            rcases this (T t1) (by omega) with z | z | z
            · omega
            · exact t3 z
            · rw [← e] at z; exact z hc
      by_cases q1 : nI c - nI 11 < 0
      · rw [if_pos q1]; exact l49 _
      · rw [if_neg q1]
        by_cases q2 : nI c - nI 11 ≤ 3
        · exfalso
          have i1 := pk_sub_toInt (a := c) (b := 11) (by omega) (by omega)
          have i2 : ¬ (nI c - nI 11).toInt < 0 := fun z => q1 (Int32.lt_iff_toInt_lt.mpr z)
          have i3 := Int32.le_iff_toInt_le.mp q2
          have i4 : (3 : Int32).toInt = 3 := by decide
          omega
        · rw [if_neg q2]; exact l49 _
end RSIM4
