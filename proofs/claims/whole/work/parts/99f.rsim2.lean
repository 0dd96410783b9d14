/-! READ: the reference's terms -/
def zfe (c0 b : Nat) (M W : zMem) : Prop := (∀ a, a ≠ 69 → a ≠ 89 → a ≠ 90 → a ≠ 91 → W.1 a = M.1 a) ∧ W.2 = M.2 ∧ (∀ j, j ≠ 11 → j ≠ 12 → j ≠ 13 → j ≠ 14 → j ≠ 32 → j ≠ 36 → W.1 69 j = M.1 69 j) ∧ ∀ i, (i < b ∨ c0 + 401 ≤ i) → W.1 89 i = M.1 89 i ∧ W.1 90 i = M.1 90 i
theorem zfe_rfl (c0 b : Nat) (M : zMem) : zfe c0 b M M := ⟨fun _ _ _ _ _ => rfl, rfl, fun _ _ _ _ _ _ _ => rfl, fun _ _ => ⟨rfl, rfl⟩⟩
theorem zfe_tr {c0 b : Nat} {M X W : zMem} (h1 : zfe c0 b M X) (h2 : zfe c0 b X W) : zfe c0 b M W :=
  ⟨fun a a1 a2 a3 a4 => (h2.1 a a1 a2 a3 a4).trans (h1.1 a a1 a2 a3 a4), h2.2.1.trans h1.2.1, fun j j1 j2 j3 j4 j5 j6 => (h2.2.2.1 j j1 j2 j3 j4 j5 j6).trans (h1.2.2.1 j j1 j2 j3 j4 j5 j6), fun i hi => ⟨(h2.2.2.2 i hi).1.trans (h1.2.2.2 i hi).1, (h2.2.2.2 i hi).2.trans (h1.2.2.2 i hi).2⟩⟩
theorem zfe_le {c0 b c : Nat} {M W : zMem} (h : zfe c0 b M W) (hc : c ≤ b) : zfe c0 c M W := ⟨h.1, h.2.1, h.2.2.1, fun i hi => h.2.2.2 i (by omega)⟩
/-- one field of the parser -/
theorem zfe_1 (c0 b : Nat) (M : zMem) {j : Nat} (x : Int32) (hj : j = 11 ∨ j = 12 ∨ j = 13 ∨ j = 14 ∨ j = 32 ∨ j = 36) : zfe c0 b M (zpI M 69 j x) :=
  ⟨fun a a1 _ _ _ => zpI_r _ _ a1, rfl, fun i i1 i2 i3 i4 i5 i6 => by rw [zpI_1, if_neg (by omega)], fun i _ => by rw [zpI_r _ _ (by omega), zpI_r _ _ (by omega)]; exact ⟨rfl, rfl⟩⟩
theorem zfe_w (c0 b : Nat) (M : zMem) (i : Nat) (x : Int32) : zfe c0 b M (zpI M 91 i x) :=
  ⟨fun a a1 a2 a3 a4 => zpI_r _ _ a4, rfl, fun j j1 j2 j3 j4 j5 j6 => by rw [zpI_r _ _ (by omega)], fun i _ => by rw [zpI_r _ _ (by omega), zpI_r _ _ (by omega)]; exact ⟨rfl, rfl⟩⟩
theorem zTRg_c {T V P : Nat → Nat} {M W : zMem} (h1 : W.1 72 = M.1 72) (h2 : W.1 73 = M.1 73) (h3 : W.1 74 = M.1 74) (h : zTRg T V P M) : zTRg T V P W := by
  unfold zTRg at *
  rw [h1, h2, h3]; exact h
theorem zTRg_e {T V P : Nat → Nat} {c0 b : Nat} {M W : zMem} (hf : zfe c0 b M W) (h : zTRg T V P M) : zTRg T V P W := zTRg_c (hf.1 72 (by omega) (by omega) (by omega) (by omega)) (hf.1 73 (by omega) (by omega) (by omega) (by omega)) (hf.1 74 (by omega) (by omega) (by omega) (by omega)) h
theorem zsR1 {M : zMem} {E : zTm} {b j : Nat} {x : Int32} (h : zsegR M b E) : zsegR (zpI M 69 j x) b E := zsegR_c (zpI_r _ _ (by omega)) (zpI_r _ _ (by omega)) _ _ h
theorem zsR2 {M : zMem} {E : zTm} {b j : Nat} {x : Int32} (h : zsegR M b E) : zsegR (zpI M 91 j x) b E := zsegR_c (zpI_r _ _ (by omega)) (zpI_r _ _ (by omega)) _ _ h
/-- the term begun, in memory -/
def zXM (b : Nat) (E : zTm) (K : List Nat) (M : zMem) : Prop := M.1 69 12 = nI (zopn K) ∧ M.1 69 36 = nI K.length ∧ zwts M K ∧ M.1 69 32 = nI (b + E.length) ∧ zsegR M b E
def zXP (T V P : Nat → Nat) (Rs : List zRl) (w : Option Nat) (k n : Nat) (L : zTm) (Cs : List zRe) (sd q : Nat) (A : zTm) (c0 b t0 : Nat) (o : (Nat × Nat) ⊕ (List zRl × Option Nat)) (M0 : zMem) (res : Option zMem) : Prop := ∃ W, res = some W ∧ zfe c0 b M0 W ∧ ((∃ g u, zFl P g u W ∧ o = .inl (g, u)) ∨ ∃ t E K, zAt T t W ∧ t0 < t ∧ W.1 69 12 = nI 0 ∧ zopn K = 0 ∧ zrnk (T t) = 0 ∧ W.1 69 32 = nI (b + (E ++ (zpop 1 K).1).length) ∧ zsegR W b (E ++ (zpop 1 K).1) ∧ b + (E ++ (zpop 1 K).1).length ≤ c0 + t ∧ zPIc 4 Rs w k n L Cs sd q A E K ∧ o = zRn T V P t (4, Rs, w, k, n, L, Cs, sd, q, A, E, K))
section RSIM2
variable {T V P : Nat → Nat} {t : Nat} {M M0 : zMem} {N : Nat} {Rs : List zRl} {w : Option Nat} {k n : Nat} {L : zTm} {Cs : List zRe} {sd q : Nat} {A E : zTm} {K : List Nat} {c0 b t0 : Nat} {o : (Nat × Nat) ⊕ (List zRl × Option Nat)}
theorem m_co {ρ : Nat} (h1 : ρ = 1 ∨ ρ = 2) (hN : 100 < N) (hK : ∀ x, x ∈ K → x = 11 ∨ x = 13 ∨ x = 14 ∨ x = 15) (hl : K.length ≤ 20) (hX : zXM b E K M) (hb : b + E.length + zops K ≤ c0 + 401) (hc0 : c0 ≤ 500) : ∃ W, fX12_comesOut N (nI (ρ - 1)) M = some W ∧ zsegR W b (E ++ (zpop ρ K).1) ∧ W.1 69 32 = nI (b + (E ++ (zpop ρ K).1).length) ∧ W.1 69 36 = nI (zpop ρ K).2.length ∧ zwts W (zpop ρ K).2 ∧ (∀ j, j ≠ 32 → j ≠ 36 → W.1 69 j = M.1 69 j) ∧ zfe c0 b M W := by
  obtain ⟨x1, x2, x3, x4, x5⟩ := hX
  obtain ⟨W, w1, w2, w3, w4, w5, w6, w7, w8⟩ := m_coL (N := N) h1 K E N M hK hl (by omega) x5 x4 (by omega) x2 x3
  exact ⟨W, w1, w2, w3, w4, zwts_c _ (fun i _ => by rw [w5 91 (by omega) (by omega) (by omega)]) (zwts_pop K x3), w6, fun a a1 a2 a3 a4 => w5 a a1 a2 a3, w8, fun j j1 j2 j3 j4 j5 j6 => w6 j j5 j6, fun i hi => w7 i (by omega)⟩
theorem f_L12 {g u f : Nat} (h : zFl P g u M) (x1 : Int32) : fX12_expression_L12 N (f + 1) x1 (nI 1) M = some M := by
  rw [fX12_expression_L12, if_neg (by decide), if_neg (f_ne h).1]
theorem f_L200 {g u f : Nat} {k12 : Int32 → Int32 → zMem → Option zMem} (hN : 100 < N) (h : zFl P g u M) (hK : ∀ x, x ∈ K → x = 11 ∨ x = 13 ∨ x = 14 ∨ x = 15) (hl : K.length ≤ 20) (hX : zXM b E K M) (hb : b + E.length + zops K ≤ c0 + 401) (hc0 : c0 ≤ 500) : ∃ W, fX12_expression_L200 N k12 (f + 1) (nI 0) M = some W ∧ zFl P g u W ∧ zfe c0 b M W := by
  obtain ⟨W, w1, w2, w3, w4, w5, w6, w7⟩ := m_co (N := N) (ρ := 1) (Or.inl rfl) hN hK hl hX hb hc0
  have hW : zFl P g u W := by
    obtain ⟨h1, h2, h3, s, h4, h5⟩ := h
    exact ⟨by rw [w6 13 (by omega) (by omega)]; exact h1, h2, by rw [w6 14 (by omega) (by omega)]; exact h3, s, h4, by rw [w6 11 (by omega) (by omega)]; exact h5⟩
  refine ⟨W, ?_, hW, w7⟩
  rw [fX12_expression_L200, f_is h, zb2_some, if_pos rfl]
  unfold fX12_expression_L249 fX12_expression_L281 fX12_expression_L299
  rw [f_is h, zb2_some, if_pos rfl, f_is h, zb2_some, if_pos rfl, f_is h, zb2_some, if_pos rfl, if_pos rfl, f_fail h, zbd_some, show (0 : Int32) = nI (1 - 1) from rfl, w1, zbd_some, ite_self]
/-- next, at the last token or before -/
theorem m_q3 (hc0 : c0 ≤ 500) (hN : 100 < N) (hT : zTRg T V P M) (hV : zVal T V P) {f : Nat} (h : zAt T t M) (hPI : zPIc 3 Rs w k n L Cs sd q A E K) (hX : zXM b E K M) (hb : b + E.length + zops K ≤ c0 + t) (ho : zRn T V P t (3, Rs, w, k, n, L, Cs, sd, q, A, E, K) = o) (hfe : zfe c0 b M0 M) (ht0 : t0 ≤ t)
    (hn3 : ∀ (E' : zTm) (K' : List Nat) (X : zMem), t < 400 → zAt T (t + 1) X → zPIc 3 Rs w k n L Cs sd q A E' K' → zXM b E' K' X → b + E'.length + zops K' ≤ c0 + (t + 1) → zRn T V P (t + 1) (3, Rs, w, k, n, L, Cs, sd, q, A, E', K') = o → zfe c0 b M0 X → zXP T V P Rs w k n L Cs sd q A c0 b t0 o M0 (fX12_expression_L12 N (f + 1) (nI 0) (nI 1) X))
    (hn4 : ∀ (E' : zTm) (K' : List Nat) (X : zMem), t < 400 → zAt T (t + 1) X → zPIc 4 Rs w k n L Cs sd q A E' K' → zXM b E' K' X → b + E'.length + zops K' ≤ c0 + (t + 1) → zRn T V P (t + 1) (4, Rs, w, k, n, L, Cs, sd, q, A, E', K') = o → zfe c0 b M0 X → zXP T V P Rs w k n L Cs sd q A c0 b t0 o M0 (fX12_expression_L200 N (fX12_expression_L12 N (f + 1)) N (nI 0) X)) : zXP T V P Rs w k n L Cs sd q A c0 b t0 o M0 (fX12_expression_L12 N (f + 2) (nI 0) (nI 1) M) := by
  obtain ⟨p1, p2, p3, p4, p5, p6, p7, p8, p9, p10, p11, p12, ⟨ρ, p13⟩, p14, p15, p16, p17⟩ := id hPI
  obtain ⟨k1, k2, k3, k4, k5⟩ := zwk_f K _ _ p13
  clear p1 p2 p3 p4 p5 p6 p7 p8 p9 p10 p11 p12 p15 p16 p17
  obtain ⟨v1, v2, v3, v4⟩ := hV t
  obtain ⟨x1, x2, x3, x4, x5⟩ := id hX
  obtain ⟨a1, a2, a3, a4⟩ := id h
  obtain ⟨c, c1, c2, c3, c4⟩ := hT t a2 a3
  have hs : ∀ (z : Nat ⊕ zSta), zstp 3 Rs w k n L Cs sd q A E K (T t) (V t) (P t) = z → zstS (3, Rs, w, k, n, L, Cs, sd, q, A, E, K) (T t) (V t) (P t) = z := fun z hz => hz
  have hne : ¬ (T t = 0 ∧ ((3, Rs, w, k, n, L, Cs, sd, q, A, E, K) : zSta).1 = 0) := fun z => absurd z.2 (show ¬ (3 : Nat) = 0 by omega)
  have bad : ∀ g, (g = 1 ∨ g = 2) → zstp 3 Rs w k n L Cs sd q A E K (T t) (V t) (P t) = .inl g → zXP T V P Rs w k n L Cs sd q A c0 b t0 o M0 (some (zpI (zpI M 69 13 (nI g)) 69 14 (nI (P t)))) := fun g hg hz =>
    ⟨_, rfl, zfe_tr hfe (zfe_tr (zfe_1 c0 b M _ (by omega)) (zfe_1 c0 b _ _ (by omega))), Or.inl ⟨g, t, m_flt h hg, by rw [← ho]; exact zRn_bad a2 hne (hs _ hz)⟩⟩
  rw [fX12_expression_L12, if_neg (show ¬ nI 1 = 0 by decide), if_pos (show M.1 69 13 = 0 from a4), show (6 : Int32) = nI (zck 11 0) from rfl, m_is hT hV h 11 (by omega) (by omega) (by omega), zb2_some]
  by_cases c11 : T t = 11
  · rw [if_pos c11, if_neg (show ¬ nI 1 = 0 by decide), x1, show nI (zck 11 0) = nI 6 from rfl, zif_eq (by omega) (by omega)]
    have hz : zstp 3 Rs w k n L Cs sd q A E K (T t) (V t) (P t) = if zopn K = 6 then .inl 2 else .inr (3, Rs, w, k, n, L, Cs, sd, q, A, E, 11 :: K) := by
      unfold zstp
      rw [if_neg (show ¬ (3 : Nat) = 0 by omega), if_neg (show ¬ (3 : Nat) = 1 by omega), if_neg (show ¬ (3 : Nat) = 2 by omega), if_pos (show (3 : Nat) = 3 from rfl), if_neg (show ¬ (T t = 2 ∨ T t = 3) by omega), if_pos c11]
    unfold fX12_expression_L46
    by_cases o6 : zopn K = 6
    · rw [if_pos o6] at hz
      rw [if_pos o6, show (2 : Int32) = nI 2 from rfl, m_fail hT h 2, zbd_some, if_neg (show ¬ (zpI (zpI M 69 13 (nI 2)) 69 14 (nI (P t))).1 69 13 ≤ 0 from by show ¬ nI 2 ≤ 0; decide)]
      exact bad 2 (Or.inr rfl) hz
    · rw [if_neg o6] at hz
      have hPn : zPIc 3 Rs w k n L Cs sd q A E (11 :: K) := zPI_step hPI v2 v3 v4 hz
      rw [if_neg o6, if_pos (show M.1 69 13 ≤ 0 from by rw [a4]; decide), zlet_eq, x1, nI_1]
      have hA : zAt T t (zpI M 69 12 (nI (zopn K + 1))) := m_at_c h rfl rfl
      have hTA : zTRg T V P (zpI M 69 12 (nI (zopn K + 1))) := zTRg_e (zfe_1 c0 b M _ (by omega)) hT
      have hfA : zfe c0 b M0 (zpI M 69 12 (nI (zopn K + 1))) := zfe_tr hfe (zfe_1 c0 b M _ (by omega))
      by_cases t4 : t < 400
      · rw [m_next hA t4, zbd_some, show (zpI (zpI M 69 12 (nI (zopn K + 1))) 69 11 (nI (t + 1))).1 69 36 = M.1 69 36 from rfl, x2, z_stI (by omega) (by omega), zbd_some, zlet_eq, show (zpI (zpI (zpI M 69 12 (nI (zopn K + 1))) 69 11 (nI (t + 1))) 91 K.length 6).1 69 36 = M.1 69 36 from rfl, x2, nI_1]
        refine hn3 E (11 :: K) _ t4 (m_at1 h t4 (by omega) rfl rfl) hPn ⟨?_, rfl, ⟨?_, zwts_c (M := M) K (fun i hi => ?_) x3⟩, x4, ?_⟩ ?_ ?_ ?_
        · rw [zopn, if_pos rfl]; rfl
        · rw [zpI_r _ _ (by omega), zpI_1, if_pos ⟨rfl, rfl⟩]; rfl
        · rw [zpI_r _ _ (by omega), zpI_1, if_neg (by omega), zpI_r _ _ (by omega), zpI_r _ _ (by omega)]
        · exact zsR1 (zsR2 (zsR1 (zsR1 x5)))
        · rw [zops, if_pos rfl]; omega
        · rw [← ho]; exact (zRn_go t4 hne (hs _ hz)).symm
        · exact zfe_tr hfA (zfe_tr (zfe_1 c0 b _ _ (by omega)) (zfe_tr (zfe_w c0 b _ _ _) (zfe_1 c0 b _ _ (by omega))))
      · rw [m_next4 hTA hA (by omega), zbd_some, show (zpI (zpI (zpI M 69 12 (nI (zopn K + 1))) 69 13 (nI 2)) 69 14 (nI (P t))).1 69 36 = M.1 69 36 from rfl, x2, z_stI (by omega) (by omega), zbd_some, zlet_eq, show (zpI (zpI (zpI (zpI M 69 12 (nI (zopn K + 1))) 69 13 (nI 2)) 69 14 (nI (P t))) 91 K.length 6).1 69 36 = M.1 69 36 from rfl, x2, nI_1]
        have hF : zFl P 2 t (zpI (zpI (zpI (zpI (zpI M 69 12 (nI (zopn K + 1))) 69 13 (nI 2)) 69 14 (nI (P t))) 91 K.length 6) 69 36 (nI (K.length + 1))) := ⟨rfl, Or.inr rfl, rfl, t, a2, a1⟩
        rw [f_L12 hF]
        refine ⟨_, rfl, zfe_tr hfA (zfe_tr (zfe_1 c0 b _ _ (by omega)) (zfe_tr (zfe_1 c0 b _ _ (by omega)) (zfe_tr (zfe_w c0 b _ _ _) (zfe_1 c0 b _ _ (by omega))))), Or.inl ⟨2, t, hF, ?_⟩⟩
        rw [← ho]; exact zRn_room (by omega) hne (hs _ hz)
  · rw [if_neg c11, if_pos (show nI 0 = 0 from rfl), if_pos (show M.1 69 13 = 0 from a4), a1, z_ldI (by omega) (by omega), zbd_some, c1, zbd_some, show (26 : Int32) = nI 26 from rfl, show (31 : Int32) = nI 31 from rfl]
    have hc := zcv_32 c2 v1 v3
    rw [zif_lt (by omega) (by omega), zif_lt (by omega) (by omega)]
    -- an operand
    have operand : (T t = 2 ∨ T t = 3) → ∀ cd, zrk (T t) = cd → zXP T V P Rs w k n L Cs sd q A c0 b t0 o M0 ((fX12_emit (nI cd) (nI (V t)) M).bind fun M22 => fX12_expression_L196 N (fX12_expression_L12 N (f + 1)) (nI 0) M22) := by
      intro c23 cd hcd
      have hz : zstp 3 Rs w k n L Cs sd q A E K (T t) (V t) (P t) = .inr (4, Rs, w, k, n, L, Cs, sd, q, A, E ++ [(T t, V t)], K) := by
        unfold zstp
        rw [if_neg (show ¬ (3 : Nat) = 0 by omega), if_neg (show ¬ (3 : Nat) = 1 by omega), if_neg (show ¬ (3 : Nat) = 2 by omega), if_pos (show (3 : Nat) = 3 from rfl), if_pos c23]
      have hPn : zPIc 4 Rs w k n L Cs sd q A (E ++ [(T t, V t)]) K := zPI_step hPI v2 v3 v4 hz
      obtain ⟨X, e1, e2, e3, e4, e5, e6, e7⟩ := m_emit (v := V t) hcd x5 x4 (by omega)
      have hfX : zfe c0 b M0 X := zfe_tr hfe ⟨fun a a1 a2 a3 a4 => e4 a a1 a2 a3, e7, fun j j1 j2 j3 j4 j5 j6 => e5 j j5, fun i hi => e6 i (by omega)⟩
      have hA : zAt T t X := m_at_c h (e5 11 (by omega)) (e5 13 (by omega))
      have hTX : zTRg T V P X := zTRg_c (e4 72 (by omega) (by omega) (by omega)) (e4 73 (by omega) (by omega) (by omega)) (e4 74 (by omega) (by omega) (by omega)) hT
      have hXX : zXM b (E ++ [(T t, V t)]) K X := ⟨by rw [e5 12 (by omega)]; exact x1, by rw [e5 36 (by omega)]; exact x2, zwts_c (M := M) K (fun i hi => by rw [e4 91 (by omega) (by omega) (by omega)]) x3, e3, e2⟩
      have hlen : (E ++ [(T t, V t)]).length = E.length + 1 := by rw [List.length_append]; rfl
      unfold fX12_expression_L196
      rw [e1, zbd_some]
      obtain ⟨y1, y2, y3, y4, y5⟩ := hXX
      by_cases t4 : t < 400
      · rw [m_next hA t4, zbd_some]
        refine hn4 _ K _ t4 (m_at1 hA t4 (by omega) rfl rfl) hPn ⟨y1, y2, zwts_c (M := X) K (fun i hi => by rw [zpI_r _ _ (by omega)]) y3, y4, zsR1 y5⟩ (by rw [hlen]; omega) ?_ (zfe_tr hfX (zfe_1 c0 b _ _ (by omega)))
        rw [← ho]; exact (zRn_go t4 hne (hs _ hz)).symm
      · rw [m_next4 hTX hA (by omega), zbd_some]
        have hF : zFl P 2 t (zpI (zpI X 69 13 (nI 2)) 69 14 (nI (P t))) := m_flt hA (Or.inr rfl)
        obtain ⟨m, rfl⟩ : ∃ m, N = m + 1 := ⟨N - 1, by omega⟩
        obtain ⟨W, w1, w2, w3⟩ := f_L200 (N := m + 1) (f := m) (k12 := fX12_expression_L12 (m + 1) (f + 1)) (b := b) (E := E ++ [(T t, V t)]) (K := K) hN hF k5 (by omega) ⟨y1, y2, zwts_c (M := X) K (fun i hi => by rw [zpI_r _ _ (by omega), zpI_r _ _ (by omega)]) y3, y4, zsR1 (zsR1 y5)⟩ (by rw [hlen]; omega) hc0
        rw [w1]
        refine ⟨W, rfl, zfe_tr hfX (zfe_tr (zfe_tr (zfe_1 c0 b _ _ (by omega)) (zfe_1 c0 b _ _ (by omega))) w3), Or.inl ⟨2, t, w2, ?_⟩⟩
        rw [← ho]; exact zRn_room (by omega) hne (hs _ hz)
    by_cases t3 : T t = 3
    · have hc3 : c = 26 + V t := by
        rw [c2.1 (by omega), t3]; rfl
      have hv6 := v3 t3
      rw [if_neg (by omega), if_neg (by omega)]
      unfold fX12_expression_L132 fX12_expression_L150
      rw [show (2 : Int32) = nI (zck 2 0) from rfl, m_is hT hV h 2 (by omega) (by omega) (by omega), zb2_some, if_neg (show ¬ T t = 2 by omega), if_pos (show nI 0 = 0 from rfl), if_neg (show ¬ (1 : Int32) = 0 by decide), if_pos (show M.1 69 13 ≤ 0 from by rw [a4]; decide), if_neg (show ¬ (1 : Int32) = 0 by decide), a1, z_ldI (by omega) (by omega), zbd_some, c1, hc3, show (26 : Int32) = nI 26 from rfl, pk_sub (by omega), Nat.add_sub_cancel_left, show (1 : Int32) = nI 1 from rfl]
      exact operand (Or.inr t3) 1 (by rw [t3]; rfl)
    · have hc26 : c < 26 := by
        by_cases t1 : T t = 1
        · rcases c2.2 t1 with z | z <;> omega
        · rw [c2.1 t1, zck_v t3]
          have : ∀ τ, τ < 20 → τ = 3 ∨ zck τ 0 < 26 := by decide
          rcases this (T t) (by omega) with z | z
          · exact absurd z t3
          · exact z
      rw [if_pos hc26]
      unfold fX12_expression_L131 fX12_expression_L132
      rw [show (2 : Int32) = nI (zck 2 0) from rfl, m_is hT hV h 2 (by omega) (by omega) (by omega), zb2_some]
      by_cases t2 : T t = 2
      · rw [if_pos t2, if_neg (show ¬ nI 1 = 0 by decide)]
        unfold fX12_expression_L150
        rw [if_pos (show M.1 69 13 ≤ 0 from by rw [a4]; decide), if_pos rfl, a1, z_ldI (by omega) (by omega), zbd_some, c4 t2, show (0 : Int32) = nI 0 from rfl]
        exact operand (Or.inl t2) 0 (by rw [t2]; rfl)
      · have hz : zstp 3 Rs w k n L Cs sd q A E K (T t) (V t) (P t) = .inl 1 := by
          unfold zstp
          rw [if_neg (show ¬ (3 : Nat) = 0 by omega), if_neg (show ¬ (3 : Nat) = 1 by omega), if_neg (show ¬ (3 : Nat) = 2 by omega), if_pos (show (3 : Nat) = 3 from rfl), if_neg (show ¬ (T t = 2 ∨ T t = 3) by omega), if_neg c11]
        unfold fX12_expression_L150
        rw [if_neg t2, if_pos (show nI 0 = 0 from rfl), if_pos rfl, show (1 : Int32) = nI 1 from rfl, m_fail hT h 1, zbd_some, if_neg (show ¬ (zpI (zpI M 69 13 (nI 1)) 69 14 (nI (P t))).1 69 13 ≤ 0 from by show ¬ nI 1 ≤ 0; decide)]
        exact bad 1 (Or.inl rfl) hz
end RSIM2
