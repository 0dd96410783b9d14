/-! READ: the class's loop over the tokens -/
def zw5 (w : Option Nat) : Int32 := w.elim 0 (fun _ => 5)
def zRdP (r : Nat) (M0 : zMem) (P : Nat → Nat) (z : (Nat × Nat) ⊕ (List zRl × Option Nat)) (o : Option (Int32 × zMem)) : Prop := ∃ res W, o = some (res, W) ∧ zfrc r M0 W ∧ ((∃ g u, z = .inl (g, u) ∧ (g = 1 ∨ g = 2) ∧ res = nI g ∧ W.1 19 9 = nI (P u)) ∨ ∃ Rs w, z = .inr (Rs, w) ∧ res = zw5 w ∧ W.1 19 9 = zwp w ∧ W.1 r 7 = nI Rs.length ∧ ∃ cs, cs ≤ 400 ∧ W.1 r 8 = nI cs ∧ ∀ j, j < Rs.length → zruC W r cs j (Rs.getD j (0, 0, [], [])))
section CSIM6
variable {r : Nat} {M0 M W : zMem} {N t : Nat} {Rs : List zRl} {w : Option Nat} {k n : Nat} {L : zTm} {Cs : List zRe} {sd q : Nat} {A E : zTm} {K : List Nat} {c v p : Nat} {x : Int32} {B : Nat → Nat} {tl : Nat}
theorem zCRc_c {st : Nat} (hr : r = 3 ∨ r = 11) (h1 : ∀ b, b ≠ 20 → W.1 b = M.1 b) (h2 : W.2 = M.2) (h : zCRc r M0 t st Rs w k n L Cs sd q A E K M) : zCRc r M0 t st Rs w k n L Cs sd q A E K W := by
  obtain ⟨u1, u2, u3, u4, u5, u6, u7, u8, u9, u10, u11, a, u12, u13, u14⟩ := h
  exact ⟨by rw [h2]; exact u1, zfrc_c (M := M) (fun b b1 b2 b3 b4 => h1 b b2) h2 u2, by rw [h1 19 (by omega)]; exact u3, by rw [h1 19 (by omega)]; exact u4, by rw [h1 19 (by omega)]; exact u5, zstkk_c K (fun i _ => by rw [h1 21 (by omega)]) u6, by rw [h1 19 (by omega)]; exact u7, fun z => by rw [h1 19 (by omega)]; exact u8 z, fun z => by rw [h1 19 (by omega)]; exact u9 z, fun z => by rw [h1 19 (by omega)]; exact u10 z, by rw [h1 r (by omega)]; exact u11, a, zRT_c (fun b j b1 b2 hj => by rw [h1 _ (by omega)]) (h1 _ (by omega)) (by rw [h1 r (by omega)]) u12, fun z => by
    rw [h1 (r + 1) (by omega), h1 (r + 2) (by omega), h1 (r + 3) (by omega), h1 (r + 4) (by omega)]
    exact u13 z, u14⟩
theorem zbyte_f (hr : r = 3 ∨ r = 11) (hf : zfrc r M0 M) (h : zbyte B tl M0) : zbyte B tl M := zbyte_c h (hf.1 1 (by omega) (by omega) (by omega) (by omega)) (hf.1 2 (by omega) (by omega) (by omega) (by omega))
theorem ztok_all (hB : ∀ i, tl ≤ i → B i = 256) (ht : tl ≤ 2000) (u : Nat) : ztkd B tl u ≤ 19 ∧ (ztkd B tl u = 2 → ztvl B tl u < 10000) ∧ (ztkd B tl u = 3 → ztvl B tl u < 6) ∧ zts B tl u ≤ 2000 := by
  have h1 := (ztokS_le (B := B) _ (ztpo_le hB u)).2
  obtain ⟨k1, k2, k3, k4, k5, k6⟩ := ztokA_k hB h1
  refine ⟨k4, k5, k6, ?_⟩
  unfold zts
  omega
/-- a fault ends the loop -/
theorem p_flt (hr : r = 3 ∨ r = 11) (ht : t ≤ 400) {g f : Nat} (hg : g = 1 ∨ g = 2) (hf : zfrc r M0 W) : fX5_readRules_L13 N (f + 1) (nI g) 0 (nI (t + 2)) W = some (nI g, zpI W 19 9 (W.1 20 1)) ∧ zfrc r M0 (zpI W 19 9 (W.1 20 1)) := by
  have hg0 : ¬ nI g = 0 := nI_ne0 (by omega) (by omega)
  refine ⟨?_, zfrc_c (M := W) (fun b b1 b2 b3 b4 => zpI_r _ _ b1) rfl hf⟩
  rw [fX5_readRules_L13, show (2001 : Int32) = nI 2001 from rfl, zif_lt (by omega) (by omega), if_neg (by omega), if_neg hg0]
  unfold fX5_readRules_L106 fX10_start
  rw [if_neg hg0, zb2_some, zlet_eq]
/-- the text ends between rules -/
theorem p_fin (hr : r = 3 ∨ r = 11) (h : zCRc r M0 t 0 Rs w k n [] [] 0 q [] [] [] M) (ht : t ≤ 400) (hw : ∀ y, w = some y → y ≤ 2000) : ∃ res W, fX5_readRules_L106 N 0 M = some (res, W) ∧ zfrc r M0 W ∧ res = zw5 w ∧ W.1 19 9 = zwp w ∧ W.1 r 7 = nI Rs.length ∧ ∃ cs, cs ≤ 400 ∧ W.1 r 8 = nI cs ∧ ∀ j, j < Rs.length → zruC W r cs j (Rs.getD j (0, 0, [], [])) := by
  obtain ⟨u1, u2, u3, u4, u5, u6, u7, u8, u9, u10, u11, a, u12, u13, u14⟩ := h
  rw [if_pos rfl, Nat.add_zero] at u11
  simp only [zcond, List.append_nil, List.length_nil, Nat.add_zero] at u12 u14
  have ha : a ≤ 400 := by omega
  have hr9 : ∀ b, b ≤ 6 → r + b ≠ 19 := by omega
  clear u14 u13
  unfold fX5_readRules_L106
  rw [if_pos rfl, zlet_eq, show (zpI M 19 9 (M.1 19 8)).1 19 8 = M.1 19 8 from rfl, u4]
  have fW : zfrc r M0 (zpI M 19 9 (zwp w)) := zfrc_c (M := M) (fun b b1 b2 b3 b4 => zpI_r _ _ b1) rfl u2
  have fin : (zpI M 19 9 (zwp w)).1 19 9 = zwp w ∧ (zpI M 19 9 (zwp w)).1 r 7 = nI Rs.length ∧ ∃ cs, cs ≤ 400 ∧ (zpI M 19 9 (zwp w)).1 r 8 = nI cs ∧ ∀ j, j < Rs.length → zruC (zpI M 19 9 (zwp w)) r cs j (Rs.getD j (0, 0, [], [])) := by
    refine ⟨by rw [zpI_1, if_pos ⟨rfl, rfl⟩], by rw [zpI_r _ _ (show r ≠ 19 from hr9 0 (by omega))]; exact u11, a, ha, by rw [zpI_r _ _ (show r ≠ 19 from hr9 0 (by omega))]; exact u12.2.2, fun j hj => zruC_c (M := M) (fun b b1 b2 => by rw [zpI_r _ _ (hr9 b (by omega))]) (fun i _ => by rw [zpI_r _ _ (hr9 6 (by omega))]) (Nat.le_refl a) (u12.1 j hj)⟩
  cases w with
  | none =>
    rw [if_pos (show zwp none = -1 from rfl)]
    exact ⟨_, _, rfl, fW, rfl, fin⟩
  | some y =>
    have hy := hw y rfl
    rw [if_neg (show ¬ zwp (some y) = -1 by show ¬ nI y = -1; rw [z_m1 (by omega)]; exact not_false)]
    exact ⟨_, _, rfl, fW, rfl, fin⟩
theorem p_readS (hr : r = 3 ∨ r = 11) (hN : 2500 < N) (hB : zbyte B tl M0) {f : Nat} {S : zSta} (ht : t ≤ 400) (hC : zCRS r M0 t S M) (hPI : zPI S) (h20 : M.1 20 0 = nI (ztpo B tl t)) (hnext : ∀ (Sn : zSta) (X : zMem), t < 400 → zCRS r M0 (t + 1) Sn X → zPI Sn → X.1 20 0 = nI (ztpo B tl (t + 1)) → zRdP r M0 (zts B tl) (zRn (ztkd B tl) (ztvl B tl) (zts B tl) (t + 1) Sn) (fX5_readRules_L13 N (f + 1) 0 0 (nI (t + 2)) X)) : zRdP r M0 (zts B tl) (zRn (ztkd B tl) (ztvl B tl) (zts B tl) t S) (fX5_readRules_L13 N (f + 2) 0 0 (nI (t + 1)) M) := by
  obtain ⟨st, Rs, w, k, n, L, Cs, sd, q, A, E, K⟩ := S
  change zCRc r M0 t st Rs w k n L Cs sd q A E K M at hC
  change zPIc st Rs w k n L Cs sd q A E K at hPI
  have hbM := zbyte_f hr hC.2.1 hB
  obtain ⟨k1, k2, k3, k4⟩ := ztok_all (B := B) hB.2.2.2 hB.1 t
  obtain ⟨W0, w1, w2, w3, w4, w5, w6, w7⟩ := p_scan hbM h20 (ztpo_le hB.2.2.2 t) (by omega : 2000 < N)
  have w4' : W0.1 20 0 = nI (ztpo B tl (t + 1)) := w4
  have w5' : W0.1 20 1 = nI (zts B tl t) := w5
  have w6' : W0.1 20 2 = nI (ztkd B tl t) := w6
  have w7' : ztkd B tl t = 2 ∨ ztkd B tl t = 3 → W0.1 20 3 = nI (ztvl B tl t) := w7
  have hC0 : zCRc r M0 t st Rs w k n L Cs sd q A E K W0 := zCRc_c hr w3 w2 hC
  have h4 : W0.1 19 4 = nI st := hC0.2.2.1
  have hS4 : st ≤ 4 := hPI.1
  have htake : ¬ (ztkd B tl t = 0 ∧ st = 0) → zRdP r M0 (zts B tl) (zRn (ztkd B tl) (ztvl B tl) (zts B tl) t (st, Rs, w, k, n, L, Cs, sd, q, A, E, K)) (fX5_readRules_L59 N (fX5_readRules_L13 N (f + 1)) 0 (nI (t + 1)) W0) := by
    intro hne
    unfold fX5_readRules_L59 fX5_readRules_L60 fX10_kind fX10_value
    rw [if_pos rfl, zb2_some, zb2_some, w6']
    have hT := p_take (N := N) (x := W0.1 20 3) hr (by omega) hC0 hPI ht k1 w7' k2 k3 w5' k4
    rcases hT with ⟨g, X, x1, x2, x3, x4, x5⟩ | ⟨Sn, X, x1, x2, x3, x4⟩
    · have hz : zRn (ztkd B tl) (ztvl B tl) (zts B tl) t (st, Rs, w, k, n, L, Cs, sd, q, A, E, K) = .inl (g, t) := zRn_bad ht hne x1
      unfold fX5_readRules_L100
      rw [x2, zb2_some, if_neg (nI_ne0 (by omega) (by omega)), zlet_eq, nI_1]
      obtain ⟨y1, y2⟩ := p_flt (N := N) (f := f) hr ht x3 x4
      rw [y1]
      refine ⟨_, _, rfl, y2, Or.inl ⟨g, t, hz, x3, rfl, ?_⟩⟩
      rw [zpI_1, if_pos ⟨rfl, rfl⟩, x5]; exact w5'
    · have hPn : zPI Sn := zPI_step hPI k2 k3 k4 x1
      have hzg : t < 400 → zRn (ztkd B tl) (ztvl B tl) (zts B tl) t (st, Rs, w, k, n, L, Cs, sd, q, A, E, K) = zRn (ztkd B tl) (ztvl B tl) (zts B tl) (t + 1) Sn := fun t4 => zRn_go t4 hne x1
      have hzr : t = 400 → zRn (ztkd B tl) (ztvl B tl) (zts B tl) t (st, Rs, w, k, n, L, Cs, sd, q, A, E, K) = .inl (2, t) := fun t4 => zRn_room t4 hne x1
      unfold fX5_readRules_L100
      rw [x2, zb2_some, if_pos rfl, show (400 : Int32) = nI 400 from rfl, zif_le (by omega) (by omega)]
      by_cases t4 : t < 400
      · rw [if_pos (by omega), zlet_eq, nI_1, hzg t4]
        exact hnext Sn X t4 x3 hPn (by rw [x4]; exact w4')
      · rw [if_neg (by omega), zlet_eq, nI_1, show (2 : Int32) = nI 2 from rfl, hzr (by omega)]
        obtain ⟨y1, y2⟩ := p_flt (N := N) (f := f) (t := t) (g := 2) hr ht (Or.inr rfl) x3.2.1
        rw [y1]
        refine ⟨_, _, rfl, y2, Or.inl ⟨2, t, rfl, Or.inr rfl, rfl, ?_⟩⟩
        rw [zpI_1, if_pos ⟨rfl, rfl⟩, x4]; exact w5'
  rw [fX5_readRules_L13, show (2001 : Int32) = nI 2001 from rfl, zif_lt (by omega) (by omega), if_neg (by omega), if_pos rfl, if_pos rfl, w1, zbd_some]
  unfold fX10_kind
  rw [zb2_some, w6', h4]
  by_cases z0 : ztkd B tl t = 0
  · rw [if_pos (by rw [z0]; rfl)]
    by_cases s0 : st = 0
    · rw [if_pos (by rw [s0]; rfl), zRn_end ht z0 s0]
      unfold fX5_readRules_L60 fX5_readRules_L100
      rw [if_neg (by decide), zlet_eq, nI_1, fX5_readRules_L13, show (2001 : Int32) = nI 2001 from rfl, zif_lt (by omega) (by omega), if_neg (by omega), if_pos rfl, if_neg (by decide)]
      subst s0
      obtain ⟨e1, e2, e3, e4, e5, e6⟩ := hPI.2.2.2.2.1 (by decide)
      subst e1 e2 e3 e4 e5 e6
      obtain ⟨res, X, x1, x2, x3⟩ := p_fin (N := N) hr hC0 ht hPI.2.2.2.2.2.2.2.2.2.2.2.2.2.2.2.2
      rw [x1]
      exact ⟨res, X, rfl, x2, Or.inr ⟨Rs, w, rfl, x3⟩⟩
    · rw [if_neg (nI_ne0 (by omega) (by omega))]
      exact htake (fun z => s0 z.2)
  · rw [if_neg (nI_ne0 (by omega) (by omega))]
    exact htake (fun z => z0 z.1)
theorem p_readL (hr : r = 3 ∨ r = 11) (hN : 2500 < N) (hB : zbyte B tl M0) : ∀ d t f (S : zSta) (M : zMem), t + d = 400 → d < f → zCRS r M0 t S M → zPI S → M.1 20 0 = nI (ztpo B tl t) → zRdP r M0 (zts B tl) (zRn (ztkd B tl) (ztvl B tl) (zts B tl) t S) (fX5_readRules_L13 N (f + 1) 0 0 (nI (t + 1)) M)
  | 0, t, f + 1, S, M, hd, hf, hC, hP, h0 => p_readS hr hN hB (by omega) hC hP h0 (fun Sn X z _ _ _ => absurd z (by omega))
  | d + 1, t, f + 1, S, M, hd, hf, hC, hP, h0 => p_readS hr hN hB (by omega) hC hP h0 (fun Sn X z h1 h2 h3 => p_readL hr hN hB d (t + 1) f Sn X (by omega) (by omega) h1 h2 h3)
theorem p_readRules (hr : r = 3 ∨ r = 11) (hN : 2500 < N) (hB : zbyte B tl M) : zRdP r M (zts B tl) (zRn (ztkd B tl) (ztvl B tl) (zts B tl) 0 (0, [], none, 0, 0, [], [], 0, 0, [], [], [])) (fX5_readRules N r M) := by
  unfold fX5_readRules fX5_prepare fX6_clear fX10_restart
  simp only [zlet_eq, zbd_some]
  rw [show (zpR M 19 10 r).2.2 19 10 = r from by rw [zpR_3, if_pos ⟨rfl, rfl⟩], zdy_r hr, zbd_some]
  obtain ⟨m, rfl⟩ : ∃ m, N = m + 1 := ⟨N - 1, by omega⟩
  refine p_readL hr hN hB 400 0 m _ _ (by omega) (by omega) ?_ ?_ ?_
  · show zCRc r M 0 0 [] none 0 0 [] [] 0 0 [] [] [] _
    refine ⟨?_, ⟨fun b b1 b2 b3 b4 => ?_, rfl, fun b j hb => ?_⟩, rfl, rfl, rfl, trivial, rfl, fun z => absurd rfl z, fun z => absurd z (by omega), fun z => absurd z (by omega), ?_, 0, ⟨fun j hj => absurd hj (Nat.not_lt_zero j), trivial, ?_⟩, fun z => absurd rfl z, by decide⟩
    · show (if (19 : Nat) = 19 ∧ (10 : Nat) = 10 then r else M.2.2 19 10) = r
      rw [if_pos ⟨rfl, rfl⟩]
    · rw [zpI_r _ _ b1, zpI_r _ _ b1, zpI_r _ _ b1, zpI_r _ _ b1, zpI_r _ _ b1, zpI_r _ _ b1, zpI_r _ _ b1, zpI_r _ _ b2, zpI_r _ _ (by omega), zpI_r _ _ (by omega), zpR_1]
    · show (if b = 19 ∧ j = 10 then r else M.2.2 b j) = _
      rw [if_neg hb]
    · rw [zpI_r _ _ (by omega), zpI_r _ _ (by omega), zpI_r _ _ (by omega), zpI_r _ _ (by omega), zpI_r _ _ (by omega), zpI_r _ _ (by omega), zpI_r _ _ (by omega), zpI_r _ _ (by omega), zpI_1, if_neg (by omega), zpI_1, if_pos ⟨rfl, rfl⟩]
      rfl
    · rw [zpI_r _ _ (by omega), zpI_r _ _ (by omega), zpI_r _ _ (by omega), zpI_r _ _ (by omega), zpI_r _ _ (by omega), zpI_r _ _ (by omega), zpI_r _ _ (by omega), zpI_r _ _ (by omega), zpI_1, if_pos ⟨rfl, rfl⟩]
      rfl
  · show zPIc 0 [] none 0 0 [] [] 0 0 [] [] []
    exact ⟨by omega, by omega, by decide, fun z => absurd rfl z, fun _ => ⟨rfl, rfl, rfl, rfl, rfl, rfl⟩, fun z => absurd z (by omega), fun _ => ⟨rfl, rfl⟩, fun _ => rfl, fun z => absurd z (by omega), fun z => absurd z (by omega), fun x hx => absurd hx (List.not_mem_nil), fun x hx => absurd hx (List.not_mem_nil), ⟨0, rfl⟩, by decide, rfl, fun x hx => absurd hx (List.not_mem_nil), fun p z => by cases z⟩
  · rfl
end CSIM6
