/-! READ: a token is taken, the class: where a rule begins -/
def zfrc (r : Nat) (M0 M : zMem) : Prop := (∀ b, b ≠ 19 → b ≠ 20 → b ≠ 21 → (b < r ∨ r + 7 ≤ b) → M.1 b = M0.1 b) ∧ M.2.1 = M0.2.1 ∧ ∀ b j, ¬ (b = 19 ∧ j = 10) → M.2.2 b j = M0.2.2 b j
theorem zfrc_c {r : Nat} {M0 M W : zMem} (h1 : ∀ b, b ≠ 19 → b ≠ 20 → b ≠ 21 → (b < r ∨ r + 7 ≤ b) → W.1 b = M.1 b) (h2 : W.2 = M.2) (h : zfrc r M0 M) : zfrc r M0 W :=
  ⟨fun b b1 b2 b3 b4 => (h1 b b1 b2 b3 b4).trans (h.1 b b1 b2 b3 b4), by rw [h2]; exact h.2.1, fun b j hb => by rw [h2]; exact h.2.2 b j hb⟩
def zjn (Cs : List zRe) : Nat := if Cs.length = 0 then 0 else 1
def zCRc (r : Nat) (M0 : zMem) (t st : Nat) (Rs : List zRl) (w : Option Nat) (k n : Nat) (L : zTm) (Cs : List zRe) (sd q : Nat) (A E : zTm) (K : List Nat) (M : zMem) : Prop :=
  M.2.2 19 10 = r ∧ zfrc r M0 M ∧ M.1 19 4 = nI st ∧ M.1 19 8 = zwp w ∧ M.1 19 2 = nI K.length ∧ zstkk M K ∧ M.1 19 3 = nI (zopn K) ∧ (st ≠ 0 → M.1 19 5 = nI sd) ∧ (sd = 2 → M.1 19 6 = nI q) ∧ (0 < sd → M.1 19 7 = nI (zjn Cs)) ∧ M.1 r 7 = nI (Rs.length + (if st = 0 then 0 else 1)) ∧
  ∃ a, zRT r Rs a (L ++ (zcond false Cs ++ (A ++ E))) M ∧ (st ≠ 0 → M.1 (r + 1) Rs.length = nI k ∧ M.1 (r + 2) Rs.length = nI n ∧ M.1 (r + 3) Rs.length = nI a ∧ (0 < sd → M.1 (r + 4) Rs.length = nI (a + L.length))) ∧ a + (L ++ (zcond false Cs ++ (A ++ E))).length + zops K + (if sd = 2 then 1 else 0) + zjn Cs + (if st = 0 then 0 else 1) ≤ t
def zCRS (r : Nat) (M0 : zMem) (t : Nat) (S : zSta) (M : zMem) : Prop := zCRc r M0 t S.1 S.2.1 S.2.2.1 S.2.2.2.1 S.2.2.2.2.1 S.2.2.2.2.2.1 S.2.2.2.2.2.2.1 S.2.2.2.2.2.2.2.1 S.2.2.2.2.2.2.2.2.1 S.2.2.2.2.2.2.2.2.2.1 S.2.2.2.2.2.2.2.2.2.2.1 S.2.2.2.2.2.2.2.2.2.2.2 M
section CSIM2
variable {r : Nat} {M0 M : zMem} {N t : Nat} {Rs : List zRl} {w : Option Nat} {k n : Nat} {L : zTm} {Cs : List zRe} {sd q : Nat} {A E : zTm} {K : List Nat} {c v p : Nat} {x : Int32}
theorem p_begin (hr : r = 3 ∨ r = 11) {nr cs : Nat} (h7 : M.1 r 7 = nI nr) (h8 : M.1 r 8 = nI cs) (hn : nr < 20) : ∃ W, fX6_begin r (nI c) M = some (1, W) ∧ W.1 (r + 1) nr = nI c ∧ W.1 (r + 2) nr = nI 0 ∧ W.1 (r + 3) nr = nI cs ∧ W.1 r 7 = nI (nr + 1) ∧ (∀ j, j ≠ 7 → W.1 r j = M.1 r j) ∧ (∀ b j, 1 ≤ b → b ≤ 5 → j ≠ nr → W.1 (r + b) j = M.1 (r + b) j) ∧ (∀ b, (b < r ∨ r + 5 < b) → W.1 b = M.1 b) ∧ W.2 = M.2 := by
  unfold fX6_begin
  rw [h7, show (20 : Int32) = nI 20 from rfl, zif_lt (by omega) (by omega), if_pos hn, z_stI hn (by omega), zbd_some, zpI_r (b := r) _ _ (by omega), h7, z_stI hn (by omega), zbd_some, zpI_r (b := r) _ _ (by omega), zpI_r (b := r) _ _ (by omega), h7, h8, z_stI hn (by omega), zbd_some, zpI_r (b := r) _ _ (by omega), zpI_r (b := r) _ _ (by omega), zpI_r (b := r) _ _ (by omega), h7, h8, z_stI hn (by omega), zbd_some, zpI_r (b := r) _ _ (by omega), zpI_r (b := r) _ _ (by omega), zpI_r (b := r) _ _ (by omega), zpI_r (b := r) _ _ (by omega), h7, h8, z_stI hn (by omega), zbd_some, zpI_r (b := r) _ _ (by omega), zpI_r (b := r) _ _ (by omega), zpI_r (b := r) _ _ (by omega), zpI_r (b := r) _ _ (by omega), zpI_r (b := r) _ _ (by omega), h7, nI_1, zlet_eq]
  refine ⟨_, rfl, ?_, ?_, ?_, ?_, fun j hj => ?_, fun b j b1 b2 hj => ?_, fun b hb => ?_, rfl⟩
  · rw [zpI_r _ _ (by omega), zpI_r _ _ (by omega), zpI_r _ _ (by omega), zpI_r _ _ (by omega), zpI_r _ _ (by omega), zpI_1, if_pos ⟨rfl, rfl⟩]
  · rw [zpI_r _ _ (by omega), zpI_r _ _ (by omega), zpI_r _ _ (by omega), zpI_r _ _ (by omega), zpI_1, if_pos ⟨rfl, rfl⟩]; rfl
  · rw [zpI_r _ _ (by omega), zpI_r _ _ (by omega), zpI_r _ _ (by omega), zpI_1, if_pos ⟨rfl, rfl⟩]
  · rw [zpI_1, if_pos ⟨rfl, rfl⟩]
  · rw [zpI_1, if_neg (fun z => hj z.2), zpI_r _ _ (by omega), zpI_r _ _ (by omega), zpI_r _ _ (by omega), zpI_r _ _ (by omega), zpI_r _ _ (by omega)]
  · rw [zpI_1, if_neg (fun z => by omega), zpI_1, if_neg (fun z => hj z.2), zpI_1, if_neg (fun z => hj z.2), zpI_1, if_neg (fun z => hj z.2), zpI_1, if_neg (fun z => hj z.2), zpI_1, if_neg (fun z => hj z.2)]
  · rw [zpI_r _ _ (by omega), zpI_r _ _ (by omega), zpI_r _ _ (by omega), zpI_r _ _ (by omega), zpI_r _ _ (by omega), zpI_r _ _ (by omega)]
/-- what a token does: a fault, or the next state -/
def zTake (r : Nat) (M0 M : zMem) (t : Nat) (o : Option (Int32 × zMem)) (z : Nat ⊕ zSta) : Prop := (∃ f W, z = .inl f ∧ o = some (nI f, W) ∧ (f = 1 ∨ f = 2) ∧ zfrc r M0 W ∧ W.1 20 = M.1 20) ∨ ∃ Sn W, z = .inr Sn ∧ o = some (0, W) ∧ zCRS r M0 (t + 1) Sn W ∧ W.1 20 = M.1 20
theorem p_t0 (hr : r = 3 ∨ r = 11) (h : zCRc r M0 t 0 Rs w 0 0 [] [] 0 0 [] [] [] M) (h20 : Rs.length ≤ 20) (ht : t ≤ 400) (hc : c ≤ 19) : zTake r M0 M t (fX5_takeRuleStart (nI c) M) (zstp 0 Rs w 0 0 [] [] 0 0 [] [] [] c v p) := by
  obtain ⟨u1, u2, u3, u4, u5, u6, u7, u8, u9, u10, u11, a, u12, u13, u14⟩ := h
  have e8 := u12.2.2
  rw [if_pos rfl, Nat.add_zero] at u11 u14
  simp only [zcond, List.append_nil, List.nil_append, List.length_nil, Nat.add_zero] at e8 u12 u14
  unfold zstp
  rw [if_pos rfl]
  have go : ∀ st', (st' = 1 ∨ st' = 2 ∨ st' = 3) → (c = 4 ∨ c = 5 ∨ c = 6 ∨ c = 7) → zTake r M0 M t (fX5_takeRuleStart_L58 (nI c) (zpI M 19 4 (nI st'))) (if Rs.length < 20 then .inr (st', Rs, w, c, 0, [], [], 0, 0, [], [], []) else .inl 2) := by
    intro st' hst hc4
    unfold fX5_takeRuleStart_L58
    rw [zlet_eq, show (zpI (zpI M 19 4 (nI st')) 19 5 0).2.2 19 10 = r from u1, zdy_r hr]
    have f7 : (zpI (zpI M 19 4 (nI st')) 19 5 0).1 r 7 = nI Rs.length := by rw [zpI_r _ _ (by omega), zpI_r _ _ (by omega)]; exact u11
    have f8 : (zpI (zpI M 19 4 (nI st')) 19 5 0).1 r 8 = nI a := by rw [zpI_r _ _ (by omega), zpI_r _ _ (by omega)]; exact e8
    by_cases c2 : Rs.length < 20
    · obtain ⟨W, w1, w2, w3, w4, w5, w6, w7, w8, w9⟩ := p_begin (c := c) hr f7 f8 c2
      rw [if_pos c2, w1, zb2_some, if_neg (by decide)]
      have e19 : W.1 19 = (zpI (zpI M 19 4 (nI st')) 19 5 0).1 19 := w8 19 (by omega)
      have eo : ∀ b, b ≠ 19 → (b < r ∨ r + 5 < b) → W.1 b = M.1 b := fun b b1 b2 => by rw [w8 b b2, zpI_r _ _ b1, zpI_r _ _ b1]
      refine Or.inr ⟨_, W, rfl, rfl, ?_, eo 20 (by omega) (by omega)⟩
      show zCRc r M0 (t + 1) st' Rs w c 0 [] [] 0 0 [] [] [] W
      refine ⟨by rw [w9]; exact u1, zfrc_c (M := M) (fun b b1 b2 b3 b4 => eo b b1 (by omega)) (by rw [w9]; rfl) u2, by rw [e19]; rfl, by rw [e19]; exact u4, by rw [e19]; exact u5, trivial, by rw [e19]; exact u7, fun _ => by rw [e19]; rfl, fun z => absurd z (by omega), fun z => absurd z (by omega), by rw [if_neg (by omega)]; exact w5, a, ?_, fun _ => ⟨w2, w3, w4, fun z => absurd z (by omega)⟩, ?_⟩
      · refine zRT_c (M := M) (fun b j b1 b2 hj => ?_) (eo _ (by omega) (by omega)) ?_ u12
        · rw [w7 b j b1 b2 (by omega), zpI_r _ _ (by omega), zpI_r _ _ (by omega)]
        · rw [w6 8 (by omega), zpI_r _ _ (by omega), zpI_r _ _ (by omega)]
      · rw [if_neg (by omega), if_neg (by omega)]
        show a + 0 + 0 + 0 + 0 + 1 ≤ t + 1
        have : zjn [] = 0 := rfl
        have : zops [] = 0 := rfl
        omega
    · rw [if_neg c2]
      unfold fX6_begin
      rw [f7, show (20 : Int32) = nI 20 from rfl, zif_lt (by omega) (by omega), if_neg c2, zb2_some, if_pos rfl]
      refine Or.inl ⟨2, _, rfl, rfl, Or.inr rfl, zfrc_c (M := M) (fun b b1 b2 b3 b4 => by rw [zpI_r _ _ b1, zpI_r _ _ b1]) rfl u2, ?_⟩
      rw [zpI_r _ _ (by omega), zpI_r _ _ (by omega)]
  unfold fX5_takeRuleStart
  rw [show (4 : Int32) = nI 4 from rfl, show (5 : Int32) = nI 5 from rfl, show (6 : Int32) = nI 6 from rfl, show (7 : Int32) = nI 7 from rfl, zif_eq (by omega) (by omega), zif_eq (by omega) (by omega), zif_eq (by omega) (by omega), zif_eq (by omega) (by omega)]
  by_cases c4 : c = 4
  · rw [if_pos c4, if_pos (Or.inl c4), if_pos c4, zlet_eq, show (3 : Int32) = nI 3 from rfl]; exact go 3 (by omega) (by omega)
  by_cases c5 : c = 5
  · rw [if_neg c4, if_pos c5, if_pos (show c = 4 ∨ c = 5 ∨ c = 6 ∨ c = 7 by omega), if_neg c4, if_neg (show ¬ c = 6 by omega), zlet_eq, show (1 : Int32) = nI 1 from rfl]; exact go 1 (by omega) (by omega)
  by_cases c6 : c = 6
  · rw [if_neg c4, if_neg c5, if_pos c6, if_pos (show c = 4 ∨ c = 5 ∨ c = 6 ∨ c = 7 by omega), if_neg c4, if_pos c6, zlet_eq, show (2 : Int32) = nI 2 from rfl]; exact go 2 (by omega) (by omega)
  by_cases c7 : c = 7
  · rw [if_neg c4, if_neg c5, if_neg c6, if_pos c7, if_pos (show c = 4 ∨ c = 5 ∨ c = 6 ∨ c = 7 by omega), if_neg c4, if_neg c6, zlet_eq, show (1 : Int32) = nI 1 from rfl]; exact go 1 (by omega) (by omega)
  rw [if_neg c4, if_neg c5, if_neg c6, if_neg c7, if_neg (show ¬ (c = 4 ∨ c = 5 ∨ c = 6 ∨ c = 7) by omega)]
  exact Or.inl ⟨1, M, rfl, rfl, Or.inl rfl, u2, rfl⟩
theorem p_t1 (hr : r = 3 ∨ r = 11) (h : zCRc r M0 t 1 Rs w k n [] [] 0 q [] [] [] M) (h20 : Rs.length < 20) (ht : t ≤ 400) (hc : c ≤ 19) (hk : k < 8) (hx : c = 2 → x = nI v) (hv : c = 2 → v < 10000) (hp : M.1 20 1 = nI p) (hp2 : p ≤ 2000) (hw : ∀ y, w = some y → y ≤ 2000) : zTake r M0 M t (fX5_takeNumber (nI c) x M) (zstp 1 Rs w k n [] [] 0 q [] [] [] c v p) := by
  obtain ⟨u1, u2, u3, u4, u5, u6, u7, u8, u9, u10, u11, a, u12, u13, u14⟩ := h
  rw [if_neg (show ¬ (1 : Nat) = 0 by omega)] at u11 u14
  rw [if_neg (show ¬ (0 : Nat) = 2 by omega)] at u14
  obtain ⟨v1, v2, v3, -⟩ := u13 (by omega)
  unfold zstp fX5_takeNumber
  rw [if_neg (show ¬ (1 : Nat) = 0 by omega), if_pos (show (1 : Nat) = 1 from rfl), show (2 : Int32) = nI 2 from rfl, zif_eq (by omega) (by omega)]
  by_cases c2 : c = 2
  · have hx := hx c2
    have hv := hv c2
    subst hx
    have set : ∀ (X : zMem) (w' : Option Nat), X.2 = M.2 → (∀ b, b ≠ 19 → X.1 b = M.1 b) → (∀ j, j ≠ 8 → X.1 19 j = M.1 19 j) → X.1 19 8 = zwp w' → zTake r M0 M t (fX5_takeNumber_L76 (nI v) X) (.inr (2, Rs, w', k, v, [], [], 0, 0, [], [], [])) := by
      intro X w' x1 x2 x3 x4
      unfold fX5_takeNumber_L76 fX6_setNumber
      rw [x1, u1, zdy_r hr, x2 r (by omega), u11, if_neg (nI_nle (by omega) (by omega)), nI_pred, z_stI h20 (by omega), zbd_some, zbd_some, zlet_eq]
      have eo : ∀ b, b ≠ 19 → b ≠ r + 2 → (zpI (zpI X (r + 2) Rs.length (nI v)) 19 4 2).1 b = M.1 b := fun b b1 b2 => by rw [zpI_r _ _ b1, zpI_r _ _ b2, x2 b b1]
      have e19 : ∀ j, j ≠ 4 → (zpI (zpI X (r + 2) Rs.length (nI v)) 19 4 2).1 19 j = X.1 19 j := fun j hj => by rw [zpI_1, if_neg (fun z => hj z.2), zpI_r _ _ (by omega)]
      refine Or.inr ⟨_, _, rfl, rfl, ?_, eo 20 (by omega) (by omega)⟩
      show zCRc r M0 (t + 1) 2 Rs w' k v [] [] 0 0 [] [] [] _
      refine ⟨by rw [zpI_2, zpI_2, x1]; exact u1, zfrc_c (M := M) (fun b b1 b2 b3 b4 => eo b b1 (by omega)) (by rw [zpI_2, zpI_2, x1]) u2, rfl, by rw [e19 8 (by omega)]; exact x4, by rw [e19 2 (by omega), x3 2 (by omega)]; exact u5, trivial, by rw [e19 3 (by omega), x3 3 (by omega)]; exact u7, fun _ => by rw [e19 5 (by omega), x3 5 (by omega)]; exact u8 (by omega), fun z => absurd z (by omega), fun z => absurd z (by omega), by rw [if_neg (by omega), eo r (by omega) (by omega)]; exact u11, a, ?_, fun _ => ⟨?_, ?_, ?_, fun z => absurd z (by omega)⟩, ?_⟩
      · refine zRT_c (M := M) (fun b j b1 b2 hj => ?_) (eo _ (by omega) (by omega)) (by rw [eo r (by omega) (by omega)]) u12
        rw [zpI_r _ _ (by omega), zpI_1, if_neg (by omega), x2 _ (by omega)]
      · rw [eo _ (by omega) (by omega)]; exact v1
      · rw [zpI_r _ _ (by omega), zpI_1, if_pos ⟨rfl, rfl⟩]
      · rw [eo _ (by omega) (by omega)]; exact v3
      · rw [if_neg (show ¬ (0 : Nat) = 2 by omega), if_neg (show ¬ (2 : Nat) = 0 by omega)]
        have e0 : ([] ++ (zcond false [] ++ ([] ++ []))).length = (([] : zTm) ++ (zcond false [] ++ ([] ++ []))).length := rfl
        omega
    have lk : fX6_lastKind r M = some (nI k, M) := by
      unfold fX6_lastKind fX6_kindOf
      rw [u11, nI_pred, if_neg (nI_pos (by omega)), zif_le (by omega) (by omega), if_neg (by omega), z_ldI h20 (by omega), zbd_some, v1, zb2_some]
    have l50 : ∀ b : Nat, b < 2 → zTake r M0 M t (fX5_takeNumber_L50 (nI v) (nI b) M) (.inr (2, Rs, (if b = 1 then w else zwr w p), k, v, [], [], 0, 0, [], [], [])) := by
      intro b hb
      unfold fX5_takeNumber_L50
      by_cases b1 : b = 1
      · rw [if_neg (show ¬ nI b = 0 by rw [b1]; decide), if_pos b1]
        exact set M w rfl (fun _ _ => rfl) (fun _ _ => rfl) u4
      · have b0 : b = 0 := by omega
        rw [if_pos (show nI b = 0 by rw [b0]; rfl), if_neg b1, u4]
        cases w with
        | none =>
          rw [if_pos (show zwp none = -1 from rfl)]
          unfold fX10_start
          rw [zb2_some, zlet_eq, hp]
          exact set _ _ rfl (fun b hb => zpI_r _ _ hb) (fun j hj => by rw [zpI_1, if_neg (fun z => hj z.2)]) rfl
        | some y =>
          have hy := hw y rfl
          rw [if_neg (show ¬ zwp (some y) = -1 by show ¬ nI y = -1; rw [z_m1 (by omega)]; exact not_false)]
          exact set M _ rfl (fun _ _ => rfl) (fun _ _ => rfl) u4
    rw [if_pos c2, if_pos c2, u1, zdy_r hr, lk, zb2_some, show (7 : Int32) = nI 7 from rfl, zif_eq (by omega) (by omega)]
    unfold fX5_takeNumber_L24
    by_cases k7 : k = 7
    · rw [if_pos k7, if_neg (by decide)]
      unfold fX11_isWithin
      rw [show (1 : Int32) = nI 1 from rfl, show (60 : Int32) = nI 60 from rfl, zif_lt (by omega) (by omega), zif_lt (by omega) (by omega)]
      by_cases g1 : v < 1
      · rw [if_pos g1, zb2_some, if_neg (by omega)]
        exact l50 0 (by omega)
      · by_cases g2 : 60 < v
        · rw [if_neg g1, if_pos g2, zb2_some, if_neg (by omega)]
          exact l50 0 (by omega)
        · rw [if_neg g1, if_neg g2, zb2_some, if_pos (by omega)]
          exact l50 1 (by omega)
    · rw [if_neg k7, if_pos rfl, show (7 : Int32) = nI 7 from rfl, zif_lt (by omega) (by omega)]
      by_cases g1 : 7 < v
      · rw [if_pos g1, if_neg (by omega)]
        exact l50 0 (by omega)
      · rw [if_neg g1, if_pos (by omega)]
        exact l50 1 (by omega)
  · rw [if_neg c2, if_neg c2]
    exact Or.inl ⟨1, M, rfl, rfl, Or.inl rfl, u2, rfl⟩
/-- a condition begins -/
theorem p_bgc (hr : r = 3 ∨ r = 11) {nr cs : Nat} {X : zMem} (h10 : X.2.2 19 10 = r) (h7 : X.1 r 7 = nI (nr + 1)) (h8 : X.1 r 8 = nI cs) (hn : nr < 20) : ∃ W, fX6_beginCondition r X = some W ∧ W.1 (r + 4) nr = nI cs ∧ (∀ j, j ≠ nr → W.1 (r + 4) j = X.1 (r + 4) j) ∧ (∀ b, b ≠ r + 4 → W.1 b = X.1 b) ∧ W.2 = X.2 := by
  unfold fX6_beginCondition
  rw [h7, h8, if_neg (nI_nle (by omega) (by omega)), nI_pred, z_stI hn (by omega), zbd_some]
  exact ⟨_, rfl, by rw [zpI_1, if_pos ⟨rfl, rfl⟩], fun j hj => by rw [zpI_1, if_neg (fun z => hj z.2)], fun b hb => zpI_r _ _ hb, rfl⟩
theorem p_en (hr : r = 3 ∨ r = 11) {nr cs : Nat} {X : zMem} (h10 : X.2.2 19 10 = r) (h7 : X.1 r 7 = nI (nr + 1)) (h8 : X.1 r 8 = nI cs) (hn : nr < 20) : ∃ W, fX6_end r X = some W ∧ W.1 (r + 5) nr = nI cs ∧ (∀ j, j ≠ nr → W.1 (r + 5) j = X.1 (r + 5) j) ∧ (∀ b, b ≠ r + 5 → W.1 b = X.1 b) ∧ W.2 = X.2 := by
  unfold fX6_end
  rw [h7, h8, if_neg (nI_nle (by omega) (by omega)), nI_pred, z_stI hn (by omega), zbd_some]
  exact ⟨_, rfl, by rw [zpI_1, if_pos ⟨rfl, rfl⟩], fun j hj => by rw [zpI_1, if_neg (fun z => hj z.2)], fun b hb => zpI_r _ _ hb, rfl⟩
end CSIM2
