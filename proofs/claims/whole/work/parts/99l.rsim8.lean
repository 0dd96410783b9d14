/-! READ: the reference, whole -/
theorem z_b255 (x : Int32) : x.toInt8.toInt32 &&& 255 = x &&& 255 := by
  apply Int32.toBitVec_inj.1
  show x.toInt8.toInt32.toBitVec &&& (255 : Int32).toBitVec = x.toBitVec &&& (255 : Int32).toBitVec
  apply BitVec.eq_of_getLsbD_eq
  intro i hi
  rw [BitVec.getLsbD_and, BitVec.getLsbD_and]
  by_cases h : i < 8
  · have e : x.toInt8.toInt32.toBitVec.getLsbD i = x.toBitVec.getLsbD i := by
      show ((x.toBitVec.signExtend 8).signExtend 32).getLsbD i = _
      rw [BitVec.getLsbD_signExtend, BitVec.getLsbD_signExtend, if_pos h, if_pos hi, decide_eq_true hi, decide_eq_true h, Bool.true_and, Bool.true_and]
    rw [e]
  · have e : (255 : Int32).toBitVec.getLsbD i = false := by
      show (BitVec.ofNat 32 (2 ^ 8 - 1)).getLsbD i = false
      rw [BitVec.getLsbD_ofNat, Nat.testBit_two_pow_sub_one]
      simp [h]
    rw [e, Bool.and_false, Bool.and_false]
def zfq (s : Nat) (M W : zMem) : Prop := (∀ a, a ≠ 69 → (a < 77 ∨ 92 ≤ a) → W.1 a = M.1 a) ∧ W.2 = M.2 ∧ (∀ j, j ≠ 11 → j ≠ 12 → j ≠ 13 → j ≠ 14 → j ≠ 15 → j ≠ 16 → j ≠ 17 → j ≠ 18 → j ≠ 32 → j ≠ 36 → W.1 69 j = M.1 69 j) ∧ (∀ i, (i < 500 * s ∨ 500 * s + 500 ≤ i) → W.1 89 i = M.1 89 i ∧ W.1 90 i = M.1 90 i) ∧ (∀ a i, 85 ≤ a → a ≤ 88 → (i < 200 * s ∨ 200 * s + 200 ≤ i) → W.1 a i = M.1 a i) ∧ (∀ a i, 78 ≤ a → a ≤ 83 → (i < 20 * s ∨ 20 * s + 20 ≤ i) → W.1 a i = M.1 a i) ∧ ∀ i, i ≠ s → W.1 77 i = M.1 77 i ∧ W.1 84 i = M.1 84 i
theorem zfq_p {s : Nat} {M W : zMem} (h : zfpp s M W) : zfq s M W := ⟨h.1, h.2.1, fun j j1 j2 j3 j4 j5 j6 _ _ j9 j10 => h.2.2.1 j j1 j2 j3 j4 j5 j6 j9 j10, h.2.2.2⟩
theorem zfq_1 {s : Nat} {M W : zMem} (h : zfq s M W) {j : Nat} (x : Int32) (hj : j = 17 ∨ j = 18) : zfq s M (zpI W 69 j x) :=
  ⟨fun a a1 a2 => by rw [zpI_r _ _ a1]; exact h.1 a a1 a2, h.2.1, fun i i1 i2 i3 i4 i5 i6 i7 i8 i9 i10 => by rw [zpI_1, if_neg (by omega)]; exact h.2.2.1 i i1 i2 i3 i4 i5 i6 i7 i8 i9 i10, fun i hi => by rw [zpI_r _ _ (by omega), zpI_r _ _ (by omega)]; exact h.2.2.2.1 i hi, fun a i a1 a2 a3 => by rw [zpI_r _ _ (by omega)]; exact h.2.2.2.2.1 a i a1 a2 a3, fun a i a1 a2 a3 => by rw [zpI_r _ _ (by omega)]; exact h.2.2.2.2.2.1 a i a1 a2 a3, fun i hi => by rw [zpI_r _ _ (by omega), zpI_r _ _ (by omega)]; exact h.2.2.2.2.2.2 i hi⟩
def zRdQ (P : Nat → Nat) (s : Nat) (M0 : zMem) (o : (Nat × Nat) ⊕ (List zRl × Option Nat)) (res : Option (Int32 × zMem)) : Prop := ∃ rv W, res = some (rv, W) ∧ zfq s M0 W ∧ ((∃ g u, o = .inl (g, u) ∧ (g = 1 ∨ g = 2) ∧ rv = nI g ∧ W.1 69 17 = nI (P u) ∧ W.1 69 18 = M0.1 69 18) ∨ ∃ Rs w, o = .inr (Rs, w) ∧ rv = zw5 w ∧ W.1 69 17 = zwp w ∧ (w = none → W.1 69 18 = nI s) ∧ (w ≠ none → W.1 69 18 = M0.1 69 18) ∧ W.1 77 s = nI Rs.length ∧ ∃ b kk, b ≤ 500 * s + 400 ∧ kk ≤ 200 ∧ ∀ j, j < Rs.length → zruR W s b kk j (Rs.getD j (0, 0, [], [])))
section RSIM8
variable {T V P : Nat → Nat} {t : Nat} {M M0 : zMem} {N : Nat} {Rs : List zRl} {w : Option Nat} {b s kk : Nat} {B : Nat → Nat} {tl lv : Nat}
theorem f_L129 {g u : Nat} (h : zFl P g u M) (hf : zfpp s M0 M) : zRdQ P s M0 (.inl (g, u)) (fX12_read_L129 N M) := by
  have h18 : M.1 69 18 = M0.1 69 18 := hf.2.2.1 18 (by omega) (by omega) (by omega) (by omega) (by omega) (by omega) (by omega) (by omega)
  have hF : zFl P g u (zpI M 69 17 (M.1 69 14)) := ⟨h.1, h.2.1, h.2.2.1, h.2.2.2⟩
  unfold fX12_read_L129 fX12_read_L159
  rw [if_neg (f_ne h).2, zlet_eq, if_neg (f_ne hF).2]
  exact ⟨_, _, rfl, zfq_1 (zfq_p hf) _ (Or.inl rfl), Or.inl ⟨g, u, rfl, h.2.1, hF.1, h.2.2.1, h18⟩⟩
theorem m_L129 (h : zRR T P s Rs w t b kk M) (hw : ∀ p, w = some p → p ≤ 2000) (hf : zfpp s M0 M) : zRdQ P s M0 (.inr (Rs, w)) (fX12_read_L129 N M) := by
  obtain ⟨u1, u2, u3, u4, u5, u6, u7, u8, u9, u10, u11⟩ := h
  obtain ⟨a1, a2, a3, a4⟩ := u1
  have h18 : M.1 69 18 = M0.1 69 18 := hf.2.2.1 18 (by omega) (by omega) (by omega) (by omega) (by omega) (by omega) (by omega) (by omega)
  have hru : ∀ (X : zMem), (∀ a, a ≠ 69 → X.1 a = M.1 a) → X.1 77 s = nI Rs.length ∧ ∃ b kk, b ≤ 500 * s + 400 ∧ kk ≤ 200 ∧ ∀ j, j < Rs.length → zruR X s b kk j (Rs.getD j (0, 0, [], [])) := fun X hX =>
    ⟨by rw [hX 77 (by omega)]; exact u5, b, kk, by omega, by omega, fun j hj => zruR_c (M := M) (fun a b1 b2 => by rw [hX a (by omega)]) (fun a i b1 b2 _ => by rw [hX a (by omega)]) (fun i _ => by rw [hX 89 (by omega), hX 90 (by omega)]; exact ⟨rfl, rfl⟩) (Nat.le_refl _) (Nat.le_refl _) (u7 j hj)⟩
  obtain ⟨g1, g2⟩ := u11
  unfold fX12_read_L129 fX12_read_L159
  rw [if_pos (show M.1 69 13 ≤ 0 from by rw [a4]; decide)]
  cases w with
  | none =>
    have e15 := g1 rfl
    rw [if_pos (show M.1 69 15 ≤ 0 from by rw [e15]; decide), zlet_eq, if_pos (show (zpI M 69 17 (-1)).1 69 13 ≤ 0 from by show M.1 69 13 ≤ 0; rw [a4]; decide), if_pos (show (zpI M 69 17 (-1)).1 69 15 ≤ 0 from by show M.1 69 15 ≤ 0; rw [e15]; decide), zlet_eq]
    exact ⟨_, _, rfl, zfq_1 (zfq_1 (zfq_p hf) _ (Or.inl rfl)) _ (Or.inr rfl), Or.inr ⟨Rs, none, rfl, rfl, rfl, fun _ => u4, fun z => absurd rfl z, hru _ (fun a ha => by rw [zpI_r _ _ ha, zpI_r _ _ ha])⟩⟩
  | some p =>
    obtain ⟨e15, e16, -⟩ := g2 p rfl
    rw [if_neg (show ¬ M.1 69 15 ≤ 0 from by rw [e15]; decide), zlet_eq, if_pos (show (zpI M 69 17 (M.1 69 16)).1 69 13 ≤ 0 from by show M.1 69 13 ≤ 0; rw [a4]; decide), if_neg (show ¬ (zpI M 69 17 (M.1 69 16)).1 69 15 ≤ 0 from by show ¬ M.1 69 15 ≤ 0; rw [e15]; decide)]
    exact ⟨_, _, rfl, zfq_1 (zfq_p hf) _ (Or.inl rfl), Or.inr ⟨Rs, some p, rfl, e15, e16, fun z => absurd z (by simp), fun _ => h18, hru _ (fun a ha => by rw [zpI_r _ _ ha])⟩⟩
theorem m_L107 (hN : 500 < N) (hs : s < 2) (hT : zTRg T V P M0) (hV : zVal T V P) (hP : ∀ x y, x < y → (∀ z, z < y → T z ≠ 0) → P x < P y) : ∀ D t f (Rs : List zRl) (w : Option Nat) (b kk : Nat) (M : zMem), t + D = 400 → D + 1 < f → zRR T P s Rs w t b kk M → zPIc 0 Rs w 0 0 [] [] 0 0 [] [] [] → zfpp s M0 M → zRdQ P s M0 (zRn T V P t (0, Rs, w, 0, 0, [], [], 0, 0, [], [], [])) (fX12_read_L107 N f M) := by
  intro D
  induction D using Nat.strongRecOn with
  | _ D ih =>
  intro t f Rs w b kk M hD hf h hPI hfp
  obtain ⟨m, rfl⟩ : ∃ m, f = m + 2 := ⟨f - 2, by omega⟩
  have hTM : zTRg T V P M := zTRg_p hfp hT
  have h1 := h.1
  rw [fX12_read_L107, if_pos (show M.1 69 13 = 0 from h1.2.2.2), show fX12_is (0 : Int32) M = fX12_is (nI (zck 0 0)) M from rfl, m_is hTM hV h1 0 (by omega) (by omega) (by omega), zb2_some]
  by_cases z0 : T t = 0
  · rw [if_pos z0, if_neg (show ¬ nI 1 = 0 by decide), zRn_end h1.2.1 z0 rfl]
    exact m_L129 h hPI.2.2.2.2.2.2.2.2.2.2.2.2.2.2.2.2 hfp
  · rw [if_neg z0, if_pos (show nI 0 = 0 from rfl)]
    obtain ⟨W, w1, w2, w3⟩ := m_tellRule (t0 := t) hN hs hT hV hP h hPI z0 rfl hfp (Nat.le_refl t)
    rw [w1, zbd_some]
    rcases w3 with ⟨g, u, f1, f2⟩ | ⟨t1, Rs1, w', b1, kk1, d1, d2, d3, d4⟩
    · rw [f2, fX12_read_L107, if_neg (f_ne f1).1]
      exact f_L129 f1 w2
    · rw [d4]
      have := d2.1.2.1
      exact ih (400 - t1) (by omega) t1 (m + 1) Rs1 w' b1 kk1 W (by omega) (by omega) d2 d3 w2
theorem m_cpyL : ∀ d i f (M : zMem), i + d = tl → tl ≤ 2000 → M.1 69 4 = nI tl → (∀ j, j < tl → M.1 70 j &&& 255 = nI (B j)) → (∀ j, j < i → M.1 71 j &&& 255 = nI (B j)) → ∃ W, fX12_read_L10 N (f + d) (nI i) M = fX12_read_L10 N f (nI tl) W ∧ (∀ a, a ≠ 71 → W.1 a = M.1 a) ∧ W.2 = M.2 ∧ ∀ j, j < tl → W.1 71 j &&& 255 = nI (B j)
  | 0, i, f, M, hi, ht, h4, h70, h71 => ⟨M, by rw [show i = tl by omega]; rfl, fun _ _ => rfl, rfl, by rw [show i = tl by omega] at h71; exact h71⟩
  | d + 1, i, f, M, hi, ht, h4, h70, h71 => by
    rw [show f + (d + 1) = (f + d) + 1 by omega, fX12_read_L10, h4, zif_le (by omega) (by omega), if_neg (by omega), z_ldI (by omega) (by omega), zbd_some, z_stB (by omega) (by omega), zbd_some, zlet_eq, nI_1]
    obtain ⟨W, w1, w2, w3, w4⟩ := m_cpyL d (i + 1) f (zpI M 71 i ((M.1 70 i).toInt8.toInt32)) (by omega) ht h4 (fun j hj => by rw [zpI_r _ _ (by omega)]; exact h70 j hj) (fun j hj => by
      by_cases e : j = i
      · rw [e, zpI_1, if_pos ⟨rfl, rfl⟩, z_b255]; exact h70 i (by omega)
      · rw [zpI_1, if_neg (fun z => e z.2)]; exact h71 j (by omega))
    exact ⟨W, w1, fun a ha => by rw [w2 a ha, zpI_r _ _ ha], w3, w4⟩
theorem zts_inc (hB : ∀ i, tl ≤ i → B i = 256) : ∀ y, (∀ z, z < y → ztkd B tl z ≠ 0) → ∀ x, x < y → zts B tl x < zts B tl y
  | 0, _, x, hx => absurd hx (Nat.not_lt_zero x)
  | y + 1, hy, x, hx => by
    have h1 := ztpo_le hB y
    have h2 := ztokS_le (B := B) _ h1
    obtain ⟨k1, k2, k3, k4, k5, k6⟩ := ztokA_k hB h2.2
    have h3 := ztpo_le hB (y + 1)
    have h4 := ztokS_le (B := B) _ h3
    have hlt : ztokS B tl (ztpo B tl y) < tl := by
      rcases Nat.lt_or_ge (ztokS B tl (ztpo B tl y)) tl with z | z
      · exact z
      · exfalso
        refine hy y (by omega) ?_
        unfold ztkd zts ztokA
        rw [if_pos z]
    have h5 : ztokS B tl (ztpo B tl y) < ztpo B tl (y + 1) := (k3 hlt).1
    have h6 : zts B tl y < zts B tl (y + 1) := by
      unfold zts
      omega
    by_cases e : x = y
    · rw [e]; exact h6
    · have := zts_inc hB y (fun z hz => hy z (by omega)) x (by omega)
      omega
/-- what read may change in the reference -/
def zfz (s : Nat) (M W : zMem) : Prop := (∀ a, 92 ≤ a ∨ a < 69 ∨ a = 70 ∨ a = 76 → W.1 a = M.1 a) ∧ (∀ a, a ≠ 75 → W.2.1 a = M.2.1 a) ∧ W.2.2 = M.2.2 ∧ (∀ j, j ≠ 2 → j ≠ 4 → (j < 10 ∨ 19 < j) → j ≠ 32 → j ≠ 36 → W.1 69 j = M.1 69 j) ∧ (∀ i, (i < 500 * s ∨ 500 * s + 500 ≤ i) → W.1 89 i = M.1 89 i ∧ W.1 90 i = M.1 90 i) ∧ (∀ a i, 85 ≤ a → a ≤ 88 → (i < 200 * s ∨ 200 * s + 200 ≤ i) → W.1 a i = M.1 a i) ∧ (∀ a i, 78 ≤ a → a ≤ 83 → (i < 20 * s ∨ 20 * s + 20 ≤ i) → W.1 a i = M.1 a i) ∧ (∀ i, i ≠ s → W.1 77 i = M.1 77 i ∧ W.1 84 i = M.1 84 i) ∧ W.1 69 2 = nI 0
theorem m_read (hN : 3000 < N) (htl : tl ≤ 2000) (hB : ∀ i, i < tl → B i < 256 ∧ M.1 70 i &&& 255 = nI (B i)) (hBo : ∀ i, tl ≤ i → B i = 256) (h2 : M.1 69 2 = nI tl) (hK : gKeys M) (hlv : lv < 2) (h18 : M.1 69 18 = nI lv) : ∃ rv W, fX12_read N M = some (rv, W) ∧ zfz (1 - lv) M W ∧ ((∃ g u, zRn (ztkd B tl) (ztvl B tl) (zts B tl) 0 (0, [], none, 0, 0, [], [], 0, 0, [], [], []) = .inl (g, u) ∧ (g = 1 ∨ g = 2) ∧ rv = nI g ∧ W.1 69 17 = nI (zts B tl u) ∧ W.1 69 18 = nI lv) ∨ ∃ Rs w, zRn (ztkd B tl) (ztvl B tl) (zts B tl) 0 (0, [], none, 0, 0, [], [], 0, 0, [], [], []) = .inr (Rs, w) ∧ rv = zw5 w ∧ W.1 69 17 = zwp w ∧ (w = none → W.1 69 18 = nI (1 - lv)) ∧ (w ≠ none → W.1 69 18 = nI lv) ∧ W.1 77 (1 - lv) = nI Rs.length ∧ ∃ b kk, b ≤ 500 * (1 - lv) + 400 ∧ kk ≤ 200 ∧ ∀ j, j < Rs.length → zruR W (1 - lv) b kk j (Rs.getD j (0, 0, [], []))) := by
  unfold fX12_read
  rw [zlet_eq, h2, show (0 : Int32) = nI 0 from rfl]
  obtain ⟨W1, w1, w2, w3, w4⟩ := m_cpyL (N := N) (B := B) (tl := tl) tl 0 (N - tl) (zpI M 69 4 (nI tl)) (by omega) htl rfl (fun j hj => by rw [zpI_r _ _ (by omega)]; exact (hB j hj).2) (fun j hj => absurd hj (Nat.not_lt_zero j))
  rw [show N - tl + tl = N by omega] at w1
  have c4 : W1.1 69 4 = nI tl := by rw [w2 69 (by omega)]; rfl
  obtain ⟨m, hm⟩ : ∃ m, N - tl = m + 1 := ⟨N - tl - 1, by omega⟩
  rw [w1, hm, fX12_read_L10, c4, zif_le (by omega) (by omega), if_pos (Nat.le_refl tl), zlet_eq]
  have hby : zby2 B tl (zpI W1 69 2 (nI 0)) := ⟨htl, c4, fun i hi => ⟨(hB i hi).1, by rw [zpI_r _ _ (by omega)]; exact w4 i hi⟩, hBo⟩
  have hK1 : gKeys (zpI W1 69 2 (nI 0)) := gKeys_c (M := M) (by rw [zpI_2, w3]; rfl) hK
  obtain ⟨X, x1, x2, x3⟩ := m_cut (N := N) (by omega) hby hK1
  have x18 : X.1 69 18 = nI lv := by
    rw [x2.2.1 18 (by omega)]
    show W1.1 69 18 = nI lv
    rw [w2 69 (by omega)]; exact h18
  rw [show (0 : Int32) = nI 0 from rfl, x1, zbd_some]
  simp only [zlet_eq]
  rw [show (zpI (zpI (zpI (zpI X 69 11 (nI 0)) 69 12 (nI 0)) 69 13 (nI 0)) 69 15 (nI 0)).1 69 18 = X.1 69 18 from rfl, x18, show (1 : Int32) = nI 1 from rfl, pk_sub (by omega)]
  have hs : 1 - lv < 2 := by omega
  have hlv1 : ∀ i, i ≠ 1 - lv → True := fun _ _ => trivial
  generalize hsd : 1 - lv = s at *
  rw [show (zpI (zpI (zpI (zpI (zpI X 69 11 (nI 0)) 69 12 (nI 0)) 69 13 (nI 0)) 69 15 (nI 0)) 69 19 (nI s)).1 69 19 = nI s from rfl, z_stI hs (by omega), zbd_some, show (zpI (zpI (zpI (zpI (zpI (zpI X 69 11 (nI 0)) 69 12 (nI 0)) 69 13 (nI 0)) 69 15 (nI 0)) 69 19 (nI s)) 77 s (nI 0)).1 69 19 = nI s from rfl, z_stI hs (by omega), zbd_some, show (zpI (zpI (zpI (zpI (zpI (zpI (zpI X 69 11 (nI 0)) 69 12 (nI 0)) 69 13 (nI 0)) 69 15 (nI 0)) 69 19 (nI s)) 77 s (nI 0)) 84 s (nI 0)).1 69 19 = nI s from rfl, show (500 : Int32) = nI 500 from rfl, pk_mul]
  generalize hY : zpI (zpI (zpI (zpI (zpI (zpI (zpI (zpI X 69 11 (nI 0)) 69 12 (nI 0)) 69 13 (nI 0)) 69 15 (nI 0)) 69 19 (nI s)) 77 s (nI 0)) 84 s (nI 0)) 69 32 (nI (500 * s)) = Y
  have yo : ∀ a, a ≠ 69 → a ≠ 77 → a ≠ 84 → Y.1 a = X.1 a := fun a b1 b2 b3 => by rw [← hY, zpI_r _ _ b1, zpI_r _ _ b3, zpI_r _ _ b2, zpI_r _ _ b1, zpI_r _ _ b1, zpI_r _ _ b1, zpI_r _ _ b1, zpI_r _ _ b1]
  have yi : ∀ a i, a ≠ 69 → i ≠ s → Y.1 a i = X.1 a i := fun a i b1 hi => by rw [← hY, zpI_r _ _ b1, zpI_1, if_neg (fun z => hi z.2), zpI_1, if_neg (fun z => hi z.2), zpI_r _ _ b1, zpI_r _ _ b1, zpI_r _ _ b1, zpI_r _ _ b1, zpI_r _ _ b1]
  have y69 : ∀ j, j ≠ 11 → j ≠ 12 → j ≠ 13 → j ≠ 15 → j ≠ 19 → j ≠ 32 → Y.1 69 j = X.1 69 j := fun j j1 j2 j3 j4 j5 j6 => by rw [← hY, zpI_1, if_neg (by omega), zpI_r _ _ (by omega), zpI_r _ _ (by omega), zpI_1, if_neg (by omega), zpI_1, if_neg (by omega), zpI_1, if_neg (by omega), zpI_1, if_neg (by omega), zpI_1, if_neg (by omega)]
  have hTY : zTRg (ztkd B tl) (ztvl B tl) (zts B tl) Y := zTRg_c (yo 72 (by omega) (by omega) (by omega)) (yo 73 (by omega) (by omega) (by omega)) (yo 74 (by omega) (by omega) (by omega)) x3
  have hV : zVal (ztkd B tl) (ztvl B tl) (zts B tl) := fun u => ztok_all hBo htl u
  have hR : zRR (ztkd B tl) (zts B tl) s [] none 0 (500 * s) 0 Y := by
    rw [← hY]
    refine ⟨⟨rfl, by omega, fun u hu => absurd hu (Nat.not_lt_zero u), rfl⟩, rfl, rfl, rfl, ?_, ?_, fun j hj => absurd hj (Nat.not_lt_zero j), Nat.le_refl _, by omega, by omega, fun _ => rfl, fun p hp => by cases hp⟩
    · rw [zpI_r _ _ (by omega), zpI_r _ _ (by omega), zpI_1, if_pos ⟨rfl, rfl⟩]; rfl
    · rw [zpI_r _ _ (by omega), zpI_1, if_pos ⟨rfl, rfl⟩]
  have hPI0 : zPIc 0 [] none 0 0 [] [] 0 0 [] [] [] := ⟨by omega, by omega, by decide, fun z => absurd rfl z, fun _ => ⟨rfl, rfl, rfl, rfl, rfl, rfl⟩, fun z => absurd z (by omega), fun _ => ⟨rfl, rfl⟩, fun _ => rfl, fun z => absurd z (by omega), fun z => absurd z (by omega), fun x hx => absurd hx (List.not_mem_nil), fun x hx => absurd hx (List.not_mem_nil), ⟨0, rfl⟩, by decide, rfl, fun x hx => absurd hx (List.not_mem_nil), fun p z => by cases z⟩
  obtain ⟨rv, W, q1, q2, q3⟩ := m_L107 (N := N) (by omega) hs hTY hV (fun x y hxy hl => zts_inc hBo y hl x hxy) 400 0 N [] none (500 * s) 0 Y (by omega) (by omega) hR hPI0 (zfpp_rfl s Y)
  have y18 : Y.1 69 18 = nI lv := by rw [y69 18 (by omega) (by omega) (by omega) (by omega) (by omega) (by omega)]; exact x18
  have xM : ∀ a, a ≠ 69 → a ≠ 71 → a ≠ 72 → a ≠ 73 → a ≠ 74 → X.1 a = M.1 a := fun a b1 b2 b3 b4 b5 => by rw [x2.1 a b1 b3 b4 b5, zpI_r _ _ b1, w2 a b2, zpI_r _ _ b1]
  refine ⟨rv, W, q1, ⟨fun a ha => ?_, fun a ha => ?_, ?_, fun j j1 j2 j3 j4 j5 => ?_, fun i hi => ?_, fun a i a1 a2 a3 => ?_, fun a i a1 a2 a3 => ?_, fun i hi => ?_, ?_⟩, ?_⟩
  · rw [q2.1 a (by omega) (by omega), yo a (by omega) (by omega) (by omega), xM a (by omega) (by omega) (by omega) (by omega) (by omega)]
  · rw [q2.2.1, ← hY]
    show X.2.1 a = M.2.1 a
    rw [x2.2.2.1 a ha]
    show W1.2.1 a = M.2.1 a
    rw [w3]; rfl
  · rw [q2.2.1, ← hY]
    show X.2.2 = M.2.2
    rw [x2.2.2.2]
    show W1.2.2 = M.2.2
    rw [w3]; rfl
  · rw [q2.2.2.1 j (by omega) (by omega) (by omega) (by omega) (by omega) (by omega) (by omega) (by omega) (by omega) (by omega), y69 j (by omega) (by omega) (by omega) (by omega) (by omega) (by omega), x2.2.1 j (by omega), zpI_1, if_neg (by omega), w2 69 (by omega), zpI_1, if_neg (by omega)]
  · rw [(q2.2.2.2.1 i hi).1, (q2.2.2.2.1 i hi).2, yo 89 (by omega) (by omega) (by omega), yo 90 (by omega) (by omega) (by omega), xM 89 (by omega) (by omega) (by omega) (by omega) (by omega), xM 90 (by omega) (by omega) (by omega) (by omega) (by omega)]
    exact ⟨rfl, rfl⟩
  · rw [q2.2.2.2.2.1 a i a1 a2 a3, yo a (by omega) (by omega) (by omega), xM a (by omega) (by omega) (by omega) (by omega) (by omega)]
  · rw [q2.2.2.2.2.2.1 a i a1 a2 a3, yo a (by omega) (by omega) (by omega), xM a (by omega) (by omega) (by omega) (by omega) (by omega)]
  · rw [(q2.2.2.2.2.2.2 i hi).1, (q2.2.2.2.2.2.2 i hi).2, yi 77 i (by omega) hi, yi 84 i (by omega) hi, xM 77 (by omega) (by omega) (by omega) (by omega) (by omega), xM 84 (by omega) (by omega) (by omega) (by omega) (by omega)]
    exact ⟨rfl, rfl⟩
  · rw [q2.2.2.1 2 (by omega) (by omega) (by omega) (by omega) (by omega) (by omega) (by omega) (by omega) (by omega) (by omega), y69 2 (by omega) (by omega) (by omega) (by omega) (by omega) (by omega), x2.2.1 2 (by omega)]
    rfl
  · rcases q3 with ⟨g, u, r1, r2, r3, r4, r5⟩ | ⟨Rs, w, r1, r2, r3, r4, r5, r6⟩
    · exact Or.inl ⟨g, u, r1, r2, r3, r4, by rw [r5]; exact y18⟩
    · exact Or.inr ⟨Rs, w, r1, r2, r3, r4, fun z => by rw [r5 z]; exact y18, r6⟩
end RSIM8
