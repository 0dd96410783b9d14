/-! READ: the reference's rules -/
def zrlR (M : zMem) (s cb : Nat) : Nat → List zRe → Prop
  | _, [] => True
  | kk, x :: Cs => (∃ a, M.1 85 (200 * s + kk) = nI x.1 ∧ M.1 86 (200 * s + kk) = nI a ∧ M.1 87 (200 * s + kk) = nI (a + x.2.1.length) ∧ M.1 88 (200 * s + kk) = nI (a + x.2.1.length + x.2.2.length) ∧ 500 * s ≤ a ∧ a + x.2.1.length + x.2.2.length ≤ cb ∧ zsegR M a x.2.1 ∧ zsegR M (a + x.2.1.length) x.2.2) ∧ zrlR M s cb (kk + 1) Cs
theorem zrlR_c {M W : zMem} {s cb cb' kb : Nat} (h2 : ∀ a i, 85 ≤ a → a ≤ 88 → i < 200 * s + kb → W.1 a i = M.1 a i) (h3 : ∀ i, i < cb → W.1 89 i = M.1 89 i ∧ W.1 90 i = M.1 90 i) (hc : cb ≤ cb') : ∀ (Cs : List zRe) (kk : Nat), kk + Cs.length ≤ kb → zrlR M s cb kk Cs → zrlR W s cb' kk Cs
  | [], _, _, _ => trivial
  | x :: Cs, kk, hk, ⟨⟨a, q1, q2, q3, q4, q5, q6, q7, q8⟩, q9⟩ => by
    rw [List.length_cons] at hk
    exact ⟨⟨a, (h2 85 _ (by omega) (by omega) (by omega)).trans q1, (h2 86 _ (by omega) (by omega) (by omega)).trans q2, (h2 87 _ (by omega) (by omega) (by omega)).trans q3, (h2 88 _ (by omega) (by omega) (by omega)).trans q4, q5, by omega, zsegR_d _ _ (fun i _ hi => h3 i (by omega)) q7, zsegR_d _ _ (fun i _ hi => h3 i (by omega)) q8⟩, zrlR_c h2 h3 hc Cs (kk + 1) (by omega) q9⟩
theorem zrlR_snoc {M : zMem} {s cb : Nat} {x : zRe} : ∀ (Cs : List zRe) (kk : Nat), zrlR M s cb kk Cs → (∃ a, M.1 85 (200 * s + (kk + Cs.length)) = nI x.1 ∧ M.1 86 (200 * s + (kk + Cs.length)) = nI a ∧ M.1 87 (200 * s + (kk + Cs.length)) = nI (a + x.2.1.length) ∧ M.1 88 (200 * s + (kk + Cs.length)) = nI (a + x.2.1.length + x.2.2.length) ∧ 500 * s ≤ a ∧ a + x.2.1.length + x.2.2.length ≤ cb ∧ zsegR M a x.2.1 ∧ zsegR M (a + x.2.1.length) x.2.2) → zrlR M s cb kk (Cs ++ [x])
  | [], kk, _, h => ⟨h, trivial⟩
  | y :: Cs, kk, ⟨q1, q2⟩, h => ⟨q1, zrlR_snoc Cs (kk + 1) q2 (by rw [List.length_cons, show kk + (Cs.length + 1) = kk + 1 + Cs.length by omega] at h; exact h)⟩
/-- a finished rule in the reference's rows -/
def zruR (M : zMem) (s cb kb j : Nat) (x : zRl) : Prop := M.1 78 (20 * s + j) = nI (if x.1 = 4 then 0 else x.1 - 3) ∧ M.1 79 (20 * s + j) = nI x.2.1 ∧ (∃ b, M.1 80 (20 * s + j) = nI b ∧ M.1 81 (20 * s + j) = nI (b + x.2.2.1.length) ∧ 500 * s ≤ b ∧ b + x.2.2.1.length ≤ cb ∧ zsegR M b x.2.2.1) ∧ ∃ kk, M.1 82 (20 * s + j) = nI kk ∧ M.1 83 (20 * s + j) = nI (kk + x.2.2.2.length) ∧ kk + x.2.2.2.length ≤ kb ∧ zrlR M s cb kk x.2.2.2
theorem zruR_c {M W : zMem} {s cb cb' kb kb' j : Nat} {x : zRl} (h1 : ∀ a, 78 ≤ a → a ≤ 83 → W.1 a (20 * s + j) = M.1 a (20 * s + j)) (h2 : ∀ a i, 85 ≤ a → a ≤ 88 → i < 200 * s + kb → W.1 a i = M.1 a i) (h3 : ∀ i, i < cb → W.1 89 i = M.1 89 i ∧ W.1 90 i = M.1 90 i) (hc : cb ≤ cb') (hk : kb ≤ kb') (h : zruR M s cb kb j x) : zruR W s cb' kb' j x := by
  obtain ⟨u1, u2, ⟨b, u3, u4, u5, u6, u7⟩, kk, u8, u9, u10, u11⟩ := h
  exact ⟨(h1 78 (by omega) (by omega)).trans u1, (h1 79 (by omega) (by omega)).trans u2, ⟨b, (h1 80 (by omega) (by omega)).trans u3, (h1 81 (by omega) (by omega)).trans u4, u5, by omega, zsegR_d _ _ (fun i _ hi => h3 i (by omega)) u7⟩, kk, (h1 82 (by omega) (by omega)).trans u8, (h1 83 (by omega) (by omega)).trans u9, by omega, zrlR_c h2 h3 hc _ _ u10 u11⟩
/-- the place of the first wrong number -/
def zwst (P : Nat → Nat) (w : Option Nat) (t : Nat) (M : zMem) : Prop := (w = none → M.1 69 15 = nI 0) ∧ ∀ p, w = some p → M.1 69 15 = nI 5 ∧ M.1 69 16 = nI p ∧ ∃ u, u < t ∧ p = P u
/-- what the parser may change -/
def zfpp (s : Nat) (M W : zMem) : Prop := (∀ a, a ≠ 69 → (a < 77 ∨ 92 ≤ a) → W.1 a = M.1 a) ∧ W.2 = M.2 ∧ (∀ j, j ≠ 11 → j ≠ 12 → j ≠ 13 → j ≠ 14 → j ≠ 15 → j ≠ 16 → j ≠ 32 → j ≠ 36 → W.1 69 j = M.1 69 j) ∧ (∀ i, (i < 500 * s ∨ 500 * s + 500 ≤ i) → W.1 89 i = M.1 89 i ∧ W.1 90 i = M.1 90 i) ∧ (∀ a i, 85 ≤ a → a ≤ 88 → (i < 200 * s ∨ 200 * s + 200 ≤ i) → W.1 a i = M.1 a i) ∧ (∀ a i, 78 ≤ a → a ≤ 83 → (i < 20 * s ∨ 20 * s + 20 ≤ i) → W.1 a i = M.1 a i) ∧ ∀ i, i ≠ s → W.1 77 i = M.1 77 i ∧ W.1 84 i = M.1 84 i
theorem zfpp_rfl (s : Nat) (M : zMem) : zfpp s M M := ⟨fun _ _ _ => rfl, rfl, fun _ _ _ _ _ _ _ _ _ => rfl, fun _ _ => ⟨rfl, rfl⟩, fun _ _ _ _ _ => rfl, fun _ _ _ _ _ => rfl, fun _ _ => ⟨rfl, rfl⟩⟩
theorem zfpp_tr {s : Nat} {M X W : zMem} (h1 : zfpp s M X) (h2 : zfpp s X W) : zfpp s M W :=
  ⟨fun a a1 a2 => (h2.1 a a1 a2).trans (h1.1 a a1 a2), h2.2.1.trans h1.2.1, fun j j1 j2 j3 j4 j5 j6 j7 j8 => (h2.2.2.1 j j1 j2 j3 j4 j5 j6 j7 j8).trans (h1.2.2.1 j j1 j2 j3 j4 j5 j6 j7 j8), fun i hi => ⟨(h2.2.2.2.1 i hi).1.trans (h1.2.2.2.1 i hi).1, (h2.2.2.2.1 i hi).2.trans (h1.2.2.2.1 i hi).2⟩, fun a i a1 a2 a3 => (h2.2.2.2.2.1 a i a1 a2 a3).trans (h1.2.2.2.2.1 a i a1 a2 a3), fun a i a1 a2 a3 => (h2.2.2.2.2.2.1 a i a1 a2 a3).trans (h1.2.2.2.2.2.1 a i a1 a2 a3), fun i hi => ⟨(h2.2.2.2.2.2.2 i hi).1.trans (h1.2.2.2.2.2.2 i hi).1, (h2.2.2.2.2.2.2 i hi).2.trans (h1.2.2.2.2.2.2 i hi).2⟩⟩
theorem zfpp_l {s b kk : Nat} {M W : zMem} (h : zflr s b kk M W) (hb : 500 * s ≤ b) (hk : kk < 200) : zfpp s M W :=
  ⟨fun a a1 a2 => h.1 a a1 (by omega), h.2.1, fun j j1 j2 j3 j4 j5 j6 j7 j8 => h.2.2.1 j j1 j2 j3 j4 j7 j8, fun i hi => h.2.2.2.1 i (by omega), fun a i a1 a2 a3 => h.2.2.2.2.1 a i a1 a2 (by omega), fun a i a1 a2 a3 => by rw [h.1 a (by omega) (by omega)], fun i hi => ⟨by rw [h.1 77 (by omega) (by omega)], h.2.2.2.2.2 i hi⟩⟩
theorem zfpp_e {s b : Nat} {M W : zMem} (h : zfe (500 * s) b M W) (hb : 500 * s ≤ b) : zfpp s M W := zfpp_l (kk := 0) (zflr_e h) hb (by omega)
theorem zfpp_1 (s : Nat) (M : zMem) {j : Nat} (x : Int32) (hj : j = 11 ∨ j = 12 ∨ j = 13 ∨ j = 14 ∨ j = 15 ∨ j = 16 ∨ j = 32 ∨ j = 36) : zfpp s M (zpI M 69 j x) :=
  ⟨fun a a1 _ => zpI_r _ _ a1, rfl, fun i i1 i2 i3 i4 i5 i6 i7 i8 => by rw [zpI_1, if_neg (by omega)], fun i _ => by rw [zpI_r _ _ (by omega), zpI_r _ _ (by omega)]; exact ⟨rfl, rfl⟩, fun a i a1 a2 _ => by rw [zpI_r _ _ (by omega)], fun a i a1 a2 _ => by rw [zpI_r _ _ (by omega)], fun i _ => by rw [zpI_r _ _ (by omega), zpI_r _ _ (by omega)]; exact ⟨rfl, rfl⟩⟩
theorem zfpp_r (s : Nat) (M : zMem) {r i : Nat} (x : Int32) (hr : 78 ≤ r) (hr2 : r ≤ 83) (hi : 20 * s ≤ i) (hi2 : i < 20 * s + 20) : zfpp s M (zpI M r i x) :=
  ⟨fun a a1 a2 => zpI_r _ _ (by omega), rfl, fun j _ _ _ _ _ _ _ _ => by rw [zpI_r _ _ (by omega)], fun i _ => by rw [zpI_r _ _ (by omega), zpI_r _ _ (by omega)]; exact ⟨rfl, rfl⟩, fun a i a1 a2 _ => by rw [zpI_r _ _ (by omega)], fun a j a1 a2 hj => by rw [zpI_1, if_neg (by omega)], fun i _ => by rw [zpI_r _ _ (by omega), zpI_r _ _ (by omega)]; exact ⟨rfl, rfl⟩⟩
theorem zfpp_s (s : Nat) (M : zMem) (x : Int32) : zfpp s M (zpI M 77 s x) :=
  ⟨fun a a1 a2 => zpI_r _ _ (by omega), rfl, fun j _ _ _ _ _ _ _ _ => by rw [zpI_r _ _ (by omega)], fun i _ => by rw [zpI_r _ _ (by omega), zpI_r _ _ (by omega)]; exact ⟨rfl, rfl⟩, fun a i a1 a2 _ => by rw [zpI_r _ _ (by omega)], fun a j a1 a2 hj => by rw [zpI_r _ _ (by omega)], fun i hi => by rw [zpI_1, if_neg (fun z => hi z.2), zpI_r _ _ (by omega)]; exact ⟨rfl, rfl⟩⟩
theorem zTRg_p {T V P : Nat → Nat} {s : Nat} {M W : zMem} (hf : zfpp s M W) (h : zTRg T V P M) : zTRg T V P W := zTRg_c (hf.1 72 (by omega) (by omega)) (hf.1 73 (by omega) (by omega)) (hf.1 74 (by omega) (by omega)) h
/-- between rules -/
def zRR (T P : Nat → Nat) (s : Nat) (Rs : List zRl) (w : Option Nat) (t b kk : Nat) (M : zMem) : Prop := zAt T t M ∧ M.1 69 12 = nI 0 ∧ M.1 69 32 = nI b ∧ M.1 69 19 = nI s ∧ M.1 77 s = nI Rs.length ∧ M.1 84 s = nI kk ∧ (∀ j, j < Rs.length → zruR M s b kk j (Rs.getD j (0, 0, [], []))) ∧ 500 * s ≤ b ∧ b ≤ 500 * s + t ∧ 2 * kk ≤ t ∧ zwst P w t M
/-- within a rule, its head told -/
def zRB (T P : Nat → Nat) (s : Nat) (Rs : List zRl) (w : Option Nat) (k n : Nat) (L : zTm) (t b kk kc : Nat) (M : zMem) : Prop := zAt T t M ∧ M.1 69 12 = nI 0 ∧ M.1 69 32 = nI b ∧ M.1 69 19 = nI s ∧ M.1 77 s = nI Rs.length ∧ M.1 84 s = nI kc ∧ (∀ j, j < Rs.length → zruR M s b kk j (Rs.getD j (0, 0, [], []))) ∧ M.1 78 (20 * s + Rs.length) = nI (if k = 4 then 0 else k - 3) ∧ M.1 79 (20 * s + Rs.length) = nI n ∧ (∃ b0, M.1 80 (20 * s + Rs.length) = nI b0 ∧ M.1 81 (20 * s + Rs.length) = nI (b0 + L.length) ∧ 500 * s ≤ b0 ∧ b0 + L.length ≤ b ∧ zsegR M b0 L) ∧ b ≤ 500 * s + t ∧ 2 * kc < t ∧ zwst P w t M ∧ kk ≤ kc
/-- its relations too -/
def zRC (T P : Nat → Nat) (s : Nat) (Rs : List zRl) (w : Option Nat) (k n : Nat) (L : zTm) (Cs : List zRe) (t b kk : Nat) (M : zMem) : Prop := zRB T P s Rs w k n L t b kk (kk + Cs.length) M ∧ M.1 82 (20 * s + Rs.length) = nI kk ∧ zrlR M s b kk Cs
def zTP (T V P : Nat → Nat) (s t0 : Nat) (o : (Nat × Nat) ⊕ (List zRl × Option Nat)) (M0 : zMem) (res : Option zMem) : Prop := ∃ W, res = some W ∧ zfpp s M0 W ∧ ((∃ g u, zFl P g u W ∧ o = .inl (g, u)) ∨ ∃ t Rs w b kk, t0 < t ∧ zRR T P s Rs w t b kk W ∧ zPIc 0 Rs w 0 0 [] [] 0 0 [] [] [] ∧ o = zRn T V P t (0, Rs, w, 0, 0, [], [], 0, 0, [], [], []))
section RSIM5
variable {T V P : Nat → Nat} {t t0 : Nat} {M M0 : zMem} {N : Nat} {Rs : List zRl} {w : Option Nat} {k n : Nat} {L : zTm} {Cs : List zRe} {sd q : Nat} {A E : zTm} {K : List Nat} {b s kk kc : Nat} {o : (Nat × Nat) ⊕ (List zRl × Option Nat)}
theorem f_L323 {g u : Nat} (h : zFl P g u M) (x2 : Int32) : fX12_tellRule_L323 N x2 M = some M := by
  unfold fX12_tellRule_L323
  rw [f_must h, zbd_some, if_neg (f_ne h).2]
theorem f_L303 {g u f : Nat} (h : zFl P g u M) (x2 : Int32) : fX12_tellRule_L303 N (f + 1) x2 M = some M := by
  rw [fX12_tellRule_L303, f_is h, zb2_some, if_pos rfl]
  exact f_L323 h x2
/-- the rule's end -/
theorem m_L323 (hs : s < 2) (hn : Rs.length < 20) (hT : zTRg T V P M) (hV : zVal T V P) (h : zRC T P s Rs w k n L Cs t b kk M) {S : zSta} (hS : S.1 ≠ 0) (hPI : zPI S) (h1 : T t = 10 → zstS S (T t) (V t) (P t) = .inr (0, Rs ++ [(k, n, L, Cs)], w, 0, 0, [], [], 0, 0, [], [], [])) (h2 : T t ≠ 10 → zstS S (T t) (V t) (P t) = .inl 1) (ho : zRn T V P t S = o) (hf : zfpp s M0 M) (ht0 : t0 ≤ t) : zTP T V P s t0 o M0 (fX12_tellRule_L323 N (nI (20 * s + Rs.length)) M) := by
  obtain ⟨⟨u1, u2, u3, u4, u5, u6, u7, u8, u9, ⟨b0, u10, u11, u12, u13, u14⟩, u15, u16, u17, u18⟩, r1, r2⟩ := h
  obtain ⟨v1, v2, v3, v4⟩ := hV t
  have a2 := u1.2.1
  have hne : ¬ (T t = 0 ∧ S.1 = 0) := fun z => hS z.2
  unfold fX12_tellRule_L323 fX12_must
  rw [show (4 : Int32) = nI (zck 10 0) from rfl, m_is hT hV u1 10 (by omega) (by omega) (by omega), zb2_some]
  by_cases c10 : T t = 10
  · have h1 := h1 c10
    have hPn : zPIc 0 (Rs ++ [(k, n, L, Cs)]) w 0 0 [] [] 0 0 [] [] [] := zPI_step hPI v2 v3 v4 h1
    rw [if_pos c10, if_neg (show ¬ nI 1 = 0 by decide)]
    by_cases t4 : t < 400
    · rw [m_next u1 t4, zbd_some, zbd_some]
      have hA := m_at1 u1 t4 (by omega) (W := zpI M 69 11 (nI (t + 1))) rfl rfl
      rw [if_pos (show (zpI M 69 11 (nI (t + 1))).1 69 13 ≤ 0 from by rw [hA.2.2.2]; decide), show (zpI M 69 11 (nI (t + 1))).1 69 19 = M.1 69 19 from rfl, u4, z_ldI hs (by omega), zbd_some, zpI_r _ _ (show 84 ≠ 69 by omega), u6, z_stI (by omega) (by omega), zbd_some, show (zpI (zpI M 69 11 (nI (t + 1))) 83 (20 * s + Rs.length) (nI (kk + Cs.length))).1 69 19 = M.1 69 19 from rfl, u4, z_ldI hs (by omega), zbd_some, zpI_r _ _ (show 77 ≠ 83 by omega), zpI_r _ _ (show 77 ≠ 69 by omega), u5, nI_1, z_stI hs (by omega), zbd_some]
      generalize hX : zpI (zpI (zpI M 69 11 (nI (t + 1))) 83 (20 * s + Rs.length) (nI (kk + Cs.length))) 77 s (nI (Rs.length + 1)) = X
      have xo : ∀ a, a ≠ 69 → a ≠ 77 → a ≠ 83 → X.1 a = M.1 a := fun a a1 a2 a3 => by rw [← hX, zpI_r _ _ a2, zpI_r _ _ a3, zpI_r _ _ a1]
      have x69 : ∀ j, j ≠ 11 → X.1 69 j = M.1 69 j := fun j hj => by rw [← hX, zpI_r _ _ (by omega), zpI_r _ _ (by omega), zpI_1, if_neg (fun z => hj z.2)]
      have x83 : ∀ i, i ≠ 20 * s + Rs.length → X.1 83 i = M.1 83 i := fun i hi => by rw [← hX, zpI_r _ _ (by omega), zpI_1, if_neg (fun z => hi z.2), zpI_r _ _ (by omega)]
      have hlen : (Rs ++ [(k, n, L, Cs)]).length = Rs.length + 1 := by rw [List.length_append]; rfl
      have hfX : zfpp s M X := by
        rw [← hX]
        exact zfpp_tr (zfpp_1 s M _ (by omega)) (zfpp_tr (zfpp_r s _ _ (by omega) (by omega) (by omega) (by omega)) (zfpp_s s _ _))
      refine ⟨X, rfl, zfpp_tr hf hfX, Or.inr ⟨t + 1, Rs ++ [(k, n, L, Cs)], w, b, kk + Cs.length, by omega, ⟨?_, ?_, ?_, ?_, ?_, ?_, fun j hj => ?_, by omega, by omega, by omega, ?_⟩, hPn, ?_⟩⟩
      · exact m_at1 u1 t4 (by omega) (by rw [← hX]; rfl) (x69 13 (by omega))
      · rw [x69 12 (by omega)]; exact u2
      · rw [x69 32 (by omega)]; exact u3
      · rw [x69 19 (by omega)]; exact u4
      · rw [hlen, ← hX, zpI_1, if_pos ⟨rfl, rfl⟩]
      · rw [xo 84 (by omega) (by omega) (by omega)]; exact u6
      · rw [hlen] at hj
        by_cases e : j < Rs.length
        · rw [zgetD_l e]
          refine zruR_c (M := M) (fun a a1 a2 => ?_) (fun a i a1 a2 _ => by rw [xo a (by omega) (by omega) (by omega)]) (fun i _ => by rw [xo 89 (by omega) (by omega) (by omega), xo 90 (by omega) (by omega) (by omega)]; exact ⟨rfl, rfl⟩) (Nat.le_refl b) (by omega) (u7 j e)
          by_cases a3 : a = 83
          · rw [a3, x83 _ (by omega)]
          · rw [xo a (by omega) (by omega) a3]
        · have e2 : j = Rs.length := by omega
          rw [e2, zgetD_r]
          refine ⟨by rw [xo 78 (by omega) (by omega) (by omega)]; exact u8, by rw [xo 79 (by omega) (by omega) (by omega)]; exact u9, ⟨b0, by rw [xo 80 (by omega) (by omega) (by omega)]; exact u10, by rw [xo 81 (by omega) (by omega) (by omega)]; exact u11, u12, u13, zsegR_c (xo 89 (by omega) (by omega) (by omega)) (xo 90 (by omega) (by omega) (by omega)) _ _ u14⟩, kk, by rw [xo 82 (by omega) (by omega) (by omega)]; exact r1, ?_, Nat.le_refl _, zrlR_c (kb := kk + Cs.length) (M := M) (fun a i a1 a2 _ => by rw [xo a (by omega) (by omega) (by omega)]) (fun i _ => by rw [xo 89 (by omega) (by omega) (by omega), xo 90 (by omega) (by omega) (by omega)]; exact ⟨rfl, rfl⟩) (Nat.le_refl b) _ _ (Nat.le_refl _) r2⟩
          rw [← hX, zpI_r _ _ (by omega), zpI_1, if_pos ⟨rfl, rfl⟩]
      · obtain ⟨g1, g2⟩ := u17
        refine ⟨fun z => by rw [x69 15 (by omega)]; exact g1 z, fun p hp => ?_⟩
        obtain ⟨y1, y2, y, y3, y4⟩ := g2 p hp
        exact ⟨by rw [x69 15 (by omega)]; exact y1, by rw [x69 16 (by omega)]; exact y2, y, by omega, y4⟩
      · rw [← ho]; exact zRn_go t4 hne h1
    · rw [m_next4 hT u1 (by omega), zbd_some, zbd_some]
      have hF : zFl P 2 t (zpI (zpI M 69 13 (nI 2)) 69 14 (nI (P t))) := m_flt u1 (Or.inr rfl)
      rw [if_neg (f_ne hF).2]
      refine ⟨_, rfl, zfpp_tr hf (zfpp_tr (zfpp_1 s _ _ (by omega)) (zfpp_1 s _ _ (by omega))), Or.inl ⟨2, t, hF, ?_⟩⟩
      rw [← ho]; exact zRn_room (by omega) hne h1
  · rw [if_neg c10, if_pos (show nI 0 = 0 from rfl), show (1 : Int32) = nI 1 from rfl, m_fail hT u1 1, zbd_some, zbd_some]
    have hF : zFl P 1 t (zpI (zpI M 69 13 (nI 1)) 69 14 (nI (P t))) := m_flt u1 (Or.inl rfl)
    rw [if_neg (f_ne hF).2]
    refine ⟨_, rfl, zfpp_tr hf (zfpp_tr (zfpp_1 s _ _ (by omega)) (zfpp_1 s _ _ (by omega))), Or.inl ⟨1, t, hF, ?_⟩⟩
    rw [← ho]; exact zRn_bad a2 hne (h2 c10)
theorem zwst_m {W : zMem} {t' : Nat} (h : zwst P w t M) (h1 : W.1 69 15 = M.1 69 15) (h2 : W.1 69 16 = M.1 69 16) (ht : t ≤ t') : zwst P w t' W := by
  obtain ⟨g1, g2⟩ := h
  refine ⟨fun z => by rw [h1]; exact g1 z, fun p hp => ?_⟩
  obtain ⟨y1, y2, y, y3, y4⟩ := g2 p hp
  exact ⟨by rw [h1]; exact y1, by rw [h2]; exact y2, y, by omega, y4⟩
/-- relations, one by one -/
theorem m_C (hN : 500 < N) (hs : s < 2) (hn : Rs.length < 20) (hT : zTRg T V P M0) (hV : zVal T V P) : ∀ D t f (Cs : List zRe) (b : Nat) (M : zMem), t + D = 400 → D < f → t0 ≤ t → zRC T P s Rs w k n L Cs t b kk M → zPIc 3 Rs w k n L Cs 1 0 [] [] [] → zfpp s M0 M → zRn T V P t (3, Rs, w, k, n, L, Cs, 1, 0, [], [], []) = o → 500 * s ≤ b → zTP T V P s t0 o M0 ((fX12_relation N M).bind fun X => fX12_tellRule_L303 N f (nI (20 * s + Rs.length)) X) := by
  intro D
  induction D using Nat.strongRecOn with
  | _ D ih =>
  intro t f Cs b M hD hf ht0 h hPI hfp ho hb5
  obtain ⟨⟨u1, u2, u3, u4, u5, u6, u7, u8, u9, ⟨b0, u10, u11, u12, u13, u14⟩, u15, u16, u17, u18⟩, r1, r2⟩ := h
  have a2 := u1.2.1
  obtain ⟨m, rfl⟩ : ∃ m, f = m + 1 := ⟨f - 1, by omega⟩
  obtain ⟨W, w1, w2, w3⟩ := m_relation hN hs (zTRg_p hfp hT) hV u1 hPI u2 u3 u15 u4 u6 (by omega)
  rw [w1, zbd_some]
  have hfW : zfpp s M0 W := zfpp_tr hfp (zfpp_l w2 hb5 (by omega))
  rcases w3 with ⟨g, u, f1, f2⟩ | ⟨t1, q, A, E, K, d1, d2, d3, d4, d5, d6, d7, d8, d9, d10, d11, d12, d13, d14, d15, d16⟩
  · rw [f_L303 f1]
    exact ⟨W, rfl, hfW, Or.inl ⟨g, u, f1, by rw [← ho]; exact f2⟩⟩
  · obtain ⟨v1, v2, v3, v4⟩ := hV t1
    have a3 := d1.2.1
    have hTW : zTRg T V P W := zTRg_p hfW hT
    obtain ⟨q1, q2⟩ := (d15.2.2.2.2.2.2.2.2.2.1 rfl).2
    have hne : ¬ (T t1 = 0 ∧ ((4, Rs, w, k, n, L, Cs, 2, q, A, E, K) : zSta).1 = 0) := fun z => absurd z.2 (show ¬ (4 : Nat) = 0 by omega)
    have hz : zstS (4, Rs, w, k, n, L, Cs, 2, q, A, E, K) (T t1) (V t1) (P t1) = if T t1 = 9 then .inr (3, Rs, w, k, n, L, Cs ++ [(q - 16, A, E ++ (zpop 1 K).1)], 1, 0, [], [], []) else if T t1 = 10 then .inr (0, Rs ++ [(k, n, L, Cs ++ [(q - 16, A, E ++ (zpop 1 K).1)])], w, 0, 0, [], [], 0, 0, [], [], []) else .inl 1 := by
      show zstp 4 Rs w k n L Cs 2 q A E K (T t1) (V t1) (P t1) = _
      unfold zstp
      rw [if_neg (show ¬ (4 : Nat) = 0 by omega), if_neg (show ¬ (4 : Nat) = 1 by omega), if_neg (show ¬ (4 : Nat) = 2 by omega), if_neg (show ¬ (4 : Nat) = 3 by omega), if_neg (show ¬ 0 < zrnk (T t1) by omega), if_neg (show ¬ 0 < zopn K by omega), if_neg (show ¬ (2 : Nat) = 0 by omega), if_neg (show ¬ (2 : Nat) = 1 by omega)]
    have hlen : (Cs ++ [(q - 16, A, E ++ (zpop 1 K).1)]).length = Cs.length + 1 := by rw [List.length_append]; rfl
    have hC : zRC T P s Rs w k n L (Cs ++ [(q - 16, A, E ++ (zpop 1 K).1)]) t1 (b + A.length + (E ++ (zpop 1 K).1).length) kk W := by
      have c85 : ∀ a i, 85 ≤ a → a ≤ 88 → i < 200 * s + (kk + Cs.length) → W.1 a i = M.1 a i := fun a i a1 a2 hi => w2.2.2.2.2.1 a i a1 a2 (by omega)
      have c89 : ∀ i, i < b → W.1 89 i = M.1 89 i ∧ W.1 90 i = M.1 90 i := fun i hi => w2.2.2.2.1 i (Or.inl hi)
      have cr : ∀ a i, 77 ≤ a → a ≤ 83 → W.1 a i = M.1 a i := fun a i a1 a2 => by rw [w2.1 a (by omega) (by omega)]
      refine ⟨⟨d1, d3, d13, ?_, by rw [cr 77 _ (by omega) (by omega)]; exact u5, by rw [hlen]; exact d6, fun j hj => zruR_c (M := M) (fun a a1 a2 => cr a _ (by omega) a2) (fun a i a1 a2 hi => c85 a i a1 a2 (by omega)) c89 (by omega) (Nat.le_refl kk) (u7 j hj), by rw [cr 78 _ (by omega) (by omega)]; exact u8, by rw [cr 79 _ (by omega) (by omega)]; exact u9, ⟨b0, by rw [cr 80 _ (by omega) (by omega)]; exact u10, by rw [cr 81 _ (by omega) (by omega)]; exact u11, u12, by omega, zsegR_d _ _ (fun i _ hi => c89 i (by omega)) u14⟩, d14, by rw [hlen]; omega, zwst_m u17 (w2.2.2.1 15 (by omega) (by omega) (by omega) (by omega) (by omega) (by omega)) (w2.2.2.1 16 (by omega) (by omega) (by omega) (by omega) (by omega) (by omega)) (by omega), by omega⟩, by rw [cr 82 _ (by omega) (by omega)]; exact r1, zrlR_snoc _ _ (zrlR_c (kb := kk + Cs.length) (M := M) c85 c89 (by omega) _ _ (Nat.le_refl _) r2) ⟨b, d7, d8, d9, d10, hb5, Nat.le_refl _, d11, d12⟩⟩
      rw [w2.2.2.1 19 (by omega) (by omega) (by omega) (by omega) (by omega) (by omega)]; exact u4
    rw [fX12_tellRule_L303, show (25 : Int32) = nI (zck 9 0) from rfl, m_is hTW hV d1 9 (by omega) (by omega) (by omega), zb2_some]
    by_cases c9 : T t1 = 9
    · rw [if_pos c9] at hz
      have hPn : zPIc 3 Rs w k n L (Cs ++ [(q - 16, A, E ++ (zpop 1 K).1)]) 1 0 [] [] [] := zPI_step d15 v2 v3 v4 hz
      rw [if_pos c9, if_neg (show ¬ nI 1 = 0 by decide)]
      by_cases t4 : t1 < 400
      · rw [m_next d1 t4, zbd_some]
        refine ih (400 - (t1 + 1)) (by omega) (t1 + 1) m _ _ _ (by omega) (by omega) (by omega) ?_ hPn (zfpp_tr hfW (zfpp_1 s _ _ (by omega))) (by rw [← ho, d16]; exact (zRn_go t4 hne hz).symm) (show 500 * s ≤ b + A.length + (E ++ (zpop 1 K).1).length by omega)
        obtain ⟨⟨y1, y2, y3, y4, y5, y6, y7, y8, y9, ⟨z0, y10, y11, y12, y13, y14⟩, y15, y16, y17, y18⟩, s1, s2⟩ := hC
        have xo : ∀ a, a ≠ 69 → (zpI W 69 11 (nI (t1 + 1))).1 a = W.1 a := fun a ha => zpI_r _ _ ha
        exact ⟨⟨m_at1 d1 t4 (by omega) rfl rfl, y2, y3, y4, by rw [xo 77 (by omega)]; exact y5, by rw [xo 84 (by omega)]; exact y6, fun j hj => zruR_c (M := W) (fun a a1 a2 => by rw [xo a (by omega)]) (fun a i a1 a2 _ => by rw [xo a (by omega)]) (fun i _ => by rw [xo 89 (by omega), xo 90 (by omega)]; exact ⟨rfl, rfl⟩) (Nat.le_refl _) (Nat.le_refl _) (y7 j hj), by rw [xo 78 (by omega)]; exact y8, by rw [xo 79 (by omega)]; exact y9, ⟨z0, by rw [xo 80 (by omega)]; exact y10, by rw [xo 81 (by omega)]; exact y11, y12, y13, zsR1 y14⟩, by omega, by omega, zwst_m y17 rfl rfl (by omega), y18⟩, by rw [xo 82 (by omega)]; exact s1, zrlR_c (kb := kk + (Cs ++ [(q - 16, A, E ++ (zpop 1 K).1)]).length) (M := W) (fun a i a1 a2 _ => by rw [xo a (by omega)]) (fun i _ => by rw [xo 89 (by omega), xo 90 (by omega)]; exact ⟨rfl, rfl⟩) (Nat.le_refl _) _ _ (Nat.le_refl _) s2⟩
      · rw [m_next4 hTW d1 (by omega), zbd_some]
        have hF : zFl P 2 t1 (zpI (zpI W 69 13 (nI 2)) 69 14 (nI (P t1))) := m_flt d1 (Or.inr rfl)
        obtain ⟨X, x1, x2, x3⟩ := f_relation (N := N) (by omega) hF
        obtain ⟨m2, rfl⟩ : ∃ m2, m = m2 + 1 := ⟨m - 1, by omega⟩
        rw [x1, zbd_some, f_L303 x2]
        refine ⟨X, rfl, zfpp_tr hfW (zfpp_tr (zfpp_tr (zfpp_1 s _ _ (by omega)) (zfpp_1 s _ _ (by omega))) (zfpp_e (x3 (500 * s) (500 * s)) (Nat.le_refl _))), Or.inl ⟨2, t1, x2, ?_⟩⟩
        rw [← ho, d16]; exact zRn_room (by omega) hne hz
    · rw [if_neg c9] at hz
      rw [if_neg c9, if_pos (show nI 0 = 0 from rfl)]
      exact m_L323 hs hn hTW hV hC (S := (4, Rs, w, k, n, L, Cs, 2, q, A, E, K)) (show (4 : Nat) ≠ 0 by omega) d15 (fun z => by rw [hz, if_pos z]) (fun z => by rw [hz, if_neg z]) (by rw [← ho]; exact d16.symm) hfW (by omega)
end RSIM5
