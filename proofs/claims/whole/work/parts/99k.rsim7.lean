/-! READ: the reference tells a rule, from its first word -/
section RSIM7
variable {T V P : Nat → Nat} {t t0 : Nat} {M M0 : zMem} {N : Nat} {Rs : List zRl} {w : Option Nat} {k n : Nat} {L : zTm} {Cs : List zRe} {sd q : Nat} {A E : zTm} {K : List Nat} {b s kk kc : Nat} {o : (Nat × Nat) ⊕ (List zRl × Option Nat)}
theorem f_L73 {g u : Nat} (h : zFl P g u M) : fX12_tellRule_L73 N M = some M := by
  unfold fX12_tellRule_L73
  rw [if_neg (f_ne h).2]
theorem m_L73 (hN : 500 < N) (hs : s < 2) (hT : zTRg T V P M0) (hV : zVal T V P) (hP : ∀ x y, x < y → (∀ z, z < y → T z ≠ 0) → P x < P y) (h : zRR T P s Rs w t b kk M) (hn : Rs.length < 20) (hPI : zPIc 0 Rs w 0 0 [] [] 0 0 [] [] []) (hc : T t = 4 ∨ T t = 5 ∨ T t = 6 ∨ T t = 7) (ho : zRn T V P t (0, Rs, w, 0, 0, [], [], 0, 0, [], [], []) = o) (hf : zfpp s M0 M) (ht0 : t0 ≤ t) : zTP T V P s t0 o M0 (fX12_tellRule_L73 N M) := by
  obtain ⟨u1, u2, u3, u4, u5, u6, u7, u8, u9, u10, u11⟩ := id h
  obtain ⟨a1, a2, a3, a4⟩ := id u1
  obtain ⟨v1, v2, v3, v4⟩ := hV t
  have hTM : zTRg T V P M := zTRg_p hf hT
  obtain ⟨c, c1, c2, c3, c4⟩ := hTM t a2 a3
  have hne : ¬ (T t = 0 ∧ ((0, Rs, w, 0, 0, [], [], 0, 0, [], [], []) : zSta).1 = 0) := fun z => by omega
  have hz : zstS (0, Rs, w, 0, 0, [], [], 0, 0, [], [], []) (T t) (V t) (P t) = .inr (if T t = 4 then 3 else if T t = 6 then 2 else 1, Rs, w, T t, 0, [], [], 0, 0, [], [], []) := by
    show zstp 0 Rs w 0 0 [] [] 0 0 [] [] [] (T t) (V t) (P t) = _
    unfold zstp
    rw [if_pos rfl, if_pos hc, if_pos hn]
  have hPn := zPI_step hPI v2 v3 v4 hz
  have hsort : nI c - 20 = nI (if T t = 4 then 0 else T t - 3) := by
    rw [c2.1 (by omega), zck_v (by omega)]
    rcases hc with z | z | z | z <;> rw [z] <;> decide
  unfold fX12_tellRule_L73
  rw [if_pos (show M.1 69 13 ≤ 0 from by rw [a4]; decide), u4, z_ldI hs (by omega), zbd_some, u5, show (20 : Int32) = nI 20 from rfl, pk_mul, nI_add, zlet_eq, a1, z_ldI (by omega) (by omega), zbd_some, c1, show nI 20 = (20 : Int32) from rfl, hsort, z_stI (by omega) (by omega), zbd_some]
  generalize hX0 : zpI M 78 (20 * s + Rs.length) (nI (if T t = 4 then 0 else T t - 3)) = X0
  have o0 : ∀ a, a ≠ 78 → X0.1 a = M.1 a := fun a ha => by rw [← hX0, zpI_r _ _ ha]
  have hf0 : zfpp s M0 X0 := by
    rw [← hX0]
    exact zfpp_tr hf (zfpp_r s _ _ (by omega) (by omega) (by omega) (by omega))
  have hA0 : zAt T t X0 := m_at_c u1 (by rw [o0 69 (by omega)]) (by rw [o0 69 (by omega)])
  have e78 : X0.1 78 (20 * s + Rs.length) = nI (if T t = 4 then 0 else T t - 3) := by rw [← hX0, zpI_1, if_pos ⟨rfl, rfl⟩]
  have n78 : ∀ i, i ≠ 20 * s + Rs.length → X0.1 78 i = M.1 78 i := fun i hi => by rw [← hX0, zpI_1, if_neg (fun z => hi z.2)]
  by_cases t4 : t < 400
  · rw [m_next hA0 t4, zbd_some, show (zpI X0 69 11 (nI (t + 1))).1 69 32 = X0.1 69 32 from rfl, o0 69 (by omega), u3, z_stI (by omega) (by omega), zbd_some, z_stI (by omega) (by omega), zbd_some]
    generalize hX : zpI (zpI (zpI X0 69 11 (nI (t + 1))) 80 (20 * s + Rs.length) (nI b)) 79 (20 * s + Rs.length) 0 = X
    have xo : ∀ a, a ≠ 69 → a ≠ 78 → a ≠ 79 → a ≠ 80 → X.1 a = M.1 a := fun a b1 b2 b3 b4 => by rw [← hX, zpI_r _ _ b3, zpI_r _ _ b4, zpI_r _ _ b1, o0 a b2]
    have x69 : ∀ j, j ≠ 11 → X.1 69 j = M.1 69 j := fun j hj => by rw [← hX, zpI_r _ _ (by omega), zpI_r _ _ (by omega), zpI_1, if_neg (fun z => hj z.2), o0 69 (by omega)]
    have xi : ∀ a i, a ≠ 69 → i ≠ 20 * s + Rs.length → X.1 a i = M.1 a i := fun a i b1 hi => by
      rw [← hX, zpI_1, if_neg (fun z => hi z.2), zpI_1, if_neg (fun z => hi z.2), zpI_r _ _ b1]
      by_cases b2 : a = 78
      · rw [b2, n78 i hi]
      · rw [o0 a b2]
    have x78 : X.1 78 (20 * s + Rs.length) = nI (if T t = 4 then 0 else T t - 3) := by rw [← hX, zpI_r _ _ (by omega), zpI_r _ _ (by omega), zpI_r _ _ (by omega)]; exact e78
    have x79 : X.1 79 (20 * s + Rs.length) = nI 0 := by rw [← hX, zpI_1, if_pos ⟨rfl, rfl⟩]; rfl
    have x80 : X.1 80 (20 * s + Rs.length) = nI b := by rw [← hX, zpI_r _ _ (by omega), zpI_1, if_pos ⟨rfl, rfl⟩]
    have hfX : zfpp s M0 X := by
      rw [← hX]
      exact zfpp_tr hf0 (zfpp_tr (zfpp_1 s _ _ (by omega)) (zfpp_tr (zfpp_r s _ _ (by omega) (by omega) (by omega) (by omega)) (zfpp_r s _ _ (by omega) (by omega) (by omega) (by omega))))
    have hAX : zAt T (t + 1) X := m_at1 u1 t4 (by omega) (by rw [← hX]; rfl) (x69 13 (by omega))
    have hRs : ∀ (Y : zMem) (b' : Nat), b ≤ b' → (∀ a i, 78 ≤ a → a ≤ 83 → i ≠ 20 * s + Rs.length → Y.1 a i = X.1 a i) → (∀ a i, 85 ≤ a → a ≤ 88 → Y.1 a i = X.1 a i) → (∀ i, i < b → Y.1 89 i = X.1 89 i ∧ Y.1 90 i = X.1 90 i) → ∀ j, j < Rs.length → zruR Y s b' kk j (Rs.getD j (0, 0, [], [])) := fun Y b' hb' g1 g2 g3 j hj => zruR_c (M := M) (fun a b1 b2 => by rw [g1 a _ b1 b2 (by omega), xi a _ (by omega) (by omega)]) (fun a i b1 b2 _ => by rw [g2 a i b1 b2, xo a (by omega) (by omega) (by omega) (by omega)]) (fun i hi => by rw [(g3 i hi).1, (g3 i hi).2, xo 89 (by omega) (by omega) (by omega) (by omega), xo 90 (by omega) (by omega) (by omega) (by omega)]; exact ⟨rfl, rfl⟩) hb' (Nat.le_refl _) (u7 j hj)
    have ho1 : zRn T V P (t + 1) (if T t = 4 then 3 else if T t = 6 then 2 else 1, Rs, w, T t, 0, [], [], 0, 0, [], [], []) = o := by rw [← ho]; exact (zRn_go t4 hne hz).symm
    have hTX : zTRg T V P X := zTRg_p hfX hT
    rw [z_ldI (by omega) (by omega), zbd_some, x78]
    -- the rules that begin with a number or a condition
    have plain : T t ≠ 4 → zRB T P s Rs w (T t) 0 [] (t + 1) b kk kk (zpI X 81 (20 * s + Rs.length) (nI b)) ∧ zfpp s M0 (zpI X 81 (20 * s + Rs.length) (nI b)) := by
      intro c4'
      have yo : ∀ a, a ≠ 81 → (zpI X 81 (20 * s + Rs.length) (nI b)).1 a = X.1 a := fun a ha => zpI_r _ _ ha
      refine ⟨⟨m_at_c hAX rfl rfl, ?_, ?_, ?_, ?_, ?_, hRs _ b (Nat.le_refl b) (fun a i b1 b2 hi => by rw [zpI_1, if_neg (fun z => hi z.2)]) (fun a i b1 b2 => by rw [yo a (by omega)]) (fun i _ => by rw [yo 89 (by omega), yo 90 (by omega)]; exact ⟨rfl, rfl⟩), ?_, ?_, ⟨b, ?_, ?_, u8, Nat.le_refl _, trivial⟩, by omega, by omega, ?_, Nat.le_refl _⟩, zfpp_tr hfX (zfpp_r s _ _ (by omega) (by omega) (by omega) (by omega))⟩
      · rw [yo 69 (by omega), x69 12 (by omega)]; exact u2
      · rw [yo 69 (by omega), x69 32 (by omega)]; exact u3
      · rw [yo 69 (by omega), x69 19 (by omega)]; exact u4
      · rw [yo 77 (by omega), xo 77 (by omega) (by omega) (by omega) (by omega)]; exact u5
      · rw [yo 84 (by omega), xo 84 (by omega) (by omega) (by omega) (by omega)]; exact u6
      · rw [yo 78 (by omega)]; exact x78
      · rw [yo 79 (by omega)]; exact x79
      · rw [yo 80 (by omega)]; exact x80
      · rw [zpI_1, if_pos ⟨rfl, rfl⟩]; rfl
      · exact zwst_m u11 (by rw [yo 69 (by omega), x69 15 (by omega)]) (by rw [yo 69 (by omega), x69 16 (by omega)]) (by omega)
    have x32 : X.1 69 32 = nI b := by rw [x69 32 (by omega)]; exact u3
    by_cases c4' : T t = 4
    · rw [if_pos c4', if_pos (show nI 0 = 0 from rfl)]
      rw [if_pos c4', c4'] at ho1 hPn
      obtain ⟨Y, y1, y2, y3⟩ := m_expr (b := b) (c0 := 500 * s) (by omega) hN hTX hV hAX hPn (by rw [x69 12 (by omega)]; exact u2) x32 (by omega)
      have hfY : zfpp s M0 Y := zfpp_tr hfX (zfpp_e y2 u8)
      have y19 : Y.1 69 19 = nI s := by rw [y2.2.2.1 19 (by omega) (by omega) (by omega) (by omega) (by omega) (by omega), x69 19 (by omega)]; exact u4
      rw [y1, zbd_some]
      rcases y3 with ⟨g, u, f1, f2⟩ | ⟨t1, E1, K1, d1, d2, d3, d4, d5, d6, d7, d8, d9, d10⟩
      · obtain ⟨W, w1, w2, w3⟩ := f_L151 (N := N) (x2 := 20 * s + Rs.length) hs (by omega) (by omega) y19 f1
        rw [w1]
        exact ⟨W, rfl, zfpp_tr hfY w3, Or.inl ⟨g, u, w2, by rw [← ho1]; exact f2⟩⟩
      · have t14 := d1.2.1
        have yr : ∀ a, a ≠ 69 → a ≠ 89 → a ≠ 90 → a ≠ 91 → Y.1 a = X.1 a := y2.1
        have y78 : Y.1 78 (20 * s + Rs.length) = nI 0 := by rw [yr 78 (by omega) (by omega) (by omega) (by omega), x78, if_pos c4']
        unfold fX12_tellRule_L151
        rw [d6, z_stI (by omega) (by omega), zbd_some, z_ldI (by omega) (by omega), zbd_some, zpI_r _ _ (show 78 ≠ 81 by omega), y78, if_neg (show ¬ nI 0 = 2 by decide), zbd_some, if_neg (show ¬ nI 0 = 4 by decide)]
        generalize hZ : zpI Y 81 (20 * s + Rs.length) (nI (b + (E1 ++ (zpop 1 K1).1).length)) = Z
        have zo : ∀ a, a ≠ 81 → Z.1 a = Y.1 a := fun a ha => by rw [← hZ, zpI_r _ _ ha]
        have hfZ : zfpp s M0 Z := by
          rw [← hZ]
          exact zfpp_tr hfY (zfpp_r s _ _ (by omega) (by omega) (by omega) (by omega))
        have hz4 : zstS (4, Rs, w, 4, 0, [], [], 0, 0, [], E1, K1) (T t1) (V t1) (P t1) = if T t1 = 8 then .inr (3, Rs, w, 4, 0, E1 ++ (zpop 1 K1).1, [], 1, 0, [], [], []) else if T t1 = 10 then .inr (0, Rs ++ [(4, 0, E1 ++ (zpop 1 K1).1, [])], w, 0, 0, [], [], 0, 0, [], [], []) else .inl 1 := by
          show zstp 4 Rs w 4 0 [] [] 0 0 [] E1 K1 (T t1) (V t1) (P t1) = _
          unfold zstp
          rw [if_neg (show ¬ (4 : Nat) = 0 by omega), if_neg (show ¬ (4 : Nat) = 1 by omega), if_neg (show ¬ (4 : Nat) = 2 by omega), if_neg (show ¬ (4 : Nat) = 3 by omega), if_neg (show ¬ 0 < zrnk (T t1) by omega), if_neg (show ¬ 0 < zopn K1 by omega), if_pos (show (0 : Nat) = 0 from rfl)]
        refine m_L254 (k := 4) (n := 0) (L := E1 ++ (zpop 1 K1).1) (t := t1) (b := b + (E1 ++ (zpop 1 K1).1).length) (kk := kk) (w := w) hN hs hn hT hV ?_ (S := (4, Rs, w, 4, 0, [], [], 0, 0, [], E1, K1)) (show (4 : Nat) ≠ 0 by omega) d9 (fun z => by rw [hz4, if_pos z]) (fun z _ z2 => by rw [hz4, if_neg z, if_pos z2]) (fun z _ z2 => by rw [hz4, if_neg z, if_neg z2]) (fun _ z => absurd rfl z) (by omega) (by rw [← ho1]; exact d10.symm) hfZ (by omega) (by omega)
        have z69 : ∀ j, j = 19 ∨ j = 15 ∨ j = 16 → Z.1 69 j = M.1 69 j := fun j hj => by rw [zo 69 (by omega), y2.2.2.1 j (by omega) (by omega) (by omega) (by omega) (by omega) (by omega), x69 j (by omega)]
        refine ⟨m_at_c d1 (by rw [zo 69 (by omega)]) (by rw [zo 69 (by omega)]), ?_, ?_, ?_, ?_, ?_, hRs _ _ (by omega) (fun a i b1 b2 hi => ?_) (fun a i b1 b2 => ?_) (fun i hi => ?_), ?_, ?_, ⟨b, ?_, ?_, u8, Nat.le_refl _, ?_⟩, d8, by omega, ?_, Nat.le_refl _⟩
        · rw [zo 69 (by omega)]; exact d3
        · rw [zo 69 (by omega)]; exact d6
        · rw [z69 19 (by omega)]; exact u4
        · rw [zo 77 (by omega), yr 77 (by omega) (by omega) (by omega) (by omega), xo 77 (by omega) (by omega) (by omega) (by omega)]; exact u5
        · rw [zo 84 (by omega), yr 84 (by omega) (by omega) (by omega) (by omega), xo 84 (by omega) (by omega) (by omega) (by omega)]; exact u6
        · rw [← hZ, zpI_1, if_neg (fun z => hi z.2), yr a (by omega) (by omega) (by omega) (by omega)]
        · rw [zo a (by omega), yr a (by omega) (by omega) (by omega) (by omega)]
        · rw [zo 89 (by omega), zo 90 (by omega)]; exact y2.2.2.2 i (Or.inl hi)
        · rw [zo 78 (by omega), y78]; rfl
        · rw [zo 79 (by omega), yr 79 (by omega) (by omega) (by omega) (by omega)]; exact x79
        · rw [zo 80 (by omega), yr 80 (by omega) (by omega) (by omega) (by omega)]; exact x80
        · rw [← hZ, zpI_1, if_pos ⟨rfl, rfl⟩]
        · exact zsegR_c (M := Y) (zo 89 (by omega)) (zo 90 (by omega)) _ _ d7
        · exact zwst_m u11 (z69 15 (by omega)) (z69 16 (by omega)) (by omega)
    · obtain ⟨hB, hfB⟩ := plain c4'
      rw [if_neg c4', if_neg (nI_ne0 (by omega) (by omega))]
      unfold fX12_tellRule_L151
      rw [x32, z_stI (by omega) (by omega), zbd_some, z_ldI (by omega) (by omega), zbd_some, zpI_r _ _ (show 78 ≠ 81 by omega), x78, if_neg c4', zbd_some, show (2 : Int32) = nI 2 from rfl, show (4 : Int32) = nI 4 from rfl, zif_eq (by omega) (by omega), zif_eq (by omega) (by omega)]
      rw [if_neg c4'] at ho1 hPn
      by_cases c6 : T t = 6
      · rw [if_neg (by omega), if_neg (by omega)]
        rw [if_pos c6] at ho1 hPn
        rw [c6] at ho1 hPn hB
        have hz2 : zstS (2, Rs, w, 6, 0, [], [], 0, 0, [], [], []) (T (t + 1)) (V (t + 1)) (P (t + 1)) = if T (t + 1) = 8 then .inr (3, Rs, w, 6, 0, [], [], 1, 0, [], [], []) else .inl 1 := rfl
        exact m_L254 hN hs hn hT hV hB (S := (2, Rs, w, 6, 0, [], [], 0, 0, [], [], [])) (show (2 : Nat) ≠ 0 by omega) hPn (fun z => by rw [hz2, if_pos z]) (fun _ z => absurd z (by omega)) (fun _ z => absurd z (by omega)) (fun z _ => by rw [hz2, if_neg z]) (by omega) ho1 hfB (by omega) u8
      · rw [if_neg c6] at ho1 hPn
        have hL := m_L181 hN hs hn hT hV hP hB hPn (by omega) ho1 hfB (show t0 ≤ t + 1 by omega) u8
        by_cases c5 : T t = 5
        · rw [if_pos (by omega)]; exact hL
        · rw [if_neg (by omega), if_pos (by omega)]; exact hL
  · rw [m_next4 (zTRg_p hf0 hT) hA0 (by omega), zbd_some, z_stI (by omega) (by omega), zbd_some, z_stI (by omega) (by omega), zbd_some]
    generalize hX : zpI (zpI (zpI (zpI X0 69 13 (nI 2)) 69 14 (nI (P t))) 80 (20 * s + Rs.length) ((zpI (zpI X0 69 13 (nI 2)) 69 14 (nI (P t))).1 69 32)) 79 (20 * s + Rs.length) 0 = X
    have hF : zFl P 2 t X := by
      rw [← hX]
      exact ⟨rfl, Or.inr rfl, rfl, t, a2, hA0.1⟩
    have x19 : X.1 69 19 = nI s := by
      rw [← hX]
      show X0.1 69 19 = nI s
      rw [o0 69 (by omega)]; exact u4
    have hfX : zfpp s M0 X := by
      rw [← hX]
      exact zfpp_tr hf0 (zfpp_tr (zfpp_1 s _ _ (by omega)) (zfpp_tr (zfpp_1 s _ _ (by omega)) (zfpp_tr (zfpp_r s _ _ (by omega) (by omega) (by omega) (by omega)) (zfpp_r s _ _ (by omega) (by omega) (by omega) (by omega)))))
    have hoo : o = .inl (2, t) := by rw [← ho]; exact zRn_room (by omega) hne hz
    have hF2 : zFl P 2 t (zpI X 69 36 0) := ⟨hF.1, hF.2.1, hF.2.2.1, hF.2.2.2⟩
    rw [z_ldI (by omega) (by omega), zbd_some, f_expr (by omega) hF, zbd_some]
    obtain ⟨W1, w1, w2, w3⟩ := f_L151 (N := N) (x2 := 20 * s + Rs.length) hs (by omega) (by omega) x19 hF
    obtain ⟨W2, z1, z2, z3⟩ := f_L151 (N := N) (x2 := 20 * s + Rs.length) (M := zpI X 69 36 0) hs (by omega) (by omega) x19 hF2
    rw [w1, z1]
    split
    · exact ⟨W2, rfl, zfpp_tr hfX (zfpp_tr (zfpp_1 s _ _ (by omega)) z3), Or.inl ⟨2, t, z2, hoo⟩⟩
    · exact ⟨W1, rfl, zfpp_tr hfX w3, Or.inl ⟨2, t, w2, hoo⟩⟩
theorem m_tellRule (hN : 500 < N) (hs : s < 2) (hT : zTRg T V P M0) (hV : zVal T V P) (hP : ∀ x y, x < y → (∀ z, z < y → T z ≠ 0) → P x < P y) (h : zRR T P s Rs w t b kk M) (hPI : zPIc 0 Rs w 0 0 [] [] 0 0 [] [] []) (h0 : T t ≠ 0) (ho : zRn T V P t (0, Rs, w, 0, 0, [], [], 0, 0, [], [], []) = o) (hf : zfpp s M0 M) (ht0 : t0 ≤ t) : zTP T V P s t0 o M0 (fX12_tellRule N M) := by
  obtain ⟨u1, u2, u3, u4, u5, u6, u7, u8, u9, u10, u11⟩ := id h
  have a2 := u1.2.1
  have hTM : zTRg T V P M := zTRg_p hf hT
  have h20 := hPI.2.2.1
  have hne : ¬ (T t = 0 ∧ ((0, Rs, w, 0, 0, [], [], 0, 0, [], [], []) : zSta).1 = 0) := fun z => h0 z.1
  have hz : zstS (0, Rs, w, 0, 0, [], [], 0, 0, [], [], []) (T t) (V t) (P t) = if T t = 4 ∨ T t = 5 ∨ T t = 6 ∨ T t = 7 then (if Rs.length < 20 then .inr (if T t = 4 then 3 else if T t = 6 then 2 else 1, Rs, w, T t, 0, [], [], 0, 0, [], [], []) else .inl 2) else .inl 1 := by
    show zstp 0 Rs w 0 0 [] [] 0 0 [] [] [] (T t) (V t) (P t) = _
    unfold zstp
    rw [if_pos rfl]
  have yes : (T t = 4 ∨ T t = 5 ∨ T t = 6 ∨ T t = 7) → zTP T V P s t0 o M0 (fX12_tellRule_L36 N M) := by
    intro hc
    rw [if_pos hc] at hz
    unfold fX12_tellRule_L36 fX12_tellRule_L41
    rw [if_neg (show ¬ (1 : Int32) = 0 by decide), u4, z_ldI hs (by omega), zbd_some, u5, show (20 : Int32) = nI 20 from rfl, zif_eq (by omega) (by omega)]
    by_cases n20 : Rs.length = 20
    · rw [if_neg (by omega)] at hz
      have hF : zFl P 2 t (zpI (zpI M 69 13 (nI 2)) 69 14 (nI (P t))) := m_flt u1 (Or.inr rfl)
      rw [if_pos n20, show (2 : Int32) = nI 2 from rfl, m_fail hTM u1 2, zbd_some, f_L73 hF]
      refine ⟨_, rfl, zfpp_tr hf (zfpp_tr (zfpp_1 s _ _ (by omega)) (zfpp_1 s _ _ (by omega))), Or.inl ⟨2, t, hF, ?_⟩⟩
      rw [← ho]; exact zRn_bad a2 hne hz
    · rw [if_neg n20]
      exact m_L73 hN hs hT hV hP h (by omega) hPI hc ho hf ht0
  unfold fX12_tellRule
  rw [show (20 : Int32) = nI (zck 4 0) from rfl, show (22 : Int32) = nI (zck 5 0) from rfl, show (23 : Int32) = nI (zck 6 0) from rfl, show (24 : Int32) = nI (zck 7 0) from rfl, m_is hTM hV u1 4 (by omega) (by omega) (by omega), zb2_some, m_is hTM hV u1 5 (by omega) (by omega) (by omega), zb2_some, m_is hTM hV u1 6 (by omega) (by omega) (by omega), zb2_some, m_is hTM hV u1 7 (by omega) (by omega) (by omega), zb2_some]
  by_cases c4 : T t = 4
  · rw [if_pos c4, if_neg (show ¬ nI 1 = 0 by decide)]; exact yes (by omega)
  rw [if_neg c4, if_pos (show nI 0 = 0 from rfl)]
  by_cases c5 : T t = 5
  · rw [if_pos c5, if_neg (show ¬ nI 1 = 0 by decide)]; exact yes (by omega)
  rw [if_neg c5, if_pos (show nI 0 = 0 from rfl)]
  by_cases c6 : T t = 6
  · rw [if_pos c6, if_neg (show ¬ nI 1 = 0 by decide)]; exact yes (by omega)
  rw [if_neg c6, if_pos (show nI 0 = 0 from rfl)]
  by_cases c7 : T t = 7
  · rw [if_pos c7, if_neg (show ¬ nI 1 = 0 by decide)]; exact yes (by omega)
  rw [if_neg c7, if_pos (show nI 0 = 0 from rfl)]
  rw [if_neg (by omega)] at hz
  unfold fX12_tellRule_L41
  have hF : zFl P 1 t (zpI (zpI M 69 13 (nI 1)) 69 14 (nI (P t))) := m_flt u1 (Or.inl rfl)
  rw [if_pos rfl, show (1 : Int32) = nI 1 from rfl, m_fail hTM u1 1, zbd_some, f_L73 hF]
  refine ⟨_, rfl, zfpp_tr hf (zfpp_tr (zfpp_1 s _ _ (by omega)) (zfpp_1 s _ _ (by omega))), Or.inl ⟨1, t, hF, ?_⟩⟩
  rw [← ho]; exact zRn_bad a2 hne hz
end RSIM7
