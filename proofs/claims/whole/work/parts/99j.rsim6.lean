/-! READ: the reference tells a rule -/
section RSIM6
variable {T V P : Nat → Nat} {t t0 : Nat} {M M0 : zMem} {N : Nat} {Rs : List zRl} {w : Option Nat} {k n : Nat} {L : zTm} {Cs : List zRe} {sd q : Nat} {A E : zTm} {K : List Nat} {b s kk kc : Nat} {o : (Nat × Nat) ⊕ (List zRl × Option Nat)}
theorem zRB_c {W : zMem} {t' b' : Nat} {w' : Option Nat} (hA : zAt T t' W) (ht : t ≤ t') (hb : b' = b) (h1 : ∀ a, a ≠ 69 → a ≠ 82 → W.1 a = M.1 a) (h2 : ∀ i, i < 20 * s + Rs.length → W.1 82 i = M.1 82 i) (h3 : ∀ j, j = 12 ∨ j = 32 ∨ j = 19 → W.1 69 j = M.1 69 j) (hw : zwst P w' t' W) (h : zRB T P s Rs w k n L t b kk kc M) : zRB T P s Rs w' k n L t' b' kk kc W := by
  obtain ⟨y1, y2, y3, y4, y5, y6, y7, y8, y9, ⟨z0, y10, y11, y12, y13, y14⟩, y15, y16, y17, y18⟩ := h
  rw [hb]
  refine ⟨hA, by rw [h3 12 (by omega)]; exact y2, by rw [h3 32 (by omega)]; exact y3, by rw [h3 19 (by omega)]; exact y4, by rw [h1 77 (by omega) (by omega)]; exact y5, by rw [h1 84 (by omega) (by omega)]; exact y6, fun j hj => zruR_c (M := M) (fun a a1 a2 => ?_) (fun a i a1 a2 _ => by rw [h1 a (by omega) (by omega)]) (fun i _ => by rw [h1 89 (by omega) (by omega), h1 90 (by omega) (by omega)]; exact ⟨rfl, rfl⟩) (Nat.le_refl _) (Nat.le_refl _) (y7 j hj), by rw [h1 78 (by omega) (by omega)]; exact y8, by rw [h1 79 (by omega) (by omega)]; exact y9, ⟨z0, by rw [h1 80 (by omega) (by omega)]; exact y10, by rw [h1 81 (by omega) (by omega)]; exact y11, y12, y13, zsegR_c (h1 89 (by omega) (by omega)) (h1 90 (by omega) (by omega)) _ _ y14⟩, by omega, by omega, hw, y18⟩
  by_cases a3 : a = 82
  · rw [a3, h2 _ (by omega)]
  · rw [h1 a (by omega) a3]
theorem m_L254 (hN : 500 < N) (hs : s < 2) (hn : Rs.length < 20) (hT : zTRg T V P M0) (hV : zVal T V P) (h : zRB T P s Rs w k n L t b kk kk M) {S : zSta} (hS : S.1 ≠ 0) (hPI : zPI S) (h8 : T t = 8 → zstS S (T t) (V t) (P t) = .inr (3, Rs, w, k, n, L, [], 1, 0, [], [], [])) (h4a : T t ≠ 8 → k = 4 → T t = 10 → zstS S (T t) (V t) (P t) = .inr (0, Rs ++ [(k, n, L, [])], w, 0, 0, [], [], 0, 0, [], [], [])) (h4b : T t ≠ 8 → k = 4 → T t ≠ 10 → zstS S (T t) (V t) (P t) = .inl 1) (hk : T t ≠ 8 → k ≠ 4 → zstS S (T t) (V t) (P t) = .inl 1) (hk8 : k = 4 ∨ k = 5 ∨ k = 6 ∨ k = 7) (ho : zRn T V P t S = o) (hf : zfpp s M0 M) (ht0 : t0 ≤ t) (hb5 : 500 * s ≤ b) : zTP T V P s t0 o M0 (fX12_tellRule_L254 N (nI (20 * s + Rs.length)) M) := by
  obtain ⟨u1, u2, u3, u4, u5, u6, u7, u8, u9, u10, u15, u16, u17, u18⟩ := id h
  have a2 := u1.2.1
  obtain ⟨v1, v2, v3, v4⟩ := hV t
  have hne : ¬ (T t = 0 ∧ S.1 = 0) := fun z => hS z.2
  unfold fX12_tellRule_L254
  rw [u4, z_ldI hs (by omega), zbd_some, u6, z_stI (by omega) (by omega), zbd_some]
  generalize hX : zpI M 82 (20 * s + Rs.length) (nI kk) = X
  have xo : ∀ a, a ≠ 82 → X.1 a = M.1 a := fun a ha => by rw [← hX, zpI_r _ _ ha]
  have hfX : zfpp s M0 X := by
    rw [← hX]
    exact zfpp_tr hf (zfpp_r s _ _ (by omega) (by omega) (by omega) (by omega))
  have hTX : zTRg T V P X := zTRg_p hfX hT
  have hAX : zAt T t X := m_at_c u1 (by rw [xo 69 (by omega)]) (by rw [xo 69 (by omega)])
  have hBX : zRB T P s Rs w k n L t b kk kk X := zRB_c (M := M) hAX (Nat.le_refl t) rfl (fun a _ a2 => xo a a2) (fun i hi => by rw [← hX, zpI_1, if_neg (by omega)]) (fun j _ => by rw [xo 69 (by omega)]) (zwst_m u17 (by rw [xo 69 (by omega)]) (by rw [xo 69 (by omega)]) (Nat.le_refl t)) h
  have h82 : X.1 82 (20 * s + Rs.length) = nI kk := by rw [← hX, zpI_1, if_pos ⟨rfl, rfl⟩]
  rw [show (21 : Int32) = nI (zck 8 0) from rfl, m_is hTX hV hAX 8 (by omega) (by omega) (by omega), zb2_some]
  have x78 : X.1 78 (20 * s + Rs.length) = nI (if k = 4 then 0 else k - 3) := by rw [xo 78 (by omega)]; exact u8
  unfold fX12_tellRule_L289 fX12_tellRule_L295 fX12_must
  by_cases c8 : T t = 8
  · have hz := h8 c8
    have hPn : zPIc 3 Rs w k n L [] 1 0 [] [] [] := zPI_step hPI v2 v3 v4 hz
    rw [if_pos c8, if_neg (show ¬ nI 1 = 0 by decide), show (21 : Int32) = nI (zck 8 0) from rfl, m_is hTX hV hAX 8 (by omega) (by omega) (by omega), zb2_some, if_pos c8, if_neg (show ¬ nI 1 = 0 by decide)]
    by_cases t4 : t < 400
    · rw [m_next hAX t4, zbd_some, zbd_some, if_neg (show ¬ nI 1 = 0 by decide)]
      refine m_C (kk := kk) hN hs hn hT hV (400 - (t + 1)) (t + 1) N [] b _ (by omega) (by omega) (by omega) ⟨?_, ?_, trivial⟩ hPn (zfpp_tr hfX (zfpp_1 s _ _ (by omega))) (by rw [← ho]; exact (zRn_go t4 hne hz).symm) hb5
      · exact zRB_c (M := X) (m_at1 hAX t4 (by omega) rfl rfl) (by omega) rfl (fun a a1 _ => zpI_r _ _ a1) (fun i _ => by rw [zpI_r _ _ (by omega)]) (fun j hj => by rw [zpI_1, if_neg (by omega)]) (zwst_m hBX.2.2.2.2.2.2.2.2.2.2.2.2.1 rfl rfl (by omega)) hBX
      · rw [zpI_r _ _ (by omega)]; exact h82
    · rw [m_next4 hTX hAX (by omega), zbd_some, zbd_some, if_neg (show ¬ nI 1 = 0 by decide)]
      have hF : zFl P 2 t (zpI (zpI X 69 13 (nI 2)) 69 14 (nI (P t))) := m_flt hAX (Or.inr rfl)
      obtain ⟨Y, y1, y2, y3⟩ := f_relation (N := N) (by omega) hF
      obtain ⟨m2, rfl⟩ : ∃ m2, N = m2 + 1 := ⟨N - 1, by omega⟩
      rw [y1, zbd_some, f_L303 y2]
      refine ⟨Y, rfl, zfpp_tr hfX (zfpp_tr (zfpp_tr (zfpp_1 s _ _ (by omega)) (zfpp_1 s _ _ (by omega))) (zfpp_e (y3 (500 * s) (500 * s)) (Nat.le_refl _))), Or.inl ⟨2, t, y2, ?_⟩⟩
      rw [← ho]; exact zRn_room (by omega) hne hz
  · rw [if_neg c8, if_pos (show nI 0 = 0 from rfl), z_ldI (by omega) (by omega), zbd_some, x78]
    by_cases k4 : k = 4
    · rw [if_pos k4, if_pos (show nI 0 = 0 from rfl), if_pos (show nI 0 = 0 from rfl)]
      exact m_L323 (Cs := []) (b := b) (kk := kk) hs hn hTX hV ⟨hBX, h82, trivial⟩ hS hPI (h4a c8 k4) (h4b c8 k4) ho hfX ht0
    · rw [if_neg k4, if_neg (nI_ne0 (by omega) (by omega)), show (21 : Int32) = nI (zck 8 0) from rfl, m_is hTX hV hAX 8 (by omega) (by omega) (by omega), zb2_some, if_neg c8, if_pos (show nI 0 = 0 from rfl), show (1 : Int32) = nI 1 from rfl, m_fail hTX hAX 1, zbd_some, zbd_some, if_pos (show nI 0 = 0 from rfl), f_L323 (m_flt (P := P) hAX (Or.inl rfl))]
      refine ⟨_, rfl, zfpp_tr hfX (zfpp_tr (zfpp_1 s _ _ (by omega)) (zfpp_1 s _ _ (by omega))), Or.inl ⟨1, t, m_flt hAX (Or.inl rfl), ?_⟩⟩
      rw [← ho]; exact zRn_bad a2 hne (hk c8 k4)
/-- a fault stands -/
theorem f_L254 {g u x2 : Nat} (hs : s < 2) (hx : 20 * s ≤ x2) (hx2 : x2 < 20 * s + 20) (h19 : M.1 69 19 = nI s) (h : zFl P g u M) : ∃ W, fX12_tellRule_L254 N (nI x2) M = some W ∧ zFl P g u W ∧ zfpp s M W := by
  have hF : zFl P g u (zpI M 82 x2 (M.1 84 s)) := ⟨h.1, h.2.1, h.2.2.1, h.2.2.2⟩
  refine ⟨zpI M 82 x2 (M.1 84 s), ?_, hF, zfpp_r s _ _ (by omega) (by omega) hx hx2⟩
  unfold fX12_tellRule_L254 fX12_tellRule_L289 fX12_tellRule_L295
  rw [h19, z_ldI hs (by omega), zbd_some, z_stI (by omega) (by omega), zbd_some, f_is hF, zb2_some, if_pos rfl, z_ldI (by omega) (by omega), zbd_some, f_must hF, zbd_some, if_pos rfl, f_L323 hF, ite_self]
theorem f_L151 {g u x2 : Nat} (hs : s < 2) (hx : 20 * s ≤ x2) (hx2 : x2 < 20 * s + 20) (h19 : M.1 69 19 = nI s) (h : zFl P g u M) : ∃ W, fX12_tellRule_L151 N (nI x2) M = some W ∧ zFl P g u W ∧ zfpp s M W := by
  have hF : zFl P g u (zpI M 81 x2 (M.1 69 32)) := ⟨h.1, h.2.1, h.2.2.1, h.2.2.2⟩
  have hf1 : zfpp s M (zpI M 81 x2 (M.1 69 32)) := zfpp_r s _ _ (by omega) (by omega) hx hx2
  have l181 : fX12_tellRule_L181 N (nI x2) (zpI M 81 x2 (M.1 69 32)) = some (zpI M 81 x2 (M.1 69 32)) := by
    unfold fX12_tellRule_L181
    rw [zlet_eq, f_must hF, zbd_some, if_neg (f_ne hF).2]
  unfold fX12_tellRule_L151
  rw [z_stI (by omega) (by omega), zbd_some, z_ldI (by omega) (by omega), zbd_some, zbd_some, l181]
  obtain ⟨W, w1, w2, w3⟩ := f_L254 (N := N) (x2 := x2) hs hx hx2 (show (zpI M 81 x2 (M.1 69 32)).1 69 19 = nI s from h19) hF
  rw [w1]
  by_cases q1 : (zpI M 81 x2 (M.1 69 32)).1 78 x2 = 2
  · rw [if_pos q1]; exact ⟨_, rfl, hF, hf1⟩
  · rw [if_neg q1]
    by_cases q2 : (zpI M 81 x2 (M.1 69 32)).1 78 x2 = 4
    · rw [if_pos q2]; exact ⟨_, rfl, hF, hf1⟩
    · rw [if_neg q2]; exact ⟨W, rfl, w2, zfpp_tr hf1 w3⟩
/-- the number of a rule -/
theorem m_L181 (hN : 500 < N) (hs : s < 2) (hn : Rs.length < 20) (hT : zTRg T V P M0) (hV : zVal T V P) (hP : ∀ x y, x < y → (∀ z, z < y → T z ≠ 0) → P x < P y) (h : zRB T P s Rs w k 0 [] t b kk kk M) (hPI : zPIc 1 Rs w k 0 [] [] 0 0 [] [] []) (hk : k = 5 ∨ k = 7) (ho : zRn T V P t (1, Rs, w, k, 0, [], [], 0, 0, [], [], []) = o) (hf : zfpp s M0 M) (ht0 : t0 ≤ t) (hb5 : 500 * s ≤ b) : zTP T V P s t0 o M0 (fX12_tellRule_L181 N (nI (20 * s + Rs.length)) M) := by
  obtain ⟨u1, u2, u3, u4, u5, u6, u7, u8, u9, u10, u15, u16, u17, u18⟩ := id h
  obtain ⟨a1, a2, a3, a4⟩ := id u1
  obtain ⟨v1, v2, v3, v4⟩ := hV t
  have hTM : zTRg T V P M := zTRg_p hf hT
  obtain ⟨c, c1, c2, c3, c4⟩ := hTM t a2 a3
  have hne : ¬ (T t = 0 ∧ ((1, Rs, w, k, 0, [], [], 0, 0, [], [], []) : zSta).1 = 0) := fun z => absurd z.2 (show ¬ (1 : Nat) = 0 by omega)
  have hz : zstS (1, Rs, w, k, 0, [], [], 0, 0, [], [], []) (T t) (V t) (P t) = if T t = 2 then .inr (2, Rs, (if (k = 7 ∧ 1 ≤ V t ∧ V t ≤ 60) ∨ (k ≠ 7 ∧ V t ≤ 7) then w else zwr w (P t)), k, V t, [], [], 0, 0, [], [], []) else .inl 1 := rfl
  unfold fX12_tellRule_L181 fX12_must
  rw [zlet_eq, a1, show (2 : Int32) = nI (zck 2 0) from rfl, m_is hTM hV u1 2 (by omega) (by omega) (by omega), zb2_some]
  by_cases c2' : T t = 2
  · rw [if_pos c2'] at hz
    have v10 := v2 c2'
    have hPn := zPI_step hPI v2 v3 v4 hz
    rw [if_pos c2', if_neg (show ¬ nI 1 = 0 by decide)]
    by_cases t4 : t < 400
    · rw [m_next u1 t4, zbd_some, zbd_some]
      have hA1 : zAt T (t + 1) (zpI M 69 11 (nI (t + 1))) := m_at1 u1 t4 (by omega) rfl rfl
      rw [if_pos (show (zpI M 69 11 (nI (t + 1))).1 69 13 ≤ 0 from by rw [hA1.2.2.2]; decide), z_ldI (by omega) (by omega), zbd_some, zpI_r _ _ (show 74 ≠ 69 by omega), c4 c2', z_stI (by omega) (by omega), zbd_some]
      generalize hX : zpI (zpI M 69 11 (nI (t + 1))) 79 (20 * s + Rs.length) (nI (V t)) = X
      have xo : ∀ a, a ≠ 69 → a ≠ 79 → X.1 a = M.1 a := fun a b1 b2 => by rw [← hX, zpI_r _ _ b2, zpI_r _ _ b1]
      have x69 : ∀ j, j ≠ 11 → X.1 69 j = M.1 69 j := fun j hj => by rw [← hX, zpI_r _ _ (by omega), zpI_1, if_neg (fun z => hj z.2)]
      have hfX : zfpp s M0 X := by
        rw [← hX]
        exact zfpp_tr hf (zfpp_tr (zfpp_1 s _ _ (by omega)) (zfpp_r s _ _ (by omega) (by omega) (by omega) (by omega)))
      have hAX : zAt T (t + 1) X := m_at1 u1 t4 (by omega) (by rw [← hX]; rfl) (x69 13 (by omega))
      have hBX : zRB T P s Rs w k (V t) [] (t + 1) b kk kk X := by
        obtain ⟨z0, y10, y11, y12, y13, y14⟩ := u10
        refine ⟨hAX, by rw [x69 12 (by omega)]; exact u2, by rw [x69 32 (by omega)]; exact u3, by rw [x69 19 (by omega)]; exact u4, by rw [xo 77 (by omega) (by omega)]; exact u5, by rw [xo 84 (by omega) (by omega)]; exact u6, fun j hj => zruR_c (M := M) (fun a a1 a2 => ?_) (fun a i a1 a2 _ => by rw [xo a (by omega) (by omega)]) (fun i _ => by rw [xo 89 (by omega) (by omega), xo 90 (by omega) (by omega)]; exact ⟨rfl, rfl⟩) (Nat.le_refl _) (Nat.le_refl _) (u7 j hj), by rw [xo 78 (by omega) (by omega)]; exact u8, by rw [← hX, zpI_1, if_pos ⟨rfl, rfl⟩], ⟨z0, by rw [xo 80 (by omega) (by omega)]; exact y10, by rw [xo 81 (by omega) (by omega)]; exact y11, y12, y13, trivial⟩, by omega, by omega, zwst_m u17 (x69 15 (by omega)) (x69 16 (by omega)) (by omega), u18⟩
        by_cases b3 : a = 79
        · rw [b3, ← hX, zpI_1, if_neg (by omega), zpI_r _ _ (by omega)]
        · rw [xo a (by omega) b3]
      have x78 : X.1 78 (20 * s + Rs.length) = nI (k - 3) := by
        rw [xo 78 (by omega) (by omega), u8, if_neg (by omega)]
      have x73 : X.1 73 t = nI (P t) := by rw [xo 73 (by omega) (by omega)]; exact c3
      -- both ways on
      have go254 : ∀ (Y : zMem) (w' : Option Nat), zRB T P s Rs w' k (V t) [] (t + 1) b kk kk Y → zfpp s M0 Y → zPIc 2 Rs w' k (V t) [] [] 0 0 [] [] [] → zRn T V P (t + 1) (2, Rs, w', k, V t, [], [], 0, 0, [], [], []) = o → zTP T V P s t0 o M0 (fX12_tellRule_L254 N (nI (20 * s + Rs.length)) Y) := by
        intro Y w' g1 g2 g3 g4
        have hz2 : zstS (2, Rs, w', k, V t, [], [], 0, 0, [], [], []) (T (t + 1)) (V (t + 1)) (P (t + 1)) = if T (t + 1) = 8 then .inr (3, Rs, w', k, V t, [], [], 1, 0, [], [], []) else .inl 1 := rfl
        exact m_L254 hN hs hn hT hV g1 (S := (2, Rs, w', k, V t, [], [], 0, 0, [], [], [])) (show (2 : Nat) ≠ 0 by omega) g3 (fun z => by rw [hz2, if_pos z]) (fun _ z => absurd z (by omega)) (fun _ z => absurd z (by omega)) (fun z _ => by rw [hz2, if_neg z]) (by omega) g4 g2 (by omega) hb5
      have l248 : (¬ ((k = 7 ∧ 1 ≤ V t ∧ V t ≤ 60) ∨ (k ≠ 7 ∧ V t ≤ 7))) → zTP T V P s t0 o M0 (fX12_tellRule_L248 N (nI (20 * s + Rs.length)) (nI t) X) := by
        intro bad
        rw [if_neg bad] at hz hPn
        have hgo : zRn T V P (t + 1) (2, Rs, zwr w (P t), k, V t, [], [], 0, 0, [], [], []) = o := by rw [← ho]; exact (zRn_go t4 hne hz).symm
        unfold fX12_tellRule_L248 fX12_wrong fX12_wrong_L46
        rw [z_ldI (by omega) (by omega), zbd_some, x73, if_neg (show ¬ 0 < X.1 69 13 from by rw [hAX.2.2.2]; decide)]
        obtain ⟨g1, g2⟩ := u17
        cases w with
        | none =>
          rw [if_pos (show X.1 69 15 = 0 from by rw [x69 15 (by omega)]; exact g1 rfl), zlet_eq, zlet_eq, zbd_some]
          refine go254 _ (some (P t)) ?_ (zfpp_tr hfX (zfpp_tr (zfpp_1 s _ _ (by omega)) (zfpp_1 s _ _ (by omega)))) hPn hgo
          refine zRB_c (M := X) (m_at_c hAX rfl rfl) (Nat.le_refl _) rfl (fun a b1 _ => by rw [zpI_r _ _ b1, zpI_r _ _ b1]) (fun i _ => by rw [zpI_r _ _ (by omega), zpI_r _ _ (by omega)]) (fun j hj => by rw [zpI_1, if_neg (by omega), zpI_1, if_neg (by omega)]) ⟨fun z => absurd z (by simp), fun p hp => ?_⟩ hBX
          cases hp
          exact ⟨rfl, rfl, t, by omega, rfl⟩
        | some y =>
          obtain ⟨y1, y2, x, y3, y4⟩ := g2 y rfl
          have hyP : y < P t := by rw [y4]; exact hP x t y3 a3
          rw [if_neg (show ¬ X.1 69 15 = 0 from by rw [x69 15 (by omega), y1]; decide), if_pos (show X.1 69 16 < nI (P t) from by rw [x69 16 (by omega), y2, z_lt (by omega) (by omega)]; exact hyP), zbd_some]
          exact go254 X (some y) hBX hfX hPn hgo
      have lok : ((k = 7 ∧ 1 ≤ V t ∧ V t ≤ 60) ∨ (k ≠ 7 ∧ V t ≤ 7)) → zTP T V P s t0 o M0 (fX12_tellRule_L254 N (nI (20 * s + Rs.length)) X) := by
        intro good
        rw [if_pos good] at hz hPn
        exact go254 X w hBX hfX hPn (by rw [← ho]; exact (zRn_go t4 hne hz).symm)
      rw [z_ldI (by omega) (by omega), zbd_some, x78, show nI (zck 2 0) = nI 2 from rfl, show (7 : Int32) = nI 7 from rfl, show (1 : Int32) = nI 1 from rfl, show (60 : Int32) = nI 60 from rfl, zif_eq (by omega) (by omega), zif_le (by omega) (by omega), zif_lt (by omega) (by omega), zif_le (by omega) (by omega)]
      by_cases k5 : k = 5
      · rw [if_pos (by omega)]
        by_cases q1 : V t ≤ 7
        · rw [if_pos q1]; exact lok (by omega)
        · rw [if_neg q1]; exact l248 (by omega)
      · rw [if_neg (by omega)]
        by_cases q1 : V t < 1
        · rw [if_pos q1]; exact l248 (by omega)
        · rw [if_neg q1]
          by_cases q2 : V t ≤ 60
          · rw [if_pos q2]; exact lok (by omega)
          · rw [if_neg q2]; exact l248 (by omega)
    · rw [m_next4 hTM u1 (by omega), zbd_some, zbd_some]
      have hF : zFl P 2 t (zpI (zpI M 69 13 (nI 2)) 69 14 (nI (P t))) := m_flt u1 (Or.inr rfl)
      rw [if_neg (f_ne hF).2]
      refine ⟨_, rfl, zfpp_tr hf (zfpp_tr (zfpp_1 s _ _ (by omega)) (zfpp_1 s _ _ (by omega))), Or.inl ⟨2, t, hF, ?_⟩⟩
      rw [← ho]; exact zRn_room (by omega) hne hz
  · rw [if_neg c2'] at hz
    rw [if_neg c2', if_pos (show nI 0 = 0 from rfl), show (1 : Int32) = nI 1 from rfl, m_fail hTM u1 1, zbd_some, zbd_some]
    have hF : zFl P 1 t (zpI (zpI M 69 13 (nI 1)) 69 14 (nI (P t))) := m_flt u1 (Or.inl rfl)
    rw [if_neg (f_ne hF).2]
    refine ⟨_, rfl, zfpp_tr hf (zfpp_tr (zfpp_1 s _ _ (by omega)) (zfpp_1 s _ _ (by omega))), Or.inl ⟨1, t, hF, ?_⟩⟩
    rw [← ho]; exact zRn_bad a2 hne hz
end RSIM6
