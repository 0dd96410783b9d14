/-! READ keeps the invariant -/
theorem z_255 (x : Int32) : ∃ m, m < 256 ∧ x &&& 255 = nI m := by
  refine ⟨(x.toBitVec &&& 255#32).toNat, ?_, ?_⟩
  · rw [BitVec.toNat_and]
    have h := Nat.and_le_right (n := x.toBitVec.toNat) (m := (255#32).toNat)
    have e : (255#32).toNat = 255 := by decide
    omega
  · apply Int32.toBitVec_inj.1
    show x.toBitVec &&& 255#32 = BitVec.ofNat 32 (x.toBitVec &&& 255#32).toNat
    rw [BitVec.ofNat_toNat, BitVec.setWidth_eq]
theorem zrlR_rels {M : zMem} {s cb : Nat} (hs : s < 2) (hc : cb ≤ 500 * s + 400) : ∀ (Cs : List zRe) (kk : Nat), zrlR M s cb kk Cs → (∀ y, y ∈ Cs → zgre y) → zrels M (200 * s) kk Cs
  | [], _, _, _ => trivial
  | x :: Cs, kk, ⟨⟨a, q1, q2, q3, q4, q5, q6, q7, q8⟩, q9⟩, hg => by
    obtain ⟨g1, g2, g3⟩ := hg x List.mem_cons_self
    exact ⟨⟨g1, g2, g3, a, q1, q2, q3, q4, ⟨by omega, by omega, by omega⟩, q7, q8⟩, zrlR_rels hs hc Cs (kk + 1) q9 (fun y hy => hg y (List.mem_cons_of_mem _ hy))⟩
theorem zrels_o {M W : zMem} {lv : Nat} (h2 : ∀ a i, 85 ≤ a → a ≤ 88 → 200 * lv ≤ i → i < 200 * lv + 200 → W.1 a i = M.1 a i) (h3 : ∀ i, 500 * lv ≤ i → i < 500 * lv + 500 → W.1 89 i = M.1 89 i ∧ W.1 90 i = M.1 90 i) : ∀ (Cs : List zRe) (kk : Nat), kk + Cs.length ≤ 200 → zrels M (200 * lv) kk Cs → zrels W (200 * lv) kk Cs
  | [], _, _, _ => trivial
  | x :: Cs, kk, hk, ⟨⟨g1, g2, g3, a, q1, q2, q3, q4, ⟨q5, q6, q7⟩, q8, q9⟩, q10⟩ => by
    rw [List.length_cons] at hk
    exact ⟨⟨g1, g2, g3, a, (h2 85 _ (by omega) (by omega) (by omega) (by omega)).trans q1, (h2 86 _ (by omega) (by omega) (by omega) (by omega)).trans q2, (h2 87 _ (by omega) (by omega) (by omega) (by omega)).trans q3, (h2 88 _ (by omega) (by omega) (by omega) (by omega)).trans q4, ⟨q5, q6, q7⟩, zsegR_d _ _ (fun i i1 i2 => h3 i (by omega) (by omega)) q8, zsegR_d _ _ (fun i i1 i2 => h3 i (by omega) (by omega)) q9⟩, zrels_o h2 h3 Cs (kk + 1) (by omega) q10⟩
/-- the rules in force stand while others are read -/
theorem gRules_o {r0 lv nr : Nat} {M W : zMem} (h1 : W.2.2 0 2 = M.2.2 0 2) (h2 : W.2.2 0 3 = M.2.2 0 3) (h18 : W.1 69 18 = M.1 69 18) (hA : ∀ a, r0 ≤ a → a < r0 + 7 → W.1 a = M.1 a) (h77 : W.1 77 lv = M.1 77 lv) (h78 : ∀ a i, 78 ≤ a → a ≤ 83 → 20 * lv ≤ i → i < 20 * lv + 20 → W.1 a i = M.1 a i) (h85 : ∀ a i, 85 ≤ a → a ≤ 88 → 200 * lv ≤ i → i < 200 * lv + 200 → W.1 a i = M.1 a i) (h89 : ∀ i, 500 * lv ≤ i → i < 500 * lv + 500 → W.1 89 i = M.1 89 i ∧ W.1 90 i = M.1 90 i) (h : gRules r0 lv nr M) : gRules r0 lv nr W := by
  obtain ⟨u0, u1, u2, u3, u4, u5, u6, u7, cs, u8, u9, R, u10⟩ := h
  refine ⟨u0, by rw [h1]; exact u1, by rw [h2]; exact u2, u3, by rw [h18]; exact u4, u5, by rw [hA r0 (by omega) (by omega)]; exact u6, by rw [h77]; exact u7, cs, u8, by rw [hA r0 (by omega) (by omega)]; exact u9, R, fun r hr => ?_⟩
  obtain ⟨v1, v2, v3, v4, v5, ⟨a, a1, a2, a3, a4, a5, a6⟩, v6, v7, ⟨b, b1, b2, b3, b4⟩, k, k1, k2, k3, k4⟩ := u10 r hr
  exact ⟨v1, v2, v3, by rw [hA _ (by omega) (by omega)]; exact v4, by rw [hA _ (by omega) (by omega)]; exact v5, ⟨a, by rw [hA _ (by omega) (by omega)]; exact a1, by rw [hA _ (by omega) (by omega)]; exact a2, by rw [hA _ (by omega) (by omega)]; exact a3, a4, zsegC_c (hA _ (by omega) (by omega)) _ _ a5, zsegC_c (hA _ (by omega) (by omega)) _ _ a6⟩, by rw [h78 78 _ (by omega) (by omega) (by omega) (by omega)]; exact v6, by rw [h78 79 _ (by omega) (by omega) (by omega) (by omega)]; exact v7, ⟨b, by rw [h78 80 _ (by omega) (by omega) (by omega) (by omega)]; exact b1, by rw [h78 81 _ (by omega) (by omega) (by omega) (by omega)]; exact b2, b3, zsegR_d _ _ (fun i i1 i2 => h89 i (by omega) (by omega)) b4⟩, k, by rw [h78 82 _ (by omega) (by omega) (by omega) (by omega)]; exact k1, by rw [h78 83 _ (by omega) (by omega) (by omega) (by omega)]; exact k2, k3, zrels_o h85 h89 _ _ k3 k4⟩
theorem zPI_0 : zPIc 0 [] none 0 0 [] [] 0 0 [] [] [] := ⟨by omega, by omega, by decide, fun z => absurd rfl z, fun _ => ⟨rfl, rfl, rfl, rfl, rfl, rfl⟩, fun z => absurd z (by omega), fun _ => ⟨rfl, rfl⟩, fun _ => rfl, fun z => absurd z (by omega), fun z => absurd z (by omega), fun x hx => absurd hx (List.not_mem_nil), fun x hx => absurd hx (List.not_mem_nil), ⟨0, rfl⟩, by decide, rfl, fun x hx => absurd hx (List.not_mem_nil), fun p z => by cases z⟩
theorem o_read {N : Nat} (hN : 3000000 < N) : zop (fX11_read N) (fX12_read N) := by
  refine z_opI (fun A B => lc_fX11_read _ A) (fun A B => lm_fX12_read _ B) ?_
  intro tl nv ns c no nc nst nn r0 lv nr M hM
  obtain ⟨hTape, hPlace, hTeam, hLearn, hBars, hClock, hCal, hGone, hOffers, hPres, hKept, hCalls, hHard, hNotes, hRules, hKeys⟩ := hM
  obtain ⟨t1, t2, t3, t4⟩ := hTape
  obtain ⟨u0, u1, u2, u3, u4, -⟩ := id hRules
  -- the bytes
  have hex : ∃ B : Nat → Nat, (∀ i, i < tl → B i < 256 ∧ M.1 2 i &&& 255 = nI (B i)) ∧ ∀ i, tl ≤ i → B i = 256 := by
    refine ⟨fun i => if i < tl then (z_255 (M.1 2 i)).choose else 256, fun i hi => ?_, fun i hi => if_neg (by omega)⟩
    have e : (if i < tl then (z_255 (M.1 2 i)).choose else 256) = (z_255 (M.1 2 i)).choose := if_pos hi
    show (if i < tl then (z_255 (M.1 2 i)).choose else 256) < 256 ∧ M.1 2 i &&& 255 = nI (if i < tl then (z_255 (M.1 2 i)).choose else 256)
    rw [e]
    exact (z_255 (M.1 2 i)).choose_spec
  obtain ⟨B, b1, b2⟩ := hex
  have hby : zbyte B tl M := ⟨t1, t2, b1, b2⟩
  have hr : 14 - r0 = 3 ∨ 14 - r0 = 11 := by omega
  have hrr : ∀ a, r0 ≤ a → a < r0 + 7 → (a < 14 - r0 ∨ 14 - r0 + 7 ≤ a) := by omega
  obtain ⟨res, W, w1, w2, w3⟩ := p_readRules (N := N) hr (by omega) hby
  obtain ⟨rv, Wr, x1, x2, x3⟩ := m_read (N := N) (B := B) (lv := lv) (by omega) t1 (fun i hi => ⟨(b1 i hi).1, by rw [← t4 i hi]; exact (b1 i hi).2⟩) b2 t3 hKeys u3 u4
  have hcut : fX8_cutTo (0 : Int32) W = some (zpI W 1 1 0) := by
    clear w3 x3
    have e : W.1 1 1 = nI tl := by rw [w2.1 1 (by omega) (by omega) (by omega) (by omega)]; exact t2
    unfold fX8_cutTo
    rw [if_neg (by decide), e, if_neg (nI_pos (by omega)), zlet_eq]
  -- the class's memory behind it, whatever the rules' references are
  have fin : ∀ (A : zMem) (r1 lv1 nr1 : Nat), A.1 = (zpI W 1 1 0).1 → A.2.1 = W.2.1 → W.1 19 9 = Wr.1 69 17 → gRules r1 lv1 nr1 (zmx A Wr) → zInv (zmx A Wr) := by
    clear w3 x3
    intro A r1 lv1 nr1 a1 a2 hpl hRu
    have fC : ∀ a, a < 69 → a ≠ 1 → a ≠ 19 → a ≠ 20 → a ≠ 21 → (a < 14 - r0 ∨ 14 - r0 + 7 ≤ a) → (zmx A Wr).1 a = M.1 a := fun a c0 c1 c2 c3 c4 c5 => by rw [zmx_1c c0, a1, zpI_r _ _ c1, w2.1 a c2 c3 c4 c5]
    have f2C : ∀ a, a < 69 → (zmx A Wr).2.1 a = M.2.1 a := fun a c0 => by rw [zmx_2c c0, a2, w2.2.1]
    have fR : ∀ a, 92 ≤ a → (zmx A Wr).1 a = M.1 a := fun a c0 => by rw [zmx_1 (by omega), x2.1 a (by omega)]
    have f69 : ∀ j, j ≠ 2 → j ≠ 4 → (j < 10 ∨ 19 < j) → j ≠ 32 → j ≠ 36 → (zmx A Wr).1 69 j = M.1 69 j := fun j c1 c2 c3 c4 c5 => by rw [zmx_1 (by omega), x2.2.2.2.1 j c1 c2 c3 c4 c5]
    have hC : ∀ a, 22 ≤ a → a < 69 → (zmx A Wr).1 a = M.1 a := fun a c0 c1 => fC a c1 (by omega) (by omega) (by omega) (by omega) (by omega)
    have hCj : ∀ a j, 22 ≤ a → a < 69 → (zmx A Wr).1 a j = M.1 a j := fun a j c0 c1 => by rw [hC a c0 c1]
    refine ⟨0, nv, ns, c, no, nc, nst, nn, r1, lv1, nr1, ⟨by omega, ?_, ?_, fun k hk => absurd hk (Nat.not_lt_zero k)⟩, ?_, ?_, ?_, ?_, ?_, ?_, ?_, ?_, ?_, ?_, ?_, ?_, ?_, hRu, ?_⟩
    · rw [zmx_1c (by omega), a1]; rfl
    · rw [zmx_1 (by omega)]; exact x2.2.2.2.2.2.2.2.2
    · show (zmx A Wr).1 19 9 = (zmx A Wr).1 69 17
      rw [zmx_1c (by omega), zmx_1 (by omega), a1, zpI_r _ _ (by omega)]
      exact hpl
    · exact gTeam_c (M := M) (hCj _ _ (by omega) (by omega)) (f69 _ (by omega) (by omega) (by omega) (by omega) (by omega)) (hCj _ _ (by omega) (by omega)) (f69 _ (by omega) (by omega) (by omega) (by omega) (by omega)) (hC _ (by omega) (by omega)) (fR _ (by omega)) (hC _ (by omega) (by omega)) (fR _ (by omega)) (hC _ (by omega) (by omega)) (fR _ (by omega)) hTeam
    · exact gLearn_c (M := M) (fR _ (by omega)) (fR _ (by omega)) (f2C _ (by omega)) hLearn
    · exact gBars_c (M := M) (fR _ (by omega)) (hC _ (by omega) (by omega)) hBars
    · exact gClock_c (M := M) (by rw [fC 0 (by omega) (by omega) (by omega) (by omega) (by omega) (by omega)]) (f69 _ (by omega) (by omega) (by omega) (by omega) (by omega)) hClock
    · exact gCal_c (M := M) (hC _ (by omega) (by omega)) (fR _ (by omega)) (fR _ (by omega)) (fR _ (by omega)) hCal
    · exact gGone_c (M := M) (f69 _ (by omega) (by omega) (by omega) (by omega) (by omega)) (fR _ (by omega)) hGone
    · exact gOffers_c (M := M) (hCj _ _ (by omega) (by omega)) (fR _ (by omega)) (hC _ (by omega) (by omega)) (fR _ (by omega)) (hC _ (by omega) (by omega)) (fR _ (by omega)) (hC _ (by omega) (by omega)) (fR _ (by omega)) hOffers
    · exact gPres_c (M := M) (fR _ (by omega)) (fR _ (by omega)) (f2C _ (by omega)) hPres
    · exact gKept_c (M := M) (fR _ (by omega)) (fR _ (by omega)) (fR _ (by omega)) (hC _ (by omega) (by omega)) (f2C _ (by omega)) hKept
    · exact gCalls_c (M := M) (hCj _ _ (by omega) (by omega)) (f69 _ (by omega) (by omega) (by omega) (by omega) (by omega)) (hCj _ _ (by omega) (by omega)) (fun a c0 c1 => hC a (by omega) (by omega)) (fun a c0 c1 => fR a (by omega)) (fR _ (by omega)) hCalls
    · exact gHard_c (M := M) (fR _ (by omega)) (hC _ (by omega) (by omega)) (hC _ (by omega) (by omega)) (hC _ (by omega) (by omega)) (fR _ (by omega)) (hC _ (by omega) (by omega)) (hC _ (by omega) (by omega)) (fR _ (by omega)) hHard
    · exact gNotes_c (M := M) (hCj _ _ (by omega) (by omega)) (f69 _ (by omega) (by omega) (by omega) (by omega) (by omega)) (hC _ (by omega) (by omega)) (fR _ (by omega)) (hC _ (by omega) (by omega)) (fR _ (by omega)) (hC _ (by omega) (by omega)) (fR _ (by omega)) hNotes
    · exact gKeys_c (M := M) (by rw [zmx_2 (by omega), x2.2.1 76 (by omega)]) hKeys
  -- nothing of the rules in force has changed
  have old : W.1 19 9 = Wr.1 69 17 → Wr.1 69 18 = nI lv → zInv (zmx (zpI W 1 1 0) Wr) := by
    clear w3 x3
    intro hpl h18
    refine fin _ r0 lv nr rfl rfl hpl (gRules_o (M := M) ?_ ?_ ?_ (fun a c0 c1 => ?_) ?_ (fun a i c0 c1 c2 c3 => ?_) (fun a i c0 c1 c2 c3 => ?_) (fun i c0 c1 => ?_) hRules)
    · show W.2.2 0 2 = M.2.2 0 2
      exact w2.2.2 0 2 (by omega)
    · show W.2.2 0 3 = M.2.2 0 3
      exact w2.2.2 0 3 (by omega)
    · rw [zmx_1 (by omega), h18, u4]
    · rw [zmx_1c (by omega), zpI_r _ _ (by omega), w2.1 a (by omega) (by omega) (by omega) (hrr a c0 c1)]
    · rw [zmx_1 (by omega), (x2.2.2.2.2.2.2.2.1 lv (by omega)).1]
    · rw [zmx_1 (by omega), x2.2.2.2.2.2.2.1 a i c0 c1 (by omega)]
    · rw [zmx_1 (by omega), x2.2.2.2.2.2.1 a i c0 c1 (by omega)]
    · rw [zmx_1 (by omega), zmx_1 (by omega)]
      exact x2.2.2.2.2.1 i (by omega)
  unfold fX11_read
  rw [u2, w1, zb2_some, hcut, zbd_some]
  rcases w3 with ⟨g, u, y1, y2, y3, y4⟩ | ⟨Rs, w, y1, y2, y3, y4, cs, y5, y6, y7⟩
  · rcases x3 with ⟨g', u', z1, z2, z3, z4, z5⟩ | ⟨Rs', w', z1, -⟩
    · rw [y1] at z1
      have e := Sum.inl.inj z1
      have e1 : g = g' := congrArg Prod.fst e
      have e2 : u = u' := congrArg Prod.snd e
      subst e1 e2
      rw [if_neg (show ¬ res = 0 by rw [y3]; exact nI_ne0 (by omega) (by omega))]
      exact ⟨res, _, _, rfl, by rw [x1, z3, y3], old (by rw [y4, z4]) z5⟩
    · rw [y1] at z1; cases z1
  · rcases x3 with ⟨g', u', z1, -⟩ | ⟨Rs', w', z1, z2, z3, z4, z5, z6, b, kk, z7, z8, z9⟩
    · rw [y1] at z1; cases z1
    · have good := zPI_run (T := ztkd B tl) (V := ztvl B tl) (P := zts B tl) (fun u => (ztok_all b2 t1 u).2) 401 0 (0, [], none, 0, 0, [], [], 0, 0, [], [], []) Rs w zPI_0 y1
      rw [y1] at z1
      have e := Sum.inr.inj z1
      have e1 : Rs = Rs' := congrArg Prod.fst e
      have e2 : w = w' := congrArg Prod.snd e
      subst e1 e2
      cases w with
      | some p =>
        rw [if_neg (show ¬ res = 0 by rw [y2]; show ¬ (5 : Int32) = 0; decide)]
        exact ⟨res, _, _, rfl, by rw [x1, z2, y2], old (by rw [y3, z3]) (z5 (by simp))⟩
      | none =>
        rw [if_pos (show res = 0 from y2), zlet_eq, zlet_eq]
        refine ⟨res, _, _, rfl, by rw [x1, z2, y2], fin _ (14 - r0) (1 - lv) Rs.length rfl rfl (by rw [y3, z3]) ?_⟩
        have e03 : (zpI W 1 1 0).2.2 0 3 = 14 - r0 := by
          show W.2.2 0 3 = 14 - r0
          rw [w2.2.2 0 3 (by omega)]; exact u2
        have e02 : (zpI W 1 1 0).2.2 0 2 = r0 := by
          show W.2.2 0 2 = r0
          rw [w2.2.2 0 2 (by omega)]; exact u1
        generalize hA : zpR (zpR (zpI W 1 1 0) 0 2 ((zpI W 1 1 0).2.2 0 3)) 0 3 ((zpI W 1 1 0).2.2 0 2) = A
        have cA : ∀ a, a < 69 → a ≠ 1 → (zmx A Wr).1 a = W.1 a := fun a c0 c1 => by rw [zmx_1c c0, ← hA, zpR_1, zpR_1, zpI_r _ _ c1]
        have cR : ∀ a, 69 ≤ a → (zmx A Wr).1 a = Wr.1 a := fun a c0 => zmx_1 c0
        refine ⟨hr, ?_, ?_, by omega, ?_, good.2.1, ?_, ?_, cs, y5, ?_, fun j => Rs.getD j (0, 0, [], []), fun j hj => ?_⟩
        · show A.2.2 0 2 = 14 - r0
          rw [← hA, zpR_3, if_neg (by omega), zpR_3, if_pos ⟨rfl, rfl⟩, e03]
        · show A.2.2 0 3 = 14 - (14 - r0)
          rw [← hA, zpR_3, if_pos ⟨rfl, rfl⟩, e02]; omega
        · rw [cR 69 (by omega)]; exact z4 rfl
        · rw [cA _ (by omega) (by omega)]; exact y4
        · rw [cR 77 (by omega)]; exact z6
        · rw [cA _ (by omega) (by omega)]; exact y6
        · have hmem : Rs.getD j (0, 0, [], []) ∈ Rs := by
            rw [List.getD_eq_getElem?_getD, List.getElem?_eq_getElem hj]
            exact List.getElem_mem hj
          obtain ⟨g1, g2, g3, g4⟩ := good.1 _ hmem
          obtain ⟨c1, c2, a, c3, c4, c5, c6, c7, c8⟩ := y7 j hj
          obtain ⟨d1, d2, ⟨b0, d3, d4, d5, d6, d7⟩, k, d8, d9, d10, d11⟩ := z9 j hj
          have hs : 1 - lv < 2 := by omega
          have hrel := zrlR_rels hs z7 _ _ d11 g4
          show zrule (zmx A Wr) (14 - r0) (1 - lv) cs j (Rs.getD j (0, 0, [], []))
          refine ⟨g1, g2, g3, by rw [cA _ (by omega) (by omega)]; exact c1, by rw [cA _ (by omega) (by omega)]; exact c2, ⟨a, by rw [cA _ (by omega) (by omega)]; exact c3, by rw [cA _ (by omega) (by omega)]; exact c4, by rw [cA _ (by omega) (by omega)]; exact c5, c6, zsegC_c (cA _ (by omega) (by omega)) _ _ c7, zsegC_c (cA _ (by omega) (by omega)) _ _ c8⟩, by rw [cR 78 (by omega)]; exact d1, by rw [cR 79 (by omega)]; exact d2, ⟨b0, by rw [cR 80 (by omega)]; exact d3, by rw [cR 81 (by omega)]; exact d4, ⟨by omega, d5, by omega⟩, zsegR_c (cR 89 (by omega)) (cR 90 (by omega)) _ _ d7⟩, k, by rw [cR 82 (by omega)]; exact d8, by rw [cR 83 (by omega)]; exact d9, by omega, zrels_c (fun a c0 c1 => cR a (by omega)) _ _ hrel⟩
