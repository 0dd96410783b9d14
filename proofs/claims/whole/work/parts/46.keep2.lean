/-! THE EASY OPERATIONS keep the invariant, with one answer -/
theorem zsum_cong {f g : Nat → Nat} : ∀ n, (∀ k, k < n → f k = g k) → zsum f n = zsum g n
  | 0, _ => rfl
  | n + 1, h => by rw [zsum, zsum, zsum_cong n (fun k hk => h k (by omega)), h n (by omega)]
theorem o_has {N : Nat} (hN : 400 < N) (x1 : Int32) (x2 : Int32) (x3 : Int32) : zop (fX11_has N x1 x2 x3) (fX12_has N x1 x2 x3) := by
  refine z_opR ?_
  intro tl nv ns c no nc nst nn r0 lv nr M hM
  have hM' := hM
  obtain ⟨hTape, hPlace, hTeam, hLearn, hBars, hClock, hCal, hGone, hOffers, hPres, hKept, hCalls, hHard, hNotes, hRules, hKeys⟩ := hM
  exact q_has hTeam hLearn x1 x2 x3 (by omega)
theorem o_due {N : Nat} (hN : 400 < N) (x1 : Int32) : zop (fX11_due N x1) (fX12_due N x1) := by
  refine z_opR ?_
  intro tl nv ns c no nc nst nn r0 lv nr M hM
  have hM' := hM
  obtain ⟨hTape, hPlace, hTeam, hLearn, hBars, hClock, hCal, hGone, hOffers, hPres, hKept, hCalls, hHard, hNotes, hRules, hKeys⟩ := hM
  exact q_due hTeam hClock hCalls hHard x1 hN
theorem o_there {N : Nat} (hN : 400 < N) (x1 : Int32) (x2 : Int32) : zop (fX11_there x1 x2) (fX12_there x1 x2) := by
  refine z_opR ?_
  intro tl nv ns c no nc nst nn r0 lv nr M hM
  have hM' := hM
  obtain ⟨hTape, hPlace, hTeam, hLearn, hBars, hClock, hCal, hGone, hOffers, hPres, hKept, hCalls, hHard, hNotes, hRules, hKeys⟩ := hM
  exact q_there hTeam hPres x1 x2
theorem o_lacks {N : Nat} (hN : 400 < N) (x1 : Int32) : zop (fX11_lacks N x1) (fX12_lacks x1) := by
  refine z_opR ?_
  intro tl nv ns c no nc nst nn r0 lv nr M hM
  have hM' := hM
  obtain ⟨hTape, hPlace, hTeam, hLearn, hBars, hClock, hCal, hGone, hOffers, hPres, hKept, hCalls, hHard, hNotes, hRules, hKeys⟩ := hM
  exact q_lacks hTeam hCal hPres hKept x1 (by omega)
theorem o_told {N : Nat} (hN : 400 < N) (x1 : Int32) (x2 : Int32) : zop (fX11_told x1 x2) (fX12_told x1 x2) := by
  refine z_opR ?_
  intro tl nv ns c no nc nst nn r0 lv nr M hM
  have hM' := hM
  obtain ⟨hTape, hPlace, hTeam, hLearn, hBars, hClock, hCal, hGone, hOffers, hPres, hKept, hCalls, hHard, hNotes, hRules, hKeys⟩ := hM
  exact q_told hCalls x1 x2
theorem o_talked {N : Nat} (hN : 400 < N) (x1 : Int32) (x2 : Int32) : zop (fX11_talked N x1 x2) (fX12_talked x1 x2) := by
  refine z_opR ?_
  intro tl nv ns c no nc nst nn r0 lv nr M hM
  have hM' := hM
  obtain ⟨hTape, hPlace, hTeam, hLearn, hBars, hClock, hCal, hGone, hOffers, hPres, hKept, hCalls, hHard, hNotes, hRules, hKeys⟩ := hM
  exact q_talked hTeam hCal hCalls hHard x1 x2 hN
theorem o_see {N : Nat} (hN : 400 < N) (x1 : Int32) (x2 : Int32) (x3 : Int32) : zop (fX11_see x1 x2 x3) (fX12_see x1 x2 x3) := by
  refine z_opR ?_
  intro tl nv ns c no nc nst nn r0 lv nr M hM
  have hM' := hM
  obtain ⟨hTape, hPlace, hTeam, hLearn, hBars, hClock, hCal, hGone, hOffers, hPres, hKept, hCalls, hHard, hNotes, hRules, hKeys⟩ := hM
  exact q_see hTeam hBars hCalls hNotes x1 x2 x3
theorem o_foretold {N : Nat} (hN : 400 < N) (x1 : Int32) (x2 : Int32) : zop (fX11_foretold N x1 x2) (fX12_foretold N x1 x2) := by
  refine z_opR ?_
  intro tl nv ns c no nc nst nn r0 lv nr M hM
  have hM' := hM
  obtain ⟨hTape, hPlace, hTeam, hLearn, hBars, hClock, hCal, hGone, hOffers, hPres, hKept, hCalls, hHard, hNotes, hRules, hKeys⟩ := hM
  exact q_foretold hClock hCal hCalls x1 x2 hN
theorem o_count {N : Nat} (hN : 400 < N) (x1 : Int32) : zop (fX11_count N x1) (fX12_count N x1) := by
  refine z_opR ?_
  intro tl nv ns c no nc nst nn r0 lv nr M hM
  have hM' := hM
  obtain ⟨hTape, hPlace, hTeam, hLearn, hBars, hClock, hCal, hGone, hOffers, hPres, hKept, hCalls, hHard, hNotes, hRules, hKeys⟩ := hM
  exact q_count hM' x1 hN
theorem o_place {N : Nat} (hN : 400 < N) : zop (fX11_place ) (fX12_place ) := by
  refine z_opR ?_
  intro tl nv ns c no nc nst nn r0 lv nr M hM
  have hM' := hM
  obtain ⟨hTape, hPlace, hTeam, hLearn, hBars, hClock, hCal, hGone, hOffers, hPres, hKept, hCalls, hHard, hNotes, hRules, hKeys⟩ := hM
  exact ⟨M.1 19 9, rfl, by unfold fX12_place; rw [← show M.1 19 9 = M.1 69 17 from hPlace]⟩
theorem o_feed {N : Nat} (hN : 400 < N) (x1 : Int32) (x2 : Int32) (x3 : Int32) (x4 : Int32) (x5 : Int32) : zop (fX11_feed N x1 x2 x3 x4 x5) (fX12_feed N x1 x2 x3 x4 x5) := by
  refine z_opI (fun A B => lc_fX11_feed _ _ _ _ _ _ A) (fun A B => lm_fX12_feed _ _ _ _ _ _ B) ?_
  intro tl nv ns c no nc nst nn r0 lv nr M hM
  have hM' := hM
  obtain ⟨hTape, hPlace, hTeam, hLearn, hBars, hClock, hCal, hGone, hOffers, hPres, hKept, hCalls, hHard, hNotes, hRules, hKeys⟩ := hM
  rcases q_feed hTape x1 x2 x3 x4 x5 (show 10 < N by omega) with ⟨e1, e2⟩ | ⟨c20, A, B, e1, e2, hA2, hB2, hA, hB, g1, g2, g3⟩
  · exact ⟨-1, M, M, e1, e2, z_same hM'⟩
  · exact ⟨_, A, B, e1, e2, ⟨tl + 20, nv, ns, c, no, nc, nst, nn, r0, lv, nr, ⟨c20, g1, g2, g3⟩,
      gPlace_c (M := M) (hA 19 9 (by decide) (Or.inl (by decide))) (hB 69 17 (by decide) (Or.inr (by decide))) hPlace,
      gTeam_c (M := M) (hA 22 2 (by decide) (Or.inl (by decide))) (hB 69 37 (by decide) (Or.inr (by decide))) (hA 22 5 (by decide) (Or.inl (by decide))) (hB 69 39 (by decide) (Or.inr (by decide))) (funext fun j => hA 23 j (by decide) (Or.inl (by decide))) (funext fun j => hB 92 j (by decide) (Or.inl (by decide))) (funext fun j => hA 25 j (by decide) (Or.inl (by decide))) (funext fun j => hB 93 j (by decide) (Or.inl (by decide))) (funext fun j => hA 26 j (by decide) (Or.inl (by decide))) (funext fun j => hB 94 j (by decide) (Or.inl (by decide))) hTeam,
      gLearn_c (M := M) (funext fun j => hB 95 j (by decide) (Or.inl (by decide))) (funext fun j => hB 94 j (by decide) (Or.inl (by decide))) (congrFun (congrArg Prod.fst hA2) 27) hLearn,
      gBars_c (M := M) (funext fun j => hB 96 j (by decide) (Or.inl (by decide))) (funext fun j => hA 28 j (by decide) (Or.inl (by decide))) hBars,
      gClock_c (M := M) (hA 0 11 (by decide) (Or.inl (by decide))) (hB 69 44 (by decide) (Or.inr (by decide))) hClock,
      gCal_c (M := M) (funext fun j => hA 30 j (by decide) (Or.inl (by decide))) (funext fun j => hB 99 j (by decide) (Or.inl (by decide))) (funext fun j => hB 101 j (by decide) (Or.inl (by decide))) (funext fun j => hB 100 j (by decide) (Or.inl (by decide))) hCal,
      gGone_c (M := M) (hB 69 71 (by decide) (Or.inr (by decide))) (funext fun j => hB 100 j (by decide) (Or.inl (by decide))) hGone,
      gOffers_c (M := M) (hA 32 3 (by decide) (Or.inl (by decide))) (funext fun j => hB 102 j (by decide) (Or.inl (by decide))) (funext fun j => hA 33 j (by decide) (Or.inl (by decide))) (funext fun j => hB 103 j (by decide) (Or.inl (by decide))) (funext fun j => hA 34 j (by decide) (Or.inl (by decide))) (funext fun j => hB 104 j (by decide) (Or.inl (by decide))) (funext fun j => hA 35 j (by decide) (Or.inl (by decide))) (funext fun j => hB 105 j (by decide) (Or.inl (by decide))) hOffers,
      gPres_c (M := M) (funext fun j => hB 106 j (by decide) (Or.inl (by decide))) (funext fun j => hB 101 j (by decide) (Or.inl (by decide))) (congrFun (congrArg Prod.fst hA2) 31) hPres,
      gKept_c (M := M) (funext fun j => hB 101 j (by decide) (Or.inl (by decide))) (funext fun j => hB 107 j (by decide) (Or.inl (by decide))) (funext fun j => hB 106 j (by decide) (Or.inl (by decide))) (funext fun j => hA 25 j (by decide) (Or.inl (by decide))) (congrFun (congrArg Prod.fst hA2) 27) hKept,
      gCalls_c (M := M) (hA 47 9 (by decide) (Or.inl (by decide))) (hB 69 60 (by decide) (Or.inr (by decide))) (hA 47 10 (by decide) (Or.inl (by decide))) (fun a h1 h2 => by rw [zmx_1c (by omega)]; exact funext fun j => hA a j (by omega) (Or.inl (by omega))) (fun a h1 h2 => by rw [zmx_1 (by omega)]; exact funext fun j => hB a j (by omega) (Or.inl (by omega))) (funext fun j => hB 100 j (by decide) (Or.inl (by decide))) hCalls,
      gHard_c (M := M) (funext fun j => hB 97 j (by decide) (Or.inl (by decide))) (funext fun j => hA 48 j (by decide) (Or.inl (by decide))) (funext fun j => hA 55 j (by decide) (Or.inl (by decide))) (funext fun j => hA 51 j (by decide) (Or.inl (by decide))) (funext fun j => hB 121 j (by decide) (Or.inl (by decide))) (funext fun j => hA 53 j (by decide) (Or.inl (by decide))) (funext fun j => hA 24 j (by decide) (Or.inl (by decide))) (funext fun j => hB 98 j (by decide) (Or.inl (by decide))) hHard,
      gNotes_c (M := M) (hA 65 3 (by decide) (Or.inl (by decide))) (hB 69 81 (by decide) (Or.inr (by decide))) (funext fun j => hA 66 j (by decide) (Or.inl (by decide))) (funext fun j => hB 131 j (by decide) (Or.inl (by decide))) (funext fun j => hA 67 j (by decide) (Or.inl (by decide))) (funext fun j => hB 132 j (by decide) (Or.inl (by decide))) (funext fun j => hA 68 j (by decide) (Or.inl (by decide))) (funext fun j => hB 133 j (by decide) (Or.inl (by decide))) hNotes,
      gRules_c (M := M) (congrFun (congrFun (congrArg Prod.snd hA2) 0) 2) (congrFun (congrFun (congrArg Prod.snd hA2) 0) 3) (hB 69 18 (by decide) (Or.inr (by decide))) (fun a h1 h2 h3 => by rw [zmx_1c (by omega)]; exact funext fun j => hA a j (by omega) (Or.inl (by omega))) (fun a h1 h2 => by rw [zmx_1 (by omega)]; exact funext fun j => hB a j (by omega) (Or.inl (by omega))) hRules,
      gKeys_c (M := M) (congrFun (congrArg Prod.fst hB2) 76) hKeys⟩⟩
theorem o_back {N : Nat} (hN : 400 < N) (x1 : Int32) : zop (fX11_back x1) (fX12_back x1) := by
  refine z_opI (fun A B => lc_fX11_back _ A) (fun A B => lm_fX12_back _ B) ?_
  intro tl nv ns c no nc nst nn r0 lv nr M hM
  have hM' := hM
  obtain ⟨hTape, hPlace, hTeam, hLearn, hBars, hClock, hCal, hGone, hOffers, hPres, hKept, hCalls, hHard, hNotes, hRules, hKeys⟩ := hM
  rcases z_anyN x1 with hx | ⟨j, hj, rfl⟩
  · have e2 : fX12_back x1 M = some (-1, M) := by
      unfold fX12_back
      rw [show (0 : Int32) = nI 0 from rfl, if_pos hx]
    exact ⟨-1, M, M, p_back_n hx, e2, z_same hM'⟩
  · have e1 := p_back hTape.1 hTape.2.1 hj
    have e2 := m_back hTape.1 hTape.2.2.1 hj
    by_cases q : j ≤ tl
    · rw [if_pos q] at e1 e2
      exact ⟨_, _, _, e1, e2, ⟨tl - j, nv, ns, c, no, nc, nst, nn, r0, lv, nr, ⟨by have := hTape.1; omega, rfl, rfl, fun k hk => hTape.2.2.2 k (by omega)⟩,
      gPlace_c (M := M) rfl rfl hPlace,
      gTeam_c (M := M) rfl rfl rfl rfl rfl rfl rfl rfl rfl rfl hTeam,
      gLearn_c (M := M) rfl rfl rfl hLearn,
      gBars_c (M := M) rfl rfl hBars,
      gClock_c (M := M) rfl rfl hClock,
      gCal_c (M := M) rfl rfl rfl rfl hCal,
      gGone_c (M := M) rfl rfl hGone,
      gOffers_c (M := M) rfl rfl rfl rfl rfl rfl rfl rfl hOffers,
      gPres_c (M := M) rfl rfl rfl hPres,
      gKept_c (M := M) rfl rfl rfl rfl rfl hKept,
      gCalls_c (M := M) rfl rfl rfl (fun a h1 h2 => by simp (disch := omega) only [zmx_1c, zpI_r, zpJ_1]) (fun a h1 h2 => by simp (disch := omega) only [zmx_1, zpI_r, zpJ_1]) rfl hCalls,
      gHard_c (M := M) rfl rfl rfl rfl rfl rfl rfl rfl hHard,
      gNotes_c (M := M) rfl rfl rfl rfl rfl rfl rfl rfl hNotes,
      gRules_c (M := M) rfl rfl rfl (fun a h1 h2 h3 => by simp (disch := omega) only [zmx_1c, zpI_r, zpJ_1]) (fun a h1 h2 => by simp (disch := omega) only [zmx_1, zpI_r, zpJ_1]) hRules,
      gKeys_c (M := M) rfl hKeys⟩⟩
    · rw [if_neg q] at e1 e2
      exact ⟨-1, M, M, e1, e2, z_same hM'⟩
theorem o_volunteer {N : Nat} (hN : 400 < N) (x1 : Int32) : zop (fX11_volunteer x1) (fX12_volunteer x1) := by
  refine z_opI (fun A B => lc_fX11_volunteer _ A) (fun A B => lm_fX12_volunteer _ B) ?_
  intro tl nv ns c no nc nst nn r0 lv nr M hM
  have hM' := hM
  obtain ⟨hTape, hPlace, hTeam, hLearn, hBars, hClock, hCal, hGone, hOffers, hPres, hKept, hCalls, hHard, hNotes, hRules, hKeys⟩ := hM
  have t0 := hTeam.1
  rcases z_anyN x1 with hx | ⟨j, hj, rfl⟩
  · have e1 : fX11_volunteer x1 M = some (-1, M) := by
      unfold fX11_volunteer fX11_isWithin
      rw [show (0 : Int32) = nI 0 from rfl, if_pos hx]; rfl
    have e2 : fX12_volunteer x1 M = some (-1, M) := by
      unfold fX12_volunteer
      rw [show (0 : Int32) = nI 0 from rfl, if_pos hx]
      split <;> rfl
    exact ⟨-1, M, M, e1, e2, z_same hM'⟩
  · have e1 := p_volunteer t0 hTeam.2.1 hj
    have e2 := m_volunteer t0 hTeam.2.2.1 hj
    by_cases q : j < 4 ∧ nv < 8
    · rw [if_pos q] at e1 e2
      exact ⟨_, _, _, e1, e2, ⟨tl, nv + 1, ns, c, no, nc, nst, nn, r0, lv, nr, gTape_c (M := M) rfl rfl rfl rfl hTape,
      gPlace_c (M := M) rfl rfl hPlace,
      gTeam_vol (j := j) q.2 hTeam rfl rfl rfl rfl (fun k => by rw [zmx_1c (by omega)]; simp [zpI_1]) (fun k => by rw [zmx_1 (by omega)]; simp [zpI_1]) rfl rfl rfl rfl,
      gLearn_c (M := M) rfl rfl rfl (gLearn_nv hTeam hLearn),
      gBars_c (M := M) rfl rfl hBars,
      gClock_c (M := M) rfl rfl hClock,
      gCal_c (M := M) rfl rfl rfl rfl hCal,
      gGone_c (M := M) rfl rfl hGone,
      gOffers_c (M := M) rfl rfl rfl rfl rfl rfl rfl rfl (gOffers_nv hOffers),
      gPres_c (M := M) rfl rfl rfl (gPres_nv hPres),
      gKept_c (M := M) rfl rfl rfl rfl rfl (gKept_nv q.2 hPres hKept),
      gCalls_c (M := M) rfl rfl rfl (fun a h1 h2 => by simp (disch := omega) only [zmx_1c, zpI_r, zpJ_1]) (fun a h1 h2 => by simp (disch := omega) only [zmx_1, zpI_r, zpJ_1]) rfl (gCalls_nv hCalls),
      gHard_c (M := M) rfl rfl rfl rfl rfl rfl rfl rfl hHard,
      gNotes_c (M := M) rfl rfl rfl rfl rfl rfl rfl rfl hNotes,
      gRules_c (M := M) rfl rfl rfl (fun a h1 h2 h3 => by simp (disch := omega) only [zmx_1c, zpI_r, zpJ_1]) (fun a h1 h2 => by simp (disch := omega) only [zmx_1, zpI_r, zpJ_1]) hRules,
      gKeys_c (M := M) rfl hKeys⟩⟩
    · rw [if_neg q] at e1 e2
      exact ⟨-1, M, M, e1, e2, z_same hM'⟩
theorem o_step {N : Nat} (hN : 400 < N) (x1 : Int32) (x2 : Int32) : zop (fX11_step x1 x2) (fX12_step x1 x2) := by
  refine z_opI (fun A B => lc_fX11_step _ _ A) (fun A B => lm_fX12_step _ _ B) ?_
  intro tl nv ns c no nc nst nn r0 lv nr M hM
  have hM' := hM
  obtain ⟨hTape, hPlace, hTeam, hLearn, hBars, hClock, hCal, hGone, hOffers, hPres, hKept, hCalls, hHard, hNotes, hRules, hKeys⟩ := hM
  rcases q_step hTeam x1 x2 with ⟨e1, e2⟩ | ⟨s8, hx, m, m1, m2, hm, e1, e2⟩
  · exact ⟨-1, M, M, e1, e2, z_same hM'⟩
  · have e2 := e2 M hTeam.2.2.2.2.2.1
    have hT2 : gTeam nv (ns + 1) (zmx (zpI (zpI (zpI M 25 ns x1) 26 ns x2) 22 5 (nI (ns + 1))) (zpI (zpI (zpI M 93 ns x1) 94 ns x2) 69 39 (nI (ns + 1)))) :=
      gTeam_step s8 hTeam hx ⟨m, m1, m2, hm⟩ rfl rfl rfl rfl rfl rfl (fun k => by rw [zmx_1c (by omega)]; simp [zpI_1]) (fun k => by rw [zmx_1 (by omega)]; simp [zpI_1]) (fun k => by rw [zmx_1c (by omega)]; simp [zpI_1]) (fun k => by rw [zmx_1 (by omega)]; simp [zpI_1])
    exact ⟨_, _, _, e1, e2, ⟨tl, nv, ns + 1, c, no, nc, nst, nn, r0, lv, nr, gTape_c (M := M) rfl rfl rfl rfl hTape,
      gPlace_c (M := M) rfl rfl hPlace,
      hT2,
      gLearn_ns (M := M) rfl (fun s hs => by rw [zmx_1 (by omega)]; simp only [zpI_1]; rw [if_neg (by omega), if_neg (by omega), if_neg (by omega)]) rfl hLearn,
      gBars_c (M := M) rfl rfl hBars,
      gClock_c (M := M) rfl rfl hClock,
      gCal_c (M := M) rfl rfl rfl rfl hCal,
      gGone_c (M := M) rfl rfl hGone,
      gOffers_c (M := M) rfl rfl rfl rfl rfl rfl rfl rfl hOffers,
      gPres_c (M := M) rfl rfl rfl hPres,
      gKept_up hTeam hT2 (by omega) rfl rfl rfl (fun v n _ _ q => q) hKept,
      gCalls_c (M := M) rfl rfl rfl (fun a h1 h2 => by simp (disch := omega) only [zmx_1c, zpI_r, zpJ_1]) (fun a h1 h2 => by simp (disch := omega) only [zmx_1, zpI_r, zpJ_1]) rfl hCalls,
      gHard_c (M := M) rfl rfl rfl rfl rfl rfl rfl rfl hHard,
      gNotes_c (M := M) rfl rfl rfl rfl rfl rfl rfl rfl hNotes,
      gRules_c (M := M) rfl rfl rfl (fun a h1 h2 h3 => by simp (disch := omega) only [zmx_1c, zpI_r, zpJ_1]) (fun a h1 h2 => by simp (disch := omega) only [zmx_1, zpI_r, zpJ_1]) hRules,
      gKeys_c (M := M) rfl hKeys⟩⟩
theorem o_bar {N : Nat} (hN : 400 < N) (x1 : Int32) (x2 : Int32) : zop (fX11_bar x1 x2) (fX12_bar x1 x2) := by
  refine z_opI (fun A B => lc_fX11_bar _ _ A) (fun A B => lm_fX12_bar _ _ B) ?_
  intro tl nv ns c no nc nst nn r0 lv nr M hM
  have hM' := hM
  obtain ⟨hTape, hPlace, hTeam, hLearn, hBars, hClock, hCal, hGone, hOffers, hPres, hKept, hCalls, hHard, hNotes, hRules, hKeys⟩ := hM
  rcases q_bar hTeam hClock hBars x1 x2 with ⟨e1, e2⟩ | ⟨k, v, k1, v1, rfl, rfl, b1, e1, e2⟩
  · exact ⟨0, M, M, e1, e2, z_same hM'⟩
  · have t0 := hTeam.1
    have hz : M.1 96 (k * 8 + v) = 0 := by rw [(hBars (k * 8 + v) (by omega)).1, b1]; decide
    have e2 := e2 M hTeam.2.2.1 hClock.2.2 hz
    have hc := hClock.1
    exact ⟨_, _, _, e1, e2, ⟨tl, nv, ns, c, no, nc, nst, nn, r0, lv, nr, gTape_c (M := M) rfl rfl rfl rfl hTape,
      gPlace_c (M := M) rfl rfl hPlace,
      gTeam_c (M := M) rfl rfl rfl rfl rfl rfl rfl rfl rfl rfl hTeam,
      gLearn_c (M := M) rfl rfl rfl hLearn,
      (by
        intro q hq
        show (if 96 = 96 ∧ q = k * 8 + v then nI (c + 1) else M.1 96 q) = (if 28 = 28 ∧ q = k * 8 + v then nI c else M.1 28 q) + 1 ∧ ((if 28 = 28 ∧ q = k * 8 + v then nI c else M.1 28 q) = -1 ∨ ∃ n, n < 200 ∧ (if 28 = 28 ∧ q = k * 8 + v then nI c else M.1 28 q) = nI n)
        by_cases w : q = k * 8 + v
        · rw [if_pos ⟨rfl, w⟩, if_pos ⟨rfl, w⟩]
          exact ⟨(nI_1 c).symm, Or.inr ⟨c, hc, rfl⟩⟩
        · rw [if_neg (fun z => w z.2), if_neg (fun z => w z.2)]
          exact hBars q hq),
      gClock_c (M := M) rfl rfl hClock,
      gCal_c (M := M) rfl rfl rfl rfl hCal,
      gGone_c (M := M) rfl rfl hGone,
      gOffers_c (M := M) rfl rfl rfl rfl rfl rfl rfl rfl hOffers,
      gPres_c (M := M) rfl rfl rfl hPres,
      gKept_c (M := M) rfl rfl rfl rfl rfl hKept,
      gCalls_c (M := M) rfl rfl rfl (fun a h1 h2 => by simp (disch := omega) only [zmx_1c, zpI_r, zpJ_1]) (fun a h1 h2 => by simp (disch := omega) only [zmx_1, zpI_r, zpJ_1]) rfl hCalls,
      gHard_c (M := M) rfl rfl rfl rfl rfl rfl rfl rfl hHard,
      gNotes_c (M := M) rfl rfl rfl rfl rfl rfl rfl rfl hNotes,
      gRules_c (M := M) rfl rfl rfl (fun a h1 h2 h3 => by simp (disch := omega) only [zmx_1c, zpI_r, zpJ_1]) (fun a h1 h2 => by simp (disch := omega) only [zmx_1, zpI_r, zpJ_1]) hRules,
      gKeys_c (M := M) rfl hKeys⟩⟩
theorem o_care {N : Nat} (hN : 400 < N) (x1 : Int32) : zop (fX11_care N x1) (fX12_care N x1) := by
  refine z_opI (fun A B => lc_fX11_care _ _ A) (fun A B => lm_fX12_care _ _ B) ?_
  intro tl nv ns c no nc nst nn r0 lv nr M hM
  have hM' := hM
  obtain ⟨hTape, hPlace, hTeam, hLearn, hBars, hClock, hCal, hGone, hOffers, hPres, hKept, hCalls, hHard, hNotes, hRules, hKeys⟩ := hM
  have t0 := hTeam.1
  have hc := hClock.1
  by_cases e0 : zin x1 nv = true
  · obtain ⟨v, hv, rfl⟩ := z_zinE (by omega) e0
    obtain ⟨b, hb, b1, b2⟩ := q_isDue hTeam hClock hCalls hHard hv hN
    rcases q_care hTeam hClock hCalls hHard (nI v) hN with ⟨e1, e2⟩ | ⟨v', v1, ev, e1, e2⟩
    · exact ⟨0, M, M, e1, e2, z_same hM'⟩
    · rw [z_eq (by omega) (by omega)] at ev
      subst ev
      have hb1 : b = 1 := by
        rcases hb with rfl | rfl
        · unfold fX11_care at e1
          rw [p_isVol t0 hTeam.2.1, if_pos e0, zb2_some, if_neg (by decide), b1, zb2_some, if_pos rfl] at e1
          exact absurd (show (0 : Int32) = 1 from congrArg Prod.fst (Option.some.inj e1)) (by decide)
        · rfl
      subst hb1
      have e2 := e2 M b2 hTeam.2.2.1 hClock.2.2
      exact ⟨_, _, _, e1, e2, ⟨tl, nv, ns, c, no, nc, nst, nn, r0, lv, nr, gTape_c (M := M) rfl rfl rfl rfl hTape,
      gPlace_c (M := M) rfl rfl hPlace,
      gTeam_c (M := M) rfl rfl rfl rfl rfl rfl rfl rfl rfl rfl hTeam,
      gLearn_c (M := M) rfl rfl rfl hLearn,
      gBars_c (M := M) rfl rfl hBars,
      gClock_c (M := M) rfl rfl hClock,
      gCal_c (M := M) rfl rfl rfl rfl hCal,
      gGone_c (M := M) rfl rfl hGone,
      gOffers_c (M := M) rfl rfl rfl rfl rfl rfl rfl rfl hOffers,
      gPres_c (M := M) rfl rfl rfl hPres,
      gKept_c (M := M) rfl rfl rfl rfl rfl hKept,
      gCalls_c (M := M) rfl rfl rfl (fun a h1 h2 => by simp (disch := omega) only [zmx_1c, zpI_r, zpJ_1]) (fun a h1 h2 => by simp (disch := omega) only [zmx_1, zpI_r, zpJ_1]) rfl hCalls,
      ⟨hHard.1, by
        intro q hq
        show (if 24 = 24 ∧ q = v then nI c else M.1 24 q) = (if 98 = 98 ∧ q = v then nI c else M.1 98 q) ∧ ∃ n, n < 200 ∧ (if 24 = 24 ∧ q = v then nI c else M.1 24 q) = nI n
        by_cases w : q = v
        · rw [if_pos ⟨rfl, w⟩, if_pos ⟨rfl, w⟩]
          exact ⟨rfl, c, hc, rfl⟩
        · rw [if_neg (fun z => w z.2), if_neg (fun z => w z.2)]
          exact hHard.2 q hq⟩,
      gNotes_c (M := M) rfl rfl rfl rfl rfl rfl rfl rfl hNotes,
      gRules_c (M := M) rfl rfl rfl (fun a h1 h2 h3 => by simp (disch := omega) only [zmx_1c, zpI_r, zpJ_1]) (fun a h1 h2 => by simp (disch := omega) only [zmx_1, zpI_r, zpJ_1]) hRules,
      gKeys_c (M := M) rfl hKeys⟩⟩
  · have e1 : fX11_care N x1 M = some (0, M) := by unfold fX11_care; rw [p_isVol t0 hTeam.2.1, if_neg e0]; rfl
    have e2 : fX12_care N x1 M = some (0, M) := by unfold fX12_care; rw [m_isVol t0 hTeam.2.2.1, if_neg e0]; rfl
    exact ⟨0, M, M, e1, e2, z_same hM'⟩
theorem o_clock {N : Nat} (hN : 400 < N) (x1 : Int32) : zop (fX11_clock x1) (fX12_clock x1) := by
  refine z_opI (fun A B => lc_fX11_clock _ A) (fun A B => lm_fX12_clock _ B) ?_
  intro tl nv ns c no nc nst nn r0 lv nr M hM
  have hM' := hM
  obtain ⟨hTape, hPlace, hTeam, hLearn, hBars, hClock, hCal, hGone, hOffers, hPres, hKept, hCalls, hHard, hNotes, hRules, hKeys⟩ := hM
  have hc := hClock.1
  rcases q_clock hClock x1 with ⟨e1, e2⟩ | ⟨rfl, e1, e2⟩ | ⟨n, n1, n2, rfl, e1, e2⟩
  · exact ⟨0, M, M, e1, e2, z_same hM'⟩
  · exact ⟨_, _, _, e1, e2, ⟨tl, nv, ns, c, no, nc, nst, nn, r0, lv, nr, gTape_c (M := M) rfl rfl rfl rfl hTape,
      gPlace_c (M := M) rfl rfl hPlace,
      gTeam_c (M := M) rfl rfl rfl rfl rfl rfl rfl rfl rfl rfl hTeam,
      gLearn_c (M := M) rfl rfl rfl hLearn,
      gBars_c (M := M) rfl rfl hBars,
      ⟨hc, hClock.2.1, rfl⟩,
      gCal_c (M := M) rfl rfl rfl rfl hCal,
      gGone_c (M := M) rfl rfl hGone,
      gOffers_c (M := M) rfl rfl rfl rfl rfl rfl rfl rfl hOffers,
      gPres_c (M := M) rfl rfl rfl hPres,
      gKept_c (M := M) rfl rfl rfl rfl rfl hKept,
      gCalls_c (M := M) rfl rfl rfl (fun a h1 h2 => by simp (disch := omega) only [zmx_1c, zpI_r, zpJ_1]) (fun a h1 h2 => by simp (disch := omega) only [zmx_1, zpI_r, zpJ_1]) rfl hCalls,
      gHard_c (M := M) rfl rfl rfl rfl rfl rfl rfl rfl hHard,
      gNotes_c (M := M) rfl rfl rfl rfl rfl rfl rfl rfl hNotes,
      gRules_c (M := M) rfl rfl rfl (fun a h1 h2 h3 => by simp (disch := omega) only [zmx_1c, zpI_r, zpJ_1]) (fun a h1 h2 => by simp (disch := omega) only [zmx_1, zpI_r, zpJ_1]) hRules,
      gKeys_c (M := M) rfl hKeys⟩⟩
  · have e2 := e2 M hClock.2.2
    exact ⟨_, _, _, e1, e2, ⟨tl, nv, ns, n, 0, nc, nc, nn, r0, lv, nr, gTape_c (M := M) rfl rfl rfl rfl hTape,
      gPlace_c (M := M) rfl rfl hPlace,
      gTeam_c (M := M) rfl rfl rfl rfl rfl rfl rfl rfl rfl rfl hTeam,
      gLearn_c (M := M) rfl rfl rfl hLearn,
      gBars_c (M := M) rfl rfl hBars,
      ⟨n2, rfl, rfl⟩,
      gCal_c (M := M) rfl rfl rfl rfl hCal,
      gGone_c (M := M) rfl rfl hGone,
      ⟨by omega, rfl, hOffers.2.2.2.1 n n1 n2, fun k k1 k2 => hOffers.2.2.2.1 k (by omega) k2, fun k hk => absurd hk (Nat.not_lt_zero k), fun k j hk => absurd hk (Nat.not_lt_zero k)⟩,
      gPres_c (M := M) rfl rfl rfl hPres,
      gKept_c (M := M) rfl rfl rfl rfl rfl hKept,
      (by
        obtain ⟨h0, h1, h2, h3, h4, h5, h6, h7⟩ := hCalls
        refine ⟨h0, Nat.le_refl nc, by omega, h3, h4, h3, h6, fun k hk => ?_⟩
        obtain ⟨⟨a, a1, a2, a3, a4⟩, b2, b3, b4, b5, b6, q, q1, q2, q3, q4, q5, q6, q7⟩ := h7 k hk
        refine ⟨⟨a, a1, fun _ => ?_, fun w => absurd w (by omega), a4⟩, b2, b3, b4, b5, b6, q, q1, q2, q3, q4, q5, q6, fun w => absurd w (by omega)⟩
        rcases Nat.lt_or_ge k nst with w | w
        · have := a2 w; omega
        · have := a3 w; omega),
      gHard_c (M := M) rfl rfl rfl rfl rfl rfl rfl rfl hHard,
      gNotes_c (M := M) rfl rfl rfl rfl rfl rfl rfl rfl hNotes,
      gRules_c (M := M) rfl rfl rfl (fun a h1 h2 h3 => by simp (disch := omega) only [zmx_1c, zpI_r, zpJ_1]) (fun a h1 h2 => by simp (disch := omega) only [zmx_1, zpI_r, zpJ_1]) hRules,
      gKeys_c (M := M) rfl hKeys⟩⟩
theorem o_holiday {N : Nat} (hN : 400 < N) (x1 : Int32) : zop (fX11_holiday x1) (fX12_holiday x1) := by
  refine z_opI (fun A B => lc_fX11_holiday _ A) (fun A B => lm_fX12_holiday _ B) ?_
  intro tl nv ns c no nc nst nn r0 lv nr M hM
  have hM' := hM
  obtain ⟨hTape, hPlace, hTeam, hLearn, hBars, hClock, hCal, hGone, hOffers, hPres, hKept, hCalls, hHard, hNotes, hRules, hKeys⟩ := hM
  rcases q_holiday hCal x1 with ⟨e1, e2⟩ | ⟨n, hn, rfl, h0, g0, e1, e2⟩
  · exact ⟨0, M, M, e1, e2, z_same hM'⟩
  · have e2 := e2 M h0 g0
    exact ⟨_, _, _, e1, e2, ⟨tl, nv, ns, c, no, nc, nst, nn, r0, lv, nr, gTape_c (M := M) rfl rfl rfl rfl hTape,
      gPlace_c (M := M) rfl rfl hPlace,
      gTeam_c (M := M) rfl rfl rfl rfl rfl rfl rfl rfl rfl rfl hTeam,
      gLearn_c (M := M) rfl rfl rfl hLearn,
      gBars_c (M := M) rfl rfl hBars,
      gClock_c (M := M) rfl rfl hClock,
      (by
        intro q hq
        obtain ⟨h, f, g, h1, h2, h3, k1, k2, k3, k4⟩ := hCal q hq
        obtain ⟨-, -, -, m1, -, -⟩ := z_mk h h1 f h2 g h3
        show ∃ h f g, h < 2 ∧ f < 2 ∧ g < 2 ∧ (if 30 = 30 ∧ q = n then (M.1 30 n ||| nI 1) else M.1 30 q) = nI (h + 2 * f + 4 * g) ∧ (if 99 = 99 ∧ q = n then (1 : Int32) else M.1 99 q) = nI h ∧ M.1 101 q = nI f ∧ M.1 100 q = nI g
        by_cases w : q = n
        · subst w
          rw [if_pos ⟨rfl, rfl⟩, if_pos ⟨rfl, rfl⟩, k1, m1]
          exact ⟨1, f, g, by omega, h2, h3, rfl, rfl, k3, k4⟩
        · rw [if_neg (fun z => w z.2), if_neg (fun z => w z.2)]
          exact ⟨h, f, g, h1, h2, h3, k1, k2, k3, k4⟩),
      gGone_c (M := M) rfl rfl hGone,
      gOffers_c (M := M) rfl rfl rfl rfl rfl rfl rfl rfl hOffers,
      gPres_c (M := M) rfl rfl rfl hPres,
      gKept_c (M := M) rfl rfl rfl rfl rfl hKept,
      gCalls_c (M := M) rfl rfl rfl (fun a h1 h2 => by simp (disch := omega) only [zmx_1c, zpI_r, zpJ_1]) (fun a h1 h2 => by simp (disch := omega) only [zmx_1, zpI_r, zpJ_1]) rfl hCalls,
      gHard_c (M := M) rfl rfl rfl rfl rfl rfl rfl rfl hHard,
      gNotes_c (M := M) rfl rfl rfl rfl rfl rfl rfl rfl hNotes,
      gRules_c (M := M) rfl rfl rfl (fun a h1 h2 h3 => by simp (disch := omega) only [zmx_1c, zpI_r, zpJ_1]) (fun a h1 h2 => by simp (disch := omega) only [zmx_1, zpI_r, zpJ_1]) hRules,
      gKeys_c (M := M) rfl hKeys⟩⟩
theorem o_note {N : Nat} (hN : 400 < N) (x1 : Int32) (x2 : Int32) : zop (fX11_note x1 x2) (fX12_note x1 x2) := by
  refine z_opI (fun A B => lc_fX11_note _ _ A) (fun A B => lm_fX12_note _ _ B) ?_
  intro tl nv ns c no nc nst nn r0 lv nr M hM
  have hM' := hM
  obtain ⟨hTape, hPlace, hTeam, hLearn, hBars, hClock, hCal, hGone, hOffers, hPres, hKept, hCalls, hHard, hNotes, hRules, hKeys⟩ := hM
  rcases q_note hClock hCalls hNotes x1 x2 with ⟨e1, e2⟩ | ⟨n6, k, r, k1, r1, rfl, rfl, w, e1, e2⟩
  · exact ⟨-1, M, M, e1, e2, z_same hM'⟩
  · have e2 := e2 M hNotes.2.2.1 hCalls.2.2.2.2.1 hClock.2.2 (by rw [← (hCalls.2.2.2.2.2.2.1 k k1).2.2.2.2.2.2.1]; exact w)
    exact ⟨_, _, _, e1, e2, ⟨tl, nv, ns, c, no, nc, nst, nn + 1, r0, lv, nr, gTape_c (M := M) rfl rfl rfl rfl hTape,
      gPlace_c (M := M) rfl rfl hPlace,
      gTeam_c (M := M) rfl rfl rfl rfl rfl rfl rfl rfl rfl rfl hTeam,
      gLearn_c (M := M) rfl rfl rfl hLearn,
      gBars_c (M := M) rfl rfl hBars,
      gClock_c (M := M) rfl rfl hClock,
      gCal_c (M := M) rfl rfl rfl rfl hCal,
      gGone_c (M := M) rfl rfl hGone,
      gOffers_c (M := M) rfl rfl rfl rfl rfl rfl rfl rfl hOffers,
      gPres_c (M := M) rfl rfl rfl hPres,
      gKept_c (M := M) rfl rfl rfl rfl rfl hKept,
      gCalls_c (M := M) rfl rfl rfl (fun a h1 h2 => by simp (disch := omega) only [zmx_1c, zpI_r, zpJ_1]) (fun a h1 h2 => by simp (disch := omega) only [zmx_1, zpI_r, zpJ_1]) rfl hCalls,
      gHard_c (M := M) rfl rfl rfl rfl rfl rfl rfl rfl hHard,
      ⟨by omega, rfl, rfl, by
        intro q hq
        show (if 66 = 66 ∧ q = nn then nI k else M.1 66 q) = (if 131 = 131 ∧ q = nn then nI k else M.1 131 q) ∧ (if 67 = 67 ∧ q = nn then nI r else M.1 67 q) = (if 132 = 132 ∧ q = nn then nI r else M.1 132 q) ∧ (if 68 = 68 ∧ q = nn then nI c else M.1 68 q) = (if 133 = 133 ∧ q = nn then nI c else M.1 133 q) ∧ ∃ j, j < nc ∧ (if 66 = 66 ∧ q = nn then nI k else M.1 66 q) = nI j
        by_cases w : q = nn
        · rw [if_pos ⟨rfl, w⟩, if_pos ⟨rfl, w⟩, if_pos ⟨rfl, w⟩, if_pos ⟨rfl, w⟩, if_pos ⟨rfl, w⟩, if_pos ⟨rfl, w⟩]
          exact ⟨rfl, rfl, rfl, k, k1, rfl⟩
        · rw [if_neg (fun z => w z.2), if_neg (fun z => w z.2), if_neg (fun z => w z.2), if_neg (fun z => w z.2), if_neg (fun z => w z.2), if_neg (fun z => w z.2)]
          exact hNotes.2.2.2 q (by omega)⟩,
      gRules_c (M := M) rfl rfl rfl (fun a h1 h2 h3 => by simp (disch := omega) only [zmx_1c, zpI_r, zpJ_1]) (fun a h1 h2 => by simp (disch := omega) only [zmx_1, zpI_r, zpJ_1]) hRules,
      gKeys_c (M := M) rfl hKeys⟩⟩
theorem o_learn {N : Nat} (hN : 400 < N) (x1 : Int32) (x2 : Int32) : zop (fX11_learn N x1 x2) (fX12_learn N x1 x2) := by
  refine z_opI (fun A B => lc_fX11_learn _ _ _ A) (fun A B => lm_fX12_learn _ _ _ B) ?_
  intro tl nv ns c no nc nst nn r0 lv nr M hM
  have hM' := hM
  obtain ⟨hTape, hPlace, hTeam, hLearn, hBars, hClock, hCal, hGone, hOffers, hPres, hKept, hCalls, hHard, hNotes, hRules, hKeys⟩ := hM
  rcases q_learn hTeam hClock hLearn x1 x2 hN with ⟨e1, e2⟩ | ⟨v, s, m, M1, v1, s1, m1, m2, hm, e1, k2, k3, k4, k5, e2⟩
  · exact ⟨0, M, M, e1, e2, z_same hM'⟩
  · obtain ⟨I1, J1, R1⟩ := M1
    obtain rfl : I1 = M.1 := k2
    obtain rfl : R1 = M.2.2 := k3
    have k4 : ∀ a, a ≠ 27 → J1 a = M.2.1 a := k4
    have t0 := hTeam.1
    have s0 := hTeam.2.2.2.1
    have c0 := hClock.1
    have hT2 : gTeam nv ns (zmx (M.1, J1, M.2.2) (zpI M 95 (200 * (8 * v + s) + c) 1)) := gTeam_c (M := M) rfl rfl rfl rfl rfl rfl rfl rfl rfl rfl hTeam
    refine ⟨_, _, _, e1, e2, ⟨tl, nv, ns, c, no, nc, nst, nn, r0, lv, nr, gTape_c (M := M) rfl rfl rfl rfl hTape,
      gPlace_c (M := M) rfl rfl hPlace,
      gTeam_c (M := M) rfl rfl rfl rfl rfl rfl rfl rfl rfl rfl hTeam,
      ?_,
      gBars_c (M := M) rfl rfl hBars,
      gClock_c (M := M) rfl rfl hClock,
      gCal_c (M := M) rfl rfl rfl rfl hCal,
      gGone_c (M := M) rfl rfl hGone,
      gOffers_c (M := M) rfl rfl rfl rfl rfl rfl rfl rfl hOffers,
      gPres_c (M := M) rfl rfl (k4 31 (by decide)) hPres,
      ?_,
      gCalls_c (M := M) rfl rfl rfl (fun a h1 h2 => by simp (disch := omega) only [zmx_1c, zpI_r, zpJ_1]) (fun a h1 h2 => by simp (disch := omega) only [zmx_1, zpI_r, zpJ_1]) rfl hCalls,
      gHard_c (M := M) rfl rfl rfl rfl rfl rfl rfl rfl hHard,
      gNotes_c (M := M) rfl rfl rfl rfl rfl rfl rfl rfl hNotes,
      gRules_c (M := M) rfl rfl rfl (fun a h1 h2 h3 => by simp (disch := omega) only [zmx_1c, zpI_r, zpJ_1]) (fun a h1 h2 => by simp (disch := omega) only [zmx_1, zpI_r, zpJ_1]) hRules,
      gKeys_c (M := M) rfl hKeys⟩⟩
    rotate_left
    · exact gKept_up hTeam hT2 (Nat.le_refl ns) rfl rfl rfl (fun w n hw hn q => by
        show (J1 27 n).toBitVec.getLsbD (8 * w) = true
        rw [show (J1 27 n).toBitVec.getLsbD (8 * w) = _ from k5 n (8 * w) hn (by omega), q]
        rfl) hKept
    · intro w u n hw hu hn
      obtain ⟨g1, g2, g3⟩ := hLearn w u n hw hu hn
      have hb := k5 n (8 * w + u) hn (by omega)
      have hrow : ∀ i, (zmx (M.1, J1, M.2.2) (zpI M 95 (200 * (8 * v + s) + c) 1)).1 95 i = if i = 200 * (8 * v + s) + c then 1 else M.1 95 i := by
        intro i
        rw [zmx_1 (by omega)]
        simp [zpI_1]
      have hJ : (zmx (M.1, J1, M.2.2) (zpI M 95 (200 * (8 * v + s) + c) 1)).2.1 27 n = J1 27 n := rfl
      have h94 : (zmx (M.1, J1, M.2.2) (zpI M 95 (200 * (8 * v + s) + c) 1)).1 94 = M.1 94 := rfl
      rw [hJ, h94]
      simp only [hrow]
      refine ⟨?_, ?_, ?_⟩
      · by_cases z : 200 * (8 * w + u) + n = 200 * (8 * v + s) + c
        · rw [if_pos z]; exact Or.inr rfl
        · rw [if_neg z]; exact g1
      · intro z
        obtain ⟨z1, z2⟩ := g2 z
        rw [if_neg (by omega), show (J1 27 n).toBitVec.getLsbD (8 * w + u) = _ from hb, z2]
        refine ⟨z1, ?_⟩
        have : ¬ 8 * w + u = 8 * v + s := by omega
        simp [this]
      · intro z1 z2
        rw [show (J1 27 n).toBitVec.getLsbD (8 * w + u) = _ from hb]
        by_cases z : 8 * w + u = 8 * v + s
        · have zw : w = v := by omega
          have zu : u = s := by omega
          subst zw zu
          have g4 := g3 z1 z2
          rw [hm, z_cl (by omega)] at g4 ⊢
          constructor
          · intro q
            simp only [Bool.or_eq_true, Bool.and_eq_true, decide_eq_true_eq] at q
            rcases q with q | q
            · obtain ⟨k, p1, p2, p3⟩ := g4.mp q
              refine ⟨k, p1, p2, ?_⟩
              by_cases zz : 200 * (8 * w + u) + k = 200 * (8 * w + u) + c
              · rw [if_pos zz]
              · rw [if_neg zz]; exact p3
            · exact ⟨c, q.1.2, q.2, by rw [if_pos rfl]⟩
          · rintro ⟨k, p1, p2, p3⟩
            simp only [Bool.or_eq_true, Bool.and_eq_true, decide_eq_true_eq]
            by_cases zz : k = c
            · subst zz
              exact Or.inr ⟨⟨trivial, p1⟩, p2⟩
            · rw [if_neg (by omega)] at p3
              exact Or.inl (g4.mpr ⟨k, p1, p2, p3⟩)
        · have g4 := g3 z1 z2
          simp only [z, decide_false, Bool.false_and, Bool.or_false]
          rw [g4]
          constructor
          · rintro ⟨k, p1, p2, p3⟩
            exact ⟨k, p1, p2, by rw [if_neg (by omega)]; exact p3⟩
          · rintro ⟨k, p1, p2, p3⟩
            rw [if_neg (by omega)] at p3
            exact ⟨k, p1, p2, p3⟩
theorem o_offer {N : Nat} (hN : 400 < N) (x1 : Int32) (x2 : Int32) (x3 : Int32) : zop (fX11_offer N x1 x2 x3) (fX12_offer N x1 x2 x3) := by
  refine z_opI (fun A B => lc_fX11_offer _ _ _ _ A) (fun A B => lm_fX12_offer _ _ _ _ B) ?_
  intro tl nv ns c no nc nst nn r0 lv nr M hM
  have hM' := hM
  obtain ⟨hTape, hPlace, hTeam, hLearn, hBars, hClock, hCal, hGone, hOffers, hPres, hKept, hCalls, hHard, hNotes, hRules, hKeys⟩ := hM
  have t0 := hTeam.1
  have c0 := hClock.1
  rcases q_offer hTeam hClock hCal hOffers x1 x2 x3 (show 10 < N by omega) with ⟨e1, e2⟩ | ⟨o5, f0, v, h, m, v1, h1, h2, m1, m2, hne, e1, e2⟩
  · exact ⟨-1, M, M, e1, e2, z_same hM'⟩
  · have e2 := e2 M hTeam.2.2.1 hClock.2.2 rfl rfl rfl rfl
    refine ⟨_, _, _, e1, e2, ⟨tl, nv, ns, c, no + 1, nc, nst, nn, r0, lv, nr, gTape_c (M := M) rfl rfl rfl rfl hTape,
      gPlace_c (M := M) rfl rfl hPlace,
      gTeam_c (M := M) rfl rfl rfl rfl rfl rfl rfl rfl rfl rfl hTeam,
      gLearn_c (M := M) rfl rfl rfl hLearn,
      gBars_c (M := M) rfl rfl hBars,
      gClock_c (M := M) rfl rfl hClock,
      gCal_c (M := M) rfl rfl rfl rfl hCal,
      gGone_c (M := M) rfl rfl hGone,
      ?_,
      gPres_c (M := M) rfl rfl rfl hPres,
      gKept_c (M := M) rfl rfl rfl rfl rfl hKept,
      gCalls_c (M := M) rfl rfl rfl (fun a h1 h2 => by simp (disch := omega) only [zmx_1c, zpI_r, zpJ_1]) (fun a h1 h2 => by simp (disch := omega) only [zmx_1, zpI_r, zpJ_1]) rfl hCalls,
      gHard_c (M := M) rfl rfl rfl rfl rfl rfl rfl rfl hHard,
      gNotes_c (M := M) rfl rfl rfl rfl rfl rfl rfl rfl hNotes,
      gRules_c (M := M) rfl rfl rfl (fun a h1 h2 h3 => by simp (disch := omega) only [zmx_1c, zpI_r, zpJ_1]) (fun a h1 h2 => by simp (disch := omega) only [zmx_1, zpI_r, zpJ_1]) hRules,
      gKeys_c (M := M) rfl hKeys⟩⟩
    obtain ⟨o0, o1, o2, o3, o4, o6⟩ := hOffers
    have a33 : ∀ k, (zmx (zpI (zpI (zpI (zpI M 33 no (nI v)) 34 no (nI h)) 35 no (nI m)) 32 3 (nI (no + 1))) (zpI (zpI (zpI (zpI M 103 (5 * c + no) (nI v)) 104 (5 * c + no) (nI h)) 105 (5 * c + no) (nI m)) 102 c (nI (no + 1)))).1 33 k = if k = no then nI v else M.1 33 k := by intro k; rw [zmx_1c (by omega)]; simp [zpI_1]
    refine ⟨by omega, rfl, ?_, ?_, ?_, ?_⟩
    · rw [zmx_1 (by omega)]; simp [zpI_1]
    · intro n n1 n2
      rw [zmx_1 (by omega)]
      simp only [zpI_1]
      rw [if_neg (by omega), if_neg (by omega), if_neg (by omega), if_neg (by omega)]
      exact o3 n n1 n2
    · intro k hk
      rw [a33]
      simp (disch := omega) only [zmx_1, zmx_1c, zpI_1]
      by_cases w : k = no
      · subst w
        simp only [if_true, Nat.reduceEqDiff, false_and, if_false, and_self, true_and]
        exact ⟨⟨v, v1, rfl⟩, ⟨h, h1, h2, rfl⟩, m, m1, m2, rfl⟩
      · have w2 : ¬ 5 * c + k = 5 * c + no := by omega
        simp only [w, w2, if_false, Nat.reduceEqDiff, false_and, and_false]
        exact o4 k (by omega)
    · intro k j hk hj
      rw [a33, a33]
      by_cases w : k = no
      · by_cases w2 : j = no
        · intro _; omega
        · rw [if_pos w, if_neg w2]
          intro z
          exact absurd z.symm (hne j (by omega))
      · by_cases w2 : j = no
        · rw [if_neg w, if_pos w2]
          intro z
          exact absurd z (hne k (by omega))
        · rw [if_neg w, if_neg w2]
          exact o6 k j (by omega) (by omega)
theorem o_call {N : Nat} (hN : 400 < N) (x1 : Int32) (x2 : Int32) (x3 : Int32) (x4 : Int32) (x5 : Int32) : zop (fX11_call x1 x2 x3 x4 x5) (fX12_call N x1 x2 x3 x4 x5) := by
  refine z_opI (fun A B => lc_fX11_call _ _ _ _ _ A) (fun A B => lm_fX12_call _ _ _ _ _ _ B) ?_
  intro tl nv ns c no nc nst nn r0 lv nr M hM
  have hM' := hM
  obtain ⟨hTape, hPlace, hTeam, hLearn, hBars, hClock, hCal, hGone, hOffers, hPres, hKept, hCalls, hHard, hNotes, hRules, hKeys⟩ := hM
  have t0 := hTeam.1
  have c0 := hClock.1
  rcases q_call hClock hCal hCalls x1 x2 x3 x4 x5 hN with ⟨e1, e2⟩ | ⟨n4, n40, g0, a, b, d, e, f, ha, hb, hd, he, f1, f2, e1, e2⟩
  · exact ⟨-1, M, M, e1, e2, z_same hM'⟩
  · have e2 := e2 M hClock.2.2 hCalls.2.2.2.2.1 rfl g0
    obtain ⟨h0, h1, h2, h3, h4, h5, h6, h7⟩ := hCalls
    generalize hA : (zpI (zpI (zpI (zpI (zpI (zpI (zpI (zpI (zpI (zpI M 48 nc (nI c)) 49 nc (nI a)) 50 nc (nI b)) 51 nc (nI d)) 52 nc (nI e)) 53 nc (nI f)) 54 nc 0) 55 nc (-1)) 56 nc (-1)) 47 9 (nI (nc + 1))) = A at e1
    generalize hB : (zpI (zpI (zpI (zpI (zpI (zpI (zpI (zpI (zpI (zpI M 112 nc (nI c)) 113 nc (nI a)) 114 nc (nI b)) 115 nc (nI d)) 116 nc (nI e)) 117 nc (nI f)) 118 nc 0) 119 nc (-1)) 120 nc (-1)) 69 60 (nI (nc + 1))) = B at e2
    have ra : ∀ p, p < 48 ∨ 57 ≤ p → p ≠ 47 → A.1 p = M.1 p := by
      intro p hp hq
      rw [← hA]
      simp (disch := omega) only [zpI_r]
    have rb : ∀ p, p < 112 ∨ 121 ≤ p → p ≠ 69 → B.1 p = M.1 p := by
      intro p hp hq
      rw [← hB]
      simp (disch := omega) only [zpI_r]
    have sb : ∀ j, j ≠ 60 → B.1 69 j = M.1 69 j := by
      intro j hj
      rw [← hB]
      simp [zpI_1, hj]
    have a2 : A.2 = M.2 := by rw [← hA]; rfl
    have b2 : B.2 = M.2 := by rw [← hB]; rfl
    have w48 : ∀ k, A.1 48 k = if k = nc then nI c else M.1 48 k := by intro k; rw [← hA]; simp [zpI_1]
    have w49 : ∀ k, A.1 49 k = if k = nc then nI a else M.1 49 k := by intro k; rw [← hA]; simp [zpI_1]
    have w50 : ∀ k, A.1 50 k = if k = nc then nI b else M.1 50 k := by intro k; rw [← hA]; simp [zpI_1]
    have w51 : ∀ k, A.1 51 k = if k = nc then nI d else M.1 51 k := by intro k; rw [← hA]; simp [zpI_1]
    have w52 : ∀ k, A.1 52 k = if k = nc then nI e else M.1 52 k := by intro k; rw [← hA]; simp [zpI_1]
    have w53 : ∀ k, A.1 53 k = if k = nc then nI f else M.1 53 k := by intro k; rw [← hA]; simp [zpI_1]
    have w54 : ∀ k, A.1 54 k = if k = nc then 0 else M.1 54 k := by intro k; rw [← hA]; simp [zpI_1]
    have w55 : ∀ k, A.1 55 k = if k = nc then -1 else M.1 55 k := by intro k; rw [← hA]; simp [zpI_1]
    have w56 : ∀ k, A.1 56 k = if k = nc then -1 else M.1 56 k := by intro k; rw [← hA]; simp [zpI_1]
    have v48 : ∀ k, B.1 112 k = if k = nc then nI c else M.1 112 k := by intro k; rw [← hB]; simp [zpI_1]
    have v49 : ∀ k, B.1 113 k = if k = nc then nI a else M.1 113 k := by intro k; rw [← hB]; simp [zpI_1]
    have v50 : ∀ k, B.1 114 k = if k = nc then nI b else M.1 114 k := by intro k; rw [← hB]; simp [zpI_1]
    have v51 : ∀ k, B.1 115 k = if k = nc then nI d else M.1 115 k := by intro k; rw [← hB]; simp [zpI_1]
    have v52 : ∀ k, B.1 116 k = if k = nc then nI e else M.1 116 k := by intro k; rw [← hB]; simp [zpI_1]
    have v53 : ∀ k, B.1 117 k = if k = nc then nI f else M.1 117 k := by intro k; rw [← hB]; simp [zpI_1]
    have v54 : ∀ k, B.1 118 k = if k = nc then 0 else M.1 118 k := by intro k; rw [← hB]; simp [zpI_1]
    have v55 : ∀ k, B.1 119 k = if k = nc then -1 else M.1 119 k := by intro k; rw [← hB]; simp [zpI_1]
    have v56 : ∀ k, B.1 120 k = if k = nc then -1 else M.1 120 k := by intro k; rw [← hB]; simp [zpI_1]
    have w9 : A.1 47 9 = nI (nc + 1) := by rw [← hA]; simp [zpI_1]
    have w10 : A.1 47 10 = M.1 47 10 := by rw [← hA]; simp [zpI_1]
    have v60 : B.1 69 60 = nI (nc + 1) := by rw [← hB]; simp [zpI_1]
    clear hA hB
    have nneg : ∀ v : Nat, v < 8 → ¬ (-1 : Int32) = nI v := fun v hv z => by rw [z_m1' (by omega)] at z; exact z
    refine ⟨_, A, B, e1, e2, ⟨tl, nv, ns, c, no, nc + 1, nst, nn, r0, lv, nr, gTape_c (M := M) (show A.1 1 1 = _ by rw [ra 1 (by omega) (by omega)]) (ra 2 (by omega) (by omega)) (sb 2 (by omega)) (rb 70 (by omega) (by omega)) hTape,
      gPlace_c (M := M) (show A.1 19 9 = _ by rw [ra 19 (by omega) (by omega)]) (sb 17 (by omega)) hPlace,
      gTeam_c (M := M) (show A.1 22 2 = _ by rw [ra 22 (by omega) (by omega)]) (sb 37 (by omega)) (show A.1 22 5 = _ by rw [ra 22 (by omega) (by omega)]) (sb 39 (by omega)) (ra 23 (by omega) (by omega)) (rb 92 (by omega) (by omega)) (ra 25 (by omega) (by omega)) (rb 93 (by omega) (by omega)) (ra 26 (by omega) (by omega)) (rb 94 (by omega) (by omega)) hTeam,
      gLearn_c (M := M) (rb 95 (by omega) (by omega)) (rb 94 (by omega) (by omega)) (congrFun (congrArg Prod.fst a2) 27) hLearn,
      gBars_c (M := M) (rb 96 (by omega) (by omega)) (ra 28 (by omega) (by omega)) hBars,
      gClock_c (M := M) (show A.1 0 11 = _ by rw [ra 0 (by omega) (by omega)]) (sb 44 (by omega)) hClock,
      gCal_c (M := M) (ra 30 (by omega) (by omega)) (rb 99 (by omega) (by omega)) (rb 101 (by omega) (by omega)) (rb 100 (by omega) (by omega)) hCal,
      gGone_c (M := M) (sb 71 (by omega)) (rb 100 (by omega) (by omega)) hGone,
      gOffers_c (M := M) (show A.1 32 3 = _ by rw [ra 32 (by omega) (by omega)]) (rb 102 (by omega) (by omega)) (ra 33 (by omega) (by omega)) (rb 103 (by omega) (by omega)) (ra 34 (by omega) (by omega)) (rb 104 (by omega) (by omega)) (ra 35 (by omega) (by omega)) (rb 105 (by omega) (by omega)) hOffers,
      gPres_c (M := M) (rb 106 (by omega) (by omega)) (rb 101 (by omega) (by omega)) (congrFun (congrArg Prod.fst a2) 31) hPres,
      gKept_c (M := M) (rb 101 (by omega) (by omega)) (rb 107 (by omega) (by omega)) (rb 106 (by omega) (by omega)) (ra 25 (by omega) (by omega)) (congrFun (congrArg Prod.fst a2) 27) hKept,
      ?_,
      ?_,
      ?_,
      gRules_c (M := M) (congrFun (congrFun (congrArg Prod.snd a2) 0) 2) (congrFun (congrFun (congrArg Prod.snd a2) 0) 3) (sb 18 (by omega)) (fun a h1 h2 h3 => by rw [zmx_1c (by omega)]; exact ra a (by omega) (by omega)) (fun a h1 h2 => by rw [zmx_1 (by omega)]; exact rb a (by omega) (by omega)) hRules,
      gKeys_c (M := M) (congrFun (congrArg Prod.fst b2) 76) hKeys⟩⟩
    · refine ⟨by omega, by omega, by omega, w9, v60, by rw [zmx_1c (by omega), w10]; exact h5, ?_, ?_⟩
      · intro k hk
        simp (disch := omega) only [zmx_1, zmx_1c, w48, w49, w50, w51, w52, w53, w54, w55, w56, v48, v49, v50, v51, v52, v53, v54, v55, v56]
        by_cases w : k = nc
        · simp only [w, if_true, and_self]
        · simp only [w, if_false]
          exact h6 k (by omega)
      · intro k hk
        simp (disch := omega) only [zmx_1, zmx_1c, w48, w49, w50, w51, w52, w53, w54, w55, w56]
        by_cases w : k = nc
        · simp only [w, if_true]
          exact ⟨⟨c, c0, fun z => absurd z (by omega), fun _ => rfl, rfl⟩, ⟨a, ha, rfl⟩, ⟨b, hb, rfl⟩, ⟨d, hd, rfl⟩, ⟨e, he, rfl⟩, ⟨f, f1, f2, rfl⟩, 0, by omega, rfl, fun z => absurd z (by omega), fun _ => trivial, fun z => absurd z (by omega), fun _ => trivial, fun _ _ => rfl⟩
        · simp only [w, if_false]
          rw [rb 100 (by omega) (by omega)]
          exact h7 k (by omega)
    · refine ⟨?_, ?_⟩
      · intro v n hv hn
        obtain ⟨g1, g2, g3⟩ := hHard.1 v n hv hn
        simp (disch := omega) only [zmx_1, zmx_1c, w48, w51, w53, w55, rb]
        refine ⟨g1, ?_, ?_⟩
        · rw [g2]
          constructor
          · rintro ⟨k, k1, k2, k3, k4⟩
            refine ⟨k, by omega, ?_⟩
            rw [if_neg (by omega), if_neg (by omega), if_neg (by omega)]
            exact ⟨k2, k3, k4⟩
          · rintro ⟨k, k1, k2, k3, k4⟩
            by_cases w : k = nc
            · rw [if_pos w] at k3
              exact absurd k3 (nneg v hv)
            · rw [if_neg w] at k2 k3 k4
              exact ⟨k, by omega, k2, k3, k4⟩
        · rw [g3, zsum]
          have z0 : (if (if nc = nc then nI c else M.1 48 nc) = nI n ∧ (if nc = nc then -1 else M.1 55 nc) = nI v then (if nc = nc then nI f else M.1 53 nc).toNatClampNeg else 0) = 0 := by
            rw [if_pos (rfl : nc = nc), if_pos (rfl : nc = nc), if_neg (fun z => nneg v hv z.2)]
          rw [z0, Nat.add_zero]
          refine congrArg nI (zsum_cong _ (fun k hk => ?_))
          have z1 : ¬ k = nc := by omega
          simp only [z1, if_false]
      · intro v hv
        simp (disch := omega) only [zmx_1, zmx_1c, ra, rb]
        exact hHard.2 v hv
    · obtain ⟨q0, q1, q2, q3⟩ := hNotes
      refine ⟨q0, ?_, ?_, fun k hk => ?_⟩
      · rw [zmx_1c (by omega), ra 65 (by omega) (by omega)]; exact q1
      · rw [zmx_1 (by omega), sb 81 (by omega)]; exact q2
      · simp (disch := omega) only [zmx_1, zmx_1c, ra, rb]
        obtain ⟨p1, p2, p3, j, p4, p5⟩ := q3 k hk
        exact ⟨p1, p2, p3, j, by omega, p5⟩
