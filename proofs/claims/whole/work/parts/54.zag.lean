/-! memories that agree but for scratch rows -/
def zag (lo hi : Nat) (M W : zMem) : Prop := W.2 = M.2 ∧ ∀ a, a < lo ∨ hi < a → W.1 a = M.1 a
theorem zag_r (lo hi : Nat) (M : zMem) : zag lo hi M M := ⟨rfl, fun _ _ => rfl⟩
theorem zag_t {lo hi : Nat} {M W X : zMem} (h1 : zag lo hi M W) (h2 : zag lo hi W X) : zag lo hi M X := ⟨by rw [h2.1, h1.1], fun a ha => by rw [h2.2 a ha, h1.2 a ha]⟩
theorem zag_p {lo hi a k : Nat} {M W : zMem} {v : Int32} (h : zag lo hi M W) (h1 : lo ≤ a) (h2 : a ≤ hi) : zag lo hi M (zpI W a k v) := ⟨h.1, fun b hb => by rw [zpI_r _ _ (by omega), h.2 b hb]⟩
theorem gAll_36 {tl nv ns c no nc nst nn r0 lv nr : Nat} {M W : zMem} (hM : gAll tl nv ns c no nc nst nn r0 lv nr M) (h : zag 36 46 M W) : gAll tl nv ns c no nc nst nn r0 lv nr W := by
  obtain ⟨hTape, hPlace, hTeam, hLearn, hBars, hClock, hCal, hGone, hOffers, hPres, hKept, hCalls, hHard, hNotes, hRules, hKeys⟩ := hM
  exact ⟨gTape_c (M := M) (congrFun (h.2 1 (by omega)) 1) (h.2 2 (by omega)) (congrFun (h.2 69 (by omega)) 2) (h.2 70 (by omega)) hTape,
    gPlace_c (M := M) (congrFun (h.2 19 (by omega)) 9) (congrFun (h.2 69 (by omega)) 17) hPlace,
    gTeam_c (M := M) (congrFun (h.2 22 (by omega)) 2) (congrFun (h.2 69 (by omega)) 37) (congrFun (h.2 22 (by omega)) 5) (congrFun (h.2 69 (by omega)) 39) (h.2 23 (by omega)) (h.2 92 (by omega)) (h.2 25 (by omega)) (h.2 93 (by omega)) (h.2 26 (by omega)) (h.2 94 (by omega)) hTeam,
    gLearn_c (M := M) (h.2 95 (by omega)) (h.2 94 (by omega)) (congrFun (congrArg Prod.fst h.1) 27) hLearn,
    gBars_c (M := M) (h.2 96 (by omega)) (h.2 28 (by omega)) hBars,
    gClock_c (M := M) (congrFun (h.2 0 (by omega)) 11) (congrFun (h.2 69 (by omega)) 44) hClock,
    gCal_c (M := M) (h.2 30 (by omega)) (h.2 99 (by omega)) (h.2 101 (by omega)) (h.2 100 (by omega)) hCal,
    gGone_c (M := M) (congrFun (h.2 69 (by omega)) 71) (h.2 100 (by omega)) hGone,
    gOffers_c (M := M) (congrFun (h.2 32 (by omega)) 3) (h.2 102 (by omega)) (h.2 33 (by omega)) (h.2 103 (by omega)) (h.2 34 (by omega)) (h.2 104 (by omega)) (h.2 35 (by omega)) (h.2 105 (by omega)) hOffers,
    gPres_c (M := M) (h.2 106 (by omega)) (h.2 101 (by omega)) (congrFun (congrArg Prod.fst h.1) 31) hPres,
    gKept_c (M := M) (h.2 101 (by omega)) (h.2 107 (by omega)) (h.2 106 (by omega)) (h.2 25 (by omega)) (congrFun (congrArg Prod.fst h.1) 27) hKept,
    gCalls_c (M := M) (congrFun (h.2 47 (by omega)) 9) (congrFun (h.2 69 (by omega)) 60) (congrFun (h.2 47 (by omega)) 10) (fun a h1 h2 => h.2 a (by omega)) (fun a h1 h2 => h.2 a (by omega)) (h.2 100 (by omega)) hCalls,
    gHard_c (M := M) (h.2 97 (by omega)) (h.2 48 (by omega)) (h.2 55 (by omega)) (h.2 51 (by omega)) (h.2 121 (by omega)) (h.2 53 (by omega)) (h.2 24 (by omega)) (h.2 98 (by omega)) hHard,
    gNotes_c (M := M) (congrFun (h.2 65 (by omega)) 3) (congrFun (h.2 69 (by omega)) 81) (h.2 66 (by omega)) (h.2 131 (by omega)) (h.2 67 (by omega)) (h.2 132 (by omega)) (h.2 68 (by omega)) (h.2 133 (by omega)) hNotes,
    gRules_c (M := M) (congrFun (congrFun (congrArg Prod.snd h.1) 0) 2) (congrFun (congrFun (congrArg Prod.snd h.1) 0) 3) (congrFun (h.2 69 (by omega)) 18) (fun a h1 h2 h3 => h.2 a (by omega)) (fun a h1 h2 => h.2 a (by omega)) hRules,
    gKeys_c (M := M) (congrFun (congrArg Prod.fst h.1) 76) hKeys⟩
theorem gAll_108 {tl nv ns c no nc nst nn r0 lv nr : Nat} {M W : zMem} (hM : gAll tl nv ns c no nc nst nn r0 lv nr M) (h : zag 108 111 M W) : gAll tl nv ns c no nc nst nn r0 lv nr W := by
  obtain ⟨hTape, hPlace, hTeam, hLearn, hBars, hClock, hCal, hGone, hOffers, hPres, hKept, hCalls, hHard, hNotes, hRules, hKeys⟩ := hM
  exact ⟨gTape_c (M := M) (congrFun (h.2 1 (by omega)) 1) (h.2 2 (by omega)) (congrFun (h.2 69 (by omega)) 2) (h.2 70 (by omega)) hTape,
    gPlace_c (M := M) (congrFun (h.2 19 (by omega)) 9) (congrFun (h.2 69 (by omega)) 17) hPlace,
    gTeam_c (M := M) (congrFun (h.2 22 (by omega)) 2) (congrFun (h.2 69 (by omega)) 37) (congrFun (h.2 22 (by omega)) 5) (congrFun (h.2 69 (by omega)) 39) (h.2 23 (by omega)) (h.2 92 (by omega)) (h.2 25 (by omega)) (h.2 93 (by omega)) (h.2 26 (by omega)) (h.2 94 (by omega)) hTeam,
    gLearn_c (M := M) (h.2 95 (by omega)) (h.2 94 (by omega)) (congrFun (congrArg Prod.fst h.1) 27) hLearn,
    gBars_c (M := M) (h.2 96 (by omega)) (h.2 28 (by omega)) hBars,
    gClock_c (M := M) (congrFun (h.2 0 (by omega)) 11) (congrFun (h.2 69 (by omega)) 44) hClock,
    gCal_c (M := M) (h.2 30 (by omega)) (h.2 99 (by omega)) (h.2 101 (by omega)) (h.2 100 (by omega)) hCal,
    gGone_c (M := M) (congrFun (h.2 69 (by omega)) 71) (h.2 100 (by omega)) hGone,
    gOffers_c (M := M) (congrFun (h.2 32 (by omega)) 3) (h.2 102 (by omega)) (h.2 33 (by omega)) (h.2 103 (by omega)) (h.2 34 (by omega)) (h.2 104 (by omega)) (h.2 35 (by omega)) (h.2 105 (by omega)) hOffers,
    gPres_c (M := M) (h.2 106 (by omega)) (h.2 101 (by omega)) (congrFun (congrArg Prod.fst h.1) 31) hPres,
    gKept_c (M := M) (h.2 101 (by omega)) (h.2 107 (by omega)) (h.2 106 (by omega)) (h.2 25 (by omega)) (congrFun (congrArg Prod.fst h.1) 27) hKept,
    gCalls_c (M := M) (congrFun (h.2 47 (by omega)) 9) (congrFun (h.2 69 (by omega)) 60) (congrFun (h.2 47 (by omega)) 10) (fun a h1 h2 => h.2 a (by omega)) (fun a h1 h2 => h.2 a (by omega)) (h.2 100 (by omega)) hCalls,
    gHard_c (M := M) (h.2 97 (by omega)) (h.2 48 (by omega)) (h.2 55 (by omega)) (h.2 51 (by omega)) (h.2 121 (by omega)) (h.2 53 (by omega)) (h.2 24 (by omega)) (h.2 98 (by omega)) hHard,
    gNotes_c (M := M) (congrFun (h.2 65 (by omega)) 3) (congrFun (h.2 69 (by omega)) 81) (h.2 66 (by omega)) (h.2 131 (by omega)) (h.2 67 (by omega)) (h.2 132 (by omega)) (h.2 68 (by omega)) (h.2 133 (by omega)) hNotes,
    gRules_c (M := M) (congrFun (congrFun (congrArg Prod.snd h.1) 0) 2) (congrFun (congrFun (congrArg Prod.snd h.1) 0) 3) (congrFun (h.2 69 (by omega)) 18) (fun a h1 h2 h3 => h.2 a (by omega)) (fun a h1 h2 => h.2 a (by omega)) hRules,
    gKeys_c (M := M) (congrFun (congrArg Prod.fst h.1) 76) hKeys⟩
