/-! SHIFTS keep the invariant -/
theorem zsum_swap (F : Nat → Nat → Nat) (m : Nat) : ∀ n, zsum (fun u => zsum (fun o => F u o) m) n = zsum (fun o => zsum (fun u => F u o) n) m
  | 0 => by
    have : ∀ m, zsum (fun o => zsum (fun u => F u o) 0) m = 0 := by
      intro m
      induction m with
      | zero => rfl
      | succ m ih => rw [zsum, ih]; rfl
    rw [this]; rfl
  | n + 1 => by
    rw [zsum, zsum_swap F m n, ← zsum_add]
    rfl
theorem zsum_one {p n u : Nat} : ∀ n, u < n → zsum (fun x => if u = x then p else 0) n = p
  | 0, h => by omega
  | n + 1, h => by
    rw [zsum]
    by_cases e : u = n
    · have : zsum (fun x => if u = x then p else 0) n = 0 := by
        have : ∀ k, k ≤ n → zsum (fun x => if u = x then p else 0) k = 0 := by
          intro k
          induction k with
          | zero => intro _; rfl
          | succ k ih => intro hk; rw [zsum, ih (by omega), if_neg (by omega)]
        exact this n (Nat.le_refl n)
      rw [this, if_pos e]; omega
    · rw [zsum_one (n := n) n (by omega), if_neg e]; rfl
theorem zsum_inj {v p q : Nat → Nat} {no nv : Nat} (hv : ∀ o, o < no → v o < nv) (hq : ∀ u, u < nv → q u = zsum (fun o => if v o = u then p o else 0) no) : zsum q nv = zsum p no := by
  rw [zsum_cong nv hq, zsum_swap]
  exact zsum_cong no (fun o ho => zsum_one (n := nv) nv (hv o ho))
theorem zsum_pick {v p : Nat → Nat} {o u : Nat} : ∀ no, o < no → v o = u → (∀ j, j < no → v j = u → j = o) → zsum (fun o => if v o = u then p o else 0) no = p o
  | 0, h, _, _ => by omega
  | no + 1, h, e, hi => by
    rw [zsum]
    by_cases z : o = no
    · subst z
      have : ∀ k, k ≤ o → zsum (fun o => if v o = u then p o else 0) k = 0 := by
        intro k
        induction k with
        | zero => intro _; rfl
        | succ k ih =>
          intro hk
          rw [zsum, ih (by omega), if_neg (fun q => absurd (hi k (by omega) q) (by omega))]
      rw [this o (Nat.le_refl o), if_pos e]; omega
    · rw [zsum_pick no (by omega) e (fun j hj q => hi j (by omega) q), if_neg (fun q => z (hi no (by omega) q).symm)]
      rfl
theorem zsum_none {v p : Nat → Nat} {u : Nat} : ∀ no, (∀ j, j < no → v j ≠ u) → zsum (fun o => if v o = u then p o else 0) no = 0
  | 0, _ => rfl
  | no + 1, h => by rw [zsum, zsum_none no (fun j hj => h j (by omega)), if_neg (h no (by omega))]
theorem zthere_sum (M : zMem) (n j : Nat) : ∀ v, zthere M n j v = zsum (fun u => if (M.1 106 (8 * n + u)).toNatClampNeg.testBit j then 1 else 0) v
  | 0 => rfl
  | v + 1 => by rw [zthere, zsum, zthere_sum M n j v]
theorem zpb_at {J0 : Int64} {v w : Nat → Nat} {u j : Nat} (hj : j < 6) : ∀ n, zpb J0 v w n (6 * u + j) = (J0.toBitVec.getLsbD (6 * u + j) || decide (∃ o, o < n ∧ v o = u ∧ (w o).testBit j = true))
  | 0 => by simp [zpb]
  | n + 1 => by
    rw [zpb, zpb_at hj n]
    by_cases e : v n = u
    · have e1 : (decide (6 * v n ≤ 6 * u + j ∧ 6 * u + j < 6 * v n + 6) && (w n).testBit (6 * u + j - 6 * v n)) = (w n).testBit j := by
        rw [e, show 6 * u + j - 6 * u = j by omega]
        have : 6 * u ≤ 6 * u + j ∧ 6 * u + j < 6 * u + 6 := by omega
        simp [this]
      rw [e1, Bool.or_assoc]
      congr 1
      rw [Bool.eq_iff_iff]
      simp only [Bool.or_eq_true, decide_eq_true_eq]
      constructor
      · rintro (⟨o, o1, o2⟩ | q)
        · exact ⟨o, by omega, o2⟩
        · exact ⟨n, by omega, e, q⟩
      · rintro ⟨o, o1, o2⟩
        by_cases z : o = n
        · subst z; exact Or.inr o2.2
        · exact Or.inl ⟨o, by omega, o2⟩
    · have e1 : ¬ (6 * v n ≤ 6 * u + j ∧ 6 * u + j < 6 * v n + 6) := by omega
      rw [decide_eq_false e1, Bool.false_and, Bool.or_false]
      congr 1
      rw [Bool.eq_iff_iff]
      simp only [decide_eq_true_eq]
      constructor
      · rintro ⟨o, o1, o2⟩; exact ⟨o, by omega, o2⟩
      · rintro ⟨o, o1, o2⟩
        exact ⟨o, by rcases Nat.lt_or_ge o n with z | z; exact z; exact absurd (by rw [show n = o by omega]; exact o2.1) e, o2⟩
theorem zpb_hi {J0 : Int64} {v w : Nat → Nat} {k : Nat} (hk : 48 ≤ k) : ∀ n, (∀ o, o < n → v o < 8) → zpb J0 v w n k = J0.toBitVec.getLsbD k
  | 0, _ => rfl
  | n + 1, h => by
    have h8 := h n (by omega)
    have e1 : ¬ (6 * v n ≤ k ∧ k < 6 * v n + 6) := by omega
    rw [zpb, zpb_hi hk n (fun o ho => h o (by omega)), decide_eq_false e1]
    simp
theorem zacc_l6 (S : Nat → Bool) (w : Nat → Nat) : ∀ d i one two sk g, (∀ j, i ≤ j → j < i + d → w j < 64) → sk < 64 → (zacc S w i d one two sk g).2.2.1 < 64
  | 0, i, one, two, sk, g, _, h => h
  | d + 1, i, one, two, sk, g, hw, h => by
    rw [zacc]
    exact zacc_l6 S w d (i + 1) _ _ _ _ (fun j h1 h2 => hw j (by omega) (by omega)) (by split; exact z_or6 h (hw i (Nat.le_refl i) (by omega)); exact h)
theorem o_shifts {N : Nat} (hN : 3000000 < N) : zop (fX11_shifts N) (fX12_shifts N) := by
  refine z_opI (fun A B => lc_fX11_shifts _ A) (fun A B => lm_fX12_shifts _ B) ?_
  intro tl nv ns c no nc nst nn r0 lv nr M hM
  have hM' := hM
  obtain ⟨hTape, hPlace, hTeam, hLearn, hBars, hClock, hCal, hGone, hOffers, hPres, hKept, hCalls, hHard, hNotes, hRules, hKeys⟩ := hM
  have c0 := hClock.1
  have t0 := hTeam.1
  have o0 := hOffers.1
  obtain ⟨-, hf01, hg01⟩ := gCal_01 hCal c0
  have noway : (M.1 101 c = 1 ∨ M.1 100 c = 1) → ∃ r A B, fX11_shifts N M = some (r, A) ∧ fX12_shifts N M = some (r, B) ∧ zInv (zmx A B) := by
    intro q
    refine ⟨-1, M, M, ?_, ?_, z_same hM'⟩
    · unfold fX11_shifts
      rw [hClock.2.1, p_isFound hCal c0, zb2_some]
      rcases hf01 with e | e
      · rcases q with q | q
        · rw [e] at q; exact absurd q (by decide)
        · rw [e, if_pos rfl, hClock.2.1, p_isGone hCal c0, zb2_some, q, if_neg (by decide)]
      · rw [e, if_neg (by decide)]
    · unfold fX12_shifts
      rw [hClock.2.2, z_ldI c0 (by omega), zbd_some]
      rcases hf01 with e | e
      · rcases q with q | q
        · rw [e] at q; exact absurd q (by decide)
        · rw [e, if_pos rfl, z_ldI c0 (by omega), zbd_some, q, if_neg (by decide)]
      · rw [e, if_neg (by decide)]
  rcases hf01 with hf | hf
  · rcases hg01 with hg | hg
    · obtain ⟨k, g, w, A, hdfs, hk6, eA, hAR, aj, a31, abits, ra, a30⟩ := p_shifts hM' hf hg (N := N) (by omega)
      obtain ⟨idx, Y, eB, hY⟩ := m_shifts hM' hf hg hN hdfs
      obtain ⟨r, hr, hr2, -, hopt⟩ := zdfs_spec (H := zHo N M) (m := zmo M) (S := zso ns c M) no 0 0 0 0 0 (fun _ => 0) none
      rw [hdfs] at hr
      obtain rfl : (k, g, w) = r := Option.some.inj hr
      have hway : k = zpc ((zacc (zso ns c M) w 0 no 0 0 0 0).2.1 &&& (zacc (zso ns c M) w 0 no 0 0 0 0).2.2.1) ∧ g = (zacc (zso ns c M) w 0 no 0 0 0 0).2.2.2 ∧ ∀ j, j < no → w j ∈ zch (zHo N M j) (zmo M j) := by
        rcases hr2 with z | ⟨z1, z2, -, z4⟩
        · cases z
        · exact ⟨z1, z2, fun j hj => z4 j (Nat.zero_le j) (by omega)⟩
      obtain ⟨hk, hgg, hwm⟩ := hway
      have hoff := z_offs hM' N
      have hskill := z_opt (S := zso ns c M) hoff hwm hk hgg (fun v hv => hopt v (fun j _ hj => hv j (by omega)))
      have hw64 : ∀ j, j < no → w j < 64 := fun j hj => (zch_mem (hoff j hj).1 (hoff j hj).2.2 (hwm j hj)).1
      obtain ⟨y1, y2, y3, y4, y5, y6, y7⟩ := hY
      have hv : ∀ j, j < no → (M.1 33 j).toNatClampNeg < nv := by
        intro j hj
        obtain ⟨-, -, -, ⟨v, v1, v2⟩, -⟩ := hOffers.2.2.2.2.1 j hj
        rw [v2, z_cl (by omega)]; exact v1
      have hinj : ∀ j q, j < no → q < no → (M.1 33 j).toNatClampNeg = (M.1 33 q).toNatClampNeg → j = q := by
        intro j q hj hq e
        obtain ⟨-, -, -, ⟨v, v1, v2⟩, -⟩ := hOffers.2.2.2.2.1 j hj
        obtain ⟨-, -, -, ⟨v', v1', v2'⟩, -⟩ := hOffers.2.2.2.2.1 q hq
        apply hOffers.2.2.2.2.2 j q hj hq
        rw [v2, v2', z_cl (by omega), z_cl (by omega)] at e
        rw [v2, v2', e]
      generalize hvv : (fun i => (M.1 33 i).toNatClampNeg) = v at *
      have hv' : ∀ j, j < no → v j < nv := by intro j hj; rw [← hvv]; exact hv j hj
      have hinj' : ∀ j q, j < no → q < no → v j = v q → j = q := by rw [← hvv]; exact hinj
      have hS : ∀ o, zso ns c M o = zhas0 ns M (v o) c := by intro o; rw [← hvv]; rfl
      generalize hkt : ((zacc (zso ns c M) w 0 no 0 0 0 0).2.1 &&& (zacc (zso ns c M) w 0 no 0 0 0 0).2.2.1) = kt at *
      have hkt6 : kt < 64 := by
        rw [← hkt]
        exact z_and6 (zacc_l6 (zso ns c M) w no 0 0 0 0 0 (fun j _ hj => hw64 j (by omega)) (by omega))
      generalize hB : zpI (zpI Y 107 c (nI kt)) 101 c 1 = B at eB
      have hB2 : B.2 = M.2 := by rw [← hB]; exact y1
      have rb : ∀ a, a ≠ 106 → a ≠ 107 → a ≠ 101 → (a < 108 ∨ 111 < a) → B.1 a = M.1 a := by
        intro a h1 h2 h3 h4
        rw [← hB, zpI_r _ _ h3, zpI_r _ _ h2]
        exact y2 a h1 h4
      have r101 : ∀ t, B.1 101 t = if t = c then 1 else M.1 101 t := by
        intro t
        rw [← hB, zpI_1]
        by_cases e : t = c
        · rw [if_pos ⟨rfl, e⟩, if_pos e]
        · rw [if_neg (fun z => e z.2), if_neg e, zpI_r _ _ (by omega), y2 101 (by omega) (by omega)]
      have r107 : ∀ t, B.1 107 t = if t = c then nI kt else M.1 107 t := by
        intro t
        rw [← hB, zpI_r _ _ (by omega), zpI_1]
        by_cases e : t = c
        · rw [if_pos ⟨rfl, e⟩, if_pos e]
        · rw [if_neg (fun z => e z.2), if_neg e, y2 107 (by omega) (by omega)]
      have r106 : B.1 106 = Y.1 106 := by rw [← hB, zpI_r _ _ (by omega), zpI_r _ _ (by omega)]
      have r106o : ∀ n u, n < 200 → u < 8 → n ≠ c → B.1 106 (8 * n + u) = M.1 106 (8 * n + u) := by
        intro n u hn hu hne
        rw [r106]
        exact y7 _ (fun j hj => by have := hv' j hj; omega)
      clear hB
      -- the hours of a volunteer in this night
      have hour : ∀ u, u < 8 → ∃ h, h < 64 ∧ B.1 106 (8 * c + u) = nI h ∧ (nv ≤ u → h = 0) ∧ (∀ j, j < 6 → h.testBit j = decide (∃ o, o < no ∧ v o = u ∧ (w o).testBit j = true)) ∧ ∀ j, (if h.testBit j then 1 else 0) = zsum (fun o => if v o = u then (if (w o).testBit j then 1 else 0) else 0) no := by
        intro u hu
        by_cases e : ∃ o, o < no ∧ v o = u
        · obtain ⟨o, o1, o2⟩ := e
          refine ⟨w o, hw64 o o1, ?_, ?_, ?_, ?_⟩
          · rw [r106, ← o2]; exact y6 o o1
          · intro z; have := hv' o o1; omega
          · intro j hj
            rw [Bool.eq_iff_iff, decide_eq_true_eq]
            constructor
            · intro q; exact ⟨o, o1, o2, q⟩
            · rintro ⟨p, p1, p2, p3⟩
              rw [hinj' o p o1 p1 (by rw [o2, p2])]; exact p3
          · intro j
            rw [zsum_pick (p := fun o => if (w o).testBit j then 1 else 0) no o1 o2 (fun q hq e => hinj' q o hq o1 (by rw [e, o2]))]
        · obtain ⟨h, a1, a2, a3, a4, a5⟩ := (hPres c c0).1 u hu
          have hz := a5 hf
          subst hz
          have e' : ∀ o, o < no → v o ≠ u := fun o ho q => e ⟨o, ho, q⟩
          refine ⟨0, by omega, ?_, fun _ => rfl, ?_, ?_⟩
          · rw [r106, y7 _ (fun j hj q => e' j hj (by omega))]; exact a2
          · intro j hj
            symm
            rw [Nat.zero_testBit, decide_eq_false_iff_not]
            rintro ⟨o, o1, o2, -⟩
            exact e ⟨o, o1, o2⟩
          · intro j
            rw [zsum_none no e', Nat.zero_testBit]
            rfl
      have there : ∀ j, zthere (zmx A B) c j nv = zct w j no := by
        intro j
        rw [zthere_sum]
        refine zsum_inj (v := v) (p := fun o => if (w o).testBit j then 1 else 0) hv' (fun u hu => ?_)
        obtain ⟨h, a1, a2, -, -, a5⟩ := hour u (by omega)
        rw [zmx_1 (by omega), a2, z_cl (by omega)]
        exact a5 j
      refine ⟨_, A, B, eA, eB, ⟨tl, nv, ns, c, no, nc, nst, nn, r0, lv, nr, gTape_c (M := M) (congrFun (ra 1 (by omega) (by omega)) 1) (ra 2 (by omega) (by omega)) (congrFun (rb 69 (by omega) (by omega) (by omega) (by omega)) 2) (rb 70 (by omega) (by omega) (by omega) (by omega)) hTape,
      gPlace_c (M := M) (congrFun (ra 19 (by omega) (by omega)) 9) (congrFun (rb 69 (by omega) (by omega) (by omega) (by omega)) 17) hPlace,
      gTeam_c (M := M) (congrFun (ra 22 (by omega) (by omega)) 2) (congrFun (rb 69 (by omega) (by omega) (by omega) (by omega)) 37) (congrFun (ra 22 (by omega) (by omega)) 5) (congrFun (rb 69 (by omega) (by omega) (by omega) (by omega)) 39) (ra 23 (by omega) (by omega)) (rb 92 (by omega) (by omega) (by omega) (by omega)) (ra 25 (by omega) (by omega)) (rb 93 (by omega) (by omega) (by omega) (by omega)) (ra 26 (by omega) (by omega)) (rb 94 (by omega) (by omega) (by omega) (by omega)) hTeam,
      gLearn_c (M := M) (rb 95 (by omega) (by omega) (by omega) (by omega)) (rb 94 (by omega) (by omega) (by omega) (by omega)) (aj 27 (by omega)) hLearn,
      gBars_c (M := M) (rb 96 (by omega) (by omega) (by omega) (by omega)) (ra 28 (by omega) (by omega)) hBars,
      gClock_c (M := M) (congrFun (ra 0 (by omega) (by omega)) 11) (congrFun (rb 69 (by omega) (by omega) (by omega) (by omega)) 44) hClock,
      ?_,
      gGone_c (M := M) (congrFun (rb 69 (by omega) (by omega) (by omega) (by omega)) 71) (rb 100 (by omega) (by omega) (by omega) (by omega)) hGone,
      gOffers_c (M := M) (congrFun (ra 32 (by omega) (by omega)) 3) (rb 102 (by omega) (by omega) (by omega) (by omega)) (ra 33 (by omega) (by omega)) (rb 103 (by omega) (by omega) (by omega) (by omega)) (ra 34 (by omega) (by omega)) (rb 104 (by omega) (by omega) (by omega) (by omega)) (ra 35 (by omega) (by omega)) (rb 105 (by omega) (by omega) (by omega) (by omega)) hOffers,
      ?_,
      ?_,
      gCalls_c (M := M) (congrFun (ra 47 (by omega) (by omega)) 9) (congrFun (rb 69 (by omega) (by omega) (by omega) (by omega)) 60) (congrFun (ra 47 (by omega) (by omega)) 10) (fun a h1 h2 => by rw [zmx_1c (by omega)]; exact ra a (by omega) (by omega)) (fun a h1 h2 => by rw [zmx_1 (by omega)]; exact rb a (by omega) (by omega) (by omega) (by omega)) (rb 100 (by omega) (by omega) (by omega) (by omega)) hCalls,
      gHard_c (M := M) (rb 97 (by omega) (by omega) (by omega) (by omega)) (ra 48 (by omega) (by omega)) (ra 55 (by omega) (by omega)) (ra 51 (by omega) (by omega)) (rb 121 (by omega) (by omega) (by omega) (by omega)) (ra 53 (by omega) (by omega)) (ra 24 (by omega) (by omega)) (rb 98 (by omega) (by omega) (by omega) (by omega)) hHard,
      gNotes_c (M := M) (congrFun (ra 65 (by omega) (by omega)) 3) (congrFun (rb 69 (by omega) (by omega) (by omega) (by omega)) 81) (ra 66 (by omega) (by omega)) (rb 131 (by omega) (by omega) (by omega) (by omega)) (ra 67 (by omega) (by omega)) (rb 132 (by omega) (by omega) (by omega) (by omega)) (ra 68 (by omega) (by omega)) (rb 133 (by omega) (by omega) (by omega) (by omega)) hNotes,
      gRules_c (M := M) (congrFun (congrFun hAR 0) 2) (congrFun (congrFun hAR 0) 3) (congrFun (rb 69 (by omega) (by omega) (by omega) (by omega)) 18) (fun a h1 h2 h3 => by rw [zmx_1c (by omega)]; exact ra a (by omega) (by omega)) (fun a h1 h2 => by rw [zmx_1 (by omega)]; exact rb a (by omega) (by omega) (by omega) (by omega)) hRules,
      gKeys_c (M := M) (congrFun (congrArg Prod.fst hB2) 76) hKeys⟩⟩
      · intro q hq
        obtain ⟨h, f, g, h1, h2, h3, k1, k2, k3, k4⟩ := hCal q hq
        obtain ⟨-, -, -, -, m1, -⟩ := z_mk h h1 f h2 g h3
        rw [zmx_1c (by omega), zmx_1 (by omega), zmx_1 (by omega), zmx_1 (by omega), a30, rb 99 (by omega) (by omega) (by omega) (by omega), rb 100 (by omega) (by omega) (by omega) (by omega), r101]
        by_cases e : q = c
        · subst e
          rw [if_pos rfl, if_pos rfl, k1]
          exact ⟨h, 1, g, h1, by omega, h3, m1, k2, rfl, k4⟩
        · rw [if_neg e, if_neg e]
          exact ⟨h, f, g, h1, h2, h3, k1, k2, k3, k4⟩
      · intro n hn
        by_cases e : n = c
        · subst e
          refine ⟨fun u hu => ?_, fun j hj => ?_⟩
          · obtain ⟨h, a1, a2, a3, a4, -⟩ := hour u hu
            refine ⟨h, a1, by rw [zmx_1 (by omega)]; exact a2, fun j hj => ?_, a3, fun q => ?_⟩
            · obtain ⟨h', b1, b2, b3, b4, b5⟩ := (hPres n hn).1 u hu
              have hz := b5 hf
              subst hz
              rw [zmx_2c (by omega), abits _ (by omega), zpb_at hj, b3 j hj, a4 j hj, Nat.zero_testBit, Bool.false_or]
            · rw [zmx_1 (by omega), r101, if_pos rfl] at q
              exact absurd q (by decide)
          · rw [zmx_2c (by omega)]
            rcases Nat.lt_or_ge j 64 with q | q
            · rw [abits j q, zpb_hi hj no (fun o ho => by have := hv' o ho; omega)]
              exact (hPres n hn).2 j hj
            · exact BitVec.getLsbD_of_ge _ _ q
        · obtain ⟨p1, p2⟩ := hPres n hn
          refine ⟨fun u hu => ?_, fun j hj => ?_⟩
          · obtain ⟨h, a1, a2, a3, a4, a5⟩ := p1 u hu
            refine ⟨h, a1, by rw [zmx_1 (by omega), r106o n u hn hu e]; exact a2, fun j hj => by rw [zmx_2c (by omega), a31 n e]; exact a3 j hj, a4, fun q => a5 ?_⟩
            rw [zmx_1 (by omega), r101, if_neg e] at q
            exact q
          · rw [zmx_2c (by omega), a31 n e]; exact p2 j hj
      · intro n hn hfo
        rw [zmx_1 (by omega), r101] at hfo
        have zh : ∀ u t, zhas0 ns (zmx A B) u t = zhas0 ns M u t := fun u t => zhas0_c (ra 25 (by omega) (by omega)) (aj 27 (by omega)) u t
        by_cases e : n = c
        · subst e
          refine ⟨kt, hkt6, by rw [zmx_1 (by omega), r107, if_pos rfl], fun j hj => ?_⟩
          rw [there j]
          have hb : kt.testBit j = (decide (2 ≤ zct w j no) && zan (zso ns n M) w j no) := by
            rw [← hkt, Nat.testBit_and, (zacc_cnt _ w j no).2.1, (zacc_cnt _ w j no).2.2.1]
          refine ⟨?_, fun q => ?_⟩
          · rw [hb]
            by_cases q : 2 ≤ zct w j no
            · rw [hskill j hj q]; simp
            · simp [q]
          · obtain ⟨o, o1, o2, o3⟩ := (zan_iff no).mp (hskill j hj q)
            refine ⟨v o, hv' o o1, ?_, ?_⟩
            · rw [zmx_1 (by omega), r106, y6 o o1, z_cl (by have := hw64 o o1; omega)]
              exact o3
            · rw [zh, ← hS]; exact o2
        · rw [if_neg e] at hfo
          obtain ⟨t, t1, t2, t3⟩ := hKept n hn hfo
          have hth : ∀ j, zthere (zmx A B) n j nv = zthere M n j nv := by
            intro j
            rw [zthere_sum, zthere_sum]
            refine zsum_cong nv (fun u hu => ?_)
            rw [zmx_1 (by omega), r106o n u hn (by omega) e]
          refine ⟨t, t1, by rw [zmx_1 (by omega), r107, if_neg e]; exact t2, fun j hj => ?_⟩
          rw [hth]
          obtain ⟨b1, b2⟩ := t3 j hj
          refine ⟨b1, fun q => ?_⟩
          obtain ⟨u, u1, u2, u3⟩ := b2 q
          exact ⟨u, u1, by rw [zmx_1 (by omega), r106o n u hn (by omega) e]; exact u2, by rw [zh]; exact u3⟩
    · exact noway (Or.inr hg)
  · exact noway (Or.inl hf)
