/-! GO keeps the invariant -/
theorem zsum_zero {f : Nat → Nat} : ∀ n, (∀ k, k < n → f k = 0) → zsum f n = 0
  | 0, _ => rfl
  | n + 1, h => by rw [zsum, zsum_zero n (fun k hk => h k (by omega)), h n (by omega)]
theorem zcr_zero {p : Nat → Bool} (d i : Nat) (h : ∀ k, i ≤ k → k < i + d → p k = false) : zcr p i d = 0 := zcr_none d i h
theorem zcnt_up {p q : Nat → Bool} {k : Nat} (hp : p k = false) (hq : q k = true) (hne : ∀ j, j ≠ k → p j = q j) (n : Nat) (hk : k < n) : zcnt q n = zcnt p n + 1 := by
  have h1 := zcr_cnt p n 0
  have h2 := zcr_cnt q n 0
  have h3 := zcr_up hp hq hne n 0 (Nat.zero_le k) (by omega)
  rw [Nat.zero_add] at h1 h2
  rw [h1, h2, h3]
  simp [zcnt]
theorem o_go {N : Nat} (hN : 3000000 < N) : zop (fX11_go N) (fX12_go N) := by
  refine z_opI (fun A B => lc_fX11_go _ A) (fun A B => lm_fX12_go _ B) ?_
  intro tl nv ns c no nc nst nn r0 lv nr M hM
  have hM' := hM
  obtain ⟨hTape, hPlace, hTeam, hLearn, hBars, hClock, hCal, hGone, hOffers, hPres, hKept, hCalls, hHard, hNotes, hRules, hKeys⟩ := hM
  have c0 := hClock.1
  have t0 := hTeam.1
  have n4 := hCalls.1
  have nst4 := hCalls.2.1
  obtain ⟨-, -, hg01⟩ := gCal_01 hCal c0
  rcases hg01 with hg | hg
  · obtain ⟨u0, u1, u2, u3, u4, u5, u6, u7, cs, u8, u9, R, u10⟩ := id hRules
    -- the base: the reference of the rules is set
    generalize hMb : zpR (zpI M 30 c (M.1 30 c ||| 4)) 57 10 r0 = Mb
    have b1 : ∀ a, a ≠ 30 → Mb.1 a = M.1 a := fun a ha => by rw [← hMb, zpR_1, zpI_r _ _ ha]
    have b2 : Mb.2.1 = M.2.1 := by rw [← hMb]; rfl
    have b3 : ∀ a k, a ≠ 57 → Mb.2.2 a k = M.2.2 a k := by
      intro a k ha
      rw [← hMb, zpR_3, if_neg (fun z => ha z.1)]
      rfl
    have b4 : Mb.2.2 57 10 = r0 := by rw [← hMb, zpR_3, if_pos ⟨rfl, rfl⟩]
    have gT : gTeam nv ns Mb := gTeam_c (M := M) (congrFun (b1 22 (by omega)) 2) (congrFun (b1 69 (by omega)) 37) (congrFun (b1 22 (by omega)) 5) (congrFun (b1 69 (by omega)) 39) (b1 23 (by omega)) (b1 92 (by omega)) (b1 25 (by omega)) (b1 93 (by omega)) (b1 26 (by omega)) (b1 94 (by omega)) hTeam
    have gL : gLearn nv ns Mb := gLearn_c (M := M) (b1 95 (by omega)) (b1 94 (by omega)) (by rw [b2]) hLearn
    have gB : gBars Mb := gBars_c (M := M) (b1 96 (by omega)) (b1 28 (by omega)) hBars
    have gP : gPres nv Mb := gPres_c (M := M) (b1 106 (by omega)) (b1 101 (by omega)) (by rw [b2]) hPres
    have gK : gClock c Mb := gClock_c (M := M) (congrFun (b1 0 (by omega)) 11) (congrFun (b1 69 (by omega)) 44) hClock
    have gC : gCalls nv c nc nst Mb := gCalls_c (M := M) (congrFun (b1 47 (by omega)) 9) (congrFun (b1 69 (by omega)) 60) (congrFun (b1 47 (by omega)) 10) (fun a _ _ => b1 a (by omega)) (fun a _ _ => b1 a (by omega)) (b1 100 (by omega)) hCalls
    have gU : zRu r0 lv nr cs R Mb := zRu_c (M := M) (congrFun (b1 69 (by omega)) 18) (fun a _ _ _ => b1 a (by omega)) (fun a _ _ => b1 a (by omega)) ⟨u0, u3, u4, u5, u6, u7, u8, u9, u10⟩
    -- the class begins
    generalize hM3 : zpI (zpR (zpI (zpI M 30 c (M.1 30 c ||| 4)) 57 11 (nI c)) 57 10 r0) 57 12 0 = M3
    have m3a : ∀ a, a ≠ 30 → a ≠ 57 → M3.1 a = M.1 a := by
      intro a a1 a2
      rw [← hM3, zpI_r _ _ a2, zpR_1, zpI_r _ _ a2, zpI_r _ _ a1]
    have m3e : ∀ a, a ≠ 57 → M3.1 a = Mb.1 a := by
      intro a a2
      rw [← hM3, ← hMb, zpI_r _ _ a2, zpR_1, zpI_r _ _ a2, zpR_1]
    have m3b : M3.2 = Mb.2 := by rw [← hM3, ← hMb]; rfl
    have m3c : M3.1 57 11 = nI c ∧ M3.1 57 12 = 0 := by rw [← hM3]; exact ⟨rfl, rfl⟩
    have m3d : ∀ t, M3.1 30 t = if t = c then M.1 30 c ||| 4 else M.1 30 t := by
      intro t
      rw [← hM3, zpI_r _ _ (by omega), zpR_1, zpI_r _ _ (by omega), zpI_1]
      by_cases e : t = c
      · rw [if_pos ⟨rfl, e⟩, if_pos e]
      · rw [if_neg (fun z => e z.2), if_neg e]
    have gA3 : zGA Mb c r0 M3 := ⟨m3b, by rw [m3b]; exact b4, fun a p1 p2 p3 p4 => m3e a (by omega), m3c.1⟩
    obtain ⟨A0, a1, gA0, a3, a4, a5, a6⟩ := p_beg17 (N := N) gC (by omega) 8 0 N M3 (by omega) (by omega) gA3 (fun k hk => by rw [m3e 54 (by omega)]) (fun v hv => absurd hv (Nat.not_lt_zero v))
    -- the reference begins
    obtain ⟨B0, r1, gB0, r3, r4, r5⟩ := m_beg16 (M := Mb) (N := N) 8 0 N Mb (by omega) (by omega) ⟨rfl, fun _ _ _ _ => rfl⟩ (fun v hv => absurd hv (Nat.not_lt_zero v))
    have r6 := m_beg51 (N := N) gC gK gB0 nst 0 N (by omega) (by omega)
    obtain ⟨B1, s1, gB1, s3, s4, s5⟩ := m_beg80 (N := N) gC (by omega) (nc - nst) nst N B0 (by omega) (Nat.le_refl nst) (by omega) gB0 (fun j hj => by rw [r4 118 (by omega) (by omega) (by omega)]) (fun j j1 j2 => by omega)
    have hrefbeg : fX12_go N Mb = fX12_go_L158 N N (nI nst) 0 B1 := by
      unfold fX12_go
      rw [gK.2.2, z_ldI c0 (by omega), zbd_some, show Mb.1 100 c = 0 by rw [b1 100 (by omega)]; exact hg, if_pos rfl, show (0 : Int32) = nI 0 from rfl, r1, show (0 : Int32) = nI 0 from rfl, r6]
      unfold fX12_go_L78
      rw [s1]
      rfl
    have row54 : ∀ k, k < nc → A0.1 54 k = M.1 54 k ∧ A0.1 55 k = M.1 55 k ∧ A0.1 56 k = M.1 56 k := fun k hk => by rw [a4 54 (by omega) (by omega) (by omega) (by omega), a4 55 (by omega) (by omega) (by omega) (by omega), a4 56 (by omega) (by omega) (by omega) (by omega), m3a 54 (by omega) (by omega), m3a 55 (by omega) (by omega), m3a 56 (by omega) (by omega)]; exact ⟨rfl, rfl, rfl⟩
    have rowB : ∀ a, a ≠ 30 → a ≠ 124 → a ≠ 126 → a ≠ 127 → a ≠ 128 → a ≠ 129 → B1.1 a = M.1 a := fun a p0 p1 p2 p3 p4 p5 => by rw [s4 a p1 p2, r4 a p3 p4 p5, b1 a p0]
    have night0 : ∀ k, nst ≤ k → k < nc → M.1 54 k = 0 ∧ M.1 55 k = -1 ∧ M.1 56 k = -1 := by
      intro k k1 k2
      obtain ⟨-, -, -, -, -, -, q, q1, q2, q3, q4, q5, q6, q7⟩ := hCalls.2.2.2.2.2.2.2 k k2
      have := q7 k1 hg
      subst this
      exact ⟨q2, q4 (by omega), q6 (Or.inl rfl)⟩
    have nightc : ∀ k, nst ≤ k → k < nc → M.1 48 k = nI c := by
      intro k k1 k2
      obtain ⟨⟨n, n1, n2, n3, n5⟩, -⟩ := hCalls.2.2.2.2.2.2.2 k k2
      rw [n5, n3 k1]
    have nighto : ∀ k, k < nst → k < nc → ∃ n, n < c ∧ M.1 48 k = nI n := by
      intro k k1 k2
      obtain ⟨⟨n, n1, n2, n3, n5⟩, -⟩ := hCalls.2.2.2.2.2.2.2 k k2
      exact ⟨n, n2 k1, n5⟩
    have hdy : zDy Mb nv c nc nst 0 0 0 A0 B1 := by
      refine ⟨?_, ?_, ?_, ?_, ?_, ?_, ?_, ?_, ?_, ?_, ?_⟩
      · intro k hk
        obtain ⟨x1, x2, x3⟩ := row54 k hk
        obtain ⟨-, -, -, -, -, -, y7, y8, y9⟩ := hCalls.2.2.2.2.2.2.1 k hk
        rw [x1, x2, x3, rowB 118 (by omega) (by omega) (by omega) (by omega) (by omega) (by omega), rowB 119 (by omega) (by omega) (by omega) (by omega) (by omega) (by omega), rowB 120 (by omega) (by omega) (by omega) (by omega) (by omega) (by omega)]
        exact ⟨y7, y8, y9⟩
      · intro v hv
        obtain ⟨x1, x2, x3⟩ := a5 v hv
        obtain ⟨y1, y2, y3⟩ := r5 v hv
        rw [x1, x3, s4 127 (by omega) (by omega), s4 129 (by omega) (by omega), y1, y3]
        exact ⟨rfl, rfl⟩
      · intro k k1 k2
        obtain ⟨x1, x2, x3⟩ := row54 k k2
        rw [x1, x2, x3]
        exact Or.inl (night0 k k1 k2)
      · refine ⟨fun v hv => Or.inl (a5 v hv).1, fun k v t k1 k2 _ _ k3 => ?_⟩
        rw [(row54 k k2).1, (night0 k k1 k2).1] at k3
        exact absurd k3 (by decide)
      · intro v hv
        obtain ⟨x1, x2, x3⟩ := a5 v hv
        rw [x1, x2, s4 128 (by omega) (by omega), (r5 v hv).2.1]
        exact ⟨Or.inl rfl, fun z => absurd rfl z⟩
      · intro k k1 k2
        obtain ⟨-, -, ⟨w1, hw1, ew1⟩, -⟩ := hCalls.2.2.2.2.2.2.2 k k2
        rw [(s5 k k1 k2).2, b1 50 (by omega), ew1, z_cl (by omega), a6 w1 hw1]
      · intro v hv
        rw [rowB 97 (by omega) (by omega) (by omega) (by omega) (by omega) (by omega), b1 97 (by omega), b1 51 (by omega)]
        obtain ⟨y1, y2, -⟩ := hHard.1 v c (by omega) c0
        refine ⟨fun n _ _ => rfl, y1, ?_⟩
        rw [y2]
        constructor
        · rintro ⟨k, k1, k2, k3, k4⟩
          rcases Nat.lt_or_ge k nst with z | z
          · obtain ⟨n, n1, n2⟩ := nighto k z k1
            rw [n2, z_eq (by omega) (by omega)] at k2
            omega
          · rw [(night0 k z k1).2.1, z_m1' (by omega)] at k3
            exact k3.elim
        · rintro ⟨k, k1, k2, k3, k4⟩
          rw [(row54 k k2).2.1, (night0 k k1 k2).2.1, z_m1' (by omega)] at k3
          exact k3.elim
      · intro k hk
        rw [b1 54 (by omega), b1 55 (by omega), b1 56 (by omega)]
        exact row54 k (by omega)
      · unfold d9
        rw [a4 57 (by omega) (by omega) (by omega) (by omega), m3c.2, zcr_zero]
        · rfl
        · intro k k1 k2
          rw [(row54 k (by omega)).1, (night0 k k1 (by omega)).1]
          rfl
      · intro k k1 k2
        rw [(s5 k k1 k2).1]
        have : ¬ zmi Mb k < 0 := by omega
        simp [this]; rfl
      · intro k k1 k2 _
        rw [(row54 k k2).1]; exact (night0 k k1 k2).1
    obtain ⟨W, X, w1, w2, gW, gX, hDy⟩ := g_night (N := N) gU gT gL gB gP gK gC (by omega) 360 0 N N A0 B1 (by omega) (by omega) (by omega) gA0 gB1 hdy
    obtain ⟨W', l1, l2, l3⟩ := p_leaveL (N := N) gC (nc - nst) nst N W (by omega) (by omega) gW
    obtain ⟨d1', d2', d3', d4', d5', d6', d7', d8', d9', d10', d11'⟩ := id hDy
    have tk0 : ∀ v, v < 8 → ztk Mb c (W.1 55) v nst = 0 := by
      intro v hv
      refine zsum_zero nst (fun k hk => if_neg ?_)
      rintro ⟨z, -⟩
      obtain ⟨n, n1, n2⟩ := nighto k hk (by omega)
      rw [b1 48 (by omega), n2, z_eq (by omega) (by omega)] at z
      omega
    have x121 : X.1 121 = M.1 121 := by rw [gX.2 121 (by omega) (by omega) (by omega), b1 121 (by omega)]
    have m121 : ∀ v, v < 8 → M.1 121 (200 * v + c) = nI 0 := by
      intro v hv
      rw [(hHard.1 v c (by omega) c0).2.2]
      refine congrArg nI (zsum_zero nc (fun k hk => if_neg ?_))
      rintro ⟨z1, z2⟩
      rcases Nat.lt_or_ge k nst with z | z
      · obtain ⟨n, n1, n2⟩ := nighto k z hk
        rw [n2, z_eq (by omega) (by omega)] at z1
        omega
      · rw [(night0 k z hk).2.1, z_m1' (by omega)] at z2
        exact z2
    obtain ⟨Y, y1, y2, y3, y4, y5, y6⟩ := m_endN (N := N) gC gK t0 gX hDy (nc - nst) nst N X 0 (by omega) (Nat.le_refl nst) (by omega) rfl (fun _ _ _ => rfl) (fun k => by rw [if_neg (by omega)]) (fun v hv => by rw [x121, m121 v hv, tk0 v hv]) (fun v n hv hn hc => by rw [x121, b1 121 (by omega)])
    generalize hcn : zcr (fun k => W.1 54 k == 1) nst (nc - nst) = cn at *
    generalize hBe : zpI (zpI Y 100 c 1) 69 71 (Mb.1 69 71 + 1) = Be at y1
    have fB : fX12_go N Mb = some (nI cn, Be) := by
      rw [hrefbeg]
      rw [show nI 0 = (0 : Int32) from rfl] at w2
      rw [w2, show (0 : Int32) = nI 0 from rfl, y1, Nat.zero_add]
    have hmx : zmx Mb M = Mb := by
      refine Prod.ext ?_ (Prod.ext ?_ rfl)
      · funext a; show (if a < 69 then Mb.1 a else M.1 a) = Mb.1 a; split; rfl; rw [b1 a (by omega)]
      · funext a; show (if a < 69 then Mb.2.1 a else M.2.1 a) = Mb.2.1 a; rw [b2]; split <;> rfl
    have hloc := lm_fX12_go (A := Mb) N M
    rw [hmx, fB] at hloc
    obtain ⟨B, fM, hBB⟩ : ∃ B, fX12_go N M = some (nI cn, B) ∧ zmx Mb B = Be := by
      cases hq : fX12_go N M with
      | none => rw [hq] at hloc; cases hloc
      | some p =>
        obtain ⟨r, B⟩ := p
        rw [hq, zmp_some] at hloc
        have := Option.some.inj hloc
        exact ⟨B, by rw [show r = nI cn from (congrArg Prod.fst this).symm], (congrArg Prod.snd this).symm⟩
    have hBr : ∀ a, 69 ≤ a → B.1 a = Be.1 a := fun a ha => by rw [← hBB, zmx_1 ha]
    have hBj : ∀ a, 69 ≤ a → B.2.1 a = Be.2.1 a := fun a ha => by rw [← hBB, zmx_2 ha]
    have fA : fX11_go N M = some (nI cn, W') := by
      have hset : fX0_setGone (nI c) M = some (zpI M 30 c (M.1 30 c ||| 4)) := by
        unfold fX0_setGone fX0_mark
        rw [p_isNightN (by omega), zb2_some, if_pos c0, if_neg (by decide), z_ldI c0 (by omega), zbd_some, z_stI c0 (by omega)]
        rfl
      have hbeg : fX2_begin N (nI c) r0 (zpI M 30 c (M.1 30 c ||| 4)) = some A0 := by
        unfold fX2_begin
        rw [zlet_eq, zlet_eq, zlet_eq, hM3, show (0 : Int32) = nI 0 from rfl, a1]
      have hlv : fX2_leaveCalls N W = some W' := by
        unfold fX2_leaveCalls fX1_nightStart
        rw [zb2_some, show W.1 47 10 = nI nst by rw [gW.2.2.1 47 (by omega) (by omega) (by omega) (by omega), b1 47 (by omega)]; exact hCalls.2.2.2.2.2.1]
        exact l1
      unfold fX11_go
      rw [hClock.2.1, p_isGone hCal c0, zb2_some, hg, if_pos rfl, hClock.2.1, hset, zbd_some]
      unfold fX2_goThrough
      rw [show (zpI M 30 c (M.1 30 c ||| 4)).1 0 11 = nI c from hClock.2.1, show (zpI M 30 c (M.1 30 c ||| 4)).2.2 0 2 = r0 from u1, hbeg, zbd_some, show (0 : Int32) = nI 0 from rfl, w1, hlv, zbd_some, zb2_some]
      rw [l2.2 57 (by omega), show W.1 57 12 = _ from d9', hcn]
    clear hrefbeg hloc fB a1 r1 r6 s1 w1 w2 l1 y1
    -- rows of the two memories at the end
    have ra : ∀ a, a ≠ 30 → a ≠ 10 → a ≠ 18 → (a < 54 ∨ 64 < a ∧ a < 69) → W'.1 a = M.1 a := fun a p1 p2 p3 p4 => by rw [l2.2 a (by omega), gW.2.2.1 a (by omega) p2 p3 (by omega), b1 a p1]
    have aj : ∀ a, a < 69 → W'.2.1 a = M.2.1 a := fun a _ => by rw [l2.1, gW.1, b2]
    have aR : ∀ a k, a = 0 → W'.2.2 a k = M.2.2 a k := fun a k ha => by rw [l2.1, gW.1]; exact b3 a k (by omega)
    have be : ∀ a, a ≠ 100 → a ≠ 69 → Be.1 a = Y.1 a := fun a p1 p2 => by rw [← hBe, zpI_r _ _ p2, zpI_r _ _ p1]
    have yx : ∀ a, 69 ≤ a → a ≠ 97 → (a < 118 ∨ 130 < a) → Y.1 a = M.1 a := fun a p0 p1 p2 => by rw [y3 a (by omega) (by omega), gX.2 a p1 (by omega) (by omega), b1 a (by omega)]
    have rb : ∀ a, 69 ≤ a → a ≠ 97 → (a < 118 ∨ 130 < a) → a ≠ 100 → a ≠ 69 → (zmx W' B).1 a = M.1 a := fun a p0 p1 p2 p3 p4 => by rw [zmx_1 p0, hBr a p0, be a p3 p4, yx a p0 p1 p2]
    have sb : ∀ j, j ≠ 71 → (zmx W' B).1 69 j = M.1 69 j := fun j hj => by
      rw [zmx_1 (by omega), hBr 69 (by omega), ← hBe, zpI_1, if_neg (fun z => hj z.2), zpI_r _ _ (by omega), yx 69 (by omega) (by omega) (by omega)]
    have bj : ∀ a, 69 ≤ a → (zmx W' B).2.1 a = M.2.1 a := fun a ha => by
      rw [zmx_2 ha, hBj a ha, ← hBe]
      show Y.2.1 a = _
      rw [y2, gX.1, b2]
    have b100 : ∀ t, (zmx W' B).1 100 t = if t = c then 1 else M.1 100 t := fun t => by
      rw [zmx_1 (by omega), hBr 100 (by omega), ← hBe, zpI_r _ _ (by omega), zpI_1]
      by_cases e : t = c
      · rw [if_pos ⟨rfl, e⟩, if_pos e]
      · rw [if_neg (fun z => e z.2), if_neg e, yx 100 (by omega) (by omega) (by omega)]
    have b71 : (zmx W' B).1 69 71 = M.1 69 71 + 1 := by
      rw [zmx_1 (by omega), hBr 69 (by omega), ← hBe, zpI_1, if_pos ⟨rfl, rfl⟩, b1 69 (by omega)]
    have b118 : ∀ k, (zmx W' B).1 118 k = if nst ≤ k ∧ k < nc ∧ X.1 118 k = 0 then 3 else X.1 118 k := fun k => by rw [zmx_1 (by omega), hBr 118 (by omega), be 118 (by omega) (by omega), y4]
    have b119 : (zmx W' B).1 119 = X.1 119 := by rw [zmx_1 (by omega), hBr 119 (by omega), be 119 (by omega) (by omega), y3 119 (by omega) (by omega)]
    have b120 : (zmx W' B).1 120 = X.1 120 := by rw [zmx_1 (by omega), hBr 120 (by omega), be 120 (by omega) (by omega), y3 120 (by omega) (by omega)]
    have b97 : (zmx W' B).1 97 = X.1 97 := by rw [zmx_1 (by omega), hBr 97 (by omega), be 97 (by omega) (by omega), y3 97 (by omega) (by omega)]
    have b121 : (zmx W' B).1 121 = Y.1 121 := by rw [zmx_1 (by omega), hBr 121 (by omega), be 121 (by omega) (by omega)]
    have a54 : ∀ k, (zmx W' B).1 54 k = if nst ≤ k ∧ k < nc ∧ W.1 54 k = 0 then 3 else W.1 54 k := fun k => by rw [zmx_1c (by omega)]; exact l3 k
    have a55 : (zmx W' B).1 55 = W.1 55 := by rw [zmx_1c (by omega), l2.2 55 (by omega)]
    have a56 : (zmx W' B).1 56 = W.1 56 := by rw [zmx_1c (by omega), l2.2 56 (by omega)]
    have a48 : (zmx W' B).1 48 = M.1 48 := by rw [zmx_1c (by omega)]; exact ra 48 (by omega) (by omega) (by omega) (by omega)
    have a53 : (zmx W' B).1 53 = M.1 53 := by rw [zmx_1c (by omega)]; exact ra 53 (by omega) (by omega) (by omega) (by omega)
    have a51 : (zmx W' B).1 51 = M.1 51 := by rw [zmx_1c (by omega)]; exact ra 51 (by omega) (by omega) (by omega) (by omega)
    have a30 : ∀ t, (zmx W' B).1 30 t = if t = c then M.1 30 c ||| 4 else M.1 30 t := fun t => by
      rw [zmx_1c (by omega), l2.2 30 (by omega), gW.2.2.1 30 (by omega) (by omega) (by omega) (by omega), ← m3e 30 (by omega)]
      exact m3d t
    refine ⟨nI cn, W', B, fA, fM, ⟨tl, nv, ns, c, no, nc, nst, nn, r0, lv, nr, gTape_c (M := M) (congrFun (ra 1 (by omega) (by omega) (by omega) (by omega)) 1) (ra 2 (by omega) (by omega) (by omega) (by omega)) (sb 2 (by omega)) (rb 70 (by omega) (by omega) (by omega) (by omega) (by omega)) hTape,
      gPlace_c (M := M) (congrFun (ra 19 (by omega) (by omega) (by omega) (by omega)) 9) (sb 17 (by omega)) hPlace,
      gTeam_c (M := M) (congrFun (ra 22 (by omega) (by omega) (by omega) (by omega)) 2) (sb 37 (by omega)) (congrFun (ra 22 (by omega) (by omega) (by omega) (by omega)) 5) (sb 39 (by omega)) (ra 23 (by omega) (by omega) (by omega) (by omega)) (rb 92 (by omega) (by omega) (by omega) (by omega) (by omega)) (ra 25 (by omega) (by omega) (by omega) (by omega)) (rb 93 (by omega) (by omega) (by omega) (by omega) (by omega)) (ra 26 (by omega) (by omega) (by omega) (by omega)) (rb 94 (by omega) (by omega) (by omega) (by omega) (by omega)) hTeam,
      gLearn_c (M := M) (rb 95 (by omega) (by omega) (by omega) (by omega) (by omega)) (rb 94 (by omega) (by omega) (by omega) (by omega) (by omega)) (aj 27 (by omega)) hLearn,
      gBars_c (M := M) (rb 96 (by omega) (by omega) (by omega) (by omega) (by omega)) (ra 28 (by omega) (by omega) (by omega) (by omega)) hBars,
      gClock_c (M := M) (congrFun (ra 0 (by omega) (by omega) (by omega) (by omega)) 11) (sb 44 (by omega)) hClock,
      ?_,
      ?_,
      gOffers_c (M := M) (congrFun (ra 32 (by omega) (by omega) (by omega) (by omega)) 3) (rb 102 (by omega) (by omega) (by omega) (by omega) (by omega)) (ra 33 (by omega) (by omega) (by omega) (by omega)) (rb 103 (by omega) (by omega) (by omega) (by omega) (by omega)) (ra 34 (by omega) (by omega) (by omega) (by omega)) (rb 104 (by omega) (by omega) (by omega) (by omega) (by omega)) (ra 35 (by omega) (by omega) (by omega) (by omega)) (rb 105 (by omega) (by omega) (by omega) (by omega) (by omega)) hOffers,
      gPres_c (M := M) (rb 106 (by omega) (by omega) (by omega) (by omega) (by omega)) (rb 101 (by omega) (by omega) (by omega) (by omega) (by omega)) (aj 31 (by omega)) hPres,
      gKept_c (M := M) (rb 101 (by omega) (by omega) (by omega) (by omega) (by omega)) (rb 107 (by omega) (by omega) (by omega) (by omega) (by omega)) (rb 106 (by omega) (by omega) (by omega) (by omega) (by omega)) (ra 25 (by omega) (by omega) (by omega) (by omega)) (aj 27 (by omega)) hKept,
      ?_,
      ?_,
      gNotes_c (M := M) (congrFun (ra 65 (by omega) (by omega) (by omega) (by omega)) 3) (sb 81 (by omega)) (ra 66 (by omega) (by omega) (by omega) (by omega)) (rb 131 (by omega) (by omega) (by omega) (by omega) (by omega)) (ra 67 (by omega) (by omega) (by omega) (by omega)) (rb 132 (by omega) (by omega) (by omega) (by omega) (by omega)) (ra 68 (by omega) (by omega) (by omega) (by omega)) (rb 133 (by omega) (by omega) (by omega) (by omega) (by omega)) hNotes,
      gRules_c (M := M) (aR 0 2 (by omega)) (aR 0 3 (by omega)) (sb 18 (by omega)) (fun a h1 h2 h3 => by rw [zmx_1c (by omega)]; exact ra a (by omega) (by omega) (by omega) (by omega)) (fun a h1 h2 => rb a (by omega) (by omega) (by omega) (by omega) (by omega)) hRules,
      gKeys_c (M := M) (bj 76 (by omega)) hKeys⟩⟩
    · intro q hq
      obtain ⟨h, f, g, h1, h2, h3, k1, k2, k3, k4⟩ := hCal q hq
      obtain ⟨-, -, -, -, -, m1⟩ := z_mk h h1 f h2 g h3
      rw [a30, b100, rb 99 (by omega) (by omega) (by omega) (by omega) (by omega), rb 101 (by omega) (by omega) (by omega) (by omega) (by omega)]
      by_cases e : q = c
      · subst e
        rw [if_pos rfl, if_pos rfl, k1]
        exact ⟨h, f, 1, h1, h2, by omega, m1, k2, k3, rfl⟩
      · rw [if_neg e, if_neg e]
        exact ⟨h, f, g, h1, h2, h3, k1, k2, k3, k4⟩
    · show (zmx W' B).1 69 71 = nI (zcnt (fun n => (zmx W' B).1 100 n == 1) 200)
      rw [b71, show M.1 69 71 = _ from hGone, zcnt_up (p := fun n => M.1 100 n == 1) (q := fun n => (zmx W' B).1 100 n == 1) (k := c) (by rw [hg]; rfl) (by simp [b100]) (fun j hj => by rw [b100, if_neg hj]) 200 c0]
      exact nI_1 _
    · obtain ⟨h0, h1, h2, h3, h4, h5, h6, h7⟩ := hCalls
      refine ⟨h0, h1, h2, ?_, ?_, ?_, fun k hk => ?_, fun k hk => ?_⟩
      · rw [zmx_1c (by omega), ra 47 (by omega) (by omega) (by omega) (by omega)]; exact h3
      · rw [sb 60 (by omega)]; exact h4
      · rw [zmx_1c (by omega), ra 47 (by omega) (by omega) (by omega) (by omega)]; exact h5
      · obtain ⟨g1, g2, g3, g4, g5, g6, -⟩ := h6 k hk
        obtain ⟨x1, x2, x3⟩ := d1' k hk
        rw [a54, a55, a56, b118, b119, b120, a48, a51, a53, rb 112 (by omega) (by omega) (by omega) (by omega) (by omega), rb 113 (by omega) (by omega) (by omega) (by omega) (by omega), rb 114 (by omega) (by omega) (by omega) (by omega) (by omega), rb 115 (by omega) (by omega) (by omega) (by omega) (by omega), rb 116 (by omega) (by omega) (by omega) (by omega) (by omega), rb 117 (by omega) (by omega) (by omega) (by omega) (by omega), zmx_1c (show 49 < 69 by omega), zmx_1c (show 50 < 69 by omega), zmx_1c (show 52 < 69 by omega), ra 49 (by omega) (by omega) (by omega) (by omega), ra 50 (by omega) (by omega) (by omega) (by omega), ra 52 (by omega) (by omega) (by omega) (by omega), x1]
        exact ⟨g1, g2, g3, g4, g5, g6, rfl, x2, x3⟩
      · obtain ⟨g1, g2, g3, g4, g5, g6, q, q1, q2, q3, q4, q5, q6, q7⟩ := h7 k hk
        rw [a54, a55, a56, a48, a51, a53, zmx_1c (show 49 < 69 by omega), zmx_1c (show 50 < 69 by omega), zmx_1c (show 52 < 69 by omega), ra 49 (by omega) (by omega) (by omega) (by omega), ra 50 (by omega) (by omega) (by omega) (by omega), ra 52 (by omega) (by omega) (by omega) (by omega), b100, if_pos (rfl : c = c)]
        refine ⟨g1, g2, g3, g4, g5, g6, ?_⟩
        have no : ∀ q : Nat, nst ≤ k → (1 : Int32) = 0 → q = 0 := fun _ _ z => absurd z (by decide)
        rcases Nat.lt_or_ge k nst with z | z
        · obtain ⟨x1, x2, x3⟩ := d8' k z
          rw [x1, x2, x3, b1 54 (by omega), b1 55 (by omega), b1 56 (by omega), if_neg (by omega)]
          exact ⟨q, q1, q2, q3, q4, q5, q6, no q⟩
        · rcases d3' k z hk with ⟨x1, x2, x3⟩ | ⟨v, t, x1, x2, x3, x4, x5⟩ | ⟨t, x1, x2, x3, x4⟩
          · rw [if_pos ⟨z, hk, x1⟩]
            exact ⟨3, by omega, rfl, fun y => by omega, fun _ => x2, fun y => by omega, fun _ => x3, no 3⟩
          · rw [if_neg (fun y => by rw [x3] at y; exact absurd y.2.2 (by decide))]
            exact ⟨1, by omega, x3, fun _ => ⟨v, x1, x4⟩, fun y => absurd rfl y, fun _ => ⟨t, x2, x5⟩, fun y => by omega, no 1⟩
          · rw [if_neg (fun y => by rw [x2] at y; exact absurd y.2.2 (by decide))]
            exact ⟨2, by omega, x2, fun y => by omega, fun _ => x3, fun _ => ⟨t, x1, x4⟩, fun y => by omega, no 2⟩
    · refine ⟨fun v n hv hn => ?_, fun v hv => ?_⟩
      · obtain ⟨g1, g2, g3⟩ := hHard.1 v n hv hn
        obtain ⟨j1, j2, j3⟩ := d7' v hv
        rw [b97, a48, a55, a51, b121, a53]
        by_cases e : n = c
        · subst e
          refine ⟨j2, ?_, ?_⟩
          · rw [j3, b1 51 (by omega)]
            constructor
            · rintro ⟨k, k1, k2, k3, k4⟩; exact ⟨k, k2, nightc k k1 k2, k3, k4⟩
            · rintro ⟨k, k1, k2, k3, k4⟩
              rcases Nat.lt_or_ge k nst with z | z
              · obtain ⟨n', n1, n2⟩ := nighto k z k1
                rw [n2, z_eq (by omega) (by omega)] at k2
                omega
              · exact ⟨k, z, k1, k3, k4⟩
          · rw [y5 v hv]
            unfold ztk zle
            rw [b1 48 (by omega), b1 53 (by omega)]
        · rw [j1 n hn e, b1 97 (by omega), y6 v n hv hn e, b1 121 (by omega)]
          have old : ∀ k, k < nc → M.1 48 k = nI n → W.1 55 k = M.1 55 k := by
            intro k hk hkn
            rcases Nat.lt_or_ge k nst with z | z
            · rw [(d8' k z).2.1, b1 55 (by omega)]
            · rw [nightc k z hk, z_eq (by omega) (by omega)] at hkn
              exact absurd hkn.symm e
          refine ⟨g1, ?_, ?_⟩
          · rw [g2]
            constructor
            · rintro ⟨k, k1, k2, k3, k4⟩; exact ⟨k, k1, k2, by rw [old k k1 k2]; exact k3, k4⟩
            · rintro ⟨k, k1, k2, k3, k4⟩; exact ⟨k, k1, k2, by rw [← old k k1 k2]; exact k3, k4⟩
          · rw [g3]
            refine congrArg nI (zsum_cong nc (fun k hk => ?_))
            by_cases z : M.1 48 k = nI n
            · rw [old k hk z]
            · rw [if_neg (fun t => z t.1), if_neg (fun t => z t.1)]
      · rw [zmx_1c (show 24 < 69 by omega), ra 24 (by omega) (by omega) (by omega) (by omega), rb 98 (by omega) (by omega) (by omega) (by omega) (by omega)]
        exact hHard.2 v hv
  · refine ⟨-1, M, M, ?_, ?_, z_same hM'⟩
    · unfold fX11_go
      rw [hClock.2.1, p_isGone hCal c0, zb2_some, hg, if_neg (by decide)]
    · unfold fX12_go
      rw [hClock.2.2, z_ldI c0 (by omega), zbd_some, hg, if_neg (by decide)]
