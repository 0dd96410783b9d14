/-! how the groups change: one more volunteer, one more step -/
theorem gLearn_nv {nv ns : Nat} {M : zMem} (hT : gTeam nv ns M) (h : gLearn nv ns M) : gLearn (nv + 1) ns M := by
  intro v s n hv hs hn
  obtain ⟨h1, h2, h3⟩ := h v s n hv hs hn
  refine ⟨h1, fun q => h2 (by omega), fun q1 q2 => ?_⟩
  by_cases e : v < nv
  · exact h3 e q2
  · have hz := h2 (Or.inl (by omega))
    rw [hz.2]
    constructor
    · intro q; cases q
    · rintro ⟨k, k1, k2, k3⟩
      have := ((h v s k hv hs (by omega)).2.1 (Or.inl (by omega))).1
      rw [this] at k3
      exact absurd k3 (by decide)
theorem gLearn_ns {nv ns : Nat} {M W : zMem} (h1 : W.1 95 = M.1 95) (h2 : ∀ s, s < ns → W.1 94 s = M.1 94 s) (h3 : W.2.1 27 = M.2.1 27) (h : gLearn nv ns M) : gLearn nv (ns + 1) W := by
  intro v s n hv hs hn
  obtain ⟨g1, g2, g3⟩ := h v s n hv hs hn
  rw [h1, h3]
  refine ⟨g1, fun q => g2 (by omega), fun q1 q2 => ?_⟩
  by_cases e : s < ns
  · rw [h2 s e]; exact g3 q1 e
  · have hz := g2 (Or.inr (by omega))
    rw [hz.2]
    constructor
    · intro q; cases q
    · rintro ⟨k, k1, k2, k3⟩
      have := ((h v s k hv hs (by omega)).2.1 (Or.inr (by omega))).1
      rw [this] at k3
      exact absurd k3 (by decide)
theorem gOffers_nv {nv c no : Nat} {M : zMem} (h : gOffers nv c no M) : gOffers (nv + 1) c no M := by
  obtain ⟨o0, o1, o2, o3, o4, o5⟩ := h
  refine ⟨o0, o1, o2, o3, fun k hk => ?_, o5⟩
  obtain ⟨a1, a2, a3, ⟨v, v1, v2⟩, a5⟩ := o4 k hk
  exact ⟨a1, a2, a3, ⟨v, by omega, v2⟩, a5⟩
theorem gPres_nv {nv : Nat} {M : zMem} (h : gPres nv M) : gPres (nv + 1) M := by
  intro n hn
  obtain ⟨h1, h2⟩ := h n hn
  refine ⟨fun v hv => ?_, h2⟩
  obtain ⟨q, a1, a2, a3, a4, a5⟩ := h1 v hv
  exact ⟨q, a1, a2, a3, fun w => a4 (by omega), a5⟩
theorem gKept_nv {nv ns : Nat} {M : zMem} (hv : nv < 8) (hP : gPres nv M) (h : gKept nv ns M) : gKept (nv + 1) ns M := by
  intro n hn hf
  obtain ⟨t, t1, t2, t3⟩ := h n hn hf
  refine ⟨t, t1, t2, fun j hj => ?_⟩
  obtain ⟨q, a1, a2, a3, a4, a5⟩ := (hP n hn).1 nv hv
  have e : zthere M n j (nv + 1) = zthere M n j nv := by
    rw [zthere, a2, a4 (Nat.le_refl nv), z_cl (by omega)]
    simp
  rw [e]
  obtain ⟨b1, b2⟩ := t3 j hj
  refine ⟨b1, fun w => ?_⟩
  obtain ⟨v, v1, v2, v3⟩ := b2 w
  exact ⟨v, by omega, v2, v3⟩
theorem gCalls_nv {nv c nc nst : Nat} {M : zMem} (h : gCalls nv c nc nst M) : gCalls (nv + 1) c nc nst M := by
  obtain ⟨h0, h1, h2, h3, h4, h5, h6, h7⟩ := h
  refine ⟨h0, h1, h2, h3, h4, h5, h6, fun k hk => ?_⟩
  obtain ⟨a1, a2, a3, a4, a5, a6, q, q1, q2, q3, q4⟩ := h7 k hk
  refine ⟨a1, a2, a3, a4, a5, a6, q, q1, q2, fun e => ?_, q4⟩
  obtain ⟨v, v1, v2⟩ := q3 e
  exact ⟨v, by omega, v2⟩
/-- step 0 has nothing behind it -/
theorem zhas_0 {nv ns : Nat} {M : zMem} (hT : gTeam nv ns M) (h0 : 0 < ns) (v n d : Nat) : zhas M v (d + 1) 0 n = (M.2.1 27 n).toBitVec.getLsbD (8 * v) := by
  have := (hT.2.2.2.2.2.2.2 0 h0).2.2.1
  rcases this with e | ⟨j, hj, -⟩
  · rw [zhas, e]; simp
  · omega
theorem zhas0_e {nv ns : Nat} {M : zMem} (hT : gTeam nv ns M) (v n : Nat) : zhas0 ns M v n = (decide (0 < ns) && (M.2.1 27 n).toBitVec.getLsbD (8 * v)) := by
  unfold zhas0
  by_cases h0 : 0 < ns
  · rw [zhas_0 hT h0 v n 7]
  · simp [h0]
/-- kept hours stay: who had step 0 has it still -/
theorem gKept_up {nv ns ns' : Nat} {M W : zMem} (hT : gTeam nv ns M) (hT' : gTeam nv ns' W) (hs : ns ≤ ns') (h1 : W.1 101 = M.1 101) (h2 : W.1 107 = M.1 107) (h3 : W.1 106 = M.1 106) (h5 : ∀ v n, v < 8 → n < 200 → (M.2.1 27 n).toBitVec.getLsbD (8 * v) = true → (W.2.1 27 n).toBitVec.getLsbD (8 * v) = true) (h : gKept nv ns M) : gKept nv ns' W := by
  intro n hn hf
  rw [h1] at hf
  obtain ⟨t, t1, t2, t3⟩ := h n hn hf
  refine ⟨t, t1, by rw [h2]; exact t2, fun j hj => ?_⟩
  rw [zthere_c h3]
  obtain ⟨b1, b2⟩ := t3 j hj
  refine ⟨b1, fun w => ?_⟩
  obtain ⟨v, v1, v2, v3⟩ := b2 w
  refine ⟨v, v1, by rw [h3]; exact v2, ?_⟩
  rw [zhas0_e hT] at v3
  rw [zhas0_e hT']
  have hv8 := hT.1
  simp only [Bool.and_eq_true, decide_eq_true_eq] at v3 ⊢
  exact ⟨by omega, h5 v n (by omega) hn v3.2⟩
theorem gTeam_vol {nv ns j : Nat} {M W : zMem} (hv : nv < 8) (h : gTeam nv ns M) (e1 : W.1 22 2 = nI (nv + 1)) (e2 : W.1 69 37 = nI (nv + 1)) (e3 : W.1 22 5 = M.1 22 5) (e4 : W.1 69 39 = M.1 69 39) (e5 : ∀ k, W.1 23 k = if k = nv then nI j else M.1 23 k) (e6 : ∀ k, W.1 92 k = if k = nv then nI j else M.1 92 k) (h7 : W.1 25 = M.1 25) (h8 : W.1 93 = M.1 93) (h9 : W.1 26 = M.1 26) (h10 : W.1 94 = M.1 94) : gTeam (nv + 1) ns W := by
  obtain ⟨t0, t1, t2, s0, s1, s2, r1, r2⟩ := h
  refine ⟨by omega, e1, e2, s0, by rw [e3]; exact s1, by rw [e4]; exact s2, fun k hk => ?_, by rw [h7, h8, h9, h10]; exact r2⟩
  rw [e5, e6]
  by_cases q : k = nv
  · rw [if_pos q, if_pos q]
  · rw [if_neg q, if_neg q, r1 k (by omega)]
theorem gTeam_step {nv ns : Nat} {x1 x2 : Int32} {M W : zMem} (hs : ns < 8) (h : gTeam nv ns M) (hx : x1 = -1 ∨ ∃ j, j < ns ∧ x1 = nI j) (hy : ∃ m, 1 ≤ m ∧ m ≤ 200 ∧ x2 = nI m) (e1 : W.1 22 2 = M.1 22 2) (e2 : W.1 69 37 = M.1 69 37) (e3 : W.1 22 5 = nI (ns + 1)) (e4 : W.1 69 39 = nI (ns + 1)) (e5 : W.1 23 = M.1 23) (e6 : W.1 92 = M.1 92) (h7 : ∀ k, W.1 25 k = if k = ns then x1 else M.1 25 k) (h8 : ∀ k, W.1 93 k = if k = ns then x1 else M.1 93 k) (h9 : ∀ k, W.1 26 k = if k = ns then x2 else M.1 26 k) (h10 : ∀ k, W.1 94 k = if k = ns then x2 else M.1 94 k) : gTeam nv (ns + 1) W := by
  obtain ⟨t0, t1, t2, s0, s1, s2, r1, r2⟩ := h
  refine ⟨t0, by rw [e1]; exact t1, by rw [e2]; exact t2, by omega, e3, e4, by rw [e5, e6]; exact r1, fun k hk => ?_⟩
  rw [h7, h8, h9, h10]
  by_cases q : k = ns
  · subst q
    rw [if_pos rfl, if_pos rfl, if_pos rfl, if_pos rfl]
    exact ⟨rfl, rfl, hx, hy⟩
  · rw [if_neg q, if_neg q, if_neg q, if_neg q]
    exact r2 k (by omega)
