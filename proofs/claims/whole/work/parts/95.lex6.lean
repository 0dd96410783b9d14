/-! READ: the reference's cut, the loop -/
theorem zb2_bs {α β : Type} (o : Option zMem) (x : α) (g : α → zMem → Option β) : zb2 (o.bind fun X => some (x, X)) g = o.bind fun X => g x X := by cases o <;> rfl
theorem zbd_id {α : Type} (o : Option α) : (o.bind fun X => some X) = o := by cases o <;> rfl
section LEX6
variable {B : Nat → Nat} {tl : Nat} {N : Nat}
theorem m_rec {M : zMem} {j c i v : Nat} {nm : Int64} (h : zby2 B tl M) (hK : gKeys M) (hj : M.1 69 10 = nI j) (h4 : j ≤ 400) (hT : zTk B tl j M) (hi : i = zts B tl j) (hc : zcv (ztkd B tl j) (ztvl B tl j) c) (hv : ztkd B tl j = 2 → v = ztvl B tl j) : ∃ W, fX12_token (nI c) (nI i) (nI v) nm M = some W ∧ zfrC M W ∧ zby2 B tl W ∧ gKeys W ∧ W.1 69 10 = nI (j + 1) ∧ zTk B tl (j + 1) W := by
  obtain ⟨W, w1, w2, w3, w4, w5, w6, w7⟩ := m_token (c := c) (i := i) (v := v) (nm := nm) hj h4
  refine ⟨W, w1, w2, ?_, ?_, w3, ?_⟩
  · unfold zby2 at *
    rw [w2.2.1 4 (by omega), w2.1 71 (by omega) (by omega) (by omega) (by omega)]; exact h
  · exact gKeys_c (w2.2.2.1 76 (by omega)) hK
  · intro u hu
    by_cases e : u = j
    · subst e; exact ⟨c, w5, hc, by rw [w6, hi], fun z => by rw [w7, hv z]⟩
    · obtain ⟨d1, d2, d3⟩ := w4 u e
      obtain ⟨b, x1, x2, x3, x4⟩ := hT u (by omega)
      exact ⟨b, by rw [d1]; exact x1, x2, by rw [d2]; exact x3, fun z => by rw [d3]; exact x4 z⟩
theorem m_cutL (hN : 2500 < N) : ∀ D i j n (M : zMem), tl ≤ i + D → i ≤ tl → D < n → zby2 B tl M → gKeys M → M.1 69 10 = nI j → j ≤ 401 → ztokS B tl i = zts B tl j → zTk B tl j M → ∃ W j', fX12_cut_L7 N n (nI i) M = some W ∧ zfrC M W ∧ zTk B tl j' W ∧ (j' = 401 ∨ (0 < j' ∧ ztkd B tl (j' - 1) = 0)) := by
  intro D
  induction D using Nat.strongRecOn with
  | _ D ih =>
  intro i j n M hD hi hn h hK hj h4 hS hT
  obtain ⟨n, rfl⟩ : ∃ m, n = m + 1 := ⟨n - 1, by omega⟩
  have t2 := h.1
  rw [fX12_cut_L7, hj, show (400 : Int32) = nI 400 from rfl, zif_lt (by omega) (by omega)]
  by_cases q4 : 400 < j
  · rw [if_pos q4]
    exact ⟨M, j, rfl, zfrC_rfl M, hT, Or.inl (by omega)⟩
  · rw [if_neg q4, m_at h (by omega), zb2_some, h.2.1, zif_lt (by omega) (by omega)]
    by_cases qe : i < tl
    · rw [if_pos qe, show zav B tl i = B i from if_pos qe]
      have hb := (h.2.2.1 i qe).1
      have next : ∀ i' j' M', i < i' → i' ≤ tl → zfrC M M' → zby2 B tl M' → gKeys M' → M'.1 69 10 = nI j' → j' ≤ 401 → ztokS B tl i' = zts B tl j' → zTk B tl j' M' → ∃ W j', fX12_cut_L7 N n (nI i') M' = some W ∧ zfrC M W ∧ zTk B tl j' W ∧ (j' = 401 ∨ (0 < j' ∧ ztkd B tl (j' - 1) = 0)) := by
        intro i' j' M' a1 a2 a3 a4 a5 a6 a7 a8 a9
        obtain ⟨W, j2, w1, w2, w3, w4⟩ := ih (tl - i') (by omega) i' j' n M' (by omega) a2 (by omega) a4 a5 a6 a7 a8 a9
        exact ⟨W, j2, w1, zfrC_tr a3 w2, w3, w4⟩
      cases qb : zblk (B i)
      · have hSi : ztokS B tl i = i := ztokS_n qe qb
        have hz : i = zts B tl j := by rw [← hS, hSi]
        have hk : ztokA B tl i = ztokA B tl (zts B tl j) := by rw [← hz]
        have hpos : (ztokA B tl i).2.2 = ztpo B tl (j + 1) := by rw [hk]; rfl
        have hend := ztokA_k h.2.2.2 (s := i) hi
        have goOn : ∀ c v nm, zcv (ztokA B tl i).1 (ztokA B tl i).2.1 c → ((ztokA B tl i).1 = 2 → v = (ztokA B tl i).2.1) → ∃ W j', ((fX12_token (nI c) (nI i) (nI v) nm M).bind fun X => fX12_cut_L7 N n (nI (ztokA B tl i).2.2) X) = some W ∧ zfrC M W ∧ zTk B tl j' W ∧ (j' = 401 ∨ (0 < j' ∧ ztkd B tl (j' - 1) = 0)) := by
          intro c v nm hc hv
          obtain ⟨X, x1, x2, x3, x4, x5, x6⟩ := m_rec (i := i) (v := v) (nm := nm) h hK hj (by omega) hT hz (by unfold ztkd ztvl; rw [← hk]; exact hc) (by unfold ztkd ztvl; rw [← hk]; exact hv)
          rw [x1, zbd_some]
          exact next _ (j + 1) X (hend.2.2.1 qe).1 hend.2.1 x2 x3 x4 x5 (by omega) (by rw [hpos]; rfl) x6
        have nb : B i ≠ 9 ∧ B i ≠ 10 ∧ B i ≠ 13 ∧ B i ≠ 32 := by
          unfold zblk at qb
          simp at qb
          omega
        rw [show (9 : Int32) = nI 9 from rfl, show (10 : Int32) = nI 10 from rfl, show (13 : Int32) = nI 13 from rfl, show (32 : Int32) = nI 32 from rfl, if_neg (by rw [z_eq (by omega) (by omega)]; exact nb.1), if_neg (by rw [z_eq (by omega) (by omega)]; exact nb.2.1), if_neg (by rw [z_eq (by omega) (by omega)]; exact nb.2.2.1), if_neg (by rw [z_eq (by omega) (by omega)]; exact nb.2.2.2), m_ltr hb, zb2_some]
        cases ql : zltr (B i)
        · rw [if_pos (show zbi false = 0 from rfl), m_dgt hb, zb2_some]
          cases qd : zdgt (B i)
          · rw [if_pos (show zbi false = 0 from rfl), nI_1, m_at h (by omega), zb2_some]
            obtain ⟨c, c1, c2⟩ := m_sign h qe
            have et : ztokA B tl i = ((zsgn (B i) (B (i + 1))).1, 0, i + (zsgn (B i) (B (i + 1))).2) := by
              unfold ztokA
              rw [if_neg (by omega), ql, if_neg (by decide), qd, if_neg (by decide)]
            rw [c2, zb2_bs]
            have hg := goOn c 0 0 (by rw [et]; exact c1) (by rw [et]; intro _; rfl)
            rw [et] at hg
            unfold fX12_cut_L291
            simp only [zlet_eq, nI_add]
            exact hg
          · rw [if_neg (by decide)]
            obtain ⟨c, v, c1, c2, c3⟩ := m_num (k7 := fX12_cut_L7 N n) h hN qe ql qd
            rw [show (0 : Int32) = nI 0 from rfl, c3]
            exact goOn c v 0 c1 c2
        · rw [if_neg (by decide)]
          obtain ⟨c, nm, c1, c2⟩ := m_word (k7 := fX12_cut_L7 N n) h hK hN qe ql
          rw [show (0 : Int32) = nI 0 from rfl, show (0 : Int64) = lN 0 from rfl, c2]
          refine goOn c 0 nm c1 (fun z => ?_)
          exfalso
          revert z
          unfold ztokA
          rw [if_neg (by omega), ql, if_pos rfl]
          split
          · exact (zkw_k _).2.1
          · show ¬ (1 = 2); omega
      · have hbk : B i = 9 ∨ B i = 10 ∨ B i = 13 ∨ B i = 32 := by
          unfold zblk at qb
          simp at qb
          omega
        have hgo := next (i + 1) j M (by omega) (by omega) (zfrC_rfl M) h hK hj (by omega) (by rw [← ztokS_b qe qb]; exact hS) hT
        unfold fX12_cut_L67 fX12_cut_L291
        simp only [zlet_eq, nI_1]
        rcases hbk with e | e | e | e
        · rw [e, if_pos (show nI 9 = 9 from rfl)]; exact hgo
        · rw [e, if_neg (by decide), if_pos (show nI 10 = 10 from rfl)]; exact hgo
        · rw [e, if_neg (by decide), if_neg (by decide), if_pos (show nI 13 = 13 from rfl)]; exact hgo
        · rw [e, if_neg (by decide), if_neg (by decide), if_neg (by decide), if_pos (show nI 32 = 32 from rfl)]; exact hgo
    · have hz : zts B tl j = tl := by rw [← hS, ztokS_e (by omega)]; omega
      have hk : ztkd B tl j = 0 := by
        unfold ztkd ztokA
        rw [hz, if_pos (Nat.le_refl _)]
      rw [if_neg qe, zbd_id]
      obtain ⟨X, x1, x2, x3, x4, x5, x6⟩ := m_rec (c := 0) (i := tl) (v := 0) (nm := 0) h hK hj (by omega) hT hz.symm (by rw [hk]; exact ⟨fun _ => rfl, fun z => absurd z (by simp)⟩) (fun z => absurd z (by rw [hk]; decide))
      exact ⟨X, j + 1, x1, x2, x6, Or.inr ⟨by omega, hk⟩⟩
/-- the token rows, as the parser reads them -/
def zTR (B : Nat → Nat) (tl : Nat) (M : zMem) : Prop := ∀ t, t ≤ 400 → (∀ u, u < t → ztkd B tl u ≠ 0) → ∃ c, M.1 72 t = nI c ∧ zcv (ztkd B tl t) (ztvl B tl t) c ∧ M.1 73 t = nI (zts B tl t) ∧ (ztkd B tl t = 2 → M.1 74 t = nI (ztvl B tl t))
theorem m_cut {M : zMem} (hN : 2500 < N) (h : zby2 B tl M) (hK : gKeys M) : ∃ W, fX12_cut N M = some W ∧ zfrC M W ∧ zTR B tl W := by
  unfold fX12_cut
  rw [zlet_eq]
  obtain ⟨W, j, w1, w2, w3, w4⟩ := m_cutL (B := B) (tl := tl) hN tl 0 0 N (zpI M 69 10 0) (by omega) (by omega) (by have := h.1; omega) (by unfold zby2 at *; rw [zpI_r (b := 71) _ _ (by omega)]; exact h) hK rfl (by omega) rfl (fun u hu => absurd hu (Nat.not_lt_zero u))
  refine ⟨W, w1, ⟨fun a a1 a2 a3 a4 => ?_, fun k hk => ?_, fun a ha => (w2.2.2.1 a ha), w2.2.2.2⟩, fun u hu hlive => ?_⟩
  · rw [w2.1 a a1 a2 a3 a4, zpI_r _ _ a1]
  · rw [w2.2.1 k hk, zpI_1, if_neg (fun z => hk z.2)]
  · refine w3 u ?_
    rcases w4 with z | ⟨z1, z2⟩
    · omega
    · rcases Nat.lt_or_ge u j with z3 | z3
      · exact z3
      · exact absurd z2 (hlive (j - 1) (by omega))
end LEX6
