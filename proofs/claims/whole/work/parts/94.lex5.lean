/-! READ: the reference's cut, all tokens -/
def ztpo (B : Nat → Nat) (tl : Nat) : Nat → Nat
  | 0 => 0
  | j + 1 => (ztokA B tl (ztokS B tl (ztpo B tl j))).2.2
def zts (B : Nat → Nat) (tl j : Nat) : Nat := ztokS B tl (ztpo B tl j)
def ztkd (B : Nat → Nat) (tl j : Nat) : Nat := (ztokA B tl (zts B tl j)).1
def ztvl (B : Nat → Nat) (tl j : Nat) : Nat := (ztokA B tl (zts B tl j)).2.1
def zfrC (M W : zMem) : Prop := (∀ a, a ≠ 69 → a ≠ 72 → a ≠ 73 → a ≠ 74 → W.1 a = M.1 a) ∧ (∀ k, k ≠ 10 → W.1 69 k = M.1 69 k) ∧ (∀ a, a ≠ 75 → W.2.1 a = M.2.1 a) ∧ W.2.2 = M.2.2
theorem zfrC_rfl (M : zMem) : zfrC M M := ⟨fun _ _ _ _ _ => rfl, fun _ _ => rfl, fun _ _ => rfl, rfl⟩
theorem zfrC_tr {M X W : zMem} (h1 : zfrC M X) (h2 : zfrC X W) : zfrC M W :=
  ⟨fun a a1 a2 a3 a4 => (h2.1 a a1 a2 a3 a4).trans (h1.1 a a1 a2 a3 a4), fun k hk => (h2.2.1 k hk).trans (h1.2.1 k hk), fun a ha => (h2.2.2.1 a ha).trans (h1.2.2.1 a ha), h2.2.2.2.trans h1.2.2.2⟩
/-- the tokens that stand in the reference's rows -/
def zTk (B : Nat → Nat) (tl j : Nat) (M : zMem) : Prop := ∀ u, u < j → ∃ c, M.1 72 u = nI c ∧ zcv (ztkd B tl u) (ztvl B tl u) c ∧ M.1 73 u = nI (zts B tl u) ∧ (ztkd B tl u = 2 → M.1 74 u = nI (ztvl B tl u))
theorem zlst_mem (B : Nat → Nat) {c : Nat} : ∀ k i, c ∈ zlst B i k → ∃ j, j < k ∧ c = B (i + j)
  | 0, i, h => by simp [zlst] at h
  | k + 1, i, h => by
    rw [zlst] at h
    rcases List.mem_cons.mp h with h1 | h1
    · exact ⟨0, by omega, h1⟩
    · obtain ⟨j, j1, j2⟩ := zlst_mem B k (i + 1) h1
      exact ⟨j + 1, by omega, by rw [j2]; congr 1; omega⟩
theorem zdec_lt : ∀ (L : List Nat) (a : Nat), (∀ c, c ∈ L → zdgt c = true) → zdec L a < (a + 1) * 10 ^ L.length
  | [], a, _ => by simp [zdec]
  | c :: L, a, hL => by
    have h1 := zdgt_48 (hL c List.mem_cons_self)
    have h2 := zdec_lt L (a * 10 + (c - 48)) (fun x hx => hL x (List.mem_cons_of_mem _ hx))
    rw [zdec, List.length_cons, Nat.pow_succ]
    have h3 : (a * 10 + (c - 48) + 1) * 10 ^ L.length ≤ ((a + 1) * 10) * 10 ^ L.length := Nat.mul_le_mul_right _ (by omega)
    have h4 : (a + 1) * (10 ^ L.length * 10) = ((a + 1) * 10) * 10 ^ L.length := by rw [Nat.mul_comm (10 ^ L.length) 10, Nat.mul_assoc]
    omega
section LEX5
variable {B : Nat → Nat} {tl : Nat} {N : Nat}
theorem ztokS_b {i : Nat} (hi : i < tl) (q : zblk (B i) = true) : ztokS B tl i = ztokS B tl (i + 1) := by
  unfold ztokS
  rw [show tl - i = (tl - (i + 1)) + 1 by omega, zspan, if_pos q]; omega
theorem ztokS_n {i : Nat} (hi : i < tl) (q : zblk (B i) = false) : ztokS B tl i = i := by
  unfold ztokS
  rw [show tl - i = (tl - (i + 1)) + 1 by omega, zspan, if_neg (by rw [q]; decide)]; rfl
theorem ztokS_e {i : Nat} (hi : tl ≤ i) : ztokS B tl i = i := by
  unfold ztokS
  rw [show tl - i = 0 by omega]; rfl
theorem zsgn_k (c d : Nat) : (zsgn c d).1 ≠ 0 ∧ (zsgn c d).1 ≠ 2 ∧ (zsgn c d).1 ≠ 3 ∧ (zsgn c d).1 ≤ 19 ∧ ((zsgn c d).2 = 1 ∨ (zsgn c d).2 = 2 ∧ d = 61) := by
  unfold zsgn zsg1
  repeat' split
  all_goals simp_all
theorem zkw_k (L : List Nat) : (zkw L).1 ≠ 0 ∧ (zkw L).1 ≠ 2 ∧ (zkw L).1 ≤ 19 ∧ ((zkw L).1 = 3 → (zkw L).2 < 6) := by
  unfold zkw
  repeat' split
  all_goals simp
/-- what a token is like -/
theorem ztokA_k (hB : ∀ i, tl ≤ i → B i = 256) {s : Nat} (hs : s ≤ tl) : s ≤ (ztokA B tl s).2.2 ∧ (ztokA B tl s).2.2 ≤ tl ∧ (s < tl → s < (ztokA B tl s).2.2 ∧ (ztokA B tl s).1 ≠ 0) ∧ (ztokA B tl s).1 ≤ 19 ∧ ((ztokA B tl s).1 = 2 → (ztokA B tl s).2.1 < 10000) ∧ ((ztokA B tl s).1 = 3 → (ztokA B tl s).2.1 < 6) := by
  unfold ztokA
  by_cases q : tl ≤ s
  · rw [if_pos q]
    exact ⟨Nat.le_refl s, hs, fun z => absurd z (by omega), by simp, fun z => absurd z (by simp), fun z => absurd z (by simp)⟩
  rw [if_neg q]
  cases ql : zltr (B s)
  · rw [if_neg (by decide)]
    cases qd : zdgt (B s)
    · rw [if_neg (by decide)]
      obtain ⟨k1, k2, k3, k4, k5⟩ := zsgn_k (B s) (B (s + 1))
      have k6 : s + (zsgn (B s) (B (s + 1))).2 ≤ tl := by
        rcases k5 with k5 | ⟨k5, k7⟩
        · omega
        · have : s + 1 < tl := by
            rcases Nat.lt_or_ge (s + 1) tl with z | z
            · exact z
            · rw [hB _ z] at k7; omega
          omega
      refine ⟨Nat.le_add_right _ _, k6, fun _ => ⟨?_, k1⟩, k4, fun z => absurd z k2, fun z => absurd z k3⟩
      show s < s + (zsgn (B s) (B (s + 1))).2
      omega
    · rw [if_pos rfl]
      have hsp := zspan_le (fun i => zdgt (B i)) (tl - s) s
      have hin := zspan_in (fun i => zdgt (B i)) (tl - s) s
      have h1 : 1 ≤ zspan (fun i => zdgt (B i)) s (tl - s) := by
        rw [show tl - s = (tl - (s + 1)) + 1 by omega, zspan, if_pos qd]; omega
      generalize zspan (fun i => zdgt (B i)) s (tl - s) = n at *
      by_cases q4 : n ≤ 4
      · rw [if_pos q4]
        refine ⟨Nat.le_add_right _ _, ?_, fun _ => ⟨?_, by simp⟩, by simp, fun _ => ?_, fun z => absurd z (by simp)⟩
        · show s + n ≤ tl; omega
        · show s < s + n; omega
        · have h2 := zdec_lt (zlst B s n) 0 (fun c hc => by
            obtain ⟨j, j1, j2⟩ := zlst_mem B n s hc
            rw [j2]; exact hin j j1)
          rw [zlst_len] at h2
          have h3 : 10 ^ n ≤ 10 ^ 4 := Nat.pow_le_pow_right (by omega) q4
          show zdec (zlst B s n) 0 < 10000
          omega
      · rw [if_neg q4]
        refine ⟨Nat.le_add_right _ _, ?_, fun _ => ⟨?_, by simp⟩, by simp, fun z => absurd z (by simp), fun z => absurd z (by simp)⟩
        · show s + n ≤ tl; omega
        · show s < s + n; omega
  · rw [if_pos rfl]
    have hsp := zspan_le (fun i => zltr (B i)) (tl - s) s
    have h1 : 1 ≤ zspan (fun i => zltr (B i)) s (tl - s) := by
      rw [show tl - s = (tl - (s + 1)) + 1 by omega, zspan, if_pos ql]; omega
    generalize zspan (fun i => zltr (B i)) s (tl - s) = n at *
    by_cases q8 : n ≤ 8
    · rw [if_pos q8]
      obtain ⟨k1, k2, k3, k4⟩ := zkw_k (zlst B s n)
      refine ⟨Nat.le_add_right _ _, ?_, fun _ => ⟨?_, k1⟩, k3, fun z => absurd z k2, k4⟩
      · show s + n ≤ tl; omega
      · show s < s + n; omega
    · rw [if_neg q8]
      refine ⟨Nat.le_add_right _ _, ?_, fun _ => ⟨?_, by simp⟩, by simp, fun z => absurd z (by simp), fun z => absurd z (by simp)⟩
      · show s + n ≤ tl; omega
      · show s < s + n; omega
theorem ztpo_le (hB : ∀ i, tl ≤ i → B i = 256) : ∀ j, ztpo B tl j ≤ tl
  | 0 => Nat.zero_le _
  | j + 1 => (ztokA_k hB (ztokS_le (B := B) _ (ztpo_le hB j)).2).2.1
theorem m_token {M : zMem} {j c i v : Nat} {nm : Int64} (hj : M.1 69 10 = nI j) (h4 : j ≤ 400) : ∃ W, fX12_token (nI c) (nI i) (nI v) nm M = some W ∧ zfrC M W ∧ W.1 69 10 = nI (j + 1) ∧ (∀ u, u ≠ j → W.1 72 u = M.1 72 u ∧ W.1 73 u = M.1 73 u ∧ W.1 74 u = M.1 74 u) ∧ W.1 72 j = nI c ∧ W.1 73 j = nI i ∧ W.1 74 j = nI v := by
  unfold fX12_token
  rw [hj, z_stI (by omega) (by omega), zbd_some, show (zpI M 72 j (nI c)).1 69 10 = nI j from hj, z_stI (by omega) (by omega), zbd_some, show (zpI (zpI M 72 j (nI c)) 73 j (nI i)).1 69 10 = nI j from hj, z_stI (by omega) (by omega), zbd_some, show (zpI (zpI (zpI M 72 j (nI c)) 73 j (nI i)) 74 j (nI v)).1 69 10 = nI j from hj, z_stJ (by omega) (by omega), zbd_some, show (zpJ (zpI (zpI (zpI M 72 j (nI c)) 73 j (nI i)) 74 j (nI v)) 75 j nm).1 69 10 = nI j from hj, nI_1, zlet_eq]
  refine ⟨_, rfl, ⟨fun a a1 a2 a3 a4 => ?_, fun k hk => ?_, fun a ha => ?_, rfl⟩, rfl, fun u hu => ⟨?_, ?_, ?_⟩, ?_, ?_, ?_⟩
  · rw [zpI_r _ _ a1, zpJ_1, zpI_r _ _ a4, zpI_r _ _ a3, zpI_r _ _ a2]
  · rw [zpI_1, if_neg (fun z => hk z.2), zpJ_1, zpI_r _ _ (by omega), zpI_r _ _ (by omega), zpI_r _ _ (by omega)]
  · rw [zpI_2, zpJ_2r _ _ ha, zpI_2, zpI_2, zpI_2]
  · rw [zpI_r _ _ (by omega), zpJ_1, zpI_r _ _ (by omega), zpI_r _ _ (by omega), zpI_1, if_neg (fun z => hu z.2)]
  · rw [zpI_r _ _ (by omega), zpJ_1, zpI_r _ _ (by omega), zpI_1, if_neg (fun z => hu z.2), zpI_r _ _ (by omega)]
  · rw [zpI_r _ _ (by omega), zpJ_1, zpI_1, if_neg (fun z => hu z.2), zpI_r _ _ (by omega), zpI_r _ _ (by omega)]
  · rw [zpI_r _ _ (by omega), zpJ_1, zpI_r _ _ (by omega), zpI_r _ _ (by omega), zpI_1, if_pos ⟨rfl, rfl⟩]
  · rw [zpI_r _ _ (by omega), zpJ_1, zpI_r _ _ (by omega), zpI_1, if_pos ⟨rfl, rfl⟩]
  · rw [zpI_r _ _ (by omega), zpJ_1, zpI_1, if_pos ⟨rfl, rfl⟩]
/-- a word -/
theorem m_word {k7 : Int32 → zMem → Option zMem} {M : zMem} (h : zby2 B tl M) (hK : gKeys M) (hN : 2500 < N) {i : Nat} (hi : i < tl) (hl : zltr (B i) = true) : ∃ c nm, zcv (ztokA B tl i).1 (ztokA B tl i).2.1 c ∧ fX12_cut_L85 N k7 N (nI i) (nI 0) (lN 0) M = (fX12_token (nI c) (nI i) (nI 0) nm M).bind fun X => k7 (nI (ztokA B tl i).2.2) X := by
  have t2 := h.1
  have hw := m_wordL (N := N) (k7 := k7) h (i := i) (tl - i) 0 N (by omega) (by omega)
  simp only [Nat.add_zero, Nat.zero_add] at hw
  rw [show lN 0 = lN (zvl B i (min 0 8)) from rfl, hw]
  have hsp := zspan_le (fun i => zltr (B i)) (tl - i) i
  have hin := zspan_in (fun i => zltr (B i)) (tl - i) i
  unfold ztokA
  rw [if_neg (by omega), hl, if_pos rfl]
  generalize zspan (fun i => zltr (B i)) i (tl - i) = n at *
  unfold fX12_cut_L135
  rw [show (7 : Int32) = nI 7 from rfl, zif_lt (by omega) (by omega)]
  by_cases q7 : 7 < n
  · rw [if_pos q7]
    unfold fX12_cut_L179 fX12_cut_L291
    refine ⟨if n ≤ 8 then 1 else 3, lN (zvl B i (min n 8)), ?_, ?_⟩
    · by_cases q8 : n ≤ 8
      · rw [if_pos q8, if_pos q8]
        have hlen : 6 < (zlst B i n).length := by rw [zlst_len]; omega
        obtain ⟨g1, g2⟩ := zkw_long hlen
        rcases zkw_b g1 with ⟨d1, d2⟩ | ⟨v, d0, d1, d2⟩
        · rw [d2]; exact ⟨fun z => absurd rfl z, fun _ => Or.inl rfl⟩
        · rw [g2] at d1
          exact absurd d1.symm (by rw [z_m1 (by omega)]; exact not_false)
      · rw [if_neg q8, if_neg q8]
        exact ⟨fun z => absurd rfl z, fun _ => Or.inr rfl⟩
    · rw [show (0 : Int32) = nI 0 from rfl]
      congr 1
      funext X
      rw [zlet_eq, nI_add]
      by_cases q8 : n ≤ 8
      · rw [if_pos q8]
      · rw [if_neg q8]
  · rw [if_neg q7, if_pos (show n ≤ 8 by omega), if_pos (show n ≤ 8 by omega), Nat.min_eq_left (show n ≤ 8 by omega)]
    have hlet : ∀ c, c ∈ (zlst B i n).reverse → zltr c = true := by
      intro c hc
      obtain ⟨j, j1, j2⟩ := zlst_mem B n i (List.mem_reverse.mp hc)
      rw [j2]; exact hin j j1
    have hvlt : zvl B i n < 9223372036854775808 := by
      have g1 := zvr_lt _ hlet
      rw [← zvl_eq, List.length_reverse, zlst_len] at g1
      have g2 : 27 ^ n ≤ 27 ^ 7 := Nat.pow_le_pow_right (by omega) (by omega)
      omega
    have hv : ∀ k, k < 12 → (zkey k = zvl B i n ↔ zlst B i n = zstr (zkpx k)) := by
      intro k hk
      rw [zkey_v k hk, zvl_eq]
      constructor
      · intro e
        have e1 := zvr_inj _ _ (zkey_l k hk) hlet e
        exact (List.reverse_inj.mp e1).symm
      · intro e; rw [e]
    rw [show (0 : Int32) = nI 0 from rfl, m_keyL (N := N) hK hv hvlt 12 0 1 N (by omega) (by omega)]
    unfold fX12_cut_L179 fX12_cut_L291
    refine ⟨_, lN (zvl B i n), zkf_c (Or.inl rfl), ?_⟩
    rw [show (0 : Int32) = nI 0 from rfl]
    congr 1
    funext X
    rw [zlet_eq, nI_add]
/-- a number -/
theorem m_num {k7 : Int32 → zMem → Option zMem} {M : zMem} (h : zby2 B tl M) (hN : 2500 < N) {i : Nat} (hi : i < tl) (hl : zltr (B i) = false) (hd : zdgt (B i) = true) : ∃ c v, zcv (ztokA B tl i).1 (ztokA B tl i).2.1 c ∧ ((ztokA B tl i).1 = 2 → v = (ztokA B tl i).2.1) ∧ fX12_cut_L208 N k7 N (nI i) (nI 0) (nI 0) M = (fX12_token (nI c) (nI i) (nI v) 0 M).bind fun X => k7 (nI (ztokA B tl i).2.2) X := by
  have t2 := h.1
  have hw := m_numL (N := N) (k7 := k7) h (i := i) (tl - i) 0 N (by omega) (by omega)
  simp only [Nat.add_zero, Nat.zero_add] at hw
  have e0 : fX12_cut_L208 N k7 N (nI i) (nI 0) (nI 0) M = fX12_cut_L208 N k7 N (nI i) (nI 0) (nI (zdv B i (min 0 4))) M := rfl
  rw [e0, hw]
  have hsp := zspan_le (fun i => zdgt (B i)) (tl - i) i
  unfold ztokA
  rw [if_neg (by omega), hl, if_neg (by decide), hd, if_pos rfl]
  generalize zspan (fun i => zdgt (B i)) i (tl - i) = n at *
  unfold fX12_cut_L261 fX12_cut_L291
  by_cases q : n ≤ 4
  · rw [if_pos q, if_pos q, Nat.min_eq_left q]
    refine ⟨2, _, ⟨fun _ => rfl, fun z => absurd z (by simp)⟩, fun _ => zdv_eq B i n, ?_⟩
    congr 1
    funext X
    rw [zlet_eq, nI_add]
  · rw [if_neg q, if_neg q]
    refine ⟨3, zdv B i (min n 4), ⟨fun z => absurd rfl z, fun _ => Or.inr rfl⟩, fun z => absurd z (by simp), ?_⟩
    congr 1
    funext X
    rw [zlet_eq, nI_add]
/-- a sign -/
theorem m_sign {M : zMem} (h : zby2 B tl M) {i : Nat} (hi : i < tl) : ∃ c, zcv (zsgn (B i) (B (i + 1))).1 0 c ∧ fX12_sign (nI i) (nI (B i)) (nI (zav B tl (i + 1))) M = (fX12_token (nI c) (nI i) (nI 0) 0 M).bind fun X => some (nI (zsgn (B i) (B (i + 1))).2, X) := by
  have hb := (h.2.2.1 i hi).1
  have hz := zav_lt h (i + 1)
  have eD : (zav B tl (i + 1) = 61) = (B (i + 1) = 61) := by
    unfold zav
    split
    · rfl
    · rename_i q; rw [h.2.2.2 _ (by omega)]; simp
  have two : ∀ k : Nat, 0 < k → k < 100 → fX12_sign_L44 (nI i) (nI (B i)) (nI k) M = (fX12_token (nI k) (nI i) (nI 0) 0 M).bind fun X => some (nI 2, X) := by
    intro k k0 k1
    unfold fX12_sign_L44 fX12_sign_L148
    rw [show (0 : Int32) = nI 0 from rfl, zif_le (by omega) (by omega), if_neg (by omega)]
    congr 1
    funext X
    rw [zif_le (by omega) (by omega), if_neg (by omega)]; rfl
  have one : ∃ c, zcv (zsg1 (B i)) 0 c ∧ fX12_sign_L44 (nI i) (nI (B i)) (0 : Int32) M = (fX12_token (nI c) (nI i) (nI 0) 0 M).bind fun X => some (nI 1, X) := by
    have last : ∀ c : Nat, fX12_sign_L148 (nI i) (0 : Int32) (nI c) M = (fX12_token (nI c) (nI i) (nI 0) 0 M).bind fun X => some (nI 1, X) := by
      intro c
      unfold fX12_sign_L148
      rw [show (0 : Int32) = nI 0 from rfl]
      congr 1
    unfold fX12_sign_L44 zsg1
    rw [if_pos (show (0 : Int32) ≤ 0 by decide)]
    simp (disch := omega) only [show (59 : Int32) = nI 59 from rfl, show (40 : Int32) = nI 40 from rfl, show (41 : Int32) = nI 41 from rfl, show (43 : Int32) = nI 43 from rfl, show (45 : Int32) = nI 45 from rfl, show (42 : Int32) = nI 42 from rfl, show (60 : Int32) = nI 60 from rfl, z_eq]
    generalize B i = b
    by_cases c59 : b = 59
    · subst c59; exact ⟨4, ⟨fun _ => rfl, fun z => absurd z (by simp)⟩, last 4⟩
    by_cases c40 : b = 40
    · subst c40; exact ⟨6, ⟨fun _ => rfl, fun z => absurd z (by simp)⟩, last 6⟩
    by_cases c41 : b = 41
    · subst c41; exact ⟨7, ⟨fun _ => rfl, fun z => absurd z (by simp)⟩, last 7⟩
    by_cases c43 : b = 43
    · subst c43; exact ⟨8, ⟨fun _ => rfl, fun z => absurd z (by simp)⟩, last 8⟩
    by_cases c45 : b = 45
    · subst c45; exact ⟨9, ⟨fun _ => rfl, fun z => absurd z (by simp)⟩, last 9⟩
    by_cases c42 : b = 42
    · subst c42; exact ⟨10, ⟨fun _ => rfl, fun z => absurd z (by simp)⟩, last 10⟩
    by_cases c60 : b = 60
    · subst c60; exact ⟨13, ⟨fun _ => rfl, fun z => absurd z (by simp)⟩, last 13⟩
    simp only [if_neg c59, if_neg c40, if_neg c41, if_neg c43, if_neg c45, if_neg c42, if_neg c60]
    exact ⟨3, ⟨fun z => absurd rfl z, fun _ => Or.inr rfl⟩, last 3⟩
  unfold fX12_sign zsgn
  rw [show (61 : Int32) = nI 61 from rfl, show (33 : Int32) = nI 33 from rfl, show (60 : Int32) = nI 60 from rfl, zif_eq (show zav B tl (i + 1) < 2147483648 by omega) (by omega), zif_eq (show B i < 2147483648 by omega) (by omega), zif_eq (show B i < 2147483648 by omega) (by omega), zif_eq (show B i < 2147483648 by omega) (by omega)]
  by_cases q : B (i + 1) = 61
  · rw [if_pos (show zav B tl (i + 1) = 61 by rw [eD]; exact q)]
    by_cases q1 : B i = 61
    · rw [if_pos q1, if_pos (show B (i + 1) = 61 ∧ B i = 61 from ⟨q, q1⟩)]
      exact ⟨11, ⟨fun _ => rfl, fun z => absurd z (by simp)⟩, two 11 (by omega) (by omega)⟩
    · rw [if_neg q1, if_neg (show ¬ (B (i + 1) = 61 ∧ B i = 61) from fun z => q1 z.2)]
      by_cases q2 : B i = 33
      · rw [if_pos q2, if_pos (show B (i + 1) = 61 ∧ B i = 33 from ⟨q, q2⟩)]
        exact ⟨12, ⟨fun _ => rfl, fun z => absurd z (by simp)⟩, two 12 (by omega) (by omega)⟩
      · rw [if_neg q2, if_neg (show ¬ (B (i + 1) = 61 ∧ B i = 33) from fun z => q2 z.2)]
        by_cases q3 : B i = 60
        · rw [if_pos q3, if_pos (show B (i + 1) = 61 ∧ B i = 60 from ⟨q, q3⟩)]
          exact ⟨14, ⟨fun _ => rfl, fun z => absurd z (by simp)⟩, two 14 (by omega) (by omega)⟩
        · rw [if_neg q3, if_neg (show ¬ (B (i + 1) = 61 ∧ B i = 60) from fun z => q3 z.2)]
          exact one
  · rw [if_neg (show ¬ zav B tl (i + 1) = 61 by rw [eD]; exact q), if_neg (show ¬ (B (i + 1) = 61 ∧ B i = 61) from fun z => q z.1), if_neg (show ¬ (B (i + 1) = 61 ∧ B i = 33) from fun z => q z.1), if_neg (show ¬ (B (i + 1) = 61 ∧ B i = 60) from fun z => q z.1)]
    exact one
end LEX5
