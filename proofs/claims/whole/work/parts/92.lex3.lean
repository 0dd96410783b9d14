/-! READ: the class's scanner, words and the whole token -/
theorem zif_le {α : Type} {a b : Nat} (ha : a < 2147483648) (hb : b < 2147483648) (x y : α) : (if nI a ≤ nI b then x else y) = if a ≤ b then x else y := by
  by_cases h : a ≤ b
  · rw [if_pos h, if_pos (by rw [z_le ha hb]; exact h)]
  · rw [if_neg h, if_neg (by rw [z_le ha hb]; exact h)]
theorem zif_lt {α : Type} {a b : Nat} (ha : a < 2147483648) (hb : b < 2147483648) (x y : α) : (if nI a < nI b then x else y) = if a < b then x else y := by
  by_cases h : a < b
  · rw [if_pos h, if_pos (by rw [z_lt ha hb]; exact h)]
  · rw [if_neg h, if_neg (by rw [z_lt ha hb]; exact h)]
theorem zif_eq {α : Type} {a b : Nat} (ha : a < 2147483648) (hb : b < 2147483648) (x y : α) : (if nI a = nI b then x else y) = if a = b then x else y := by
  by_cases h : a = b
  · rw [if_pos h, if_pos (by rw [h])]
  · rw [if_neg h, if_neg (by rw [z_eq ha hb]; exact h)]
theorem zbi_d {p : Prop} [Decidable p] : (zbi (decide p) = 0) = ¬ p := by
  by_cases h : p
  · simp [zbi, h]
  · simp [zbi, h]
def zkwa (L : List Nat) : Nat := if L = zstr 0 then 4 else if L = zstr 1 then 5 else if L = zstr 2 then 6 else if L = zstr 3 then 7 else if L = zstr 4 then 8 else if L = zstr 5 then 9 else 1
def zfci (L : List Nat) : Int32 := if L = zstr 6 then 0 else if L = zstr 7 then 1 else if L = zstr 8 then 2 else if L = zstr 9 then 3 else if L = zstr 10 then 4 else if L = zstr 11 then 5 else -1
theorem zkw_a {L : List Nat} (h : zkwa L ≠ 1) : zkw L = (zkwa L, 0) := by
  unfold zkwa at *
  unfold zkw
  by_cases c0 : L = zstr 0
  · rw [if_pos c0, if_pos c0]
  · rw [if_neg c0, if_neg c0]
    rw [if_neg c0] at h
    by_cases c1 : L = zstr 1
    · rw [if_pos c1, if_pos c1]
    · rw [if_neg c1, if_neg c1]
      rw [if_neg c1] at h
      by_cases c2 : L = zstr 2
      · rw [if_pos c2, if_pos c2]
      · rw [if_neg c2, if_neg c2]
        rw [if_neg c2] at h
        by_cases c3 : L = zstr 3
        · rw [if_pos c3, if_pos c3]
        · rw [if_neg c3, if_neg c3]
          rw [if_neg c3] at h
          by_cases c4 : L = zstr 4
          · rw [if_pos c4, if_pos c4]
          · rw [if_neg c4, if_neg c4]
            rw [if_neg c4] at h
            by_cases c5 : L = zstr 5
            · rw [if_pos c5, if_pos c5]
            · rw [if_neg c5, if_neg c5]
              rw [if_neg c5] at h
              exact absurd rfl h
theorem zkw_b {L : List Nat} (h : zkwa L = 1) : (zfci L = -1 ∧ zkw L = (1, 0)) ∨ ∃ v, v < 6 ∧ zfci L = nI v ∧ zkw L = (3, v) := by
  unfold zkwa at h
  unfold zkw zfci
  by_cases c0 : L = zstr 0
  · rw [if_pos c0] at h; exact absurd h (by decide)
  · rw [if_neg c0] at h
    rw [if_neg c0]
    by_cases c1 : L = zstr 1
    · rw [if_pos c1] at h; exact absurd h (by decide)
    · rw [if_neg c1] at h
      rw [if_neg c1]
      by_cases c2 : L = zstr 2
      · rw [if_pos c2] at h; exact absurd h (by decide)
      · rw [if_neg c2] at h
        rw [if_neg c2]
        by_cases c3 : L = zstr 3
        · rw [if_pos c3] at h; exact absurd h (by decide)
        · rw [if_neg c3] at h
          rw [if_neg c3]
          by_cases c4 : L = zstr 4
          · rw [if_pos c4] at h; exact absurd h (by decide)
          · rw [if_neg c4] at h
            rw [if_neg c4]
            by_cases c5 : L = zstr 5
            · rw [if_pos c5] at h; exact absurd h (by decide)
            · rw [if_neg c5] at h
              rw [if_neg c5]
              by_cases d0 : L = zstr 6
              · rw [if_pos d0, if_pos d0]; exact Or.inr ⟨0, by omega, rfl, rfl⟩
              · rw [if_neg d0, if_neg d0]
                by_cases d1 : L = zstr 7
                · rw [if_pos d1, if_pos d1]; exact Or.inr ⟨1, by omega, rfl, rfl⟩
                · rw [if_neg d1, if_neg d1]
                  by_cases d2 : L = zstr 8
                  · rw [if_pos d2, if_pos d2]; exact Or.inr ⟨2, by omega, rfl, rfl⟩
                  · rw [if_neg d2, if_neg d2]
                    by_cases d3 : L = zstr 9
                    · rw [if_pos d3, if_pos d3]; exact Or.inr ⟨3, by omega, rfl, rfl⟩
                    · rw [if_neg d3, if_neg d3]
                      by_cases d4 : L = zstr 10
                      · rw [if_pos d4, if_pos d4]; exact Or.inr ⟨4, by omega, rfl, rfl⟩
                      · rw [if_neg d4, if_neg d4]
                        by_cases d5 : L = zstr 11
                        · rw [if_pos d5, if_pos d5]; exact Or.inr ⟨5, by omega, rfl, rfl⟩
                        · rw [if_neg d5, if_neg d5]
                          exact Or.inl ⟨rfl, rfl⟩
theorem zkw_long {L : List Nat} (h : 6 < L.length) : zkwa L = 1 ∧ zfci L = -1 := by
  have hne : ∀ w, w < 12 → L ≠ zstr w := by
    intro w hw hL
    have h6 := z_slen6 w hw
    rw [hL] at h
    omega
  unfold zkwa zfci
  rw [if_neg (hne 0 (by omega)), if_neg (hne 1 (by omega)), if_neg (hne 2 (by omega)), if_neg (hne 3 (by omega)), if_neg (hne 4 (by omega)), if_neg (hne 5 (by omega)), if_neg (hne 6 (by omega)), if_neg (hne 7 (by omega)), if_neg (hne 8 (by omega)), if_neg (hne 9 (by omega)), if_neg (hne 10 (by omega)), if_neg (hne 11 (by omega))]
  exact ⟨rfl, rfl⟩
section LEX3
variable {B : Nat → Nat} {tl : Nat} {N : Nat}
theorem p_kw {M : zMem} {s e : Nat} (h : zbyte B tl M) (h0 : M.1 20 0 = nI e) (h1 : M.1 20 1 = nI s) (hs : s ≤ e) (he : e ≤ tl) (hN : 10 < N) : fX10_keywordKind N M = some (nI (zkwa (zlst B s (e - s))), M) := by
  have hsp : ∀ w, w < 12 → fX10_spells N w M = some (zbi (decide (zlst B s (e - s) = zstr w)), M) := fun w hw => p_spells hw h h0 h1 hs he hN
  unfold fX10_keywordKind zkwa
  simp only [hsp 0 (by omega), hsp 1 (by omega), hsp 2 (by omega), hsp 3 (by omega), hsp 4 (by omega), hsp 5 (by omega), zb2_some, zbi_d, ite_not]
  generalize zlst B s (e - s) = L
  by_cases c0 : L = zstr 0
  · rw [if_pos c0, if_pos c0] <;> rfl
  · rw [if_neg c0, if_neg c0]
    by_cases c1 : L = zstr 1
    · rw [if_pos c1, if_pos c1] <;> rfl
    · rw [if_neg c1, if_neg c1]
      by_cases c2 : L = zstr 2
      · rw [if_pos c2, if_pos c2] <;> rfl
      · rw [if_neg c2, if_neg c2]
        by_cases c3 : L = zstr 3
        · rw [if_pos c3, if_pos c3] <;> rfl
        · rw [if_neg c3, if_neg c3]
          by_cases c4 : L = zstr 4
          · rw [if_pos c4, if_pos c4] <;> rfl
          · rw [if_neg c4, if_neg c4]
            by_cases c5 : L = zstr 5
            · rw [if_pos c5, if_pos c5] <;> rfl
            · rw [if_neg c5, if_neg c5]
              all_goals rfl
theorem p_fact {M : zMem} {s e : Nat} (h : zbyte B tl M) (h0 : M.1 20 0 = nI e) (h1 : M.1 20 1 = nI s) (hs : s ≤ e) (he : e ≤ tl) (hN : 10 < N) : fX10_factIndex N M = some (zfci (zlst B s (e - s)), M) := by
  have hsp : ∀ w, w < 12 → fX10_spells N w M = some (zbi (decide (zlst B s (e - s) = zstr w)), M) := fun w hw => p_spells hw h h0 h1 hs he hN
  unfold fX10_factIndex zfci
  simp only [hsp 6 (by omega), hsp 7 (by omega), hsp 8 (by omega), hsp 9 (by omega), hsp 10 (by omega), hsp 11 (by omega), zb2_some, zbi_d, ite_not]
  generalize zlst B s (e - s) = L
  by_cases c0 : L = zstr 6
  · rw [if_pos c0, if_pos c0] <;> rfl
  · rw [if_neg c0, if_neg c0]
    by_cases c1 : L = zstr 7
    · rw [if_pos c1, if_pos c1] <;> rfl
    · rw [if_neg c1, if_neg c1]
      by_cases c2 : L = zstr 8
      · rw [if_pos c2, if_pos c2] <;> rfl
      · rw [if_neg c2, if_neg c2]
        by_cases c3 : L = zstr 9
        · rw [if_pos c3, if_pos c3] <;> rfl
        · rw [if_neg c3, if_neg c3]
          by_cases c4 : L = zstr 10
          · rw [if_pos c4, if_pos c4] <;> rfl
          · rw [if_neg c4, if_neg c4]
            by_cases c5 : L = zstr 11
            · rw [if_pos c5, if_pos c5] <;> rfl
            · rw [if_neg c5, if_neg c5]
              all_goals rfl
theorem p_word63 {W : zMem} {s e : Nat} (h : zbyte B tl W) (h0 : W.1 20 0 = nI e) (h1 : W.1 20 1 = nI s) (hs : s ≤ e) (he : e ≤ tl) (hN : 10 < N) {k : Nat} (hk : k = zkwa (zlst B s (e - s))) : ∃ X, fX10_scanWord_L63 N (nI k) W = some X ∧ X.2 = W.2 ∧ (∀ a, a ≠ 20 → X.1 a = W.1 a) ∧ X.1 20 0 = nI e ∧ X.1 20 1 = nI s ∧ X.1 20 2 = nI (zkw (zlst B s (e - s))).1 ∧ ((zkw (zlst B s (e - s))).1 = 2 ∨ (zkw (zlst B s (e - s))).1 = 3 → X.1 20 3 = nI (zkw (zlst B s (e - s))).2) := by
  have hk9 : k < 10 := by
    rw [hk]; unfold zkwa
    repeat (first | omega | split)
  unfold fX10_scanWord_L63 fX10_scanWord_L97
  rw [zlet_eq, show (zpI W 20 2 (nI k)).1 20 2 = nI k from rfl]
  by_cases q : k = 1
  · rw [if_pos (show nI k = 1 by rw [q]; rfl)]
    have hb : zbyte B tl (zpI W 20 2 (nI k)) := zbyte_c h rfl rfl
    rw [p_fact hb h0 h1 hs he hN, zb2_some, zlet_eq]
    have q1 : zkwa (zlst B s (e - s)) = 1 := by rw [← hk]; exact q
    rcases zkw_b q1 with ⟨d1, d2⟩ | ⟨v, d0, d1, d2⟩
    · rw [d1, d2, if_pos (show (zpI (zpI W 20 2 (nI k)) 20 3 (-1)).1 20 3 = -1 from rfl), zlet_eq]
      refine ⟨_, rfl, rfl, fun a ha => ?_, h0, h1, rfl, fun z => absurd z (by simp)⟩
      rw [zpI_r _ _ ha, zpI_r _ _ ha, zpI_r _ _ ha]
    · rw [d1, d2, if_neg (show ¬ (zpI (zpI W 20 2 (nI k)) 20 3 (nI v)).1 20 3 = -1 from by rw [show (zpI (zpI W 20 2 (nI k)) 20 3 (nI v)).1 20 3 = nI v from rfl, z_m1 (by omega)]; exact not_false), zlet_eq]
      refine ⟨_, rfl, rfl, fun a ha => ?_, h0, h1, rfl, fun _ => rfl⟩
      rw [zpI_r _ _ ha, zpI_r _ _ ha, zpI_r _ _ ha]
  · rw [if_neg (show ¬ nI k = 1 by rw [show (1 : Int32) = nI 1 from rfl, z_eq (by omega) (by omega)]; exact q), zkw_a (by rw [← hk]; exact q)]
    refine ⟨_, rfl, rfl, fun a ha => ?_, h0, h1, by rw [← hk]; rfl, fun z => absurd z ?_⟩
    · rw [zpI_r _ _ ha]
    · rw [← hk]
      have h4 : k = 4 ∨ k = 5 ∨ k = 6 ∨ k = 7 ∨ k = 8 ∨ k = 9 ∨ k = 1 := by
        rw [hk]; unfold zkwa
        repeat (first | omega | split)
      show ¬ (k = 2 ∨ k = 3)
      omega
theorem p_word39 {W : zMem} {s e : Nat} (h : zbyte B tl W) (h0 : W.1 20 0 = nI e) (h1 : W.1 20 1 = nI s) (hs : s ≤ e) (he : e ≤ tl) (hN : 10 < N) : ∃ X, fX10_scanWord_L39 N W = some X ∧ X.2 = W.2 ∧ (∀ a, a ≠ 20 → X.1 a = W.1 a) ∧ X.1 20 0 = nI e ∧ X.1 20 1 = nI s ∧ X.1 20 2 = nI (if e - s ≤ 8 then (zkw (zlst B s (e - s))).1 else 1) ∧ ((if e - s ≤ 8 then (zkw (zlst B s (e - s))).1 else 1) = 2 ∨ (if e - s ≤ 8 then (zkw (zlst B s (e - s))).1 else 1) = 3 → X.1 20 3 = nI (if e - s ≤ 8 then (zkw (zlst B s (e - s))).2 else 0)) := by
  have t2 := h.1
  unfold fX10_scanWord_L39
  rw [h0, h1, pk_sub hs, show (8 : Int32) = nI 8 from rfl, zif_le (by omega) (by omega)]
  by_cases q : e - s ≤ 8
  · rw [if_pos q, if_pos q, if_pos q, p_kw h h0 h1 hs he hN, zb2_some]
    exact p_word63 h h0 h1 hs he hN rfl
  · have hlen : 6 < (zlst B s (e - s)).length := by rw [zlst_len]; omega
    obtain ⟨g1, g2⟩ := zkw_long hlen
    obtain ⟨X, x1, x2, x3, x4, x5, x6, x7⟩ := p_word63 h h0 h1 hs he hN (k := 1) g1.symm
    rw [if_neg q, if_neg q]
    refine ⟨X, x1, x2, x3, x4, x5, ?_, fun z => absurd z (by omega)⟩
    rw [x6]
    rcases zkw_b g1 with ⟨d1, d2⟩ | ⟨v, d0, d1, d2⟩
    · rw [d2]
    · rw [g2] at d1
      exact absurd d1.symm (by rw [z_m1 (by omega)]; exact not_false)
theorem zbv_eq {M : zMem} (h : zbyte B tl M) (i : Nat) {k : Nat} (hk : k < 256) : (zbv B tl i = nI k) = (B i = k) := by
  unfold zbv
  by_cases q : i < tl
  · have hb := (h.2.2.1 i q).1
    rw [if_pos q, z_eq (by omega) (by omega)]
  · rw [if_neg q, z_m1' (by omega), h.2.2.2 i (by omega)]
    exact (eq_false (by omega)).symm
theorem p_sg1 {c : Nat} (hc : c < 256) (M : zMem) : fX10_singleSignKind (nI c) M = some (nI (zsg1 c), M) := by
  unfold fX10_singleSignKind zsg1
  have eN : ∀ k : Nat, k < 256 → c ≠ k → ¬ nI c = nI k := fun k hk hne => by rw [z_eq (by omega) (by omega)]; exact hne
  by_cases c0 : c = 59
  · subst c0; rfl
  by_cases c1 : c = 43
  · subst c1; rfl
  by_cases c2 : c = 45
  · subst c2; rfl
  by_cases c3 : c = 42
  · subst c3; rfl
  by_cases c4 : c = 60
  · subst c4; rfl
  by_cases c5 : c = 40
  · subst c5; rfl
  by_cases c6 : c = 41
  · subst c6; rfl
  rw [if_neg c0, if_neg c1, if_neg c2, if_neg c3, if_neg c4, if_neg c5, if_neg c6]
  simp only [if_neg (eN 59 (by omega) c0), if_neg (eN 43 (by omega) c1), if_neg (eN 45 (by omega) c2), if_neg (eN 42 (by omega) c3), if_neg (eN 60 (by omega) c4), if_neg (eN 40 (by omega) c5), if_neg (eN 41 (by omega) c6), show (59 : Int32) = nI 59 from rfl, show (43 : Int32) = nI 43 from rfl, show (45 : Int32) = nI 45 from rfl, show (42 : Int32) = nI 42 from rfl, show (60 : Int32) = nI 60 from rfl, show (40 : Int32) = nI 40 from rfl, show (41 : Int32) = nI 41 from rfl, ite_self]
  rfl
theorem p_sign {W : zMem} {s : Nat} (h : zbyte B tl W) (h1 : W.1 20 1 = nI s) (hs : s < tl) : ∃ X, fX10_scanSign (nI (B s)) (zbv B tl (s + 1)) W = some X ∧ X.2 = W.2 ∧ (∀ a, a ≠ 20 → X.1 a = W.1 a) ∧ X.1 20 0 = nI (s + (zsgn (B s) (B (s + 1))).2) ∧ X.1 20 1 = nI s ∧ X.1 20 2 = nI (zsgn (B s) (B (s + 1))).1 := by
  have hb := (h.2.2.1 s hs).1
  have t2 := h.1
  have single : ∃ X, fX10_scanSign_L28 (nI (B s)) W = some X ∧ X.2 = W.2 ∧ (∀ a, a ≠ 20 → X.1 a = W.1 a) ∧ X.1 20 0 = nI (s + 1) ∧ X.1 20 1 = nI s ∧ X.1 20 2 = nI (zsg1 (B s)) := by
    unfold fX10_scanSign_L28 fX10_scanSign_L29 fX10_scanSign_L50 fX10_scanSign_L69
    rw [if_pos rfl, zlet_eq, if_pos rfl, p_sg1 hb, zb2_some, zlet_eq, h1, nI_1]
    refine ⟨_, rfl, rfl, fun a ha => ?_, rfl, h1, rfl⟩
    rw [zpI_r _ _ ha, zpI_r _ _ ha]
  have double : ∀ k, fX10_doubleSignKind (nI (B s)) (zpI W 20 0 (nI (s + 2))) = some (nI k, zpI W 20 0 (nI (s + 2))) → ∃ X, fX10_scanSign_L24 (nI (B s)) W = some X ∧ X.2 = W.2 ∧ (∀ a, a ≠ 20 → X.1 a = W.1 a) ∧ X.1 20 0 = nI (s + 2) ∧ X.1 20 1 = nI s ∧ X.1 20 2 = nI k := by
    intro k hk
    unfold fX10_scanSign_L24 fX10_scanSign_L29 fX10_scanSign_L50 fX10_scanSign_L69
    rw [if_neg (by decide), zlet_eq, if_neg (by decide), h1, show nI s + (2 : Int32) = nI (s + 2) from nI_add s 2, hk, zb2_some, zlet_eq]
    refine ⟨_, rfl, rfl, fun a ha => ?_, rfl, h1, rfl⟩
    rw [zpI_r _ _ ha, zpI_r _ _ ha]
  unfold fX10_scanSign zsgn
  rw [show (61 : Int32) = nI 61 from rfl, show (33 : Int32) = nI 33 from rfl, show (60 : Int32) = nI 60 from rfl, zif_eq (show B s < 2147483648 by omega) (by omega), zif_eq (show B s < 2147483648 by omega) (by omega), zif_eq (show B s < 2147483648 by omega) (by omega)]
  by_cases q : B (s + 1) = 61
  · rw [if_pos (by rw [zbv_eq h (s + 1) (by omega)]; exact q)]
    by_cases q1 : B s = 61
    · rw [if_pos q1, if_pos (show B (s + 1) = 61 ∧ B s = 61 from ⟨q, q1⟩)]
      refine double 16 ?_
      unfold fX10_doubleSignKind
      rw [q1]; rfl
    · rw [if_neg q1, if_neg (show ¬ (B (s + 1) = 61 ∧ B s = 61) from fun z => q1 z.2)]
      by_cases q2 : B s = 33
      · rw [if_pos q2, if_pos (show B (s + 1) = 61 ∧ B s = 33 from ⟨q, q2⟩)]
        refine double 17 ?_
        unfold fX10_doubleSignKind
        rw [q2]; rfl
      · rw [if_neg q2, if_neg (show ¬ (B (s + 1) = 61 ∧ B s = 33) from fun z => q2 z.2)]
        by_cases q3 : B s = 60
        · rw [if_pos q3, if_pos (show B (s + 1) = 61 ∧ B s = 60 from ⟨q, q3⟩)]
          refine double 19 ?_
          unfold fX10_doubleSignKind
          rw [q3]; rfl
        · rw [if_neg q3, if_neg (show ¬ (B (s + 1) = 61 ∧ B s = 60) from fun z => q3 z.2)]
          exact single
  · rw [if_neg (by rw [zbv_eq h (s + 1) (by omega)]; exact q), if_neg (show ¬ (B (s + 1) = 61 ∧ B s = 61) from fun z => q z.1), if_neg (show ¬ (B (s + 1) = 61 ∧ B s = 33) from fun z => q z.1), if_neg (show ¬ (B (s + 1) = 61 ∧ B s = 60) from fun z => q z.1)]
    exact single
theorem ztokS_le (p : Nat) (hp : p ≤ tl) : p ≤ ztokS B tl p ∧ ztokS B tl p ≤ tl := by
  unfold ztokS
  have h1 := zspan_le (fun i => zblk (B i)) (tl - p) p
  omega
theorem p_scan {M : zMem} {p : Nat} (h : zbyte B tl M) (h0 : M.1 20 0 = nI p) (hp : p ≤ tl) (hN : 2000 < N) : ∃ W, fX10_scan N M = some W ∧ W.2 = M.2 ∧ (∀ a, a ≠ 20 → W.1 a = M.1 a) ∧ W.1 20 0 = nI (ztokA B tl (ztokS B tl p)).2.2 ∧ W.1 20 1 = nI (ztokS B tl p) ∧ W.1 20 2 = nI (ztokA B tl (ztokS B tl p)).1 ∧ ((ztokA B tl (ztokS B tl p)).1 = 2 ∨ (ztokA B tl (ztokS B tl p)).1 = 3 → W.1 20 3 = nI (ztokA B tl (ztokS B tl p)).2.1) := by
  have t2 := h.1
  obtain ⟨W0, w1, w2, w3, w4, w5⟩ := p_skip h h0 hp hN
  have hs := (ztokS_le (B := B) p hp).2
  generalize ztokS B tl p = s at *
  unfold fX10_scan
  rw [w1, zbd_some, zlet_eq, zlet_eq, w5]
  generalize hX : zpI (zpI W0 20 1 (nI s)) 20 3 0 = X
  have x0 : X.1 20 0 = nI s := by rw [← hX]; exact w5
  have x1 : X.1 20 1 = nI s := by rw [← hX]; rfl
  have x2 : X.2 = M.2 := by rw [← hX]; exact w2
  have x3 : ∀ a, a ≠ 20 → X.1 a = M.1 a := fun a ha => by rw [← hX, zpI_r _ _ ha, zpI_r _ _ ha]; exact w3 a ha
  have hb : zbyte B tl X := zbyte_c h (x3 1 (by omega)) (x3 2 (by omega))
  rw [x1, p_byteAt hb (by omega), zb2_some]
  unfold ztokA
  by_cases q : tl ≤ s
  · rw [show zbv B tl s = -1 from if_neg (by omega), if_pos rfl, zlet_eq, if_pos q]
    refine ⟨_, rfl, x2, fun a ha => ?_, x0, x1, rfl, fun z => absurd z (by simp)⟩
    rw [zpI_r _ _ ha]; exact x3 a ha
  · have hlt : s < tl := by omega
    have hbs := (hb.2.2.1 s hlt).1
    have ev : zbv B tl s = nI (B s) := if_pos hlt
    rw [if_neg q, if_neg (by rw [ev, z_m1 (by omega)]; exact not_false), p_letter hb, zb2_some]
    cases ql : zltr (B s)
    · rw [if_pos (show zbi false = 0 from rfl), if_neg (by decide), p_digit hb, zb2_some]
      cases qd : zdgt (B s)
      · rw [if_pos (show zbi false = 0 from rfl), if_neg (by decide), x1, nI_1, p_byteAt hb (by omega), zb2_some, ev]
        obtain ⟨Y, y1, y2, y3, y4, y5, y6⟩ := p_sign hb x1 hlt
        rw [y1, zbd_some]
        refine ⟨Y, rfl, y2.trans x2, fun a ha => (y3 a ha).trans (x3 a ha), y4, y5, y6, fun z => ?_⟩
        exfalso
        revert z
        show ¬ ((zsgn (B s) (B (s + 1))).1 = 2 ∨ (zsgn (B s) (B (s + 1))).1 = 3)
        unfold zsgn zsg1
        repeat' split
        all_goals simp
      · rw [if_neg (by decide), if_pos rfl]
        obtain ⟨Y, y1, y2, y3, y4, y5⟩ := p_numL (N := N) (tl - s) s 0 0 N X hb x0 (by omega) (by omega) (by omega)
        have hsp := zspan_le (fun i => zdgt (B i)) (tl - s) s
        unfold fX10_scanNumber
        rw [show (0 : Int32) = nI 0 from rfl, y1, p_num58 (s := s) y5 ((y4 1 (by omega)).trans x1) (by omega) (by omega), zbd_some, Nat.add_sub_cancel_left]
        by_cases q4 : zspan (fun i => zdgt (B i)) s (tl - s) ≤ 4
        · rw [if_pos q4, if_pos q4, if_pos q4]
          refine ⟨_, rfl, y2.trans x2, fun a ha => ?_, y5, (y4 1 (by omega)).trans x1, rfl, fun _ => rfl⟩
          rw [zpI_r _ _ ha, zpI_r _ _ ha, y3 a ha]; exact x3 a ha
        · rw [if_neg q4, if_neg q4, if_neg q4]
          refine ⟨_, rfl, y2.trans x2, fun a ha => ?_, y5, (y4 1 (by omega)).trans x1, rfl, fun z => absurd z (by simp)⟩
          rw [zpI_r _ _ ha, zpI_r _ _ ha, y3 a ha]; exact x3 a ha
    · rw [if_neg (by decide), if_pos rfl]
      obtain ⟨Y, y1, y2, y3, y4, y5⟩ := p_wordL (N := N) (tl - s) s 0 N X hb x0 (by omega) (by omega) (by omega)
      have hsp := zspan_le (fun i => zltr (B i)) (tl - s) s
      have hbY : zbyte B tl Y := zbyte_c hb (y3 1 (by omega)) (y3 2 (by omega))
      obtain ⟨Z, z1, z2, z3, z4, z5, z6, z7⟩ := p_word39 (N := N) (s := s) hbY y5 ((y4 1 (by omega)).trans x1) (by omega) (by omega) (by omega)
      rw [Nat.add_sub_cancel_left] at z6 z7
      unfold fX10_scanWord
      rw [show (0 : Int32) = nI 0 from rfl, y1, z1, zbd_some]
      by_cases q8 : zspan (fun i => zltr (B i)) s (tl - s) ≤ 8
      · rw [if_pos q8] at z6 z7 ⊢
        rw [if_pos q8] at z7
        exact ⟨Z, rfl, z2.trans (y2.trans x2), fun a ha => (z3 a ha).trans ((y3 a ha).trans (x3 a ha)), z4, z5, z6, z7⟩
      · rw [if_neg q8] at z6 ⊢
        exact ⟨Z, rfl, z2.trans (y2.trans x2), fun a ha => (z3 a ha).trans ((y3 a ha).trans (x3 a ha)), z4, z5, z6, fun z => absurd z (by simp)⟩
end LEX3
