/-! READ: the reference cuts the text -/
def zby2 (B : Nat → Nat) (tl : Nat) (M : zMem) : Prop := tl ≤ 2000 ∧ M.1 69 4 = nI tl ∧ (∀ i, i < tl → B i < 256 ∧ M.1 71 i &&& 255 = nI (B i)) ∧ ∀ i, tl ≤ i → B i = 256
def zav (B : Nat → Nat) (tl i : Nat) : Nat := if i < tl then B i else 0
theorem zlst_snoc (B : Nat → Nat) : ∀ k i, zlst B i (k + 1) = zlst B i k ++ [B (i + k)]
  | 0, i => rfl
  | k + 1, i => by
    rw [zlst, zlst_snoc B k (i + 1), zlst, show i + 1 + k = i + (k + 1) by omega]
    rfl
theorem zdec_snoc : ∀ (L : List Nat) (b a : Nat), zdec (L ++ [b]) a = zdec L a * 10 + (b - 48)
  | [], b, a => rfl
  | c :: L, b, a => by rw [List.cons_append, zdec, zdec, zdec_snoc L]
def zvr : List Nat → Nat
  | [] => 0
  | c :: L => 27 * zvr L + (c - 96)
theorem zvr_inj : ∀ (L K : List Nat), (∀ c, c ∈ L → zltr c = true) → (∀ c, c ∈ K → zltr c = true) → zvr L = zvr K → L = K
  | [], [], _, _, _ => rfl
  | [], c :: K, _, hK, h => by
    have h1 := hK c List.mem_cons_self
    unfold zltr at h1
    simp at h1
    rw [zvr, zvr] at h
    omega
  | c :: L, [], hL, _, h => by
    have h1 := hL c List.mem_cons_self
    unfold zltr at h1
    simp at h1
    rw [zvr, zvr] at h
    omega
  | c :: L, e :: K, hL, hK, h => by
    have h1 := hL c List.mem_cons_self
    have h2 := hK e List.mem_cons_self
    unfold zltr at h1 h2
    simp at h1 h2
    rw [zvr, zvr] at h
    have h3 : c = e := by omega
    have h4 : zvr L = zvr K := by omega
    rw [h3, zvr_inj L K (fun x hx => hL x (List.mem_cons_of_mem _ hx)) (fun x hx => hK x (List.mem_cons_of_mem _ hx)) h4]
theorem zvr_lt : ∀ (L : List Nat), (∀ c, c ∈ L → zltr c = true) → zvr L < 27 ^ L.length
  | [], _ => by decide
  | c :: L, hL => by
    have h1 := hL c List.mem_cons_self
    unfold zltr at h1
    simp at h1
    have h2 := zvr_lt L (fun x hx => hL x (List.mem_cons_of_mem _ hx))
    rw [zvr, List.length_cons, Nat.pow_succ]
    omega
def zvl (B : Nat → Nat) (i : Nat) : Nat → Nat
  | 0 => 0
  | k + 1 => 27 * zvl B i k + (B (i + k) - 96)
theorem zvl_eq (B : Nat → Nat) (i : Nat) : ∀ k, zvl B i k = zvr (zlst B i k).reverse
  | 0 => rfl
  | k + 1 => by rw [zvl, zvl_eq B i k, zlst_snoc, List.reverse_append]; rfl
def zdv (B : Nat → Nat) (i : Nat) : Nat → Nat
  | 0 => 0
  | k + 1 => 10 * zdv B i k + (B (i + k) - 48)
theorem zdv_eq (B : Nat → Nat) (i : Nat) : ∀ k, zdv B i k = zdec (zlst B i k) 0
  | 0 => rfl
  | k + 1 => by rw [zdv, zdv_eq B i k, zlst_snoc, zdec_snoc]; omega
theorem zlN_inj {a b : Nat} (ha : a < 9223372036854775808) (hb : b < 9223372036854775808) (h : lN a = lN b) : a = b := by
  have h1 : (lN a).toInt = a := lg_ofNat_toInt (by omega)
  have h2 : (lN b).toInt = b := lg_ofNat_toInt (by omega)
  rw [h] at h1
  omega
def zkey (k : Nat) : Nat := [3379448, 249, 388708, 92275, 358472, 1111, 279346, 10935975, 330748168, 168984, 6132983, 287753935].getD k 0
def zkpx (k : Nat) : Nat := [0, 4, 1, 2, 3, 5, 6, 7, 8, 9, 10, 11].getD k 0
theorem zkey_v : ∀ k, k < 12 → zkey k = zvr (zstr (zkpx k)).reverse := by decide +kernel
theorem zkey_l : ∀ k, k < 12 → ∀ c, c ∈ (zstr (zkpx k)).reverse → zltr c = true := by decide +kernel
theorem zkey_b : ∀ k, k < 12 → zkey k < 400000000 := by decide +kernel
/-- the reference's kind of a token -/
def zck (k v : Nat) : Nat := [0, 3, 2, 26 + v, 20, 22, 23, 24, 21, 25, 4, 6, 7, 8, 9, 10, 11, 12, 13, 14].getD k 0
def zcv (k v c : Nat) : Prop := (k ≠ 1 → c = zck k v) ∧ (k = 1 → c = 1 ∨ c = 3)
def zkf (L : List Nat) : Nat → Nat → Nat → Nat
  | 0, _, x => x
  | d + 1, k, x => zkf L d (k + 1) (if L = zstr (zkpx k) then 20 + k else x)
theorem zkf_c {L : List Nat} {x : Nat} (hx : x = 1 ∨ x = 3) : zcv (zkw L).1 (zkw L).2 (zkf L 12 0 x) := by
  by_cases c0 : L = zstr 0
  · subst c0; exact ⟨fun _ => rfl, fun z => absurd z (by decide)⟩
  by_cases c1 : L = zstr 1
  · subst c1; exact ⟨fun _ => rfl, fun z => absurd z (by decide)⟩
  by_cases c2 : L = zstr 2
  · subst c2; exact ⟨fun _ => rfl, fun z => absurd z (by decide)⟩
  by_cases c3 : L = zstr 3
  · subst c3; exact ⟨fun _ => rfl, fun z => absurd z (by decide)⟩
  by_cases c4 : L = zstr 4
  · subst c4; exact ⟨fun _ => rfl, fun z => absurd z (by decide)⟩
  by_cases c5 : L = zstr 5
  · subst c5; exact ⟨fun _ => rfl, fun z => absurd z (by decide)⟩
  by_cases c6 : L = zstr 6
  · subst c6; exact ⟨fun _ => rfl, fun z => absurd z (by decide)⟩
  by_cases c7 : L = zstr 7
  · subst c7; exact ⟨fun _ => rfl, fun z => absurd z (by decide)⟩
  by_cases c8 : L = zstr 8
  · subst c8; exact ⟨fun _ => rfl, fun z => absurd z (by decide)⟩
  by_cases c9 : L = zstr 9
  · subst c9; exact ⟨fun _ => rfl, fun z => absurd z (by decide)⟩
  by_cases c10 : L = zstr 10
  · subst c10; exact ⟨fun _ => rfl, fun z => absurd z (by decide)⟩
  by_cases c11 : L = zstr 11
  · subst c11; exact ⟨fun _ => rfl, fun z => absurd z (by decide)⟩
  have e1 : zkw L = (1, 0) := by
    unfold zkw
    rw [if_neg c0, if_neg c1, if_neg c2, if_neg c3, if_neg c4, if_neg c5, if_neg c6, if_neg c7, if_neg c8, if_neg c9, if_neg c10, if_neg c11]
  have e2 : zkf L 12 0 x = x := by
    show (if L = zstr 11 then _ else if L = zstr 10 then _ else if L = zstr 9 then _ else if L = zstr 8 then _ else if L = zstr 7 then _ else if L = zstr 6 then _ else if L = zstr 5 then _ else if L = zstr 3 then _ else if L = zstr 2 then _ else if L = zstr 1 then _ else if L = zstr 4 then _ else if L = zstr 0 then _ else x) = x
    rw [if_neg c0, if_neg c1, if_neg c2, if_neg c3, if_neg c4, if_neg c5, if_neg c6, if_neg c7, if_neg c8, if_neg c9, if_neg c10, if_neg c11]
  rw [e1, e2]
  exact ⟨fun z => absurd rfl z, fun _ => hx⟩
section LEX4
variable {B : Nat → Nat} {tl : Nat} {N : Nat}
theorem m_at {M : zMem} (h : zby2 B tl M) {i : Nat} (hi : i < 100000) : fX12_at (nI i) M = some (nI (zav B tl i), M) := by
  obtain ⟨h0, h1, h2, -⟩ := h
  unfold fX12_at zav
  rw [h1, zif_le (by omega) (by omega)]
  by_cases q : i < tl
  · rw [if_neg (by omega), z_ldI (by omega) (by omega), zbd_some, (h2 i q).2, if_pos q]
  · rw [if_pos (by omega), if_neg q]; rfl
theorem zav_lt {M : zMem} (h : zby2 B tl M) (i : Nat) : zav B tl i < 256 := by
  unfold zav
  split
  · rename_i q; exact (h.2.2.1 i q).1
  · omega
theorem zav_ltr {M : zMem} (h : zby2 B tl M) (i : Nat) : zltr (zav B tl i) = zltr (B i) := by
  unfold zav
  split
  · rfl
  · rename_i q; rw [h.2.2.2 i (by omega)]; rfl
theorem zav_dgt {M : zMem} (h : zby2 B tl M) (i : Nat) : zdgt (zav B tl i) = zdgt (B i) := by
  unfold zav
  split
  · rfl
  · rename_i q; rw [h.2.2.2 i (by omega)]; rfl
theorem m_ltr {b : Nat} (hb : b < 256) (M : zMem) : fX12_isLetter (nI b) M = some (zbi (zltr b), M) := by
  unfold fX12_isLetter zltr
  rw [show (97 : Int32) = nI 97 from rfl, show (122 : Int32) = nI 122 from rfl, zif_lt (by omega) (by omega), zif_lt (by omega) (by omega)]
  by_cases q1 : b < 97
  · rw [if_pos q1, decide_eq_false (by omega)]; rfl
  · rw [if_neg q1]
    by_cases q3 : 122 < b
    · rw [if_pos q3, decide_eq_true (show 97 ≤ b by omega), decide_eq_false (by omega)]; rfl
    · rw [if_neg q3, decide_eq_true (show 97 ≤ b by omega), decide_eq_true (show b ≤ 122 by omega)]; rfl
theorem m_dgt {b : Nat} (hb : b < 256) (M : zMem) : fX12_isDigit (nI b) M = some (zbi (zdgt b), M) := by
  unfold fX12_isDigit zdgt
  rw [show (48 : Int32) = nI 48 from rfl, show (57 : Int32) = nI 57 from rfl, zif_lt (by omega) (by omega), zif_lt (by omega) (by omega)]
  by_cases q1 : b < 48
  · rw [if_pos q1, decide_eq_false (by omega)]; rfl
  · rw [if_neg q1]
    by_cases q3 : 57 < b
    · rw [if_pos q3, decide_eq_true (show 48 ≤ b by omega), decide_eq_false (by omega)]; rfl
    · rw [if_neg q3, decide_eq_true (show 48 ≤ b by omega), decide_eq_true (show b ≤ 57 by omega)]; rfl
theorem m_more {v b : Nat} (hb : zltr b = true) (M : zMem) : fX12_more (lN v) (nI b) M = some (lN (27 * v + (b - 96)), M) := by
  unfold zltr at hb
  simp at hb
  unfold fX12_more
  rw [if_neg (nI_ne0 (by omega) (by omega)), show (97 : Int32) = nI 97 from rfl, pk_sub (by omega), nI_1, nI_l (by omega), show (27 : Int64) = lN 27 from rfl, lN_mul, lN_add]
  congr 3; omega
/-- letters -/
theorem m_wordL {k7 : Int32 → zMem → Option zMem} {M : zMem} (h : zby2 B tl M) {i : Nat} : ∀ k n f, i + n + k = tl → k < f → fX12_cut_L85 N k7 f (nI i) (nI n) (lN (zvl B i (min n 8))) M = fX12_cut_L135 N k7 (nI i) (nI (n + zspan (fun i => zltr (B i)) (i + n) k)) (lN (zvl B i (min (n + zspan (fun i => zltr (B i)) (i + n) k) 8))) (nI (if n + zspan (fun i => zltr (B i)) (i + n) k ≤ 8 then 1 else 3)) M
  | 0, n, f + 1, hi, hf => by
    have t2 := h.1
    rw [fX12_cut_L85, nI_add, m_at h (by omega), zb2_some, m_ltr (zav_lt h _), zb2_some, zav_ltr h, h.2.2.2 _ (by omega), if_pos (by decide), zspan, Nat.add_zero, show (8 : Int32) = nI 8 from rfl, zif_le (by omega) (by omega)]
    split
    · rfl
    · rfl
  | k + 1, n, f + 1, hi, hf => by
    have t2 := h.1
    rw [fX12_cut_L85, nI_add, m_at h (by omega), zb2_some, m_ltr (zav_lt h _), zb2_some, zav_ltr h, zspan]
    cases q : zltr (B (i + n))
    · rw [if_pos (show zbi false = 0 from rfl), if_neg (show ¬ (false = true) by decide), Nat.add_zero, show (8 : Int32) = nI 8 from rfl, zif_le (by omega) (by omega)]
      split
      · rfl
      · rfl
    · have ih := m_wordL h (i := i) (k7 := k7) k (n + 1) f (by omega) (by omega)
      rw [show i + (n + 1) = i + n + 1 by omega, show n + 1 + zspan (fun i => zltr (B i)) (i + n + 1) k = n + (1 + zspan (fun i => zltr (B i)) (i + n + 1) k) by omega] at ih
      rw [if_neg (show ¬ zbi true = 0 by decide), if_pos (show true = true from rfl), show (8 : Int32) = nI 8 from rfl, zif_le (by omega) (by omega), ← ih]
      unfold fX12_cut_L118
      by_cases q8 : 8 ≤ n
      · rw [if_pos q8, zlet_eq, nI_1, Nat.min_eq_right q8, Nat.min_eq_right (show 8 ≤ n + 1 by omega)]
      · rw [if_neg q8, m_at h (by omega), zb2_some, show zav B tl (i + n) = B (i + n) from if_pos (by omega), m_more q, zb2_some, zlet_eq, nI_1, Nat.min_eq_left (show n ≤ 8 by omega), Nat.min_eq_left (show n + 1 ≤ 8 by omega), zvl]
/-- digits -/
theorem m_numL {k7 : Int32 → zMem → Option zMem} {M : zMem} (h : zby2 B tl M) {i : Nat} : ∀ k n f, i + n + k = tl → k < f → fX12_cut_L208 N k7 f (nI i) (nI n) (nI (zdv B i (min n 4))) M = fX12_cut_L261 N k7 (nI i) (nI (n + zspan (fun i => zdgt (B i)) (i + n) k)) (nI (zdv B i (min (n + zspan (fun i => zdgt (B i)) (i + n) k) 4))) (nI (if n + zspan (fun i => zdgt (B i)) (i + n) k ≤ 4 then 2 else 3)) M
  | 0, n, f + 1, hi, hf => by
    have t2 := h.1
    rw [fX12_cut_L208, nI_add, m_at h (by omega), zb2_some, m_dgt (zav_lt h _), zb2_some, zav_dgt h, h.2.2.2 _ (by omega), if_pos (by decide), zspan, Nat.add_zero, show (4 : Int32) = nI 4 from rfl, zif_le (by omega) (by omega)]
    split
    · rfl
    · rfl
  | k + 1, n, f + 1, hi, hf => by
    have t2 := h.1
    rw [fX12_cut_L208, nI_add, m_at h (by omega), zb2_some, m_dgt (zav_lt h _), zb2_some, zav_dgt h, zspan]
    cases q : zdgt (B (i + n))
    · rw [if_pos (show zbi false = 0 from rfl), if_neg (show ¬ (false = true) by decide), Nat.add_zero, show (4 : Int32) = nI 4 from rfl, zif_le (by omega) (by omega)]
      split
      · rfl
      · rfl
    · have ih := m_numL h (i := i) (k7 := k7) k (n + 1) f (by omega) (by omega)
      have q2 := zdgt_48 q
      rw [show i + (n + 1) = i + n + 1 by omega, show n + 1 + zspan (fun i => zdgt (B i)) (i + n + 1) k = n + (1 + zspan (fun i => zdgt (B i)) (i + n + 1) k) by omega] at ih
      rw [if_neg (show ¬ zbi true = 0 by decide), if_pos (show true = true from rfl), show (4 : Int32) = nI 4 from rfl, zif_le (by omega) (by omega), ← ih]
      unfold fX12_cut_L244
      by_cases q8 : 4 ≤ n
      · rw [if_pos q8, zlet_eq, nI_1, Nat.min_eq_right q8, Nat.min_eq_right (show 4 ≤ n + 1 by omega)]
      · rw [if_neg q8, m_at h (by omega), zb2_some, show zav B tl (i + n) = B (i + n) from if_pos (by omega), zlet_eq, zlet_eq, nI_1, Nat.min_eq_left (show n ≤ 4 by omega), Nat.min_eq_left (show n + 1 ≤ 4 by omega), zdv, show (10 : Int32) = nI 10 from rfl, show (48 : Int32) = nI 48 from rfl, pk_mul, nI_add, pk_sub (by omega)]
        congr 2; omega
/-- the twelve words -/
theorem m_keyL {k7 : Int32 → zMem → Option zMem} {M : zMem} (hK : gKeys M) {L : List Nat} {v : Nat} (hv : ∀ k, k < 12 → (zkey k = v ↔ L = zstr (zkpx k))) (hvb : v < 9223372036854775808) {x1 x3 : Int32} : ∀ d k x f, k + d = 12 → d < f → fX12_cut_L146 N k7 f x1 x3 (lN v) (nI x) (nI k) M = fX12_cut_L179 N k7 x1 x3 (lN v) (nI (zkf L d k x)) M
  | 0, k, x, f + 1, hk, hf => by
    rw [fX12_cut_L146, show (12 : Int32) = nI 12 from rfl, if_pos (by rw [z_le (by omega) (by omega)]; omega), zkf]
  | d + 1, k, x, f + 1, hk, hf => by
    have h1 : M.2.1 76 k = lN (zkey k) := hK k (by omega)
    have h2 := zkey_b k (by omega)
    have h3 := hv k (by omega)
    rw [fX12_cut_L146, show (12 : Int32) = nI 12 from rfl, if_neg (by rw [z_le (by omega) (by omega)]; omega), z_ldJ (by omega) (by omega), zbd_some, h1, zkf]
    unfold fX12_cut_L173
    by_cases q : L = zstr (zkpx k)
    · have e1 : zkey k = v := h3.mpr q
      rw [if_pos ((lg_cmp_eq _ _).mpr (by rw [← e1])), zlet_eq, zlet_eq, nI_1, show (20 : Int32) = nI 20 from rfl, nI_add, if_pos q]
      exact m_keyL hK hv hvb d (k + 1) (20 + k) f (by omega) (by omega)
    · rw [if_neg (fun z => q (h3.mp (zlN_inj (by omega) hvb ((lg_cmp_eq _ _).mp z)))), zlet_eq, nI_1, if_neg q]
      exact m_keyL hK hv hvb d (k + 1) x f (by omega) (by omega)
end LEX4
