/-! READ: tokens, as pure numbers; B is the byte at a place, 256 behind the text -/
def zblk (b : Nat) : Bool := decide (b = 9) || decide (b = 10) || decide (b = 13) || decide (b = 32)
def zltr (b : Nat) : Bool := decide (97 ≤ b) && decide (b ≤ 122)
def zdgt (b : Nat) : Bool := decide (48 ≤ b) && decide (b ≤ 57)
def zspan (f : Nat → Bool) : Nat → Nat → Nat
  | _, 0 => 0
  | i, k + 1 => if f i = true then 1 + zspan f (i + 1) k else 0
def zlst (B : Nat → Nat) : Nat → Nat → List Nat
  | _, 0 => []
  | i, k + 1 => B i :: zlst B (i + 1) k
def zstr (i : Nat) : List Nat := [[102, 105, 114, 115, 116], [115, 116, 101, 112], [100, 114, 111, 112], [114, 101, 115, 116], [105, 102], [97, 110, 100], [110, 101, 101, 100], [116, 111, 112, 105, 99], [119, 97, 105, 116, 101, 100], [104, 111, 117, 114], [107, 110, 111, 119, 110], [116, 97, 108, 107, 101, 100]].getD i []
def zkw (L : List Nat) : Nat × Nat := if L = zstr 0 then (4, 0) else if L = zstr 1 then (5, 0) else if L = zstr 2 then (6, 0) else if L = zstr 3 then (7, 0) else if L = zstr 4 then (8, 0) else if L = zstr 5 then (9, 0) else if L = zstr 6 then (3, 0) else if L = zstr 7 then (3, 1) else if L = zstr 8 then (3, 2) else if L = zstr 9 then (3, 3) else if L = zstr 10 then (3, 4) else if L = zstr 11 then (3, 5) else (1, 0)
def zsg1 (c : Nat) : Nat := if c = 59 then 10 else if c = 43 then 13 else if c = 45 then 14 else if c = 42 then 15 else if c = 60 then 18 else if c = 40 then 11 else if c = 41 then 12 else 1
def zsgn (c d : Nat) : Nat × Nat := if d = 61 ∧ c = 61 then (16, 2) else if d = 61 ∧ c = 33 then (17, 2) else if d = 61 ∧ c = 60 then (19, 2) else (zsg1 c, 1)
def zdec : List Nat → Nat → Nat
  | [], a => a
  | b :: L, a => zdec L (a * 10 + (b - 48))
/-- the token that begins at or behind p: where it starts, its kind, its value, where it ends -/
def ztokS (B : Nat → Nat) (tl p : Nat) : Nat := p + zspan (fun i => zblk (B i)) p (tl - p)
def ztokA (B : Nat → Nat) (tl s : Nat) : Nat × Nat × Nat :=
  if tl ≤ s then (0, 0, s) else if zltr (B s) = true then
    (if zspan (fun i => zltr (B i)) s (tl - s) ≤ 8 then ((zkw (zlst B s (zspan (fun i => zltr (B i)) s (tl - s)))).1, (zkw (zlst B s (zspan (fun i => zltr (B i)) s (tl - s)))).2, s + zspan (fun i => zltr (B i)) s (tl - s)) else (1, 0, s + zspan (fun i => zltr (B i)) s (tl - s)))
  else if zdgt (B s) = true then
    (if zspan (fun i => zdgt (B i)) s (tl - s) ≤ 4 then (2, zdec (zlst B s (zspan (fun i => zdgt (B i)) s (tl - s))) 0, s + zspan (fun i => zdgt (B i)) s (tl - s)) else (1, 0, s + zspan (fun i => zdgt (B i)) s (tl - s)))
  else ((zsgn (B s) (B (s + 1))).1, 0, s + (zsgn (B s) (B (s + 1))).2)
theorem zspan_le (f : Nat → Bool) : ∀ k i, zspan f i k ≤ k
  | 0, i => Nat.le_refl 0
  | k + 1, i => by
    rw [zspan]
    split
    · have := zspan_le f k (i + 1); omega
    · omega
theorem zspan_in (f : Nat → Bool) : ∀ k i j, j < zspan f i k → f (i + j) = true
  | 0, i, j, h => by simp [zspan] at h
  | k + 1, i, j, h => by
    rw [zspan] at h
    by_cases q : f i = true
    · rw [if_pos q] at h
      by_cases e : j = 0
      · subst e; exact q
      · have := zspan_in f k (i + 1) (j - 1) (by omega)
        rw [show i + 1 + (j - 1) = i + j by omega] at this
        exact this
    · rw [if_neg q] at h; omega
theorem zspan_out (f : Nat → Bool) : ∀ k i, f (i + k) = false → f (i + zspan f i k) = false
  | 0, i, h => h
  | k + 1, i, h => by
    rw [zspan]
    by_cases q : f i = true
    · rw [if_pos q]
      have := zspan_out f k (i + 1) (by rw [show i + 1 + k = i + (k + 1) by omega]; exact h)
      rw [show i + (1 + zspan f (i + 1) k) = i + 1 + zspan f (i + 1) k by omega]
      exact this
    · rw [if_neg q]; simpa using q
theorem zlst_len (B : Nat → Nat) : ∀ k i, (zlst B i k).length = k
  | 0, i => rfl
  | k + 1, i => by rw [zlst, List.length_cons, zlst_len B k]
theorem zlst_get (B : Nat → Nat) : ∀ k i j, j < k → (zlst B i k).getD j 0 = B (i + j)
  | 0, i, j, h => by omega
  | k + 1, i, j, h => by
    rw [zlst]
    cases j with
    | zero => rfl
    | succ j =>
      rw [List.getD_cons_succ, zlst_get B k (i + 1) j (by omega)]
      congr 1; omega
/-- the text in memory -/
def zbyte (B : Nat → Nat) (tl : Nat) (M : zMem) : Prop := tl ≤ 2000 ∧ M.1 1 1 = nI tl ∧ (∀ i, i < tl → B i < 256 ∧ M.1 2 i &&& 255 = nI (B i)) ∧ ∀ i, tl ≤ i → B i = 256
def zbv (B : Nat → Nat) (tl i : Nat) : Int32 := if i < tl then nI (B i) else -1
theorem p_byteAt {B : Nat → Nat} {tl : Nat} {M : zMem} (h : zbyte B tl M) {i : Nat} (hi : i < 100000) : fX8_byteAt (nI i) M = some (zbv B tl i, M) := by
  obtain ⟨h0, h1, h2, -⟩ := h
  unfold fX8_byteAt zbv
  rw [if_neg (nI_pos (by omega)), h1]
  by_cases q : i < tl
  · rw [if_neg (by rw [z_le (by omega) (by omega)]; omega), z_ldI (by omega) (by omega), zbd_some, (h2 i q).2, if_pos q]
  · rw [if_pos (by rw [z_le (by omega) (by omega)]; omega), if_neg q]
theorem zbyte_c {B : Nat → Nat} {tl : Nat} {M W : zMem} (h : zbyte B tl M) (e1 : W.1 1 = M.1 1) (e2 : W.1 2 = M.1 2) : zbyte B tl W := by
  unfold zbyte at *
  rw [e1, e2]; exact h
theorem z_byn (b : Nat) (hb : b < 256) : True := trivial
section LEX
variable {B : Nat → Nat} {tl : Nat} {M : zMem} {N : Nat}
theorem p_blank (h : zbyte B tl M) (i : Nat) : fX10_isBlank (zbv B tl i) M = some (zbi (zblk (B i)), M) := by
  unfold fX10_isBlank fX10_isBlank_L24 zbv
  by_cases q : i < tl
  · have hb := (h.2.2.1 i q).1
    rw [if_pos q]
    have e : ∀ k : Nat, k < 256 → (nI (B i) = nI k) = (B i = k) := fun k hk => z_eq (by omega) (by omega)
    rw [show (9 : Int32) = nI 9 from rfl, show (10 : Int32) = nI 10 from rfl, show (13 : Int32) = nI 13 from rfl, show (32 : Int32) = nI 32 from rfl]
    simp only [e 9 (by omega), e 10 (by omega), e 13 (by omega), e 32 (by omega)]
    unfold zblk
    by_cases q1 : B i = 9
    · rw [if_pos q1]; simp [q1]; rfl
    · rw [if_neg q1]
      by_cases q2 : B i = 10
      · rw [if_pos q2]; simp [q2]; rfl
      · rw [if_neg q2]
        by_cases q3 : B i = 13
        · rw [if_pos q3]; simp [q3]; rfl
        · rw [if_neg q3]
          by_cases q4 : B i = 32
          · rw [if_pos q4]; simp [q4]; rfl
          · rw [if_neg q4]; simp [q1, q2, q3, q4]; rfl
  · rw [if_neg q, h.2.2.2 i (by omega)]; rfl
theorem p_letter (h : zbyte B tl M) (i : Nat) : fX10_isLetter (zbv B tl i) M = some (zbi (zltr (B i)), M) := by
  unfold fX10_isLetter zbv
  by_cases q : i < tl
  · have hb := (h.2.2.1 i q).1
    rw [if_pos q, show (97 : Int32) = nI 97 from rfl, show (122 : Int32) = nI 122 from rfl]
    unfold zltr
    by_cases q1 : B i < 97
    · have q2 : ¬ 97 ≤ B i := by omega
      rw [if_pos (by rw [z_lt (by omega) (by omega)]; exact q1)]; simp [q2]; rfl
    · have q2 : 97 ≤ B i := by omega
      rw [if_neg (by rw [z_lt (by omega) (by omega)]; exact q1)]
      by_cases q3 : 122 < B i
      · have q4 : ¬ B i ≤ 122 := by omega
        rw [if_pos (by rw [z_lt (by omega) (by omega)]; exact q3)]; simp [q4]; rfl
      · have q4 : B i ≤ 122 := by omega
        rw [if_neg (by rw [z_lt (by omega) (by omega)]; exact q3)]; simp [q2, q4]; rfl
  · rw [if_neg q, h.2.2.2 i (by omega)]; rfl
theorem p_digit (h : zbyte B tl M) (i : Nat) : fX10_isDigit (zbv B tl i) M = some (zbi (zdgt (B i)), M) := by
  unfold fX10_isDigit zbv
  by_cases q : i < tl
  · have hb := (h.2.2.1 i q).1
    rw [if_pos q, show (48 : Int32) = nI 48 from rfl, show (57 : Int32) = nI 57 from rfl]
    unfold zdgt
    by_cases q1 : B i < 48
    · have q2 : ¬ 48 ≤ B i := by omega
      rw [if_pos (by rw [z_lt (by omega) (by omega)]; exact q1)]; simp [q2]; rfl
    · have q2 : 48 ≤ B i := by omega
      rw [if_neg (by rw [z_lt (by omega) (by omega)]; exact q1)]
      by_cases q3 : 57 < B i
      · have q4 : ¬ B i ≤ 57 := by omega
        rw [if_pos (by rw [z_lt (by omega) (by omega)]; exact q3)]; simp [q4]; rfl
      · have q4 : B i ≤ 57 := by omega
        rw [if_neg (by rw [z_lt (by omega) (by omega)]; exact q3)]; simp [q2, q4]; rfl
  · rw [if_neg q, h.2.2.2 i (by omega)]; rfl
/-- only the scanner's place changes -/
def zb20 (M W : zMem) (q : Nat) : Prop := W.2 = M.2 ∧ (∀ a, a ≠ 20 → W.1 a = M.1 a) ∧ (∀ j, j ≠ 0 → W.1 20 j = M.1 20 j) ∧ W.1 20 0 = nI q
theorem p_skipL : ∀ k i x f (M : zMem), zbyte B tl M → M.1 20 0 = nI i → i + k = tl → x + k ≤ 2000 → k < f → ∃ W, fX10_skipBlanks_L2 N f (nI x) M = some W ∧ zb20 M W (i + zspan (fun i => zblk (B i)) i k)
  | 0, i, x, f + 1, M, h, h0, hi, hx, hf => by
    have t2 := h.1
    refine ⟨M, ?_, rfl, fun _ _ => rfl, fun _ _ => rfl, h0⟩
    rw [fX10_skipBlanks_L2, show (2000 : Int32) = nI 2000 from rfl]
    by_cases q : 2000 ≤ x
    · rw [if_pos (by rw [z_le (by omega) (by omega)]; exact q)]
    · rw [if_neg (by rw [z_le (by omega) (by omega)]; exact q), h0, p_byteAt h (by omega), zb2_some, p_blank h, zb2_some, h.2.2.2 i (by omega), if_pos (by decide)]
  | k + 1, i, x, f + 1, M, h, h0, hi, hx, hf => by
    have t2 := h.1
    rw [fX10_skipBlanks_L2, show (2000 : Int32) = nI 2000 from rfl, if_neg (by rw [z_le (by omega) (by omega)]; omega), h0, p_byteAt h (by omega), zb2_some, p_blank h, zb2_some, zspan]
    cases q : zblk (B i)
    · rw [if_pos (show zbi false = 0 from rfl), if_neg (by decide)]
      exact ⟨M, rfl, rfl, fun _ _ => rfl, fun _ _ => rfl, h0⟩
    · rw [if_neg (by decide), if_pos rfl, zlet_eq, zlet_eq, h0, nI_1, nI_1]
      obtain ⟨W, w1, w2, w3, w4, w5⟩ := p_skipL k (i + 1) (x + 1) f (zpI M 20 0 (nI (i + 1))) (zbyte_c h rfl rfl) rfl (by omega) (by omega) (by omega)
      refine ⟨W, w1, w2, fun a ha => by rw [w3 a ha, zpI_r _ _ ha], fun j hj => by rw [w4 j hj, zpI_1, if_neg (fun z => hj z.2)], ?_⟩
      rw [w5]; congr 1; omega
end LEX
