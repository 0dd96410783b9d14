/-! SHIFTS, the pure part -/
theorem zsum_le {f g : Nat → Nat} : ∀ n, (∀ k, k < n → f k ≤ g k) → zsum f n ≤ zsum g n
  | 0, _ => Nat.le_refl 0
  | n + 1, h => by
    have h1 := zsum_le n (fun k hk => h k (by omega))
    have h2 := h n (by omega)
    rw [zsum, zsum]; omega
theorem zsum_add {f g : Nat → Nat} : ∀ n, zsum (fun k => f k + g k) n = zsum f n + zsum g n
  | 0 => rfl
  | n + 1 => by rw [zsum, zsum, zsum, zsum_add n]; omega
def zpc (x : Nat) : Nat := zsum (fun j => if x.testBit j then 1 else 0) 6
theorem zpc_le {a b : Nat} (h : ∀ j, j < 6 → a.testBit j = true → b.testBit j = true) : zpc a ≤ zpc b := by
  apply zsum_le
  intro k hk
  have := h k hk
  cases h1 : a.testBit k
  · simp
  · rw [this h1]; simp
theorem zpc_add {a b c d e : Nat} (h : ∀ j, j < 6 → (if a.testBit j then 1 else 0) + (if b.testBit j then 1 else 0) ≤ (if c.testBit j then 1 else 0) + (if d.testBit j then 1 else 0) + (if e.testBit j then 1 else 0)) : zpc a + zpc b ≤ zpc c + zpc d + zpc e := by
  unfold zpc
  rw [← zsum_add, ← zsum_add, ← zsum_add]
  exact zsum_le 6 h
theorem zpc_add2 {a b c : Nat} (h : ∀ j, j < 6 → (if a.testBit j then 1 else 0) ≤ (if b.testBit j then 1 else 0) + (if c.testBit j then 1 else 0)) : zpc a ≤ zpc b + zpc c := by
  unfold zpc
  rw [← zsum_add]
  exact zsum_le 6 h
theorem zpc_6 (a : Nat) : zpc a ≤ 6 := by
  have := zsum_le (f := fun j => if a.testBit j then 1 else 0) (g := fun _ => 1) 6 (fun k _ => by split <;> omega)
  exact this
theorem z_bc0 : ∀ x, x < 64 → (fJ6_bitCount_0f7a4 (nI x) (fun _ _ => 0, fun _ _ => 0, fun _ _ => 0)).map Prod.fst = some (nI (zpc x)) := by decide +kernel
theorem p_bc {x : Nat} (hx : x < 64) (M : zMem) : fJ6_bitCount_0f7a4 (nI x) M = some (nI (zpc x), M) := by
  have h := z_bc0 x hx
  unfold fJ6_bitCount_0f7a4 at h ⊢
  simp only [zlet_eq, Option.map_some] at h ⊢
  rw [Option.some.inj h]
theorem z_bitAt : ∀ x, x < 64 → ∀ j, j < 6 → (nI x >>> (nI j &&& 31)) &&& (1 : Int32) = nI (if x.testBit j then 1 else 0) := by decide +kernel
theorem m_bitsL {x : Nat} (hx : x < 64) (M : zMem) {N : Nat} : ∀ d i n a, i + d = 6 → d < n → fX12_bits_L4 N n (nI x) (nI a) (nI i) M = some (nI (a + zsr (fun j => if x.testBit j then 1 else 0) i d), M)
  | 0, i, n + 1, a, h, _ => by
    rw [fX12_bits_L4, show (6 : Int32) = nI 6 from rfl, if_pos (by rw [z_le (by omega) (by omega)]; omega), zsr, Nat.add_zero]
  | d + 1, i, n + 1, a, h, hn => by
    rw [fX12_bits_L4, show (6 : Int32) = nI 6 from rfl, if_neg (by rw [z_le (by omega) (by omega)]; omega), zlet_eq, zlet_eq, z_bitAt x hx i (by omega), z_add, nI_1, m_bitsL hx M d (i + 1) n _ (by omega) (by omega), zsr, Nat.add_assoc]
theorem m_bits {x : Nat} (hx : x < 64) (M : zMem) {N : Nat} (hN : 10 < N) : fX12_bits N (nI x) M = some (nI (zpc x), M) := by
  have h := m_bitsL hx M (N := N) 6 0 N 0 (by omega) (by omega)
  have h2 := zsr_sum (fun j => if x.testBit j then 1 else 0) 6 0
  unfold fX12_bits zpc
  rw [show (0 : Int32) = nI 0 from rfl, h]
  rw [Nat.zero_add, zsum, Nat.zero_add] at h2
  rw [h2, Nat.zero_add]
/-- an interval of hours: from f, l of them -/
def zmask (f l : Nat) : Nat := (2 ^ l - 1) * 2 ^ f
def zrl (h f : Nat) : Nat → Nat → List Nat
  | _, 0 => []
  | l, k + 1 => if zmask f l &&& h = zmask f l then zmask f l :: zrl h f (l + 1) k else []
def zhl (h m : Nat) : Nat → Nat → List Nat
  | _, 0 => []
  | f, k + 1 => zrl h f 1 m ++ zhl h m (f + 1) k
/-- all choices of an offer -/
def zch (h m : Nat) : List Nat := 0 :: zhl h m 0 6
def zbet (K g : Nat) : Option (Nat × Nat × (Nat → Nat)) → Bool
  | none => true
  | some b => decide (b.1 < K ∨ (K = b.1 ∧ g < b.2.1))
/-- all ways, in the order that settles ties; the first best -/
def zdfs : List (List Nat × Bool) → Nat → Nat → Nat → Nat → Nat → (Nat → Nat) → Option (Nat × Nat × (Nat → Nat)) → Option (Nat × Nat × (Nat → Nat))
  | [], _, _, two, sk, g, pre, b => if zbet (zpc (two &&& sk)) g b = true then some (zpc (two &&& sk), g, pre) else b
  | x :: rest, i, one, two, sk, g, pre, b => x.1.foldl (fun b c => zdfs rest (i + 1) (one ||| c) (two ||| (one &&& c)) (if x.2 then sk ||| c else sk) (g + zpc c) (fun j => if j = i then c else pre j) b) b
theorem zrl_mem {h f m : Nat} (hh : h < 64) (hf : f < 6) : ∀ k l c, l + k = m + 1 → m ≤ 3 → c ∈ zrl h f l k → ∃ l', l ≤ l' ∧ l' ≤ m ∧ c = zmask f l' ∧ zmask f l' &&& h = zmask f l'
  | 0, l, c, h1, h2, h3 => by simp [zrl] at h3
  | k + 1, l, c, h1, h2, h3 => by
    rw [zrl] at h3
    by_cases e : zmask f l &&& h = zmask f l
    · rw [if_pos e] at h3
      rcases List.mem_cons.mp h3 with q | q
      · exact ⟨l, Nat.le_refl l, by omega, q, e⟩
      · obtain ⟨l', a1, a2, a3, a4⟩ := zrl_mem hh hf k (l + 1) c (by omega) h2 q
        exact ⟨l', by omega, a2, a3, a4⟩
    · rw [if_neg e] at h3
      simp at h3
theorem zhl_mem {h m : Nat} (hh : h < 64) (hm : m ≤ 3) : ∀ k f c, f + k = 6 → c ∈ zhl h m f k → ∃ f' l', f' < 6 ∧ 1 ≤ l' ∧ l' ≤ m ∧ c = zmask f' l' ∧ zmask f' l' &&& h = zmask f' l'
  | 0, f, c, h1, h3 => by simp [zhl] at h3
  | k + 1, f, c, h1, h3 => by
    rw [zhl] at h3
    rcases List.mem_append.mp h3 with q | q
    · obtain ⟨l', a1, a2, a3, a4⟩ := zrl_mem (m := m) hh (show f < 6 by omega) m 1 c (by omega) hm q
      exact ⟨f, l', by omega, a1, a2, a3, a4⟩
    · exact zhl_mem hh hm k (f + 1) c (by omega) q
theorem zmask_pc : ∀ f, f < 6 → ∀ l, l < 4 → zmask f l < 64 → zpc (zmask f l) = l := by decide +kernel
theorem z_sub_lt {c h : Nat} (hh : h < 64) (e : c &&& h = c) : c < 64 := by
  have : c &&& h ≤ h := Nat.and_le_right
  omega
theorem zch_mem {h m c : Nat} (hh : h < 64) (hm : m ≤ 3) (hc : c ∈ zch h m) : c < 64 ∧ c &&& h = c ∧ zpc c ≤ m ∧ zpc c ≤ zpc h := by
  rcases List.mem_cons.mp hc with q | q
  · subst q
    have : zpc 0 = 0 := by decide
    exact ⟨by omega, by simp, by omega, by omega⟩
  · obtain ⟨f, l, a1, a2, a3, rfl, a5⟩ := zhl_mem hh hm 6 0 c (by omega) q
    have h6 := z_sub_lt hh a5
    refine ⟨h6, a5, by rw [zmask_pc f a1 l (by omega) h6]; exact a3, zpc_le (fun j hj hb => ?_)⟩
    rw [← a5, Nat.testBit_and, Bool.and_eq_true] at hb
    exact hb.2
/-- what later offers could still bring -/
def zl1 (H : Nat → Nat) : Nat → Nat → Nat
  | _, 0 => 0
  | i, d + 1 => zl1 H (i + 1) d ||| H i
def zl2 (H : Nat → Nat) : Nat → Nat → Nat
  | _, 0 => 0
  | i, d + 1 => zl2 H (i + 1) d ||| (zl1 H (i + 1) d &&& H i)
def zls (H : Nat → Nat) (S : Nat → Bool) : Nat → Nat → Nat
  | _, 0 => 0
  | i, d + 1 => zls H S (i + 1) d ||| (if S i then H i else 0)
def zlh (H m : Nat → Nat) : Nat → Nat → Nat
  | _, 0 => 0
  | i, d + 1 => zlh H m (i + 1) d + min (m i) (zpc (H i))
def zlk2 (H m : Nat → Nat) (S : Nat → Bool) : Nat → Nat → Nat
  | _, 0 => 0
  | i, d + 1 => zlk2 H m S (i + 1) d + (if S i then min (m i) (zpc (H i)) else 0)
def zoff (H m : Nat → Nat) (S : Nat → Bool) : Nat → Nat → List (List Nat × Bool)
  | _, 0 => []
  | i, d + 1 => (zch (H i) (m i), S i) :: zoff H m S (i + 1) d
theorem foldl_id {α β : Type} {f : β → α → β} {b : β} : ∀ l : List α, (∀ a, a ∈ l → f b a = b) → l.foldl f b = b
  | [], _ => rfl
  | a :: l, h => by
    rw [List.foldl_cons, h a (List.mem_cons.mpr (Or.inl rfl))]
    exact foldl_id l (fun x hx => h x (List.mem_cons.mpr (Or.inr hx)))
/-- the subtree that cannot be better changes nothing -/
theorem zdfs_cut {H m : Nat → Nat} {S : Nat → Bool} {n : Nat} (hH : ∀ i, i < n → H i < 64 ∧ m i ≤ 3) {O k g G0 F0 LH LS K0 SK0 : Nat} {w : Nat → Nat} (hK : K0 ≤ zpc O) (hK1 : K0 ≤ (F0 + LH) / 2) (hK2 : K0 ≤ SK0 + LS) (hmin : K0 = zpc O ∨ K0 = (F0 + LH) / 2 ∨ K0 = SK0 + LS) (hc : K0 < k ∨ (K0 = k ∧ g ≤ G0 + (2 * k - F0))) :
    ∀ d i one two sk gv pre, i + d = n → (∀ j, j < 6 → two.testBit j = true → one.testBit j = true) →
      (∀ j, j < 6 → ((two.testBit j || (one.testBit j && (zl1 H i d).testBit j) || (zl2 H i d).testBit j) && (sk.testBit j || (zls H S i d).testBit j)) = true → O.testBit j = true) →
      zpc (one &&& O) + zpc (two &&& O) + zlh H m i d ≤ F0 + LH → zpc (one &&& O) + zpc (two &&& O) + G0 ≤ F0 + gv → G0 ≤ gv → zpc (sk &&& O) + zlk2 H m S i d ≤ SK0 + LS →
      zdfs (zoff H m S i d) i one two sk gv pre (some (k, g, w)) = some (k, g, w)
  | 0, i, one, two, sk, gv, pre, hi, h1, h2, h3, h4, h5, h6 => by
    rw [zoff, zdfs]
    have hb : ¬ zbet (zpc (two &&& sk)) gv (some (k, g, w)) = true := by
      have q0 : ∀ j, j < 6 → (two &&& sk).testBit j = true → O.testBit j = true := by
        intro j hj hb
        rw [Nat.testBit_and, Bool.and_eq_true] at hb
        exact h2 j hj (by simp [hb.1, hb.2])
      have q1 : zpc (two &&& sk) ≤ zpc O := zpc_le q0
      have q2 : zpc (two &&& sk) ≤ zpc (one &&& O) := zpc_le (fun j hj hb => by
        rw [Nat.testBit_and, Bool.and_eq_true]
        refine ⟨?_, q0 j hj hb⟩
        rw [Nat.testBit_and, Bool.and_eq_true] at hb
        exact h1 j hj hb.1)
      have q3 : zpc (two &&& sk) ≤ zpc (two &&& O) := zpc_le (fun j hj hb => by
        rw [Nat.testBit_and, Bool.and_eq_true]
        refine ⟨?_, q0 j hj hb⟩
        rw [Nat.testBit_and, Bool.and_eq_true] at hb
        exact hb.1)
      have q4 : zpc (two &&& sk) ≤ zpc (sk &&& O) := zpc_le (fun j hj hb => by
        rw [Nat.testBit_and, Bool.and_eq_true]
        refine ⟨?_, q0 j hj hb⟩
        rw [Nat.testBit_and, Bool.and_eq_true] at hb
        exact hb.2)
      rw [zlh] at h3
      rw [zlk2] at h6
      simp only [zbet, decide_eq_true_eq]
      omega
    rw [if_neg hb]
  | d + 1, i, one, two, sk, gv, pre, hi, h1, h2, h3, h4, h5, h6 => by
    rw [zoff, zdfs]
    apply foldl_id
    intro c hcm
    obtain ⟨hHi, hmi⟩ := hH i (by omega)
    obtain ⟨c1, c2, c3, c4⟩ := zch_mem hHi hmi hcm
    have csub : ∀ j, c.testBit j = true → (H i).testBit j = true := by
      intro j hj
      rw [← c2, Nat.testBit_and, Bool.and_eq_true] at hj
      exact hj.2
    have s1 : zpc ((one ||| c) &&& O) + zpc ((two ||| (one &&& c)) &&& O) ≤ zpc (one &&& O) + zpc (two &&& O) + zpc c := by
      apply zpc_add
      intro j hj
      simp only [Nat.testBit_and, Nat.testBit_or]
      cases one.testBit j <;> cases two.testBit j <;> cases c.testBit j <;> cases O.testBit j <;> simp
    have s2 : zpc ((if S i = true then sk ||| c else sk) &&& O) ≤ zpc (sk &&& O) + (if S i = true then zpc c else 0) := by
      by_cases q : S i = true
      · rw [if_pos q, if_pos q]
        apply zpc_add2
        intro j hj
        simp only [Nat.testBit_and, Nat.testBit_or]
        cases sk.testBit j <;> cases c.testBit j <;> cases O.testBit j <;> simp
      · rw [if_neg q, if_neg q]; exact Nat.le_refl _
    rw [zlh] at h3
    rw [zlk2] at h6
    apply zdfs_cut hH hK hK1 hK2 hmin hc d (i + 1) _ _ _ _ _ (by omega)
    · intro j hj
      simp only [Nat.testBit_and, Nat.testBit_or]
      have := h1 j hj
      revert this
      cases one.testBit j <;> cases two.testBit j <;> cases c.testBit j <;> simp
    · intro j hj hb
      apply h2 j hj
      have cs := csub j
      simp only [zl1, zl2, zls, Nat.testBit_and, Nat.testBit_or] at hb ⊢
      by_cases q : S i = true
      · simp only [q, if_true, Nat.testBit_or] at hb ⊢
        revert hb cs
        cases one.testBit j <;> cases two.testBit j <;> cases c.testBit j <;> cases sk.testBit j <;> cases (H i).testBit j <;> cases (zl1 H (i + 1) d).testBit j <;> cases (zl2 H (i + 1) d).testBit j <;> cases (zls H S (i + 1) d).testBit j <;> simp
      · simp only [q, Bool.false_eq_true, if_false, Nat.zero_testBit] at hb ⊢
        revert hb cs
        cases one.testBit j <;> cases two.testBit j <;> cases c.testBit j <;> cases sk.testBit j <;> cases (H i).testBit j <;> cases (zl1 H (i + 1) d).testBit j <;> cases (zl2 H (i + 1) d).testBit j <;> cases (zls H S (i + 1) d).testBit j <;> simp
    · omega
    · omega
    · omega
    · by_cases q : S i = true
      · simp only [q, if_true] at h6 s2 ⊢; omega
      · simp only [q, if_false, Bool.false_eq_true] at h6 s2 ⊢; omega
