/-! SHIFTS: in a best way every hour with two has a skilled one -/
def zct (w : Nat → Nat) (h : Nat) (n : Nat) : Nat := zsum (fun o => if (w o).testBit h then 1 else 0) n
def zan (S : Nat → Bool) (w : Nat → Nat) (h : Nat) : Nat → Bool
  | 0 => false
  | n + 1 => zan S w h n || (S n && (w n).testBit h)
theorem zacc_cnt (S : Nat → Bool) (w : Nat → Nat) (h : Nat) : ∀ n, (zacc S w 0 n 0 0 0 0).1.testBit h = decide (1 ≤ zct w h n) ∧ (zacc S w 0 n 0 0 0 0).2.1.testBit h = decide (2 ≤ zct w h n) ∧ (zacc S w 0 n 0 0 0 0).2.2.1.testBit h = zan S w h n ∧ (zacc S w 0 n 0 0 0 0).2.2.2 = zsum (fun o => zpc (w o)) n
  | 0 => by simp [zacc, zct, zsum, zan]
  | n + 1 => by
    obtain ⟨a1, a2, a3, a4⟩ := zacc_cnt S w h n
    have ec : zct w h (n + 1) = zct w h n + (if (w n).testBit h then 1 else 0) := rfl
    rw [zacc_snoc, Nat.zero_add]
    refine ⟨?_, ?_, ?_, ?_⟩
    · show ((zacc S w 0 n 0 0 0 0).1 ||| w n).testBit h = _
      rw [Nat.testBit_or, a1, ec]
      cases (w n).testBit h <;> simp
    · show ((zacc S w 0 n 0 0 0 0).2.1 ||| ((zacc S w 0 n 0 0 0 0).1 &&& w n)).testBit h = _
      rw [Nat.testBit_or, Nat.testBit_and, a1, a2, ec]
      cases (w n).testBit h
      · simp
      · by_cases q : 1 ≤ zct w h n
        · have : 2 ≤ zct w h n + 1 := by omega
          simp [q, this]
        · have q2 : ¬ 2 ≤ zct w h n := by omega
          have q3 : ¬ 2 ≤ zct w h n + 1 := by omega
          simp [q, q2, q3]
    · show (if S n = true then (zacc S w 0 n 0 0 0 0).2.2.1 ||| w n else (zacc S w 0 n 0 0 0 0).2.2.1).testBit h = _
      rw [zan]
      by_cases q : S n = true
      · rw [if_pos q, Nat.testBit_or, a3, q]; simp
      · rw [if_neg q, a3]; simp [q]
    · show (zacc S w 0 n 0 0 0 0).2.2.2 + zpc (w n) = _
      rw [a4]; rfl
theorem zct_ge {w : Nat → Nat} {h : Nat} : ∀ n, 1 ≤ zct w h n → ∃ o, o < n ∧ (w o).testBit h = true
  | 0, q => by simp [zct, zsum] at q
  | n + 1, q => by
    have ec : zct w h (n + 1) = zct w h n + (if (w n).testBit h then 1 else 0) := rfl
    by_cases e : (w n).testBit h = true
    · exact ⟨n, by omega, e⟩
    · rw [ec, if_neg e] at q
      obtain ⟨o, o1, o2⟩ := zct_ge n q
      exact ⟨o, by omega, o2⟩
theorem zct_two {w : Nat → Nat} {h : Nat} : ∀ n, 2 ≤ zct w h n → ∃ o p, o < p ∧ p < n ∧ (w o).testBit h = true ∧ (w p).testBit h = true
  | 0, q => by simp [zct, zsum] at q
  | n + 1, q => by
    have ec : zct w h (n + 1) = zct w h n + (if (w n).testBit h then 1 else 0) := rfl
    by_cases e : (w n).testBit h = true
    · rw [ec, if_pos e] at q
      obtain ⟨o, o1, o2⟩ := zct_ge n (show 1 ≤ zct w h n by omega)
      exact ⟨o, n, o1, by omega, o2, e⟩
    · rw [ec, if_neg e] at q
      obtain ⟨o, p, o1, o2, o3, o4⟩ := zct_two n q
      exact ⟨o, p, o1, by omega, o3, o4⟩
theorem zct_in {w : Nat → Nat} {h o : Nat} (e : (w o).testBit h = true) : ∀ n, o < n → 1 ≤ zct w h n
  | 0, q => by omega
  | n + 1, q => by
    have ec : zct w h (n + 1) = zct w h n + (if (w n).testBit h then 1 else 0) := rfl
    by_cases z : o = n
    · subst z; rw [ec, if_pos e]; omega
    · have := zct_in e n (by omega)
      omega
theorem zct_in2 {w : Nat → Nat} {h o p : Nat} (hop : o < p) (e : (w o).testBit h = true) (e2 : (w p).testBit h = true) : ∀ n, p < n → 2 ≤ zct w h n
  | 0, q => by omega
  | n + 1, q => by
    have ec : zct w h (n + 1) = zct w h n + (if (w n).testBit h then 1 else 0) := rfl
    by_cases z : p = n
    · subst z
      have := zct_in e p hop
      rw [ec, if_pos e2]; omega
    · have := zct_in2 hop e e2 n (by omega)
      omega
theorem zct_2 {w : Nat → Nat} {h o p n : Nat} (ho : o < n) (hp : p < n) (hop : o ≠ p) (e : (w o).testBit h = true) (e2 : (w p).testBit h = true) : 2 ≤ zct w h n := by
  rcases Nat.lt_or_ge o p with q | q
  · exact zct_in2 q e e2 n hp
  · exact zct_in2 (show p < o by omega) e2 e n ho
theorem zan_iff {S : Nat → Bool} {w : Nat → Nat} {h : Nat} : ∀ n, zan S w h n = true ↔ ∃ o, o < n ∧ S o = true ∧ (w o).testBit h = true
  | 0 => by simp [zan]
  | n + 1 => by
    rw [zan, Bool.or_eq_true, Bool.and_eq_true, zan_iff n]
    constructor
    · rintro (⟨o, o1, o2⟩ | q)
      · exact ⟨o, by omega, o2⟩
      · exact ⟨n, by omega, q⟩
    · rintro ⟨o, o1, o2⟩
      by_cases e : o = n
      · subst e; exact Or.inr o2
      · exact Or.inl ⟨o, by omega, o2⟩
def zup (w : Nat → Nat) (o c : Nat) (j : Nat) : Nat := if j = o then c else w j
theorem zsum_up {f g : Nat → Nat} {o : Nat} (hfg : ∀ j, j ≠ o → f j = g j) : ∀ n, o < n → zsum f n + g o = zsum g n + f o
  | 0, h => by omega
  | n + 1, h => by
    rw [zsum, zsum]
    by_cases e : o = n
    · subst e
      have : zsum f o = zsum g o := zsum_cong o (fun k hk => hfg k (by omega))
      omega
    · have := zsum_up hfg n (by omega)
      have h2 := hfg n (fun q => e q.symm)
      omega
theorem zan_up {S : Nat → Bool} {w : Nat → Nat} {o c h : Nat} (hS : S o = false) (n : Nat) : zan S (zup w o c) h n = zan S w h n := by
  rw [Bool.eq_iff_iff, zan_iff, zan_iff]
  constructor
  · rintro ⟨p, p1, p2, p3⟩
    refine ⟨p, p1, p2, ?_⟩
    unfold zup at p3
    rw [if_neg (fun e => by rw [e, hS] at p2; cases p2)] at p3
    exact p3
  · rintro ⟨p, p1, p2, p3⟩
    refine ⟨p, p1, p2, ?_⟩
    unfold zup
    rw [if_neg (fun e => by rw [e, hS] at p2; cases p2)]
    exact p3
/-- the hours kept of a way -/
def zkp (S : Nat → Bool) (w : Nat → Nat) (h n : Nat) : Bool := decide (2 ≤ zct w h n) && zan S w h n
theorem zpc_kp (S : Nat → Bool) (w w' : Nat → Nat) (n : Nat) (e : ∀ h, h < 6 → zkp S w h n = zkp S w' h n) : zpc ((zacc S w 0 n 0 0 0 0).2.1 &&& (zacc S w 0 n 0 0 0 0).2.2.1) = zpc ((zacc S w' 0 n 0 0 0 0).2.1 &&& (zacc S w' 0 n 0 0 0 0).2.2.1) := by
  have key : ∀ v : Nat → Nat, ∀ h, ((zacc S v 0 n 0 0 0 0).2.1 &&& (zacc S v 0 n 0 0 0 0).2.2.1).testBit h = zkp S v h n := by
    intro v h
    obtain ⟨-, a2, a3, -⟩ := zacc_cnt S v h n
    rw [Nat.testBit_and, a2, a3]; rfl
  unfold zpc
  exact zsum_cong 6 (fun h hh => by rw [key, key, e h hh])
theorem zrl_in {h f l' : Nat} : ∀ k l, l ≤ l' → l' < l + k → (∀ q, l ≤ q → q ≤ l' → zmask f q &&& h = zmask f q) → zmask f l' ∈ zrl h f l k
  | 0, l, h1, h2, h3 => by omega
  | k + 1, l, h1, h2, h3 => by
    rw [zrl, if_pos (h3 l (Nat.le_refl l) h1)]
    by_cases e : l = l'
    · subst e; simp
    · exact List.mem_cons.mpr (Or.inr (zrl_in k (l + 1) (by omega) (by omega) (fun q q1 q2 => h3 q (by omega) q2)))
theorem zhl_in {h m f' c : Nat} (hc : c ∈ zrl h f' 1 m) : ∀ k f, f ≤ f' → f' < f + k → c ∈ zhl h m f k
  | 0, f, h1, h2 => by omega
  | k + 1, f, h1, h2 => by
    rw [zhl, List.mem_append]
    by_cases e : f = f'
    · subst e; exact Or.inl hc
    · exact Or.inr (zhl_in hc k (f + 1) (by omega) (by omega))
theorem zsub_tr {a b h : Nat} (h1 : a &&& b = a) (h2 : b &&& h = b) : a &&& h = a := by
  rw [← h1, Nat.and_assoc, h2]
theorem zmask_sub : ∀ f, f < 6 → ∀ l, l < 4 → ∀ q, q < 4 → q ≤ l → zmask f q &&& zmask f l = zmask f q := by decide +kernel
theorem zch_in {h m f l : Nat} (hf : f < 6) (hl : 1 ≤ l) (hm : l ≤ m) (hm3 : m ≤ 3) (e : zmask f l &&& h = zmask f l) : zmask f l ∈ zch h m := by
  refine List.mem_cons.mpr (Or.inr (zhl_in (f' := f) ?_ 6 0 (by omega) (by omega)))
  exact zrl_in m 1 hl (by omega) (fun q q1 q2 => zsub_tr (zmask_sub f hf l (by omega) q (by omega) q2) e)
/-- an hour of a shift can be cut off at its ends; else it is the middle one of three -/
def zcb (f l h : Nat) : Bool := decide (1 ≤ l) && decide (zmask f l < 64) && (zmask f l).testBit h
theorem z_cutR : ∀ f, f < 6 → ∀ l, l < 4 → ∀ h, h < 6 → (zcb f l h && decide (h + 1 = f + l)) = true → zmask f (l - 1) &&& zmask f l = zmask f (l - 1) := by decide +kernel
theorem z_cutR2 : ∀ f, f < 6 → ∀ l, l < 4 → ∀ h, h < 6 → (zcb f l h && decide (h + 1 = f + l)) = true → ∀ j, j < 6 → (zmask f (l - 1)).testBit j = ((zmask f l).testBit j && decide (j ≠ h)) := by decide +kernel
theorem z_cutL : ∀ f, f < 6 → ∀ l, l < 4 → ∀ h, h < 6 → (zcb f l h && decide (h = f) && decide (2 ≤ l)) = true → zmask (f + 1) (l - 1) &&& zmask f l = zmask (f + 1) (l - 1) := by decide +kernel
theorem z_cutL2 : ∀ f, f < 6 → ∀ l, l < 4 → ∀ h, h < 6 → (zcb f l h && decide (h = f) && decide (2 ≤ l)) = true → ∀ j, j < 6 → (zmask (f + 1) (l - 1)).testBit j = ((zmask f l).testBit j && decide (j ≠ h)) := by decide +kernel
theorem z_cutL3 : ∀ f, f < 6 → ∀ l, l < 4 → ∀ h, h < 6 → (zcb f l h && decide (h = f) && decide (2 ≤ l)) = true → f + 1 < 6 := by decide +kernel
theorem z_cutM : ∀ f, f < 6 → ∀ l, l < 4 → ∀ h, h < 6 → (zcb f l h && !decide (h + 1 = f + l) && !(decide (h = f) && decide (2 ≤ l))) = true → l = 3 ∧ h = f + 1 := by decide +kernel
theorem z_cut (f : Nat) (hf : f < 6) (l : Nat) (hl : l < 4) (h1 : 1 ≤ l) (h6 : zmask f l < 64) (h : Nat) (hh : h < 6) (hb : (zmask f l).testBit h = true) :
    (∃ f', f' < 6 ∧ ∃ l', l' < 4 ∧ l' + 1 = l ∧ zmask f' l' &&& zmask f l = zmask f' l' ∧ ∀ j, j < 6 → (zmask f' l').testBit j = ((zmask f l).testBit j && decide (j ≠ h))) ∨ (l = 3 ∧ h = f + 1) := by
  have hz : zcb f l h = true := by simp [zcb, h1, h6, hb]
  by_cases e1 : h + 1 = f + l
  · have q : (zcb f l h && decide (h + 1 = f + l)) = true := by simp [hz, e1]
    exact Or.inl ⟨f, hf, l - 1, by omega, by omega, z_cutR f hf l hl h hh q, z_cutR2 f hf l hl h hh q⟩
  · by_cases e2 : h = f ∧ 2 ≤ l
    · have q : (zcb f l h && decide (h = f) && decide (2 ≤ l)) = true := by rw [hz, decide_eq_true e2.1, decide_eq_true e2.2]; rfl
      exact Or.inl ⟨f + 1, z_cutL3 f hf l hl h hh q, l - 1, by omega, by omega, z_cutL f hf l hl h hh q, z_cutL2 f hf l hl h hh q⟩
    · have q : (zcb f l h && !decide (h + 1 = f + l) && !(decide (h = f) && decide (2 ≤ l))) = true := by
        rw [hz, ← Bool.decide_and, decide_eq_false e1, decide_eq_false e2]; rfl
      exact Or.inr (z_cutM f hf l hl h hh q)
theorem z_opt {H m : Nat → Nat} {S : Nat → Bool} {n : Nat} {w : Nat → Nat} {k g : Nat} (hH : ∀ i, i < n → H i < 64 ∧ 1 ≤ m i ∧ m i ≤ 3) (hw : ∀ j, j < n → w j ∈ zch (H j) (m j)) (hk : k = zpc ((zacc S w 0 n 0 0 0 0).2.1 &&& (zacc S w 0 n 0 0 0 0).2.2.1)) (hg : g = (zacc S w 0 n 0 0 0 0).2.2.2)
    (hopt : ∀ v : Nat → Nat, (∀ j, j < n → v j ∈ zch (H j) (m j)) → zno (zpc ((zacc S v 0 n 0 0 0 0).2.1 &&& (zacc S v 0 n 0 0 0 0).2.2.1)) (zacc S v 0 n 0 0 0 0).2.2.2 (k, g, w)) : ∀ h, h < 6 → 2 ≤ zct w h n → zan S w h n = true := by
  intro h hh h2
  apply Classical.byContradiction
  intro hno
  have hno' : ∀ o, o < n → (w o).testBit h = true → S o = false := by
    intro o ho hb
    cases e : S o
    · rfl
    · exact absurd ((zan_iff n).mpr ⟨o, ho, e, hb⟩) hno
  have hzf : zan S w h n = false := by simpa using hno
  -- a way with an offer cut, that keeps the same hours, is better
  have bad : ∀ o c, o < n → S o = false → c ∈ zch (H o) (m o) → zpc c < zpc (w o) → (∀ q, q < 6 → zkp S (zup w o c) q n = zkp S w q n) → False := by
    intro o c ho hS hc hlt hkp
    have h1 := hopt (zup w o c) (fun j hj => by
      unfold zup
      by_cases e : j = o
      · subst e; rw [if_pos rfl]; exact hc
      · rw [if_neg e]; exact hw j hj)
    rw [zpc_kp S (zup w o c) w n hkp, ← hk] at h1
    have g1 := (zacc_cnt S (zup w o c) 0 n).2.2.2
    have g2 := (zacc_cnt S w 0 n).2.2.2
    have g3 := zsum_up (f := fun j => zpc (zup w o c j)) (g := fun j => zpc (w j)) (o := o) (fun j hj => by unfold zup; rw [if_neg hj]) n ho
    have g4 : zpc (zup w o c o) = zpc c := by unfold zup; rw [if_pos rfl]
    rw [g1] at h1
    rw [g2] at hg
    unfold zno at h1
    simp only at h1 g3
    omega
  have shape : ∀ o, o < n → (w o).testBit h = true → ∃ f l, f < 6 ∧ 1 ≤ l ∧ l ≤ m o ∧ w o = zmask f l ∧ zmask f l &&& H o = zmask f l ∧ zmask f l < 64 := by
    intro o ho hb
    rcases List.mem_cons.mp (hw o ho) with q | q
    · rw [q] at hb; simp at hb
    · obtain ⟨f, l, a1, a2, a3, a4, a5⟩ := zhl_mem (hH o ho).1 (hH o ho).2.2 6 0 (w o) (by omega) q
      exact ⟨f, l, a1, a2, a3, a4, a5, z_sub_lt (hH o ho).1 a5⟩
  have ends : ∀ o f l, o < n → (w o).testBit h = true → f < 6 → 1 ≤ l → l ≤ m o → w o = zmask f l → zmask f l &&& H o = zmask f l → zmask f l < 64 → ¬ (l = 3 ∧ h = f + 1) → False := by
    intro o f l ho hb a1 a2 a3 a4 a5 a6 hne
    have hm3 := (hH o ho).2.2
    rcases z_cut f a1 l (by omega) a2 a6 h hh (by rw [← a4]; exact hb) with ⟨f', b1, l', b2, b3, b4, b5⟩ | q
    · have hcl : zmask f' l' &&& H o = zmask f' l' := zsub_tr b4 a5
      have hc : zmask f' l' ∈ zch (H o) (m o) := by
        by_cases e : l' = 0
        · subst e
          have : zmask f' 0 = 0 := by simp [zmask]
          rw [this]; simp [zch]
        · exact zch_in b1 (by omega) (by omega) hm3 hcl
      refine bad o (zmask f' l') ho (hno' o ho hb) hc ?_ ?_
      · rw [a4, zmask_pc f a1 l (by omega) a6, zmask_pc f' b1 l' b2 (z_sub_lt (hH o ho).1 hcl)]; omega
      · intro q hq
        unfold zkp
        rw [zan_up (hno' o ho hb)]
        by_cases e : q = h
        · subst e; rw [hzf]; simp
        · have : zct (zup w o (zmask f' l')) q n = zct w q n := by
            have := zsum_up (f := fun j => if (zup w o (zmask f' l') j).testBit q then 1 else 0) (g := fun j => if (w j).testBit q then 1 else 0) (o := o) (fun j hj => by unfold zup; rw [if_neg hj]) n ho
            have e1 : zup w o (zmask f' l') o = zmask f' l' := by unfold zup; rw [if_pos rfl]
            have e2 : (zmask f' l').testBit q = (w o).testBit q := by rw [b5 q hq, a4]; simp [e]
            simp only [e1, e2] at this
            unfold zct
            omega
          rw [this]
    · exact hne q
  obtain ⟨o, p, op, hp, bo, bp⟩ := zct_two n h2
  obtain ⟨f1, l1, x1, x2, x3, x4, x5, x6⟩ := shape o (by omega) bo
  obtain ⟨f2, l2, y1, y2, y3, y4, y5, y6⟩ := shape p hp bp
  by_cases e1 : l1 = 3 ∧ h = f1 + 1
  · by_cases e2 : l2 = 3 ∧ h = f2 + 1
    · have ew : w o = w p := by rw [x4, y4, e1.1, e2.1, show f1 = f2 by omega]
      refine bad p 0 hp (hno' p hp bp) (by simp [zch]) ?_ ?_
      · rw [y4, zmask_pc f2 y1 l2 (by have := (hH p hp).2.2; omega) y6]
        have : zpc 0 = 0 := by decide
        omega
      · intro q hq
        unfold zkp
        rw [zan_up (hno' p hp bp)]
        cases hz : zan S w q n
        · simp
        · obtain ⟨r, r1, r2, r3⟩ := (zan_iff n).mp hz
          have hrp : r ≠ p := by intro z; rw [z, hno' p hp bp] at r2; cases r2
          have hro : r ≠ o := by intro z; rw [z, hno' o (by omega) bo] at r2; cases r2
          have su : ∀ j, j ≠ p → zup w p 0 j = w j := fun j hj => by unfold zup; rw [if_neg hj]
          by_cases bq : (w p).testBit q = true
          · have t1 : 2 ≤ zct (zup w p 0) q n := zct_2 r1 (show o < n by omega) hro (by rw [su r hrp]; exact r3) (by rw [su o (by omega), ew]; exact bq)
            have t2 : 2 ≤ zct w q n := zct_2 r1 hp hrp r3 bq
            simp [t1, t2]
          · have : zct (zup w p 0) q n = zct w q n := by
              have := zsum_up (f := fun j => if (zup w p 0 j).testBit q then 1 else 0) (g := fun j => if (w j).testBit q then 1 else 0) (o := p) (fun j hj => by rw [su j hj]) n hp
              have e1 : zup w p 0 p = 0 := by unfold zup; rw [if_pos rfl]
              simp only [e1, bq, Nat.zero_testBit] at this
              unfold zct
              simpa using this
            rw [this]
    · exact ends p f2 l2 hp bp y1 y2 y3 y4 y5 y6 e2
  · exact ends o f1 l1 (by omega) bo x1 x2 x3 x4 x5 x6 e1
