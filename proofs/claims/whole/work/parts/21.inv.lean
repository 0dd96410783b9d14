/-! THE INVARIANT between the class's memory (places 0 .. 68) and the reference's (69 .. 133) -/
/-- the tape -/
def gTape (tl : Nat) (M : zMem) : Prop := tl ≤ 2000 ∧ M.1 1 1 = nI tl ∧ M.1 69 2 = nI tl ∧ ∀ k, k < tl → M.1 2 k = M.1 70 k
/-- the place of the latest fault -/
def gPlace (M : zMem) : Prop := M.1 19 9 = M.1 69 17
/-- volunteers and steps -/
def gTeam (nv ns : Nat) (M : zMem) : Prop := nv ≤ 8 ∧ M.1 22 2 = nI nv ∧ M.1 69 37 = nI nv ∧ ns ≤ 8 ∧ M.1 22 5 = nI ns ∧ M.1 69 39 = nI ns ∧ (∀ k, k < nv → M.1 23 k = M.1 92 k) ∧
  ∀ k, k < ns → M.1 25 k = M.1 93 k ∧ M.1 26 k = M.1 94 k ∧ (M.1 25 k = -1 ∨ ∃ j, j < k ∧ M.1 25 k = nI j) ∧ ∃ m, 1 ≤ m ∧ m ≤ 200 ∧ M.1 26 k = nI m
/-- learnt: the reference keeps the nights of learning, the class a bit for each night in which a step is had -/
def gLearn (nv ns : Nat) (M : zMem) : Prop := ∀ v s n, v < 8 → s < 8 → n < 200 → (M.1 95 (200 * (8 * v + s) + n) = 0 ∨ M.1 95 (200 * (8 * v + s) + n) = 1) ∧
  ((nv ≤ v ∨ ns ≤ s) → M.1 95 (200 * (8 * v + s) + n) = 0 ∧ (M.2.1 27 n).toBitVec.getLsbD (8 * v + s) = false) ∧
  (v < nv → s < ns → ((M.2.1 27 n).toBitVec.getLsbD (8 * v + s) = true ↔ ∃ k, k ≤ n ∧ n < k + (M.1 94 s).toNatClampNeg ∧ M.1 95 (200 * (8 * v + s) + k) = 1))
/-- bars -/
def gBars (M : zMem) : Prop := ∀ k, k < 160 → M.1 96 k = M.1 28 k + 1 ∧ (M.1 28 k = -1 ∨ ∃ n, n < 200 ∧ M.1 28 k = nI n)
/-- the clock -/
def gClock (c : Nat) (M : zMem) : Prop := c < 200 ∧ M.1 0 11 = nI c ∧ M.1 69 44 = nI c
/-- what a night is -/
def gCal (M : zMem) : Prop := (∀ n, n < 200 → ∃ h f g, h < 2 ∧ f < 2 ∧ g < 2 ∧ M.1 30 n = nI (h + 2 * f + 4 * g) ∧ M.1 99 n = nI h ∧ M.1 101 n = nI f ∧ M.1 100 n = nI g)
def zcnt (p : Nat → Bool) : Nat → Nat
  | 0 => 0
  | n + 1 => zcnt p n + (if p n then 1 else 0)
def gGone (M : zMem) : Prop := M.1 69 71 = nI (zcnt (fun n => M.1 100 n == 1) 200)
/-- offers of the clock's night -/
def gOffers (nv c no : Nat) (M : zMem) : Prop := no ≤ 5 ∧ M.1 32 3 = nI no ∧ M.1 102 c = nI no ∧ (∀ n, c < n → n < 200 → M.1 102 n = 0) ∧
  (∀ k, k < no → M.1 33 k = M.1 103 (5 * c + k) ∧ M.1 34 k = M.1 104 (5 * c + k) ∧ M.1 35 k = M.1 105 (5 * c + k) ∧ (∃ v, v < nv ∧ M.1 33 k = nI v) ∧ (∃ h, 1 ≤ h ∧ h < 64 ∧ M.1 34 k = nI h) ∧ ∃ m, 1 ≤ m ∧ m ≤ 3 ∧ M.1 35 k = nI m) ∧
  ∀ k j, k < no → j < no → M.1 33 k = M.1 33 j → k = j
/-- who has a step in a night, by the class's bits -/
def zhas (M : zMem) (v : Nat) : Nat → Nat → Nat → Bool
  | 0, _, _ => true
  | d + 1, s, n => (M.2.1 27 n).toBitVec.getLsbD (8 * v + s) && (if M.1 25 s = -1 then true else zhas M v d (M.1 25 s).toNatClampNeg n)
def zhas0 (ns : Nat) (M : zMem) (v n : Nat) : Bool := decide (0 < ns) && zhas M v 8 0 n
/-- who is there -/
def gPres (nv : Nat) (M : zMem) : Prop := ∀ n, n < 200 → (∀ v, v < 8 → ∃ h, h < 64 ∧ M.1 106 (8 * n + v) = nI h ∧ (∀ j, j < 6 → (M.2.1 31 n).toBitVec.getLsbD (6 * v + j) = h.testBit j) ∧ (nv ≤ v → h = 0) ∧ (M.1 101 n = 0 → h = 0)) ∧
  ∀ j, 48 ≤ j → (M.2.1 31 n).toBitVec.getLsbD j = false
/-- how many of the first k volunteers are there in an hour -/
def zthere (M : zMem) (n j : Nat) : Nat → Nat
  | 0 => 0
  | v + 1 => zthere M n j v + (if (M.1 106 (8 * n + v)).toNatClampNeg.testBit j then 1 else 0)
/-- the hours kept of a night whose shifts were found -/
def gKept (nv ns : Nat) (M : zMem) : Prop := ∀ n, n < 200 → M.1 101 n = 1 → ∃ t, t < 64 ∧ M.1 107 n = nI t ∧ ∀ j, j < 6 → (t.testBit j = decide (2 ≤ zthere M n j nv)) ∧ (2 ≤ zthere M n j nv → ∃ v, v < nv ∧ (M.1 106 (8 * n + v)).toNatClampNeg.testBit j = true ∧ zhas0 ns M v n = true)
/-- the calls -/
def gCalls (nv c nc nst : Nat) (M : zMem) : Prop := nc ≤ 400 ∧ nst ≤ nc ∧ nc ≤ nst + 40 ∧ M.1 47 9 = nI nc ∧ M.1 69 60 = nI nc ∧ M.1 47 10 = nI nst ∧
  (∀ k, k < nc → M.1 48 k = M.1 112 k ∧ M.1 49 k = M.1 113 k ∧ M.1 50 k = M.1 114 k ∧ M.1 51 k = M.1 115 k ∧ M.1 52 k = M.1 116 k ∧ M.1 53 k = M.1 117 k ∧ M.1 54 k = M.1 118 k ∧ M.1 55 k = M.1 119 k ∧ M.1 56 k = M.1 120 k) ∧
  (∀ k, k < nc → (∃ n, n < 200 ∧ (k < nst → n < c) ∧ (nst ≤ k → n = c) ∧ M.1 48 k = nI n) ∧ (∃ n, n < 360 ∧ M.1 49 k = nI n) ∧ (∃ n, n < 20 ∧ M.1 50 k = nI n) ∧ (∃ n, n < 10 ∧ M.1 51 k = nI n) ∧ (∃ n, n < 8 ∧ M.1 52 k = nI n) ∧ (∃ n, 1 ≤ n ∧ n ≤ 90 ∧ M.1 53 k = nI n) ∧
    ∃ q, q < 4 ∧ M.1 54 k = nI q ∧ (q = 1 → ∃ v, v < nv ∧ M.1 55 k = nI v) ∧ (q ≠ 1 → M.1 55 k = -1) ∧ ((q = 1 ∨ q = 2) → ∃ m, m < 360 ∧ M.1 56 k = nI m) ∧ ((q = 0 ∨ q = 3) → M.1 56 k = -1) ∧ (nst ≤ k → M.1 100 c = 0 → q = 0))
def zsum (f : Nat → Nat) : Nat → Nat
  | 0 => 0
  | n + 1 => zsum f n + f n
/-- what the reference keeps of the calls besides: hard ones, minutes talked; care -/
def gHard (nc : Nat) (M : zMem) : Prop := (∀ v n, v < 8 → n < 200 → (M.1 97 (200 * v + n) = 0 ∨ M.1 97 (200 * v + n) = 1) ∧ (M.1 97 (200 * v + n) = 1 ↔ ∃ k, k < nc ∧ M.1 48 k = nI n ∧ M.1 55 k = nI v ∧ nI 8 ≤ M.1 51 k) ∧
    M.1 121 (200 * v + n) = nI (zsum (fun k => if M.1 48 k = nI n ∧ M.1 55 k = nI v then (M.1 53 k).toNatClampNeg else 0) nc)) ∧
  ∀ v, v < 8 → M.1 24 v = M.1 98 v ∧ ∃ n, n < 200 ∧ M.1 24 v = nI n
/-- the notes -/
def gNotes (nc nn : Nat) (M : zMem) : Prop := nn ≤ 60 ∧ M.1 65 3 = nI nn ∧ M.1 69 81 = nI nn ∧ ∀ k, k < nn → M.1 66 k = M.1 131 k ∧ M.1 67 k = M.1 132 k ∧ M.1 68 k = M.1 133 k ∧ ∃ j, j < nc ∧ M.1 66 k = nI j
