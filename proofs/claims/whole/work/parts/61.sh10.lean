/-! SHIFTS, the reference: all ways, as an odometer runs -/
noncomputable def zwn (N : Nat) (M : zMem) : Nat → Nat → Nat
  | _, 0 => 1
  | o, d + 1 => (zch (zHo N M o) (zmo M o)).length * zwn N M (o + 1) d
theorem zacc_snoc {S : Nat → Bool} {w : Nat → Nat} : ∀ d i one two sk g, zacc S w i (d + 1) one two sk g = ((zacc S w i d one two sk g).1 ||| w (i + d), (zacc S w i d one two sk g).2.1 ||| ((zacc S w i d one two sk g).1 &&& w (i + d)), (if S (i + d) = true then (zacc S w i d one two sk g).2.2.1 ||| w (i + d) else (zacc S w i d one two sk g).2.2.1), (zacc S w i d one two sk g).2.2.2 + zpc (w (i + d)))
  | 0, i, one, two, sk, g => rfl
  | d + 1, i, one, two, sk, g => by
    rw [zacc, zacc_snoc d (i + 1), zacc, show i + 1 + d = i + (d + 1) by omega]
/-- the digits of the odometer: a ahead of o, 0 from o on -/
def zdg (a : Nat → Nat) (o : Nat) (j : Nat) : Nat := if j < o then a j else 0
theorem zdg_in {N no : Nat} {M : zMem} {a : Nat → Nat} {o : Nat} (h : ∀ j, j < o → j < no → a j < (zch (zHo N M j) (zmo M j)).length) : zin2 N no M (zdg a o) := by
  intro j hj
  unfold zdg
  split
  · exact h j ‹_› hj
  · simp [zch]
def zS3 (no : Nat) (S : Nat → Bool) (pre : Nat → Nat) (o : Nat) (R : List (List Nat × Bool)) (b : Option (Nat × Nat × (Nat → Nat))) : Option (Nat × Nat × (Nat → Nat)) :=
  zdfs R o (zacc S pre 0 o 0 0 0 0).1 (zacc S pre 0 o 0 0 0 0).2.1 (zacc S pre 0 o 0 0 0 0).2.2.1 (zacc S pre 0 o 0 0 0 0).2.2.2 pre b
theorem zS3_step {no : Nat} {S : Nat → Bool} {pre : Nat → Nat} {o c : Nat} {R : List (List Nat × Bool)} {b : Option (Nat × Nat × (Nat → Nat))} : zS3 no S (fun j => if j = o then c else pre j) (o + 1) R b = zdfs R (o + 1) ((zacc S pre 0 o 0 0 0 0).1 ||| c) ((zacc S pre 0 o 0 0 0 0).2.1 ||| ((zacc S pre 0 o 0 0 0 0).1 &&& c)) (if S o = true then (zacc S pre 0 o 0 0 0 0).2.2.1 ||| c else (zacc S pre 0 o 0 0 0 0).2.2.1) ((zacc S pre 0 o 0 0 0 0).2.2.2 + zpc c) (fun j => if j = o then c else pre j) b := by
  have e : zacc S (fun j => if j = o then c else pre j) 0 o 0 0 0 0 = zacc S pre 0 o 0 0 0 0 := zacc_cong o 0 0 0 0 0 (fun j _ hj => by rw [if_neg (by omega)])
  unfold zS3
  rw [zacc_snoc, e, Nat.zero_add]
  simp
theorem m_odo {N no T : Nat} {M : zMem} {S : Nat → Bool} (h0 : no ≤ 5) (hN : 10 < N) (hoff : ∀ k, k < no → zHo N M k < 64 ∧ 1 ≤ zmo M k ∧ zmo M k ≤ 3) (hT : T < 32) (hTS : ∀ j, j < no → T.testBit j = S j) :
    ∀ d o n (a : Nat → Nat) (pre : Nat → Nat) b (W : zMem), o + d = no → (∀ j, j < o → a j < (zch (zHo N M j) (zmo M j)).length) → zat N no M W (zdg a o) → (∀ j, j < o → pre j = zwv N M a j) → zbR N no M W b → (∀ j, o ≤ j → pre j = 0) →
      ∃ X f, o < f ∧ fX12_shifts_L117 N (n + zwn N M o d) (nI no) (nI T) (zx3 b) (zx4 b) 1 W = fX12_shifts_L237 N (fX12_shifts_L117 N n) f (nI no) (nI T) (zx3 (zS3 no S pre o (zoff (zHo N M) (zmo M) S o d) b)) (zx4 (zS3 no S pre o (zoff (zHo N M) (zmo M) S o d) b)) (nI o - 1) X ∧ zat N no M X (zdg a o) ∧ zbR N no M X (zS3 no S pre o (zoff (zHo N M) (zmo M) S o d) b)
  | 0, o, n, a, pre, b, W, ho, ha, hat, hpre, hb, hz => by
    have e : o = no := by omega
    subst e
    obtain ⟨X, x1, x2, x3⟩ := m_leaf (n := n) h0 hN hoff hat (zdg_in (fun j hj _ => ha j hj)) hT hTS hb (pre := pre) (fun j hj => by
      rw [hpre j hj]
      unfold zwv zdg
      rw [if_pos hj])
    exact ⟨X, N, by omega, x1, x2, x3⟩
  | d + 1, o, n, a, pre, b, W, ho, ha, hat, hpre, hb, hz => by
    have hlen := zch_len (h := zHo N M o) (hoff o (by omega)).2.2
    -- the digit at o runs from j on
    have inner : ∀ k j n b (W : zMem), j + k + 1 = (zch (zHo N M o) (zmo M o)).length → zat N no M W (zdg (fun i => if i = o then j else a i) (o + 1)) → zbR N no M W b →
        ∃ X f, o < f ∧ fX12_shifts_L117 N (n + (k + 1) * zwn N M (o + 1) d) (nI no) (nI T) (zx3 b) (zx4 b) 1 W = fX12_shifts_L237 N (fX12_shifts_L117 N n) f (nI no) (nI T) (zx3 (((zch (zHo N M o) (zmo M o)).drop j).foldl (fun b c => zS3 no S (fun i => if i = o then c else pre i) (o + 1) (zoff (zHo N M) (zmo M) S (o + 1) d) b) b)) (zx4 (((zch (zHo N M o) (zmo M o)).drop j).foldl (fun b c => zS3 no S (fun i => if i = o then c else pre i) (o + 1) (zoff (zHo N M) (zmo M) S (o + 1) d) b) b)) (nI o - 1) X ∧ zat N no M X (zdg a o) ∧ zbR N no M X (((zch (zHo N M o) (zmo M o)).drop j).foldl (fun b c => zS3 no S (fun i => if i = o then c else pre i) (o + 1) (zoff (zHo N M) (zmo M) S (o + 1) d) b) b) := by
      intro k
      induction k with
      | zero =>
        intro j n b W hj hat hb
        have hjl : j < (zch (zHo N M o) (zmo M o)).length := by omega
        obtain ⟨X, f, f1, x1, x2, x3⟩ := m_odo h0 hN hoff hT hTS d (o + 1) n (fun i => if i = o then j else a i) (fun i => if i = o then (zch (zHo N M o) (zmo M o)).getD j 0 else pre i) b W (by omega) (by
          intro i hi
          try simp only
          by_cases e : i = o
          · subst e; rw [if_pos rfl]; exact hjl
          · rw [if_neg e]; exact ha i (by omega)) hat (by
          intro i hi
          unfold zwv
          try simp only
          by_cases e : i = o
          · subst e; rw [if_pos rfl, if_pos rfl]
          · rw [if_neg e, if_neg e]; exact hpre i (by omega)) hb (by
          intro i hi
          try simp only
          rw [if_neg (by omega)]; exact hz i (by omega))
        have hdrop : (zch (zHo N M o) (zmo M o)).drop j = [(zch (zHo N M o) (zmo M o)).getD j 0] := by
          rw [List.drop_eq_getElem_cons hjl, List.drop_eq_nil_of_le (by omega), List.getD_eq_getElem?_getD, List.getElem?_eq_getElem hjl]
          rfl
        rw [hdrop, List.foldl_cons, List.foldl_nil, Nat.zero_add, Nat.one_mul]
        obtain ⟨f', rfl⟩ : ∃ f', f = f' + 1 := ⟨f - 1, by omega⟩
        have hx : nI (o + 1) - 1 = nI o := by rw [show (1 : Int32) = nI 1 from rfl, z_sub (by omega), Nat.add_sub_cancel]
        obtain ⟨y1, y2, y3⟩ := id x2
        have a110 : X.1 110 o = nI j := by rw [y3 o (by omega)]; unfold zdg; rw [if_pos (by omega)]; simp
        have a108 : X.1 108 o = nI (zch (zHo N M o) (zmo M o)).length := (y2 o (by omega)).1
        refine ⟨zpI X 110 o 0, f', by omega, ?_, ⟨zag_p y1 (by omega) (by omega), y2, ?_⟩, ?_⟩
        · rw [x1, fX12_shifts_L237, hx, if_neg (nI_pos (by omega)), z_ldI (by omega) (by omega), zbd_some, z_ldI (by omega) (by omega), zbd_some, a110, a108, show (1 : Int32) = nI 1 from rfl, z_sub (by omega), if_pos (by congr 1; omega), z_stI (by omega) (by omega), zbd_some, zlet_eq, ← Int32.sub_eq_add_neg]
        · intro i hi
          rw [zpI_1]
          by_cases e : i = o
          · rw [if_pos ⟨rfl, e⟩]; unfold zdg; rw [if_neg (by omega)]; rfl
          · rw [if_neg (fun q => e q.2), y3 i hi]
            unfold zdg
            by_cases q : i < o
            · rw [if_pos (by omega), if_pos q]; dsimp only; rw [if_neg e]
            · rw [if_neg (by omega), if_neg q]
        · revert x3
          generalize zS3 no S _ _ _ _ = b'
          intro x3
          cases b' with
          | none => trivial
          | some r => exact x3
      | succ k ih =>
        intro j n b W hj hat hb
        have hjl : j < (zch (zHo N M o) (zmo M o)).length := by omega
        have hfuel : n + (k + 1 + 1) * zwn N M (o + 1) d = (n + (k + 1) * zwn N M (o + 1) d) + zwn N M (o + 1) d := by rw [Nat.succ_mul]; omega
        obtain ⟨X, f, f1, x1, x2, x3⟩ := m_odo h0 hN hoff hT hTS d (o + 1) (n + (k + 1) * zwn N M (o + 1) d) (fun i => if i = o then j else a i) (fun i => if i = o then (zch (zHo N M o) (zmo M o)).getD j 0 else pre i) b W (by omega) (by
          intro i hi
          try simp only
          by_cases e : i = o
          · subst e; rw [if_pos rfl]; exact hjl
          · rw [if_neg e]; exact ha i (by omega)) hat (by
          intro i hi
          unfold zwv
          try simp only
          by_cases e : i = o
          · subst e; rw [if_pos rfl, if_pos rfl]
          · rw [if_neg e, if_neg e]; exact hpre i (by omega)) hb (by
          intro i hi
          try simp only
          rw [if_neg (by omega)]; exact hz i (by omega))
        have hdrop : (zch (zHo N M o) (zmo M o)).drop j = (zch (zHo N M o) (zmo M o)).getD j 0 :: (zch (zHo N M o) (zmo M o)).drop (j + 1) := by
          rw [List.drop_eq_getElem_cons hjl, List.getD_eq_getElem?_getD, List.getElem?_eq_getElem hjl]
          rfl
        rw [hdrop, List.foldl_cons, hfuel]
        obtain ⟨f', rfl⟩ : ∃ f', f = f' + 1 := ⟨f - 1, by omega⟩
        have hx : nI (o + 1) - 1 = nI o := by rw [show (1 : Int32) = nI 1 from rfl, z_sub (by omega), Nat.add_sub_cancel]
        obtain ⟨y1, y2, y3⟩ := id x2
        have a110 : X.1 110 o = nI j := by rw [y3 o (by omega)]; unfold zdg; rw [if_pos (by omega)]; simp
        have a108 : X.1 108 o = nI (zch (zHo N M o) (zmo M o)).length := (y2 o (by omega)).1
        have hgo := ih (j + 1) n (zS3 no S (fun i => if i = o then (zch (zHo N M o) (zmo M o)).getD j 0 else pre i) (o + 1) (zoff (zHo N M) (zmo M) S (o + 1) d) b) (zpI X 110 o (nI (j + 1))) (by omega) ⟨zag_p y1 (by omega) (by omega), y2, by
          intro i hi
          rw [zpI_1]
          by_cases e : i = o
          · rw [if_pos ⟨rfl, e⟩, e]; unfold zdg; rw [if_pos (by omega)]; simp
          · rw [if_neg (fun q => e q.2), y3 i hi]
            unfold zdg
            by_cases q : i < o + 1
            · rw [if_pos q, if_pos q]; dsimp only; rw [if_neg e, if_neg e]
            · rw [if_neg q, if_neg q]⟩ (by
          revert x3
          generalize zS3 no S _ _ _ _ = b'
          intro x3
          cases b' with
          | none => trivial
          | some r => exact x3)
        obtain ⟨Y, f2, g1, g2, g3, g4⟩ := hgo
        refine ⟨Y, f2, g1, ?_, g3, g4⟩
        rw [x1, fX12_shifts_L237, hx, if_neg (nI_pos (by omega)), z_ldI (by omega) (by omega), zbd_some, z_ldI (by omega) (by omega), zbd_some, a110, a108, show (1 : Int32) = nI 1 from rfl, z_sub (by omega), if_neg (by rw [z_eq (by omega) (by omega)]; omega)]
        unfold fX12_shifts_L275 fX12_shifts_L285 fX12_shifts_L303
        rw [if_neg (nI_pos (by omega)), if_neg (by decide), z_ldI (by omega) (by omega), zbd_some, a110, nI_1, z_stI (by omega) (by omega), zbd_some]
        exact g2
    have hlen1 : 1 ≤ (zch (zHo N M o) (zmo M o)).length := by simp [zch]
    obtain ⟨X, f, f1, x1, x2, x3⟩ := inner ((zch (zHo N M o) (zmo M o)).length - 1) 0 n b W (by omega) ⟨hat.1, hat.2.1, by
      intro i hi
      rw [hat.2.2 i hi]
      unfold zdg
      by_cases q : i < o
      · rw [if_pos q, if_pos (by omega)]; dsimp only; rw [if_neg (by omega)]
      · rw [if_neg q]
        by_cases e : i = o
        · rw [if_pos (by omega)]; dsimp only; rw [if_pos e]
        · rw [if_neg (by omega)]⟩ hb
    have hw : zwn N M o (d + 1) = ((zch (zHo N M o) (zmo M o)).length - 1 + 1) * zwn N M (o + 1) d := by rw [zwn, Nat.sub_add_cancel hlen1]
    rw [List.drop_zero] at x1 x3
    have efold : ∀ b, zS3 no S pre o (zoff (zHo N M) (zmo M) S o (d + 1)) b = (zch (zHo N M o) (zmo M o)).foldl (fun b c => zS3 no S (fun i => if i = o then c else pre i) (o + 1) (zoff (zHo N M) (zmo M) S (o + 1) d) b) b := by
      intro b
      have : (fun b c => zS3 no S (fun i => if i = o then c else pre i) (o + 1) (zoff (zHo N M) (zmo M) S (o + 1) d) b) = zfold (zHo N M) (zmo M) S d o (zacc S pre 0 o 0 0 0 0).1 (zacc S pre 0 o 0 0 0 0).2.1 (zacc S pre 0 o 0 0 0 0).2.2.1 (zacc S pre 0 o 0 0 0 0).2.2.2 pre := by
        funext b c
        rw [zS3_step]
        rfl
      rw [this]
      rfl
    rw [hw, efold]
    exact ⟨X, f, f1, x1, x2, x3⟩
