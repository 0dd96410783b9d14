/-! SHIFTS: what the first best of all ways is -/
def zacc (S : Nat → Bool) (w : Nat → Nat) : Nat → Nat → Nat → Nat → Nat → Nat → Nat × Nat × Nat × Nat
  | _, 0, one, two, sk, g => (one, two, sk, g)
  | i, d + 1, one, two, sk, g => zacc S w (i + 1) d (one ||| w i) (two ||| (one &&& w i)) (if S i = true then sk ||| w i else sk) (g + zpc (w i))
theorem zacc_cong {S : Nat → Bool} {w w' : Nat → Nat} : ∀ d i one two sk g, (∀ j, i ≤ j → j < i + d → w j = w' j) → zacc S w i d one two sk g = zacc S w' i d one two sk g
  | 0, i, one, two, sk, g, _ => rfl
  | d + 1, i, one, two, sk, g, h => by
    rw [zacc, zacc, h i (Nat.le_refl i) (by omega)]
    exact zacc_cong d (i + 1) _ _ _ _ (fun j h1 h2 => h j (by omega) (by omega))
/-- r is no worse than (K, g) -/
def zno (K g : Nat) (r : Nat × Nat × (Nat → Nat)) : Prop := K < r.1 ∨ (K = r.1 ∧ r.2.1 ≤ g)
theorem zno_iff {K g : Nat} {r : Nat × Nat × (Nat → Nat)} : zno K g r ↔ ¬ zbet K g (some r) = true := by
  unfold zno
  simp only [zbet, decide_eq_true_eq]
  omega
theorem zno_t {K g : Nat} {r s : Nat × Nat × (Nat → Nat)} (h1 : zno K g r) (h2 : zno r.1 r.2.1 s) : zno K g s := by
  unfold zno at *
  omega
theorem foldl_best {α : Type} {f : Option (Nat × Nat × (Nat → Nat)) → α → Option (Nat × Nat × (Nat → Nat))} {P T : α → (Nat × Nat × (Nat → Nat)) → Prop} (hT : ∀ a r s, T a r → zno r.1 r.2.1 s → T a s) (hf : ∀ b a, ∃ r, f b a = some r ∧ (b = some r ∨ P a r) ∧ (∀ b0, b = some b0 → zno b0.1 b0.2.1 r) ∧ T a r) : ∀ (l : List α) b, l ≠ [] → ∃ r, l.foldl f b = some r ∧ (b = some r ∨ ∃ a, a ∈ l ∧ P a r) ∧ (∀ b0, b = some b0 → zno b0.1 b0.2.1 r) ∧ ∀ a, a ∈ l → T a r
  | [], b, h => absurd rfl h
  | [a], b, _ => by
    obtain ⟨r, r1, r2, r3, r4⟩ := hf b a
    refine ⟨r, r1, ?_, r3, ?_⟩
    · rcases r2 with q | q
      · exact Or.inl q
      · exact Or.inr ⟨a, by simp, q⟩
    · intro x hx
      have : x = a := by simpa using hx
      subst this; exact r4
  | a :: a2 :: l, b, _ => by
    obtain ⟨r, r1, r2, r3, r4⟩ := hf b a
    obtain ⟨s, s1, s2, s3, s4⟩ := foldl_best hT hf (a2 :: l) (some r) (by simp)
    refine ⟨s, by rw [List.foldl_cons, r1]; exact s1, ?_, ?_, ?_⟩
    · rcases s2 with q | ⟨x, x1, x2⟩
      · have e : r = s := Option.some.inj q
        subst e
        rcases r2 with q | q
        · exact Or.inl q
        · exact Or.inr ⟨a, by simp, q⟩
      · exact Or.inr ⟨x, List.mem_cons.mpr (Or.inr x1), x2⟩
    · intro b0 h0
      exact zno_t (r3 b0 h0) (s3 r rfl)
    · intro x hx
      rcases List.mem_cons.mp hx with q | q
      · subst q; exact hT x r s r4 (s3 r rfl)
      · exact s4 x q
theorem zdfs_spec {H m : Nat → Nat} {S : Nat → Bool} : ∀ d i one two sk g pre b, ∃ r, zdfs (zoff H m S i d) i one two sk g pre b = some r ∧
    (b = some r ∨ (r.1 = zpc ((zacc S r.2.2 i d one two sk g).2.1 &&& (zacc S r.2.2 i d one two sk g).2.2.1) ∧ r.2.1 = (zacc S r.2.2 i d one two sk g).2.2.2 ∧ (∀ j, j < i → r.2.2 j = pre j) ∧ ∀ j, i ≤ j → j < i + d → r.2.2 j ∈ zch (H j) (m j))) ∧
    (∀ b0, b = some b0 → zno b0.1 b0.2.1 r) ∧ ∀ w : Nat → Nat, (∀ j, i ≤ j → j < i + d → w j ∈ zch (H j) (m j)) → zno (zpc ((zacc S w i d one two sk g).2.1 &&& (zacc S w i d one two sk g).2.2.1)) (zacc S w i d one two sk g).2.2.2 r
  | 0, i, one, two, sk, g, pre, b => by
    rw [zoff, zdfs]
    by_cases q : zbet (zpc (two &&& sk)) g b = true
    · refine ⟨_, if_pos q, Or.inr ⟨rfl, rfl, fun _ _ => rfl, fun j h1 h2 => by omega⟩, ?_, ?_⟩
      · intro b0 h0
        subst h0
        simp only [zbet, decide_eq_true_eq] at q
        unfold zno
        simp only
        omega
      · intro w _
        exact Or.inr ⟨rfl, Nat.le_refl _⟩
    · cases b with
      | none => exact absurd rfl q
      | some b =>
        refine ⟨b, if_neg q, Or.inl rfl, ?_, ?_⟩
        · intro b0 h0
          have : b = b0 := Option.some.inj h0
          subst this
          unfold zno; omega
        · intro w _
          exact zno_iff.mpr q
  | d + 1, i, one, two, sk, g, pre, b => by
    rw [zdfs_fold]
    have key := foldl_best (f := zfold H m S d i one two sk g pre) (P := fun c r => c ∈ zch (H i) (m i) → (r.1 = zpc ((zacc S r.2.2 i (d + 1) one two sk g).2.1 &&& (zacc S r.2.2 i (d + 1) one two sk g).2.2.1) ∧ r.2.1 = (zacc S r.2.2 i (d + 1) one two sk g).2.2.2 ∧ (∀ j, j < i → r.2.2 j = pre j) ∧ ∀ j, i ≤ j → j < i + (d + 1) → r.2.2 j ∈ zch (H j) (m j))) (T := fun c r => ∀ w : Nat → Nat, w i = c → (∀ j, i + 1 ≤ j → j < i + (d + 1) → w j ∈ zch (H j) (m j)) → zno (zpc ((zacc S w i (d + 1) one two sk g).2.1 &&& (zacc S w i (d + 1) one two sk g).2.2.1)) (zacc S w i (d + 1) one two sk g).2.2.2 r) (fun a r s h1 h2 w e1 e2 => zno_t (h1 w e1 e2) h2) (by
      intro b c
      obtain ⟨r, r1, r2, r3, r4⟩ := zdfs_spec (H := H) (m := m) (S := S) d (i + 1) (one ||| c) (two ||| (one &&& c)) (if S i = true then sk ||| c else sk) (g + zpc c) (fun j => if j = i then c else pre j) b
      refine ⟨r, r1, ?_, r3, ?_⟩
      · rcases r2 with q | ⟨q1, q2, q3, q4⟩
        · exact Or.inl q
        · refine Or.inr (fun hc => ?_)
          have ei : r.2.2 i = c := by rw [q3 i (by omega)]; simp
          rw [zacc, ei]
          refine ⟨q1, q2, fun j hj => ?_, fun j h1 h2 => ?_⟩
          · rw [q3 j (by omega), if_neg (by omega)]
          · by_cases e : j = i
            · subst e; rw [ei]; exact hc
            · exact q4 j (by omega) (by omega)
      · intro w e1 e2
        rw [zacc, e1]
        exact r4 w (fun j h1 h2 => e2 j h1 (by omega))) (zch (H i) (m i)) b (by simp [zch])
    obtain ⟨r, r1, r2, r3, r4⟩ := key
    refine ⟨r, r1, ?_, r3, ?_⟩
    · rcases r2 with q | ⟨c, c1, c2⟩
      · exact Or.inl q
      · exact Or.inr (c2 c1)
    · intro w hw
      exact r4 (w i) (hw i (Nat.le_refl i) (by omega)) w rfl (fun j h1 h2 => hw j (by omega) h2)
