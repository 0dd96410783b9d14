/-! READ: the machine of rules, pure -/
abbrev zTm := List (Nat × Nat)
abbrev zRe := Nat × List (Nat × Nat) × List (Nat × Nat)
abbrev zRl := Nat × Nat × List (Nat × Nat) × List (Nat × List (Nat × Nat) × List (Nat × Nat))
/-- state: where; rules done; wrong place; kind, number, term, relations of the rule begun; side, relation, left term; row and stack of the term begun -/
abbrev zSta := Nat × List zRl × Option Nat × Nat × Nat × zTm × List zRe × Nat × Nat × zTm × zTm × List Nat
def zrnk (x : Nat) : Nat := if x = 15 then 2 else if x = 13 ∨ x = 14 then 1 else 0
def zpop (r : Nat) : List Nat → List (Nat × Nat) × List Nat
  | [] => ([], [])
  | x :: K => if r ≤ zrnk x then ((x, 0) :: (zpop r K).1, (zpop r K).2) else ([], x :: K)
def zopn : List Nat → Nat
  | [] => 0
  | x :: K => zopn K + (if x = 11 then 1 else 0)
def zops : List Nat → Nat
  | [] => 0
  | x :: K => zops K + (if x = 11 then 0 else 1)
def zwk : List Nat → Option (Nat × Nat)
  | [] => some (0, 0)
  | x :: K => (zwk K).bind fun p => if x = 11 then some (p.1 + 1, 0) else if p.2 < zrnk x then some (p.1, zrnk x) else none
def zent (E : zTm) : Prop := ∀ x, x ∈ E → (x.1 = 2 ∧ x.2 < 10000) ∨ (x.1 = 3 ∧ x.2 < 6) ∨ ((x.1 = 13 ∨ x.1 = 14 ∨ x.1 = 15) ∧ x.2 = 0)
def zgre (x : zRe) : Prop := x.1 < 4 ∧ zterm x.2.1 ∧ zterm x.2.2
def zgru (x : zRl) : Prop := (x.1 = 4 ∨ x.1 = 5 ∨ x.1 = 6 ∨ x.1 = 7) ∧ x.2.1 < 10000 ∧ (x.1 = 4 → zterm x.2.2.1) ∧ ∀ y, y ∈ x.2.2.2 → zgre y
def zwr (w : Option Nat) (p : Nat) : Option Nat := some (w.getD p)
def zstp (st : Nat) (Rs : List zRl) (w : Option Nat) (k n : Nat) (L : zTm) (Cs : List zRe) (sd q : Nat) (A E : zTm) (K : List Nat) (c v p : Nat) : Nat ⊕ zSta :=
  if st = 0 then (if c = 4 ∨ c = 5 ∨ c = 6 ∨ c = 7 then (if Rs.length < 20 then .inr (if c = 4 then 3 else if c = 6 then 2 else 1, Rs, w, c, 0, [], [], 0, 0, [], [], []) else .inl 2) else .inl 1)
  else if st = 1 then (if c = 2 then .inr (2, Rs, (if (k = 7 ∧ 1 ≤ v ∧ v ≤ 60) ∨ (k ≠ 7 ∧ v ≤ 7) then w else zwr w p), k, v, [], [], 0, 0, [], [], []) else .inl 1)
  else if st = 2 then (if c = 8 then .inr (3, Rs, w, k, n, [], [], 1, 0, [], [], []) else .inl 1)
  else if st = 3 then (if c = 2 ∨ c = 3 then .inr (4, Rs, w, k, n, L, Cs, sd, q, A, E ++ [(c, v)], K) else if c = 11 then (if zopn K = 6 then .inl 2 else .inr (3, Rs, w, k, n, L, Cs, sd, q, A, E, 11 :: K)) else .inl 1)
  else if 0 < zrnk c then .inr (3, Rs, w, k, n, L, Cs, sd, q, A, E ++ (zpop (zrnk c) K).1, c :: (zpop (zrnk c) K).2)
  else if 0 < zopn K then (if c = 12 then .inr (4, Rs, w, k, n, L, Cs, sd, q, A, E ++ (zpop 1 K).1, (zpop 1 K).2.tail) else .inl 1)
  else if sd = 0 then (if c = 8 then .inr (3, Rs, w, k, n, E ++ (zpop 1 K).1, [], 1, 0, [], [], []) else if c = 10 then .inr (0, Rs ++ [(k, n, E ++ (zpop 1 K).1, [])], w, 0, 0, [], [], 0, 0, [], [], []) else .inl 1)
  else if sd = 1 then (if 16 ≤ c ∧ c ≤ 19 then .inr (3, Rs, w, k, n, L, Cs, 2, c, E ++ (zpop 1 K).1, [], []) else .inl 1)
  else if c = 9 then .inr (3, Rs, w, k, n, L, Cs ++ [(q - 16, A, E ++ (zpop 1 K).1)], 1, 0, [], [], []) else if c = 10 then .inr (0, Rs ++ [(k, n, L, Cs ++ [(q - 16, A, E ++ (zpop 1 K).1)])], w, 0, 0, [], [], 0, 0, [], [], []) else .inl 1
def zstS (S : zSta) (c v p : Nat) : Nat ⊕ zSta := zstp S.1 S.2.1 S.2.2.1 S.2.2.2.1 S.2.2.2.2.1 S.2.2.2.2.2.1 S.2.2.2.2.2.2.1 S.2.2.2.2.2.2.2.1 S.2.2.2.2.2.2.2.2.1 S.2.2.2.2.2.2.2.2.2.1 S.2.2.2.2.2.2.2.2.2.2.1 S.2.2.2.2.2.2.2.2.2.2.2 c v p
/-- a run from token t on -/
def zrun (T V P : Nat → Nat) : Nat → Nat → zSta → (Nat × Nat) ⊕ (List zRl × Option Nat)
  | 0, t, _ => .inl (2, t)
  | f + 1, t, S => if T t = 0 ∧ S.1 = 0 then .inr (S.2.1, S.2.2.1) else (zstS S (T t) (V t) (P t)).elim (fun x => .inl (x, t)) (fun S' => if t < 400 then zrun T V P f (t + 1) S' else .inl (2, t))
def zRn (T V P : Nat → Nat) (t : Nat) (S : zSta) : (Nat × Nat) ⊕ (List zRl × Option Nat) := zrun T V P (401 - t) t S
section RUN
variable {T V P : Nat → Nat} {t : Nat} {S Sn : zSta}
theorem zRn_end (ht : t ≤ 400) (h0 : T t = 0) (h1 : S.1 = 0) : zRn T V P t S = .inr (S.2.1, S.2.2.1) := by
  unfold zRn
  rw [show 401 - t = (400 - t) + 1 by omega, zrun, if_pos ⟨h0, h1⟩]
theorem zRn_bad (ht : t ≤ 400) (h0 : ¬ (T t = 0 ∧ S.1 = 0)) {x : Nat} (h1 : zstS S (T t) (V t) (P t) = .inl x) : zRn T V P t S = .inl (x, t) := by
  unfold zRn
  rw [show 401 - t = (400 - t) + 1 by omega, zrun, if_neg h0, h1]; rfl
theorem zRn_go (ht : t < 400) (h0 : ¬ (T t = 0 ∧ S.1 = 0)) (h1 : zstS S (T t) (V t) (P t) = .inr Sn) : zRn T V P t S = zRn T V P (t + 1) Sn := by
  unfold zRn
  rw [show 401 - t = (400 - t) + 1 by omega, zrun, if_neg h0, h1]
  show (if t < 400 then _ else _) = _
  rw [if_pos ht, show 401 - (t + 1) = 400 - t by omega]
theorem zRn_room (ht : t = 400) (h0 : ¬ (T t = 0 ∧ S.1 = 0)) (h1 : zstS S (T t) (V t) (P t) = .inr Sn) : zRn T V P t S = .inl (2, t) := by
  unfold zRn
  rw [show 401 - t = (400 - t) + 1 by omega, zrun, if_neg h0, h1]
  show (if t < 400 then _ else _) = _
  rw [if_neg (by omega)]
end RUN
theorem zrnk_2 (x : Nat) : zrnk x ≤ 2 ∧ (0 < zrnk x → x = 13 ∨ x = 14 ∨ x = 15) := by
  unfold zrnk
  by_cases h1 : x = 15
  · rw [if_pos h1]; omega
  · rw [if_neg h1]
    by_cases h2 : x = 13 ∨ x = 14
    · rw [if_pos h2]; omega
    · rw [if_neg h2]; omega
theorem zwk_f : ∀ (K : List Nat) (o r : Nat), zwk K = some (o, r) → o = zopn K ∧ r ≤ 2 ∧ zops K ≤ 2 * o + r ∧ K.length = o + zops K ∧ ∀ x, x ∈ K → x = 11 ∨ x = 13 ∨ x = 14 ∨ x = 15
  | [], o, r, h => by
    cases h
    exact ⟨rfl, by omega, by decide, rfl, fun x hx => absurd hx (List.not_mem_nil)⟩
  | x :: K, o, r, h => by
    rw [zwk] at h
    cases e : zwk K with
    | none => rw [e] at h; cases h
    | some p =>
      rw [e, zbd_some] at h
      obtain ⟨g1, g2, g3, g4, g5⟩ := zwk_f K p.1 p.2 e
      rw [zopn, zops, List.length_cons]
      by_cases q : x = 11
      · rw [if_pos q] at h
        have h1 := congrArg Prod.fst (Option.some.inj h)
        have h2 := congrArg Prod.snd (Option.some.inj h)
        simp only at h1 h2
        rw [if_pos q, if_pos q]
        refine ⟨by omega, by omega, by omega, by omega, fun y hy => ?_⟩
        rcases List.mem_cons.mp hy with z | z
        · left; rw [z]; exact q
        · exact g5 y z
      · rw [if_neg q] at h
        by_cases q2 : p.2 < zrnk x
        · rw [if_pos q2] at h
          have h1 := congrArg Prod.fst (Option.some.inj h)
          have h2 := congrArg Prod.snd (Option.some.inj h)
          simp only at h1 h2
          have h3 := zrnk_2 x
          rw [if_neg q, if_neg q]
          refine ⟨by omega, by omega, by omega, by omega, fun y hy => ?_⟩
          rcases List.mem_cons.mp hy with z | z
          · right; rw [z]; exact h3.2 (by omega)
          · exact g5 y z
        · rw [if_neg q2] at h; cases h
theorem zpop_f {ρ : Nat} (h0 : 1 ≤ ρ) : ∀ (K : List Nat) (o r : Nat), zwk K = some (o, r) → ∃ r', zwk (zpop ρ K).2 = some (o, r') ∧ r' < ρ ∧ zops K = zops (zpop ρ K).2 + (zpop ρ K).1.length ∧ (∀ y, y ∈ (zpop ρ K).1 → (y.1 = 13 ∨ y.1 = 14 ∨ y.1 = 15) ∧ y.2 = 0)
  | [], o, r, h => by
    cases h
    exact ⟨0, rfl, by omega, rfl, fun x hx => absurd hx (List.not_mem_nil)⟩
  | x :: K, o, r, h => by
    have hh := h
    rw [zwk] at h
    cases e : zwk K with
    | none => rw [e] at h; cases h
    | some p =>
      rw [e, zbd_some] at h
      rw [zpop]
      by_cases q : x = 11
      · rw [if_pos q] at h
        have h2 := congrArg Prod.snd (Option.some.inj h)
        simp only at h2
        rw [if_neg (by rw [q]; show ¬ ρ ≤ 0; omega)]
        exact ⟨r, hh, by omega, rfl, fun x hx => absurd hx (List.not_mem_nil)⟩
      · rw [if_neg q] at h
        by_cases q2 : p.2 < zrnk x
        · rw [if_pos q2] at h
          have h1 := congrArg Prod.fst (Option.some.inj h)
          have h2 := congrArg Prod.snd (Option.some.inj h)
          simp only at h1 h2
          by_cases q3 : ρ ≤ zrnk x
          · rw [if_pos q3]
            obtain ⟨r', g1, g2, g3, g4⟩ := zpop_f h0 K p.1 p.2 e
            refine ⟨r', by rw [← h1]; exact g1, g2, ?_, fun y hy => ?_⟩
            · show zops (x :: K) = zops (zpop ρ K).2 + ((x, 0) :: (zpop ρ K).1).length
              rw [zops, if_neg q, g3, List.length_cons]; omega
            · rcases List.mem_cons.mp hy with z | z
              · rw [z]; exact ⟨(zrnk_2 x).2 (by omega), rfl⟩
              · exact g4 y z
          · rw [if_neg q3]
            exact ⟨r, hh, by omega, rfl, fun x hx => absurd hx (List.not_mem_nil)⟩
        · rw [if_neg q2] at h; cases h
theorem zwk_0 {K : List Nat} {o : Nat} (h : zwk K = some (o, 0)) : (K = [] ∧ o = 0) ∨ ∃ K' r, K = 11 :: K' ∧ 0 < o ∧ zwk K' = some (o - 1, r) := by
  cases K with
  | nil => cases h; exact Or.inl ⟨rfl, rfl⟩
  | cons x K =>
    rw [zwk] at h
    cases e : zwk K with
    | none => rw [e] at h; cases h
    | some p =>
      rw [e, zbd_some] at h
      by_cases q : x = 11
      · rw [if_pos q] at h
        have h1 := congrArg Prod.fst (Option.some.inj h)
        simp only at h1
        exact Or.inr ⟨K, p.2, by rw [q], by omega, by rw [e, ← h1]; rfl⟩
      · rw [if_neg q] at h
        by_cases q2 : p.2 < zrnk x
        · rw [if_pos q2] at h
          have h2 := congrArg Prod.snd (Option.some.inj h)
          simp only at h2
          omega
        · rw [if_neg q2] at h; cases h
theorem zdp_app : ∀ (E F : zTm) (d : Nat), zdp (E ++ F) d = (zdp E d).bind (zdp F)
  | [], F, d => rfl
  | x :: E, F, d => by
    rw [List.cons_append, zdp, zdp]
    by_cases h1 : x.1 = 2 ∨ x.1 = 3
    · rw [if_pos h1, if_pos h1]
      by_cases h2 : d < 16
      · rw [if_pos h2, if_pos h2, zdp_app E F]
      · rw [if_neg h2, if_neg h2]; rfl
    · rw [if_neg h1, if_neg h1]
      by_cases h2 : 2 ≤ d
      · rw [if_pos h2, if_pos h2, zdp_app E F]
      · rw [if_neg h2, if_neg h2]; rfl
theorem zdp_ops : ∀ (F : zTm) (d : Nat), (∀ y, y ∈ F → (y.1 = 13 ∨ y.1 = 14 ∨ y.1 = 15) ∧ y.2 = 0) → F.length < d → zdp F d = some (d - F.length)
  | [], d, _, _ => rfl
  | x :: F, d, h, hd => by
    have h1 := (h x List.mem_cons_self).1
    rw [List.length_cons] at hd ⊢
    rw [zdp, if_neg (by omega), if_pos (by omega), zdp_ops F (d - 1) (fun y hy => h y (List.mem_cons_of_mem _ hy)) (by omega)]
    congr 1; omega
theorem zent_app {E F : zTm} (h1 : zent E) (h2 : zent F) : zent (E ++ F) := by
  intro x hx
  rcases List.mem_append.mp hx with z | z
  · exact h1 x z
  · exact h2 x z
theorem zent_ops {F : zTm} (h : ∀ y, y ∈ F → (y.1 = 13 ∨ y.1 = 14 ∨ y.1 = 15) ∧ y.2 = 0) : zent F := fun x hx => Or.inr (Or.inr (h x hx))
