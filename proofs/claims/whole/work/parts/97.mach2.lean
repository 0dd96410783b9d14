/-! READ: what holds of the machine's states -/
def zPIc (st : Nat) (Rs : List zRl) (w : Option Nat) (k n : Nat) (L : zTm) (Cs : List zRe) (sd q : Nat) (A E : zTm) (K : List Nat) : Prop :=
  st ≤ 4 ∧ sd ≤ 2 ∧ Rs.length ≤ 20 ∧ (st ≠ 0 → Rs.length < 20 ∧ (k = 4 ∨ k = 5 ∨ k = 6 ∨ k = 7) ∧ n < 10000) ∧ (st < 3 → L = [] ∧ Cs = [] ∧ A = [] ∧ E = [] ∧ K = [] ∧ sd = 0) ∧ (st = 1 ∨ st = 2 → k ≠ 4) ∧ (sd = 0 → L = [] ∧ Cs = []) ∧ (sd < 2 → A = []) ∧ (0 < sd → k = 4 → zterm L) ∧ (sd = 2 → zterm A ∧ 16 ≤ q ∧ q ≤ 19) ∧ (∀ x, x ∈ Cs → zgre x) ∧ (∀ x, x ∈ Rs → zgru x) ∧ (∃ r, zwk K = some (zopn K, r)) ∧ zopn K ≤ 6 ∧ zdp E 0 = some (zops K + (if st = 4 then 1 else 0)) ∧ zent E ∧ ∀ p, w = some p → p ≤ 2000
def zPI (S : zSta) : Prop := zPIc S.1 S.2.1 S.2.2.1 S.2.2.2.1 S.2.2.2.2.1 S.2.2.2.2.2.1 S.2.2.2.2.2.2.1 S.2.2.2.2.2.2.2.1 S.2.2.2.2.2.2.2.2.1 S.2.2.2.2.2.2.2.2.2.1 S.2.2.2.2.2.2.2.2.2.2.1 S.2.2.2.2.2.2.2.2.2.2.2
theorem z_popd {ρ : Nat} (h0 : 1 ≤ ρ) {K : List Nat} {o r : Nat} (hK : zwk K = some (o, r)) {E : zTm} (hd : zdp E 0 = some (zops K + 1)) (he : zent E) : zdp (E ++ (zpop ρ K).1) 0 = some (zops (zpop ρ K).2 + 1) ∧ zent (E ++ (zpop ρ K).1) := by
  obtain ⟨r', g1, g2, g3, g4⟩ := zpop_f h0 K o r hK
  refine ⟨?_, zent_app he (zent_ops g4)⟩
  rw [zdp_app, hd, zbd_some, zdp_ops _ _ g4 (by omega)]
  congr 1; omega
theorem z_fin {K : List Nat} {r : Nat} (hK : zwk K = some (zopn K, r)) (h0 : zopn K = 0) {E : zTm} (hd : zdp E 0 = some (zops K + 1)) (he : zent E) : (zpop 1 K).2 = [] ∧ zterm (E ++ (zpop 1 K).1) := by
  obtain ⟨r', g1, g2, g3, g4⟩ := zpop_f (Nat.le_refl 1) K _ r hK
  have e0 : r' = 0 := by omega
  rw [e0, h0] at g1
  have e1 : (zpop 1 K).2 = [] := by
    rcases zwk_0 g1 with ⟨z, -⟩ | ⟨K2, r2, z1, z2, z3⟩
    · exact z
    · omega
  obtain ⟨d1, d2⟩ := z_popd (Nat.le_refl 1) hK hd he
  refine ⟨e1, ?_, d2⟩
  rw [d1, e1]; rfl
theorem zPI_step {st : Nat} {Rs : List zRl} {w : Option Nat} {k n : Nat} {L : zTm} {Cs : List zRe} {sd q : Nat} {A E : zTm} {K : List Nat} {c v p : Nat} {Sn : zSta} (h : zPIc st Rs w k n L Cs sd q A E K) (hc2 : c = 2 → v < 10000) (hc3 : c = 3 → v < 6) (hp : p ≤ 2000) (hs : zstp st Rs w k n L Cs sd q A E K c v p = .inr Sn) : zPI Sn := by
  obtain ⟨u1, u2, u3, u4, u5, u6, u7, u8, u9, u10, u11, u12, ⟨r, u13⟩, u14, u15, u16, u17⟩ := h
  unfold zstp at hs
  by_cases s0 : st = 0
  · rw [if_pos s0] at hs
    by_cases c1 : c = 4 ∨ c = 5 ∨ c = 6 ∨ c = 7
    · rw [if_pos c1] at hs
      by_cases c2 : Rs.length < 20
      · rw [if_pos c2] at hs
        cases hs
        show zPIc (if c = 4 then 3 else if c = 6 then 2 else 1) Rs w c 0 [] [] 0 0 [] [] []
        by_cases c4 : c = 4
        · rw [if_pos c4]
          exact ⟨by omega, by omega, u3, fun _ => ⟨c2, c1, by omega⟩, fun z => absurd z (by omega), fun z => absurd z (by omega), fun _ => ⟨rfl, rfl⟩, fun _ => rfl, fun z => absurd z (by omega), fun z => absurd z (by omega), fun x hx => absurd hx (List.not_mem_nil), u12, ⟨0, rfl⟩, by decide, rfl, fun x hx => absurd hx (List.not_mem_nil), u17⟩
        · rw [if_neg c4]
          by_cases c6 : c = 6
          · rw [if_pos c6]
            exact ⟨by omega, by omega, u3, fun _ => ⟨c2, c1, by omega⟩, fun _ => ⟨rfl, rfl, rfl, rfl, rfl, rfl⟩, fun _ => c4, fun _ => ⟨rfl, rfl⟩, fun _ => rfl, fun z => absurd z (by omega), fun z => absurd z (by omega), fun x hx => absurd hx (List.not_mem_nil), u12, ⟨0, rfl⟩, by decide, rfl, fun x hx => absurd hx (List.not_mem_nil), u17⟩
          · rw [if_neg c6]
            exact ⟨by omega, by omega, u3, fun _ => ⟨c2, c1, by omega⟩, fun _ => ⟨rfl, rfl, rfl, rfl, rfl, rfl⟩, fun _ => c4, fun _ => ⟨rfl, rfl⟩, fun _ => rfl, fun z => absurd z (by omega), fun z => absurd z (by omega), fun x hx => absurd hx (List.not_mem_nil), u12, ⟨0, rfl⟩, by decide, rfl, fun x hx => absurd hx (List.not_mem_nil), u17⟩
      · rw [if_neg c2] at hs; cases hs
    · rw [if_neg c1] at hs; cases hs
  rw [if_neg s0] at hs
  obtain ⟨v1, v2, v3⟩ := u4 s0
  by_cases s1 : st = 1
  · rw [if_pos s1] at hs
    by_cases c1 : c = 2
    · rw [if_pos c1] at hs
      cases hs
      show zPIc 2 Rs _ k v [] [] 0 0 [] [] []
      refine ⟨by omega, by omega, u3, fun _ => ⟨v1, v2, hc2 c1⟩, fun _ => ⟨rfl, rfl, rfl, rfl, rfl, rfl⟩, fun _ => u6 (Or.inl s1), fun _ => ⟨rfl, rfl⟩, fun _ => rfl, fun z => absurd z (by omega), fun z => absurd z (by omega), fun x hx => absurd hx (List.not_mem_nil), u12, ⟨0, rfl⟩, by decide, rfl, fun x hx => absurd hx (List.not_mem_nil), fun y hy => ?_⟩
      by_cases b : (k = 7 ∧ 1 ≤ v ∧ v ≤ 60) ∨ (k ≠ 7 ∧ v ≤ 7)
      · rw [if_pos b] at hy; exact u17 y hy
      · rw [if_neg b] at hy
        unfold zwr at hy
        have hy := Option.some.inj hy
        cases w with
        | none => simp at hy; omega
        | some y0 => simp at hy; exact hy ▸ u17 y0 rfl
    · rw [if_neg c1] at hs; cases hs
  rw [if_neg s1] at hs
  by_cases s2 : st = 2
  · rw [if_pos s2] at hs
    by_cases c1 : c = 8
    · rw [if_pos c1] at hs
      cases hs
      show zPIc 3 Rs w k n [] [] 1 0 [] [] []
      exact ⟨by omega, by omega, u3, fun _ => ⟨v1, v2, v3⟩, fun z => absurd z (by omega), fun z => absurd z (by omega), fun z => absurd z (by omega), fun _ => rfl, fun _ z => absurd z (u6 (Or.inr s2)), fun z => absurd z (by omega), fun x hx => absurd hx (List.not_mem_nil), u12, ⟨0, rfl⟩, by decide, rfl, fun x hx => absurd hx (List.not_mem_nil), u17⟩
    · rw [if_neg c1] at hs; cases hs
  rw [if_neg s2] at hs
  obtain ⟨w1, w2, w3, w4, w5⟩ := zwk_f K _ _ u13
  by_cases s3 : st = 3
  · rw [if_pos s3] at hs
    rw [if_neg (by omega), Nat.add_zero] at u15
    by_cases c1 : c = 2 ∨ c = 3
    · rw [if_pos c1] at hs
      cases hs
      show zPIc 4 Rs w k n L Cs sd q A (E ++ [(c, v)]) K
      refine ⟨by omega, u2, u3, fun _ => ⟨v1, v2, v3⟩, fun z => absurd z (by omega), fun z => absurd z (by omega), u7, u8, u9, u10, u11, u12, ⟨r, u13⟩, u14, ?_, ?_, u17⟩
      · rw [zdp_app, u15, zbd_some, zdp, if_pos c1, if_pos (by omega), if_pos rfl]; rfl
      · refine zent_app u16 (fun x hx => ?_)
        rw [List.mem_singleton] at hx
        rw [hx]
        rcases c1 with z | z
        · exact Or.inl ⟨z, hc2 z⟩
        · exact Or.inr (Or.inl ⟨z, hc3 z⟩)
    · rw [if_neg c1] at hs
      by_cases c2 : c = 11
      · rw [if_pos c2] at hs
        by_cases c3 : zopn K = 6
        · rw [if_pos c3] at hs; cases hs
        · rw [if_neg c3] at hs
          cases hs
          show zPIc 3 Rs w k n L Cs sd q A E (11 :: K)
          refine ⟨by omega, u2, u3, fun _ => ⟨v1, v2, v3⟩, fun z => absurd z (by omega), fun z => absurd z (by omega), u7, u8, u9, u10, u11, u12, ⟨0, ?_⟩, ?_, ?_, u16, u17⟩
          · rw [zwk, u13, zbd_some, if_pos rfl, zopn, if_pos rfl]
          · rw [zopn, if_pos rfl]; omega
          · rw [u15, zops, if_pos rfl]; rfl
      · rw [if_neg c2] at hs; cases hs
  rw [if_neg s3] at hs
  have s4 : st = 4 := by omega
  rw [if_pos s4] at u15
  by_cases c1 : 0 < zrnk c
  · rw [if_pos c1] at hs
    cases hs
    show zPIc 3 Rs w k n L Cs sd q A (E ++ (zpop (zrnk c) K).1) (c :: (zpop (zrnk c) K).2)
    obtain ⟨d1, d2⟩ := z_popd (ρ := zrnk c) (by omega) u13 u15 u16
    obtain ⟨r', g1, g2, g3, g4⟩ := zpop_f (ρ := zrnk c) (by omega) K _ r u13
    have cne : c ≠ 11 := by have := (zrnk_2 c).2 c1; omega
    have e1 := (zwk_f _ _ _ g1).1
    refine ⟨by omega, u2, u3, fun _ => ⟨v1, v2, v3⟩, fun z => absurd z (by omega), fun z => absurd z (by omega), u7, u8, u9, u10, u11, u12, ⟨zrnk c, ?_⟩, ?_, ?_, d2, u17⟩
    · rw [zwk, g1, zbd_some, if_neg cne, if_pos g2, zopn, if_neg cne, ← e1]
      rfl
    · rw [zopn, if_neg cne, ← e1]; omega
    · rw [d1, zops, if_neg cne, if_neg (by omega)]
  rw [if_neg c1] at hs
  by_cases c2 : 0 < zopn K
  · rw [if_pos c2] at hs
    by_cases c3 : c = 12
    · rw [if_pos c3] at hs
      cases hs
      show zPIc 4 Rs w k n L Cs sd q A (E ++ (zpop 1 K).1) (zpop 1 K).2.tail
      obtain ⟨d1, d2⟩ := z_popd (Nat.le_refl 1) u13 u15 u16
      obtain ⟨r', g1, g2, g3, g4⟩ := zpop_f (Nat.le_refl 1) K _ r u13
      have e0 : r' = 0 := by omega
      rw [e0] at g1
      rcases zwk_0 g1 with ⟨z1, z2⟩ | ⟨K2, r2, z1, z2, z3⟩
      · omega
      · rw [z1] at d1 ⊢
        have e2 := (zwk_f _ _ _ z3).1
        refine ⟨by omega, u2, u3, fun _ => ⟨v1, v2, v3⟩, fun z => absurd z (by omega), fun z => absurd z (by omega), u7, u8, u9, u10, u11, u12, ⟨r2, ?_⟩, ?_, ?_, d2, u17⟩
        · rw [List.tail_cons, z3, e2]
        · rw [List.tail_cons, ← e2]; omega
        · rw [d1, List.tail_cons, zops, if_pos rfl, if_pos rfl]
    · rw [if_neg c3] at hs; cases hs
  rw [if_neg c2] at hs
  obtain ⟨f1, f2⟩ := z_fin u13 (by omega) u15 u16
  by_cases d0 : sd = 0
  · rw [if_pos d0] at hs
    by_cases c3 : c = 8
    · rw [if_pos c3] at hs
      cases hs
      show zPIc 3 Rs w k n (E ++ (zpop 1 K).1) [] 1 0 [] [] []
      exact ⟨by omega, by omega, u3, fun _ => ⟨v1, v2, v3⟩, fun z => absurd z (by omega), fun z => absurd z (by omega), fun z => absurd z (by omega), fun _ => rfl, fun _ _ => f2, fun z => absurd z (by omega), fun x hx => absurd hx (List.not_mem_nil), u12, ⟨0, rfl⟩, by decide, rfl, fun x hx => absurd hx (List.not_mem_nil), u17⟩
    · rw [if_neg c3] at hs
      by_cases c4 : c = 10
      · rw [if_pos c4] at hs
        cases hs
        show zPIc 0 (Rs ++ [(k, n, E ++ (zpop 1 K).1, [])]) w 0 0 [] [] 0 0 [] [] []
        refine ⟨by omega, by omega, by rw [List.length_append]; show Rs.length + 1 ≤ 20; omega, fun z => absurd rfl z, fun _ => ⟨rfl, rfl, rfl, rfl, rfl, rfl⟩, fun z => absurd z (by omega), fun _ => ⟨rfl, rfl⟩, fun _ => rfl, fun z => absurd z (by omega), fun z => absurd z (by omega), fun x hx => absurd hx (List.not_mem_nil), fun x hx => ?_, ⟨0, rfl⟩, by decide, rfl, fun x hx => absurd hx (List.not_mem_nil), u17⟩
        rcases List.mem_append.mp hx with z | z
        · exact u12 x z
        · rw [List.mem_singleton] at z
          rw [z]
          exact ⟨v2, v3, fun _ => f2, fun y hy => absurd hy (List.not_mem_nil)⟩
      · rw [if_neg c4] at hs; cases hs
  rw [if_neg d0] at hs
  by_cases d1 : sd = 1
  · rw [if_pos d1] at hs
    by_cases c3 : 16 ≤ c ∧ c ≤ 19
    · rw [if_pos c3] at hs
      cases hs
      show zPIc 3 Rs w k n L Cs 2 c (E ++ (zpop 1 K).1) [] []
      exact ⟨by omega, by omega, u3, fun _ => ⟨v1, v2, v3⟩, fun z => absurd z (by omega), fun z => absurd z (by omega), fun z => absurd z (by omega), fun z => absurd z (by omega), fun _ => u9 (by omega), fun _ => ⟨f2, c3.1, c3.2⟩, u11, u12, ⟨0, rfl⟩, by decide, rfl, fun x hx => absurd hx (List.not_mem_nil), u17⟩
    · rw [if_neg c3] at hs; cases hs
  rw [if_neg d1] at hs
  obtain ⟨x1, x2, x3⟩ := u10 (by omega)
  have hCs : ∀ x, x ∈ Cs ++ [(q - 16, A, E ++ (zpop 1 K).1)] → zgre x := by
    intro x hx
    rcases List.mem_append.mp hx with z | z
    · exact u11 x z
    · rw [List.mem_singleton] at z
      rw [z]
      refine ⟨?_, x1, f2⟩
      show q - 16 < 4
      omega
  by_cases c3 : c = 9
  · rw [if_pos c3] at hs
    cases hs
    show zPIc 3 Rs w k n L (Cs ++ [(q - 16, A, E ++ (zpop 1 K).1)]) 1 0 [] [] []
    exact ⟨by omega, by omega, u3, fun _ => ⟨v1, v2, v3⟩, fun z => absurd z (by omega), fun z => absurd z (by omega), fun z => absurd z (by omega), fun _ => rfl, fun _ => u9 (by omega), fun z => absurd z (by omega), hCs, u12, ⟨0, rfl⟩, by decide, rfl, fun x hx => absurd hx (List.not_mem_nil), u17⟩
  · rw [if_neg c3] at hs
    by_cases c4 : c = 10
    · rw [if_pos c4] at hs
      cases hs
      show zPIc 0 (Rs ++ [(k, n, L, Cs ++ [(q - 16, A, E ++ (zpop 1 K).1)])]) w 0 0 [] [] 0 0 [] [] []
      refine ⟨by omega, by omega, by rw [List.length_append]; show Rs.length + 1 ≤ 20; omega, fun z => absurd rfl z, fun _ => ⟨rfl, rfl, rfl, rfl, rfl, rfl⟩, fun z => absurd z (by omega), fun _ => ⟨rfl, rfl⟩, fun _ => rfl, fun z => absurd z (by omega), fun z => absurd z (by omega), fun x hx => absurd hx (List.not_mem_nil), fun x hx => ?_, ⟨0, rfl⟩, by decide, rfl, fun x hx => absurd hx (List.not_mem_nil), u17⟩
      rcases List.mem_append.mp hx with z | z
      · exact u12 x z
      · rw [List.mem_singleton] at z
        rw [z]
        exact ⟨v2, v3, fun z => u9 (by omega) z, hCs⟩
    · rw [if_neg c4] at hs; cases hs
theorem zPI_run {T V P : Nat → Nat} (hV : ∀ t, (T t = 2 → V t < 10000) ∧ (T t = 3 → V t < 6) ∧ P t ≤ 2000) : ∀ f t S Rs w, zPI S → zrun T V P f t S = .inr (Rs, w) → (∀ x, x ∈ Rs → zgru x) ∧ Rs.length ≤ 20 ∧ ∀ p, w = some p → p ≤ 2000
  | 0, t, S, Rs, w, h, e => by cases e
  | f + 1, t, S, Rs, w, h, e => by
    rw [zrun] at e
    by_cases q : T t = 0 ∧ S.1 = 0
    · rw [if_pos q] at e
      have e1 := Sum.inr.inj e
      have e2 := congrArg Prod.fst e1
      have e3 := congrArg Prod.snd e1
      simp only at e2 e3
      obtain ⟨u1, u2, u3, u4, u5, u6, u7, u8, u9, u10, u11, u12, u13, u14, u15, u16, u17⟩ := h
      rw [← e2, ← e3]
      exact ⟨u12, u3, u17⟩
    · rw [if_neg q] at e
      cases hs : zstS S (T t) (V t) (P t) with
      | inl x => rw [hs] at e; cases e
      | inr Sn =>
        rw [hs] at e
        have hPn : zPI Sn := zPI_step h (hV t).1 (hV t).2.1 (hV t).2.2 hs
        change (if t < 400 then zrun T V P f (t + 1) Sn else .inl (2, t)) = .inr (Rs, w) at e
        by_cases q4 : t < 400
        · rw [if_pos q4] at e
          exact zPI_run hV f (t + 1) Sn Rs w hPn e
        · rw [if_neg q4] at e; cases e
