/-! RULES: the class's and the reference's rules say the same -/
def zrok (Rs : List (Nat × List (Nat × Nat) × List (Nat × Nat))) : Prop := ∀ x, x ∈ Rs → x.1 < 4 ∧ zterm x.2.1 ∧ zterm x.2.2
theorem zrels_ok {M : zMem} {o : Nat} : ∀ Rs k, zrels M o k Rs → zrok Rs
  | [], _, _ => fun x hx => by simp at hx
  | y :: Rs, k, ⟨⟨q1, q2, q3, _⟩, q4⟩ => by
    intro x hx
    rcases List.mem_cons.mp hx with e | e
    · rw [e]; exact ⟨q1, q2, q3⟩
    · exact zrels_ok Rs (k + 1) q4 x e
theorem zterm_kok {T : List (Nat × Nat)} (h : zterm T) : ∀ x, x ∈ T → zkok x := by
  intro x hx
  have := h.2 x hx
  unfold zkok
  omega
theorem zcond_kok : ∀ (Rs : List (Nat × List (Nat × Nat) × List (Nat × Nat))) (j : Bool), zrok Rs → ∀ y, y ∈ zcond j Rs → zkok y
  | [], j, _, y, hy => by simp [zcond] at hy
  | x :: Rs, j, h, y, hy => by
    obtain ⟨a1, a2, a3⟩ := h x (List.mem_cons.mpr (Or.inl rfl))
    rw [zcond] at hy
    rcases List.mem_append.mp hy with q | q
    · exact zterm_kok a2 y q
    · rcases List.mem_append.mp q with q | q
      · exact zterm_kok a3 y q
      · rcases List.mem_cons.mp q with q | q
        · subst q
          refine Or.inr (Or.inr ⟨?_, rfl⟩)
          show 16 + x.1 = 13 ∨ _
          omega
        · rcases List.mem_append.mp q with q | q
          · cases j
            · simp at q
            · have : y = (9, 0) := by simpa using q
              subst this
              exact Or.inr (Or.inr ⟨by simp, rfl⟩)
          · exact zcond_kok Rs true (fun z hz => h z (List.mem_cons.mpr (Or.inr hz))) y q
theorem zev_op {F : Nat → Int32} {k v : Nat} {L : List (Nat × Nat)} {a b : Int32} {t : List Int32} (h2 : k ≠ 2) (h3 : k ≠ 3) : zev F ((k, v) :: L) (b :: a :: t) = zev F L (zcomb k a b :: t) := by
  show zev F L (if k = 2 then _ else if k = 3 then _ else _) = _
  rw [if_neg h2, if_neg h3]
  rfl
theorem zcond_ev (F : Nat → Int32) : ∀ (Rs : List (Nat × List (Nat × Nat) × List (Nat × Nat))), zrok Rs → ∀ c, zev F (zcond true Rs) [zbi c] = [zbi (c && zholdR F Rs)] ∧ zdc (zcond true Rs) 1 = some 1
  | [], _, c => by simp [zcond, zev, zholdR, zdc]
  | x :: Rs, h, c => by
    obtain ⟨a1, a2, a3⟩ := h x (List.mem_cons.mpr (Or.inl rfl))
    obtain ⟨i1, i2⟩ := zcond_ev F Rs (fun z hz => h z (List.mem_cons.mpr (Or.inr hz))) (c && zrelB x.1 (ztv F x.2.1) (ztv F x.2.2))
    constructor
    · rw [zcond, zev_app, ztv_ev a2, zev_app, ztv_ev a3, zev_op (by omega) (by omega), zcomb_rel a1]
      show zev F ((9, 0) :: zcond true Rs) _ = _
      rw [zev_op (by omega) (by omega), zcomb_and, i1, zholdR, Bool.and_assoc]
    · rw [zcond, zdc_app _ _ 1 2 (zdp_dc x.2.1 0 1 1 (by omega) a2.1), zdc_app _ _ 2 3 (zdp_dc x.2.2 0 1 2 (by omega) a3.1), zdc, if_neg (by simp; omega), if_pos (by omega)]
      exact i2
theorem zcond_ev0 (F : Nat → Int32) (x : Nat × List (Nat × Nat) × List (Nat × Nat)) (Rs : List (Nat × List (Nat × Nat) × List (Nat × Nat))) (h : zrok (x :: Rs)) : zev F (zcond false (x :: Rs)) [] = [zbi (zholdR F (x :: Rs))] ∧ zdc (zcond false (x :: Rs)) 0 = some 1 := by
  obtain ⟨a1, a2, a3⟩ := h x (List.mem_cons.mpr (Or.inl rfl))
  obtain ⟨i1, i2⟩ := zcond_ev F Rs (fun z hz => h z (List.mem_cons.mpr (Or.inr hz))) (zrelB x.1 (ztv F x.2.1) (ztv F x.2.2))
  constructor
  · rw [zcond, zev_app, ztv_ev a2, zev_app, ztv_ev a3, zev_op (by omega) (by omega), zcomb_rel a1]
    show zev F (zcond true Rs) _ = _
    rw [i1, zholdR]
  · rw [zcond, zdc_app _ _ 0 1 (zdp_dc x.2.1 0 1 0 (by omega) a2.1), zdc_app _ _ 1 2 (zdp_dc x.2.2 0 1 1 (by omega) a3.1), zdc, if_neg (by simp; omega), if_pos (by omega)]
    exact i2
/-- a piece of the class's code, from an empty stack -/
theorem p_workOut {r0 cs a : Nat} {F : Nat → Int32} {L : List (Nat × Nat)} {v : Int32} {M : zMem} (hr : r0 = 3 ∨ r0 = 11) (hcs : cs ≤ 400) (h8 : M.1 r0 8 = nI cs) (hF : ∀ j, j < 6 → M.1 64 j = F j) (hk : ∀ x, x ∈ L → zkok x) (hd : zdc L 0 = some 1) (hv : zev F L [] = [v]) (hl : a + L.length ≤ cs) (hg : zsegC M (r0 + 6) a L) {N : Nat} (hN : 500 < N) : ∃ W, fX6_workOut N r0 (nI a) (nI (a + L.length)) M = some (v, W) ∧ zbut (r0 + 7) M W := by
  obtain ⟨f, hf⟩ : ∃ f, N = (f + 1) + L.length := ⟨N - L.length - 1, by omega⟩
  obtain ⟨W, w1, w2, w3, w4, w5⟩ := p_wrun (to_ := a + L.length) hr hcs hl (F := F) (N := N) L [] a (f + 1) 1 M hk hd (by simp) (Nat.le_refl _) hg trivial h8 hF
  rw [hv] at w1 w3
  refine ⟨W, ?_, w2⟩
  unfold fX6_workOut
  rw [zlet_eq, if_neg (nI_pos (by omega))]
  have e : fX6_workOut_L10 r0 N (f + 1 + L.length) (nI (a + L.length)) (nI ([] : List Int32).length) (nI a) M = fX6_workOut_L10 r0 N N (nI (a + L.length)) 0 (nI a) M := by rw [← hf]; rfl
  rw [← e, w1, fX6_workOut_L10, if_pos (by rw [z_le (by omega) (by omega)]; omega)]
  unfold fX6_workOut_L163
  rw [show (0 : Int32) = nI 0 from rfl, z_ldI (by omega) (by omega), zbd_some, zstk_bot w3]
def zRu (r0 lv nr cs : Nat) (R : Nat → Nat × Nat × List (Nat × Nat) × List (Nat × List (Nat × Nat) × List (Nat × Nat))) (M : zMem) : Prop := (r0 = 3 ∨ r0 = 11) ∧ lv < 2 ∧ M.1 69 18 = nI lv ∧ nr ≤ 20 ∧ M.1 r0 7 = nI nr ∧ M.1 77 lv = nI nr ∧ cs ≤ 400 ∧ M.1 r0 8 = nI cs ∧ ∀ r, r < nr → zrule M r0 lv cs r (R r)
theorem zRu_c {r0 lv nr cs : Nat} {R : Nat → Nat × Nat × List (Nat × Nat) × List (Nat × List (Nat × Nat) × List (Nat × Nat))} {M W : zMem} (h3 : W.1 69 18 = M.1 69 18) (hA : ∀ a, 3 ≤ a → a < 18 → a ≠ 10 → W.1 a = M.1 a) (hB : ∀ a, 77 ≤ a → a < 91 → W.1 a = M.1 a) (h : zRu r0 lv nr cs R M) : zRu r0 lv nr cs R W := by
  obtain ⟨u0, u3, u4, u5, u6, u7, u8, u9, u10⟩ := h
  refine ⟨u0, u3, by rw [h3]; exact u4, u5, by rw [hA r0 (by omega) (by omega) (by omega)]; exact u6, by rw [hB 77 (by omega) (by omega)]; exact u7, u8, by rw [hA r0 (by omega) (by omega) (by omega)]; exact u9, fun r hr => ?_⟩
  obtain ⟨v1, v2, v3, v4, v5, ⟨a, a1, a2, a3, a4, a5, a6⟩, v6, v7, ⟨b, b1, b2, b3, b4⟩, k, k1, k2, k3, k4⟩ := u10 r hr
  exact ⟨v1, v2, v3, by rw [hA _ (by omega) (by omega) (by omega)]; exact v4, by rw [hA _ (by omega) (by omega) (by omega)]; exact v5, ⟨a, by rw [hA _ (by omega) (by omega) (by omega)]; exact a1, by rw [hA _ (by omega) (by omega) (by omega)]; exact a2, by rw [hA _ (by omega) (by omega) (by omega)]; exact a3, a4, zsegC_c (hA _ (by omega) (by omega) (by omega)) _ _ a5, zsegC_c (hA _ (by omega) (by omega) (by omega)) _ _ a6⟩, by rw [hB 78 (by omega) (by omega)]; exact v6, by rw [hB 79 (by omega) (by omega)]; exact v7, ⟨b, by rw [hB 80 (by omega) (by omega)]; exact b1, by rw [hB 81 (by omega) (by omega)]; exact b2, b3, zsegR_c (hB 89 (by omega) (by omega)) (hB 90 (by omega) (by omega)) _ _ b4⟩, k, by rw [hB 82 (by omega) (by omega)]; exact k1, by rw [hB 83 (by omega) (by omega)]; exact k2, k3, zrels_c hB _ _ k4⟩
theorem zcond_len0 {Rs : List (Nat × List (Nat × Nat) × List (Nat × Nat))} : (zcond false Rs).length = 0 ↔ Rs = [] := by
  cases Rs with
  | nil => simp [zcond]
  | cons x Rs => simp [zcond]
section HOLD
variable {r0 lv nr cs : Nat} {R : Nat → Nat × Nat × List (Nat × Nat) × List (Nat × List (Nat × Nat) × List (Nat × Nat))} {F : Nat → Int32} {M : zMem} {N : Nat}
theorem p_holds (h : zRu r0 lv nr cs R M) (hF : ∀ j, j < 6 → M.1 64 j = F j) {r : Nat} (hr : r < nr) (hN : 500 < N) : ∃ W, fX6_holds N r0 (nI r) M = some (zbi (zholdR F (R r).2.2.2), W) ∧ zbut (r0 + 7) M W := by
  obtain ⟨u0, u3, u4, u5, u6, u7, u8, u9, u10⟩ := h
  obtain ⟨v1, v2, v3, v4, v5, ⟨a, a1, a2, a3, a4, a5, a6⟩, v6, v7, -, k, k1, k2, k3, k4⟩ := u10 r hr
  have hok := zrels_ok _ _ k4
  unfold fX6_holds
  rw [if_neg (nI_pos (by omega)), u6, if_pos (by rw [z_lt (by omega) (by omega)]; exact hr), z_ldI (by omega) (by omega), zbd_some, z_ldI (by omega) (by omega), zbd_some, a2, a3]
  cases hRs : (R r).2.2.2 with
  | nil =>
    have e : (zcond false (R r).2.2.2).length = 0 := zcond_len0.mpr hRs
    rw [hRs] at e
    rw [e, Nat.add_zero, if_pos rfl]
    exact ⟨M, rfl, zbut_r _ M⟩
  | cons x Rs =>
    rw [hRs] at hok a6 a4
    have e : ¬ (zcond false (x :: Rs)).length = 0 := fun q => by have := zcond_len0.mp q; cases this
    obtain ⟨e1, e2⟩ := zcond_ev0 F x Rs hok
    obtain ⟨W, w1, w2⟩ := p_workOut u0 u8 u9 hF (zcond_kok _ false hok) e2 e1 (by omega) a6 hN
    rw [if_neg (by rw [z_eq (by omega) (by omega)]; omega), zbd_some, zbd_some, w1, zb2_some]
    refine ⟨W, ?_, w2⟩
    cases zholdR F (x :: Rs)
    · rfl
    · rfl
def zfst (p : Nat → Bool) : Nat → Nat → Option Nat
  | _, 0 => none
  | i, d + 1 => if p i = true then some i else zfst p (i + 1) d
def zoi : Option Nat → Int32
  | none => -1
  | some r => nI r
theorem zfst_lt {p : Nat → Bool} : ∀ d i r, zfst p i d = some r → i ≤ r ∧ r < i + d ∧ p r = true
  | 0, i, r, h => by cases h
  | d + 1, i, r, h => by
    rw [zfst] at h
    by_cases q : p i = true
    · rw [if_pos q] at h
      have : i = r := Option.some.inj h
      subst this
      exact ⟨Nat.le_refl i, by omega, q⟩
    · rw [if_neg q] at h
      obtain ⟨h1, h2, h3⟩ := zfst_lt d (i + 1) r h
      exact ⟨by omega, by omega, h3⟩
def zfr (R : Nat → Nat × Nat × List (Nat × Nat) × List (Nat × List (Nat × Nat) × List (Nat × Nat))) (F : Nat → Int32) (kind r : Nat) : Bool := decide ((R r).1 = kind) && zholdR F (R r).2.2.2
theorem p_firstL {kind : Nat} (hkd : kind < 100) (hN : 500 < N) : ∀ d i f (M : zMem), zRu r0 lv nr cs R M → (∀ j, j < 6 → M.1 64 j = F j) → i + d = nr → d < f → ∃ W, fX6_firstHolding_L2 r0 N f (nI kind) (nI i) M = some (zoi (zfst (zfr R F kind) i d), W) ∧ zbut (r0 + 7) M W
  | 0, i, f + 1, M, h, hF, hi, hf => by
    have u5 := h.2.2.2.1
    have u6 := h.2.2.2.2.1
    refine ⟨M, ?_, zbut_r _ M⟩
    rw [fX6_firstHolding_L2, u6, if_pos (by rw [z_le (by omega) (by omega)]; omega)]
    rfl
  | d + 1, i, f + 1, M, h, hF, hi, hf => by
    obtain ⟨u0, u3, u4, u5, u6, u7, u8, u9, u10⟩ := id h
    obtain ⟨v1, v2, v3, v4, -⟩ := u10 i (by omega)
    rw [fX6_firstHolding_L2, u6, if_neg (by rw [z_le (by omega) (by omega)]; omega), z_ldI (by omega) (by omega), zbd_some, v4, zfst]
    unfold fX6_firstHolding_L31 zfr
    by_cases e : (R i).1 = kind
    · obtain ⟨W, w1, w2⟩ := p_holds h hF (r := i) (by omega) hN
      rw [if_pos (by rw [e]), w1, zb2_some]
      cases hh : zholdR F (R i).2.2.2
      · have h2 : zRu r0 lv nr cs R W := zRu_c (by rw [w2.2 69 (by omega)]) (fun a q1 q2 q3 => w2.2 a (by omega)) (fun a q1 q2 => w2.2 a (by omega)) h
        obtain ⟨X, x1, x2⟩ := p_firstL hkd hN d (i + 1) f W h2 (by rw [w2.2 64 (by omega)]; exact hF) (by omega) (by omega)
        refine ⟨X, ?_, zbut_t w2 x2⟩
        rw [if_pos (show zbi false = 0 from rfl), zlet_eq, nI_1, x1]
        simp
        rfl
      · rw [if_neg (by decide)]
        refine ⟨W, ?_, w2⟩
        simp [e]
        rfl
    · obtain ⟨X, x1, x2⟩ := p_firstL hkd hN d (i + 1) f M h hF (by omega) (by omega)
      refine ⟨X, ?_, x2⟩
      rw [if_neg (by rw [z_eq (by omega) (by omega)]; exact e), zlet_eq, nI_1, x1]
      simp [e]
      rfl
theorem p_first (h : zRu r0 lv nr cs R M) (hF : ∀ j, j < 6 → M.1 64 j = F j) {kind : Nat} (hkd : kind < 100) (hN : 500 < N) : ∃ W, fX6_firstHolding N r0 (nI kind) M = some (zoi (zfst (zfr R F kind) 0 nr), W) ∧ zbut (r0 + 7) M W := by
  have u5 := h.2.2.2.1
  exact p_firstL hkd hN nr 0 N M h hF (by omega) (by omega)
theorem p_number (h : zRu r0 lv nr cs R M) {r : Nat} (hr : r < nr) : fX6_numberOf r0 (nI r) M = some (nI (R r).2.1, M) := by
  obtain ⟨u0, u3, u4, u5, u6, u7, u8, u9, u10⟩ := h
  obtain ⟨v1, v2, v3, v4, v5, -⟩ := u10 r hr
  unfold fX6_numberOf
  rw [if_neg (nI_pos (by omega)), u6, if_neg (by rw [z_le (by omega) (by omega)]; omega), z_ldI (by omega) (by omega), zbd_some, v5]
theorem p_kind (h : zRu r0 lv nr cs R M) {r : Nat} (hr : r < nr) : fX6_kindOf r0 (nI r) M = some (nI (R r).1, M) := by
  obtain ⟨u0, u3, u4, u5, u6, u7, u8, u9, u10⟩ := h
  obtain ⟨v1, v2, v3, v4, v5, -⟩ := u10 r hr
  unfold fX6_kindOf
  rw [if_neg (nI_pos (by omega)), u6, if_neg (by rw [z_le (by omega) (by omega)]; omega), z_ldI (by omega) (by omega), zbd_some, v4]
theorem p_term (h : zRu r0 lv nr cs R M) (hF : ∀ j, j < 6 → M.1 64 j = F j) {r : Nat} (hr : r < nr) (h4 : (R r).1 = 4) (hN : 500 < N) : ∃ W, fX6_termOf N r0 (nI r) M = some (ztv F (R r).2.2.1, W) ∧ zbut (r0 + 7) M W := by
  obtain ⟨u0, u3, u4, u5, u6, u7, u8, u9, u10⟩ := h
  obtain ⟨v1, v2, v3, v4, v5, ⟨a, a1, a2, a3, a4, a5, a6⟩, -⟩ := u10 r hr
  have hz := v3 h4
  obtain ⟨W, w1, w2⟩ := p_workOut u0 u8 u9 hF (zterm_kok hz) (zdp_dc _ 0 1 0 (by omega) hz.1) (ztv_ev hz []) (by omega) a5 hN
  refine ⟨W, ?_, w2⟩
  unfold fX6_termOf
  rw [if_neg (nI_pos (by omega)), u6, if_neg (by rw [z_le (by omega) (by omega)]; omega), z_ldI (by omega) (by omega), zbd_some, z_ldI (by omega) (by omega), zbd_some, a1, a2, w1, zb2_some]
end HOLD
