/-! READ: the class's reader and its rows -/
theorem z_code {v x : Nat} (hv : v < 10000) (hx : x < 32) : (nI v <<< ((5 : Int32) &&& 31)) ||| nI x = nI (32 * v + x) := by
  rw [pk_shlN _ 5 (by decide) (by omega), fa_or]
  congr 1
  have h := Nat.two_pow_add_eq_or_of_lt (i := 5) (show x < 2 ^ 5 from hx) v
  rw [Nat.mul_comm v (2 ^ 5), ← h]
def zstkk (M : zMem) : List Nat → Prop
  | [] => True
  | x :: K => M.1 21 K.length = nI x ∧ zstkk M K
theorem zstkk_c {M W : zMem} : ∀ K, (∀ i, i < K.length → W.1 21 i = M.1 21 i) → zstkk M K → zstkk W K
  | [], _, _ => trivial
  | x :: K, h, ⟨h1, h2⟩ => ⟨(h K.length (by rw [List.length_cons]; omega)).trans h1, zstkk_c K (fun i hi => h i (by rw [List.length_cons]; omega)) h2⟩
theorem zstkk_pop {M : zMem} {r : Nat} : ∀ K, zstkk M K → zstkk M (zpop r K).2
  | [], _ => trivial
  | x :: K, h => by
    rw [zpop]
    split
    · exact zstkk_pop K h.2
    · exact h
def zwp (w : Option Nat) : Int32 := w.elim (-1) nI
/-- a finished rule in the class's rows -/
def zruC (M : zMem) (r cs j : Nat) (x : zRl) : Prop := M.1 (r + 1) j = nI x.1 ∧ M.1 (r + 2) j = nI x.2.1 ∧ ∃ a, M.1 (r + 3) j = nI a ∧ M.1 (r + 4) j = nI (a + x.2.2.1.length) ∧ M.1 (r + 5) j = nI (a + x.2.2.1.length + (zcond false x.2.2.2).length) ∧ a + x.2.2.1.length + (zcond false x.2.2.2).length ≤ cs ∧ zsegC M (r + 6) a x.2.2.1 ∧ zsegC M (r + 6) (a + x.2.2.1.length) (zcond false x.2.2.2)
theorem zsegC_d {M W : zMem} {p : Nat} : ∀ L i, (∀ j, i ≤ j → j < i + L.length → W.1 p j = M.1 p j) → zsegC M p i L → zsegC W p i L
  | [], _, _, _ => trivial
  | x :: L, i, h, ⟨q1, q2⟩ => ⟨(h i (by omega) (by rw [List.length_cons]; omega)).trans q1, zsegC_d L (i + 1) (fun j h1 h2 => h j (by omega) (by rw [List.length_cons]; omega)) q2⟩
theorem zsegC_app {M : zMem} {p : Nat} : ∀ L F i, zsegC M p i L → zsegC M p (i + L.length) F → zsegC M p i (L ++ F)
  | [], F, i, _, h => h
  | x :: L, F, i, ⟨q1, q2⟩, h => ⟨q1, zsegC_app L F (i + 1) q2 (by rw [List.length_cons, show i + (L.length + 1) = i + 1 + L.length by omega] at h; exact h)⟩
theorem zsegC_l {M : zMem} {p : Nat} : ∀ L F i, zsegC M p i (L ++ F) → zsegC M p i L
  | [], F, i, _ => trivial
  | x :: L, F, i, ⟨q1, q2⟩ => ⟨q1, zsegC_l L F (i + 1) q2⟩
theorem zsegC_r {M : zMem} {p : Nat} : ∀ L F i, zsegC M p i (L ++ F) → zsegC M p (i + L.length) F
  | [], F, i, h => h
  | x :: L, F, i, ⟨q1, q2⟩ => by
    rw [List.length_cons, show i + (L.length + 1) = i + 1 + L.length by omega]
    exact zsegC_r L F (i + 1) q2
theorem zruC_c {M W : zMem} {r cs cs' j : Nat} {x : zRl} (h1 : ∀ a, 1 ≤ a → a ≤ 5 → W.1 (r + a) j = M.1 (r + a) j) (h2 : ∀ i, i < cs → W.1 (r + 6) i = M.1 (r + 6) i) (hc : cs ≤ cs') (h : zruC M r cs j x) : zruC W r cs' j x := by
  obtain ⟨u1, u2, a, u3, u4, u5, u6, u7, u8⟩ := h
  exact ⟨(h1 1 (by omega) (by omega)).trans u1, (h1 2 (by omega) (by omega)).trans u2, a, (h1 3 (by omega) (by omega)).trans u3, (h1 4 (by omega) (by omega)).trans u4, (h1 5 (by omega) (by omega)).trans u5, by omega, zsegC_d _ _ (fun i _ hi => h2 i (by omega)) u7, zsegC_d _ _ (fun i _ hi => h2 i (by omega)) u8⟩
/-- the finished rules, and the code of the rule begun at a -/
def zRT (r : Nat) (Rs : List zRl) (a : Nat) (C : zTm) (M : zMem) : Prop := (∀ j, j < Rs.length → zruC M r a j (Rs.getD j (0, 0, [], []))) ∧ zsegC M (r + 6) a C ∧ M.1 r 8 = nI (a + C.length)
theorem zRT_c {r : Nat} {Rs : List zRl} {a : Nat} {C : zTm} {M W : zMem} (h1 : ∀ b j, 1 ≤ b → b ≤ 5 → j < Rs.length → W.1 (r + b) j = M.1 (r + b) j) (h2 : W.1 (r + 6) = M.1 (r + 6)) (h3 : W.1 r 8 = M.1 r 8) (h : zRT r Rs a C M) : zRT r Rs a C W :=
  ⟨fun j hj => zruC_c (fun b b1 b2 => h1 b j b1 b2 hj) (fun i _ => by rw [h2]) (Nat.le_refl a) (h.1 j hj), zsegC_c h2 _ _ h.2.1, h3.trans h.2.2⟩
section CSIM1
variable {r : Nat} {Rs : List zRl} {a : Nat} {N : Nat}
theorem p_write (hr : r = 3 ∨ r = 11) {C : zTm} {M : zMem} {x v : Nat} (hx : x < 32) (hv : v < 10000) (h : zRT r Rs a C M) (hb : a + C.length < 400) : ∃ W, fX6_write r (nI x) (nI v) M = some W ∧ zRT r Rs a (C ++ [(x, v)]) W ∧ (∀ b, b ≠ r → b ≠ r + 6 → W.1 b = M.1 b) ∧ (∀ j, j ≠ 8 → W.1 r j = M.1 r j) ∧ W.2 = M.2 := by
  obtain ⟨h1, h2, h3⟩ := h
  unfold fX6_write
  rw [h3, show (400 : Int32) = nI 400 from rfl, zif_le (by omega) (by omega), if_neg (by omega), z_stI (by omega) (by omega), zbd_some, z_code hv hx, zlet_eq, zpI_r (b := r) _ _ (by omega), h3, nI_1]
  refine ⟨_, rfl, ⟨fun j hj => ?_, ?_, ?_⟩, fun b b1 b2 => ?_, fun j hj => ?_, rfl⟩
  · refine zruC_c (fun b b1 b2 => ?_) (fun i hi => ?_) (Nat.le_refl a) (h1 j hj)
    · rw [zpI_r _ _ (by omega), zpI_r _ _ (by omega)]
    · rw [zpI_r _ _ (by omega), zpI_1, if_neg (by omega)]
  · refine zsegC_app _ _ _ (zsegC_d _ _ (fun i _ hi => ?_) h2) ⟨?_, trivial⟩
    · rw [zpI_r _ _ (by omega), zpI_1, if_neg (by omega)]
    · rw [zpI_r _ _ (by omega), zpI_1, if_pos ⟨rfl, rfl⟩]
  · rw [zpI_1, if_pos ⟨rfl, rfl⟩, List.length_append]; rfl
  · rw [zpI_r _ _ b1, zpI_r _ _ b2]
  · rw [zpI_1, if_neg (fun z => hj z.2), zpI_r _ _ (by omega)]
theorem p_rank {x : Nat} (hx : x < 32) (M : zMem) : fX5_rankOf (nI x) M = some (nI (zrnk x), M) := by
  unfold fX5_rankOf zrnk
  rw [show (13 : Int32) = nI 13 from rfl, show (14 : Int32) = nI 14 from rfl, show (15 : Int32) = nI 15 from rfl, zif_eq (by omega) (by omega), zif_eq (by omega) (by omega), zif_eq (by omega) (by omega)]
  by_cases h1 : x = 13
  · subst h1; rfl
  by_cases h2 : x = 14
  · subst h2; rfl
  by_cases h3 : x = 15
  · subst h3; rfl
  rw [if_neg h1, if_neg h2, if_neg h3, if_neg h3, if_neg (by omega)]; rfl
theorem zdy_r {α : Type} (hr : r = 3 ∨ r = 11) (x : Option α) : zdy r x = x := by unfold zdy; rw [if_pos hr]
theorem p_woL (hr : r = 3 ∨ r = 11) {ρ : Nat} (h1 : 1 ≤ ρ) (h2 : ρ ≤ 2) : ∀ (K : List Nat) (C : zTm) (f : Nat) (M : zMem), (∀ x, x ∈ K → x = 11 ∨ x = 13 ∨ x = 14 ∨ x = 15) → K.length ≤ 20 → K.length < f → zRT r Rs a C M → a + C.length + zops K ≤ 400 → M.2.2 19 10 = r → M.1 19 2 = nI K.length → zstkk M K →
    ∃ W, fX5_writeOperators_L7 N f (nI ρ) (nI K.length - 1) M = some W ∧ zRT r Rs a (C ++ (zpop ρ K).1) W ∧ W.1 19 2 = nI (zpop ρ K).2.length ∧ (∀ b, b ≠ 19 → b ≠ r → b ≠ r + 6 → W.1 b = M.1 b) ∧ (∀ j, j ≠ 2 → W.1 19 j = M.1 19 j) ∧ (∀ j, j ≠ 8 → W.1 r j = M.1 r j) ∧ W.2 = M.2
  | [], C, f + 1, M, hK, hl, hf, h, hb, hR, hs, hk => by
    rw [fX5_writeOperators_L7, if_pos (by decide), zpop, List.append_nil]
    exact ⟨M, rfl, h, hs, fun _ _ _ _ => rfl, fun _ _ => rfl, fun _ _ => rfl, rfl⟩
  | x :: K, C, f + 1, M, hK, hl, hf, h, hb, hR, hs, hk => by
    rw [List.length_cons] at hl hf
    have hx := hK x List.mem_cons_self
    have hK2 : ∀ y, y ∈ K → y = 11 ∨ y = 13 ∨ y = 14 ∨ y = 15 := fun y hy => hK y (List.mem_cons_of_mem _ hy)
    have hrk := zrnk_2 x
    rw [fX5_writeOperators_L7, List.length_cons, nI_pred, if_neg (nI_pos (by omega)), z_ldI (by omega) (by omega), zbd_some, hk.1, p_rank (by omega), zb2_some, zif_lt (by omega) (by omega), zpop]
    by_cases q : ρ ≤ zrnk x
    · have hx11 : x ≠ 11 := by
        intro e
        rw [e] at q
        have : zrnk 11 = 0 := rfl
        omega
      rw [zops, if_neg hx11] at hb
      rw [if_neg (by omega), if_pos q, z_ldI (by omega) (by omega), zbd_some, hk.1, hR, zdy_r hr, show (0 : Int32) = nI 0 from rfl]
      obtain ⟨X, x1, x2, x3, x4, x5⟩ := p_write (Rs := Rs) (a := a) hr (x := x) (v := 0) (by omega) (by omega) h (by omega)
      rw [x1, zbd_some, zlet_eq, zlet_eq, ← Int32.sub_eq_add_neg]
      have e1 : ∀ b, b ≠ 19 → (zpI X 19 2 (nI K.length)).1 b = X.1 b := fun b hb => zpI_r _ _ hb
      obtain ⟨W, w1, w2, w3, w4, w5, w6, w7⟩ := p_woL hr h1 h2 K (C ++ [(x, 0)]) f (zpI X 19 2 (nI K.length)) hK2 (by omega) (by omega) (zRT_c (fun b j b1 b2 hj => by rw [e1 _ (by omega)]) (e1 _ (by omega)) (by rw [e1 _ (by omega)]) x2) (by rw [List.length_append]; show a + (C.length + 1) + zops K ≤ 400; omega) (by rw [zpI_2, x5]; exact hR) rfl (zstkk_c K (fun i _ => by rw [e1 _ (by omega), x3 _ (by omega) (by omega)]) hk.2)
      refine ⟨W, w1, ?_, w3, fun b b1 b2 b3 => ?_, fun j hj => ?_, fun j hj => ?_, ?_⟩
      · rw [List.append_assoc] at w2; exact w2
      · rw [w4 b b1 b2 b3, e1 b b1, x3 b b2 b3]
      · rw [w5 j hj, zpI_1, if_neg (fun z => hj z.2), x3 19 (by omega) (by omega)]
      · rw [w6 j hj, e1 r (by omega), x4 j hj]
      · rw [w7, zpI_2, x5]
    · rw [if_pos (by omega), if_neg q, List.append_nil]
      exact ⟨M, rfl, h, hs, fun _ _ _ _ => rfl, fun _ _ => rfl, fun _ _ => rfl, rfl⟩
theorem p_wo (hr : r = 3 ∨ r = 11) {ρ : Nat} (h1 : 1 ≤ ρ) (h2 : ρ ≤ 2) {K : List Nat} {C : zTm} {M : zMem} (hN : 100 < N) (hK : ∀ x, x ∈ K → x = 11 ∨ x = 13 ∨ x = 14 ∨ x = 15) (hl : K.length ≤ 20) (h : zRT r Rs a C M) (hb : a + C.length + zops K ≤ 400) (hR : M.2.2 19 10 = r) (hs : M.1 19 2 = nI K.length) (hk : zstkk M K) : ∃ W, fX5_writeOperators N (nI ρ) M = some W ∧ zRT r Rs a (C ++ (zpop ρ K).1) W ∧ W.1 19 2 = nI (zpop ρ K).2.length ∧ zstkk W (zpop ρ K).2 ∧ (∀ b, b ≠ 19 → b ≠ r → b ≠ r + 6 → W.1 b = M.1 b) ∧ (∀ j, j ≠ 2 → W.1 19 j = M.1 19 j) ∧ (∀ j, j ≠ 8 → W.1 r j = M.1 r j) ∧ W.2 = M.2 := by
  unfold fX5_writeOperators
  rw [zlet_eq, hs]
  obtain ⟨W, w1, w2, w3, w4, w5, w6, w7⟩ := p_woL (N := N) hr h1 h2 K C N M hK hl (by omega) h hb hR hs hk
  exact ⟨W, w1, w2, w3, zstkk_c _ (fun i _ => by rw [w4 21 (by omega) (by omega) (by omega)]) (zstkk_pop K hk), w4, w5, w6, w7⟩
theorem p_push {K : List Nat} {M : zMem} {x : Nat} (hl : K.length < 20) (hs : M.1 19 2 = nI K.length) (hk : zstkk M K) : ∃ W, fX5_push (nI x) M = some W ∧ W.1 19 2 = nI (x :: K).length ∧ zstkk W (x :: K) ∧ (∀ b, b ≠ 19 → b ≠ 21 → W.1 b = M.1 b) ∧ (∀ j, j ≠ 2 → W.1 19 j = M.1 19 j) ∧ W.2 = M.2 := by
  unfold fX5_push
  rw [hs, show (20 : Int32) = nI 20 from rfl, zif_le (by omega) (by omega), if_neg (by omega), z_stI (by omega) (by omega), zbd_some, zlet_eq, zpI_r (b := 19) _ _ (by omega), hs, nI_1]
  refine ⟨_, rfl, rfl, ⟨?_, zstkk_c K (fun i hi => ?_) hk⟩, fun b b1 b2 => ?_, fun j hj => ?_, rfl⟩
  · rw [zpI_r _ _ (by omega), zpI_1, if_pos ⟨rfl, rfl⟩]
  · rw [zpI_r _ _ (by omega), zpI_1, if_neg (by omega)]
  · rw [zpI_r _ _ b1, zpI_r _ _ b2]
  · rw [zpI_1, if_neg (fun z => hj z.2), zpI_r _ _ (by omega)]
end CSIM1
