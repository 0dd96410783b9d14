/-! SHIFTS, the reference: the lists of choices -/
def zli (M : zMem) (o : Nat) (L : List Nat) : Prop := M.1 108 o = nI L.length ∧ ∀ k, k < L.length → M.1 109 (20 * o + k) = nI (L.getD k 0)
def zfo (o : Nat) (M W : zMem) : Prop := W.2 = M.2 ∧ (∀ a, a ≠ 108 → a ≠ 109 → W.1 a = M.1 a) ∧ (∀ j, j ≠ o → W.1 108 j = M.1 108 j) ∧ ∀ j, (j < 20 * o ∨ 20 * o + 20 ≤ j) → W.1 109 j = M.1 109 j
theorem zfo_r (o : Nat) (M : zMem) : zfo o M M := ⟨rfl, fun _ _ _ => rfl, fun _ _ => rfl, fun _ _ => rfl⟩
theorem zfo_t {o : Nat} {M W X : zMem} (h1 : zfo o M W) (h2 : zfo o W X) : zfo o M X := ⟨by rw [h2.1, h1.1], fun a p q => by rw [h2.2.1 a p q, h1.2.1 a p q], fun j p => by rw [h2.2.2.1 j p, h1.2.2.1 j p], fun j p => by rw [h2.2.2.2 j p, h1.2.2.2 j p]⟩
theorem zli_app {M : zMem} {o c : Nat} {L : List Nat} (h : zli M o L) : zli (zpI (zpI M 109 (20 * o + L.length) (nI c)) 108 o (nI (L.length + 1))) o (L ++ [c]) := by
  refine ⟨by simp [zpI_1], fun k hk => ?_⟩
  rw [List.length_append, List.length_singleton] at hk
  simp only [zpI_1]
  rw [if_neg (by omega)]
  by_cases e : k = L.length
  · subst e
    rw [if_pos ⟨trivial, rfl⟩]
    simp
  · rw [if_neg (by omega), h.2 k (by omega)]
    simp [List.getElem?_append, show k < L.length by omega]
theorem zfo_app {M : zMem} {o c l : Nat} (hl : l < 20) : zfo o M (zpI (zpI M 109 (20 * o + l) (nI c)) 108 o (nI (l + 1))) := by
  refine ⟨rfl, fun a h1 h2 => by rw [zpI_r _ _ h1, zpI_r _ _ h2], fun j hj => ?_, fun j hj => ?_⟩
  · simp only [zpI_1]; rw [if_neg (by omega), if_neg (by omega)]
  · simp only [zpI_1]; rw [if_neg (by omega), if_neg (by omega)]
theorem z_rowR : ∀ f, f < 6 → ∀ l, l < 4 → 1 ≤ l → f + l ≤ 6 → nI (zmask f (l - 1)) ||| ((1 : Int32) <<< ((nI (f + l) - (1 : Int32)) &&& 31)) = nI (zmask f l) := by decide +kernel
theorem z_big : ∀ f, f < 6 → ∀ l, l < 4 → 6 < f + l → ∀ h, h < 64 → ¬ zmask f l &&& h = zmask f l := by decide +kernel
theorem zmask_lt : ∀ f, f < 6 → ∀ l, l < 4 → zmask f l < 1000 := by decide
theorem zrl_len (h f : Nat) : ∀ k l, (zrl h f l k).length ≤ k
  | 0, l => Nat.le_refl 0
  | k + 1, l => by
    rw [zrl]
    split
    · have := zrl_len h f k (l + 1)
      simp; omega
    · simp
theorem m_L45 {o x h m f0 : Nat} (ho : o < 5) (hx : x < 1000) (hh : h < 64) (hm : m ≤ 3) (hf0 : f0 < 6) {N : Nat} {k33 : Int32 → Int32 → Int32 → zMem → Option zMem} : ∀ k l f L (M : zMem), l + k = m + 1 → 1 ≤ l → k < f → M.1 105 x = nI m → M.1 104 x = nI h → zli M o L → L.length + k ≤ 20 →
    ∃ W, fX12_lists_L45 N k33 f (nI o) (nI x) (nI f0) (nI (zmask f0 (l - 1))) (nI l) M = fX12_lists_L129 N k33 (nI o) (nI x) (nI f0) W ∧ zfo o M W ∧ zli W o (L ++ zrl h f0 l k)
  | 0, l, f + 1, L, M, h1, h2, h3, h4, h5, h6, h7 => by
    refine ⟨M, ?_, zfo_r o M, by rw [zrl, List.append_nil]; exact h6⟩
    rw [fX12_lists_L45, z_ldI (by omega) (by omega), zbd_some, h4, if_pos (by rw [z_lt (by omega) (by omega)]; omega)]
  | k + 1, l, f + 1, L, M, h1, h2, h3, h4, h5, h6, h7 => by
    rw [fX12_lists_L45, z_ldI (by omega) (by omega), zbd_some, h4, if_neg (by rw [z_lt (by omega) (by omega)]; omega), z_add, zrl]
    by_cases q6 : 6 < f0 + l
    · rw [show (6 : Int32) = nI 6 from rfl, if_pos (by rw [z_lt (by omega) (by omega)]; omega), if_neg (z_big f0 hf0 l (by omega) q6 h hh), List.append_nil]
      exact ⟨M, rfl, zfo_r o M, h6⟩
    · have hml := zmask_lt f0 hf0 l (by omega)
      have hal : h &&& zmask f0 l ≤ zmask f0 l := Nat.and_le_right
      rw [show (6 : Int32) = nI 6 from rfl, if_neg (by rw [z_lt (by omega) (by omega)]; omega), zlet_eq, z_rowR f0 hf0 l (by omega) h2 (by omega), z_ldI (by omega) (by omega), zbd_some, h5, fa_and]
      by_cases e : zmask f0 l &&& h = zmask f0 l
      · have e' : h &&& zmask f0 l = zmask f0 l := by rw [Nat.and_comm]; exact e
        rw [e', if_pos rfl, if_pos e, z_ldI (by omega) (by omega), zbd_some, h6.1, show (20 : Int32) = nI 20 from rfl, z_mul, z_add, z_stI (by omega) (by omega), zbd_some]
        have a108 : (zpI M 109 (20 * o + L.length) (nI (zmask f0 l))).1 108 o = nI L.length := h6.1
        rw [z_ldI (by omega) (by omega), zbd_some, a108, nI_1, z_stI (by omega) (by omega), zbd_some, zlet_eq, nI_1]
        obtain ⟨W, w1, w2, w3⟩ := m_L45 ho hx hh hm hf0 (N := N) (k33 := k33) k (l + 1) f (L ++ [zmask f0 l]) (zpI (zpI M 109 (20 * o + L.length) (nI (zmask f0 l))) 108 o (nI (L.length + 1))) (by omega) (by omega) (by omega) h4 h5 (zli_app h6) (by rw [List.length_append, List.length_singleton]; omega)
        rw [Nat.add_sub_cancel] at w1
        refine ⟨W, w1, zfo_t (zfo_app (by omega)) w2, ?_⟩
        rw [List.append_assoc] at w3
        exact w3
      · have e' : ¬ nI (h &&& zmask f0 l) = nI (zmask f0 l) := by rw [z_eq (by omega) (by omega), Nat.and_comm]; exact e
        rw [if_neg e', if_neg e, List.append_nil]
        exact ⟨M, rfl, zfo_r o M, h6⟩
theorem m_L33 {o x h m : Nat} (ho : o < 5) (hx : x < 1000) (hh : h < 64) (hm : m ≤ 3) {N : Nat} (hN : 10 < N) : ∀ k f0 f L (M : zMem), f0 + k = 6 → k < f → M.1 105 x = nI m → M.1 104 x = nI h → zli M o L → L.length + 3 * k ≤ 20 →
    ∃ W, fX12_lists_L33 N f (nI o) (nI x) (nI f0) M = some W ∧ zfo o M W ∧ zli W o (L ++ zhl h m f0 k)
  | 0, f0, f + 1, L, M, h1, h2, h3, h4, h5, h6 => by
    refine ⟨M, ?_, zfo_r o M, by rw [zhl, List.append_nil]; exact h5⟩
    rw [fX12_lists_L33, show (6 : Int32) = nI 6 from rfl, if_pos (by rw [z_le (by omega) (by omega)]; omega)]
  | k + 1, f0, f + 1, L, M, h1, h2, h3, h4, h5, h6 => by
    have hl := zrl_len h f0 m 1
    obtain ⟨W1, w1, w2, w3⟩ := m_L45 ho hx hh hm (f0 := f0) (by omega) (N := N) (k33 := fX12_lists_L33 N f) m 1 N L M (by omega) (by omega) (by omega) h3 h4 h5 (by omega)
    obtain ⟨W2, v1, v2, v3⟩ := m_L33 ho hx hh hm hN k (f0 + 1) f (L ++ zrl h f0 1 m) W1 (by omega) (by omega) (by rw [w2.2.1 105 (by omega) (by omega)]; exact h3) (by rw [w2.2.1 104 (by omega) (by omega)]; exact h4) w3 (by rw [List.length_append]; omega)
    refine ⟨W2, ?_, zfo_t w2 v2, by rw [zhl, ← List.append_assoc]; exact v3⟩
    have z0 : zmask f0 (1 - 1) = 0 := by simp [zmask]
    rw [z0] at w1
    rw [fX12_lists_L33, show (6 : Int32) = nI 6 from rfl, if_neg (by rw [z_le (by omega) (by omega)]; omega), show (0 : Int32) = nI 0 from rfl, show (1 : Int32) = nI 1 from rfl, w1]
    unfold fX12_lists_L129
    rw [zlet_eq, nI_1, v1]
theorem zmx_of108 {M W : zMem} (h : zag 108 111 M W) : zmx M W = W := by
  refine Prod.ext ?_ (Prod.ext ?_ ?_)
  · funext a
    show (if a < 69 then M.1 a else W.1 a) = W.1 a
    split
    · rw [h.2 a (by omega)]
    · rfl
  · funext a
    show (if a < 69 then M.2.1 a else W.2.1 a) = W.2.1 a
    split
    · rw [h.1]
    · rfl
  · show M.2.2 = W.2.2
    rw [h.1]
theorem q_due108 {tl nv ns c no nc nst nn r0 lv nr : Nat} {M W : zMem} (hM : gAll tl nv ns c no nc nst nn r0 lv nr M) (h : zag 108 111 M W) {v : Nat} (hv : v < nv) {N : Nat} (hN : 400 < N) : fX12_isDue N (nI v) W = some (if zdue N M v = true then 1 else 0, W) := by
  obtain ⟨-, -, hT, -, -, hK, -, -, -, -, -, hC, hH, -⟩ := gAll_108 hM h
  obtain ⟨b, b0, b1, b2⟩ := q_isDue hT hK hC hH hv hN
  have e := lc_fX11_careIsDue (B := W) N (nI v) M
  rw [zmx_of108 h, b1, (q_due36 hM (zag_r 36 46 M) hv hN).1, zcp_some] at e
  have eb : b = _ := congrArg Prod.fst (Option.some.inj e)
  rw [b2, eb]
theorem zch_0 : ∀ m, m < 4 → zch 0 m = [0] := by decide
theorem zch_len {h m : Nat} (hm : m ≤ 3) : (zch h m).length ≤ 19 := by
  have : ∀ k f, (zhl h m f k).length ≤ 3 * k := by
    intro k
    induction k with
    | zero => intro f; simp [zhl]
    | succ k ih =>
      intro f
      have h1 := ih (f + 1)
      have h2 := zrl_len h f m 1
      rw [zhl, List.length_append]; omega
  have h1 := this 6 0
  rw [zch, List.length_cons]; omega
theorem m_lists {tl nv ns c no nc nst nn r0 lv nr : Nat} {M W : zMem} (hM : gAll tl nv ns c no nc nst nn r0 lv nr M) (h : zag 108 111 M W) {o : Nat} (ho : o < no) {N : Nat} (hN : 400 < N) : ∃ X, fX12_lists N (nI o) (nI (5 * c + o)) W = some X ∧ zfo o W X ∧ zli X o (zch (zHo N M o) (zmo M o)) := by
  have hM' := hM
  obtain ⟨-, -, hT, -, -, hK, -, -, hO, -⟩ := hM
  have o0 := hO.1
  have t0 := hT.1
  have c0 := hK.1
  obtain ⟨a1, a2, a3, ⟨v, v1, v2⟩, ⟨hr, h1, h2, h3⟩, m, m1, m2, m3⟩ := hO.2.2.2.2.1 o ho
  have e103 : W.1 103 (5 * c + o) = nI v := by rw [h.2 103 (by omega), ← a1]; exact v2
  have e104 : W.1 104 (5 * c + o) = nI hr := by rw [h.2 104 (by omega), ← a2]; exact h3
  have e105 : W.1 105 (5 * c + o) = nI m := by rw [h.2 105 (by omega), ← a3]; exact m3
  have eH : zHo N M o = if zdue N M v = true then 0 else hr := by unfold zHo; rw [v2, h3, z_cl (by omega), z_cl (by omega)]
  have em : zmo M o = m := by unfold zmo; rw [m3, z_cl (by omega)]
  have hz : zag 108 111 M (zpI (zpI W 109 (20 * o) 0) 108 o 1) := zag_p (zag_p h (by omega) (by omega)) (by omega) (by omega)
  have hdue := q_due108 hM' hz v1 hN
  have hli : zli (zpI (zpI W 109 (20 * o) 0) 108 o 1) o [0] := by
    refine ⟨by simp [zpI_1]; rfl, fun k hk => ?_⟩
    have : k = 0 := by simpa using hk
    subst this
    simp [zpI_1]
    rfl
  have hfo : zfo o W (zpI (zpI W 109 (20 * o) 0) 108 o 1) := zfo_app (c := 0) (l := 0) (by omega)
  unfold fX12_lists
  rw [show (20 : Int32) = nI 20 from rfl, z_mul, z_stI (by omega) (by omega), zbd_some, z_stI (by omega) (by omega), zbd_some, z_ldI (by omega) (by omega), zbd_some, show (zpI (zpI W 109 (20 * o) 0) 108 o 1).1 103 (5 * c + o) = nI v from e103, hdue, zb2_some]
  by_cases w : zdue N M v = true
  · rw [if_pos w, if_neg (by decide), eH, if_pos w, em, zch_0 m (by omega)]
    exact ⟨_, rfl, hfo, hli⟩
  · rw [if_neg w, if_pos rfl, eH, if_neg w, em]
    obtain ⟨X, x1, x2, x3⟩ := m_L33 (o := o) (x := 5 * c + o) (h := hr) (m := m) (by omega) (by omega) h2 m2 (N := N) (by omega) 6 0 N [0] (zpI (zpI W 109 (20 * o) 0) 108 o 1) (by omega) (by omega) e105 e104 hli (by simp)
    exact ⟨X, x1, zfo_t hfo x2, x3⟩
