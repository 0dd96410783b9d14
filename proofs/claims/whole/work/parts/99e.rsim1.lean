/-! READ: the reference's parser, its small steps -/
def zTRg (T V P : Nat → Nat) (M : zMem) : Prop := ∀ t, t ≤ 400 → (∀ u, u < t → T u ≠ 0) → ∃ c, M.1 72 t = nI c ∧ zcv (T t) (V t) c ∧ M.1 73 t = nI (P t) ∧ (T t = 2 → M.1 74 t = nI (V t))
def zVal (T V P : Nat → Nat) : Prop := ∀ t, T t ≤ 19 ∧ (T t = 2 → V t < 10000) ∧ (T t = 3 → V t < 6) ∧ P t ≤ 2000
/-- at token t, no fault -/
def zAt (T : Nat → Nat) (t : Nat) (M : zMem) : Prop := M.1 69 11 = nI t ∧ t ≤ 400 ∧ (∀ u, u < t → T u ≠ 0) ∧ M.1 69 13 = nI 0
/-- a fault stands -/
def zFl (P : Nat → Nat) (g u : Nat) (M : zMem) : Prop := M.1 69 13 = nI g ∧ (g = 1 ∨ g = 2) ∧ M.1 69 14 = nI (P u) ∧ ∃ t, t ≤ 400 ∧ M.1 69 11 = nI t
theorem zck_v {τ : Nat} (h : τ ≠ 3) (v : Nat) : zck τ v = zck τ 0 := by
  unfold zck
  match τ with
  | 0 => rfl
  | 1 => rfl
  | 2 => rfl
  | 3 => exact absurd rfl h
  | n + 4 => simp only [List.getD_cons_succ]
theorem zck_j : ∀ τ, τ < 20 → ∀ κ, κ < 20 → ∀ v, v < 6 → κ = 1 ∨ κ = 3 ∨ τ = 1 ∨ decide (zck τ v = zck κ 0) = decide (τ = κ) := by decide +kernel
theorem zck_i (τ : Nat) (h1 : τ < 20) (κ : Nat) (h2 : κ < 20) (v : Nat) (h3 : v < 6) (h4 : κ ≠ 1) (h5 : κ ≠ 3) (h6 : τ ≠ 1) : zck τ v = zck κ 0 ↔ τ = κ := by
  rcases zck_j τ h1 κ h2 v h3 with z | z | z | z
  · exact absurd z h4
  · exact absurd z h5
  · exact absurd z h6
  · exact decide_eq_decide.mp z
theorem zck_1 : ∀ κ, κ < 20 → κ ≠ 1 → κ ≠ 3 → ¬ (1 = zck κ 0) ∧ ¬ (3 = zck κ 0) := by decide +kernel
theorem zck_32 : ∀ τ, τ < 20 → ∀ v, v < 6 → zck τ v < 32 := by decide +kernel
theorem zcv_k {τ v c κ : Nat} (h : zcv τ v c) (hτ : τ ≤ 19) (h3 : τ = 3 → v < 6) (hκ : κ < 20) (k1 : κ ≠ 1) (k3 : κ ≠ 3) : c = zck κ 0 ↔ τ = κ := by
  by_cases t1 : τ = 1
  · obtain ⟨q1, q2⟩ := zck_1 κ hκ k1 k3
    constructor
    · intro e
      rcases h.2 t1 with z | z
      · rw [z] at e; exact absurd e q1
      · rw [z] at e; exact absurd e q2
    · intro e; exact absurd (e.symm.trans t1) k1
  · rw [h.1 t1]
    by_cases t3 : τ = 3
    · exact zck_i τ (by omega) κ hκ v (h3 t3) k1 k3 t1
    · rw [zck_v t3]
      exact zck_i τ (by omega) κ hκ 0 (by omega) k1 k3 t1
theorem zcv_32 {τ v c : Nat} (h : zcv τ v c) (hτ : τ ≤ 19) (h3 : τ = 3 → v < 6) : c < 32 := by
  by_cases t1 : τ = 1
  · rcases h.2 t1 with z | z <;> omega
  · rw [h.1 t1]
    by_cases t3 : τ = 3
    · exact zck_32 τ (by omega) v (h3 t3)
    · rw [zck_v t3]
      exact zck_32 τ (by omega) 0 (by omega)
section RSIM1
variable {T V P : Nat → Nat} {t : Nat} {M : zMem} {N : Nat}
theorem m_is (hT : zTRg T V P M) (hV : zVal T V P) (h : zAt T t M) (κ : Nat) (hκ : κ < 20) (k1 : κ ≠ 1) (k3 : κ ≠ 3) : fX12_is (nI (zck κ 0)) M = some (nI (if T t = κ then 1 else 0), M) := by
  obtain ⟨a1, a2, a3, a4⟩ := h
  obtain ⟨c, c1, c2, c3, c4⟩ := hT t a2 a3
  obtain ⟨v1, v2, v3, v4⟩ := hV t
  have hc := zcv_32 c2 v1 v3
  have hk := zcv_k c2 v1 v3 hκ k1 k3
  have hk32 : zck κ 0 < 32 := zck_32 κ (by omega) 0 (by omega)
  unfold fX12_is
  rw [a4, if_pos (show nI 0 = 0 from rfl), a1, z_ldI (by omega) (by omega), zbd_some, c1, zif_eq (by omega) (by omega)]
  by_cases q : T t = κ
  · rw [if_pos (hk.mpr q), if_pos q]; rfl
  · rw [if_neg (fun z => q (hk.mp z)), if_neg q]; rfl
theorem m_fail (hT : zTRg T V P M) (h : zAt T t M) (g : Nat) : fX12_fail (nI g) M = some (zpI (zpI M 69 13 (nI g)) 69 14 (nI (P t))) := by
  obtain ⟨a1, a2, a3, a4⟩ := h
  obtain ⟨c, c1, c2, c3, c4⟩ := hT t a2 a3
  unfold fX12_fail
  rw [a4, if_pos (by decide), zlet_eq, show (zpI M 69 13 (nI g)).1 69 11 = M.1 69 11 from rfl, a1, z_ldI (by omega) (by omega), zbd_some, zpI_r _ _ (by omega), c3, zlet_eq]
theorem m_flt (h : zAt T t M) {g : Nat} (hg : g = 1 ∨ g = 2) : zFl P g t (zpI (zpI M 69 13 (nI g)) 69 14 (nI (P t))) := ⟨rfl, hg, rfl, t, h.2.1, h.1⟩
theorem m_next (h : zAt T t M) (ht : t < 400) : fX12_next M = some (zpI M 69 11 (nI (t + 1))) := by
  obtain ⟨a1, a2, a3, a4⟩ := h
  unfold fX12_next
  rw [a1, show (400 : Int32) = nI 400 from rfl, zif_eq (by omega) (by omega), if_neg (by omega), zlet_eq, nI_1]
theorem m_next4 (hT : zTRg T V P M) (h : zAt T t M) (ht : t = 400) : fX12_next M = some (zpI (zpI M 69 13 (nI 2)) 69 14 (nI (P t))) := by
  have hf := m_fail (P := P) hT h 2
  obtain ⟨a1, a2, a3, a4⟩ := h
  unfold fX12_next
  rw [a1, show (400 : Int32) = nI 400 from rfl, zif_eq (by omega) (by omega), if_pos ht, show (2 : Int32) = nI 2 from rfl, hf, zbd_some]
theorem m_at1 (h : zAt T t M) (ht : t < 400) (h0 : T t ≠ 0) {W : zMem} (h1 : W.1 69 11 = nI (t + 1)) (h2 : W.1 69 13 = M.1 69 13) : zAt T (t + 1) W := by
  obtain ⟨a1, a2, a3, a4⟩ := h
  refine ⟨h1, by omega, fun u hu => ?_, by rw [h2]; exact a4⟩
  by_cases e : u = t
  · rw [e]; exact h0
  · exact a3 u (by omega)
theorem m_at_c (h : zAt T t M) {W : zMem} (h1 : W.1 69 11 = M.1 69 11) (h2 : W.1 69 13 = M.1 69 13) : zAt T t W := ⟨by rw [h1]; exact h.1, h.2.1, h.2.2.1, by rw [h2]; exact h.2.2.2⟩
-- a fault stands
theorem f_is {g u : Nat} (h : zFl P g u M) (x : Int32) : fX12_is x M = some (0, M) := by
  unfold fX12_is
  rw [h.1, if_neg (nI_ne0 (by have := h.2.1; omega) (by have := h.2.1; omega))]
theorem f_fail {g u : Nat} (h : zFl P g u M) (x : Int32) : fX12_fail x M = some M := by
  unfold fX12_fail
  rw [h.1, if_neg (nI_nle (by have := h.2.1; omega) (by have := h.2.1; omega))]
theorem f_must {g u : Nat} (h : zFl P g u M) (x : Int32) : fX12_must x M = some M := by
  unfold fX12_must
  rw [f_is h, zb2_some, if_pos rfl, f_fail h, zbd_some]
theorem f_next {g u : Nat} (h : zFl P g u M) : ∃ W, fX12_next M = some W ∧ zFl P g u W ∧ (∀ b, b ≠ 69 → W.1 b = M.1 b) ∧ (∀ j, j ≠ 11 → W.1 69 j = M.1 69 j) ∧ W.2 = M.2 := by
  obtain ⟨h1, h2, h3, t, h4, h5⟩ := id h
  unfold fX12_next
  rw [h5, show (400 : Int32) = nI 400 from rfl, zif_eq (by omega) (by omega)]
  by_cases q : t = 400
  · rw [if_pos q, f_fail h, zbd_some]
    exact ⟨M, rfl, h, fun _ _ => rfl, fun _ _ => rfl, rfl⟩
  · rw [if_neg q, zlet_eq, nI_1]
    exact ⟨_, rfl, ⟨h1, h2, h3, t + 1, by omega, rfl⟩, fun b hb => zpI_r _ _ hb, fun j hj => by rw [zpI_1, if_neg (fun z => hj z.2)], rfl⟩
theorem f_ne {g u : Nat} (h : zFl P g u M) : ¬ M.1 69 13 = 0 ∧ ¬ M.1 69 13 ≤ 0 := by
  rw [h.1]
  exact ⟨nI_ne0 (by have := h.2.1; omega) (by have := h.2.1; omega), nI_nle (by have := h.2.1; omega) (by have := h.2.1; omega)⟩
/-- code is written -/
theorem m_emit {b cd v : Nat} {E : zTm} {x : Nat} (hx : zrk x = cd) (h1 : zsegR M b E) (h2 : M.1 69 32 = nI (b + E.length)) (hb : b + E.length < 1000) : ∃ W, fX12_emit (nI cd) (nI v) M = some W ∧ zsegR W b (E ++ [(x, v)]) ∧ W.1 69 32 = nI (b + (E ++ [(x, v)]).length) ∧ (∀ a, a ≠ 69 → a ≠ 89 → a ≠ 90 → W.1 a = M.1 a) ∧ (∀ j, j ≠ 32 → W.1 69 j = M.1 69 j) ∧ (∀ i, i ≠ b + E.length → W.1 89 i = M.1 89 i ∧ W.1 90 i = M.1 90 i) ∧ W.2 = M.2 := by
  unfold fX12_emit
  rw [h2, z_stI hb (by omega), zbd_some, zpI_r _ _ (show 69 ≠ 89 by omega), h2, z_stI hb (by omega), zbd_some, zpI_r _ _ (show 69 ≠ 90 by omega), zpI_r _ _ (show 69 ≠ 89 by omega), h2, nI_1, zlet_eq]
  have e89 : ∀ i, i ≠ b + E.length → (zpI (zpI (zpI M 89 (b + E.length) (nI cd)) 90 (b + E.length) (nI v)) 69 32 (nI (b + E.length + 1))).1 89 i = M.1 89 i := fun i hi => by
    rw [zpI_r _ _ (by omega), zpI_r _ _ (by omega), zpI_1, if_neg (fun z => hi z.2)]
  have e90 : ∀ i, i ≠ b + E.length → (zpI (zpI (zpI M 89 (b + E.length) (nI cd)) 90 (b + E.length) (nI v)) 69 32 (nI (b + E.length + 1))).1 90 i = M.1 90 i := fun i hi => by
    rw [zpI_r _ _ (by omega), zpI_1, if_neg (fun z => hi z.2), zpI_r _ _ (by omega)]
  have seg : ∀ (E2 : zTm) (i : Nat), i + E2.length ≤ b + E.length → zsegR M i E2 → zsegR (zpI (zpI (zpI M 89 (b + E.length) (nI cd)) 90 (b + E.length) (nI v)) 69 32 (nI (b + E.length + 1))) i E2 := by
    intro E2
    induction E2 with
    | nil => intros; trivial
    | cons y E2 ih =>
      intro i hi hs
      rw [List.length_cons] at hi
      exact ⟨⟨(e89 i (by omega)).trans hs.1.1, (e90 i (by omega)).trans hs.1.2⟩, ih (i + 1) (by omega) hs.2⟩
  have app : ∀ (E2 : zTm) (i : Nat) (F : zTm) (X : zMem), zsegR X i E2 → zsegR X (i + E2.length) F → zsegR X i (E2 ++ F) := by
    intro E2
    induction E2 with
    | nil => intro i F X _ h; exact h
    | cons y E2 ih =>
      intro i F X hs hF
      rw [List.length_cons, show i + (E2.length + 1) = i + 1 + E2.length by omega] at hF
      exact ⟨hs.1, ih (i + 1) F X hs.2 hF⟩
  refine ⟨_, rfl, app _ _ _ _ (seg E b (Nat.le_refl _) h1) ⟨⟨?_, ?_⟩, trivial⟩, ?_, fun a a1 a2 a3 => ?_, fun j hj => ?_, fun i hi => ⟨e89 i hi, e90 i hi⟩, rfl⟩
  · rw [zpI_r _ _ (by omega), zpI_r _ _ (by omega), zpI_1, if_pos ⟨rfl, rfl⟩, hx]
  · rw [zpI_r _ _ (by omega), zpI_1, if_pos ⟨rfl, rfl⟩]
  · rw [zpI_1, if_pos ⟨rfl, rfl⟩, List.length_append]; rfl
  · rw [zpI_r _ _ a1, zpI_r _ _ a3, zpI_r _ _ a2]
  · rw [zpI_1, if_neg (fun z => hj z.2), zpI_r _ _ (by omega), zpI_r _ _ (by omega)]
/-- the waiting signs -/
def zwts (M : zMem) : List Nat → Prop
  | [] => True
  | x :: K => M.1 91 K.length = nI (zck x 0) ∧ zwts M K
theorem zwts_c {W : zMem} : ∀ K, (∀ i, i < K.length → W.1 91 i = M.1 91 i) → zwts M K → zwts W K
  | [], _, _ => trivial
  | x :: K, h, ⟨h1, h2⟩ => ⟨(h K.length (by rw [List.length_cons]; omega)).trans h1, zwts_c K (fun i hi => h i (by rw [List.length_cons]; omega)) h2⟩
theorem zwts_pop {r : Nat} : ∀ K, zwts M K → zwts M (zpop r K).2
  | [], _ => trivial
  | x :: K, h => by
    rw [zpop]
    split
    · exact zwts_pop K h.2
    · exact h
theorem m_coL {b ρ : Nat} (h1 : ρ = 1 ∨ ρ = 2) : ∀ (K : List Nat) (E : zTm) (f : Nat) (M : zMem), (∀ x, x ∈ K → x = 11 ∨ x = 13 ∨ x = 14 ∨ x = 15) → K.length ≤ 20 → K.length < f → zsegR M b E → M.1 69 32 = nI (b + E.length) → b + E.length + zops K ≤ 1000 → M.1 69 36 = nI K.length → zwts M K →
    ∃ W, fX12_comesOut_L0 N f (nI (ρ - 1)) M = some W ∧ zsegR W b (E ++ (zpop ρ K).1) ∧ W.1 69 32 = nI (b + (E ++ (zpop ρ K).1).length) ∧ W.1 69 36 = nI (zpop ρ K).2.length ∧ (∀ a, a ≠ 69 → a ≠ 89 → a ≠ 90 → W.1 a = M.1 a) ∧ (∀ j, j ≠ 32 → j ≠ 36 → W.1 69 j = M.1 69 j) ∧ (∀ i, (i < b + E.length ∨ b + E.length + zops K ≤ i) → W.1 89 i = M.1 89 i ∧ W.1 90 i = M.1 90 i) ∧ W.2 = M.2
  | [], E, f + 1, M, hK, hl, hf, hs, h3, hb, h36, hw => by
    rw [fX12_comesOut_L0, h36, if_pos (by decide), zpop, List.append_nil]
    exact ⟨M, rfl, hs, h3, h36, fun _ _ _ _ => rfl, fun _ _ _ => rfl, fun _ _ => ⟨rfl, rfl⟩, rfl⟩
  | x :: K, E, f + 1, M, hK, hl, hf, hs, h3, hb, h36, hw => by
    rw [List.length_cons] at hl hf h36
    have hx := hK x List.mem_cons_self
    have hK2 : ∀ y, y ∈ K → y = 11 ∨ y = 13 ∨ y = 14 ∨ y = 15 := fun y hy => hK y (List.mem_cons_of_mem _ hy)
    have hck : zck x 0 = if x = 11 then 6 else x - 5 := by
      rcases hx with rfl | rfl | rfl | rfl <;> rfl
    have stop : zpop ρ (x :: K) = ([], x :: K) → (fX12_comesOut_L0 N (f + 1) (nI (ρ - 1)) M = some M) → ∃ W, fX12_comesOut_L0 N (f + 1) (nI (ρ - 1)) M = some W ∧ zsegR W b (E ++ (zpop ρ (x :: K)).1) ∧ W.1 69 32 = nI (b + (E ++ (zpop ρ (x :: K)).1).length) ∧ W.1 69 36 = nI (zpop ρ (x :: K)).2.length ∧ (∀ a, a ≠ 69 → a ≠ 89 → a ≠ 90 → W.1 a = M.1 a) ∧ (∀ j, j ≠ 32 → j ≠ 36 → W.1 69 j = M.1 69 j) ∧ (∀ i, (i < b + E.length ∨ b + E.length + zops (x :: K) ≤ i) → W.1 89 i = M.1 89 i ∧ W.1 90 i = M.1 90 i) ∧ W.2 = M.2 := by
      intro e1 e2
      rw [e1, List.append_nil]
      exact ⟨M, e2, hs, h3, h36, fun _ _ _ _ => rfl, fun _ _ _ => rfl, fun _ _ => ⟨rfl, rfl⟩, rfl⟩
    have pop : ρ ≤ zrnk x → x ≠ 11 → (∀ k0, fX12_comesOut_L43 N k0 (nI (ρ - 1)) M = fX12_comesOut_L43 N k0 (nI (ρ - 1)) M → fX12_comesOut_L0 N (f + 1) (nI (ρ - 1)) M = fX12_comesOut_L43 N (fX12_comesOut_L0 N f) (nI (ρ - 1)) M) → ∃ W, fX12_comesOut_L0 N (f + 1) (nI (ρ - 1)) M = some W ∧ zsegR W b (E ++ (zpop ρ (x :: K)).1) ∧ W.1 69 32 = nI (b + (E ++ (zpop ρ (x :: K)).1).length) ∧ W.1 69 36 = nI (zpop ρ (x :: K)).2.length ∧ (∀ a, a ≠ 69 → a ≠ 89 → a ≠ 90 → W.1 a = M.1 a) ∧ (∀ j, j ≠ 32 → j ≠ 36 → W.1 69 j = M.1 69 j) ∧ (∀ i, (i < b + E.length ∨ b + E.length + zops (x :: K) ≤ i) → W.1 89 i = M.1 89 i ∧ W.1 90 i = M.1 90 i) ∧ W.2 = M.2 := by
      intro q x11 e2
      rw [zops, if_neg x11] at hb ⊢
      rw [e2 (fX12_comesOut_L0 N f) rfl, zpop, if_pos q]
      unfold fX12_comesOut_L43 fX12_comesOut_L85
      rw [zlet_eq, h36, nI_pred, show (zpI M 69 36 (nI K.length)).1 69 36 = nI K.length from rfl, z_ldI (by omega) (by omega), zbd_some, zpI_r _ _ (by omega), hw.1, hck, if_neg x11, show (8 : Int32) = nI 8 from rfl, show (9 : Int32) = nI 9 from rfl, zif_eq (by omega) (by omega), zif_eq (by omega) (by omega)]
      obtain ⟨X, x1, x2, x3, x4, x5, x6, x7⟩ := m_emit (M := zpI M 69 36 (nI K.length)) (b := b) (cd := x - 11) (v := 0) (E := E) (x := x) (by unfold zrk; rw [if_neg (by omega), if_neg (by omega)]) (zsegR_c (zpI_r _ _ (by omega)) (zpI_r _ _ (by omega)) _ _ hs) h3 (by omega)
      have e3 : (if x - 5 = 8 then (fX12_emit (2 : Int32) (0 : Int32) (zpI M 69 36 (nI K.length))).bind fun M6 => fX12_comesOut_L0 N f (nI (ρ - 1)) M6 else if x - 5 = 9 then (fX12_emit (3 : Int32) (0 : Int32) (zpI M 69 36 (nI K.length))).bind fun M6 => fX12_comesOut_L0 N f (nI (ρ - 1)) M6 else (fX12_emit (4 : Int32) (0 : Int32) (zpI M 69 36 (nI K.length))).bind fun M6 => fX12_comesOut_L0 N f (nI (ρ - 1)) M6) = (fX12_emit (nI (x - 11)) (nI 0) (zpI M 69 36 (nI K.length))).bind fun M6 => fX12_comesOut_L0 N f (nI (ρ - 1)) M6 := by
        rcases hx with rfl | rfl | rfl | rfl
        · exact absurd rfl x11
        · rw [if_pos (by omega)]; rfl
        · rw [if_neg (by omega), if_pos (by omega)]; rfl
        · rw [if_neg (by omega), if_neg (by omega)]; rfl
      rw [e3, x1, zbd_some]
      obtain ⟨W, w1, w2, w3, w4, w5, w6, w7, w8⟩ := m_coL h1 K (E ++ [(x, 0)]) f X hK2 (by omega) (by omega) x2 x3 (by rw [List.length_append]; show b + (E.length + 1) + zops K ≤ 1000; omega) (by rw [x5 36 (by omega)]; rfl) (zwts_c (M := M) K (fun i _ => by rw [x4 91 (by omega) (by omega) (by omega), zpI_r _ _ (by omega)]) hw.2)
      refine ⟨W, w1, ?_, ?_, w4, fun a a1 a2 a3 => ?_, fun j j1 j2 => ?_, fun i hi => ?_, ?_⟩
      · rw [List.append_assoc] at w2; exact w2
      · rw [List.append_assoc] at w3; exact w3
      · rw [w5 a a1 a2 a3, x4 a a1 a2 a3, zpI_r _ _ a1]
      · rw [w6 j j1 j2, x5 j j1, zpI_1, if_neg (fun z => j2 z.2)]
      · obtain ⟨d1, d2⟩ := w7 i (by rw [List.length_append]; show i < b + (E.length + 1) ∨ b + (E.length + 1) + zops K ≤ i; omega)
        obtain ⟨d3, d4⟩ := x6 i (by omega)
        rw [d1, d2, d3, d4, zpI_r _ _ (by omega), zpI_r _ _ (by omega)]
        exact ⟨rfl, rfl⟩
      · rw [w8, x7, zpI_2]
    have head : fX12_comesOut_L0 N (f + 1) (nI (ρ - 1)) M = if x = 11 then some M else if ρ = 1 then fX12_comesOut_L43 N (fX12_comesOut_L0 N f) (nI (ρ - 1)) M else if x = 15 then fX12_comesOut_L43 N (fX12_comesOut_L0 N f) (nI (ρ - 1)) M else some M := by
      rw [fX12_comesOut_L0, h36, if_neg (nI_nle (by omega) (by omega)), nI_pred, z_ldI (by omega) (by omega), zbd_some, hw.1, zbd_some, hck]
      by_cases q : x = 11
      · rw [if_pos q, if_pos q, if_pos (show nI 6 = 6 from rfl)]
      · rw [if_neg q, if_neg q, show (6 : Int32) = nI 6 from rfl, show (10 : Int32) = nI 10 from rfl, show (0 : Int32) = nI 0 from rfl, zif_eq (by omega) (by omega), if_neg (by omega), zif_eq (by omega) (by omega), zif_eq (by omega) (by omega)]
        rcases h1 with rfl | rfl
        · rw [if_pos (show 1 - 1 = 0 from rfl), if_pos (show (1 : Nat) = 1 from rfl)]
        · rw [if_neg (show ¬ (2 - 1 = 0) by omega), if_neg (show ¬ (2 : Nat) = 1 by omega)]
          by_cases q15 : x = 15
          · rw [if_pos (show x = 15 from q15), if_pos (show x - 5 = 10 by omega)]
          · rw [if_neg (show ¬ x = 15 from q15), if_neg (show ¬ x - 5 = 10 by omega)]
    rcases hx with e | e | e | e
    · refine stop ?_ (by rw [head, if_pos e])
      rw [zpop, e, if_neg (by show ¬ ρ ≤ 0; omega)]
    · rcases h1 with rfl | rfl
      · exact pop (by rw [e]; decide) (by omega) (fun _ _ => by rw [head, if_neg (by omega), if_pos rfl])
      · refine stop (by rw [zpop, e, if_neg (by decide)]) (by rw [head, if_neg (by omega), if_neg (by omega), if_neg (by omega)])
    · rcases h1 with rfl | rfl
      · exact pop (by rw [e]; decide) (by omega) (fun _ _ => by rw [head, if_neg (by omega), if_pos rfl])
      · refine stop (by rw [zpop, e, if_neg (by decide)]) (by rw [head, if_neg (by omega), if_neg (by omega), if_neg (by omega)])
    · rcases h1 with rfl | rfl
      · exact pop (by rw [e]; decide) (by omega) (fun _ _ => by rw [head, if_neg (by omega), if_pos rfl])
      · exact pop (by rw [e]; decide) (by omega) (fun _ _ => by rw [head, if_neg (by omega), if_neg (by omega), if_pos e])
end RSIM1
