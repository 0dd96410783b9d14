/-! RULES: how terms and conditions are worked out -/
def zcomb (k : Nat) (a b : Int32) : Int32 := if k = 13 then a + b else if k = 14 then a - b else if k = 15 then a * b else if k = 16 then (if a = b then 1 else 0) else if k = 17 then (if a = b then 0 else 1) else if k = 18 then (if b ≤ a then 0 else 1) else if k = 19 then (if b < a then 0 else 1) else a &&& b
def zap (k : Nat) : List Int32 → List Int32
  | b :: a :: t => zcomb k a b :: t
  | t => t
def zev (F : Nat → Int32) : List (Nat × Nat) → List Int32 → List Int32
  | [], s => s
  | x :: L, s => zev F L (if x.1 = 2 then nI x.2 :: s else if x.1 = 3 then F x.2 :: s else zap x.1 s)
def zkok (x : Nat × Nat) : Prop := (x.1 = 2 ∧ x.2 < 10000) ∨ (x.1 = 3 ∧ x.2 < 6) ∨ ((x.1 = 13 ∨ x.1 = 14 ∨ x.1 = 15 ∨ x.1 = 16 ∨ x.1 = 17 ∨ x.1 = 18 ∨ x.1 = 19 ∨ x.1 = 9) ∧ x.2 = 0)
def zdc : List (Nat × Nat) → Nat → Option Nat
  | [], d => some d
  | x :: L, d => if x.1 = 2 ∨ x.1 = 3 then (if d < 32 then zdc L (d + 1) else none) else if 2 ≤ d then zdc L (d - 1) else none
def zstk (M : zMem) (p : Nat) : List Int32 → Prop
  | [] => True
  | x :: s => M.1 p s.length = x ∧ zstk M p s
theorem zstk_c {M W : zMem} {p : Nat} : ∀ s : List Int32, (∀ j, j < s.length → W.1 p j = M.1 p j) → zstk M p s → zstk W p s
  | [], _, _ => trivial
  | x :: s, h, ⟨h1, h2⟩ => ⟨by rw [h s.length (by simp)]; exact h1, zstk_c s (fun j hj => h j (by simp; omega)) h2⟩
theorem zstk_push {M : zMem} {p : Nat} {s : List Int32} {v : Int32} (h : zstk M p s) : zstk (zpI M p s.length v) p (v :: s) := by
  refine ⟨by rw [zpI_1, if_pos ⟨rfl, rfl⟩], zstk_c s (fun j hj => ?_) h⟩
  rw [zpI_1, if_neg (by omega)]
theorem zstk_bot {M : zMem} {p : Nat} {v : Int32} (h : zstk M p [v]) : M.1 p 0 = v := h.1
/-- all but one row -/
def zbut (p : Nat) (M W : zMem) : Prop := W.2 = M.2 ∧ ∀ a, a ≠ p → W.1 a = M.1 a
theorem zbut_r (p : Nat) (M : zMem) : zbut p M M := ⟨rfl, fun _ _ => rfl⟩
theorem zbut_t {p : Nat} {M W X : zMem} (h1 : zbut p M W) (h2 : zbut p W X) : zbut p M X := ⟨by rw [h2.1, h1.1], fun a ha => by rw [h2.2 a ha, h1.2 a ha]⟩
theorem zbut_p {p k : Nat} {M : zMem} {v : Int32} : zbut p M (zpI M p k v) := ⟨rfl, fun a ha => zpI_r _ _ ha⟩
theorem z_dec {k v : Nat} (hk : k < 32) (hv : v < 10000) : nI (32 * v + k) &&& (31 : Int32) = nI k ∧ nI (32 * v + k) >>> ((5 : Int32) &&& 31) = nI v := by
  constructor
  · rw [show (31 : Int32) = nI (2 ^ 5 - 1) from rfl, fa_mask]
    congr 1; omega
  · apply Int32.toBitVec_inj.1
    rw [Int32.toBitVec_shiftRight]
    have e5 : ((5 : Int32) &&& 31).toBitVec.smod 32 = BitVec.ofNat 32 5 := by decide
    rw [e5]
    apply BitVec.eq_of_toNat_eq
    have hm : (nI (32 * v + k)).toBitVec.msb = false := by
      show (BitVec.ofNat 32 (32 * v + k)).msb = false
      rw [BitVec.msb_eq_decide, BitVec.toNat_ofNat, Nat.mod_eq_of_lt (by omega)]
      simp
      omega
    show ((nI (32 * v + k)).toBitVec.sshiftRight (BitVec.ofNat 32 5).toNat).toNat = (BitVec.ofNat 32 v).toNat
    rw [BitVec.sshiftRight_eq_of_msb_false hm, BitVec.toNat_ushiftRight]
    show ((BitVec.ofNat 32 (32 * v + k)).toNat >>> (BitVec.ofNat 32 5).toNat) = (BitVec.ofNat 32 v).toNat
    rw [BitVec.toNat_ofNat, BitVec.toNat_ofNat, BitVec.toNat_ofNat, Nat.mod_eq_of_lt (by omega), Nat.mod_eq_of_lt (by omega), Nat.mod_eq_of_lt (by omega), Nat.shiftRight_eq_div_pow]
    omega
theorem p_comb {k : Nat} (hk : k = 13 ∨ k = 14 ∨ k = 15 ∨ k = 16 ∨ k = 17 ∨ k = 18 ∨ k = 19 ∨ k = 9) (a b : Int32) (M : zMem) : fX6_combine (nI k) a b M = some (zcomb k a b, M) := by
  unfold fX6_combine zcomb
  rcases hk with rfl | rfl | rfl | rfl | rfl | rfl | rfl | rfl
  · rw [if_pos (by decide)]; simp
  · rw [if_neg (by decide), if_pos (by decide)]; simp
  · rw [if_neg (by decide), if_neg (by decide), if_pos (by decide)]; simp
  · rw [if_neg (by decide), if_neg (by decide), if_neg (by decide), if_pos (by decide)]; simp; split <;> rfl
  · rw [if_neg (by decide), if_neg (by decide), if_neg (by decide), if_neg (by decide), if_pos (by decide)]; simp; split <;> rfl
  · rw [if_neg (by decide), if_neg (by decide), if_neg (by decide), if_neg (by decide), if_neg (by decide), if_pos (by decide)]; simp; split <;> rfl
  · rw [if_neg (by decide), if_neg (by decide), if_neg (by decide), if_neg (by decide), if_neg (by decide), if_neg (by decide), if_pos (by decide)]; simp; split <;> rfl
  · rw [if_neg (by decide), if_neg (by decide), if_neg (by decide), if_neg (by decide), if_neg (by decide), if_neg (by decide), if_neg (by decide)]; simp
/-- the class's loop over a piece of code -/
theorem p_wrun {r0 cs to_ : Nat} (hr : r0 = 3 ∨ r0 = 11) (hcs : cs ≤ 400) (hto : to_ ≤ cs) {F : Nat → Int32} {N : Nat} : ∀ (L : List (Nat × Nat)) (s : List Int32) (i f d' : Nat) (M : zMem), (∀ x, x ∈ L → zkok x) → zdc L s.length = some d' → s.length ≤ 32 → i + L.length ≤ to_ → zsegC M (r0 + 6) i L → zstk M (r0 + 7) s → M.1 r0 8 = nI cs → (∀ j, j < 6 → M.1 64 j = F j) →
    ∃ W, fX6_workOut_L10 r0 N (f + L.length) (nI to_) (nI s.length) (nI i) M = fX6_workOut_L10 r0 N f (nI to_) (nI (zev F L s).length) (nI (i + L.length)) W ∧ zbut (r0 + 7) M W ∧ zstk W (r0 + 7) (zev F L s) ∧ (zev F L s).length = d' ∧ d' ≤ 32
  | [], s, i, f, d', M, hk, hd, hs32, hi, hg, hs, h8, hF => by
    refine ⟨M, rfl, zbut_r _ M, hs, Option.some.inj hd, ?_⟩
    have : s.length = d' := Option.some.inj hd
    omega
  | x :: L, s, i, f, d', M, hk, hd, hs32, hi, hg, hs, h8, hF => by
    have hx := hk x (List.mem_cons.mpr (Or.inl rfl))
    have hk' : ∀ y, y ∈ L → zkok y := fun y hy => hk y (List.mem_cons.mpr (Or.inr hy))
    rw [List.length_cons] at hi ⊢
    obtain ⟨g1, g2⟩ := hg
    have hx32 : x.1 < 32 ∧ x.2 < 10000 := by unfold zkok at hx; omega
    obtain ⟨dk, dv⟩ := z_dec hx32.1 hx32.2
    rw [show f + (L.length + 1) = (f + L.length) + 1 by omega, fX6_workOut_L10, if_neg (by rw [z_le (by omega) (by omega)]; omega), h8, if_neg (by rw [z_le (by omega) (by omega)]; omega), z_ldI (by omega) (by omega), zbd_some, g1, zlet_eq, dk, zbd_some, zlet_eq, dv]
    -- the continuation
    have next : ∀ (W : zMem) (s2 : List Int32), zbut (r0 + 7) M W → zstk W (r0 + 7) s2 → zdc L s2.length = some d' → s2.length ≤ 32 → ∃ X, fX6_workOut_L157 r0 N (fX6_workOut_L10 r0 N (f + L.length)) (nI to_) (nI s2.length) (nI i) W = fX6_workOut_L10 r0 N f (nI to_) (nI (zev F L s2).length) (nI (i + (L.length + 1))) X ∧ zbut (r0 + 7) M X ∧ zstk X (r0 + 7) (zev F L s2) ∧ (zev F L s2).length = d' ∧ d' ≤ 32 := by
      intro W s2 hb hs2 hd2 hl2
      obtain ⟨X, x1, x2, x3, x4, x5⟩ := p_wrun hr hcs hto (F := F) (N := N) L s2 (i + 1) f d' W hk' hd2 hl2 (by omega) (zsegC_c (hb.2 _ (by omega)) _ _ g2) hs2 (by rw [hb.2 r0 (by omega)]; exact h8) (by rw [hb.2 64 (by omega)]; exact hF)
      refine ⟨X, ?_, zbut_t hb x2, x3, x4, x5⟩
      unfold fX6_workOut_L157
      rw [zlet_eq, nI_1, x1, show i + 1 + L.length = i + (L.length + 1) by omega]
    rw [zdc] at hd
    rcases hx with ⟨e1, e2⟩ | ⟨e1, e2⟩ | ⟨e1, e2⟩
    · have ex : nI x.1 = (2 : Int32) := by rw [e1]; rfl
      rw [if_pos (Or.inl e1)] at hd
      by_cases q : s.length < 32
      · rw [if_pos q] at hd
        rw [if_pos ex, show (32 : Int32) = nI 32 from rfl, if_neg (by rw [z_le (by omega) (by omega)]; omega), z_stI (by omega) (by omega), zbd_some, zlet_eq, nI_1]
        have ev : zev F (x :: L) s = zev F L (nI x.2 :: s) := by rw [zev, if_pos e1]
        rw [ev]
        exact next (zpI M (r0 + 7) s.length (nI x.2)) (nI x.2 :: s) zbut_p (zstk_push hs) hd (by simp; omega)
      · rw [if_neg q] at hd; cases hd
    · have ex : ¬ nI x.1 = (2 : Int32) := by rw [e1]; decide
      have ex3 : nI x.1 = (3 : Int32) := by rw [e1]; rfl
      rw [if_pos (Or.inr e1)] at hd
      by_cases q : s.length < 32
      · rw [if_pos q] at hd
        rw [if_neg ex]
        unfold fX6_workOut_L76
        rw [if_pos ex3, show (32 : Int32) = nI 32 from rfl, if_neg (by rw [z_le (by omega) (by omega)]; omega), if_neg (nI_pos (by omega)), show (6 : Int32) = nI 6 from rfl, if_neg (by rw [z_le (by omega) (by omega)]; omega), z_ldI (by omega) (by omega), zbd_some, hF x.2 e2, z_stI (by omega) (by omega), zbd_some, zlet_eq, nI_1]
        have ev : zev F (x :: L) s = zev F L (F x.2 :: s) := by rw [zev, if_neg (by omega), if_pos e1]
        rw [ev]
        exact next (zpI M (r0 + 7) s.length (F x.2)) (F x.2 :: s) zbut_p (zstk_push hs) hd (by simp; omega)
      · rw [if_neg q] at hd; cases hd
    · have n2 : ¬ (x.1 = 2 ∨ x.1 = 3) := by omega
      have ex : ¬ nI x.1 = (2 : Int32) := by rw [show (2 : Int32) = nI 2 from rfl, z_eq (by omega) (by omega)]; omega
      have ex3 : ¬ nI x.1 = (3 : Int32) := by rw [show (3 : Int32) = nI 3 from rfl, z_eq (by omega) (by omega)]; omega
      rw [if_neg n2] at hd
      match s, hs, hd, hs32 with
      | [], _, hd, _ => simp at hd
      | [b], _, hd, _ => simp at hd
      | b :: a :: t, hs, hd, hs32 =>
        rw [if_pos (by simp)] at hd
        obtain ⟨s1, s2, s3⟩ := hs
        simp only [List.length_cons] at hs32 s1 hd
        rw [if_neg ex]
        unfold fX6_workOut_L76
        rw [if_neg ex3]
        unfold fX6_workOut_L118
        have el : nI (b :: a :: t).length = nI (t.length + 2) := rfl
        have e1' : nI (t.length + 2) + (-1 : Int32) = nI (t.length + 1) := by rw [show (-1 : Int32) = -nI 1 from rfl, ← Int32.sub_eq_add_neg, z_sub (by omega)]; rfl
        have e2' : nI (t.length + 1) - (1 : Int32) = nI t.length := by rw [show (1 : Int32) = nI 1 from rfl, z_sub (by omega)]; rfl
        rw [el, show (2 : Int32) = nI 2 from rfl, if_neg (by rw [z_lt (by omega) (by omega)]; omega), zlet_eq, e1', e2', z_ldI (by omega) (by omega), zbd_some, z_ldI (by omega) (by omega), zbd_some, s1, s2, p_comb e1, zb2_some, z_stI (by omega) (by omega), zbd_some]
        have ev : zev F (x :: L) (b :: a :: t) = zev F L (zcomb x.1 a b :: t) := by rw [zev, if_neg (by omega), if_neg (by omega)]; rfl
        rw [ev]
        exact next (zpI M (r0 + 7) t.length (zcomb x.1 a b)) (zcomb x.1 a b :: t) zbut_p (zstk_push s3) hd (by simp; omega)
theorem zdp_dc : ∀ (L : List (Nat × Nat)) (d d' t : Nat), t ≤ 16 → zdp L d = some d' → zdc L (d + t) = some (d' + t)
  | [], d, d', t, ht, h => by rw [Option.some.inj h]; rfl
  | x :: L, d, d', t, ht, h => by
    rw [zdp] at h
    rw [zdc]
    by_cases q : x.1 = 2 ∨ x.1 = 3
    · rw [if_pos q] at h ⊢
      by_cases q2 : d < 16
      · rw [if_pos q2] at h
        rw [if_pos (by omega), show d + t + 1 = d + 1 + t by omega]
        exact zdp_dc L (d + 1) d' t ht h
      · rw [if_neg q2] at h; cases h
    · rw [if_neg q] at h ⊢
      by_cases q2 : 2 ≤ d
      · rw [if_pos q2] at h
        rw [if_pos (by omega), show d + t - 1 = d - 1 + t by omega]
        exact zdp_dc L (d - 1) d' t ht h
      · rw [if_neg q2] at h; cases h
theorem zdc_app : ∀ (L K : List (Nat × Nat)) (d e : Nat), zdc L d = some e → zdc (L ++ K) d = zdc K e
  | [], K, d, e, h => by rw [Option.some.inj h]; rfl
  | x :: L, K, d, e, h => by
    rw [List.cons_append, zdc]
    rw [zdc] at h
    by_cases q : x.1 = 2 ∨ x.1 = 3
    · rw [if_pos q] at h ⊢
      by_cases q2 : d < 32
      · rw [if_pos q2] at h ⊢; exact zdc_app L K _ e h
      · rw [if_neg q2] at h; cases h
    · rw [if_neg q] at h ⊢
      by_cases q2 : 2 ≤ d
      · rw [if_pos q2] at h ⊢; exact zdc_app L K _ e h
      · rw [if_neg q2] at h; cases h
theorem zev_app (F : Nat → Int32) : ∀ (L K : List (Nat × Nat)) (s : List Int32), zev F (L ++ K) s = zev F K (zev F L s)
  | [], K, s => rfl
  | x :: L, K, s => by
    rw [List.cons_append, zev, zev]
    exact zev_app F L K _
/-- a piece that stands by itself leaves what lies below -/
theorem zev_deep (F : Nat → Int32) : ∀ (L : List (Nat × Nat)) (s : List Int32) (d' : Nat), zdp L s.length = some d' → ∃ s', s'.length = d' ∧ ∀ t, zev F L (s ++ t) = s' ++ t
  | [], s, d', h => ⟨s, Option.some.inj h, fun _ => rfl⟩
  | x :: L, s, d', h => by
    rw [zdp] at h
    by_cases q : x.1 = 2
    · rw [if_pos (Or.inl q)] at h
      by_cases q2 : s.length < 16
      · rw [if_pos q2] at h
        obtain ⟨s', e1, e2⟩ := zev_deep F L (nI x.2 :: s) d' h
        refine ⟨s', e1, fun t => ?_⟩
        rw [zev, if_pos q]; exact e2 t
      · rw [if_neg q2] at h; cases h
    · by_cases q3 : x.1 = 3
      · rw [if_pos (Or.inr q3)] at h
        by_cases q2 : s.length < 16
        · rw [if_pos q2] at h
          obtain ⟨s', e1, e2⟩ := zev_deep F L (F x.2 :: s) d' h
          refine ⟨s', e1, fun t => ?_⟩
          rw [zev, if_neg q, if_pos q3]; exact e2 t
        · rw [if_neg q2] at h; cases h
      · rw [if_neg (by omega)] at h
        match s, h with
        | [], h => simp at h
        | [b], h => simp at h
        | b :: a :: t0, h =>
          rw [if_pos (by simp)] at h
          obtain ⟨s', e1, e2⟩ := zev_deep F L (zcomb x.1 a b :: t0) d' h
          refine ⟨s', e1, fun t => ?_⟩
          show zev F (x :: L) (b :: a :: (t0 ++ t)) = _
          rw [zev, if_neg q, if_neg q3]; exact e2 t
def ztv (F : Nat → Int32) (T : List (Nat × Nat)) : Int32 := (zev F T []).headD 0
theorem ztv_ev {F : Nat → Int32} {T : List (Nat × Nat)} (h : zterm T) (t : List Int32) : zev F T t = ztv F T :: t := by
  obtain ⟨s', e1, e2⟩ := zev_deep F T [] 1 h.1
  match s', e1 with
  | [v], _ =>
    have h0 := e2 []
    have h1 := e2 t
    rw [List.nil_append] at h0 h1
    rw [h1]
    unfold ztv
    rw [h0]
    rfl
def zrelB (s : Nat) (a b : Int32) : Bool := if s = 0 then decide (a = b) else if s = 1 then decide (¬ a = b) else if s = 2 then decide (¬ b ≤ a) else decide (¬ b < a)
def zholdR (F : Nat → Int32) : List (Nat × List (Nat × Nat) × List (Nat × Nat)) → Bool
  | [] => true
  | x :: Rs => zrelB x.1 (ztv F x.2.1) (ztv F x.2.2) && zholdR F Rs
def zbi (b : Bool) : Int32 := if b then 1 else 0
theorem zcomb_rel {s : Nat} (hs : s < 4) (a b : Int32) : zcomb (16 + s) a b = zbi (zrelB s a b) := by
  unfold zcomb zrelB zbi
  rcases (show s = 0 ∨ s = 1 ∨ s = 2 ∨ s = 3 by omega) with rfl | rfl | rfl | rfl
  · by_cases h : a = b <;> simp [h]
  · by_cases h : a = b <;> simp [h]
  · by_cases h : b ≤ a <;> simp [h]
  · by_cases h : b < a <;> simp [h]
theorem zcomb_and (a b : Bool) : zcomb 9 (zbi a) (zbi b) = zbi (a && b) := by
  cases a <;> cases b <;> decide
