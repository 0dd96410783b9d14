theorem zK_start {p : Program} {s : State} {m : MethodId} {meth : Method} {c : Code} {b L : Nat} {xs : Nat → Int32} (C0 : lw_At p s m meth c b L xs) : ∃ (D : va_G) (cT : Nat → ClassId) (sA sB : Nat → Nat), ∀ ad : Nat → Nat, zK (D, cT, ad, (fun q : Nat => s.heap.size ≤ q), sA, sB) s := by
  obtain ⟨hx, hb, hr, hml, hown, hts, hX, hbl, hlocks, hgv⟩ := C0
  have hT : ∀ w ∈ zT, w.before #[Value.ref b] s = true := fun w h => hts w (zT_tbl h)
  have hf : ∀ c ∈ kF, c.before #[Value.ref b] s = true := flat_of_before _ hgv
  have hA : ∀ a : Nat, a < s.heap.size → ¬ (fun q : Nat => s.heap.size ≤ q) a := fun a h => Nat.not_le.mpr h
  obtain ⟨cX0, iX0, hKnX0⟩ := u_known (C := RX0) (T := TX0) (N := 2) (n := 2) hT zcok_X0.1 (hT _ kI_X0)
  obtain ⟨cX1, iX1, hKnX1⟩ := u_known (C := RX1) (T := TX1) (N := 11) (n := 11) hT zcok_X1.1 (hT _ kI_X1)
  obtain ⟨cX2, iX2, hKnX2⟩ := u_known (C := RX2) (T := TX2) (N := 13) (n := 13) hT zcok_X2.1 (hT _ kI_X2)
  obtain ⟨cX3, iX3, hKnX3⟩ := u_known (C := RX3) (T := TX3) (N := 4) (n := 4) hT zcok_X3.1 (hT _ kI_X3)
  obtain ⟨cX4, iX4, hKnX4⟩ := u_known (C := RX4) (T := TX4) (N := 4) (n := 4) hT zcok_X4.1 (hT _ kI_X4)
  obtain ⟨cX5, iX5, hKnX5⟩ := u_known (C := RX5) (T := TX5) (N := 11) (n := 11) hT zcok_X5.1 (hT _ kI_X5)
  obtain ⟨cX6, iX6, hKnX6⟩ := u_known (C := RX6) (T := TX6) (N := 9) (n := 9) hT zcok_X6.1 (hT _ kI_X6)
  obtain ⟨cX7, iX7, hKnX7⟩ := u_known (C := RX7) (T := TX7) (N := 13) (n := 13) hT zcok_X7.1 (hT _ kI_X7)
  obtain ⟨cX8, iX8, hKnX8⟩ := u_known (C := RX8) (T := TX8) (N := 2) (n := 2) hT zcok_X8.1 (hT _ kI_X8)
  obtain ⟨cX9, iX9, hKnX9⟩ := u_known (C := RX9) (T := TX9) (N := 8) (n := 8) hT zcok_X9.1 (hT _ kI_X9)
  obtain ⟨cX10, iX10, hKnX10⟩ := u_known (C := RX10) (T := TX10) (N := 4) (n := 4) hT zcok_X10.1 (hT _ kI_X10)
  obtain ⟨cX11, iX11, hKnX11⟩ := u_known (C := RX11) (T := TX11) (N := 12) (n := 12) hT zcok_X11.1 (hT _ kI_X11)
  obtain ⟨cX12, iX12, hKnX12⟩ := u_known (C := RX12) (T := TX12) (N := 85) (n := 85) hT zcok_X12.1 (hT _ kI_X12)
  obtain ⟨D, hKc⟩ : ∃ D : va_G, ∀ (k : Nat) (q : vw_C), classes[k]? = some q → u_Kn s q.1 q.2.1 q.2.2 (D.1 k) (D.2 k) := by
    refine ⟨(fun k => [cX0, cX1, cX2, cX3, cX4, cX5, cX6, cX7, cX8, cX9, cX10, cX11, cX12].getD k cX0, fun k => [iX0, iX1, iX2, iX3, iX4, iX5, iX6, iX7, iX8, iX9, iX10, iX11, iX12].getD k iX0), ?_⟩
    intro k q hq
    match k, hq with
    | 0, hq => cases hq; exact hKnX0
    | 1, hq => cases hq; exact hKnX1
    | 2, hq => cases hq; exact hKnX2
    | 3, hq => cases hq; exact hKnX3
    | 4, hq => cases hq; exact hKnX4
    | 5, hq => cases hq; exact hKnX5
    | 6, hq => cases hq; exact hKnX6
    | 7, hq => cases hq; exact hKnX7
    | 8, hq => cases hq; exact hKnX8
    | 9, hq => cases hq; exact hKnX9
    | 10, hq => cases hq; exact hKnX10
    | 11, hq => cases hq; exact hKnX11
    | 12, hq => cases hq; exact hKnX12
    | k + 13, hq => simp [classes] at hq
  obtain ⟨t0, kA0, co0, hf0, hk0, hd0⟩ := Cond.arrayClass_spec (hT _ kA_int)
  obtain ⟨t1, kA1, co1, hf1, hk1, hd1⟩ := Cond.arrayClass_spec (hT _ kA_long)
  obtain ⟨t2, kA2, co2, hf2, hk2, hd2⟩ := Cond.arrayClass_spec (hT _ kA_byte)
  obtain ⟨t3, kA3, co3, hf3, hk3, hd3⟩ := Cond.arrayClass_spec (hT _ kA_boolean)
  have hK : va_K D classes [(t0, .int), (t1, .long), (t2, .byte), (t3, .boolean)] s := by
    refine ⟨hKc, fun k q hq => ?_⟩
    match k, hq with
    | 0, hq => cases hq; exact ⟨fun n z => ⟨fun k h => (by cases h), kA0, hk0, co0, hd0⟩, hf0⟩
    | 1, hq => cases hq; exact ⟨fun n z => ⟨fun k h => (by cases h), kA1, hk1, co1, hd1⟩, hf1⟩
    | 2, hq => cases hq; exact ⟨fun n z => ⟨fun k h => (by cases h), kA2, hk2, co2, hd2⟩, hf2⟩
    | 3, hq => cases hq; exact ⟨fun n z => ⟨fun k h => (by cases h), kA3, hk3, co3, hd3⟩, hf3⟩
    | k + 4, hq => simp at hq
  obtain ⟨sA, sB, hSt, hTe⟩ := vk_Sof (args := #[Value.ref b]) (s := s) (N := 12) (tm := ktm) (len := zLen) (byt := zByt) (A := fun q : Nat => s.heap.size ≤ q) (by decide) (fun i hi => hf _ (kx_ex i hi)) (fun i hi => hf _ (kx_co i hi)) (fun i hi => hf _ (kx_ar i hi)) (fun i hi => hf _ (kx_le i hi)) (fun i hi j hj => hf _ (kx_el i hi j hj)) (fun i j hi hj hne => (Nat.lt_or_gt_of_ne hne).elim (fun h => Or.inl (hf _ (kx_ne j hj i h))) (fun h => Or.inr (hf _ (kx_ne i hi j h)))) hA
  refine ⟨D, fun k => [t0, t1, t2, t3].getD k t0, sA, sB, fun ad => ⟨hK, ?_, hSt, fun i hi => vk_R.of (hts _ (List.mem_of_getElem? (kx_sr i hi))) (hTe i hi), ?_, ?_⟩⟩
  · intro q hq
    simp only [zNs, List.mem_cons, List.not_mem_nil, or_false] at hq
    rcases hq with rfl | rfl | rfl | rfl | rfl
    · exact va_Nw.of rfl (hts _ (List.mem_of_getElem? (i := 656) (by decide +kernel)))
    · exact va_Nw.of rfl (hts _ (List.mem_of_getElem? (i := 775) (by decide +kernel)))
    · exact va_Nw.of rfl (hts _ (List.mem_of_getElem? (i := 796) (by decide +kernel)))
    · exact va_Nw.of rfl (hts _ (List.mem_of_getElem? (i := 850) (by decide +kernel)))
    · exact va_Nw.of rfl (hts _ (List.mem_of_getElem? (i := 1011) (by decide +kernel)))
  · exact va_Zof (hts _ (List.mem_of_getElem? (i := 553) (by decide +kernel))) (hts _ (List.mem_of_getElem? (i := 90) (by decide +kernel))) (va_eqt (hf _ kx_cs)) hA
  · exact va_Zqof (hts _ (List.mem_of_getElem? (i := 569) (by decide +kernel))) (hts _ (List.mem_of_getElem? (i := 92) (by decide +kernel))) (hf _ kx_sf) hA
/-- the first world -/
def zaddr (h0 : Nat) (a : Nat → Nat) (h1 : Nat) (b : Nat → Nat) (k : Nat) : Nat := if k = 0 then h0 else if k < 69 then a (k - 1) else if k = 69 then h1 else b (k - 70)
set_option maxRecDepth 100000 in
theorem k_first (D : va_G) (cT : Nat → ClassId) (h0 : Nat) (a : Nat → Nat) (h1 : Nat) (b : Nat → Nat) (A : Nat → Prop) (sA sB : Nat → Nat) : zwl (D, cT, zaddr h0 a h1 b, A, sA, sB) zM0 0 SH = wX11 cT h0 a ++ wX12 cT h1 zkfn b := rfl
