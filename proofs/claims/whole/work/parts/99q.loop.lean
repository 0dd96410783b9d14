/-! THE LAW: its loop -/
theorem z_31 (x : Int32) : ∃ m, m < 32 ∧ x &&& 31 = nI m := by
  refine ⟨(x.toBitVec &&& 31#32).toNat, ?_, ?_⟩
  · rw [BitVec.toNat_and]
    have h := Nat.and_le_right (n := x.toBitVec.toNat) (m := (31#32).toNat)
    have e : (31#32).toNat = 31 := by decide
    omega
  · apply Int32.toBitVec_inj.1
    show x.toBitVec &&& 31#32 = BitVec.ofNat 32 (x.toBitVec &&& 31#32).toNat
    rw [BitVec.ofNat_toNat, BitVec.setWidth_eq]
section LOOP
variable {l : Launch} {G : zG} {b L : Nat} {xs : Nat → Int32} {pc : Nat} {lv : List (Nat × Value)} {st : List Value} {M : zMem}
theorem l_icmpgt {x y : Int32} {off : Int} {tgt : Nat} (hd : decode code pc = .ok (.if_icmp .gt off, 3)) (ht : (pc : Int) + off = (tgt : Int)) (kt : y < x → Lx l G b L xs tgt lv st M) (kf : ¬ y < x → Lx l G b L xs (pc + 3) lv st M) : Lx l G b L xs pc lv (.int y :: .int x :: st) M := by
  intro p e s m below meth c H locs ls C hA hK hS hP hl
  exact lv_icmp_gt C.1 C.2.1 hd ht (fun z => kt z p e s m below meth c H locs ls C hA hK hS hP hl) (fun z => kf z p e s m below meth c H locs ls C hA hK hS hP hl)
theorem l_in {dflt lo hi : Int} {offs : Array Int} {len : Nat} {x : Int32} {off : Int} {tgt : Nat} (hd : decode code pc = .ok (.tableswitch dflt lo hi offs, len)) (h1 : ¬ x.toInt < lo) (h2 : ¬ hi < x.toInt) (ho : offs[(x.toInt - lo).toNat]? = some off) (ht : (pc : Int) + off = (tgt : Int)) (k : Lx l G b L xs tgt lv st M) : Lx l G b L xs pc lv (.int x :: st) M :=
  fun p e s m below meth c H locs ls C hA hK hS hP hl => lv_tableIn C.1 C.2.1 hd h1 h2 ho ht (k p e s m below meth c H locs ls C hA hK hS hP hl)
theorem l_out {dflt lo hi : Int} {offs : Array Int} {len : Nat} {x : Int32} {tgt : Nat} (hd : decode code pc = .ok (.tableswitch dflt lo hi offs, len)) (h : x.toInt < lo ∨ hi < x.toInt) (ht : (pc : Int) + dflt = (tgt : Int)) (k : Lx l G b L xs tgt lv st M) : Lx l G b L xs pc lv (.int x :: st) M :=
  fun p e s m below meth c H locs ls C hA hK hS hP hl => lv_tableOut C.1 C.2.1 hd h ht (k p e s m below meth c H locs ls C hA hK hS hP hl)
theorem l_end : Lx l G b L xs 909 lv [] M := by
  intro p e s m below meth c H locs ls C hA hK hS hP hl
  obtain ⟨hx, hb, hr, hml, hown, hts, hX, hbl, hlocks, hgv⟩ := id C
  refine lv_iconst (v := 1) hx hb dL_909 (by decide) ?_
  refine va_forget (fun q hq => by have := hS.2.2 q hq; rw [hA] at this; exact this) ?_
  refine W.widen (k := 600000) (n := 7302250) (by omega) (by omega) ?_
  exact lw_ret hx hb hr hlocks dL_910
theorem l_next {i : Nat} (kk : Lx l G b L xs 18 (Llv G b (nI (i + 6))) [] M) : Lx l G b L xs 903 (Llv G b (nI i)) [] M := by
  intro p e s m below meth c H locs ls C hA hK hS hP hl
  refine lv_iinc (v := nI (i + 6)) (lv' := [(3, .int (nI (i + 6))), (0, .ref b), (1, .ref (G.2.2.1 0)), (2, .ref (G.2.2.1 69))]) C.1 C.2.1 dL_903 hl (k := 3) rfl (by rw [show Int32.ofInt 6 = nI 6 from rfl, nI_add]) (by decide) rfl (fun ls2 hl2 => ?_)
  refine lv_goto (tgt := 18) C.1 C.2.1 dL_906 (by decide) ?_
  exact kk p e s m below meth c H locs ls2 C hA hK hS hP (lv_sub hl2 [1, 2, 3, 0] rfl)
theorem law_switch {i : Nat} (hL : L ≤ 3072) (hi : i + 5 < L) (hI : zInv M) (kk : ∀ M2, zInv M2 → Lx l G b L xs 903 (Llv G b (nI i)) [] M2) : Lx l G b L xs 27 (Llv G b (nI i)) [] M := by
  refine l_aload dL_27 rfl (x := b) rfl (l_iload dL_28 rfl (x := nI i) rfl (l_sld (by omega) hL dL_29 (l_bipush dL_30 (v := 31) (by decide) (l_iand dL_32 ?_))))
  obtain ⟨j, hj, e⟩ := z_31 (xs i)
  rw [e]
  have hj2 : (nI j).toInt = j := nI_toInt (by omega)
  by_cases c0 : j = 0
  · subst c0; exact l_in (off := 115) (tgt := 148) dL_33 (by decide) (by decide) (by decide) (by decide) (law_feed hL hi hI kk)
  by_cases c1 : j = 1
  · subst c1; exact l_in (off := 178) (tgt := 211) dL_33 (by decide) (by decide) (by decide) (by decide) (law_back hL hi hI kk)
  by_cases c2 : j = 2
  · subst c2; exact l_in (off := 201) (tgt := 234) dL_33 (by decide) (by decide) (by decide) (by decide) (law_read hL hi hI kk)
  by_cases c3 : j = 3
  · subst c3; exact l_in (off := 214) (tgt := 247) dL_33 (by decide) (by decide) (by decide) (by decide) (law_place hL hi hI kk)
  by_cases c4 : j = 4
  · subst c4; exact l_in (off := 227) (tgt := 260) dL_33 (by decide) (by decide) (by decide) (by decide) (law_volunteer hL hi hI kk)
  by_cases c5 : j = 5
  · subst c5; exact l_in (off := 250) (tgt := 283) dL_33 (by decide) (by decide) (by decide) (by decide) (law_step hL hi hI kk)
  by_cases c6 : j = 6
  · subst c6; exact l_in (off := 283) (tgt := 316) dL_33 (by decide) (by decide) (by decide) (by decide) (law_learn hL hi hI kk)
  by_cases c7 : j = 7
  · subst c7; exact l_in (off := 316) (tgt := 349) dL_33 (by decide) (by decide) (by decide) (by decide) (law_has hL hi hI kk)
  by_cases c8 : j = 8
  · subst c8; exact l_in (off := 359) (tgt := 392) dL_33 (by decide) (by decide) (by decide) (by decide) (law_bar hL hi hI kk)
  by_cases c9 : j = 9
  · subst c9; exact l_in (off := 392) (tgt := 425) dL_33 (by decide) (by decide) (by decide) (by decide) (law_care hL hi hI kk)
  by_cases c10 : j = 10
  · subst c10; exact l_in (off := 415) (tgt := 448) dL_33 (by decide) (by decide) (by decide) (by decide) (law_due hL hi hI kk)
  by_cases c11 : j = 11
  · subst c11; exact l_in (off := 438) (tgt := 471) dL_33 (by decide) (by decide) (by decide) (by decide) (law_clock hL hi hI kk)
  by_cases c12 : j = 12
  · subst c12; exact l_in (off := 461) (tgt := 494) dL_33 (by decide) (by decide) (by decide) (by decide) (law_holiday hL hi hI kk)
  by_cases c13 : j = 13
  · subst c13; exact l_in (off := 484) (tgt := 517) dL_33 (by decide) (by decide) (by decide) (by decide) (law_offer hL hi hI kk)
  by_cases c14 : j = 14
  · subst c14; exact l_in (off := 527) (tgt := 560) dL_33 (by decide) (by decide) (by decide) (by decide) (law_shifts hL hi hI kk)
  by_cases c15 : j = 15
  · subst c15; exact l_in (off := 540) (tgt := 573) dL_33 (by decide) (by decide) (by decide) (by decide) (law_there hL hi hI kk)
  by_cases c16 : j = 16
  · subst c16; exact l_in (off := 573) (tgt := 606) dL_33 (by decide) (by decide) (by decide) (by decide) (law_lacks hL hi hI kk)
  by_cases c17 : j = 17
  · subst c17; exact l_in (off := 596) (tgt := 629) dL_33 (by decide) (by decide) (by decide) (by decide) (law_call hL hi hI kk)
  by_cases c18 : j = 18
  · subst c18; exact l_in (off := 659) (tgt := 692) dL_33 (by decide) (by decide) (by decide) (by decide) (law_go hL hi hI kk)
  by_cases c19 : j = 19
  · subst c19; exact l_in (off := 672) (tgt := 705) dL_33 (by decide) (by decide) (by decide) (by decide) (law_told hL hi hI kk)
  by_cases c20 : j = 20
  · subst c20; exact l_in (off := 705) (tgt := 738) dL_33 (by decide) (by decide) (by decide) (by decide) (law_talked hL hi hI kk)
  by_cases c21 : j = 21
  · subst c21; exact l_in (off := 738) (tgt := 771) dL_33 (by decide) (by decide) (by decide) (by decide) (law_note hL hi hI kk)
  by_cases c22 : j = 22
  · subst c22; exact l_in (off := 771) (tgt := 804) dL_33 (by decide) (by decide) (by decide) (by decide) (law_see hL hi hI kk)
  by_cases c23 : j = 23
  · subst c23; exact l_in (off := 814) (tgt := 847) dL_33 (by decide) (by decide) (by decide) (by decide) (law_foretold hL hi hI kk)
  by_cases c24 : j = 24
  · subst c24; exact l_in (off := 847) (tgt := 880) dL_33 (by decide) (by decide) (by decide) (by decide) (law_count hL hi hI kk)
  exact l_out (tgt := 903) dL_33 (Or.inr (by rw [hj2]; omega)) (by decide) (kk M hI)
theorem law_loop (hL : L ≤ 3072) : ∀ n i M, L ≤ i + 6 * n → i ≤ L + 6 → zInv M → Lx l G b L xs 18 (Llv G b (nI i)) [] M := by
  intro n
  induction n with
  | zero =>
    intro i M h1 h2 hI
    refine l_iload dL_18 rfl (x := nI i) rfl (l_aload dL_19 rfl (x := b) rfl (l_slen dL_20 (l_bipush dL_21 (v := 6) (by decide) (l_isub dL_23 (l_icmpgt (tgt := 909) dL_24 (by decide) (fun _ => l_end) (fun z => ?_))))))
    exfalso
    apply z
    have e := pk_sub_toInt (a := L) (b := 6) (by omega) (by omega)
    refine Int32.lt_iff_toInt_lt.mpr ?_
    rw [show (6 : Int32) = nI 6 from rfl, e, nI_toInt (by omega)]
    omega
  | succ n ih =>
    intro i M h1 h2 hI
    refine l_iload dL_18 rfl (x := nI i) rfl (l_aload dL_19 rfl (x := b) rfl (l_slen dL_20 (l_bipush dL_21 (v := 6) (by decide) (l_isub dL_23 (l_icmpgt (tgt := 909) dL_24 (by decide) (fun _ => l_end) (fun z => ?_))))))
    have hi : i + 5 < L := by
      rcases Nat.lt_or_ge (i + 5) L with q | q
      · exact q
      · exfalso
        apply z
        have e := pk_sub_toInt (a := L) (b := 6) (by omega) (by omega)
        refine Int32.lt_iff_toInt_lt.mpr ?_
        rw [show (6 : Int32) = nI 6 from rfl, e, nI_toInt (by omega)]
        omega
    exact law_switch hL hi hI (fun M2 h => l_next (ih (i + 6) M2 (by omega) (by omega) h))
end LOOP
