/-! String constants: length and charAt of the JDK, over the twelve constants of the scanner -/
def zslen (i : Nat) : Option Int32 := if i < 12 then some (Int32.ofNat (zLen.getD i 0)) else none
def zsch (i : Nat) (j : Int32) : Int32 := ((((zByt.getD i []).getD j.toNatClampNeg 0) &&& 255).toUInt32 % 65536).toInt32
def zschr (i : Nat) (j : Int32) : Option Int32 := if i < 12 ∧ zin j (zLen.getD i 0) = true then some (zsch i j) else none
section STR
variable {l : Launch} {G : zG} {d d' : Nat} {y y' : zY} {pc idx n : Nat} {lv : List (Nat × Value)} {st rest As : List Value} {M M1 : zMem} {Q : Option Value → zMem → Prop} {r : Option Value}
theorem x_ldcS {i index : Nat} (hd : decode y.2.1 pc = .ok (.ldc index, 2)) (hy : y.1.cls = "FriendLine$TokenScanner") (hi : i < 12) (hx : zSk.getD i 0 = index) (k : Ex l G d y (pc + 2) lv (.ref (G.2.2.2.2.1 i) :: st) M Q) : Ex l G d y pc lv st M Q := by
  subst hx
  intro p e s m args below meth c H locs ls C hS hP hl
  exact va_ldcS C.1 C.2.1 (hy ▸ C.2.2.2.2.1) (C.2.2.2.2.2.2.2.2.2.2.1 i hi) hd (k p e s m args below meth c H locs ls C hS hP hl)
theorem x_gets {index : Nat} (hd : decode y.2.1 pc = .ok (.getstatic index, 3)) (hk : Cond.fieldLink y.1.cls index "java/lang/String" "COMPACT_STRINGS" "Z" ∈ zT) (k : Ex l G d y (pc + 3) lv (.int 1 :: st) M Q) : Ex l G d y pc lv st M Q := by
  intro p e s m args below meth c H locs ls C hS hP hl
  exact va_gets C.1 C.2.1 C.2.2.2.2.2.2.2.2.2.2.2.1 hS C.2.2.2.2.1 (C.2.2.2.2.2.1 _ (List.mem_cons_of_mem _ hk)) (fun _ h => h) hd (k p e s m args below meth c H locs ls C hS hP hl)
theorem x_getq {index : Nat} (hd : decode y.2.1 pc = .ok (.getstatic index, 3)) (hk : Cond.fieldLink y.1.cls index "jdk/internal/util/Preconditions" "SIOOBE_FORMATTER" "Ljava/util/function/BiFunction;" ∈ zT) (k : ∀ v : Value, v.category = 1 → Ex l G d y (pc + 3) lv (v :: st) M Q) : Ex l G d y pc lv st M Q := by
  intro p e s m args below meth c H locs ls C hS hP hl
  rcases C.2.2.2.2.2.2.2.2.2.2.2.2 with h | ⟨t, h⟩
  · exact va_gets C.1 C.2.1 h hS C.2.2.2.2.1 (C.2.2.2.2.2.1 _ (List.mem_cons_of_mem _ hk)) (fun _ h => h) hd (k .null rfl p e s m args below meth c H locs ls C hS hP hl)
  · exact va_gets C.1 C.2.1 h hS C.2.2.2.2.1 (C.2.2.2.2.2.1 _ (List.mem_cons_of_mem _ hk)) (fun _ h => h) hd (k (.ref t) rfl p e s m args below meth c H locs ls C hS hP hl)
theorem x_scoder {i index : Nat} (hd : decode y.2.1 pc = .ok (.getfield index, 3)) (hi : i < 12) (hk : Cond.fieldLink y.1.cls index "java/lang/String" "coder" "B" ∈ zT) (k : Ex l G d y (pc + 3) lv (.int 0 :: st) M Q) : Ex l G d y pc lv (.ref (G.2.2.2.2.1 i) :: st) M Q := by
  intro p e s m args below meth c H locs ls C hS hP hl
  exact vk_getf C.1 C.2.1 (C.2.2.2.2.2.2.2.2.2.1.1 i hi).2.1 hS C.2.2.2.2.1 (C.2.2.2.2.2.1 _ (List.mem_cons_of_mem _ hk)) (fun _ h => h) hd (k p e s m args below meth c H locs ls C hS hP hl)
theorem x_svalue {i index : Nat} (hd : decode y.2.1 pc = .ok (.getfield index, 3)) (hi : i < 12) (hk : Cond.fieldLink y.1.cls index "java/lang/String" "value" "[B" ∈ zT) (k : Ex l G d y (pc + 3) lv (.ref (G.2.2.2.2.2 i) :: st) M Q) : Ex l G d y pc lv (.ref (G.2.2.2.2.1 i) :: st) M Q := by
  intro p e s m args below meth c H locs ls C hS hP hl
  exact vk_getf C.1 C.2.1 (C.2.2.2.2.2.2.2.2.2.1.1 i hi).2.2.1 hS C.2.2.2.2.1 (C.2.2.2.2.2.1 _ (List.mem_cons_of_mem _ hk)) (fun _ h => h) hd (k p e s m args below meth c H locs ls C hS hP hl)
theorem x_stlen {i : Nat} (hd : decode y.2.1 pc = .ok (.arraylength, 1)) (hi : i < 12) (k : Ex l G d y (pc + 1) lv (.int (Int32.ofNat (zLen.getD i 0)) :: st) M Q) : Ex l G d y pc lv (.ref (G.2.2.2.2.2 i) :: st) M Q := by
  intro p e s m args below meth c H locs ls C hS hP hl
  exact va_tlen C.1 C.2.1 (C.2.2.2.2.2.2.2.2.2.1.1 i hi).2.2.2 hS rfl hd (k p e s m args below meth c H locs ls C hS hP hl)
theorem x_stb {i : Nat} {j : Int32} (hd : decode y.2.1 pc = .ok (.baload, 1)) (hi : i < 12) (hj : zin j (zLen.getD i 0) = true) (k : Ex l G d y (pc + 1) lv (.int ((zByt.getD i []).getD j.toNatClampNeg 0) :: st) M Q) : Ex l G d y pc lv (.int j :: .ref (G.2.2.2.2.2 i) :: st) M Q := by
  intro p e s m args below meth c H locs ls C hS hP hl
  exact va_tb C.1 C.2.1 (C.2.2.2.2.2.2.2.2.2.1.1 i hi).2.2.2 hS (zin_in hj) rfl hd (k p e s m args below meth c H locs ls C hS hP hl)
theorem x_invVs {i : Nat} (hi : i < 12) (hy : y'.1.cls = "java/lang/String") (hd : decode y.2.1 pc = .ok (.invokevirtual idx, 3)) (hm : zmv y' n) (hk : Cond.methodLink y.1.cls idx y'.1 ∈ zT) (hc : Ca l G d' y' (.ref (G.2.2.2.2.1 i) :: As) M r M1) (hdd : d' + 1 ≤ d) (hst : st = As.reverse ++ .ref (G.2.2.2.2.1 i) :: rest) (hrm : (rest.map fun v => v.category).sum ≤ 8) (hn : As.length = n) (k : Ex l G d y (pc + 3) lv (r.toList ++ rest) M1 Q) : Ex l G d y pc lv st M Q := by
  obtain ⟨⟨h1, h2, h3, h4⟩, h5, h6⟩ := hm
  subst hst
  intro p e s m args below meth c H locs ls C hS hP hl
  have hT : ∀ w, w ∈ zT → w.before args s = true := fun w h => C.2.2.2.2.2.1 w (List.mem_cons_of_mem _ h)
  have hrec := vk_recv C.2.2.2.2.2.2.2.2.2.1 hi hS
  rw [← hy] at hrec
  have hpre := zPre (As := .ref (G.2.2.2.2.1 i) :: As) C.2.2.2.2.2.2.2 hS hP
  refine z_call (va_runV (As := As) (rest := rest) (C := y'.1.cls) ⟨C.1, C.2.1, C.2.2.1, C.2.2.2.2.1, C.2.2.2.2.2.1⟩ hc ⟨callB_of (bytes := y'.2.1) (maxL := y'.2.2.1) (ret := y'.2.2.2) (ws' := zT) n C.2.2.2.2.2.1 (zgoodIn h1) rfl rfl rfl (hT _ h2) (hT _ hk) h3 (zroomR hdd h4), hT _ h5, hT _ h6⟩ ⟨hpre.1, hrec, hpre.2⟩ rfl hn hl.1 rfl (lv_room hrm) hd ⟨Nat.le_refl _, Nat.le_refl _⟩) hS (fun H1 locs1 hP1 hS1 => k p e s m args below meth c H1 locs1 ls C hS1 hP1 hl)
theorem c_coder {i : Nat} (hi : i < 12) : Ca l G 0 mJ0_coder_7d493 [.ref (G.2.2.2.2.1 i)] M (some (.int 0)) M := by
  refine Ca.of (by decide +kernel) (Nat.le_of_ble_eq_true rfl) rfl ?_
  refine x_gets dJ0_coder_7d493_0 sl_38 ?_
  refine x_if_eq (tgt := 13) dJ0_coder_7d493_3 (by decide) (fun c => absurd c (by decide)) (fun _ => ?_)
  refine x_aload_n dJ0_coder_7d493_6 rfl rfl ?_
  refine x_scoder dJ0_coder_7d493_7 hi sl_15 ?_
  refine x_goto (tgt := 14) dJ0_coder_7d493_10 (by decide) ?_
  exact x_zret rfl rfl dJ0_coder_7d493_14 ⟨rfl, rfl⟩
theorem c_isLatin1 {i : Nat} (hi : i < 12) : Ca l G 0 mJ0_isLatin1_aae02 [.ref (G.2.2.2.2.1 i)] M (some (.int 1)) M := by
  refine Ca.of (by decide +kernel) (Nat.le_of_ble_eq_true rfl) rfl ?_
  refine x_gets dJ0_isLatin1_aae02_0 sl_38 ?_
  refine x_if_eq (tgt := 17) dJ0_isLatin1_aae02_3 (by decide) (fun c => absurd c (by decide)) (fun _ => ?_)
  refine x_aload_n dJ0_isLatin1_aae02_6 rfl rfl ?_
  refine x_scoder dJ0_isLatin1_aae02_7 hi sl_15 ?_
  refine x_if_ne (tgt := 17) dJ0_isLatin1_aae02_10 (by decide) (fun c => absurd rfl c) (fun _ => ?_)
  refine x_iconst (v := 1) dJ0_isLatin1_aae02_13 (by decide) ?_
  refine x_goto (tgt := 18) dJ0_isLatin1_aae02_14 (by decide) ?_
  exact x_zret rfl rfl dJ0_isLatin1_aae02_18 ⟨rfl, rfl⟩
theorem c_length {i : Nat} (hi : i < 12) : Ca l G 1 mJ0_length_8abf5 [.ref (G.2.2.2.2.1 i)] M (some (.int (Int32.ofNat (zLen.getD i 0)))) M := by
  refine Ca.of (by decide +kernel) (Nat.le_of_ble_eq_true rfl) rfl ?_
  refine x_aload_n dJ0_length_8abf5_0 rfl rfl ?_
  refine x_svalue dJ0_length_8abf5_1 hi sl_9 ?_
  refine x_stlen dJ0_length_8abf5_4 hi ?_
  refine x_aload_n dJ0_length_8abf5_5 rfl rfl ?_
  refine x_invVs hi rfl dJ0_length_8abf5_6 mk_J0_coder_7d493 ml_J0_335 (c_coder hi) (Nat.le_of_ble_eq_true rfl) rfl (Nat.le_of_ble_eq_true rfl) rfl ?_
  refine x_ishr (a := Int32.ofNat (zLen.getD i 0)) (b := 0) dJ0_length_8abf5_9 ?_
  exact x_iret rfl dJ0_length_8abf5_10 ⟨by rw [sb_shr0], rfl⟩
theorem c_PcheckIndex {i k : Int32} {v : Value} (hv : v.category = 1) (h0 : ¬ i < 0) (h1 : i < k) : Ca l G 0 mJ3_checkIndex_8e157 [.int i, .int k, v] M (some (.int i)) M := by
  have hz : lg_sl [.int i, .int k, v] = [.val (.int i), .val (.int k), .val v] := by
    cases v <;> first | rfl | (simp [Value.category] at hv)
  have hlv : lv_args 0 [.int i, .int k, v] = [(0, .int i), (1, .int k), (2, v)] := rfl
  refine Ca.of (by decide +kernel) (by rw [hz]; exact Nat.le_refl 3) hlv ?_
  refine x_iload_n dJ3_checkIndex_8e157_0 rfl rfl ?_
  refine x_if_lt (tgt := 9) dJ3_checkIndex_8e157_1 (by decide) (fun c => absurd c h0) (fun _ => ?_)
  refine x_iload_n dJ3_checkIndex_8e157_4 rfl rfl ?_
  refine x_iload_n dJ3_checkIndex_8e157_5 rfl rfl ?_
  refine x_icmp_lt (tgt := 16) dJ3_checkIndex_8e157_6 (by decide) (fun _ => ?_) (fun c => absurd h1 c)
  refine x_iload_n dJ3_checkIndex_8e157_16 rfl rfl ?_
  exact x_iret rfl dJ3_checkIndex_8e157_17 ⟨rfl, rfl⟩
theorem c_checkIndex {i k : Int32} (h0 : ¬ i < 0) (h1 : i < k) : Ca l G 1 mJ0_checkIndex_df160 [.int i, .int k] M none M := by
  refine Ca.of (by decide +kernel) (Nat.le_of_ble_eq_true rfl) rfl ?_
  refine x_iload_n dJ0_checkIndex_df160_0 rfl rfl ?_
  refine x_iload_n dJ0_checkIndex_df160_1 rfl rfl ?_
  refine x_getq dJ0_checkIndex_df160_2 sl_1053 (fun v hv => ?_)
  refine x_invSi (rest := []) dJ0_checkIndex_df160_5 mk_J3_checkIndex_8e157 ml_J0_1059 (c_PcheckIndex hv h0 h1) (Nat.le_of_ble_eq_true rfl) rfl (Nat.le_of_ble_eq_true rfl) rfl ?_
  refine x_pop dJ0_checkIndex_df160_8 rfl ?_
  exact x_vret rfl dJ0_checkIndex_df160_9 ⟨rfl, rfl⟩
theorem zlt_of_zin {j : Int32} {k : Nat} (hk : k < 2 ^ 31) (h : zin j k = true) : ¬ j < 0 ∧ j < Int32.ofNat k := by
  obtain ⟨q, h1, rfl⟩ := vp_in_of (zin_in h) hk
  exact ⟨nI_pos (by omega), nI_lt h1 hk⟩
theorem zLen_lt : ∀ i, i < 12 → zLen.getD i 0 < 2 ^ 31 := by decide
theorem c_L1charAt {i : Nat} {j : Int32} (hi : i < 12) (hj : zin j (zLen.getD i 0) = true) : Ca l G 2 mJ1_charAt_3b067 [.ref (G.2.2.2.2.2 i), .int j] M (some (.int (zsch i j))) M := by
  refine Ca.of (by decide +kernel) (Nat.le_of_ble_eq_true rfl) rfl ?_
  refine x_iload_n dJ1_charAt_3b067_0 rfl rfl ?_
  refine x_aload_n dJ1_charAt_3b067_1 rfl rfl ?_
  refine x_stlen dJ1_charAt_3b067_2 hi ?_
  refine x_invSv (rest := []) dJ1_charAt_3b067_3 mk_J0_checkIndex_df160 ml_J1_9 (c_checkIndex (zlt_of_zin (zLen_lt i hi) hj).1 (zlt_of_zin (zLen_lt i hi) hj).2) (Nat.le_of_ble_eq_true rfl) rfl (Nat.le_of_ble_eq_true rfl) rfl ?_
  refine x_aload_n dJ1_charAt_3b067_6 rfl rfl ?_
  refine x_iload_n dJ1_charAt_3b067_7 rfl rfl ?_
  refine x_stb dJ1_charAt_3b067_8 hi hj ?_
  refine x_sipush (v := 255) dJ1_charAt_3b067_9 (by decide) ?_
  refine x_iand dJ1_charAt_3b067_12 ?_
  refine x_i2c dJ1_charAt_3b067_13 ?_
  exact x_zret rfl (pk_nc _) dJ1_charAt_3b067_14 ⟨rfl, rfl⟩
theorem c_charAt {i : Nat} {j : Int32} (hi : i < 12) (hj : zin j (zLen.getD i 0) = true) : Ca l G 3 mJ0_charAt_5068e [.ref (G.2.2.2.2.1 i), .int j] M (some (.int (zsch i j))) M := by
  refine Ca.of (by decide +kernel) (Nat.le_of_ble_eq_true rfl) rfl ?_
  refine x_aload_n dJ0_charAt_5068e_0 rfl rfl ?_
  refine x_invVs (rest := []) hi rfl dJ0_charAt_5068e_1 mk_J0_isLatin1_aae02 ml_J0_492 (c_isLatin1 hi) (Nat.le_of_ble_eq_true rfl) rfl (Nat.le_of_ble_eq_true rfl) rfl ?_
  refine x_if_eq (tgt := 16) dJ0_charAt_5068e_4 (by decide) (fun c => absurd c (by decide)) (fun _ => ?_)
  refine x_aload_n dJ0_charAt_5068e_7 rfl rfl ?_
  refine x_svalue dJ0_charAt_5068e_8 hi sl_9 ?_
  refine x_iload_n dJ0_charAt_5068e_11 rfl rfl ?_
  refine x_invSi (rest := []) dJ0_charAt_5068e_12 mk_J1_charAt_3b067 ml_J0_495 (c_L1charAt hi hj) (Nat.le_of_ble_eq_true rfl) rfl (Nat.le_of_ble_eq_true rfl) rfl ?_
  exact x_zret rfl (pk_nc _) dJ0_charAt_5068e_15 ⟨rfl, rfl⟩
theorem x_slen {i : Nat} {v : Int32} (hd : decode y.2.1 pc = .ok (.invokevirtual idx, 3)) (hk : Cond.methodLink y.1.cls idx yJ0_length_8abf5 ∈ zT) (hv : zslen i = some v) (hdd : 1 + 1 ≤ d) (hrm : (st.map fun v => v.category).sum ≤ 8) (k : Ex l G d y (pc + 3) lv (.int v :: st) M Q) : Ex l G d y pc lv (.ref (G.2.2.2.2.1 i) :: st) M Q := by
  unfold zslen at hv
  obtain ⟨hi, hv⟩ := zgd hv
  cases hv
  exact x_invVs (As := []) hi rfl hd mk_J0_length_8abf5 hk (c_length hi) hdd rfl hrm rfl k
theorem x_schr {i : Nat} {j v : Int32} (hd : decode y.2.1 pc = .ok (.invokevirtual idx, 3)) (hk : Cond.methodLink y.1.cls idx yJ0_charAt_5068e ∈ zT) (hv : zschr i j = some v) (hdd : 3 + 1 ≤ d) (hrm : (st.map fun v => v.category).sum ≤ 8) (k : Ex l G d y (pc + 3) lv (.int v :: st) M Q) : Ex l G d y pc lv (.int j :: .ref (G.2.2.2.2.1 i) :: st) M Q := by
  unfold zschr at hv
  obtain ⟨⟨hi, hj⟩, hv⟩ := zgd hv
  cases hv
  exact x_invVs (As := [.int j]) hi rfl hd mk_J0_charAt_5068e hk (c_charAt hi hj) hdd rfl hrm rfl k
end STR
