/-- THE LAW, from its entry -/
theorem whole_start {p : Program} {e : Env} {s : State} {m : MethodId} {below : List Frame} {meth : Method} {c : Code} (l : Launch) {b L : Nat} {xs : Nat → Int32} (hL : L ≤ 3072) (C0 : lw_At p s m meth c b L xs) : W p l e room_1 s m #[Value.ref b] below meth c s.heap [] 0 0 (lw_Z below #[Value.ref b] s) (entryFrame m ([Value.ref b] : List Value).toArray 4) := by
  obtain ⟨D, cT, sA, sB, hZ⟩ := zK_start C0
  obtain ⟨hx, hb, hr, hml, hown, hts, hX, hbl, hlocks, hgv⟩ := id C0
  have hT : ∀ w ∈ zT, w.before #[Value.ref b] s = true := fun w h => hts w (zT_tbl h)
  have hA : ∀ q : Nat, s.heap.size ≤ q → (fun q : Nat => s.heap.size ≤ q) q := fun _ h => h
  have hK : va_K D classes (ktys cT) s := (hZ (fun _ => 0)).1
  have hS : va_S (fun q : Nat => s.heap.size ≤ q) s.heap s.heap [] := va_S.rf
  have hP : va_P D classes [] s.heap := fun k q h => by simp at h
  have hD : va_D (fun q : Nat => s.heap.size ≤ q) [] := ⟨fun i j p q h => by simp at h, fun k q h => by simp at h⟩
  have hl := lv_entry ([.ref b]) (n := 4) (Nat.le_of_ble_eq_true rfl)
  rw [lg_entry_eq]
  generalize (lg_sl ([.ref b]) ++ List.replicate (4 - (lg_sl ([.ref b])).length) Slot.unset).toArray = ls at hl ⊢
  have hl : lv_has ls 4 [(0, .ref b)] := hl
  refine va_new (ci := 11) (fs := kfs tyX11 12) (C := RX11) (T := TX11) (N := 12) hx hb hT zcok_X11.1 tyX11 tyX11_ok hown (index := 7) (hts (.classLink R_law 7 RX11) (List.mem_of_getElem? (i := 97) (by decide +kernel))) (hT _ kI_X11) (hT _ zini_X11) hK hP hD hS hA rfl (fun j hj => by simp [vp_V, kfs, hj]) (Nat.le_of_ble_eq_true rfl) (Nat.le_of_ble_eq_true rfl) dL_0 (fun h0 H hP hD hS => ?_)
  refine lv_dup hx hb dL_3 rfl ?_
  obtain ⟨⟨g1, g2, g3, g4⟩, g5, g6⟩ := mki_X11
  refine k_back (E := (D, cT)) (wr := []) (wc := [(h0, .inr (11, kfs tyX11 12))]) (va_runI (As := []) (rest := [.ref h0]) (Ts := zT) (own := R_law) ⟨hx, hb, hml, hown, hT⟩ (kc_X11 l (D, cT) h0 H.size) ⟨callB_of (R := room_1) (rm := kroom 3 68 7946) (bytes := cX11_init) (maxL := 1) (ret := none) (ws' := zT) 0 hT (zgoodT g1) rfl rfl rfl (hT _ g2) (hts (.methodLink R_law 9 yX11_init) (List.mem_of_getElem? (i := 99) (by decide +kernel))) g3 ⟨Nat.le_of_ble_eq_true rfl, Nat.le_of_ble_eq_true rfl⟩, g5, hT _ g6⟩ (kPre hK hP hD) rfl rfl hl.1 rfl (lv_room (Nat.le_of_ble_eq_true rfl)) dL_4 ⟨Nat.le_of_ble_eq_true rfl, Nat.le_of_ble_eq_true rfl⟩) hS hA hP hD (fun v w1 H1 locs1 hq hP hD hS => ?_)
  obtain ⟨rfl, a, rfl⟩ := hq
  refine W.widen (k := 69) (n := 7958) (by decide) (by decide) ?_
  refine W.eq (g2 := F0 m 7 ls [.ref h0]) rfl ?_
  refine lv_astore_n (lv' := [(1, .ref h0), (0, .ref b)]) hx hb dL_7 rfl hl (by decide) rfl (fun ls hl => ?_)
  refine va_new (ci := 12) (fs := kfs tyX12 85) (C := RX12) (T := TX12) (N := 85) hx hb hT zcok_X12.1 tyX12 tyX12_ok hown (index := 10) (hts (.classLink R_law 10 RX12) (List.mem_of_getElem? (i := 1237) (by decide +kernel))) (hT _ kI_X12) (hT _ zini_X12) hK hP hD hS hA rfl (fun j hj => by simp [vp_V, kfs, hj]) (Nat.le_of_ble_eq_true rfl) (Nat.le_of_ble_eq_true rfl) dL_8 (fun h1 H hP hD hS => ?_)
  refine lv_dup hx hb dL_11 rfl ?_
  obtain ⟨⟨g1, g2, g3, g4⟩, g5, g6⟩ := mki_X12
  refine k_back (E := (D, cT)) (wr := [] ++ wX11 cT h0 a) (wc := [(h1, .inr (12, kfs tyX12 85))]) (va_runI (As := []) (rest := [.ref h1]) (Ts := zT) (own := R_law) ⟨hx, hb, hml, hown, hT⟩ (kc_X12 l (D, cT) h1 H.size) ⟨callB_of (R := room_1) (rm := kroom 2 64 37334) (bytes := cX12_init) (maxL := 1) (ret := none) (ws' := zT) 0 hT (zgoodT g1) rfl rfl rfl (hT _ g2) (hts (.methodLink R_law 12 yX12_init) (List.mem_of_getElem? (i := 1239) (by decide +kernel))) g3 ⟨Nat.le_of_ble_eq_true rfl, Nat.le_of_ble_eq_true rfl⟩, g5, hT _ g6⟩ (kPre hK hP hD) rfl rfl hl.1 rfl (lv_room (Nat.le_of_ble_eq_true rfl)) dL_12 ⟨Nat.le_of_ble_eq_true rfl, Nat.le_of_ble_eq_true rfl⟩) hS hA hP hD (fun v w1 H1 locs1 hq hP hD hS => ?_)
  obtain ⟨rfl, a2, rfl⟩ := hq
  refine W.widen (k := 134) (n := 45377) (by decide) (by decide) ?_
  refine W.eq (g2 := F0 m 15 ls [.ref h1]) rfl ?_
  refine lv_astore_n (lv' := [(2, .ref h1), (1, .ref h0), (0, .ref b)]) hx hb dL_15 rfl hl (by decide) rfl (fun ls hl => ?_)
  refine lv_iconst (v := 0) hx hb dL_16 (by decide) ?_
  refine lv_istore_n (lv' := [(3, .int 0), (2, .ref h1), (1, .ref h0), (0, .ref b)]) hx hb dL_17 rfl hl (by decide) rfl (fun ls hl => ?_)
  have hz : zP (D, cT, zaddr h0 a h1 a2, (fun q : Nat => s.heap.size ≤ q), sA, sB) zM0 H1 := by
    unfold zP
    rw [k_first]
    exact ⟨hP, hD⟩
  exact law_loop (G := (D, cT, zaddr h0 a h1 a2, (fun q : Nat => s.heap.size ≤ q), sA, sB)) hL L 0 zM0 (by omega) (by omega) zInv_0 p e s m below meth c H1 locs1 ls C0 rfl (hZ _) hS hz (lv_sub hl [3, 2, 1, 0] rfl)
