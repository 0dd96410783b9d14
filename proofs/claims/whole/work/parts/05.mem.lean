/-- a field as an instruction names it: own's entry idx is field k of class ci -/
def zfl (own : String) (idx ci k : Nat) : Prop := ∃ q : vw_C, classes[ci]? = some q ∧ k < q.2.2 ∧ Cond.fieldLink own idx (q.2.1 k).1 (q.2.1 k).2.1 (q.2.1 k).2.2.1 ∈ zT
def zfp (own : String) (idx ci k : Nat) (ty : FieldType) : Prop := ∃ q : vw_C, classes[ci]? = some q ∧ k < q.2.2 ∧ Cond.fieldLink own idx (q.2.1 k).1 (q.2.1 k).2.1 (q.2.1 k).2.2.1 ∈ zT ∧ parseFieldDescriptor (q.2.1 k).2.2.1 = some ty ∧ (q.2.1 k).2.2.2 = false
section RULES
variable {l : Launch} {G : zG} {d : Nat} {y : zY} {pc : Nat} {lv : List (Nat × Value)} {st : List Value} {M : zMem} {Q : Option Value → zMem → Prop}
theorem x_get {a ci k idx cc : Nat} {cd : List Nat} (hd : decode y.2.1 pc = .ok (.getfield idx, 3)) (hf : zfl y.1.cls idx ci k) (hs : SH[a]? = some (.inr (ci, cd))) (hk : cd[k]? = some cc) (kk : Ex l G d y (pc + 3) lv (zval G M a k cc :: st) M Q) : Ex l G d y pc lv (.ref (G.2.2.1 a) :: st) M Q := by
  obtain ⟨q, h1, h2, h3⟩ := hf
  intro p e s m args below meth c H locs ls C hS hP hl
  refine va_get (D := G.1) (C := q.1) (T := q.2.1) (N := q.2.2) C.1 C.2.1 C.2.2.2.2.2.1 (fun w h => List.mem_cons_of_mem _ ((zcok_all h1).1 w h)) C.2.2.2.2.1 C.2.2.2.2.2.2.2.1 hP.1 a (zwl_at G M hs) h1 k h2 (C.2.2.2.2.2.1 _ (List.mem_cons_of_mem _ h3)) (fun _ h => h) (v := zval G M a k cc) ?_ hd (kk p e s m args below meth c H locs ls C hS hP hl)
  rw [zfs_get, hk]; simp
theorem x_getI {a ci k idx : Nat} {cd : List Nat} (hd : decode y.2.1 pc = .ok (.getfield idx, 3)) (hf : zfl y.1.cls idx ci k) (hs : SH[a]? = some (.inr (ci, cd))) (hk : cd[k]? = some 0) (kk : Ex l G d y (pc + 3) lv (.int (M.1 a k) :: st) M Q) : Ex l G d y pc lv (.ref (G.2.2.1 a) :: st) M Q := x_get hd hf hs hk kk
theorem x_getR {a ci k idx : Nat} {cd : List Nat} (hd : decode y.2.1 pc = .ok (.getfield idx, 3)) (hf : zfl y.1.cls idx ci k) (hs : SH[a]? = some (.inr (ci, cd))) (hk : cd[k]? = some 1) (kk : Ex l G d y (pc + 3) lv (.ref (G.2.2.1 (M.2.2 a k)) :: st) M Q) : Ex l G d y pc lv (.ref (G.2.2.1 a) :: st) M Q := x_get hd hf hs hk kk
theorem x_getS {a ci k idx r : Nat} {cd : List Nat} (hd : decode y.2.1 pc = .ok (.getfield idx, 3)) (hf : zfl y.1.cls idx ci k) (hs : SH[a]? = some (.inr (ci, cd))) (hk : cd[k]? = some (r + 2)) (kk : Ex l G d y (pc + 3) lv (.ref (G.2.2.1 r) :: st) M Q) : Ex l G d y pc lv (.ref (G.2.2.1 a) :: st) M Q := x_get hd hf hs hk kk
theorem zval_I {G : zG} {M : zMem} {a k : Nat} {v : Int32} : ∀ j c, j ≠ k → zval G (zpI M a k v) a j c = zval G M a j c := by
  intro j c h
  match c with
  | 0 => simp [zval, zpI, zu, h]
  | 1 => rfl
  | r + 2 => rfl
theorem zval_R {G : zG} {M : zMem} {a k : Nat} {v : Nat} : ∀ j c, j ≠ k → zval G (zpR M a k v) a j c = zval G M a j c := by
  intro j c h
  match c with
  | 0 => rfl
  | 1 => simp [zval, zpR, zu, h]
  | r + 2 => rfl
theorem zcell_I {G : zG} {M : zMem} {a k : Nat} {v : Int32} : ∀ b, b ≠ a → ∀ x, zcell G (zpI M a k v) b x = zcell G M b x := fun b h x => zcell_same (M := M) (M' := zpI M a k v) (zu_off _ _ _ h) rfl rfl x
theorem zcell_J {G : zG} {M : zMem} {a k : Nat} {v : Int64} : ∀ b, b ≠ a → ∀ x, zcell G (zpJ M a k v) b x = zcell G M b x := fun b h x => zcell_same (M := M) (M' := zpJ M a k v) rfl (zu_off _ _ _ h) rfl x
theorem zcell_R {G : zG} {M : zMem} {a k : Nat} {v : Nat} : ∀ b, b ≠ a → ∀ x, zcell G (zpR M a k v) b x = zcell G M b x := fun b h x => zcell_same (M := M) (M' := zpR M a k v) rfl rfl (zu_off _ _ _ h) x
theorem x_putI {a ci k idx : Nat} {cd : List Nat} {ty : FieldType} {v : Int32} {M1 : zMem} (hd : decode y.2.1 pc = .ok (.putfield idx, 3)) (hf : zfp y.1.cls idx ci k ty) (hs : SH[a]? = some (.inr (ci, cd))) (hk : cd[k]? = some 0) (hn : narrow ty (.int v) = .int v) (hfit : fits ty (.int v) = true) (hM : M1 = zpI M a k v) (kk : Ex l G d y (pc + 3) lv st M1 Q) : Ex l G d y pc lv (.int v :: .ref (G.2.2.1 a) :: st) M Q := by
  obtain ⟨q, h1, h2, h3, h4, h5⟩ := hf
  obtain ⟨ty0, hty⟩ := (zcok_all h1).2.1
  subst hM
  intro p e s m args below meth c H locs ls C hS hP hl
  have hlen : k < cd.length := (List.getElem?_eq_some_iff.mp hk).1
  refine va_put (D := G.1) (C := q.1) (T := q.2.1) (N := q.2.2) C.1 C.2.1 C.2.2.2.2.2.1 (fun w h => List.mem_cons_of_mem _ ((zcok_all h1).1 w h)) ty0 hty (zcok_all h1).2.2 C.2.2.2.2.1 C.2.2.2.2.2.2.2.1 hP.1 hP.2 hS a (zwl_at G M hs) h1 k h2 (C.2.2.2.2.2.1 _ (List.mem_cons_of_mem _ h3)) (fun _ h => h) h5 h4 hn hfit (by rw [zfs_len]; exact hlen) hd (fun H1 locs1 hP1 hD1 hS1 => ?_)
  have e1 : (zwl G M 0 SH).set a (G.2.2.1 a, .inr (ci, (zfs G M a 0 cd).set k (.int v))) = zwl G (zpI M a k v) 0 SH := by
    rw [zfs_set (M' := zpI M a k v) (c := 0) zval_I (by simp [zval, zpI, zu]) cd 0 k (by omega) hk]
    exact zwl_set hs zcell_I
  rw [e1] at hP1 hD1
  exact kk p e s m args below meth c H1 locs1 ls C hS1 ⟨hP1, hD1⟩ hl
theorem x_putR {a ci k idx r : Nat} {cd : List Nat} {ty : FieldType} {M1 : zMem} (hd : decode y.2.1 pc = .ok (.putfield idx, 3)) (hf : zfp y.1.cls idx ci k ty) (hs : SH[a]? = some (.inr (ci, cd))) (hk : cd[k]? = some 1) (hn : narrow ty (.ref (G.2.2.1 r)) = .ref (G.2.2.1 r)) (hfit : fits ty (.ref (G.2.2.1 r)) = true) (hM : M1 = zpR M a k r) (kk : Ex l G d y (pc + 3) lv st M1 Q) : Ex l G d y pc lv (.ref (G.2.2.1 r) :: .ref (G.2.2.1 a) :: st) M Q := by
  obtain ⟨q, h1, h2, h3, h4, h5⟩ := hf
  obtain ⟨ty0, hty⟩ := (zcok_all h1).2.1
  subst hM
  intro p e s m args below meth c H locs ls C hS hP hl
  have hlen : k < cd.length := (List.getElem?_eq_some_iff.mp hk).1
  refine va_put (D := G.1) (C := q.1) (T := q.2.1) (N := q.2.2) C.1 C.2.1 C.2.2.2.2.2.1 (fun w h => List.mem_cons_of_mem _ ((zcok_all h1).1 w h)) ty0 hty (zcok_all h1).2.2 C.2.2.2.2.1 C.2.2.2.2.2.2.2.1 hP.1 hP.2 hS a (zwl_at G M hs) h1 k h2 (C.2.2.2.2.2.1 _ (List.mem_cons_of_mem _ h3)) (fun _ h => h) h5 h4 hn hfit (by rw [zfs_len]; exact hlen) hd (fun H1 locs1 hP1 hD1 hS1 => ?_)
  have e1 : (zwl G M 0 SH).set a (G.2.2.1 a, .inr (ci, (zfs G M a 0 cd).set k (.ref (G.2.2.1 r)))) = zwl G (zpR M a k r) 0 SH := by
    rw [zfs_set (M' := zpR M a k r) (c := 1) zval_R (by simp [zval, zpR, zu]) cd 0 k (by omega) hk]
    exact zwl_set hs zcell_R
  rw [e1] at hP1 hD1
  exact kk p e s m args below meth c H1 locs1 ls C hS1 ⟨hP1, hD1⟩ hl
theorem zldI_e {M : zMem} {a n : Nat} {i v : Int32} (h : zldI M a n i = some v) : zin i n = true ∧ v = M.1 a i.toNatClampNeg := by
  unfold zldI at h
  obtain ⟨h1, h2⟩ := zgd h
  exact ⟨h1, (Option.some.inj h2).symm⟩
theorem zldJ_e {M : zMem} {a n : Nat} {i : Int32} {v : Int64} (h : zldJ M a n i = some v) : zin i n = true ∧ v = M.2.1 a i.toNatClampNeg := by
  unfold zldJ at h
  obtain ⟨h1, h2⟩ := zgd h
  exact ⟨h1, (Option.some.inj h2).symm⟩

theorem x_ild {a n : Nat} {i : Int32} {v : Int32} (hd : decode y.2.1 pc = .ok (.iaload, 1)) (hs : SH[a]? = some (.inl (0, n))) (hv : zldI M a n i = some v) (k : Ex l G d y (pc + 1) lv (.int v :: st) M Q) : Ex l G d y pc lv (.int i :: .ref (G.2.2.1 a) :: st) M Q := by
  obtain ⟨h1, rfl⟩ := zldI_e hv
  intro p e s m args below meth c H locs ls C hS hP hl
  exact va_iald C.1 C.2.1 C.2.2.2.2.2.2.2.1 hP.1 a 0 (zwl_at G M hs) rfl (zin_in h1) hd (k p e s m args below meth c H locs ls C hS hP hl)
theorem x_bld {a n : Nat} {i : Int32} {v : Int32} (hd : decode y.2.1 pc = .ok (.baload, 1)) (hs : SH[a]? = some (.inl (2, n))) (hv : zldI M a n i = some v) (k : Ex l G d y (pc + 1) lv (.int v :: st) M Q) : Ex l G d y pc lv (.int i :: .ref (G.2.2.1 a) :: st) M Q := by
  obtain ⟨h1, rfl⟩ := zldI_e hv
  intro p e s m args below meth c H locs ls C hS hP hl
  exact va_bald C.1 C.2.1 C.2.2.2.2.2.2.2.1 hP.1 a 2 (zwl_at G M hs) rfl (zin_in h1) hd (k p e s m args below meth c H locs ls C hS hP hl)
theorem x_zld {a n : Nat} {i : Int32} {v : Int32} (hd : decode y.2.1 pc = .ok (.baload, 1)) (hs : SH[a]? = some (.inl (3, n))) (hv : zldI M a n i = some v) (k : Ex l G d y (pc + 1) lv (.int v :: st) M Q) : Ex l G d y pc lv (.int i :: .ref (G.2.2.1 a) :: st) M Q := by
  obtain ⟨h1, rfl⟩ := zldI_e hv
  intro p e s m args below meth c H locs ls C hS hP hl
  exact va_zald C.1 C.2.1 C.2.2.2.2.2.2.2.1 hP.1 a 3 (zwl_at G M hs) rfl (zin_in h1) hd (k p e s m args below meth c H locs ls C hS hP hl)
theorem x_jld {a n : Nat} {i : Int32} {v : Int64} (hd : decode y.2.1 pc = .ok (.laload, 1)) (hs : SH[a]? = some (.inl (1, n))) (hv : zldJ M a n i = some v) (k : Ex l G d y (pc + 1) lv (.long v :: st) M Q) : Ex l G d y pc lv (.int i :: .ref (G.2.2.1 a) :: st) M Q := by
  obtain ⟨h1, rfl⟩ := zldJ_e hv
  intro p e s m args below meth c H locs ls C hS hP hl
  exact va_lald C.1 C.2.1 C.2.2.2.2.2.2.2.1 hP.1 a 1 (zwl_at G M hs) rfl (zin_in h1) hd (k p e s m args below meth c H locs ls C hS hP hl)
theorem x_ist {a n : Nat} {i : Int32} {x : Int32} {M1 : zMem} (hd : decode y.2.1 pc = .ok (.iastore, 1)) (hs : SH[a]? = some (.inl (0, n))) (hv : zstI M a n i x = some M1) (k : Ex l G d y (pc + 1) lv st M1 Q) : Ex l G d y pc lv (.int x :: .int i :: .ref (G.2.2.1 a) :: st) M Q := by
  unfold zstI at hv
  obtain ⟨h1, h2⟩ := zgd hv
  have h2 := (Option.some.inj h2).symm
  subst h2
  intro p e s m args below meth c H locs ls C hS hP hl
  refine va_iast C.1 C.2.1 C.2.2.2.2.2.2.2.1 hP.1 hP.2 hS a 0 (zwl_at G M hs) rfl (zin_in h1) hd (fun H1 locs1 hP1 hD1 hS1 => ?_)
  have e1 : (zwl G M 0 SH).set a (G.2.2.1 a, .inl (G.2.1 0, n, .inl (upd (M.1 a) i.toNatClampNeg x))) = zwl G (zpI M a i.toNatClampNeg x) 0 SH := by
    have e2 := zwl_set (G := G) (M := M) (M' := zpI M a i.toNatClampNeg x) hs zcell_I
    rw [← e2]
    simp only [zcell, zpI, zu_row]
    rfl
  rw [e1] at hP1 hD1
  exact k p e s m args below meth c H1 locs1 ls C hS1 ⟨hP1, hD1⟩ hl
theorem x_bst {a n : Nat} {i : Int32} {x : Int32} {M1 : zMem} (hd : decode y.2.1 pc = .ok (.bastore, 1)) (hs : SH[a]? = some (.inl (2, n))) (hv : zstB M a n i x = some M1) (k : Ex l G d y (pc + 1) lv st M1 Q) : Ex l G d y pc lv (.int x :: .int i :: .ref (G.2.2.1 a) :: st) M Q := by
  unfold zstB at hv
  obtain ⟨h1, h2⟩ := zgd hv
  have h2 := (Option.some.inj h2).symm
  subst h2
  intro p e s m args below meth c H locs ls C hS hP hl
  refine va_bast C.1 C.2.1 C.2.2.2.2.2.2.2.1 hP.1 hP.2 hS a 2 (zwl_at G M hs) rfl (zin_in h1) hd (fun H1 locs1 hP1 hD1 hS1 => ?_)
  have e1 : (zwl G M 0 SH).set a (G.2.2.1 a, .inl (G.2.1 2, n, .inl (upd (M.1 a) i.toNatClampNeg (vp_nar .byte x)))) = zwl G (zpI M a i.toNatClampNeg (vp_nar .byte x)) 0 SH := by
    have e2 := zwl_set (G := G) (M := M) (M' := zpI M a i.toNatClampNeg (vp_nar .byte x)) hs zcell_I
    rw [← e2]
    simp only [zcell, zpI, zu_row]
    rfl
  rw [e1] at hP1 hD1
  exact k p e s m args below meth c H1 locs1 ls C hS1 ⟨hP1, hD1⟩ hl
theorem x_zst {a n : Nat} {i : Int32} {x : Int32} {M1 : zMem} (hd : decode y.2.1 pc = .ok (.bastore, 1)) (hs : SH[a]? = some (.inl (3, n))) (hv : zstZ M a n i x = some M1) (k : Ex l G d y (pc + 1) lv st M1 Q) : Ex l G d y pc lv (.int x :: .int i :: .ref (G.2.2.1 a) :: st) M Q := by
  unfold zstZ at hv
  obtain ⟨h1, h2⟩ := zgd hv
  have h2 := (Option.some.inj h2).symm
  subst h2
  intro p e s m args below meth c H locs ls C hS hP hl
  refine va_zast C.1 C.2.1 C.2.2.2.2.2.2.2.1 hP.1 hP.2 hS a 3 (zwl_at G M hs) rfl (zin_in h1) hd (fun H1 locs1 hP1 hD1 hS1 => ?_)
  have e1 : (zwl G M 0 SH).set a (G.2.2.1 a, .inl (G.2.1 3, n, .inl (upd (M.1 a) i.toNatClampNeg (vp_nar .boolean x)))) = zwl G (zpI M a i.toNatClampNeg (vp_nar .boolean x)) 0 SH := by
    have e2 := zwl_set (G := G) (M := M) (M' := zpI M a i.toNatClampNeg (vp_nar .boolean x)) hs zcell_I
    rw [← e2]
    simp only [zcell, zpI, zu_row]
    rfl
  rw [e1] at hP1 hD1
  exact k p e s m args below meth c H1 locs1 ls C hS1 ⟨hP1, hD1⟩ hl
theorem x_jst {a n : Nat} {i : Int32} {x : Int64} {M1 : zMem} (hd : decode y.2.1 pc = .ok (.lastore, 1)) (hs : SH[a]? = some (.inl (1, n))) (hv : zstJ M a n i x = some M1) (k : Ex l G d y (pc + 1) lv st M1 Q) : Ex l G d y pc lv (.long x :: .int i :: .ref (G.2.2.1 a) :: st) M Q := by
  unfold zstJ at hv
  obtain ⟨h1, h2⟩ := zgd hv
  have h2 := (Option.some.inj h2).symm
  subst h2
  intro p e s m args below meth c H locs ls C hS hP hl
  refine va_last C.1 C.2.1 C.2.2.2.2.2.2.2.1 hP.1 hP.2 hS a 1 (zwl_at G M hs) rfl (zin_in h1) hd (fun H1 locs1 hP1 hD1 hS1 => ?_)
  have e1 : (zwl G M 0 SH).set a (G.2.2.1 a, .inl (G.2.1 1, n, .inr (.inl (vp_updL (M.2.1 a) i.toNatClampNeg x)))) = zwl G (zpJ M a i.toNatClampNeg x) 0 SH := by
    have e2 := zwl_set (G := G) (M := M) (M' := zpJ M a i.toNatClampNeg x) hs zcell_J
    rw [← e2]
    simp only [zcell, zpJ, zu_row]
    rfl
  rw [e1] at hP1 hD1
  exact k p e s m args below meth c H1 locs1 ls C hS1 ⟨hP1, hD1⟩ hl
theorem x_alen {a t n : Nat} {v : Int32} (hd : decode y.2.1 pc = .ok (.arraylength, 1)) (hs : SH[a]? = some (.inl (t, n))) (ht : t < 4) (hv : Int32.ofNat n = v) (k : Ex l G d y (pc + 1) lv (.int v :: st) M Q) : Ex l G d y pc lv (.ref (G.2.2.1 a) :: st) M Q := by
  intro p e s m args below meth c H locs ls C hS hP hl
  have hk := k p e s m args below meth c H locs ls C hS hP hl
  have hat := zwl_at G M hs
  rcases (show t = 0 ∨ t = 1 ∨ t = 2 ∨ t = 3 by omega) with rfl | rfl | rfl | rfl
  · exact va_alen C.1 C.2.1 C.2.2.2.2.2.2.2.1 hP.1 a 0 (x := (n, .inl (M.1 a))) hat rfl hv hd hk
  · exact va_alen C.1 C.2.1 C.2.2.2.2.2.2.2.1 hP.1 a 1 (x := (n, .inr (.inl (M.2.1 a)))) hat rfl hv hd hk
  · exact va_alen C.1 C.2.1 C.2.2.2.2.2.2.2.1 hP.1 a 2 (x := (n, .inl (M.1 a))) hat rfl hv hd hk
  · exact va_alen C.1 C.2.1 C.2.2.2.2.2.2.2.1 hP.1 a 3 (x := (n, .inl (M.1 a))) hat rfl hv hd hk
end RULES
-- calls
section CALLS
theorem zgood_all : ∀ w ∈ zT, (w.onTables && w.keeps) = true ∨ ∃ ty, w = .arrayClass ty := fun w h => good_of_word (List.mem_filter.mp h).2
/-- a method that may be called: its words -/
def zmk (y : zY) (n : Nat) : Prop := Cond.code y.1 y.2.1 y.2.2.1 y.2.2.2 ∈ zT ∧ Cond.initialized y.1.cls ∈ zT ∧ (y.1.cls ≠ "java/lang/invoke/MethodHandle" ∧ y.1.cls ≠ "java/lang/invoke/VarHandle" ∧ (parseMethodDescriptor y.1.desc).map (fun d => d.parameters.length) = some n) ∧ y.2.2.1 ≤ 21
def zmv (y : zY) (n : Nat) : Prop := zmk y n ∧ Cond.instanceMethod y.1 ∈ zT ∧ Cond.selects y.1.cls y.1 y.1 ∈ zT
def zms (y : zY) (n : Nat) : Prop := zmk y n ∧ Cond.static y.1 ∈ zT
theorem zgoodIn {y y' : zY} (h : Cond.code y'.1 y'.2.1 y'.2.2.1 y'.2.2.2 ∈ zT) : GoodIn (zws y) (zws y') := by
  intro w hw
  rcases List.mem_cons.mp hw with h1 | h1
  · subst h1; exact ⟨List.mem_cons_of_mem _ h, zgood_all _ h⟩
  · exact ⟨List.mem_cons_of_mem _ h1, zgood_all _ h1⟩
theorem z_call {p : Program} {l : Launch} {e : Env} {R : Room} {s : State} {m : MethodId} {args : Array Value} {below : List Frame} {meth : Method} {c : Code} {H : Heap} {locs : List Loc} {Q : State → Prop} {pc : Nat} {ls : Array Slot} {rest st0 : List Value} {a : Array Value} {G : zG} {r : Option Value} {M1 : zMem}
    (hr : va_Run p l e R s m args below meth c H locs 0 0 0 0 (F0 m pc ls st0) rest (zQc G (fun v M2 => v = r ∧ M2 = M1) a) G.2.2.2.1) (hS : va_S G.2.2.2.1 s.heap H locs)
    (kk : ∀ (H1 : Heap) (locs1 : List Loc), zP G M1 H1 → va_S G.2.2.2.1 s.heap H1 locs1 → W p l e R s m args below meth c H1 locs1 0 0 Q (F0 m (pc + 3) ls (r.toList ++ rest))) : W p l e R s m args below meth c H locs 0 0 Q (F0 m pc ls st0) := by
  intro T hT X
  obtain ⟨v, st₀, t, T', L, h0, X', hL, e1, e2, ⟨⟨v2, M2, hv, ⟨q1, q2⟩, hP⟩, hz, hk⟩, st⟩ := hr T hT X
  cases hv
  subst q1; subst q2
  rw [h0] at hz hk
  obtain ⟨t2, a1, b1⟩ := kk T'.heap (locs ++ L) (by rw [e1]; exact hP)
    ⟨Nat.le_trans hS.1 (by rw [e1]; exact hz), fun q h1 h2 => by rw [e1, hk q (Nat.lt_of_lt_of_le h1 hS.1) h2]; exact hS.2.1 q h1 h2, fun q hq => by
      rcases List.mem_append.mp hq with h | h
      · exact hS.2.2 q h
      · exact hL q h⟩ T' rfl X'
  exact ⟨t2, st t2 a1, b1⟩
variable {l : Launch} {G : zG} {d d' : Nat} {y y' : zY} {pc idx n : Nat} {lv : List (Nat × Value)} {st rest As : List Value} {M M1 : zMem} {Q : Option Value → zMem → Prop} {r : Option Value}
theorem zroomR (h : d' + 1 ≤ d) {k : Nat} (hk : k ≤ 21) : (zroom d').frames + 1 ≤ (zroom d).frames ∧ 8 + (k + 11) + (zroom d').locals ≤ (zroom d).locals := by
  simp only [zroom]; omega
theorem zPre {s : State} {H : Heap} {locs : List Loc} (hK : zK G s) (hS : va_S G.2.2.2.1 s.heap H locs) (hP : zP G M H) : PreS s H (va_Pc As (fun U => zK G U ∧ zP G M U.heap)) As :=
  ⟨fun a U g mk q => ⟨q.1, zK_blind g mk a q.2.1, q.2.2⟩, fun U hU hW => ⟨rfl, zK_next hK hS hU hW, by rw [hU]; exact hP⟩⟩
theorem x_invS (hd : decode y.2.1 pc = .ok (.invokestatic idx, 3)) (hm : zms y' n) (hk : Cond.methodLink y.1.cls idx y'.1 ∈ zT) (hc : Ca l G d' y' As M r M1) (hdd : d' + 1 ≤ d) (hst : st = As.reverse ++ rest) (hrm : (rest.map fun v => v.category).sum ≤ 8) (hn : As.length = n) (k : Ex l G d y (pc + 3) lv (r.toList ++ rest) M1 Q) : Ex l G d y pc lv st M Q := by
  obtain ⟨⟨h1, h2, h3, h4⟩, h5⟩ := hm
  subst hst
  intro p e s m args below meth c H locs ls C hS hP hl
  have hT : ∀ w, w ∈ zT → w.before args s = true := fun w h => C.2.2.2.2.2.1 w (List.mem_cons_of_mem _ h)
  refine z_call (va_runS (As := As) (rest := rest) ⟨C.1, C.2.1, C.2.2.1, C.2.2.2.2.1, C.2.2.2.2.2.1⟩ hc ⟨callB_of (bytes := y'.2.1) (maxL := y'.2.2.1) (ret := y'.2.2.2) (ws' := zT) n C.2.2.2.2.2.1 (zgoodIn h1) rfl rfl rfl (hT _ h2) (hT _ hk) h3 (zroomR hdd h4), hT _ h5⟩ (zPre C.2.2.2.2.2.2.2 hS hP) rfl hn hl.1 rfl (lv_room hrm) hd ⟨Nat.le_refl _, Nat.le_refl _⟩) hS (fun H1 locs1 hP1 hS1 => k p e s m args below meth c H1 locs1 ls C hS1 hP1 hl)
theorem x_invN {host : String} (hd : decode y.2.1 pc = .ok (.invokestatic idx, 3)) (hm : zms y' n) (hk : (y.1.cls, idx, y'.1, host) ∈ zNs) (hc : Ca l G d' y' As M r M1) (hdd : d' + 1 ≤ d) (hst : st = As.reverse ++ rest) (hrm : (rest.map fun v => v.category).sum ≤ 8) (hn : As.length = n) (k : Ex l G d y (pc + 3) lv (r.toList ++ rest) M1 Q) : Ex l G d y pc lv st M Q := by
  obtain ⟨⟨h1, h2, h3, h4⟩, h5⟩ := hm
  subst hst
  intro p e s m args below meth c H locs ls C hS hP hl
  have hT : ∀ w, w ∈ zT → w.before args s = true := fun w h => C.2.2.2.2.2.1 w (List.mem_cons_of_mem _ h)
  refine z_call (va_runSN (As := As) (rest := rest) ⟨C.1, C.2.1, C.2.2.1, C.2.2.2.2.1, C.2.2.2.2.2.1⟩ hc ⟨va_cnB (host := host) (bytes := y'.2.1) (maxL := y'.2.2.1) (ret := y'.2.2.2) (ws' := zT) n C.2.2.2.2.2.1 (zgoodIn h1) rfl rfl rfl (C.2.2.2.2.2.2.2.2.1 _ hk) (hT _ h2) h3 (zroomR hdd h4), hT _ h5, trivial⟩ (zPre C.2.2.2.2.2.2.2 hS hP) rfl hn hl.1 rfl (lv_room hrm) hd ⟨Nat.le_refl _, Nat.le_refl _⟩) hS (fun H1 locs1 hP1 hS1 => k p e s m args below meth c H1 locs1 ls C hS1 hP1 hl)
theorem x_invV {a ci : Nat} {cd : List Nat} {q : vw_C} (hd : decode y.2.1 pc = .ok (.invokevirtual idx, 3)) (hm : zmv y' n) (hk : Cond.methodLink y.1.cls idx y'.1 ∈ zT) (hs : SH[a]? = some (.inr (ci, cd))) (hci : classes[ci]? = some q) (hq : q.1 = y'.1.cls) (hc : Ca l G d' y' (.ref (G.2.2.1 a) :: As) M r M1) (hdd : d' + 1 ≤ d) (hst : st = As.reverse ++ .ref (G.2.2.1 a) :: rest) (hrm : (rest.map fun v => v.category).sum ≤ 8) (hn : As.length = n) (k : Ex l G d y (pc + 3) lv (r.toList ++ rest) M1 Q) : Ex l G d y pc lv st M Q := by
  obtain ⟨⟨h1, h2, h3, h4⟩, h5, h6⟩ := hm
  subst hst
  intro p e s m args below meth c H locs ls C hS hP hl
  have hT : ∀ w, w ∈ zT → w.before args s = true := fun w h => C.2.2.2.2.2.1 w (List.mem_cons_of_mem _ h)
  have hrec := va_recv C.2.2.2.2.2.2.2.1 hP.1 hci (zwl_at G M hs)
  rw [hq] at hrec
  have hpre := zPre (As := .ref (G.2.2.1 a) :: As) C.2.2.2.2.2.2.2 hS hP
  refine z_call (va_runV (As := As) (rest := rest) (C := y'.1.cls) ⟨C.1, C.2.1, C.2.2.1, C.2.2.2.2.1, C.2.2.2.2.2.1⟩ hc ⟨callB_of (bytes := y'.2.1) (maxL := y'.2.2.1) (ret := y'.2.2.2) (ws' := zT) n C.2.2.2.2.2.1 (zgoodIn h1) rfl rfl rfl (hT _ h2) (hT _ hk) h3 (zroomR hdd h4), hT _ h5, hT _ h6⟩ ⟨hpre.1, hrec, hpre.2⟩ rfl hn hl.1 rfl (lv_room hrm) hd ⟨Nat.le_refl _, Nat.le_refl _⟩) hS (fun H1 locs1 hP1 hS1 => k p e s m args below meth c H1 locs1 ls C hS1 hP1 hl)
end CALLS

