abbrev zqI (r : Int32) (M1 : zMem) : Option Value → zMem → Prop := fun v M2 => v = some (.int r) ∧ M2 = M1
abbrev zqJ (r : Int64) (M1 : zMem) : Option Value → zMem → Prop := fun v M2 => v = some (.long r) ∧ M2 = M1
abbrev zqV (M1 : zMem) : Option Value → zMem → Prop := fun v M2 => v = none ∧ M2 = M1
theorem zretI {e r : Int32} {M M1 : zMem} (h : some (e, M) = some (r, M1)) : some (Value.int e) = some (Value.int r) ∧ M = M1 := by
  cases h; exact ⟨rfl, rfl⟩
theorem zretJ {e r : Int64} {M M1 : zMem} (h : some (e, M) = some (r, M1)) : some (Value.long e) = some (Value.long r) ∧ M = M1 := by
  cases h; exact ⟨rfl, rfl⟩
theorem zretV {M M1 : zMem} (h : some M = some M1) : (none : Option Value) = none ∧ M = M1 := by
  cases h; exact ⟨rfl, rfl⟩
def zb2 {α β : Type} (x : Option (α × zMem)) (f : α → zMem → Option β) : Option β := x.bind fun q => f q.1 q.2
theorem zb2E {α β : Type} {x : Option (α × zMem)} {f : α → zMem → Option β} {r : β} (h : zb2 x f = some r) : ∃ v M, x = some (v, M) ∧ f v M = some r := by
  cases x with
  | none => cases h
  | some q => exact ⟨q.1, q.2, rfl, h⟩
def zgb {α : Type} (v : Int32) (x : Option α) : Option α := if v = 0 ∨ v = 1 then x else none
theorem zgbE {α : Type} {v : Int32} {x : Option α} {r : α} (h : zgb v x = some r) : (v = 0 ∨ v = 1) ∧ x = some r := by
  unfold zgb at h; exact zgd h
theorem znb {v : Int32} (h : v = 0 ∨ v = 1) : narrow .boolean (.int v) = .int v := by
  rcases h with rfl | rfl <;> rfl
def zdy {α : Type} (r : Nat) (x : Option α) : Option α := if r = 3 ∨ r = 11 then x else none
theorem zdyE {α : Type} {r : Nat} {x : Option α} {v : α} (h : zdy r x = some v) : (r = 3 ∨ r = 11) ∧ x = some v := by
  unfold zdy at h; exact zgd h
theorem zdySH {r : Nat} (h : r = 3 ∨ r = 11) : ∃ cd : List Nat, SH[r]? = some (.inr (6, cd)) := by
  rcases h with rfl | rfl
  · exact ⟨_, rfl⟩
  · exact ⟨_, rfl⟩
theorem ztl {x v : Int32} {lo : Int} (c : x = v) (h : ¬ v.toInt < lo) : ¬ x.toInt < lo := c ▸ h
theorem ztu {x v : Int32} {hi : Int} (c : x = v) (h : ¬ hi < v.toInt) : ¬ hi < x.toInt := c ▸ h
theorem zto {x v : Int32} {offs : Array Int} {lo off : Int} (c : x = v) (h : offs[(v.toInt - lo).toNat]? = some off) : offs[(x.toInt - lo).toNat]? = some off := c ▸ h
theorem ztne {x v : Int32} (c : ¬ x = v) {n : Int} (h : v.toInt = n) : x.toInt ≠ n := fun q => c (Int32.toInt_inj.mp (q.trans h.symm))
theorem zlo {x v : Int32} {ps : List (Int × Int)} {dflt off : Int} (c : x = v) (h : Op.lookupswitch.offset ps dflt v.toInt = off) : Op.lookupswitch.offset ps dflt x.toInt = off := c ▸ h
/-- a copy within int arrays -/
def zcpI (M : zMem) (sa n0 : Nat) (sp : Int32) (da n1 : Nat) (dp cnt : Int32) : Option zMem := if ¬ sp < 0 ∧ ¬ dp < 0 ∧ ¬ cnt < 0 ∧ sp.toNatClampNeg + cnt.toNatClampNeg ≤ n0 ∧ dp.toNatClampNeg + cnt.toNatClampNeg ≤ n1 then some (fun b => if b = da then va_cpy (M.1 sa) (M.1 da) sp.toNatClampNeg dp.toNatClampNeg cnt.toNatClampNeg else M.1 b, M.2) else none
section RULES
variable {l : Launch} {G : zG} {d d' : Nat} {y y' : zY} {pc idx n : Nat} {lv : List (Nat × Value)} {st rest As : List Value} {M M1 : zMem} {Q : Option Value → zMem → Prop}

theorem x_invVi {v : Int32} {a ci : Nat} {cd : List Nat} {q : vw_C} (hd : decode y.2.1 pc = .ok (.invokevirtual idx, 3)) (hm : zmv y' n) (hk : Cond.methodLink y.1.cls idx y'.1 ∈ zT) (hc : Ca l G d' y' (.ref (G.2.2.1 a) :: As) M (some (.int v)) M1) (hs : SH[a]? = some (.inr (ci, cd))) (hci : classes[ci]? = some q) (hq : q.1 = y'.1.cls) (hdd : d' + 1 ≤ d) (hst : st = As.reverse ++ .ref (G.2.2.1 a) :: rest) (hrm : (rest.map fun v => v.category).sum ≤ 8) (hn : As.length = n) (k : Ex l G d y (pc + 3) lv (.int v :: rest) M1 Q) : Ex l G d y pc lv st M Q := x_invV hd hm hk hs hci hq hc hdd hst hrm hn k
theorem x_invSi {v : Int32} (hd : decode y.2.1 pc = .ok (.invokestatic idx, 3)) (hm : zms y' n) (hk : Cond.methodLink y.1.cls idx y'.1 ∈ zT) (hc : Ca l G d' y' As M (some (.int v)) M1) (hdd : d' + 1 ≤ d) (hst : st = As.reverse ++ rest) (hrm : (rest.map fun v => v.category).sum ≤ 8) (hn : As.length = n) (k : Ex l G d y (pc + 3) lv (.int v :: rest) M1 Q) : Ex l G d y pc lv st M Q := x_invS hd hm hk hc hdd hst hrm hn k
theorem x_invNi {v : Int32} {host : String} (hd : decode y.2.1 pc = .ok (.invokestatic idx, 3)) (hm : zms y' n) (hk : (y.1.cls, idx, y'.1, host) ∈ zNs) (hc : Ca l G d' y' As M (some (.int v)) M1) (hdd : d' + 1 ≤ d) (hst : st = As.reverse ++ rest) (hrm : (rest.map fun v => v.category).sum ≤ 8) (hn : As.length = n) (k : Ex l G d y (pc + 3) lv (.int v :: rest) M1 Q) : Ex l G d y pc lv st M Q := x_invN hd hm hk hc hdd hst hrm hn k
theorem x_invVj {v : Int64} {a ci : Nat} {cd : List Nat} {q : vw_C} (hd : decode y.2.1 pc = .ok (.invokevirtual idx, 3)) (hm : zmv y' n) (hk : Cond.methodLink y.1.cls idx y'.1 ∈ zT) (hc : Ca l G d' y' (.ref (G.2.2.1 a) :: As) M (some (.long v)) M1) (hs : SH[a]? = some (.inr (ci, cd))) (hci : classes[ci]? = some q) (hq : q.1 = y'.1.cls) (hdd : d' + 1 ≤ d) (hst : st = As.reverse ++ .ref (G.2.2.1 a) :: rest) (hrm : (rest.map fun v => v.category).sum ≤ 8) (hn : As.length = n) (k : Ex l G d y (pc + 3) lv (.long v :: rest) M1 Q) : Ex l G d y pc lv st M Q := x_invV hd hm hk hs hci hq hc hdd hst hrm hn k
theorem x_invSj {v : Int64} (hd : decode y.2.1 pc = .ok (.invokestatic idx, 3)) (hm : zms y' n) (hk : Cond.methodLink y.1.cls idx y'.1 ∈ zT) (hc : Ca l G d' y' As M (some (.long v)) M1) (hdd : d' + 1 ≤ d) (hst : st = As.reverse ++ rest) (hrm : (rest.map fun v => v.category).sum ≤ 8) (hn : As.length = n) (k : Ex l G d y (pc + 3) lv (.long v :: rest) M1 Q) : Ex l G d y pc lv st M Q := x_invS hd hm hk hc hdd hst hrm hn k
theorem x_invNj {v : Int64} {host : String} (hd : decode y.2.1 pc = .ok (.invokestatic idx, 3)) (hm : zms y' n) (hk : (y.1.cls, idx, y'.1, host) ∈ zNs) (hc : Ca l G d' y' As M (some (.long v)) M1) (hdd : d' + 1 ≤ d) (hst : st = As.reverse ++ rest) (hrm : (rest.map fun v => v.category).sum ≤ 8) (hn : As.length = n) (k : Ex l G d y (pc + 3) lv (.long v :: rest) M1 Q) : Ex l G d y pc lv st M Q := x_invN hd hm hk hc hdd hst hrm hn k
theorem x_invVv {a ci : Nat} {cd : List Nat} {q : vw_C} (hd : decode y.2.1 pc = .ok (.invokevirtual idx, 3)) (hm : zmv y' n) (hk : Cond.methodLink y.1.cls idx y'.1 ∈ zT) (hc : Ca l G d' y' (.ref (G.2.2.1 a) :: As) M none M1) (hs : SH[a]? = some (.inr (ci, cd))) (hci : classes[ci]? = some q) (hq : q.1 = y'.1.cls) (hdd : d' + 1 ≤ d) (hst : st = As.reverse ++ .ref (G.2.2.1 a) :: rest) (hrm : (rest.map fun v => v.category).sum ≤ 8) (hn : As.length = n) (k : Ex l G d y (pc + 3) lv rest M1 Q) : Ex l G d y pc lv st M Q := x_invV hd hm hk hs hci hq hc hdd hst hrm hn k
theorem x_invSv (hd : decode y.2.1 pc = .ok (.invokestatic idx, 3)) (hm : zms y' n) (hk : Cond.methodLink y.1.cls idx y'.1 ∈ zT) (hc : Ca l G d' y' As M none M1) (hdd : d' + 1 ≤ d) (hst : st = As.reverse ++ rest) (hrm : (rest.map fun v => v.category).sum ≤ 8) (hn : As.length = n) (k : Ex l G d y (pc + 3) lv rest M1 Q) : Ex l G d y pc lv st M Q := x_invS hd hm hk hc hdd hst hrm hn k
theorem x_invNv {host : String} (hd : decode y.2.1 pc = .ok (.invokestatic idx, 3)) (hm : zms y' n) (hk : (y.1.cls, idx, y'.1, host) ∈ zNs) (hc : Ca l G d' y' As M none M1) (hdd : d' + 1 ≤ d) (hst : st = As.reverse ++ rest) (hrm : (rest.map fun v => v.category).sum ≤ 8) (hn : As.length = n) (k : Ex l G d y (pc + 3) lv rest M1 Q) : Ex l G d y pc lv st M Q := x_invN hd hm hk hc hdd hst hrm hn k
theorem x_copy {sa da n0 n1 : Nat} {sp dp cnt : Int32} (hd : decode y.2.1 pc = .ok (.invokestatic idx, 3)) (hk : Cond.methodLink y.1.cls idx arraycopyName ∈ zT) (hs0 : SH[sa]? = some (.inl (0, n0))) (hs1 : SH[da]? = some (.inl (0, n1))) (hv : zcpI M sa n0 sp da n1 dp cnt = some M1) (hdd : 1 ≤ d) (hrm : (st.map fun v => v.category).sum ≤ 8) (k : Ex l G d y (pc + 3) lv st M1 Q) : Ex l G d y pc lv (.int cnt :: .int dp :: .ref (G.2.2.1 da) :: .int sp :: .ref (G.2.2.1 sa) :: st) M Q := by
  unfold zcpI at hv
  obtain ⟨⟨g1, g2, g3, g4, g5⟩, h2⟩ := zgd hv
  have h2 := (Option.some.inj h2).symm
  subst h2
  intro p e s m args below meth c H locs ls C hS hP hl
  have hT : ∀ w, w ∈ zT → w.before args s = true := fun w h => C.2.2.2.2.2.1 w (List.mem_cons_of_mem _ h)
  refine va_copyi C.1 C.2.1 (C.2.2.1.trans hl.1.symm) C.2.2.2.2.1 (hT _ hk) (hT _ (zT_of 937 (by decide +kernel) (by decide +kernel))) (hT _ (zT_of 936 (by decide +kernel) (by decide +kernel))) (hT _ (zT_of 96 (by decide +kernel) (by decide +kernel))) C.2.2.2.2.2.2.2.1 hP.1 hP.2 hS sa da 0 0 (zwl_at G M hs0) (zwl_at G M hs1) (ty := .int) rfl rfl rfl g1 g2 g3 g4 g5 (fun i hi => rfl) hdd ?_ hd (fun H1 locs1 hP1 hD1 hS1 => ?_)
  · have hw : nativeFrameWords "java/lang/System" "arraycopy" 5 + 11 ≤ 32 := by decide +kernel
    show _ ≤ 40 * d
    omega
  · have e1 : (zwl G M 0 SH).set da (G.2.2.1 da, .inl (G.2.1 0, n1, .inl (va_cpy (M.1 sa) (M.1 da) sp.toNatClampNeg dp.toNatClampNeg cnt.toNatClampNeg))) = zwl G (fun b => if b = da then va_cpy (M.1 sa) (M.1 da) sp.toNatClampNeg dp.toNatClampNeg cnt.toNatClampNeg else M.1 b, M.2) 0 SH := by
      have e2 := zwl_set (G := G) (M := M) (M' := (fun b => if b = da then va_cpy (M.1 sa) (M.1 da) sp.toNatClampNeg dp.toNatClampNeg cnt.toNatClampNeg else M.1 b, M.2)) hs1 (fun b h x => zcell_same (M := M) (M' := (fun b => if b = da then va_cpy (M.1 sa) (M.1 da) sp.toNatClampNeg dp.toNatClampNeg cnt.toNatClampNeg else M.1 b, M.2)) (by simp [h]) rfl rfl x)
      rw [← e2]
      simp only [zcell, if_true]
      rfl
    rw [e1] at hP1 hD1
    exact k p e s m args below meth c H1 locs1 ls C hS1 ⟨hP1, hD1⟩ hl
end RULES

