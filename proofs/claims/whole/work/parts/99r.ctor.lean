/-! CONSTRUCTORS: a judgement over small worlds -/
abbrev kE : Type := va_G × (Nat → ClassId)
abbrev ktys (cT : Nat → ClassId) : List (ClassId × FieldType) := [(cT 0, .int), (cT 1, .long), (cT 2, .byte), (cT 3, .boolean)]
def kroom (d mc ms : Nat) : Room := { frames := d, cells := mc, slots := ms, locals := 40 * d }
def kfs (ty : Nat → FieldType) (N : Nat) : List Value := (List.range N).map (fun j => defaultValue (ty j))
theorem kfs_len (ty : Nat → FieldType) (N : Nat) : (kfs ty N).length = N := by simp [kfs]
def kQc (E : kE) (A : Nat → Prop) (Q : Option Value → va_W → Prop) : Array Value → State → Outcome → State → Prop := fun _ st oc t => (∃ (v : Option Value) (w : va_W), oc = .returned v ∧ Q v w ∧ va_P E.1 classes w t.heap ∧ va_D A w) ∧ va_F A st t
def kCx (E : kE) (A : Nat → Prop) (y : zY) (p : Program) (s : State) (m : MethodId) (args : Array Value) (meth : Method) (c : Code) : Prop :=
  p.tables.exec = Jvm.exec ∧ c.code = y.2.1 ∧ c.maxLocals = y.2.2.1 ∧ meth.sig.returnType = y.2.2.2 ∧ s.vm.findClass y.1.cls = some m.cls ∧ (∀ w ∈ zws y, w.before args s = true) ∧ meth.locks = false ∧ va_K E.1 classes (ktys E.2) s ∧ (∀ q, s.heap.size ≤ q → A q) ∧ meth.name = y.1.name
def Kx (l : Launch) (E : kE) (A : Nat → Prop) (d mc ms : Nat) (y : zY) (pc : Nat) (lv : List (Nat × Value)) (st : List Value) (k n : Nat) (w : va_W) (Q : Option Value → va_W → Prop) : Prop :=
  ∀ (p : Program) (e : Env) (s : State) (m : MethodId) (args : Array Value) (below : List Frame) (meth : Method) (c : Code) (H : Heap) (locs : List Loc) (ls : Array Slot),
    kCx E A y p s m args meth c → va_S A s.heap H locs → va_P E.1 classes w H → va_D A w → lv_has ls y.2.2.1 lv →
    W p l e (kroom d mc ms) s m args below meth c H locs k n (MQ below (kQc E A Q) args s mc ms A) (F0 m pc ls st)
def kPc (E : kE) (As : List Value) (w0 : va_W) (sz : Nat) : Array Value → State → Prop := va_Pc As (fun U => U.heap.size = sz ∧ va_P E.1 classes w0 U.heap ∧ va_K E.1 classes (ktys E.2) U ∧ va_D (fun _ => True) w0)
def Kc (l : Launch) (E : kE) (d mc ms : Nat) (y : zY) (As : List Value) (w0 : va_W) (Q : Option Value → va_W → Prop) : Prop :=
  ∀ sz : Nat, Met l y.1 (zws y) (kroom d mc ms) (kPc E As w0 sz) (kQc E (va_A w0 sz) Q) mc ms (va_A w0 sz)
theorem Kc.of {l : Launch} {E : kE} {d mc ms : Nat} {y : zY} {As : List Value} {w0 : va_W} {Q : Option Value → va_W → Prop} (hn : plainName y.1.cls = true) (hz : (lg_sl As).length ≤ y.2.2.1) {lv : List (Nat × Value)} (hlv : lv_args 0 As = lv) (k : ∀ A, Kx l E A d mc ms y 0 lv [] 0 0 w0 Q) : Kc l E d mc ms y As w0 Q := by
  intro sz
  refine Met.ofW (cc := y.2.1) (maxL := y.2.2.1) (ret := y.2.2.2) hn rfl ?_
  intro p e s m args below meth c s₁ B hml hv
  obtain ⟨rfl, hsz, hP, hK, hD⟩ := hv
  subst hsz
  rw [lg_entry_eq]
  have hl := lv_entry As (n := y.2.2.1) hz
  rw [hlv] at hl
  exact k _ p e s m _ below meth c s.heap [] _ ⟨B.exec, B.bytes, hml, B.returns, findClass_of_methodNamed B.named, atoms_spec (ws := zws y) B.pre, B.notSynchronized, hK, fun q h => Or.inr h, (name_of_methodNamed B.named B.method).1⟩ va_S.rf hP hD.self hl
theorem k_join {A0 : Nat → Prop} {D : va_G} {cl : List vw_C} {wc wr w1 : va_W} {H H1 : Heap} (hP : va_P D cl (wr ++ wc) H) (hD : va_D A0 (wr ++ wc))
    (hk : ∀ q : Nat, q < H.size → ¬ va_A wc H.size q → H1[q]? = H[q]?) (hF : ∀ q, va_A wc H.size q → A0 q) (hP1 : va_P D cl w1 H1) (hD1 : va_D (va_A wc H.size) w1) : va_P D cl (wr ++ w1) H1 ∧ va_D A0 (wr ++ w1) := by
  have hat : ∀ (k : Nat) (q : Nat × va_E), wr[k]? = some q → k < wr.length ∧ (wr ++ wc)[k]? = some q := by
    intro k q h
    have hl := (List.getElem?_eq_some_iff.mp h).1
    exact ⟨hl, by rw [List.getElem?_append_left hl]; exact h⟩
  have apart : ∀ (k : Nat) (q : Nat × va_E), wr[k]? = some q → q.1 < H.size ∧ ¬ va_A wc H.size q.1 := by
    intro k q hq
    obtain ⟨hl, h2⟩ := hat k q hq
    have h3 := (hP k q h2).lt
    refine ⟨h3, fun h => ?_⟩
    rcases h with ⟨k2, e, h⟩ | h
    · have h4 : (wr ++ wc)[wr.length + k2]? = some (q.1, e) := by
        rw [List.getElem?_append_right (by omega), Nat.add_sub_cancel_left]; exact h
      have h5 := hD.1 k (wr.length + k2) q (q.1, e) h2 h4 rfl
      omega
    · omega
  refine ⟨va_P.app (va_P.kept (H := H) (fun k q h => hP k q (hat k q h).2) (fun k q h => hk q.1 (apart k q h).1 (apart k q h).2)) hP1, va_D.app ⟨fun i j p q h1 h2 e => hD.1 i j p q (hat i p h1).2 (hat j q h2).2 e, fun k q h => hD.2 k q (hat k q h).2⟩ (hD1.weaken (fun _ q _ h => hF q.1 h)) ?_⟩
  intro i j p q h1 h2 e
  have h3 := hD1.2 j q h2
  rw [← e] at h3
  exact (apart i p h1).2 h3
theorem k_back {p : Program} {l : Launch} {e : Env} {R : Room} {s : State} {m : MethodId} {args : Array Value} {below : List Frame} {meth : Method} {c : Code} {H : Heap} {locs : List Loc} {cells slots mc ms : Nat} {Q : State → Prop} {pc : Nat} {ls : Array Slot} {rest st0 : List Value} {a : Array Value} {E : kE} {A : Nat → Prop} {wr wc : va_W} {Q' : Option Value → va_W → Prop}
    (hr : va_Run p l e R s m args below meth c H locs cells slots mc ms (F0 m pc ls st0) rest (kQc E (va_A wc H.size) Q' a) (va_A wc H.size)) (hS : va_S A s.heap H locs) (hA : ∀ q, s.heap.size ≤ q → A q) (hP : va_P E.1 classes (wr ++ wc) H) (hD : va_D A (wr ++ wc))
    (kk : ∀ (v : Option Value) (w1 : va_W) (H1 : Heap) (locs1 : List Loc), Q' v w1 → va_P E.1 classes (wr ++ w1) H1 → va_D A (wr ++ w1) → va_S A s.heap H1 locs1 → W p l e R s m args below meth c H1 locs1 (cells + mc) (slots + ms) Q (F0 m (pc + 3) ls (v.toList ++ rest))) : W p l e R s m args below meth c H locs cells slots Q (F0 m pc ls st0) := by
  have hF : ∀ q, va_A wc H.size q → A q := by
    intro q h
    rcases h with ⟨k2, e, h⟩ | h
    · have h4 : (wr ++ wc)[wr.length + k2]? = some (q, e) := by
        rw [List.getElem?_append_right (by omega), Nat.add_sub_cancel_left]; exact h
      exact hD.2 _ _ h4
    · exact hA q (Nat.le_trans hS.1 h)
  intro T hT X
  obtain ⟨v, st₀, t, T', L, h0, X', hL, e1, e2, ⟨⟨v2, w1, hv, hq, hP1, hD1⟩, hz, hk⟩, st⟩ := hr T hT X
  cases hv
  rw [h0] at hz hk
  obtain ⟨hP2, hD2⟩ := k_join hP hD hk hF hP1 hD1
  obtain ⟨t2, a1, b1⟩ := kk v w1 T'.heap (locs ++ L) hq (by rw [e1]; exact hP2) hD2
    ⟨Nat.le_trans hS.1 (by rw [e1]; exact hz), fun q h1 h2 => by rw [e1, hk q (Nat.lt_of_lt_of_le h1 hS.1) (fun z => h2 (hF q z))]; exact hS.2.1 q h1 h2, fun q hq => by
      rcases List.mem_append.mp hq with h | h
      · exact hS.2.2 q h
      · exact hF _ (hL q h)⟩ T' rfl X'
  exact ⟨t2, st t2 a1, b1⟩
theorem kPre {E : kE} {s : State} {H : Heap} {wr wc : va_W} {A : Nat → Prop} {As : List Value} (hK : va_K E.1 classes (ktys E.2) s) (hP : va_P E.1 classes (wr ++ wc) H) (hD : va_D A (wr ++ wc)) : PreS s H (kPc E As wc H.size) As := by
  have hat : ∀ (k : Nat) (q : Nat × va_E), wc[k]? = some q → (wr ++ wc)[wr.length + k]? = some q := by
    intro k q h
    rw [List.getElem?_append_right (by omega), Nat.add_sub_cancel_left]; exact h
  refine ⟨fun a U g mk q => ⟨q.1, q.2.1, q.2.2.1, va_K.moved (u := U) (U := U.calling g mk a) (Vm.Alike.refl U.vm) q.2.2.2.1, q.2.2.2.2⟩, fun U hU hW => ⟨rfl, by rw [hU], by rw [hU]; exact fun k q h => hP _ q (hat k q h), va_K.moved hW.alike hK, fun i j p q h1 h2 e => ?_, fun _ _ _ => trivial⟩⟩
  have h := hD.1 _ _ p q (hat i p h1) (hat j q h2) e
  omega
def zmInit (y : zY) (n : Nat) : Prop := zmk y n ∧ y.1.name = "<init>" ∧ Cond.instanceMethod y.1 ∈ zT
section KR
variable {l : Launch} {E : kE} {A : Nat → Prop} {d mc ms : Nat} {y : zY} {pc : Nat} {lv : List (Nat × Value)} {st : List Value} {k n : Nat} {w : va_W} {Q : Option Value → va_W → Prop}
theorem k_eq {w' : va_W} (h : w' = w) (kk : Kx l E A d mc ms y pc lv st k n w' Q) : Kx l E A d mc ms y pc lv st k n w Q := h ▸ kk
theorem k_perm {w' : va_W} (is : List Nat) (hn : va_nd is = true) (hs : is.map (fun i => w[i]?) = w'.map some) (kk : Kx l E A d mc ms y pc lv st k n w' Q) : Kx l E A d mc ms y pc lv st k n w Q := by
  intro p e s m args below meth c H locs ls C hS hP hD hl
  refine kk p e s m args below meth c H locs ls C hS (fun j q hj => ?_) (hD.sub is hn hs) hl
  have h1 : (is.map (fun i => w[i]?))[j]? = some (some q) := by rw [hs, List.getElem?_map, hj]; rfl
  rw [List.getElem?_map] at h1
  cases hi : is[j]? with
  | none => rw [hi] at h1; cases h1
  | some i => rw [hi] at h1; exact hP i q (Option.some.inj h1)
theorem k_iconst {i : Int} {v : Int32} (hd : decode y.2.1 pc = .ok (.iconst i, 1)) (hv : Int32.ofInt i = v) (kk : Kx l E A d mc ms y (pc + 1) lv (.int v :: st) k n w Q) : Kx l E A d mc ms y pc lv st k n w Q :=
  fun p e s m args below meth c H locs ls C hS hP hD hl => lv_iconst C.1 C.2.1 hd hv (kk p e s m args below meth c H locs ls C hS hP hD hl)
theorem k_bipush {i : Int} {v : Int32} (hd : decode y.2.1 pc = .ok (.bipush i, 2)) (hv : (Int8.ofInt i).toInt32 = v) (kk : Kx l E A d mc ms y (pc + 2) lv (.int v :: st) k n w Q) : Kx l E A d mc ms y pc lv st k n w Q :=
  fun p e s m args below meth c H locs ls C hS hP hD hl => lv_bipush C.1 C.2.1 hd hv (kk p e s m args below meth c H locs ls C hS hP hD hl)
theorem k_sipush {i : Int} {v : Int32} (hd : decode y.2.1 pc = .ok (.sipush i, 3)) (hv : (Int16.ofInt i).toInt32 = v) (kk : Kx l E A d mc ms y (pc + 3) lv (.int v :: st) k n w Q) : Kx l E A d mc ms y pc lv st k n w Q :=
  fun p e s m args below meth c H locs ls C hS hP hD hl => lv_sipush C.1 C.2.1 hd hv (kk p e s m args below meth c H locs ls C hS hP hD hl)
theorem k_aload_n {k0 : Fin 4} {i x : Nat} (hd : decode y.2.1 pc = .ok (.aload_n k0, 1)) (hi : (k0 : Nat) = i) (hx : zlk lv i = some (.ref x)) (kk : Kx l E A d mc ms y (pc + 1) lv (.ref x :: st) k n w Q) : Kx l E A d mc ms y pc lv st k n w Q :=
  fun p e s m args below meth c H locs ls C hS hP hD hl => lv_aload_n C.1 C.2.1 hd hi (zlk_ls hl hx) (kk p e s m args below meth c H locs ls C hS hP hD hl)
theorem k_aload {i x : Nat} (hd : decode y.2.1 pc = .ok (.aload i, 2)) (hx : zlk lv i = some (.ref x)) (kk : Kx l E A d mc ms y (pc + 2) lv (.ref x :: st) k n w Q) : Kx l E A d mc ms y pc lv st k n w Q :=
  fun p e s m args below meth c H locs ls C hS hP hD hl => lv_aload C.1 C.2.1 hd (zlk_ls hl hx) (kk p e s m args below meth c H locs ls C hS hP hD hl)
theorem k_iload_n {k0 : Fin 4} {i : Nat} {x : Int32} (hd : decode y.2.1 pc = .ok (.iload_n k0, 1)) (hi : (k0 : Nat) = i) (hx : zlk lv i = some (.int x)) (kk : Kx l E A d mc ms y (pc + 1) lv (.int x :: st) k n w Q) : Kx l E A d mc ms y pc lv st k n w Q :=
  fun p e s m args below meth c H locs ls C hS hP hD hl => lv_iload_n C.1 C.2.1 hd hi (zlk_ls hl hx) (kk p e s m args below meth c H locs ls C hS hP hD hl)
theorem k_iload {i : Nat} {x : Int32} (hd : decode y.2.1 pc = .ok (.iload i, 2)) (hx : zlk lv i = some (.int x)) (kk : Kx l E A d mc ms y (pc + 2) lv (.int x :: st) k n w Q) : Kx l E A d mc ms y pc lv st k n w Q :=
  fun p e s m args below meth c H locs ls C hS hP hD hl => lv_iload C.1 C.2.1 hd (zlk_ls hl hx) (kk p e s m args below meth c H locs ls C hS hP hD hl)
theorem k_lload_n {k0 : Fin 4} {i : Nat} {x : Int64} (hd : decode y.2.1 pc = .ok (.lload_n k0, 1)) (hi : (k0 : Nat) = i) (hx : zlk lv i = some (.long x)) (kk : Kx l E A d mc ms y (pc + 1) lv (.long x :: st) k n w Q) : Kx l E A d mc ms y pc lv st k n w Q :=
  fun p e s m args below meth c H locs ls C hS hP hD hl => lv_lload_n C.1 C.2.1 hd hi (zlk_ls hl hx) (kk p e s m args below meth c H locs ls C hS hP hD hl)
theorem k_lconst {i : Fin 2} {v : Int64} (hd : decode y.2.1 pc = .ok (.lconst i, 1)) (hv : Int64.ofNat (i : Nat) = v) (kk : Kx l E A d mc ms y (pc + 1) lv (.long v :: st) k n w Q) : Kx l E A d mc ms y pc lv st k n w Q :=
  fun p e s m args below meth c H locs ls C hS hP hD hl => lv_lconst C.1 C.2.1 hd hv (kk p e s m args below meth c H locs ls C hS hP hD hl)
theorem k_ldc2 {index : Nat} {v : Int64} (hc : Cond.constantLong y.1.cls index v ∈ zT) (hd : decode y.2.1 pc = .ok (.ldc2_w index, 3)) (kk : Kx l E A d mc ms y (pc + 3) lv (.long v :: st) k n w Q) : Kx l E A d mc ms y pc lv st k n w Q :=
  fun p e s m args below meth c H locs ls C hS hP hD hl => lv_ldc2 C.1 C.2.1 C.2.2.2.2.1 (C.2.2.2.2.2.1 _ (List.mem_cons_of_mem _ hc)) hd (kk p e s m args below meth c H locs ls C hS hP hD hl)
theorem k_iadd {a b : Int32} (hd : decode y.2.1 pc = .ok (.iadd, 1)) (kk : Kx l E A d mc ms y (pc + 1) lv (.int (a + b) :: st) k n w Q) : Kx l E A d mc ms y pc lv (.int b :: .int a :: st) k n w Q :=
  fun p e s m args below meth c H locs ls C hS hP hD hl => lv_iadd C.1 C.2.1 hd (kk p e s m args below meth c H locs ls C hS hP hD hl)
theorem k_isub {a b : Int32} (hd : decode y.2.1 pc = .ok (.isub, 1)) (kk : Kx l E A d mc ms y (pc + 1) lv (.int (a - b) :: st) k n w Q) : Kx l E A d mc ms y pc lv (.int b :: .int a :: st) k n w Q :=
  fun p e s m args below meth c H locs ls C hS hP hD hl => lv_isub C.1 C.2.1 hd (kk p e s m args below meth c H locs ls C hS hP hD hl)
theorem k_ladd {a b : Int64} (hd : decode y.2.1 pc = .ok (.ladd, 1)) (kk : Kx l E A d mc ms y (pc + 1) lv (.long (a + b) :: st) k n w Q) : Kx l E A d mc ms y pc lv (.long b :: .long a :: st) k n w Q :=
  fun p e s m args below meth c H locs ls C hS hP hD hl => lv_ladd C.1 C.2.1 hd (kk p e s m args below meth c H locs ls C hS hP hD hl)
theorem k_lmul {a b : Int64} (hd : decode y.2.1 pc = .ok (.lmul, 1)) (kk : Kx l E A d mc ms y (pc + 1) lv (.long (a * b) :: st) k n w Q) : Kx l E A d mc ms y pc lv (.long b :: .long a :: st) k n w Q :=
  fun p e s m args below meth c H locs ls C hS hP hD hl => lv_lmul C.1 C.2.1 hd (kk p e s m args below meth c H locs ls C hS hP hD hl)
theorem k_i2l {a : Int32} (hd : decode y.2.1 pc = .ok (.i2l, 1)) (kk : Kx l E A d mc ms y (pc + 1) lv (.long a.toInt64 :: st) k n w Q) : Kx l E A d mc ms y pc lv (.int a :: st) k n w Q :=
  fun p e s m args below meth c H locs ls C hS hP hD hl => lv_i2l C.1 C.2.1 hd rfl (kk p e s m args below meth c H locs ls C hS hP hD hl)
theorem k_dup {v : Value} (hd : decode y.2.1 pc = .ok (.dup, 1)) (hc : v.category = 1) (kk : Kx l E A d mc ms y (pc + 1) lv (v :: v :: st) k n w Q) : Kx l E A d mc ms y pc lv (v :: st) k n w Q :=
  fun p e s m args below meth c H locs ls C hS hP hD hl => lv_dup C.1 C.2.1 hd hc (kk p e s m args below meth c H locs ls C hS hP hD hl)
theorem k_if_ne {a : Int32} {off : Int} {tgt : Nat} (hd : decode y.2.1 pc = .ok (.ifCond .ne off, 3)) (ht : (pc : Int) + off = (tgt : Int)) (kt : ¬ a = 0 → Kx l E A d mc ms y tgt lv st k n w Q) (kf : a = 0 → Kx l E A d mc ms y (pc + 3) lv st k n w Q) : Kx l E A d mc ms y pc lv (.int a :: st) k n w Q :=
  fun p e s m args below meth c H locs ls C hS hP hD hl => lv_if_ne C.1 C.2.1 hd ht (fun q => kt q p e s m args below meth c H locs ls C hS hP hD hl) (fun q => kf q p e s m args below meth c H locs ls C hS hP hD hl)
theorem k_icmp_ge {a b : Int32} {off : Int} {tgt : Nat} (hd : decode y.2.1 pc = .ok (.if_icmp .ge off, 3)) (ht : (pc : Int) + off = (tgt : Int)) (kt : b ≤ a → Kx l E A d mc ms y tgt lv st k n w Q) (kf : ¬ b ≤ a → Kx l E A d mc ms y (pc + 3) lv st k n w Q) : Kx l E A d mc ms y pc lv (.int b :: .int a :: st) k n w Q :=
  fun p e s m args below meth c H locs ls C hS hP hD hl => lv_icmp_ge C.1 C.2.1 hd ht (fun q => kt q p e s m args below meth c H locs ls C hS hP hD hl) (fun q => kf q p e s m args below meth c H locs ls C hS hP hD hl)
theorem k_goto {off : Int} {tgt : Nat} (hd : decode y.2.1 pc = .ok (.goto off, 3)) (ht : (pc : Int) + off = (tgt : Int)) (kk : Kx l E A d mc ms y tgt lv st k n w Q) : Kx l E A d mc ms y pc lv st k n w Q :=
  fun p e s m args below meth c H locs ls C hS hP hD hl => lv_goto C.1 C.2.1 hd ht (kk p e s m args below meth c H locs ls C hS hP hD hl)
theorem k_istore_n {k0 : Fin 4} {i : Nat} {x : Int32} (hd : decode y.2.1 pc = .ok (.istore_n k0, 1)) (hi : (k0 : Nat) = i) (hn : i < y.2.2.1) (kk : Kx l E A d mc ms y (pc + 1) (zst1 lv i (.int x)) st k n w Q) : Kx l E A d mc ms y pc lv (.int x :: st) k n w Q :=
  fun p e s m args below meth c H locs ls C hS hP hD hl => lv_istore_n C.1 C.2.1 hd hi hl hn rfl (fun ls hl => kk p e s m args below meth c H locs ls C hS hP hD hl)
theorem k_iinc {i : Nat} {j : Int} {x c0 : Int32} (hd : decode y.2.1 pc = .ok (.iinc i j, 3)) (hx : zlk lv i = some (.int x)) (hn : i < y.2.2.1) (hc : Int32.ofInt j = c0) (kk : Kx l E A d mc ms y (pc + 3) (zst1 lv i (.int (x + c0))) st k n w Q) : Kx l E A d mc ms y pc lv st k n w Q := by
  subst hc
  intro p e s m args below meth c H locs ls C hS hP hD hl
  obtain ⟨q, hq⟩ := List.getElem?_of_mem (zlk_mem hx)
  exact lv_iinc C.1 C.2.1 hd hl hq rfl hn rfl (fun ls hl => kk p e s m args below meth c H locs ls C hS hP hD hl)
theorem k_sub {lv' : List (Nat × Value)} (h : zall lv lv') (kk : Kx l E A d mc ms y pc lv' st k n w Q) : Kx l E A d mc ms y pc lv st k n w Q :=
  fun p e s m args below meth c H locs ls C hS hP hD hl => kk p e s m args below meth c H locs ls C hS hP hD (zall_sub hl h)
theorem k_get {a ci j idx q0 : Nat} {fs : List Value} {v : Value} (hd : decode y.2.1 pc = .ok (.getfield idx, 3)) (hf : zfl y.1.cls idx ci j) (he : w[q0]? = some (a, .inr (ci, fs))) (hv : fs[j]? = some v) (kk : Kx l E A d mc ms y (pc + 3) lv (v :: st) k n w Q) : Kx l E A d mc ms y pc lv (.ref a :: st) k n w Q := by
  obtain ⟨q, h1, h2, h3⟩ := hf
  intro p e s m args below meth c H locs ls C hS hP hD hl
  exact va_get (D := E.1) (C := q.1) (T := q.2.1) (N := q.2.2) C.1 C.2.1 C.2.2.2.2.2.1 (fun w h => List.mem_cons_of_mem _ ((zcok_all h1).1 w h)) C.2.2.2.2.1 C.2.2.2.2.2.2.2.1 hP q0 he h1 j h2 (C.2.2.2.2.2.1 _ (List.mem_cons_of_mem _ h3)) (fun _ h => h) hv hd (kk p e s m args below meth c H locs ls C hS hP hD hl)
def kfp (own : String) (idx ci j : Nat) (ty : FieldType) (fin : Bool) : Prop := ∃ q : vw_C, classes[ci]? = some q ∧ j < q.2.2 ∧ Cond.fieldLink own idx (q.2.1 j).1 (q.2.1 j).2.1 (q.2.1 j).2.2.1 ∈ zT ∧ parseFieldDescriptor (q.2.1 j).2.2.1 = some ty ∧ (q.2.1 j).2.2.2 = fin ∧ (q.2.1 j).1 = own
theorem k_putN {h0 ci j idx N : Nat} {fs : List Value} {arrs : va_W} {ty : FieldType} {v : Value} (hN : fs.length = N) (hj : j < N) (hd : decode y.2.1 pc = .ok (.putfield idx, 3)) (hf : kfp y.1.cls idx ci j ty false) (hn : narrow ty v = v) (hfit : fits ty v = true) (kk : (fs.set j v).length = N → Kx l E A d mc ms y (pc + 3) lv st k n ((h0, .inr (ci, fs.set j v)) :: arrs) Q) : Kx l E A d mc ms y pc lv (v :: .ref h0 :: st) k n ((h0, .inr (ci, fs)) :: arrs) Q := by
  obtain ⟨q, h1, h2, h3, h4, h5, h6⟩ := hf
  obtain ⟨ty0, hty⟩ := (zcok_all h1).2.1
  intro p e s m args below meth c H locs ls C hS hP hD hl
  exact va_put (D := E.1) (C := q.1) (T := q.2.1) (N := q.2.2) C.1 C.2.1 C.2.2.2.2.2.1 (fun w h => List.mem_cons_of_mem _ ((zcok_all h1).1 w h)) ty0 hty (zcok_all h1).2.2 C.2.2.2.2.1 C.2.2.2.2.2.2.2.1 hP hD hS 0 rfl h1 j h2 (C.2.2.2.2.2.1 _ (List.mem_cons_of_mem _ h3)) (fun _ h => h) h5 h4 hn hfit (by rw [hN]; exact hj) hd (fun H1 locs1 hP1 hD1 hS1 => kk (by rw [List.length_set]; exact hN) p e s m args below meth c H1 locs1 ls C hS1 hP1 hD1 hl)
theorem k_putF {h0 ci j idx N : Nat} {fs : List Value} {arrs : va_W} {ty : FieldType} {v : Value} (hy : y.1.name = "<init>") (hN : fs.length = N) (hj : j < N) (hd : decode y.2.1 pc = .ok (.putfield idx, 3)) (hf : kfp y.1.cls idx ci j ty true) (hn : narrow ty v = v) (hfit : fits ty v = true) (kk : (fs.set j v).length = N → Kx l E A d mc ms y (pc + 3) lv st k n ((h0, .inr (ci, fs.set j v)) :: arrs) Q) : Kx l E A d mc ms y pc lv (v :: .ref h0 :: st) k n ((h0, .inr (ci, fs)) :: arrs) Q := by
  obtain ⟨q, h1, h2, h3, h4, h5, h6⟩ := hf
  obtain ⟨ty0, hty⟩ := (zcok_all h1).2.1
  intro p e s m args below meth c H locs ls C hS hP hD hl
  exact va_putF (D := E.1) (C := q.1) (T := q.2.1) (N := q.2.2) C.1 C.2.1 C.2.2.2.2.2.1 (fun w h => List.mem_cons_of_mem _ ((zcok_all h1).1 w h)) ty0 hty (zcok_all h1).2.2 C.2.2.2.2.1 C.2.2.2.2.2.2.2.1 hP hD hS 0 rfl h1 j h2 (C.2.2.2.2.2.1 _ (List.mem_cons_of_mem _ h3)) (fun _ h => h) h5 (C.2.2.2.2.2.2.2.2.2.trans hy) h6 h4 hn hfit (by rw [hN]; exact hj) hd (fun H1 locs1 hP1 hD1 hS1 => kk (by rw [List.length_set]; exact hN) p e s m args below meth c H1 locs1 ls C hS1 hP1 hD1 hl)
theorem k_new {C : String} {T : u_T} {N ci idx : Nat} {h : Nat × va_E} {arrs : va_W} (ty : Nat → FieldType) (hty : ∀ k, k < N → parseFieldDescriptor (T k).2.2.1 = some (ty k)) (hci : classes[ci]? = some (C, T, N)) (hcl : Cond.classLink y.1.cls idx C ∈ zT) (hinst : Cond.instantiable C N ∈ zT) (hini : Cond.initialized C ∈ zT) (h1 : k + 1 ≤ mc) (h2 : n + N ≤ ms) (hd : decode y.2.1 pc = .ok (.new idx, 3))
    (kk : ∀ q : Nat, Kx l E A d mc ms y (pc + 3) lv (.ref q :: st) (k + 1) (n + N) (h :: (arrs ++ [(q, .inr (ci, kfs ty N))])) Q) : Kx l E A d mc ms y pc lv st k n (h :: arrs) Q := by
  intro p e s m args below meth c H locs ls C hS hP hD hl
  have hT : ∀ w, w ∈ zT → w.before args s = true := fun w h => C.2.2.2.2.2.1 w (List.mem_cons_of_mem _ h)
  exact va_new (D := E.1) C.1 C.2.1 C.2.2.2.2.2.1 (fun w h => List.mem_cons_of_mem _ ((zcok_all hci).1 w h)) ty hty C.2.2.2.2.1 (hT _ hcl) (hT _ hinst) (hT _ hini) C.2.2.2.2.2.2.2.1 hP hD hS C.2.2.2.2.2.2.2.2.1 hci (fs := kfs ty N) (fun j hj => by simp [vp_V, kfs, hj]) h1 h2 hd (fun q H1 hP1 hD1 hS1 => kk q p e s m args below meth c H1 locs ls C hS1 hP1 hD1 hl)
theorem k_newa {t N' : Nat} {ty : FieldType} {atype : ArrayType} {a0 : vp_A} {i : Int32} {h : Nat × va_E} {arrs : va_W} (hty : newarray.typeOf atype = ty) (htt : (ktys E.2)[t]? = some (E.2 t, ty)) (hra : ∀ (U : State) (cA : ClassId), va_RA U cA ty → U.vm.findClass ("[" ++ ty.toString) = some cA) (harr : Cond.arrayClass ty ∈ zT) (ha : ∀ cA : ClassId, vp_cell cA a0 = arrV cA N' (fun _ => defaultValue ty)) (hi : ¬ i < 0) (hN : i.toNatClampNeg = N') (hbytes : N' * componentBytes ty ≤ 536870912) (h1 : k + 1 ≤ mc) (h2 : n + N' ≤ ms) (hd : decode y.2.1 pc = .ok (.newarray atype, 2))
    (kk : ∀ q : Nat, Kx l E A d mc ms y (pc + 2) lv (.ref q :: st) (k + 1) (n + N') (h :: (arrs ++ [(q, .inl (E.2 t, a0))])) Q) : Kx l E A d mc ms y pc lv (.int i :: st) k n (h :: arrs) Q := by
  subst hty
  intro p e s m args below meth c H locs ls C hS hP hD hl
  refine va_newaK C.1 C.2.1 (C.2.2.2.2.2.1 _ (List.mem_cons_of_mem _ harr)) rfl hd rfl hi hN hbytes h1 h2 rfl fun H1 cA e1 z1 o1 hAr hNm => ?_
  have hcA : cA = E.2 t := by
    have h3 := hra s _ (C.2.2.2.2.2.2.2.1.2 t _ htt).2
    rw [hNm] at h3; exact Option.some.inj h3
  subst hcA
  have hk : ∀ (k : Nat) (x : Nat × va_E), (h :: arrs)[k]? = some x → H1[x.1]? = H[x.1]? := fun k x hx => o1 x.1 ((hP k x hx).lt)
  refine kk H.size p e s m args below meth c H1 locs ls C ⟨Nat.le_trans hS.1 (by omega), fun x h1 h2 => (o1 x (Nat.lt_of_lt_of_le h1 hS.1)).trans (hS.2.1 x h1 h2), hS.2.2⟩ ((hP.kept hk).app (w2 := [(H.size, .inl (E.2 t, a0))]) (fun k x hx => ?_)) (hD.push hP rfl (C.2.2.2.2.2.2.2.2.1 _ hS.1)) hl
  have hz : k < 1 := (List.getElem?_eq_some_iff.mp hx).1
  rw [show k = 0 by omega] at hx
  cases hx
  show H1[H.size]? = some (vp_cell _ _)
  rw [e1, ha]
theorem k_objInit {idx a : Nat} (hd : decode y.2.1 pc = .ok (.invokespecial idx, 3)) (hk : Cond.methodLink y.1.cls idx Lib.objectInit ∈ zT) (hi : Cond.instanceMethod Lib.objectInit ∈ zT) (hc : Cond.code Lib.objectInit ⟨#[0xb1]⟩ 1 none ∈ zT) (hd1 : 1 ≤ d) (kk : Kx l E A d mc ms y (pc + 3) lv [] k n w Q) : Kx l E A d mc ms y pc lv [.ref a] k n w Q := by
  intro p e s m args below meth c H locs ls C hS hP hD hl
  have hT : ∀ w, w ∈ zT → w.before args s = true := fun w h => C.2.2.2.2.2.1 w (List.mem_cons_of_mem _ h)
  refine W.objInit C.1 C.2.1 C.2.2.2.2.1 (hT _ hk) (hT _ hi) (hT _ hc) rfl (by rw [C.2.2.1]; exact hl.1) rfl hd hd1 ?_ (kk p e s m args below meth c H locs ls C hS hP hD hl)
  show 2 * 0 + 0 + 12 ≤ 40 * d
  omega
theorem k_vret (hr : y.2.2.2 = none) (hd : decode y.2.1 pc = .ok (.return_, 1)) (h1 : k ≤ mc) (h2 : n ≤ ms) (hq : Q none w) : Kx l E A d mc ms y pc lv [] k n w Q := by
  intro p e s m args below meth c H locs ls C hS hP hD hl
  refine W.widen (k := mc) (n := ms) h1 h2 ?_
  exact W.vret C.1 C.2.1 (C.2.2.2.1.trans hr) (fun t ht hW => ⟨⟨_, w, rfl, hq, by rw [ht]; exact hP, hD⟩, hS.F ht⟩) hS.2.2 hd C.2.2.2.2.2.2.1
theorem k_lret {v : Int64} (hr : y.2.2.2 = some .long) (hd : decode y.2.1 pc = .ok (.lreturn, 1)) (h1 : k ≤ mc) (h2 : n ≤ ms) (hq : Q (some (.long v)) w) : Kx l E A d mc ms y pc lv [.long v] k n w Q := by
  intro p e s m args below meth c H locs ls C hS hP hD hl
  refine W.widen (k := mc) (n := ms) h1 h2 ?_
  exact W.lret C.1 C.2.1 (C.2.2.2.1.trans hr) (fun t ht hW => ⟨⟨_, w, rfl, hq, by rw [ht]; exact hP, hD⟩, hS.F ht⟩) hS.2.2 hd C.2.2.2.2.2.2.1
theorem k_iast {a q0 N' : Nat} {f : Nat → Int32} {i x : Int32} (he : w[q0]? = some (a, .inl (E.2 0, N', .inl f))) (hin : vp_in i N') (hd : decode y.2.1 pc = .ok (.iastore, 1)) (kk : Kx l E A d mc ms y (pc + 1) lv st k n (w.set q0 (a, .inl (E.2 0, N', .inl (upd f i.toNatClampNeg x)))) Q) : Kx l E A d mc ms y pc lv (.int x :: .int i :: .ref a :: st) k n w Q :=
  fun p e s m args below meth c H locs ls C hS hP hD hl => va_iast C.1 C.2.1 C.2.2.2.2.2.2.2.1 hP hD hS q0 0 he rfl hin hd (fun H1 locs1 hP1 hD1 hS1 => kk p e s m args below meth c H1 locs1 ls C hS1 hP1 hD1 hl)
theorem k_last {a q0 N' : Nat} {f : Nat → Int64} {i : Int32} {x : Int64} (he : w[q0]? = some (a, .inl (E.2 1, N', .inr (.inl f)))) (hin : vp_in i N') (hd : decode y.2.1 pc = .ok (.lastore, 1)) (kk : Kx l E A d mc ms y (pc + 1) lv st k n (w.set q0 (a, .inl (E.2 1, N', .inr (.inl (vp_updL f i.toNatClampNeg x))))) Q) : Kx l E A d mc ms y pc lv (.long x :: .int i :: .ref a :: st) k n w Q :=
  fun p e s m args below meth c H locs ls C hS hP hD hl => va_last C.1 C.2.1 C.2.2.2.2.2.2.2.1 hP hD hS q0 1 he rfl hin hd (fun H1 locs1 hP1 hD1 hS1 => kk p e s m args below meth c H1 locs1 ls C hS1 hP1 hD1 hl)
theorem kroomR {d' d mc ms mc' ms' : Nat} (h : d' + 1 ≤ d) {j : Nat} (hk : j ≤ 21) : (kroom d' mc' ms').frames + 1 ≤ (kroom d mc ms).frames ∧ 8 + (j + 11) + (kroom d' mc' ms').locals ≤ (kroom d mc ms).locals := by
  simp only [kroom]; omega
theorem k_init {y' : zY} {d' mc' ms' na idx b : Nat} {As rest : List Value} {h : Nat × va_E} {arrs wc : va_W} {P : va_W → Prop} (hd : decode y.2.1 pc = .ok (.invokespecial idx, 3)) (hm : zmInit y' na) (hk : Cond.methodLink y.1.cls idx y'.1 ∈ zT) (hr : y'.2.2.2 = none) (hc : Kc l E d' mc' ms' y' (.ref b :: As) wc (fun v w => v = none ∧ P w)) (hdd : d' + 1 ≤ d) (hst : st = As.reverse ++ .ref b :: rest) (hrm : (rest.map fun v => v.category).sum ≤ 8) (hn : As.length = na) (h1 : k + mc' ≤ mc) (h2 : n + ms' ≤ ms) (kk : ∀ w1 : va_W, P w1 → Kx l E A d mc ms y (pc + 3) lv rest (k + mc') (n + ms') (h :: (arrs ++ w1)) Q) : Kx l E A d mc ms y pc lv st k n (h :: (arrs ++ wc)) Q := by
  obtain ⟨⟨g1, g2, g3, g4⟩, g5, g6⟩ := hm
  subst hst
  intro p e s m args below meth c H locs ls C hS hP hD hl
  have hT : ∀ w, w ∈ zT → w.before args s = true := fun w h => C.2.2.2.2.2.1 w (List.mem_cons_of_mem _ h)
  have hB := callB_of (R := kroom d mc ms) (rm := kroom d' mc' ms') (bytes := y'.2.1) (maxL := y'.2.2.1) (ret := y'.2.2.2) (ws' := zT) na C.2.2.2.2.2.1 (zgoodIn g1) rfl rfl rfl (hT _ g2) (hT _ hk) g3 (kroomR hdd g4)
  rw [hr] at hB
  have hP' : va_P E.1 classes ((h :: arrs) ++ wc) H := hP
  have hD' : va_D A ((h :: arrs) ++ wc) := hD
  refine k_back (va_runI (As := As) (rest := rest) ⟨C.1, C.2.1, C.2.2.1, C.2.2.2.2.1, C.2.2.2.2.2.1⟩ (hc H.size) ⟨hB, g5, hT _ g6⟩ (kPre C.2.2.2.2.2.2.2.1 hP' hD') rfl hn hl.1 rfl (lv_room hrm) hd ⟨h1, h2⟩) hS C.2.2.2.2.2.2.2.2.1 hP' hD' (fun v w1 H1 locs1 hq hP1 hD1 hS1 => ?_)
  obtain ⟨rfl, hq⟩ := hq
  exact kk w1 hq p e s m args below meth c H1 locs1 ls C hS1 hP1 hD1 hl
theorem k_virt {y' : zY} {d' mc' ms' na idx b q0 ci : Nat} {fs : List Value} {q : vw_C} {As rest : List Value} {wr wc : va_W} {P : va_W → Prop} (hd : decode y.2.1 pc = .ok (.invokevirtual idx, 3)) (hm : zmv y' na) (hk : Cond.methodLink y.1.cls idx y'.1 ∈ zT) (hci : classes[ci]? = some q) (hq : q.1 = y'.1.cls) (he : w[q0]? = some (b, .inr (ci, fs))) (hc : Kc l E d' mc' ms' y' (.ref b :: As) wc (fun v w => v = none ∧ P w)) (hw : w = wr ++ wc) (hdd : d' + 1 ≤ d) (hst : st = As.reverse ++ .ref b :: rest) (hrm : (rest.map fun v => v.category).sum ≤ 8) (hn : As.length = na) (h1 : k + mc' ≤ mc) (h2 : n + ms' ≤ ms) (kk : ∀ w1 : va_W, P w1 → Kx l E A d mc ms y (pc + 3) lv rest (k + mc') (n + ms') (wr ++ w1) Q) : Kx l E A d mc ms y pc lv st k n w Q := by
  obtain ⟨⟨g1, g2, g3, g4⟩, g5, g6⟩ := hm
  subst hst
  subst hw
  intro p e s m args below meth c H locs ls C hS hP hD hl
  have hT : ∀ w, w ∈ zT → w.before args s = true := fun w h => C.2.2.2.2.2.1 w (List.mem_cons_of_mem _ h)
  have hrec := va_recv C.2.2.2.2.2.2.2.1 hP hci he
  rw [hq] at hrec
  have hpre := kPre (As := .ref b :: As) C.2.2.2.2.2.2.2.1 hP hD
  refine k_back (va_runV (As := As) (rest := rest) (C := y'.1.cls) ⟨C.1, C.2.1, C.2.2.1, C.2.2.2.2.1, C.2.2.2.2.2.1⟩ (hc H.size) ⟨callB_of (bytes := y'.2.1) (maxL := y'.2.2.1) (ret := y'.2.2.2) (ws' := zT) na C.2.2.2.2.2.1 (zgoodIn g1) rfl rfl rfl (hT _ g2) (hT _ hk) g3 (kroomR hdd g4), hT _ g5, hT _ g6⟩ ⟨hpre.1, hrec, hpre.2⟩ rfl hn hl.1 rfl (lv_room hrm) hd ⟨h1, h2⟩) hS C.2.2.2.2.2.2.2.2.1 hP hD (fun v w1 H1 locs1 hq hP1 hD1 hS1 => ?_)
  obtain ⟨rfl, hq⟩ := hq
  exact kk w1 hq p e s m args below meth c H1 locs1 ls C hS1 hP1 hD1 hl
theorem k_stat {y' : zY} {d' na idx : Nat} {As rest : List Value} {r : Option Value} (hd : decode y.2.1 pc = .ok (.invokestatic idx, 3)) (hm : zms y' na) (hk : Cond.methodLink y.1.cls idx y'.1 ∈ zT) (hc : Kc l E d' 0 0 y' As [] (fun v w => v = r ∧ w = [])) (hdd : d' + 1 ≤ d) (hst : st = As.reverse ++ rest) (hrm : (rest.map fun v => v.category).sum ≤ 8) (hn : As.length = na) (h1 : k ≤ mc) (h2 : n ≤ ms) (kk : Kx l E A d mc ms y (pc + 3) lv (r.toList ++ rest) k n w Q) : Kx l E A d mc ms y pc lv st k n w Q := by
  obtain ⟨⟨g1, g2, g3, g4⟩, g5⟩ := hm
  subst hst
  intro p e s m args below meth c H locs ls C hS hP hD hl
  have hT : ∀ w, w ∈ zT → w.before args s = true := fun w h => C.2.2.2.2.2.1 w (List.mem_cons_of_mem _ h)
  have hP' : va_P E.1 classes (w ++ []) H := by rw [List.append_nil]; exact hP
  have hD' : va_D A (w ++ []) := by rw [List.append_nil]; exact hD
  refine k_back (wr := w) (wc := []) (va_runS (As := As) (rest := rest) ⟨C.1, C.2.1, C.2.2.1, C.2.2.2.2.1, C.2.2.2.2.2.1⟩ (hc H.size) ⟨callB_of (bytes := y'.2.1) (maxL := y'.2.2.1) (ret := y'.2.2.2) (ws' := zT) na C.2.2.2.2.2.1 (zgoodIn g1) rfl rfl rfl (hT _ g2) (hT _ hk) g3 (kroomR hdd g4), hT _ g5⟩ (kPre C.2.2.2.2.2.2.2.1 hP' hD') rfl hn hl.1 rfl (lv_room hrm) hd ⟨h1, h2⟩) hS C.2.2.2.2.2.2.2.2.1 hP' hD' (fun v w1 H1 locs1 hq hP1 hD1 hS1 => ?_)
  obtain ⟨rfl, rfl⟩ := hq
  rw [List.append_nil] at hP1 hD1
  exact kk p e s m args below meth c H1 locs1 ls C hS1 hP1 hD1 hl
end KR
