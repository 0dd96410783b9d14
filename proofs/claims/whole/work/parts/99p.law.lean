/-! THE CLAIM OUT OF ONE WALK OF THE LAW'S BODY. Your part is whole_start (and what it stands on); all else here is the same for every law, but numbers. -/
def R_law : String := "FriendLineLaw"
def lw_P (b : Addr) (xs : List Int32) (args : Array Value) (s : State) : Prop := args = #[.ref b] ∧ s.IntsAt b xs ∧ xs.length ≤ 3072 ∧ (Jvm.Cond.and given_1 narrow_1).before args s = true
def lw_Q (_ : Array Value) (s : State) (o : Outcome) (t : State) : Prop := o = .returned (some (.int 1)) ∧ Framed s o t [] 600000 7302250
def lw_Z (below : List Frame) (a : Array Value) (s : State) : State → Prop := fun t => ∃ o, t.status = .running ∧ Ended t below o ∧ lw_Q a s o t
/-- the law's own end, with 1 on the stack, nothing written that was there before, its room as the claim has it -/
theorem lw_ret {p : Program} {l : Launch} {e : Env} {s : State} {m : MethodId} {below : List Frame} {meth : Method} {c : Code} {b : Nat} (hx : p.tables.exec = Jvm.exec) (hb : c.code = code) (hr : meth.sig.returnType = ret) (hlocks : meth.locks = false) {pc : Nat} {H : Heap} {ls : Array Slot} (hdg : decode code pc = .ok (.ireturn, 1)) : W p l e room_1 s m #[Value.ref b] below meth c H [] 600000 7302250 (lw_Z below #[Value.ref b] s) (F0 m pc ls [.int 1]) := by
  intro T hT X
  obtain ⟨fs, hret, hrun, hended, hW, hframe⟩ := X.leave (v := some (.int 1)) (hlocks := hlocks) (fun h => by rw [hr] at h; cases h)
  have hmeth' : T.vm.method? m = some meth := X.method'
  refine ⟨T.setFrames fs, ?_, .returned (some (.int 1)), hrun, hended, rfl, ⟨_, rfl⟩, hW, hframe⟩
  jvm_step X.here [X.here.top, hx, hb, hdg, hmeth', hr, ret, narrow_b1]
  (try refine ⟨rfl, ?_⟩); (try refine ⟨rfl, ?_⟩)
  first | (intro acts; rw [hret _ acts rfl rfl rfl]) | rw [hret _ _ rfl rfl rfl]
  exact Steps.refl _
/-- what holds at the law's entry: the machine, the code, the tables' words (any of lw_tbl by 'hts w (by decide +kernel)'), the script of L ints xs at the cell b, what the Statement gives of the start (any of its parts by flat_of_before) -/
def lw_At (p : Program) (s : State) (m : MethodId) (meth : Method) (c : Code) (b L : Nat) (xs : Nat → Int32) : Prop :=
  p.tables.exec = Jvm.exec ∧ c.code = code ∧ meth.sig.returnType = ret ∧ c.maxLocals = 4 ∧ s.vm.findClass R_law = some m.cls ∧ (∀ w ∈ lw_tbl, w.before #[Value.ref b] s = true) ∧ va_X b L xs s s.heap ∧ b < s.heap.size ∧ meth.locks = false ∧ (Jvm.Cond.and given_1 narrow_1).before #[Value.ref b] s = true

/-! THE LAW: a judgement for its body -/
def Lx (l : Launch) (G : zG) (b L : Nat) (xs : Nat → Int32) (pc : Nat) (lv : List (Nat × Value)) (st : List Value) (M : zMem) : Prop :=
  ∀ (p : Program) (e : Env) (s : State) (m : MethodId) (below : List Frame) (meth : Method) (c : Code) (H : Heap) (locs : List Loc) (ls : Array Slot),
    lw_At p s m meth c b L xs → G.2.2.2.1 = (fun q => s.heap.size ≤ q) → zK G s → va_S G.2.2.2.1 s.heap H locs → zP G M H → lv_has ls 4 lv →
    W p l e room_1 s m #[Value.ref b] below meth c H locs 134 45377 (lw_Z below #[Value.ref b] s) (F0 m pc ls st)
def Llv (G : zG) (b : Nat) (i : Int32) : List (Nat × Value) := [(0, .ref b), (1, .ref (G.2.2.1 0)), (2, .ref (G.2.2.1 69)), (3, .int i)]
theorem zT_tbl {w : Cond} (h : w ∈ zT) : w ∈ lw_tbl := (List.mem_filter.mp h).1
theorem zgoodT {y' : zY} (h : Cond.code y'.1 y'.2.1 y'.2.2.1 y'.2.2.2 ∈ zT) : GoodIn zT (zws y') := by
  intro w hw
  have hz := zgoodIn (y := y') h w hw
  rcases List.mem_cons.mp hz.1 with e | e
  · rw [e]; rw [e] at hz; exact ⟨h, hz.2⟩
  · exact ⟨e, hz.2⟩
section LAW
variable {l : Launch} {G : zG} {b L : Nat} {xs : Nat → Int32} {pc : Nat} {lv : List (Nat × Value)} {st : List Value} {M M1 : zMem}
theorem l_call {p : Program} {l : Launch} {e : Env} {R : Room} {s : State} {m : MethodId} {args : Array Value} {below : List Frame} {meth : Method} {c : Code} {H : Heap} {locs : List Loc} {cells slots : Nat} {Q : State → Prop} {pc : Nat} {ls : Array Slot} {rest st0 : List Value} {a : Array Value} {G : zG} {r : Option Value} {M1 : zMem}
    (hr : va_Run p l e R s m args below meth c H locs cells slots 0 0 (F0 m pc ls st0) rest (zQc G (fun v M2 => v = r ∧ M2 = M1) a) G.2.2.2.1) (hS : va_S G.2.2.2.1 s.heap H locs)
    (kk : ∀ (H1 : Heap) (locs1 : List Loc), zP G M1 H1 → va_S G.2.2.2.1 s.heap H1 locs1 → W p l e R s m args below meth c H1 locs1 cells slots Q (F0 m (pc + 3) ls (r.toList ++ rest))) : W p l e R s m args below meth c H locs cells slots Q (F0 m pc ls st0) := by
  intro T hT X
  obtain ⟨v, st₀, t, T', Lo, h0, X', hL, e1, e2, ⟨⟨v2, M2, hv, ⟨q1, q2⟩, hP⟩, hz, hk⟩, st⟩ := hr T hT X
  cases hv
  subst q1; subst q2
  rw [h0] at hz hk
  obtain ⟨t2, a1, b1⟩ := kk T'.heap (locs ++ Lo) (by rw [e1]; exact hP)
    ⟨Nat.le_trans hS.1 (by rw [e1]; exact hz), fun q h1 h2 => by rw [e1, hk q (Nat.lt_of_lt_of_le h1 hS.1) h2]; exact hS.2.1 q h1 h2, fun q hq => by
      rcases List.mem_append.mp hq with h | h
      · exact hS.2.2 q h
      · exact hL q h⟩ T' rfl X'
  exact ⟨t2, st t2 a1, b1⟩
theorem l_inv {idx n d' a ci : Nat} {y' : zY} {cd : List Nat} {q : vw_C} {As rest : List Value} {r : Option Value} (hd : decode code pc = .ok (.invokevirtual idx, 3)) (hm : zmv y' n) (hk : Cond.methodLink R_law idx y'.1 ∈ lw_tbl) (hs : SH[a]? = some (.inr (ci, cd))) (hci : classes[ci]? = some q) (hq : q.1 = y'.1.cls) (hc : Ca l G d' y' (.ref (G.2.2.1 a) :: As) M r M1) (hdd : d' ≤ 20) (hst : st = As.reverse ++ .ref (G.2.2.1 a) :: rest) (hrm : (rest.map fun v => v.category).sum ≤ 8) (hn : As.length = n) (k : Lx l G b L xs (pc + 3) lv (r.toList ++ rest) M1) : Lx l G b L xs pc lv st M := by
  obtain ⟨⟨h1, h2, h3, h4⟩, h5, h6⟩ := hm
  subst hst
  intro p e s m below meth c H locs ls C hA hK hS hP hl
  obtain ⟨hx, hb, hr, hml, hown, hts, hX, hbl, hlocks, hgv⟩ := id C
  have hT : ∀ w, w ∈ zT → w.before #[Value.ref b] s = true := fun w h => hts w (zT_tbl h)
  have hrec := va_recv hK.1 hP.1 hci (zwl_at G M hs)
  rw [hq] at hrec
  have hpre := zPre (As := .ref (G.2.2.1 a) :: As) hK hS hP
  refine l_call (va_runV (As := As) (rest := rest) (C := y'.1.cls) (Ts := zT) (own := R_law) ⟨hx, hb, hml, hown, hT⟩ hc ⟨callB_of (bytes := y'.2.1) (maxL := y'.2.2.1) (ret := y'.2.2.2) (ws' := zT) n hT (zgoodT h1) rfl rfl rfl (hT _ h2) (hts _ hk) h3 ⟨?_, ?_⟩, hT _ h5, hT _ h6⟩ ⟨hpre.1, hrec, hpre.2⟩ rfl hn hl.1 rfl (lv_room hrm) hd ⟨?_, ?_⟩) hS (fun H1 locs1 hP1 hS1 => k p e s m below meth c H1 locs1 ls C hA hK hS1 hP1 hl)
  · show d' + 1 ≤ 2048
    omega
  · show 8 + (y'.2.2.1 + 11) + 40 * d' ≤ 84000
    omega
  · show 134 + 0 ≤ 600000
    omega
  · show 45377 + 0 ≤ 7302250
    omega
theorem l_aload {k : Fin 4} {i x : Nat} (hd : decode code pc = .ok (.aload_n k, 1)) (hi : (k : Nat) = i) (hx : zlk lv i = some (.ref x)) (kk : Lx l G b L xs (pc + 1) lv (.ref x :: st) M) : Lx l G b L xs pc lv st M :=
  fun p e s m below meth c H locs ls C hA hK hS hP hl => lv_aload_n C.1 C.2.1 hd hi (zlk_ls hl hx) (kk p e s m below meth c H locs ls C hA hK hS hP hl)
theorem l_iload {k : Fin 4} {i : Nat} {x : Int32} (hd : decode code pc = .ok (.iload_n k, 1)) (hi : (k : Nat) = i) (hx : zlk lv i = some (.int x)) (kk : Lx l G b L xs (pc + 1) lv (.int x :: st) M) : Lx l G b L xs pc lv st M :=
  fun p e s m below meth c H locs ls C hA hK hS hP hl => lv_iload_n C.1 C.2.1 hd hi (zlk_ls hl hx) (kk p e s m below meth c H locs ls C hA hK hS hP hl)
theorem l_iconst {n : Int} {v : Int32} (hd : decode code pc = .ok (.iconst n, 1)) (hv : Int32.ofInt n = v) (kk : Lx l G b L xs (pc + 1) lv (.int v :: st) M) : Lx l G b L xs pc lv st M :=
  fun p e s m below meth c H locs ls C hA hK hS hP hl => lv_iconst C.1 C.2.1 hd hv (kk p e s m below meth c H locs ls C hA hK hS hP hl)
theorem l_bipush {n : Int} {v : Int32} (hd : decode code pc = .ok (.bipush n, 2)) (hv : (Int8.ofInt n).toInt32 = v) (kk : Lx l G b L xs (pc + 2) lv (.int v :: st) M) : Lx l G b L xs pc lv st M :=
  fun p e s m below meth c H locs ls C hA hK hS hP hl => lv_bipush C.1 C.2.1 hd hv (kk p e s m below meth c H locs ls C hA hK hS hP hl)
theorem l_iadd {x y : Int32} (hd : decode code pc = .ok (.iadd, 1)) (kk : Lx l G b L xs (pc + 1) lv (.int (x + y) :: st) M) : Lx l G b L xs pc lv (.int y :: .int x :: st) M :=
  fun p e s m below meth c H locs ls C hA hK hS hP hl => lv_iadd C.1 C.2.1 hd (kk p e s m below meth c H locs ls C hA hK hS hP hl)
theorem l_isub {x y : Int32} (hd : decode code pc = .ok (.isub, 1)) (kk : Lx l G b L xs (pc + 1) lv (.int (x - y) :: st) M) : Lx l G b L xs pc lv (.int y :: .int x :: st) M :=
  fun p e s m below meth c H locs ls C hA hK hS hP hl => lv_isub C.1 C.2.1 hd (kk p e s m below meth c H locs ls C hA hK hS hP hl)
theorem l_iand {x y : Int32} (hd : decode code pc = .ok (.iand, 1)) (kk : Lx l G b L xs (pc + 1) lv (.int (x &&& y) :: st) M) : Lx l G b L xs pc lv (.int y :: .int x :: st) M :=
  fun p e s m below meth c H locs ls C hA hK hS hP hl => lv_iand C.1 C.2.1 hd (kk p e s m below meth c H locs ls C hA hK hS hP hl)
theorem l_sld {i : Nat} (hi : i < L) (hL : L ≤ 3072) (hd : decode code pc = .ok (.iaload, 1)) (kk : Lx l G b L xs (pc + 1) lv (.int (xs i) :: st) M) : Lx l G b L xs pc lv (.int (nI i) :: .ref b :: st) M := by
  intro p e s m below meth c H locs ls C hA hK hS hP hl
  refine va_sld C.1 C.2.1 C.2.2.2.2.2.2.1 C.2.2.2.2.2.2.2.1 (A := G.2.2.2.1) (by rw [hA]; exact Nat.not_le.mpr C.2.2.2.2.2.2.2.1) hS (vp_in_nI hi (by omega)) hd ?_
  rw [nI_clamp (by omega)]
  exact kk p e s m below meth c H locs ls C hA hK hS hP hl
theorem l_slen (hd : decode code pc = .ok (.arraylength, 1)) (kk : Lx l G b L xs (pc + 1) lv (.int (nI L) :: st) M) : Lx l G b L xs pc lv (.ref b :: st) M := by
  intro p e s m below meth c H locs ls C hA hK hS hP hl
  exact va_slen C.1 C.2.1 C.2.2.2.2.2.2.1 C.2.2.2.2.2.2.2.1 (A := G.2.2.2.1) (by rw [hA]; exact Nat.not_le.mpr C.2.2.2.2.2.2.2.1) hS hd (kk p e s m below meth c H locs ls C hA hK hS hP hl)
theorem l_icmpeq {x : Int32} {off : Int} {tgt : Nat} (hd : decode code pc = .ok (.if_icmp .eq off, 3)) (ht : (pc : Int) + off = (tgt : Int)) (kk : Lx l G b L xs tgt lv st M) : Lx l G b L xs pc lv (.int x :: .int x :: st) M := by
  intro p e s m below meth c H locs ls C hA hK hS hP hl
  exact lv_icmp_eq C.1 C.2.1 hd ht (fun _ => kk p e s m below meth c H locs ls C hA hK hS hP hl) (fun z => absurd rfl z)
theorem l_goto {off : Int} {tgt : Nat} (hd : decode code pc = .ok (.goto off, 3)) (ht : (pc : Int) + off = (tgt : Int)) (kk : Lx l G b L xs tgt lv st M) : Lx l G b L xs pc lv st M :=
  fun p e s m below meth c H locs ls C hA hK hS hP hl => lv_goto C.1 C.2.1 hd ht (kk p e s m below meth c H locs ls C hA hK hS hP hl)
/-- an argument: the script at i + k -/
theorem l_arg {i k : Nat} {kI : Int} (hL : L ≤ 3072) (hi : i + k < L) (hk : Int32.ofInt kI = nI k) (d0 : decode code pc = .ok (.aload_n 0, 1)) (d1 : decode code (pc + 1) = .ok (.iload_n 3, 1)) (d2 : decode code (pc + 1 + 1) = .ok (.iconst kI, 1)) (d3 : decode code (pc + 1 + 1 + 1) = .ok (.iadd, 1)) (d4 : decode code (pc + 1 + 1 + 1 + 1) = .ok (.iaload, 1)) (kk : Lx l G b L xs (pc + 5) (Llv G b (nI i)) (.int (xs (i + k)) :: st) M) : Lx l G b L xs pc (Llv G b (nI i)) st M := by
  refine l_aload d0 rfl (x := b) rfl (l_iload d1 rfl (x := nI i) rfl (l_iconst d2 hk (l_iadd d3 ?_)))
  rw [nI_add]
  exact l_sld hi hL d4 kk
theorem law_feed {i : Nat} (hL : L ≤ 3072) (hi : i + 5 < L) (hI : zInv M) (kk : ∀ M2, zInv M2 → Lx l G b L xs 903 (Llv G b (nI i)) [] M2) : Lx l G b L xs 148 (Llv G b (nI i)) [] M := by
  obtain ⟨r, A, h1, B, h2, hB⟩ := o_feed (N := 4000000) (by omega) (xs (i + 1)) (xs (i + 2)) (xs (i + 3)) (xs (i + 4)) (xs (i + 5)) M hI
  refine l_aload dL_148 rfl (x := G.2.2.1 0) rfl ?_
  refine l_arg (k := 1) hL (by omega) (by decide) dL_149 dL_150 dL_151 dL_152 dL_153 ?_
  refine l_arg (k := 2) hL (by omega) (by decide) dL_154 dL_155 dL_156 dL_157 dL_158 ?_
  refine l_arg (k := 3) hL (by omega) (by decide) dL_159 dL_160 dL_161 dL_162 dL_163 ?_
  refine l_arg (k := 4) hL (by omega) (by decide) dL_164 dL_165 dL_166 dL_167 dL_168 ?_
  refine l_arg (k := 5) hL (by omega) (by decide) dL_169 dL_170 dL_171 dL_172 dL_173 ?_
  refine l_inv (As := [.int (xs (i + 1)), .int (xs (i + 2)), .int (xs (i + 3)), .int (xs (i + 4)), .int (xs (i + 5))]) (rest := []) (a := 0) (ci := 11) dL_174 mk_X11_feed (List.mem_of_getElem? (i := 478) (by decide +kernel)) rfl rfl rfl (cc_X11_feed h1) (by omega) rfl (Nat.le_of_ble_eq_true rfl) rfl ?_
  refine l_aload dL_177 rfl (x := G.2.2.1 69) rfl ?_
  refine l_arg (k := 1) hL (by omega) (by decide) dL_178 dL_179 dL_180 dL_181 dL_182 ?_
  refine l_arg (k := 2) hL (by omega) (by decide) dL_183 dL_184 dL_185 dL_186 dL_187 ?_
  refine l_arg (k := 3) hL (by omega) (by decide) dL_188 dL_189 dL_190 dL_191 dL_192 ?_
  refine l_arg (k := 4) hL (by omega) (by decide) dL_193 dL_194 dL_195 dL_196 dL_197 ?_
  refine l_arg (k := 5) hL (by omega) (by decide) dL_198 dL_199 dL_200 dL_201 dL_202 ?_
  refine l_inv (As := [.int (xs (i + 1)), .int (xs (i + 2)), .int (xs (i + 3)), .int (xs (i + 4)), .int (xs (i + 5))]) (rest := [.int r]) (a := 69) (ci := 12) dL_203 mk_X12_feed (List.mem_of_getElem? (i := 1505) (by decide +kernel)) rfl rfl rfl (cc_X12_feed h2) (by omega) rfl (Nat.le_of_ble_eq_true rfl) rfl ?_
  exact l_icmpeq (tgt := 903) dL_206 (by decide) (kk B hB)
theorem law_back {i : Nat} (hL : L ≤ 3072) (hi : i + 5 < L) (hI : zInv M) (kk : ∀ M2, zInv M2 → Lx l G b L xs 903 (Llv G b (nI i)) [] M2) : Lx l G b L xs 211 (Llv G b (nI i)) [] M := by
  obtain ⟨r, A, h1, B, h2, hB⟩ := o_back (N := 4000000) (by omega) (xs (i + 1)) M hI
  refine l_aload dL_211 rfl (x := G.2.2.1 0) rfl ?_
  refine l_arg (k := 1) hL (by omega) (by decide) dL_212 dL_213 dL_214 dL_215 dL_216 ?_
  refine l_inv (As := [.int (xs (i + 1))]) (rest := []) (a := 0) (ci := 11) dL_217 mk_X11_back (List.mem_of_getElem? (i := 494) (by decide +kernel)) rfl rfl rfl (cc_X11_back h1) (by omega) rfl (Nat.le_of_ble_eq_true rfl) rfl ?_
  refine l_aload dL_220 rfl (x := G.2.2.1 69) rfl ?_
  refine l_arg (k := 1) hL (by omega) (by decide) dL_221 dL_222 dL_223 dL_224 dL_225 ?_
  refine l_inv (As := [.int (xs (i + 1))]) (rest := [.int r]) (a := 69) (ci := 12) dL_226 mk_X12_back (List.mem_of_getElem? (i := 1513) (by decide +kernel)) rfl rfl rfl (cc_X12_back h2) (by omega) rfl (Nat.le_of_ble_eq_true rfl) rfl ?_
  exact l_icmpeq (tgt := 903) dL_229 (by decide) (kk B hB)
theorem law_read {i : Nat} (hL : L ≤ 3072) (hi : i + 5 < L) (hI : zInv M) (kk : ∀ M2, zInv M2 → Lx l G b L xs 903 (Llv G b (nI i)) [] M2) : Lx l G b L xs 234 (Llv G b (nI i)) [] M := by
  obtain ⟨r, A, h1, B, h2, hB⟩ := o_read (N := 4000000) (by omega)  M hI
  refine l_aload dL_234 rfl (x := G.2.2.1 0) rfl ?_
  refine l_inv (As := []) (rest := []) (a := 0) (ci := 11) dL_235 mk_X11_read (List.mem_of_getElem? (i := 505) (by decide +kernel)) rfl rfl rfl (cc_X11_read h1) (by omega) rfl (Nat.le_of_ble_eq_true rfl) rfl ?_
  refine l_aload dL_238 rfl (x := G.2.2.1 69) rfl ?_
  refine l_inv (As := []) (rest := [.int r]) (a := 69) (ci := 12) dL_239 mk_X12_read (List.mem_of_getElem? (i := 1517) (by decide +kernel)) rfl rfl rfl (cc_X12_read h2) (by omega) rfl (Nat.le_of_ble_eq_true rfl) rfl ?_
  exact l_icmpeq (tgt := 903) dL_242 (by decide) (kk B hB)
theorem law_place {i : Nat} (hL : L ≤ 3072) (hi : i + 5 < L) (hI : zInv M) (kk : ∀ M2, zInv M2 → Lx l G b L xs 903 (Llv G b (nI i)) [] M2) : Lx l G b L xs 247 (Llv G b (nI i)) [] M := by
  obtain ⟨r, A, h1, B, h2, hB⟩ := o_place (N := 4000000) (by omega)  M hI
  refine l_aload dL_247 rfl (x := G.2.2.1 0) rfl ?_
  refine l_inv (As := []) (rest := []) (a := 0) (ci := 11) dL_248 mk_X11_place (List.mem_of_getElem? (i := 730) (by decide +kernel)) rfl rfl rfl (cc_X11_place h1) (by omega) rfl (Nat.le_of_ble_eq_true rfl) rfl ?_
  refine l_aload dL_251 rfl (x := G.2.2.1 69) rfl ?_
  refine l_inv (As := []) (rest := [.int r]) (a := 69) (ci := 12) dL_252 mk_X12_place (List.mem_of_getElem? (i := 1583) (by decide +kernel)) rfl rfl rfl (cc_X12_place h2) (by omega) rfl (Nat.le_of_ble_eq_true rfl) rfl ?_
  exact l_icmpeq (tgt := 903) dL_255 (by decide) (kk B hB)
theorem law_volunteer {i : Nat} (hL : L ≤ 3072) (hi : i + 5 < L) (hI : zInv M) (kk : ∀ M2, zInv M2 → Lx l G b L xs 903 (Llv G b (nI i)) [] M2) : Lx l G b L xs 260 (Llv G b (nI i)) [] M := by
  obtain ⟨r, A, h1, B, h2, hB⟩ := o_volunteer (N := 4000000) (by omega) (xs (i + 1)) M hI
  refine l_aload dL_260 rfl (x := G.2.2.1 0) rfl ?_
  refine l_arg (k := 1) hL (by omega) (by decide) dL_261 dL_262 dL_263 dL_264 dL_265 ?_
  refine l_inv (As := [.int (xs (i + 1))]) (rest := []) (a := 0) (ci := 11) dL_266 mk_X11_volunteer (List.mem_of_getElem? (i := 738) (by decide +kernel)) rfl rfl rfl (cc_X11_volunteer h1) (by omega) rfl (Nat.le_of_ble_eq_true rfl) rfl ?_
  refine l_aload dL_269 rfl (x := G.2.2.1 69) rfl ?_
  refine l_arg (k := 1) hL (by omega) (by decide) dL_270 dL_271 dL_272 dL_273 dL_274 ?_
  refine l_inv (As := [.int (xs (i + 1))]) (rest := [.int r]) (a := 69) (ci := 12) dL_275 mk_X12_volunteer (List.mem_of_getElem? (i := 1587) (by decide +kernel)) rfl rfl rfl (cc_X12_volunteer h2) (by omega) rfl (Nat.le_of_ble_eq_true rfl) rfl ?_
  exact l_icmpeq (tgt := 903) dL_278 (by decide) (kk B hB)
theorem law_step {i : Nat} (hL : L ≤ 3072) (hi : i + 5 < L) (hI : zInv M) (kk : ∀ M2, zInv M2 → Lx l G b L xs 903 (Llv G b (nI i)) [] M2) : Lx l G b L xs 283 (Llv G b (nI i)) [] M := by
  obtain ⟨r, A, h1, B, h2, hB⟩ := o_step (N := 4000000) (by omega) (xs (i + 1)) (xs (i + 2)) M hI
  refine l_aload dL_283 rfl (x := G.2.2.1 0) rfl ?_
  refine l_arg (k := 1) hL (by omega) (by decide) dL_284 dL_285 dL_286 dL_287 dL_288 ?_
  refine l_arg (k := 2) hL (by omega) (by decide) dL_289 dL_290 dL_291 dL_292 dL_293 ?_
  refine l_inv (As := [.int (xs (i + 1)), .int (xs (i + 2))]) (rest := []) (a := 0) (ci := 11) dL_294 mk_X11_step (List.mem_of_getElem? (i := 746) (by decide +kernel)) rfl rfl rfl (cc_X11_step h1) (by omega) rfl (Nat.le_of_ble_eq_true rfl) rfl ?_
  refine l_aload dL_297 rfl (x := G.2.2.1 69) rfl ?_
  refine l_arg (k := 1) hL (by omega) (by decide) dL_298 dL_299 dL_300 dL_301 dL_302 ?_
  refine l_arg (k := 2) hL (by omega) (by decide) dL_303 dL_304 dL_305 dL_306 dL_307 ?_
  refine l_inv (As := [.int (xs (i + 1)), .int (xs (i + 2))]) (rest := [.int r]) (a := 69) (ci := 12) dL_308 mk_X12_step (List.mem_of_getElem? (i := 1591) (by decide +kernel)) rfl rfl rfl (cc_X12_step h2) (by omega) rfl (Nat.le_of_ble_eq_true rfl) rfl ?_
  exact l_icmpeq (tgt := 903) dL_311 (by decide) (kk B hB)
theorem law_learn {i : Nat} (hL : L ≤ 3072) (hi : i + 5 < L) (hI : zInv M) (kk : ∀ M2, zInv M2 → Lx l G b L xs 903 (Llv G b (nI i)) [] M2) : Lx l G b L xs 316 (Llv G b (nI i)) [] M := by
  obtain ⟨r, A, h1, B, h2, hB⟩ := o_learn (N := 4000000) (by omega) (xs (i + 1)) (xs (i + 2)) M hI
  refine l_aload dL_316 rfl (x := G.2.2.1 0) rfl ?_
  refine l_arg (k := 1) hL (by omega) (by decide) dL_317 dL_318 dL_319 dL_320 dL_321 ?_
  refine l_arg (k := 2) hL (by omega) (by decide) dL_322 dL_323 dL_324 dL_325 dL_326 ?_
  refine l_inv (As := [.int (xs (i + 1)), .int (xs (i + 2))]) (rest := []) (a := 0) (ci := 11) dL_327 mk_X11_learn (List.mem_of_getElem? (i := 758) (by decide +kernel)) rfl rfl rfl (cc_X11_learn h1) (by omega) rfl (Nat.le_of_ble_eq_true rfl) rfl ?_
  refine l_aload dL_330 rfl (x := G.2.2.1 69) rfl ?_
  refine l_arg (k := 1) hL (by omega) (by decide) dL_331 dL_332 dL_333 dL_334 dL_335 ?_
  refine l_arg (k := 2) hL (by omega) (by decide) dL_336 dL_337 dL_338 dL_339 dL_340 ?_
  refine l_inv (As := [.int (xs (i + 1)), .int (xs (i + 2))]) (rest := [.int r]) (a := 69) (ci := 12) dL_341 mk_X12_learn (List.mem_of_getElem? (i := 1595) (by decide +kernel)) rfl rfl rfl (cc_X12_learn h2) (by omega) rfl (Nat.le_of_ble_eq_true rfl) rfl ?_
  exact l_icmpeq (tgt := 903) dL_344 (by decide) (kk B hB)
theorem law_has {i : Nat} (hL : L ≤ 3072) (hi : i + 5 < L) (hI : zInv M) (kk : ∀ M2, zInv M2 → Lx l G b L xs 903 (Llv G b (nI i)) [] M2) : Lx l G b L xs 349 (Llv G b (nI i)) [] M := by
  obtain ⟨r, A, h1, B, h2, hB⟩ := o_has (N := 4000000) (by omega) (xs (i + 1)) (xs (i + 2)) (xs (i + 3)) M hI
  refine l_aload dL_349 rfl (x := G.2.2.1 0) rfl ?_
  refine l_arg (k := 1) hL (by omega) (by decide) dL_350 dL_351 dL_352 dL_353 dL_354 ?_
  refine l_arg (k := 2) hL (by omega) (by decide) dL_355 dL_356 dL_357 dL_358 dL_359 ?_
  refine l_arg (k := 3) hL (by omega) (by decide) dL_360 dL_361 dL_362 dL_363 dL_364 ?_
  refine l_inv (As := [.int (xs (i + 1)), .int (xs (i + 2)), .int (xs (i + 3))]) (rest := []) (a := 0) (ci := 11) dL_365 mk_X11_has (List.mem_of_getElem? (i := 781) (by decide +kernel)) rfl rfl rfl (cc_X11_has h1) (by omega) rfl (Nat.le_of_ble_eq_true rfl) rfl ?_
  refine l_aload dL_368 rfl (x := G.2.2.1 69) rfl ?_
  refine l_arg (k := 1) hL (by omega) (by decide) dL_369 dL_370 dL_371 dL_372 dL_373 ?_
  refine l_arg (k := 2) hL (by omega) (by decide) dL_374 dL_375 dL_376 dL_377 dL_378 ?_
  refine l_arg (k := 3) hL (by omega) (by decide) dL_379 dL_380 dL_381 dL_382 dL_383 ?_
  refine l_inv (As := [.int (xs (i + 1)), .int (xs (i + 2)), .int (xs (i + 3))]) (rest := [.int r]) (a := 69) (ci := 12) dL_384 mk_X12_has (List.mem_of_getElem? (i := 1607) (by decide +kernel)) rfl rfl rfl (cc_X12_has h2) (by omega) rfl (Nat.le_of_ble_eq_true rfl) rfl ?_
  exact l_icmpeq (tgt := 903) dL_387 (by decide) (kk B hB)
theorem law_bar {i : Nat} (hL : L ≤ 3072) (hi : i + 5 < L) (hI : zInv M) (kk : ∀ M2, zInv M2 → Lx l G b L xs 903 (Llv G b (nI i)) [] M2) : Lx l G b L xs 392 (Llv G b (nI i)) [] M := by
  obtain ⟨r, A, h1, B, h2, hB⟩ := o_bar (N := 4000000) (by omega) (xs (i + 1)) (xs (i + 2)) M hI
  refine l_aload dL_392 rfl (x := G.2.2.1 0) rfl ?_
  refine l_arg (k := 1) hL (by omega) (by decide) dL_393 dL_394 dL_395 dL_396 dL_397 ?_
  refine l_arg (k := 2) hL (by omega) (by decide) dL_398 dL_399 dL_400 dL_401 dL_402 ?_
  refine l_inv (As := [.int (xs (i + 1)), .int (xs (i + 2))]) (rest := []) (a := 0) (ci := 11) dL_403 mk_X11_bar (List.mem_of_getElem? (i := 788) (by decide +kernel)) rfl rfl rfl (cc_X11_bar h1) (by omega) rfl (Nat.le_of_ble_eq_true rfl) rfl ?_
  refine l_aload dL_406 rfl (x := G.2.2.1 69) rfl ?_
  refine l_arg (k := 1) hL (by omega) (by decide) dL_407 dL_408 dL_409 dL_410 dL_411 ?_
  refine l_arg (k := 2) hL (by omega) (by decide) dL_412 dL_413 dL_414 dL_415 dL_416 ?_
  refine l_inv (As := [.int (xs (i + 1)), .int (xs (i + 2))]) (rest := [.int r]) (a := 69) (ci := 12) dL_417 mk_X12_bar (List.mem_of_getElem? (i := 1614) (by decide +kernel)) rfl rfl rfl (cc_X12_bar h2) (by omega) rfl (Nat.le_of_ble_eq_true rfl) rfl ?_
  exact l_icmpeq (tgt := 903) dL_420 (by decide) (kk B hB)
theorem law_care {i : Nat} (hL : L ≤ 3072) (hi : i + 5 < L) (hI : zInv M) (kk : ∀ M2, zInv M2 → Lx l G b L xs 903 (Llv G b (nI i)) [] M2) : Lx l G b L xs 425 (Llv G b (nI i)) [] M := by
  obtain ⟨r, A, h1, B, h2, hB⟩ := o_care (N := 4000000) (by omega) (xs (i + 1)) M hI
  refine l_aload dL_425 rfl (x := G.2.2.1 0) rfl ?_
  refine l_arg (k := 1) hL (by omega) (by decide) dL_426 dL_427 dL_428 dL_429 dL_430 ?_
  refine l_inv (As := [.int (xs (i + 1))]) (rest := []) (a := 0) (ci := 11) dL_431 mk_X11_care (List.mem_of_getElem? (i := 802) (by decide +kernel)) rfl rfl rfl (cc_X11_care h1) (by omega) rfl (Nat.le_of_ble_eq_true rfl) rfl ?_
  refine l_aload dL_434 rfl (x := G.2.2.1 69) rfl ?_
  refine l_arg (k := 1) hL (by omega) (by decide) dL_435 dL_436 dL_437 dL_438 dL_439 ?_
  refine l_inv (As := [.int (xs (i + 1))]) (rest := [.int r]) (a := 69) (ci := 12) dL_440 mk_X12_care (List.mem_of_getElem? (i := 1618) (by decide +kernel)) rfl rfl rfl (cc_X12_care h2) (by omega) rfl (Nat.le_of_ble_eq_true rfl) rfl ?_
  exact l_icmpeq (tgt := 903) dL_443 (by decide) (kk B hB)
theorem law_due {i : Nat} (hL : L ≤ 3072) (hi : i + 5 < L) (hI : zInv M) (kk : ∀ M2, zInv M2 → Lx l G b L xs 903 (Llv G b (nI i)) [] M2) : Lx l G b L xs 448 (Llv G b (nI i)) [] M := by
  obtain ⟨r, A, h1, B, h2, hB⟩ := o_due (N := 4000000) (by omega) (xs (i + 1)) M hI
  refine l_aload dL_448 rfl (x := G.2.2.1 0) rfl ?_
  refine l_arg (k := 1) hL (by omega) (by decide) dL_449 dL_450 dL_451 dL_452 dL_453 ?_
  refine l_inv (As := [.int (xs (i + 1))]) (rest := []) (a := 0) (ci := 11) dL_454 mk_X11_due (List.mem_of_getElem? (i := 822) (by decide +kernel)) rfl rfl rfl (cc_X11_due h1) (by omega) rfl (Nat.le_of_ble_eq_true rfl) rfl ?_
  refine l_aload dL_457 rfl (x := G.2.2.1 69) rfl ?_
  refine l_arg (k := 1) hL (by omega) (by decide) dL_458 dL_459 dL_460 dL_461 dL_462 ?_
  refine l_inv (As := [.int (xs (i + 1))]) (rest := [.int r]) (a := 69) (ci := 12) dL_463 mk_X12_due (List.mem_of_getElem? (i := 1626) (by decide +kernel)) rfl rfl rfl (cc_X12_due h2) (by omega) rfl (Nat.le_of_ble_eq_true rfl) rfl ?_
  exact l_icmpeq (tgt := 903) dL_466 (by decide) (kk B hB)
theorem law_clock {i : Nat} (hL : L ≤ 3072) (hi : i + 5 < L) (hI : zInv M) (kk : ∀ M2, zInv M2 → Lx l G b L xs 903 (Llv G b (nI i)) [] M2) : Lx l G b L xs 471 (Llv G b (nI i)) [] M := by
  obtain ⟨r, A, h1, B, h2, hB⟩ := o_clock (N := 4000000) (by omega) (xs (i + 1)) M hI
  refine l_aload dL_471 rfl (x := G.2.2.1 0) rfl ?_
  refine l_arg (k := 1) hL (by omega) (by decide) dL_472 dL_473 dL_474 dL_475 dL_476 ?_
  refine l_inv (As := [.int (xs (i + 1))]) (rest := []) (a := 0) (ci := 11) dL_477 mk_X11_clock (List.mem_of_getElem? (i := 826) (by decide +kernel)) rfl rfl rfl (cc_X11_clock h1) (by omega) rfl (Nat.le_of_ble_eq_true rfl) rfl ?_
  refine l_aload dL_480 rfl (x := G.2.2.1 69) rfl ?_
  refine l_arg (k := 1) hL (by omega) (by decide) dL_481 dL_482 dL_483 dL_484 dL_485 ?_
  refine l_inv (As := [.int (xs (i + 1))]) (rest := [.int r]) (a := 69) (ci := 12) dL_486 mk_X12_clock (List.mem_of_getElem? (i := 1630) (by decide +kernel)) rfl rfl rfl (cc_X12_clock h2) (by omega) rfl (Nat.le_of_ble_eq_true rfl) rfl ?_
  exact l_icmpeq (tgt := 903) dL_489 (by decide) (kk B hB)
theorem law_holiday {i : Nat} (hL : L ≤ 3072) (hi : i + 5 < L) (hI : zInv M) (kk : ∀ M2, zInv M2 → Lx l G b L xs 903 (Llv G b (nI i)) [] M2) : Lx l G b L xs 494 (Llv G b (nI i)) [] M := by
  obtain ⟨r, A, h1, B, h2, hB⟩ := o_holiday (N := 4000000) (by omega) (xs (i + 1)) M hI
  refine l_aload dL_494 rfl (x := G.2.2.1 0) rfl ?_
  refine l_arg (k := 1) hL (by omega) (by decide) dL_495 dL_496 dL_497 dL_498 dL_499 ?_
  refine l_inv (As := [.int (xs (i + 1))]) (rest := []) (a := 0) (ci := 11) dL_500 mk_X11_holiday (List.mem_of_getElem? (i := 838) (by decide +kernel)) rfl rfl rfl (cc_X11_holiday h1) (by omega) rfl (Nat.le_of_ble_eq_true rfl) rfl ?_
  refine l_aload dL_503 rfl (x := G.2.2.1 69) rfl ?_
  refine l_arg (k := 1) hL (by omega) (by decide) dL_504 dL_505 dL_506 dL_507 dL_508 ?_
  refine l_inv (As := [.int (xs (i + 1))]) (rest := [.int r]) (a := 69) (ci := 12) dL_509 mk_X12_holiday (List.mem_of_getElem? (i := 1634) (by decide +kernel)) rfl rfl rfl (cc_X12_holiday h2) (by omega) rfl (Nat.le_of_ble_eq_true rfl) rfl ?_
  exact l_icmpeq (tgt := 903) dL_512 (by decide) (kk B hB)
theorem law_offer {i : Nat} (hL : L ≤ 3072) (hi : i + 5 < L) (hI : zInv M) (kk : ∀ M2, zInv M2 → Lx l G b L xs 903 (Llv G b (nI i)) [] M2) : Lx l G b L xs 517 (Llv G b (nI i)) [] M := by
  obtain ⟨r, A, h1, B, h2, hB⟩ := o_offer (N := 4000000) (by omega) (xs (i + 1)) (xs (i + 2)) (xs (i + 3)) M hI
  refine l_aload dL_517 rfl (x := G.2.2.1 0) rfl ?_
  refine l_arg (k := 1) hL (by omega) (by decide) dL_518 dL_519 dL_520 dL_521 dL_522 ?_
  refine l_arg (k := 2) hL (by omega) (by decide) dL_523 dL_524 dL_525 dL_526 dL_527 ?_
  refine l_arg (k := 3) hL (by omega) (by decide) dL_528 dL_529 dL_530 dL_531 dL_532 ?_
  refine l_inv (As := [.int (xs (i + 1)), .int (xs (i + 2)), .int (xs (i + 3))]) (rest := []) (a := 0) (ci := 11) dL_533 mk_X11_offer (List.mem_of_getElem? (i := 863) (by decide +kernel)) rfl rfl rfl (cc_X11_offer h1) (by omega) rfl (Nat.le_of_ble_eq_true rfl) rfl ?_
  refine l_aload dL_536 rfl (x := G.2.2.1 69) rfl ?_
  refine l_arg (k := 1) hL (by omega) (by decide) dL_537 dL_538 dL_539 dL_540 dL_541 ?_
  refine l_arg (k := 2) hL (by omega) (by decide) dL_542 dL_543 dL_544 dL_545 dL_546 ?_
  refine l_arg (k := 3) hL (by omega) (by decide) dL_547 dL_548 dL_549 dL_550 dL_551 ?_
  refine l_inv (As := [.int (xs (i + 1)), .int (xs (i + 2)), .int (xs (i + 3))]) (rest := [.int r]) (a := 69) (ci := 12) dL_552 mk_X12_offer (List.mem_of_getElem? (i := 1638) (by decide +kernel)) rfl rfl rfl (cc_X12_offer h2) (by omega) rfl (Nat.le_of_ble_eq_true rfl) rfl ?_
  exact l_icmpeq (tgt := 903) dL_555 (by decide) (kk B hB)
theorem law_shifts {i : Nat} (hL : L ≤ 3072) (hi : i + 5 < L) (hI : zInv M) (kk : ∀ M2, zInv M2 → Lx l G b L xs 903 (Llv G b (nI i)) [] M2) : Lx l G b L xs 560 (Llv G b (nI i)) [] M := by
  obtain ⟨r, A, h1, B, h2, hB⟩ := o_shifts (N := 4000000) (by omega)  M hI
  refine l_aload dL_560 rfl (x := G.2.2.1 0) rfl ?_
  refine l_inv (As := []) (rest := []) (a := 0) (ci := 11) dL_561 mk_X11_shifts (List.mem_of_getElem? (i := 879) (by decide +kernel)) rfl rfl rfl (cc_X11_shifts h1) (by omega) rfl (Nat.le_of_ble_eq_true rfl) rfl ?_
  refine l_aload dL_564 rfl (x := G.2.2.1 69) rfl ?_
  refine l_inv (As := []) (rest := [.int r]) (a := 69) (ci := 12) dL_565 mk_X12_shifts (List.mem_of_getElem? (i := 1642) (by decide +kernel)) rfl rfl rfl (cc_X12_shifts h2) (by omega) rfl (Nat.le_of_ble_eq_true rfl) rfl ?_
  exact l_icmpeq (tgt := 903) dL_568 (by decide) (kk B hB)
theorem law_there {i : Nat} (hL : L ≤ 3072) (hi : i + 5 < L) (hI : zInv M) (kk : ∀ M2, zInv M2 → Lx l G b L xs 903 (Llv G b (nI i)) [] M2) : Lx l G b L xs 573 (Llv G b (nI i)) [] M := by
  obtain ⟨r, A, h1, B, h2, hB⟩ := o_there (N := 4000000) (by omega) (xs (i + 1)) (xs (i + 2)) M hI
  refine l_aload dL_573 rfl (x := G.2.2.1 0) rfl ?_
  refine l_arg (k := 1) hL (by omega) (by decide) dL_574 dL_575 dL_576 dL_577 dL_578 ?_
  refine l_arg (k := 2) hL (by omega) (by decide) dL_579 dL_580 dL_581 dL_582 dL_583 ?_
  refine l_inv (As := [.int (xs (i + 1)), .int (xs (i + 2))]) (rest := []) (a := 0) (ci := 11) dL_584 mk_X11_there (List.mem_of_getElem? (i := 950) (by decide +kernel)) rfl rfl rfl (cc_X11_there h1) (by omega) rfl (Nat.le_of_ble_eq_true rfl) rfl ?_
  refine l_aload dL_587 rfl (x := G.2.2.1 69) rfl ?_
  refine l_arg (k := 1) hL (by omega) (by decide) dL_588 dL_589 dL_590 dL_591 dL_592 ?_
  refine l_arg (k := 2) hL (by omega) (by decide) dL_593 dL_594 dL_595 dL_596 dL_597 ?_
  refine l_inv (As := [.int (xs (i + 1)), .int (xs (i + 2))]) (rest := [.int r]) (a := 69) (ci := 12) dL_598 mk_X12_there (List.mem_of_getElem? (i := 1657) (by decide +kernel)) rfl rfl rfl (cc_X12_there h2) (by omega) rfl (Nat.le_of_ble_eq_true rfl) rfl ?_
  exact l_icmpeq (tgt := 903) dL_601 (by decide) (kk B hB)
theorem law_lacks {i : Nat} (hL : L ≤ 3072) (hi : i + 5 < L) (hI : zInv M) (kk : ∀ M2, zInv M2 → Lx l G b L xs 903 (Llv G b (nI i)) [] M2) : Lx l G b L xs 606 (Llv G b (nI i)) [] M := by
  obtain ⟨r, A, h1, B, h2, hB⟩ := o_lacks (N := 4000000) (by omega) (xs (i + 1)) M hI
  refine l_aload dL_606 rfl (x := G.2.2.1 0) rfl ?_
  refine l_arg (k := 1) hL (by omega) (by decide) dL_607 dL_608 dL_609 dL_610 dL_611 ?_
  refine l_inv (As := [.int (xs (i + 1))]) (rest := []) (a := 0) (ci := 11) dL_612 mk_X11_lacks (List.mem_of_getElem? (i := 958) (by decide +kernel)) rfl rfl rfl (cc_X11_lacks h1) (by omega) rfl (Nat.le_of_ble_eq_true rfl) rfl ?_
  refine l_aload dL_615 rfl (x := G.2.2.1 69) rfl ?_
  refine l_arg (k := 1) hL (by omega) (by decide) dL_616 dL_617 dL_618 dL_619 dL_620 ?_
  refine l_inv (As := [.int (xs (i + 1))]) (rest := [.int r]) (a := 69) (ci := 12) dL_621 mk_X12_lacks (List.mem_of_getElem? (i := 1661) (by decide +kernel)) rfl rfl rfl (cc_X12_lacks h2) (by omega) rfl (Nat.le_of_ble_eq_true rfl) rfl ?_
  exact l_icmpeq (tgt := 903) dL_624 (by decide) (kk B hB)
theorem law_call {i : Nat} (hL : L ≤ 3072) (hi : i + 5 < L) (hI : zInv M) (kk : ∀ M2, zInv M2 → Lx l G b L xs 903 (Llv G b (nI i)) [] M2) : Lx l G b L xs 629 (Llv G b (nI i)) [] M := by
  obtain ⟨r, A, h1, B, h2, hB⟩ := o_call (N := 4000000) (by omega) (xs (i + 1)) (xs (i + 2)) (xs (i + 3)) (xs (i + 4)) (xs (i + 5)) M hI
  refine l_aload dL_629 rfl (x := G.2.2.1 0) rfl ?_
  refine l_arg (k := 1) hL (by omega) (by decide) dL_630 dL_631 dL_632 dL_633 dL_634 ?_
  refine l_arg (k := 2) hL (by omega) (by decide) dL_635 dL_636 dL_637 dL_638 dL_639 ?_
  refine l_arg (k := 3) hL (by omega) (by decide) dL_640 dL_641 dL_642 dL_643 dL_644 ?_
  refine l_arg (k := 4) hL (by omega) (by decide) dL_645 dL_646 dL_647 dL_648 dL_649 ?_
  refine l_arg (k := 5) hL (by omega) (by decide) dL_650 dL_651 dL_652 dL_653 dL_654 ?_
  refine l_inv (As := [.int (xs (i + 1)), .int (xs (i + 2)), .int (xs (i + 3)), .int (xs (i + 4)), .int (xs (i + 5))]) (rest := []) (a := 0) (ci := 11) dL_655 mk_X11_call (List.mem_of_getElem? (i := 970) (by decide +kernel)) rfl rfl rfl (cc_X11_call h1) (by omega) rfl (Nat.le_of_ble_eq_true rfl) rfl ?_
  refine l_aload dL_658 rfl (x := G.2.2.1 69) rfl ?_
  refine l_arg (k := 1) hL (by omega) (by decide) dL_659 dL_660 dL_661 dL_662 dL_663 ?_
  refine l_arg (k := 2) hL (by omega) (by decide) dL_664 dL_665 dL_666 dL_667 dL_668 ?_
  refine l_arg (k := 3) hL (by omega) (by decide) dL_669 dL_670 dL_671 dL_672 dL_673 ?_
  refine l_arg (k := 4) hL (by omega) (by decide) dL_674 dL_675 dL_676 dL_677 dL_678 ?_
  refine l_arg (k := 5) hL (by omega) (by decide) dL_679 dL_680 dL_681 dL_682 dL_683 ?_
  refine l_inv (As := [.int (xs (i + 1)), .int (xs (i + 2)), .int (xs (i + 3)), .int (xs (i + 4)), .int (xs (i + 5))]) (rest := [.int r]) (a := 69) (ci := 12) dL_684 mk_X12_call (List.mem_of_getElem? (i := 1665) (by decide +kernel)) rfl rfl rfl (cc_X12_call h2) (by omega) rfl (Nat.le_of_ble_eq_true rfl) rfl ?_
  exact l_icmpeq (tgt := 903) dL_687 (by decide) (kk B hB)
theorem law_go {i : Nat} (hL : L ≤ 3072) (hi : i + 5 < L) (hI : zInv M) (kk : ∀ M2, zInv M2 → Lx l G b L xs 903 (Llv G b (nI i)) [] M2) : Lx l G b L xs 692 (Llv G b (nI i)) [] M := by
  obtain ⟨r, A, h1, B, h2, hB⟩ := o_go (N := 4000000) (by omega)  M hI
  refine l_aload dL_692 rfl (x := G.2.2.1 0) rfl ?_
  refine l_inv (As := []) (rest := []) (a := 0) (ci := 11) dL_693 mk_X11_go (List.mem_of_getElem? (i := 979) (by decide +kernel)) rfl rfl rfl (cc_X11_go h1) (by omega) rfl (Nat.le_of_ble_eq_true rfl) rfl ?_
  refine l_aload dL_696 rfl (x := G.2.2.1 69) rfl ?_
  refine l_inv (As := []) (rest := [.int r]) (a := 69) (ci := 12) dL_697 mk_X12_go (List.mem_of_getElem? (i := 1669) (by decide +kernel)) rfl rfl rfl (cc_X12_go h2) (by omega) rfl (Nat.le_of_ble_eq_true rfl) rfl ?_
  exact l_icmpeq (tgt := 903) dL_700 (by decide) (kk B hB)
theorem law_told {i : Nat} (hL : L ≤ 3072) (hi : i + 5 < L) (hI : zInv M) (kk : ∀ M2, zInv M2 → Lx l G b L xs 903 (Llv G b (nI i)) [] M2) : Lx l G b L xs 705 (Llv G b (nI i)) [] M := by
  obtain ⟨r, A, h1, B, h2, hB⟩ := o_told (N := 4000000) (by omega) (xs (i + 1)) (xs (i + 2)) M hI
  refine l_aload dL_705 rfl (x := G.2.2.1 0) rfl ?_
  refine l_arg (k := 1) hL (by omega) (by decide) dL_706 dL_707 dL_708 dL_709 dL_710 ?_
  refine l_arg (k := 2) hL (by omega) (by decide) dL_711 dL_712 dL_713 dL_714 dL_715 ?_
  refine l_inv (As := [.int (xs (i + 1)), .int (xs (i + 2))]) (rest := []) (a := 0) (ci := 11) dL_716 mk_X11_told (List.mem_of_getElem? (i := 1137) (by decide +kernel)) rfl rfl rfl (cc_X11_told h1) (by omega) rfl (Nat.le_of_ble_eq_true rfl) rfl ?_
  refine l_aload dL_719 rfl (x := G.2.2.1 69) rfl ?_
  refine l_arg (k := 1) hL (by omega) (by decide) dL_720 dL_721 dL_722 dL_723 dL_724 ?_
  refine l_arg (k := 2) hL (by omega) (by decide) dL_725 dL_726 dL_727 dL_728 dL_729 ?_
  refine l_inv (As := [.int (xs (i + 1)), .int (xs (i + 2))]) (rest := [.int r]) (a := 69) (ci := 12) dL_730 mk_X12_told (List.mem_of_getElem? (i := 1713) (by decide +kernel)) rfl rfl rfl (cc_X12_told h2) (by omega) rfl (Nat.le_of_ble_eq_true rfl) rfl ?_
  exact l_icmpeq (tgt := 903) dL_733 (by decide) (kk B hB)
theorem law_talked {i : Nat} (hL : L ≤ 3072) (hi : i + 5 < L) (hI : zInv M) (kk : ∀ M2, zInv M2 → Lx l G b L xs 903 (Llv G b (nI i)) [] M2) : Lx l G b L xs 738 (Llv G b (nI i)) [] M := by
  obtain ⟨r, A, h1, B, h2, hB⟩ := o_talked (N := 4000000) (by omega) (xs (i + 1)) (xs (i + 2)) M hI
  refine l_aload dL_738 rfl (x := G.2.2.1 0) rfl ?_
  refine l_arg (k := 1) hL (by omega) (by decide) dL_739 dL_740 dL_741 dL_742 dL_743 ?_
  refine l_arg (k := 2) hL (by omega) (by decide) dL_744 dL_745 dL_746 dL_747 dL_748 ?_
  refine l_inv (As := [.int (xs (i + 1)), .int (xs (i + 2))]) (rest := []) (a := 0) (ci := 11) dL_749 mk_X11_talked (List.mem_of_getElem? (i := 1154) (by decide +kernel)) rfl rfl rfl (cc_X11_talked h1) (by omega) rfl (Nat.le_of_ble_eq_true rfl) rfl ?_
  refine l_aload dL_752 rfl (x := G.2.2.1 69) rfl ?_
  refine l_arg (k := 1) hL (by omega) (by decide) dL_753 dL_754 dL_755 dL_756 dL_757 ?_
  refine l_arg (k := 2) hL (by omega) (by decide) dL_758 dL_759 dL_760 dL_761 dL_762 ?_
  refine l_inv (As := [.int (xs (i + 1)), .int (xs (i + 2))]) (rest := [.int r]) (a := 69) (ci := 12) dL_763 mk_X12_talked (List.mem_of_getElem? (i := 1717) (by decide +kernel)) rfl rfl rfl (cc_X12_talked h2) (by omega) rfl (Nat.le_of_ble_eq_true rfl) rfl ?_
  exact l_icmpeq (tgt := 903) dL_766 (by decide) (kk B hB)
theorem law_note {i : Nat} (hL : L ≤ 3072) (hi : i + 5 < L) (hI : zInv M) (kk : ∀ M2, zInv M2 → Lx l G b L xs 903 (Llv G b (nI i)) [] M2) : Lx l G b L xs 771 (Llv G b (nI i)) [] M := by
  obtain ⟨r, A, h1, B, h2, hB⟩ := o_note (N := 4000000) (by omega) (xs (i + 1)) (xs (i + 2)) M hI
  refine l_aload dL_771 rfl (x := G.2.2.1 0) rfl ?_
  refine l_arg (k := 1) hL (by omega) (by decide) dL_772 dL_773 dL_774 dL_775 dL_776 ?_
  refine l_arg (k := 2) hL (by omega) (by decide) dL_777 dL_778 dL_779 dL_780 dL_781 ?_
  refine l_inv (As := [.int (xs (i + 1)), .int (xs (i + 2))]) (rest := []) (a := 0) (ci := 11) dL_782 mk_X11_note (List.mem_of_getElem? (i := 1162) (by decide +kernel)) rfl rfl rfl (cc_X11_note h1) (by omega) rfl (Nat.le_of_ble_eq_true rfl) rfl ?_
  refine l_aload dL_785 rfl (x := G.2.2.1 69) rfl ?_
  refine l_arg (k := 1) hL (by omega) (by decide) dL_786 dL_787 dL_788 dL_789 dL_790 ?_
  refine l_arg (k := 2) hL (by omega) (by decide) dL_791 dL_792 dL_793 dL_794 dL_795 ?_
  refine l_inv (As := [.int (xs (i + 1)), .int (xs (i + 2))]) (rest := [.int r]) (a := 69) (ci := 12) dL_796 mk_X12_note (List.mem_of_getElem? (i := 1721) (by decide +kernel)) rfl rfl rfl (cc_X12_note h2) (by omega) rfl (Nat.le_of_ble_eq_true rfl) rfl ?_
  exact l_icmpeq (tgt := 903) dL_799 (by decide) (kk B hB)
theorem law_see {i : Nat} (hL : L ≤ 3072) (hi : i + 5 < L) (hI : zInv M) (kk : ∀ M2, zInv M2 → Lx l G b L xs 903 (Llv G b (nI i)) [] M2) : Lx l G b L xs 804 (Llv G b (nI i)) [] M := by
  obtain ⟨r, A, h1, B, h2, hB⟩ := o_see (N := 4000000) (by omega) (xs (i + 1)) (xs (i + 2)) (xs (i + 3)) M hI
  refine l_aload dL_804 rfl (x := G.2.2.1 0) rfl ?_
  refine l_arg (k := 1) hL (by omega) (by decide) dL_805 dL_806 dL_807 dL_808 dL_809 ?_
  refine l_arg (k := 2) hL (by omega) (by decide) dL_810 dL_811 dL_812 dL_813 dL_814 ?_
  refine l_arg (k := 3) hL (by omega) (by decide) dL_815 dL_816 dL_817 dL_818 dL_819 ?_
  refine l_inv (As := [.int (xs (i + 1)), .int (xs (i + 2)), .int (xs (i + 3))]) (rest := []) (a := 0) (ci := 11) dL_820 mk_X11_see (List.mem_of_getElem? (i := 1170) (by decide +kernel)) rfl rfl rfl (cc_X11_see h1) (by omega) rfl (Nat.le_of_ble_eq_true rfl) rfl ?_
  refine l_aload dL_823 rfl (x := G.2.2.1 69) rfl ?_
  refine l_arg (k := 1) hL (by omega) (by decide) dL_824 dL_825 dL_826 dL_827 dL_828 ?_
  refine l_arg (k := 2) hL (by omega) (by decide) dL_829 dL_830 dL_831 dL_832 dL_833 ?_
  refine l_arg (k := 3) hL (by omega) (by decide) dL_834 dL_835 dL_836 dL_837 dL_838 ?_
  refine l_inv (As := [.int (xs (i + 1)), .int (xs (i + 2)), .int (xs (i + 3))]) (rest := [.int r]) (a := 69) (ci := 12) dL_839 mk_X12_see (List.mem_of_getElem? (i := 1725) (by decide +kernel)) rfl rfl rfl (cc_X12_see h2) (by omega) rfl (Nat.le_of_ble_eq_true rfl) rfl ?_
  exact l_icmpeq (tgt := 903) dL_842 (by decide) (kk B hB)
theorem law_foretold {i : Nat} (hL : L ≤ 3072) (hi : i + 5 < L) (hI : zInv M) (kk : ∀ M2, zInv M2 → Lx l G b L xs 903 (Llv G b (nI i)) [] M2) : Lx l G b L xs 847 (Llv G b (nI i)) [] M := by
  obtain ⟨r, A, h1, B, h2, hB⟩ := o_foretold (N := 4000000) (by omega) (xs (i + 1)) (xs (i + 2)) M hI
  refine l_aload dL_847 rfl (x := G.2.2.1 0) rfl ?_
  refine l_arg (k := 1) hL (by omega) (by decide) dL_848 dL_849 dL_850 dL_851 dL_852 ?_
  refine l_arg (k := 2) hL (by omega) (by decide) dL_853 dL_854 dL_855 dL_856 dL_857 ?_
  refine l_inv (As := [.int (xs (i + 1)), .int (xs (i + 2))]) (rest := []) (a := 0) (ci := 11) dL_858 mk_X11_foretold (List.mem_of_getElem? (i := 1200) (by decide +kernel)) rfl rfl rfl (cc_X11_foretold h1) (by omega) rfl (Nat.le_of_ble_eq_true rfl) rfl ?_
  refine l_aload dL_861 rfl (x := G.2.2.1 69) rfl ?_
  refine l_arg (k := 1) hL (by omega) (by decide) dL_862 dL_863 dL_864 dL_865 dL_866 ?_
  refine l_arg (k := 2) hL (by omega) (by decide) dL_867 dL_868 dL_869 dL_870 dL_871 ?_
  refine l_inv (As := [.int (xs (i + 1)), .int (xs (i + 2))]) (rest := [.int r]) (a := 69) (ci := 12) dL_872 mk_X12_foretold (List.mem_of_getElem? (i := 1729) (by decide +kernel)) rfl rfl rfl (cc_X12_foretold h2) (by omega) rfl (Nat.le_of_ble_eq_true rfl) rfl ?_
  exact l_icmpeq (tgt := 903) dL_875 (by decide) (kk B hB)
theorem law_count {i : Nat} (hL : L ≤ 3072) (hi : i + 5 < L) (hI : zInv M) (kk : ∀ M2, zInv M2 → Lx l G b L xs 903 (Llv G b (nI i)) [] M2) : Lx l G b L xs 880 (Llv G b (nI i)) [] M := by
  obtain ⟨r, A, h1, B, h2, hB⟩ := o_count (N := 4000000) (by omega) (xs (i + 1)) M hI
  refine l_aload dL_880 rfl (x := G.2.2.1 0) rfl ?_
  refine l_arg (k := 1) hL (by omega) (by decide) dL_881 dL_882 dL_883 dL_884 dL_885 ?_
  refine l_inv (As := [.int (xs (i + 1))]) (rest := []) (a := 0) (ci := 11) dL_886 mk_X11_count (List.mem_of_getElem? (i := 1215) (by decide +kernel)) rfl rfl rfl (cc_X11_count h1) (by omega) rfl (Nat.le_of_ble_eq_true rfl) rfl ?_
  refine l_aload dL_889 rfl (x := G.2.2.1 69) rfl ?_
  refine l_arg (k := 1) hL (by omega) (by decide) dL_890 dL_891 dL_892 dL_893 dL_894 ?_
  refine l_inv (As := [.int (xs (i + 1))]) (rest := [.int r]) (a := 69) (ci := 12) dL_895 mk_X12_count (List.mem_of_getElem? (i := 1733) (by decide +kernel)) rfl rfl rfl (cc_X12_count h2) (by omega) rfl (Nat.le_of_ble_eq_true rfl) rfl ?_
  exact l_icmpeq (tgt := 903) dL_898 (by decide) (kk B hB)
end LAW
