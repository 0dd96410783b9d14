/-! LOCALITY: the reference reads and writes its own places alone -/
def zmx (A B : zMem) : zMem := (fun a => if a < 69 then A.1 a else B.1 a, fun a => if a < 69 then A.2.1 a else B.2.1 a, A.2.2)
def zmp {α : Type} (A : zMem) (o : Option (α × zMem)) : Option (α × zMem) := o.map fun p => (p.1, zmx A p.2)
def zmq (A : zMem) (o : Option zMem) : Option zMem := o.map (zmx A)
theorem zmx_1 {A B : zMem} {a : Nat} (h : 69 ≤ a) : (zmx A B).1 a = B.1 a := if_neg (Nat.not_lt.mpr h)
theorem zmx_2 {A B : zMem} {a : Nat} (h : 69 ≤ a) : (zmx A B).2.1 a = B.2.1 a := if_neg (Nat.not_lt.mpr h)
theorem zmx_1c {A B : zMem} {a : Nat} (h : a < 69) : (zmx A B).1 a = A.1 a := if_pos h
theorem zmx_2c {A B : zMem} {a : Nat} (h : a < 69) : (zmx A B).2.1 a = A.2.1 a := if_pos h
theorem zmx_ldI {A B : zMem} {a : Nat} (h : 69 ≤ a) (n : Nat) (i : Int32) : zldI (zmx A B) a n i = zldI B a n i := by unfold zldI; rw [zmx_1 h]
theorem zmx_ldJ {A B : zMem} {a : Nat} (h : 69 ≤ a) (n : Nat) (i : Int32) : zldJ (zmx A B) a n i = zldJ B a n i := by unfold zldJ; rw [zmx_2 h]
theorem zmx_pI {A B : zMem} {a : Nat} (h : 69 ≤ a) (k : Nat) (x : Int32) : zpI (zmx A B) a k x = zmx A (zpI B a k x) := by
  unfold zpI zmx zu
  refine Prod.ext ?_ rfl
  funext b j
  by_cases e : b = a
  · subst e
    simp [Nat.not_lt.mpr h]
  · by_cases q : b < 69 <;> simp [e, q]
theorem zmx_pJ {A B : zMem} {a : Nat} (h : 69 ≤ a) (k : Nat) (x : Int64) : zpJ (zmx A B) a k x = zmx A (zpJ B a k x) := by
  unfold zpJ zmx zu
  refine Prod.ext rfl (Prod.ext ?_ rfl)
  funext b j
  by_cases e : b = a
  · subst e
    simp [Nat.not_lt.mpr h]
  · by_cases q : b < 69 <;> simp [e, q]
theorem zmx_stI {A B : zMem} {a : Nat} (h : 69 ≤ a) (n : Nat) (i x : Int32) : zstI (zmx A B) a n i x = zmq A (zstI B a n i x) := by unfold zstI zmq; rw [zmx_pI h]; split <;> rfl
theorem zmx_stB {A B : zMem} {a : Nat} (h : 69 ≤ a) (n : Nat) (i x : Int32) : zstB (zmx A B) a n i x = zmq A (zstB B a n i x) := by unfold zstB zmq; rw [zmx_pI h]; split <;> rfl
theorem zmx_stZ {A B : zMem} {a : Nat} (h : 69 ≤ a) (n : Nat) (i x : Int32) : zstZ (zmx A B) a n i x = zmq A (zstZ B a n i x) := by unfold zstZ zmq; rw [zmx_pI h]; split <;> rfl
theorem zmx_stJ {A B : zMem} {a : Nat} (h : 69 ≤ a) (n : Nat) (i : Int32) (x : Int64) : zstJ (zmx A B) a n i x = zmq A (zstJ B a n i x) := by unfold zstJ zmq; rw [zmx_pJ h]; split <;> rfl
theorem zmp_zb2 {α β : Type} {A : zMem} (o : Option (α × zMem)) (f : α → zMem → Option (β × zMem)) : zmp A (zb2 o f) = zb2 o fun r M => zmp A (f r M) := by cases o <;> rfl
theorem zmq_zb2 {α : Type} {A : zMem} (o : Option (α × zMem)) (f : α → zMem → Option zMem) : zmq A (zb2 o f) = zb2 o fun r M => zmq A (f r M) := by cases o <;> rfl
theorem zmp_bd {α β : Type} {A : zMem} (o : Option α) (f : α → Option (β × zMem)) : zmp A (o.bind f) = o.bind fun v => zmp A (f v) := by cases o <;> rfl
theorem zmq_bd {α : Type} {A : zMem} (o : Option α) (f : α → Option zMem) : zmq A (o.bind f) = o.bind fun v => zmq A (f v) := by cases o <;> rfl
theorem zmp_if {α : Type} {A : zMem} (c : Prop) [Decidable c] (x y : Option (α × zMem)) : zmp A (if c then x else y) = if c then zmp A x else zmp A y := by split <;> rfl
theorem zmq_if {A : zMem} (c : Prop) [Decidable c] (x y : Option zMem) : zmq A (if c then x else y) = if c then zmq A x else zmq A y := by split <;> rfl
theorem zmp_some {α : Type} {A : zMem} (r : α) (B : zMem) : zmp A (some (r, B)) = some (r, zmx A B) := (rfl)
theorem zmq_some {A : zMem} (B : zMem) : zmq A (some B) = some (zmx A B) := (rfl)
theorem zmp_none {α : Type} {A : zMem} : zmp A (none : Option (α × zMem)) = none := (rfl)
theorem zmq_none {A : zMem} : zmq A none = none := (rfl)
theorem zmp_let {α β : Type} {A : zMem} (x : α) (f : α → Option (β × zMem)) : zmp A (zlet x f) = zlet x fun v => zmp A (f v) := (rfl)
theorem zmq_let {α : Type} {A : zMem} (x : α) (f : α → Option zMem) : zmq A (zlet x f) = zlet x fun v => zmq A (f v) := (rfl)
theorem zmp_gb {α : Type} {A : zMem} (v : Int32) (x : Option (α × zMem)) : zmp A (zgb v x) = zgb v (zmp A x) := by unfold zgb; split <;> rfl
theorem zmq_gb {A : zMem} (v : Int32) (x : Option zMem) : zmq A (zgb v x) = zgb v (zmq A x) := by unfold zgb; split <;> rfl
theorem zmb_zb2 {α β : Type} {A : zMem} (o : Option (α × zMem)) (f : α → zMem → Option (β × zMem)) : zb2 (zmp A o) f = zb2 o fun r M => f r (zmx A M) := by cases o <;> rfl
theorem zmb_zb2q {α : Type} {A : zMem} (o : Option (α × zMem)) (f : α → zMem → Option zMem) : zb2 (zmp A o) f = zb2 o fun r M => f r (zmx A M) := by cases o <;> rfl
theorem zmb_bd {β : Type} {A : zMem} (o : Option zMem) (f : zMem → Option (β × zMem)) : (zmq A o).bind f = o.bind fun M => f (zmx A M) := by cases o <;> rfl
theorem zmb_bdq {A : zMem} (o : Option zMem) (f : zMem → Option zMem) : (zmq A o).bind f = o.bind fun M => f (zmx A M) := by cases o <;> rfl
theorem zmx_let {α : Type} {A B : zMem} (f : zMem → Option (α × zMem)) : zlet (zmx A B) f = zlet B fun M => f (zmx A M) := (rfl)
theorem zmx_letq {A B : zMem} (f : zMem → Option zMem) : zlet (zmx A B) f = zlet B fun M => f (zmx A M) := (rfl)
theorem lm_fX12_put_L3 {A : zMem} (N : Nat) : ∀ (n : Nat) (z0 : Int32) (z1 : Int32) (B : zMem), fX12_put_L3 N n z0 z1 (zmx A B) = zmq A (fX12_put_L3 N n z0 z1 B) := by
  intro n
  induction n with
  | zero => intros; rfl
  | succ n ih =>
    intro z0 z1 B
    simp (maxSteps := 2000000) (disch := first | assumption | decide) only [fX12_put_L3, zmx_1, zmx_2, zmx_ldI, zmx_ldJ, zmx_stI, zmx_stJ, zmx_stB, zmx_stZ, zmx_pI, zmx_pJ, zmp_zb2, zmp_bd, zmq_zb2, zmq_bd, zmp_if, zmq_if, zmp_some, zmq_some, zmp_none, zmq_none, zmp_let, zmq_let, zmp_gb, zmq_gb, zmb_zb2, zmb_zb2q, zmb_bd, zmb_bdq, zmx_let, zmx_letq, ih]
theorem lm_fX12_put {A : zMem} (N : Nat) (x1 : Int32) (B : zMem) : fX12_put N x1 (zmx A B) = zmq A (fX12_put N x1 B) := by
  unfold fX12_put
  simp (maxSteps := 2000000) (disch := first | assumption | decide) only [zmx_1, zmx_2, zmx_ldI, zmx_ldJ, zmx_stI, zmx_stJ, zmx_stB, zmx_stZ, zmx_pI, zmx_pJ, zmp_zb2, zmp_bd, zmq_zb2, zmq_bd, zmp_if, zmq_if, zmp_some, zmq_some, zmp_none, zmq_none, zmp_let, zmq_let, zmp_gb, zmq_gb, zmb_zb2, zmb_zb2q, zmb_bd, zmb_bdq, zmx_let, zmx_letq, lm_fX12_put_L3]
theorem lm_fX12_feed {A : zMem} (N : Nat) (x1 : Int32) (x2 : Int32) (x3 : Int32) (x4 : Int32) (x5 : Int32) (B : zMem) : fX12_feed N x1 x2 x3 x4 x5 (zmx A B) = zmp A (fX12_feed N x1 x2 x3 x4 x5 B) := by
  unfold fX12_feed
  simp (maxSteps := 2000000) (disch := first | assumption | decide) only [zmx_1, zmx_2, zmx_ldI, zmx_ldJ, zmx_stI, zmx_stJ, zmx_stB, zmx_stZ, zmx_pI, zmx_pJ, zmp_zb2, zmp_bd, zmq_zb2, zmq_bd, zmp_if, zmq_if, zmp_some, zmq_some, zmp_none, zmq_none, zmp_let, zmq_let, zmp_gb, zmq_gb, zmb_zb2, zmb_zb2q, zmb_bd, zmb_bdq, zmx_let, zmx_letq, lm_fX12_put]
theorem lm_fX12_back {A : zMem} (x1 : Int32) (B : zMem) : fX12_back x1 (zmx A B) = zmp A (fX12_back x1 B) := by
  unfold fX12_back
  simp (maxSteps := 2000000) (disch := first | assumption | decide) only [zmx_1, zmx_2, zmx_ldI, zmx_ldJ, zmx_stI, zmx_stJ, zmx_stB, zmx_stZ, zmx_pI, zmx_pJ, zmp_zb2, zmp_bd, zmq_zb2, zmq_bd, zmp_if, zmq_if, zmp_some, zmq_some, zmp_none, zmq_none, zmp_let, zmq_let, zmp_gb, zmq_gb, zmb_zb2, zmb_zb2q, zmb_bd, zmb_bdq, zmx_let, zmx_letq]
theorem lm_fX12_at {A : zMem} (x1 : Int32) (B : zMem) : fX12_at x1 (zmx A B) = zmp A (fX12_at x1 B) := by
  unfold fX12_at
  simp (maxSteps := 2000000) (disch := first | assumption | decide) only [zmx_1, zmx_2, zmx_ldI, zmx_ldJ, zmx_stI, zmx_stJ, zmx_stB, zmx_stZ, zmx_pI, zmx_pJ, zmp_zb2, zmp_bd, zmq_zb2, zmq_bd, zmp_if, zmq_if, zmp_some, zmq_some, zmp_none, zmq_none, zmp_let, zmq_let, zmp_gb, zmq_gb, zmb_zb2, zmb_zb2q, zmb_bd, zmb_bdq, zmx_let, zmx_letq]
theorem lm_fX12_isDigit {A : zMem} (x0 : Int32) (B : zMem) : fX12_isDigit x0 (zmx A B) = zmp A (fX12_isDigit x0 B) := by
  unfold fX12_isDigit
  simp (maxSteps := 2000000) (disch := first | assumption | decide) only [zmx_1, zmx_2, zmx_ldI, zmx_ldJ, zmx_stI, zmx_stJ, zmx_stB, zmx_stZ, zmx_pI, zmx_pJ, zmp_zb2, zmp_bd, zmq_zb2, zmq_bd, zmp_if, zmq_if, zmp_some, zmq_some, zmp_none, zmq_none, zmp_let, zmq_let, zmp_gb, zmq_gb, zmb_zb2, zmb_zb2q, zmb_bd, zmb_bdq, zmx_let, zmx_letq]
theorem lm_fX12_isLetter {A : zMem} (x0 : Int32) (B : zMem) : fX12_isLetter x0 (zmx A B) = zmp A (fX12_isLetter x0 B) := by
  unfold fX12_isLetter
  simp (maxSteps := 2000000) (disch := first | assumption | decide) only [zmx_1, zmx_2, zmx_ldI, zmx_ldJ, zmx_stI, zmx_stJ, zmx_stB, zmx_stZ, zmx_pI, zmx_pJ, zmp_zb2, zmp_bd, zmq_zb2, zmq_bd, zmp_if, zmq_if, zmp_some, zmq_some, zmp_none, zmq_none, zmp_let, zmq_let, zmp_gb, zmq_gb, zmb_zb2, zmb_zb2q, zmb_bd, zmb_bdq, zmx_let, zmx_letq]
theorem lm_fX12_more {A : zMem} (x0 : Int64) (x2 : Int32) (B : zMem) : fX12_more x0 x2 (zmx A B) = zmp A (fX12_more x0 x2 B) := by
  unfold fX12_more
  simp (maxSteps := 2000000) (disch := first | assumption | decide) only [zmx_1, zmx_2, zmx_ldI, zmx_ldJ, zmx_stI, zmx_stJ, zmx_stB, zmx_stZ, zmx_pI, zmx_pJ, zmp_zb2, zmp_bd, zmq_zb2, zmq_bd, zmp_if, zmq_if, zmp_some, zmq_some, zmp_none, zmq_none, zmp_let, zmq_let, zmp_gb, zmq_gb, zmb_zb2, zmb_zb2q, zmb_bd, zmb_bdq, zmx_let, zmx_letq]
theorem lm_fX12_word {A : zMem} (x0 : Int32) (x1 : Int32) (x2 : Int32) (x3 : Int32) (x4 : Int32) (x5 : Int32) (x6 : Int32) (B : zMem) : fX12_word x0 x1 x2 x3 x4 x5 x6 (zmx A B) = zmp A (fX12_word x0 x1 x2 x3 x4 x5 x6 B) := by
  unfold fX12_word
  simp (maxSteps := 2000000) (disch := first | assumption | decide) only [zmx_1, zmx_2, zmx_ldI, zmx_ldJ, zmx_stI, zmx_stJ, zmx_stB, zmx_stZ, zmx_pI, zmx_pJ, zmp_zb2, zmp_bd, zmq_zb2, zmq_bd, zmp_if, zmq_if, zmp_some, zmq_some, zmp_none, zmq_none, zmp_let, zmq_let, zmp_gb, zmq_gb, zmb_zb2, zmb_zb2q, zmb_bd, zmb_bdq, zmx_let, zmx_letq, lm_fX12_more]
theorem lm_fX12_token {A : zMem} (x1 : Int32) (x2 : Int32) (x3 : Int32) (x4 : Int64) (B : zMem) : fX12_token x1 x2 x3 x4 (zmx A B) = zmq A (fX12_token x1 x2 x3 x4 B) := by
  unfold fX12_token
  simp (maxSteps := 2000000) (disch := first | assumption | decide) only [zmx_1, zmx_2, zmx_ldI, zmx_ldJ, zmx_stI, zmx_stJ, zmx_stB, zmx_stZ, zmx_pI, zmx_pJ, zmp_zb2, zmp_bd, zmq_zb2, zmq_bd, zmp_if, zmq_if, zmp_some, zmq_some, zmp_none, zmq_none, zmp_let, zmq_let, zmp_gb, zmq_gb, zmb_zb2, zmb_zb2q, zmb_bd, zmb_bdq, zmx_let, zmx_letq]
theorem lm_fX12_sign_L148 {A : zMem} (x1 : Int32) (x4 : Int32) (x5 : Int32) (B : zMem) : fX12_sign_L148 x1 x4 x5 (zmx A B) = zmp A (fX12_sign_L148 x1 x4 x5 B) := by
  unfold fX12_sign_L148
  simp (maxSteps := 2000000) (disch := first | assumption | decide) only [zmx_1, zmx_2, zmx_ldI, zmx_ldJ, zmx_stI, zmx_stJ, zmx_stB, zmx_stZ, zmx_pI, zmx_pJ, zmp_zb2, zmp_bd, zmq_zb2, zmq_bd, zmp_if, zmq_if, zmp_some, zmq_some, zmp_none, zmq_none, zmp_let, zmq_let, zmp_gb, zmq_gb, zmb_zb2, zmb_zb2q, zmb_bd, zmb_bdq, zmx_let, zmx_letq, lm_fX12_token]
theorem lm_fX12_sign_L44 {A : zMem} (x1 : Int32) (x2 : Int32) (s0 : Int32) (B : zMem) : fX12_sign_L44 x1 x2 s0 (zmx A B) = zmp A (fX12_sign_L44 x1 x2 s0 B) := by
  unfold fX12_sign_L44
  simp (maxSteps := 2000000) (disch := first | assumption | decide) only [zmx_1, zmx_2, zmx_ldI, zmx_ldJ, zmx_stI, zmx_stJ, zmx_stB, zmx_stZ, zmx_pI, zmx_pJ, zmp_zb2, zmp_bd, zmq_zb2, zmq_bd, zmp_if, zmq_if, zmp_some, zmq_some, zmp_none, zmq_none, zmp_let, zmq_let, zmp_gb, zmq_gb, zmb_zb2, zmb_zb2q, zmb_bd, zmb_bdq, zmx_let, zmx_letq, lm_fX12_sign_L148]
theorem lm_fX12_sign {A : zMem} (x1 : Int32) (x2 : Int32) (x3 : Int32) (B : zMem) : fX12_sign x1 x2 x3 (zmx A B) = zmp A (fX12_sign x1 x2 x3 B) := by
  unfold fX12_sign
  simp (maxSteps := 2000000) (disch := first | assumption | decide) only [zmx_1, zmx_2, zmx_ldI, zmx_ldJ, zmx_stI, zmx_stJ, zmx_stB, zmx_stZ, zmx_pI, zmx_pJ, zmp_zb2, zmp_bd, zmq_zb2, zmq_bd, zmp_if, zmq_if, zmp_some, zmq_some, zmp_none, zmq_none, zmp_let, zmq_let, zmp_gb, zmq_gb, zmb_zb2, zmb_zb2q, zmb_bd, zmb_bdq, zmx_let, zmx_letq, lm_fX12_sign_L44]
theorem lm_fX12_cut_L291 {A : zMem} (N : Nat) (k7 : Int32 → zMem → Option zMem) (hk7 : ∀ (y0 : Int32) (B : zMem), k7 y0 (zmx A B) = zmq A (k7 y0 B)) (x1 : Int32) (B : zMem) : fX12_cut_L291 N k7 x1 (zmx A B) = zmq A (fX12_cut_L291 N k7 x1 B) := by
  unfold fX12_cut_L291
  simp (maxSteps := 2000000) (disch := first | assumption | decide) only [zmx_1, zmx_2, zmx_ldI, zmx_ldJ, zmx_stI, zmx_stJ, zmx_stB, zmx_stZ, zmx_pI, zmx_pJ, zmp_zb2, zmp_bd, zmq_zb2, zmq_bd, zmp_if, zmq_if, zmp_some, zmq_some, zmp_none, zmq_none, zmp_let, zmq_let, zmp_gb, zmq_gb, zmb_zb2, zmb_zb2q, zmb_bd, zmb_bdq, zmx_let, zmx_letq, hk7]
theorem lm_fX12_cut_L67 {A : zMem} (N : Nat) (k7 : Int32 → zMem → Option zMem) (hk7 : ∀ (y0 : Int32) (B : zMem), k7 y0 (zmx A B) = zmq A (k7 y0 B)) (x1 : Int32) (B : zMem) : fX12_cut_L67 N k7 x1 (zmx A B) = zmq A (fX12_cut_L67 N k7 x1 B) := by
  unfold fX12_cut_L67
  simp (maxSteps := 2000000) (disch := first | assumption | decide) only [zmx_1, zmx_2, zmx_ldI, zmx_ldJ, zmx_stI, zmx_stJ, zmx_stB, zmx_stZ, zmx_pI, zmx_pJ, zmp_zb2, zmp_bd, zmq_zb2, zmq_bd, zmp_if, zmq_if, zmp_some, zmq_some, zmp_none, zmq_none, zmp_let, zmq_let, zmp_gb, zmq_gb, zmb_zb2, zmb_zb2q, zmb_bd, zmb_bdq, zmx_let, zmx_letq, lm_fX12_cut_L291, hk7]
theorem lm_fX12_cut_L118 {A : zMem} (N : Nat) (k7 : Int32 → zMem → Option zMem) (hk7 : ∀ (y0 : Int32) (B : zMem), k7 y0 (zmx A B) = zmq A (k7 y0 B)) (k85 : Int32 → Int32 → Int64 → zMem → Option zMem) (hk85 : ∀ (y0 : Int32) (y1 : Int32) (y2 : Int64) (B : zMem), k85 y0 y1 y2 (zmx A B) = zmq A (k85 y0 y1 y2 B)) (x1 : Int32) (x3 : Int32) (x4 : Int64) (B : zMem) : fX12_cut_L118 N k7 k85 x1 x3 x4 (zmx A B) = zmq A (fX12_cut_L118 N k7 k85 x1 x3 x4 B) := by
  unfold fX12_cut_L118
  simp (maxSteps := 2000000) (disch := first | assumption | decide) only [zmx_1, zmx_2, zmx_ldI, zmx_ldJ, zmx_stI, zmx_stJ, zmx_stB, zmx_stZ, zmx_pI, zmx_pJ, zmp_zb2, zmp_bd, zmq_zb2, zmq_bd, zmp_if, zmq_if, zmp_some, zmq_some, zmp_none, zmq_none, zmp_let, zmq_let, zmp_gb, zmq_gb, zmb_zb2, zmb_zb2q, zmb_bd, zmb_bdq, zmx_let, zmx_letq, hk7, hk85]
theorem lm_fX12_cut_L173 {A : zMem} (N : Nat) (k7 : Int32 → zMem → Option zMem) (hk7 : ∀ (y0 : Int32) (B : zMem), k7 y0 (zmx A B) = zmq A (k7 y0 B)) (k146 : Int32 → Int32 → Int64 → Int32 → Int32 → zMem → Option zMem) (hk146 : ∀ (y0 : Int32) (y1 : Int32) (y2 : Int64) (y3 : Int32) (y4 : Int32) (B : zMem), k146 y0 y1 y2 y3 y4 (zmx A B) = zmq A (k146 y0 y1 y2 y3 y4 B)) (x1 : Int32) (x3 : Int32) (x4 : Int64) (x6 : Int32) (x7 : Int32) (B : zMem) : fX12_cut_L173 N k7 k146 x1 x3 x4 x6 x7 (zmx A B) = zmq A (fX12_cut_L173 N k7 k146 x1 x3 x4 x6 x7 B) := by
  unfold fX12_cut_L173
  simp (maxSteps := 2000000) (disch := first | assumption | decide) only [zmx_1, zmx_2, zmx_ldI, zmx_ldJ, zmx_stI, zmx_stJ, zmx_stB, zmx_stZ, zmx_pI, zmx_pJ, zmp_zb2, zmp_bd, zmq_zb2, zmq_bd, zmp_if, zmq_if, zmp_some, zmq_some, zmp_none, zmq_none, zmp_let, zmq_let, zmp_gb, zmq_gb, zmb_zb2, zmb_zb2q, zmb_bd, zmb_bdq, zmx_let, zmx_letq, hk7, hk146]
theorem lm_fX12_cut_L179 {A : zMem} (N : Nat) (k7 : Int32 → zMem → Option zMem) (hk7 : ∀ (y0 : Int32) (B : zMem), k7 y0 (zmx A B) = zmq A (k7 y0 B)) (x1 : Int32) (x3 : Int32) (x4 : Int64) (x6 : Int32) (B : zMem) : fX12_cut_L179 N k7 x1 x3 x4 x6 (zmx A B) = zmq A (fX12_cut_L179 N k7 x1 x3 x4 x6 B) := by
  unfold fX12_cut_L179
  simp (maxSteps := 2000000) (disch := first | assumption | decide) only [zmx_1, zmx_2, zmx_ldI, zmx_ldJ, zmx_stI, zmx_stJ, zmx_stB, zmx_stZ, zmx_pI, zmx_pJ, zmp_zb2, zmp_bd, zmq_zb2, zmq_bd, zmp_if, zmq_if, zmp_some, zmq_some, zmp_none, zmq_none, zmp_let, zmq_let, zmp_gb, zmq_gb, zmb_zb2, zmb_zb2q, zmb_bd, zmb_bdq, zmx_let, zmx_letq, lm_fX12_token, lm_fX12_cut_L291, hk7]
theorem lm_fX12_cut_L146 {A : zMem} (N : Nat) (k7 : Int32 → zMem → Option zMem) (hk7 : ∀ (y0 : Int32) (B : zMem), k7 y0 (zmx A B) = zmq A (k7 y0 B)) : ∀ (n : Nat) (z0 : Int32) (z1 : Int32) (z2 : Int64) (z3 : Int32) (z4 : Int32) (B : zMem), fX12_cut_L146 N k7 n z0 z1 z2 z3 z4 (zmx A B) = zmq A (fX12_cut_L146 N k7 n z0 z1 z2 z3 z4 B) := by
  intro n
  induction n with
  | zero => intros; rfl
  | succ n ih =>
    intro z0 z1 z2 z3 z4 B
    simp (maxSteps := 2000000) (disch := first | assumption | decide) only [fX12_cut_L146, zmx_1, zmx_2, zmx_ldI, zmx_ldJ, zmx_stI, zmx_stJ, zmx_stB, zmx_stZ, zmx_pI, zmx_pJ, zmp_zb2, zmp_bd, zmq_zb2, zmq_bd, zmp_if, zmq_if, zmp_some, zmq_some, zmp_none, zmq_none, zmp_let, zmq_let, zmp_gb, zmq_gb, zmb_zb2, zmb_zb2q, zmb_bd, zmb_bdq, zmx_let, zmx_letq, lm_fX12_cut_L179, lm_fX12_cut_L173, ih, hk7]
theorem lm_fX12_cut_L135 {A : zMem} (N : Nat) (k7 : Int32 → zMem → Option zMem) (hk7 : ∀ (y0 : Int32) (B : zMem), k7 y0 (zmx A B) = zmq A (k7 y0 B)) (x1 : Int32) (x3 : Int32) (x4 : Int64) (s0 : Int32) (B : zMem) : fX12_cut_L135 N k7 x1 x3 x4 s0 (zmx A B) = zmq A (fX12_cut_L135 N k7 x1 x3 x4 s0 B) := by
  unfold fX12_cut_L135
  simp (maxSteps := 2000000) (disch := first | assumption | decide) only [zmx_1, zmx_2, zmx_ldI, zmx_ldJ, zmx_stI, zmx_stJ, zmx_stB, zmx_stZ, zmx_pI, zmx_pJ, zmp_zb2, zmp_bd, zmq_zb2, zmq_bd, zmp_if, zmq_if, zmp_some, zmq_some, zmp_none, zmq_none, zmp_let, zmq_let, zmp_gb, zmq_gb, zmb_zb2, zmb_zb2q, zmb_bd, zmb_bdq, zmx_let, zmx_letq, lm_fX12_cut_L179, lm_fX12_cut_L146, hk7]
theorem lm_fX12_cut_L85 {A : zMem} (N : Nat) (k7 : Int32 → zMem → Option zMem) (hk7 : ∀ (y0 : Int32) (B : zMem), k7 y0 (zmx A B) = zmq A (k7 y0 B)) : ∀ (n : Nat) (z0 : Int32) (z1 : Int32) (z2 : Int64) (B : zMem), fX12_cut_L85 N k7 n z0 z1 z2 (zmx A B) = zmq A (fX12_cut_L85 N k7 n z0 z1 z2 B) := by
  intro n
  induction n with
  | zero => intros; rfl
  | succ n ih =>
    intro z0 z1 z2 B
    simp (maxSteps := 2000000) (disch := first | assumption | decide) only [fX12_cut_L85, zmx_1, zmx_2, zmx_ldI, zmx_ldJ, zmx_stI, zmx_stJ, zmx_stB, zmx_stZ, zmx_pI, zmx_pJ, zmp_zb2, zmp_bd, zmq_zb2, zmq_bd, zmp_if, zmq_if, zmp_some, zmq_some, zmp_none, zmq_none, zmp_let, zmq_let, zmp_gb, zmq_gb, zmb_zb2, zmb_zb2q, zmb_bd, zmb_bdq, zmx_let, zmx_letq, lm_fX12_at, lm_fX12_isLetter, lm_fX12_cut_L135, lm_fX12_cut_L118, lm_fX12_more, ih, hk7]
theorem lm_fX12_cut_L244 {A : zMem} (N : Nat) (k7 : Int32 → zMem → Option zMem) (hk7 : ∀ (y0 : Int32) (B : zMem), k7 y0 (zmx A B) = zmq A (k7 y0 B)) (k208 : Int32 → Int32 → Int32 → zMem → Option zMem) (hk208 : ∀ (y0 : Int32) (y1 : Int32) (y2 : Int32) (B : zMem), k208 y0 y1 y2 (zmx A B) = zmq A (k208 y0 y1 y2 B)) (x1 : Int32) (x3 : Int32) (x4 : Int32) (B : zMem) : fX12_cut_L244 N k7 k208 x1 x3 x4 (zmx A B) = zmq A (fX12_cut_L244 N k7 k208 x1 x3 x4 B) := by
  unfold fX12_cut_L244
  simp (maxSteps := 2000000) (disch := first | assumption | decide) only [zmx_1, zmx_2, zmx_ldI, zmx_ldJ, zmx_stI, zmx_stJ, zmx_stB, zmx_stZ, zmx_pI, zmx_pJ, zmp_zb2, zmp_bd, zmq_zb2, zmq_bd, zmp_if, zmq_if, zmp_some, zmq_some, zmp_none, zmq_none, zmp_let, zmq_let, zmp_gb, zmq_gb, zmb_zb2, zmb_zb2q, zmb_bd, zmb_bdq, zmx_let, zmx_letq, hk7, hk208]
theorem lm_fX12_cut_L261 {A : zMem} (N : Nat) (k7 : Int32 → zMem → Option zMem) (hk7 : ∀ (y0 : Int32) (B : zMem), k7 y0 (zmx A B) = zmq A (k7 y0 B)) (x1 : Int32) (x3 : Int32) (x4 : Int32) (s1 : Int32) (B : zMem) : fX12_cut_L261 N k7 x1 x3 x4 s1 (zmx A B) = zmq A (fX12_cut_L261 N k7 x1 x3 x4 s1 B) := by
  unfold fX12_cut_L261
  simp (maxSteps := 2000000) (disch := first | assumption | decide) only [zmx_1, zmx_2, zmx_ldI, zmx_ldJ, zmx_stI, zmx_stJ, zmx_stB, zmx_stZ, zmx_pI, zmx_pJ, zmp_zb2, zmp_bd, zmq_zb2, zmq_bd, zmp_if, zmq_if, zmp_some, zmq_some, zmp_none, zmq_none, zmp_let, zmq_let, zmp_gb, zmq_gb, zmb_zb2, zmb_zb2q, zmb_bd, zmb_bdq, zmx_let, zmx_letq, lm_fX12_token, lm_fX12_cut_L291, hk7]
theorem lm_fX12_cut_L208 {A : zMem} (N : Nat) (k7 : Int32 → zMem → Option zMem) (hk7 : ∀ (y0 : Int32) (B : zMem), k7 y0 (zmx A B) = zmq A (k7 y0 B)) : ∀ (n : Nat) (z0 : Int32) (z1 : Int32) (z2 : Int32) (B : zMem), fX12_cut_L208 N k7 n z0 z1 z2 (zmx A B) = zmq A (fX12_cut_L208 N k7 n z0 z1 z2 B) := by
  intro n
  induction n with
  | zero => intros; rfl
  | succ n ih =>
    intro z0 z1 z2 B
    simp (maxSteps := 2000000) (disch := first | assumption | decide) only [fX12_cut_L208, zmx_1, zmx_2, zmx_ldI, zmx_ldJ, zmx_stI, zmx_stJ, zmx_stB, zmx_stZ, zmx_pI, zmx_pJ, zmp_zb2, zmp_bd, zmq_zb2, zmq_bd, zmp_if, zmq_if, zmp_some, zmq_some, zmp_none, zmq_none, zmp_let, zmq_let, zmp_gb, zmq_gb, zmb_zb2, zmb_zb2q, zmb_bd, zmb_bdq, zmx_let, zmx_letq, lm_fX12_at, lm_fX12_isDigit, lm_fX12_cut_L261, lm_fX12_cut_L244, ih, hk7]
set_option maxRecDepth 16384 in
theorem lm_fX12_cut_L7 {A : zMem} (N : Nat) : ∀ (n : Nat) (z0 : Int32) (B : zMem), fX12_cut_L7 N n z0 (zmx A B) = zmq A (fX12_cut_L7 N n z0 B) := by
  intro n
  induction n with
  | zero => intros; rfl
  | succ n ih =>
    intro z0 B
    simp (maxSteps := 2000000) (disch := first | assumption | decide) only [fX12_cut_L7, zmx_1, zmx_2, zmx_ldI, zmx_ldJ, zmx_stI, zmx_stJ, zmx_stB, zmx_stZ, zmx_pI, zmx_pJ, zmp_zb2, zmp_bd, zmq_zb2, zmq_bd, zmp_if, zmq_if, zmp_some, zmq_some, zmp_none, zmq_none, zmp_let, zmq_let, zmp_gb, zmq_gb, zmb_zb2, zmb_zb2q, zmb_bd, zmb_bdq, zmx_let, zmx_letq, lm_fX12_at, lm_fX12_cut_L67, lm_fX12_isLetter, lm_fX12_isDigit, lm_fX12_sign, lm_fX12_cut_L291, lm_fX12_cut_L208, lm_fX12_cut_L85, lm_fX12_token, ih]
theorem lm_fX12_cut {A : zMem} (N : Nat) (B : zMem) : fX12_cut N (zmx A B) = zmq A (fX12_cut N B) := by
  unfold fX12_cut
  simp (maxSteps := 2000000) (disch := first | assumption | decide) only [zmx_1, zmx_2, zmx_ldI, zmx_ldJ, zmx_stI, zmx_stJ, zmx_stB, zmx_stZ, zmx_pI, zmx_pJ, zmp_zb2, zmp_bd, zmq_zb2, zmq_bd, zmp_if, zmq_if, zmp_some, zmq_some, zmp_none, zmq_none, zmp_let, zmq_let, zmp_gb, zmq_gb, zmb_zb2, zmb_zb2q, zmb_bd, zmb_bdq, zmx_let, zmx_letq, lm_fX12_cut_L7]
theorem lm_fX12_is {A : zMem} (x1 : Int32) (B : zMem) : fX12_is x1 (zmx A B) = zmp A (fX12_is x1 B) := by
  unfold fX12_is
  simp (maxSteps := 2000000) (disch := first | assumption | decide) only [zmx_1, zmx_2, zmx_ldI, zmx_ldJ, zmx_stI, zmx_stJ, zmx_stB, zmx_stZ, zmx_pI, zmx_pJ, zmp_zb2, zmp_bd, zmq_zb2, zmq_bd, zmp_if, zmq_if, zmp_some, zmq_some, zmp_none, zmq_none, zmp_let, zmq_let, zmp_gb, zmq_gb, zmb_zb2, zmb_zb2q, zmb_bd, zmb_bdq, zmx_let, zmx_letq]
theorem lm_fX12_fail {A : zMem} (x1 : Int32) (B : zMem) : fX12_fail x1 (zmx A B) = zmq A (fX12_fail x1 B) := by
  unfold fX12_fail
  simp (maxSteps := 2000000) (disch := first | assumption | decide) only [zmx_1, zmx_2, zmx_ldI, zmx_ldJ, zmx_stI, zmx_stJ, zmx_stB, zmx_stZ, zmx_pI, zmx_pJ, zmp_zb2, zmp_bd, zmq_zb2, zmq_bd, zmp_if, zmq_if, zmp_some, zmq_some, zmp_none, zmq_none, zmp_let, zmq_let, zmp_gb, zmq_gb, zmb_zb2, zmb_zb2q, zmb_bd, zmb_bdq, zmx_let, zmx_letq]
theorem lm_fX12_wrong_L46 {A : zMem} (x1 : Int32) (x3 : Int32) (B : zMem) : fX12_wrong_L46 x1 x3 (zmx A B) = zmq A (fX12_wrong_L46 x1 x3 B) := by
  unfold fX12_wrong_L46
  simp (maxSteps := 2000000) (disch := first | assumption | decide) only [zmx_1, zmx_2, zmx_ldI, zmx_ldJ, zmx_stI, zmx_stJ, zmx_stB, zmx_stZ, zmx_pI, zmx_pJ, zmp_zb2, zmp_bd, zmq_zb2, zmq_bd, zmp_if, zmq_if, zmp_some, zmq_some, zmp_none, zmq_none, zmp_let, zmq_let, zmp_gb, zmq_gb, zmb_zb2, zmb_zb2q, zmb_bd, zmb_bdq, zmx_let, zmx_letq]
theorem lm_fX12_wrong {A : zMem} (x1 : Int32) (x2 : Int32) (B : zMem) : fX12_wrong x1 x2 (zmx A B) = zmq A (fX12_wrong x1 x2 B) := by
  unfold fX12_wrong
  simp (maxSteps := 2000000) (disch := first | assumption | decide) only [zmx_1, zmx_2, zmx_ldI, zmx_ldJ, zmx_stI, zmx_stJ, zmx_stB, zmx_stZ, zmx_pI, zmx_pJ, zmp_zb2, zmp_bd, zmq_zb2, zmq_bd, zmp_if, zmq_if, zmp_some, zmq_some, zmp_none, zmq_none, zmp_let, zmq_let, zmp_gb, zmq_gb, zmb_zb2, zmb_zb2q, zmb_bd, zmb_bdq, zmx_let, zmx_letq, lm_fX12_wrong_L46]
theorem lm_fX12_next {A : zMem} (B : zMem) : fX12_next  (zmx A B) = zmq A (fX12_next  B) := by
  unfold fX12_next
  simp (maxSteps := 2000000) (disch := first | assumption | decide) only [zmx_1, zmx_2, zmx_ldI, zmx_ldJ, zmx_stI, zmx_stJ, zmx_stB, zmx_stZ, zmx_pI, zmx_pJ, zmp_zb2, zmp_bd, zmq_zb2, zmq_bd, zmp_if, zmq_if, zmp_some, zmq_some, zmp_none, zmq_none, zmp_let, zmq_let, zmp_gb, zmq_gb, zmb_zb2, zmb_zb2q, zmb_bd, zmb_bdq, zmx_let, zmx_letq, lm_fX12_fail]
theorem lm_fX12_must {A : zMem} (x1 : Int32) (B : zMem) : fX12_must x1 (zmx A B) = zmq A (fX12_must x1 B) := by
  unfold fX12_must
  simp (maxSteps := 2000000) (disch := first | assumption | decide) only [zmx_1, zmx_2, zmx_ldI, zmx_ldJ, zmx_stI, zmx_stJ, zmx_stB, zmx_stZ, zmx_pI, zmx_pJ, zmp_zb2, zmp_bd, zmq_zb2, zmq_bd, zmp_if, zmq_if, zmp_some, zmq_some, zmp_none, zmq_none, zmp_let, zmq_let, zmp_gb, zmq_gb, zmb_zb2, zmb_zb2q, zmb_bd, zmb_bdq, zmx_let, zmx_letq, lm_fX12_is, lm_fX12_fail, lm_fX12_next]
theorem lm_fX12_emit {A : zMem} (x1 : Int32) (x2 : Int32) (B : zMem) : fX12_emit x1 x2 (zmx A B) = zmq A (fX12_emit x1 x2 B) := by
  unfold fX12_emit
  simp (maxSteps := 2000000) (disch := first | assumption | decide) only [zmx_1, zmx_2, zmx_ldI, zmx_ldJ, zmx_stI, zmx_stJ, zmx_stB, zmx_stZ, zmx_pI, zmx_pJ, zmp_zb2, zmp_bd, zmq_zb2, zmq_bd, zmp_if, zmq_if, zmp_some, zmq_some, zmp_none, zmq_none, zmp_let, zmq_let, zmp_gb, zmq_gb, zmb_zb2, zmb_zb2q, zmb_bd, zmb_bdq, zmx_let, zmx_letq]
theorem lm_fX12_comesOut_L85 {A : zMem} (N : Nat) (k0 : Int32 → zMem → Option zMem) (hk0 : ∀ (y0 : Int32) (B : zMem), k0 y0 (zmx A B) = zmq A (k0 y0 B)) (x1 : Int32) (s1 : Int32) (B : zMem) : fX12_comesOut_L85 N k0 x1 s1 (zmx A B) = zmq A (fX12_comesOut_L85 N k0 x1 s1 B) := by
  unfold fX12_comesOut_L85
  simp (maxSteps := 2000000) (disch := first | assumption | decide) only [zmx_1, zmx_2, zmx_ldI, zmx_ldJ, zmx_stI, zmx_stJ, zmx_stB, zmx_stZ, zmx_pI, zmx_pJ, zmp_zb2, zmp_bd, zmq_zb2, zmq_bd, zmp_if, zmq_if, zmp_some, zmq_some, zmp_none, zmq_none, zmp_let, zmq_let, zmp_gb, zmq_gb, zmb_zb2, zmb_zb2q, zmb_bd, zmb_bdq, zmx_let, zmx_letq, lm_fX12_emit, hk0]
theorem lm_fX12_comesOut_L43 {A : zMem} (N : Nat) (k0 : Int32 → zMem → Option zMem) (hk0 : ∀ (y0 : Int32) (B : zMem), k0 y0 (zmx A B) = zmq A (k0 y0 B)) (x1 : Int32) (B : zMem) : fX12_comesOut_L43 N k0 x1 (zmx A B) = zmq A (fX12_comesOut_L43 N k0 x1 B) := by
  unfold fX12_comesOut_L43
  simp (maxSteps := 2000000) (disch := first | assumption | decide) only [zmx_1, zmx_2, zmx_ldI, zmx_ldJ, zmx_stI, zmx_stJ, zmx_stB, zmx_stZ, zmx_pI, zmx_pJ, zmp_zb2, zmp_bd, zmq_zb2, zmq_bd, zmp_if, zmq_if, zmp_some, zmq_some, zmp_none, zmq_none, zmp_let, zmq_let, zmp_gb, zmq_gb, zmb_zb2, zmb_zb2q, zmb_bd, zmb_bdq, zmx_let, zmx_letq, lm_fX12_comesOut_L85, hk0]
theorem lm_fX12_comesOut_L0 {A : zMem} (N : Nat) : ∀ (n : Nat) (z0 : Int32) (B : zMem), fX12_comesOut_L0 N n z0 (zmx A B) = zmq A (fX12_comesOut_L0 N n z0 B) := by
  intro n
  induction n with
  | zero => intros; rfl
  | succ n ih =>
    intro z0 B
    simp (maxSteps := 2000000) (disch := first | assumption | decide) only [fX12_comesOut_L0, zmx_1, zmx_2, zmx_ldI, zmx_ldJ, zmx_stI, zmx_stJ, zmx_stB, zmx_stZ, zmx_pI, zmx_pJ, zmp_zb2, zmp_bd, zmq_zb2, zmq_bd, zmp_if, zmq_if, zmp_some, zmq_some, zmp_none, zmq_none, zmp_let, zmq_let, zmp_gb, zmq_gb, zmb_zb2, zmb_zb2q, zmb_bd, zmb_bdq, zmx_let, zmx_letq, lm_fX12_comesOut_L43, ih]
theorem lm_fX12_comesOut {A : zMem} (N : Nat) (x1 : Int32) (B : zMem) : fX12_comesOut N x1 (zmx A B) = zmq A (fX12_comesOut N x1 B) := by
  unfold fX12_comesOut
  simp (maxSteps := 2000000) (disch := first | assumption | decide) only [zmx_1, zmx_2, zmx_ldI, zmx_ldJ, zmx_stI, zmx_stJ, zmx_stB, zmx_stZ, zmx_pI, zmx_pJ, zmp_zb2, zmp_bd, zmq_zb2, zmq_bd, zmp_if, zmq_if, zmp_some, zmq_some, zmp_none, zmq_none, zmp_let, zmq_let, zmp_gb, zmq_gb, zmb_zb2, zmb_zb2q, zmb_bd, zmb_bdq, zmx_let, zmx_letq, lm_fX12_comesOut_L0]
theorem lm_fX12_expression_L46 {A : zMem} (N : Nat) (k12 : Int32 → Int32 → zMem → Option zMem) (hk12 : ∀ (y0 : Int32) (y1 : Int32) (B : zMem), k12 y0 y1 (zmx A B) = zmq A (k12 y0 y1 B)) (x1 : Int32) (x2 : Int32) (B : zMem) : fX12_expression_L46 N k12 x1 x2 (zmx A B) = zmq A (fX12_expression_L46 N k12 x1 x2 B) := by
  unfold fX12_expression_L46
  simp (maxSteps := 2000000) (disch := first | assumption | decide) only [zmx_1, zmx_2, zmx_ldI, zmx_ldJ, zmx_stI, zmx_stJ, zmx_stB, zmx_stZ, zmx_pI, zmx_pJ, zmp_zb2, zmp_bd, zmq_zb2, zmq_bd, zmp_if, zmq_if, zmp_some, zmq_some, zmp_none, zmq_none, zmp_let, zmq_let, zmp_gb, zmq_gb, zmb_zb2, zmb_zb2q, zmb_bd, zmb_bdq, zmx_let, zmx_letq, lm_fX12_next, hk12]
theorem lm_fX12_expression_L299 {A : zMem} (N : Nat) (B : zMem) : fX12_expression_L299 N (zmx A B) = zmq A (fX12_expression_L299 N B) := by
  unfold fX12_expression_L299
  simp (maxSteps := 2000000) (disch := first | assumption | decide) only [zmx_1, zmx_2, zmx_ldI, zmx_ldJ, zmx_stI, zmx_stJ, zmx_stB, zmx_stZ, zmx_pI, zmx_pJ, zmp_zb2, zmp_bd, zmq_zb2, zmq_bd, zmp_if, zmq_if, zmp_some, zmq_some, zmp_none, zmq_none, zmp_let, zmq_let, zmp_gb, zmq_gb, zmb_zb2, zmb_zb2q, zmb_bd, zmb_bdq, zmx_let, zmx_letq, lm_fX12_comesOut]
theorem lm_fX12_expression_L329 {A : zMem} (N : Nat) (k12 : Int32 → Int32 → zMem → Option zMem) (hk12 : ∀ (y0 : Int32) (y1 : Int32) (B : zMem), k12 y0 y1 (zmx A B) = zmq A (k12 y0 y1 B)) (x1 : Int32) (x2 : Int32) (x4 : Int32) (s1 : Int32) (B : zMem) : fX12_expression_L329 N k12 x1 x2 x4 s1 (zmx A B) = zmq A (fX12_expression_L329 N k12 x1 x2 x4 s1 B) := by
  unfold fX12_expression_L329
  simp (maxSteps := 2000000) (disch := first | assumption | decide) only [zmx_1, zmx_2, zmx_ldI, zmx_ldJ, zmx_stI, zmx_stJ, zmx_stB, zmx_stZ, zmx_pI, zmx_pJ, zmp_zb2, zmp_bd, zmq_zb2, zmq_bd, zmp_if, zmq_if, zmp_some, zmq_some, zmp_none, zmq_none, zmp_let, zmq_let, zmp_gb, zmq_gb, zmb_zb2, zmb_zb2q, zmb_bd, zmb_bdq, zmx_let, zmx_letq, lm_fX12_comesOut, lm_fX12_next, hk12]
theorem lm_fX12_expression_L281 {A : zMem} (N : Nat) (k12 : Int32 → Int32 → zMem → Option zMem) (hk12 : ∀ (y0 : Int32) (y1 : Int32) (B : zMem), k12 y0 y1 (zmx A B) = zmq A (k12 y0 y1 B)) (x1 : Int32) (s0 : Int32) (B : zMem) : fX12_expression_L281 N k12 x1 s0 (zmx A B) = zmq A (fX12_expression_L281 N k12 x1 s0 B) := by
  unfold fX12_expression_L281
  simp (maxSteps := 2000000) (disch := first | assumption | decide) only [zmx_1, zmx_2, zmx_ldI, zmx_ldJ, zmx_stI, zmx_stJ, zmx_stB, zmx_stZ, zmx_pI, zmx_pJ, zmp_zb2, zmp_bd, zmq_zb2, zmq_bd, zmp_if, zmq_if, zmp_some, zmq_some, zmp_none, zmq_none, zmp_let, zmq_let, zmp_gb, zmq_gb, zmb_zb2, zmb_zb2q, zmb_bd, zmb_bdq, zmx_let, zmx_letq, lm_fX12_expression_L299, lm_fX12_fail, lm_fX12_expression_L329, hk12]
theorem lm_fX12_expression_L276 {A : zMem} (N : Nat) (k12 : Int32 → Int32 → zMem → Option zMem) (hk12 : ∀ (y0 : Int32) (y1 : Int32) (B : zMem), k12 y0 y1 (zmx A B) = zmq A (k12 y0 y1 B)) (x1 : Int32) (B : zMem) : fX12_expression_L276 N k12 x1 (zmx A B) = zmq A (fX12_expression_L276 N k12 x1 B) := by
  unfold fX12_expression_L276
  simp (maxSteps := 2000000) (disch := first | assumption | decide) only [zmx_1, zmx_2, zmx_ldI, zmx_ldJ, zmx_stI, zmx_stJ, zmx_stB, zmx_stZ, zmx_pI, zmx_pJ, zmp_zb2, zmp_bd, zmq_zb2, zmq_bd, zmp_if, zmq_if, zmp_some, zmq_some, zmp_none, zmq_none, zmp_let, zmq_let, zmp_gb, zmq_gb, zmb_zb2, zmb_zb2q, zmb_bd, zmb_bdq, zmx_let, zmx_letq, lm_fX12_expression_L281, hk12]
theorem lm_fX12_expression_L249 {A : zMem} (N : Nat) (k12 : Int32 → Int32 → zMem → Option zMem) (hk12 : ∀ (y0 : Int32) (y1 : Int32) (B : zMem), k12 y0 y1 (zmx A B) = zmq A (k12 y0 y1 B)) (x1 : Int32) (B : zMem) : fX12_expression_L249 N k12 x1 (zmx A B) = zmq A (fX12_expression_L249 N k12 x1 B) := by
  unfold fX12_expression_L249
  simp (maxSteps := 2000000) (disch := first | assumption | decide) only [zmx_1, zmx_2, zmx_ldI, zmx_ldJ, zmx_stI, zmx_stJ, zmx_stB, zmx_stZ, zmx_pI, zmx_pJ, zmp_zb2, zmp_bd, zmq_zb2, zmq_bd, zmp_if, zmq_if, zmp_some, zmq_some, zmp_none, zmq_none, zmp_let, zmq_let, zmp_gb, zmq_gb, zmb_zb2, zmb_zb2q, zmb_bd, zmb_bdq, zmx_let, zmx_letq, lm_fX12_is, lm_fX12_expression_L281, lm_fX12_expression_L276, hk12]
theorem lm_fX12_expression_L200 {A : zMem} (N : Nat) (k12 : Int32 → Int32 → zMem → Option zMem) (hk12 : ∀ (y0 : Int32) (y1 : Int32) (B : zMem), k12 y0 y1 (zmx A B) = zmq A (k12 y0 y1 B)) : ∀ (n : Nat) (z0 : Int32) (B : zMem), fX12_expression_L200 N k12 n z0 (zmx A B) = zmq A (fX12_expression_L200 N k12 n z0 B) := by
  intro n
  induction n with
  | zero => intros; rfl
  | succ n ih =>
    intro z0 B
    simp (maxSteps := 2000000) (disch := first | assumption | decide) only [fX12_expression_L200, zmx_1, zmx_2, zmx_ldI, zmx_ldJ, zmx_stI, zmx_stJ, zmx_stB, zmx_stZ, zmx_pI, zmx_pJ, zmp_zb2, zmp_bd, zmq_zb2, zmq_bd, zmp_if, zmq_if, zmp_some, zmq_some, zmp_none, zmq_none, zmp_let, zmq_let, zmp_gb, zmq_gb, zmb_zb2, zmb_zb2q, zmb_bd, zmb_bdq, zmx_let, zmx_letq, lm_fX12_is, lm_fX12_expression_L249, lm_fX12_comesOut, lm_fX12_next, ih, hk12]
theorem lm_fX12_expression_L196 {A : zMem} (N : Nat) (k12 : Int32 → Int32 → zMem → Option zMem) (hk12 : ∀ (y0 : Int32) (y1 : Int32) (B : zMem), k12 y0 y1 (zmx A B) = zmq A (k12 y0 y1 B)) (x1 : Int32) (B : zMem) : fX12_expression_L196 N k12 x1 (zmx A B) = zmq A (fX12_expression_L196 N k12 x1 B) := by
  unfold fX12_expression_L196
  simp (maxSteps := 2000000) (disch := first | assumption | decide) only [zmx_1, zmx_2, zmx_ldI, zmx_ldJ, zmx_stI, zmx_stJ, zmx_stB, zmx_stZ, zmx_pI, zmx_pJ, zmp_zb2, zmp_bd, zmq_zb2, zmq_bd, zmp_if, zmq_if, zmp_some, zmq_some, zmp_none, zmq_none, zmp_let, zmq_let, zmp_gb, zmq_gb, zmb_zb2, zmb_zb2q, zmb_bd, zmb_bdq, zmx_let, zmx_letq, lm_fX12_next, lm_fX12_expression_L200, hk12]
theorem lm_fX12_expression_L150 {A : zMem} (N : Nat) (k12 : Int32 → Int32 → zMem → Option zMem) (hk12 : ∀ (y0 : Int32) (y1 : Int32) (B : zMem), k12 y0 y1 (zmx A B) = zmq A (k12 y0 y1 B)) (x1 : Int32) (x3 : Int32) (B : zMem) : fX12_expression_L150 N k12 x1 x3 (zmx A B) = zmq A (fX12_expression_L150 N k12 x1 x3 B) := by
  unfold fX12_expression_L150
  simp (maxSteps := 2000000) (disch := first | assumption | decide) only [zmx_1, zmx_2, zmx_ldI, zmx_ldJ, zmx_stI, zmx_stJ, zmx_stB, zmx_stZ, zmx_pI, zmx_pJ, zmp_zb2, zmp_bd, zmq_zb2, zmq_bd, zmp_if, zmq_if, zmp_some, zmq_some, zmp_none, zmq_none, zmp_let, zmq_let, zmp_gb, zmq_gb, zmb_zb2, zmb_zb2q, zmb_bd, zmb_bdq, zmx_let, zmx_letq, lm_fX12_emit, lm_fX12_expression_L196, hk12]
theorem lm_fX12_expression_L132 {A : zMem} (N : Nat) (k12 : Int32 → Int32 → zMem → Option zMem) (hk12 : ∀ (y0 : Int32) (y1 : Int32) (B : zMem), k12 y0 y1 (zmx A B) = zmq A (k12 y0 y1 B)) (x1 : Int32) (s0 : Int32) (B : zMem) : fX12_expression_L132 N k12 x1 s0 (zmx A B) = zmq A (fX12_expression_L132 N k12 x1 s0 B) := by
  unfold fX12_expression_L132
  simp (maxSteps := 2000000) (disch := first | assumption | decide) only [zmx_1, zmx_2, zmx_ldI, zmx_ldJ, zmx_stI, zmx_stJ, zmx_stB, zmx_stZ, zmx_pI, zmx_pJ, zmp_zb2, zmp_bd, zmq_zb2, zmq_bd, zmp_if, zmq_if, zmp_some, zmq_some, zmp_none, zmq_none, zmp_let, zmq_let, zmp_gb, zmq_gb, zmb_zb2, zmb_zb2q, zmb_bd, zmb_bdq, zmx_let, zmx_letq, lm_fX12_is, lm_fX12_fail, lm_fX12_expression_L150, hk12]
theorem lm_fX12_expression_L131 {A : zMem} (N : Nat) (k12 : Int32 → Int32 → zMem → Option zMem) (hk12 : ∀ (y0 : Int32) (y1 : Int32) (B : zMem), k12 y0 y1 (zmx A B) = zmq A (k12 y0 y1 B)) (x1 : Int32) (B : zMem) : fX12_expression_L131 N k12 x1 (zmx A B) = zmq A (fX12_expression_L131 N k12 x1 B) := by
  unfold fX12_expression_L131
  simp (maxSteps := 2000000) (disch := first | assumption | decide) only [zmx_1, zmx_2, zmx_ldI, zmx_ldJ, zmx_stI, zmx_stJ, zmx_stB, zmx_stZ, zmx_pI, zmx_pJ, zmp_zb2, zmp_bd, zmq_zb2, zmq_bd, zmp_if, zmq_if, zmp_some, zmq_some, zmp_none, zmq_none, zmp_let, zmq_let, zmp_gb, zmq_gb, zmb_zb2, zmb_zb2q, zmb_bd, zmb_bdq, zmx_let, zmx_letq, lm_fX12_expression_L132, hk12]
theorem lm_fX12_expression_L12 {A : zMem} (N : Nat) : ∀ (n : Nat) (z0 : Int32) (z1 : Int32) (B : zMem), fX12_expression_L12 N n z0 z1 (zmx A B) = zmq A (fX12_expression_L12 N n z0 z1 B) := by
  intro n
  induction n with
  | zero => intros; rfl
  | succ n ih =>
    intro z0 z1 B
    simp (maxSteps := 2000000) (disch := first | assumption | decide) only [fX12_expression_L12, zmx_1, zmx_2, zmx_ldI, zmx_ldJ, zmx_stI, zmx_stJ, zmx_stB, zmx_stZ, zmx_pI, zmx_pJ, zmp_zb2, zmp_bd, zmq_zb2, zmq_bd, zmp_if, zmq_if, zmp_some, zmq_some, zmp_none, zmq_none, zmp_let, zmq_let, zmp_gb, zmq_gb, zmb_zb2, zmb_zb2q, zmb_bd, zmb_bdq, zmx_let, zmx_letq, lm_fX12_is, lm_fX12_expression_L131, lm_fX12_expression_L132, lm_fX12_fail, lm_fX12_expression_L46, ih]
theorem lm_fX12_expression {A : zMem} (N : Nat) (B : zMem) : fX12_expression N (zmx A B) = zmq A (fX12_expression N B) := by
  unfold fX12_expression
  simp (maxSteps := 2000000) (disch := first | assumption | decide) only [zmx_1, zmx_2, zmx_ldI, zmx_ldJ, zmx_stI, zmx_stJ, zmx_stB, zmx_stZ, zmx_pI, zmx_pJ, zmp_zb2, zmp_bd, zmq_zb2, zmq_bd, zmp_if, zmq_if, zmp_some, zmq_some, zmp_none, zmq_none, zmp_let, zmq_let, zmp_gb, zmq_gb, zmb_zb2, zmb_zb2q, zmb_bd, zmb_bdq, zmx_let, zmx_letq, lm_fX12_expression_L12]
theorem lm_fX12_relation_L54 {A : zMem} (N : Nat) (x1 : Int32) (x2 : Int32) (B : zMem) : fX12_relation_L54 N x1 x2 (zmx A B) = zmq A (fX12_relation_L54 N x1 x2 B) := by
  unfold fX12_relation_L54
  simp (maxSteps := 2000000) (disch := first | assumption | decide) only [zmx_1, zmx_2, zmx_ldI, zmx_ldJ, zmx_stI, zmx_stJ, zmx_stB, zmx_stZ, zmx_pI, zmx_pJ, zmp_zb2, zmp_bd, zmq_zb2, zmq_bd, zmp_if, zmq_if, zmp_some, zmq_some, zmp_none, zmq_none, zmp_let, zmq_let, zmp_gb, zmq_gb, zmb_zb2, zmb_zb2q, zmb_bd, zmb_bdq, zmx_let, zmx_letq, lm_fX12_next, lm_fX12_expression]
theorem lm_fX12_relation_L49 {A : zMem} (N : Nat) (x1 : Int32) (x2 : Int32) (B : zMem) : fX12_relation_L49 N x1 x2 (zmx A B) = zmq A (fX12_relation_L49 N x1 x2 B) := by
  unfold fX12_relation_L49
  simp (maxSteps := 2000000) (disch := first | assumption | decide) only [zmx_1, zmx_2, zmx_ldI, zmx_ldJ, zmx_stI, zmx_stJ, zmx_stB, zmx_stZ, zmx_pI, zmx_pJ, zmp_zb2, zmp_bd, zmq_zb2, zmq_bd, zmp_if, zmq_if, zmp_some, zmq_some, zmp_none, zmq_none, zmp_let, zmq_let, zmp_gb, zmq_gb, zmb_zb2, zmb_zb2q, zmb_bd, zmb_bdq, zmx_let, zmx_letq, lm_fX12_fail, lm_fX12_relation_L54]
theorem lm_fX12_relation_L32 {A : zMem} (N : Nat) (x1 : Int32) (s0 : Int32) (B : zMem) : fX12_relation_L32 N x1 s0 (zmx A B) = zmq A (fX12_relation_L32 N x1 s0 B) := by
  unfold fX12_relation_L32
  simp (maxSteps := 2000000) (disch := first | assumption | decide) only [zmx_1, zmx_2, zmx_ldI, zmx_ldJ, zmx_stI, zmx_stJ, zmx_stB, zmx_stZ, zmx_pI, zmx_pJ, zmp_zb2, zmp_bd, zmq_zb2, zmq_bd, zmp_if, zmq_if, zmp_some, zmq_some, zmp_none, zmq_none, zmp_let, zmq_let, zmp_gb, zmq_gb, zmb_zb2, zmb_zb2q, zmb_bd, zmb_bdq, zmx_let, zmx_letq, lm_fX12_relation_L49, lm_fX12_relation_L54]
theorem lm_fX12_relation {A : zMem} (N : Nat) (B : zMem) : fX12_relation N (zmx A B) = zmq A (fX12_relation N B) := by
  unfold fX12_relation
  simp (maxSteps := 2000000) (disch := first | assumption | decide) only [zmx_1, zmx_2, zmx_ldI, zmx_ldJ, zmx_stI, zmx_stJ, zmx_stB, zmx_stZ, zmx_pI, zmx_pJ, zmp_zb2, zmp_bd, zmq_zb2, zmq_bd, zmp_if, zmq_if, zmp_some, zmq_some, zmp_none, zmq_none, zmp_let, zmq_let, zmp_gb, zmq_gb, zmb_zb2, zmb_zb2q, zmb_bd, zmb_bdq, zmx_let, zmx_letq, lm_fX12_expression, lm_fX12_relation_L32]
theorem lm_fX12_tellRule_L323 {A : zMem} (N : Nat) (x2 : Int32) (B : zMem) : fX12_tellRule_L323 N x2 (zmx A B) = zmq A (fX12_tellRule_L323 N x2 B) := by
  unfold fX12_tellRule_L323
  simp (maxSteps := 2000000) (disch := first | assumption | decide) only [zmx_1, zmx_2, zmx_ldI, zmx_ldJ, zmx_stI, zmx_stJ, zmx_stB, zmx_stZ, zmx_pI, zmx_pJ, zmp_zb2, zmp_bd, zmq_zb2, zmq_bd, zmp_if, zmq_if, zmp_some, zmq_some, zmp_none, zmq_none, zmp_let, zmq_let, zmp_gb, zmq_gb, zmb_zb2, zmb_zb2q, zmb_bd, zmb_bdq, zmx_let, zmx_letq, lm_fX12_must]
theorem lm_fX12_tellRule_L303 {A : zMem} (N : Nat) : ∀ (n : Nat) (z0 : Int32) (B : zMem), fX12_tellRule_L303 N n z0 (zmx A B) = zmq A (fX12_tellRule_L303 N n z0 B) := by
  intro n
  induction n with
  | zero => intros; rfl
  | succ n ih =>
    intro z0 B
    simp (maxSteps := 2000000) (disch := first | assumption | decide) only [fX12_tellRule_L303, zmx_1, zmx_2, zmx_ldI, zmx_ldJ, zmx_stI, zmx_stJ, zmx_stB, zmx_stZ, zmx_pI, zmx_pJ, zmp_zb2, zmp_bd, zmq_zb2, zmq_bd, zmp_if, zmq_if, zmp_some, zmq_some, zmp_none, zmq_none, zmp_let, zmq_let, zmp_gb, zmq_gb, zmb_zb2, zmb_zb2q, zmb_bd, zmb_bdq, zmx_let, zmx_letq, lm_fX12_is, lm_fX12_tellRule_L323, lm_fX12_next, lm_fX12_relation, ih]
theorem lm_fX12_tellRule_L295 {A : zMem} (N : Nat) (x2 : Int32) (x3 : Int32) (B : zMem) : fX12_tellRule_L295 N x2 x3 (zmx A B) = zmq A (fX12_tellRule_L295 N x2 x3 B) := by
  unfold fX12_tellRule_L295
  simp (maxSteps := 2000000) (disch := first | assumption | decide) only [zmx_1, zmx_2, zmx_ldI, zmx_ldJ, zmx_stI, zmx_stJ, zmx_stB, zmx_stZ, zmx_pI, zmx_pJ, zmp_zb2, zmp_bd, zmq_zb2, zmq_bd, zmp_if, zmq_if, zmp_some, zmq_some, zmp_none, zmq_none, zmp_let, zmq_let, zmp_gb, zmq_gb, zmb_zb2, zmb_zb2q, zmb_bd, zmb_bdq, zmx_let, zmx_letq, lm_fX12_tellRule_L323, lm_fX12_relation, lm_fX12_tellRule_L303]
theorem lm_fX12_tellRule_L289 {A : zMem} (N : Nat) (x2 : Int32) (x3 : Int32) (B : zMem) : fX12_tellRule_L289 N x2 x3 (zmx A B) = zmq A (fX12_tellRule_L289 N x2 x3 B) := by
  unfold fX12_tellRule_L289
  simp (maxSteps := 2000000) (disch := first | assumption | decide) only [zmx_1, zmx_2, zmx_ldI, zmx_ldJ, zmx_stI, zmx_stJ, zmx_stB, zmx_stZ, zmx_pI, zmx_pJ, zmp_zb2, zmp_bd, zmq_zb2, zmq_bd, zmp_if, zmq_if, zmp_some, zmq_some, zmp_none, zmq_none, zmp_let, zmq_let, zmp_gb, zmq_gb, zmb_zb2, zmb_zb2q, zmb_bd, zmb_bdq, zmx_let, zmx_letq, lm_fX12_must, lm_fX12_tellRule_L295]
theorem lm_fX12_tellRule_L254 {A : zMem} (N : Nat) (x2 : Int32) (B : zMem) : fX12_tellRule_L254 N x2 (zmx A B) = zmq A (fX12_tellRule_L254 N x2 B) := by
  unfold fX12_tellRule_L254
  simp (maxSteps := 2000000) (disch := first | assumption | decide) only [zmx_1, zmx_2, zmx_ldI, zmx_ldJ, zmx_stI, zmx_stJ, zmx_stB, zmx_stZ, zmx_pI, zmx_pJ, zmp_zb2, zmp_bd, zmq_zb2, zmq_bd, zmp_if, zmq_if, zmp_some, zmq_some, zmp_none, zmq_none, zmp_let, zmq_let, zmp_gb, zmq_gb, zmb_zb2, zmb_zb2q, zmb_bd, zmb_bdq, zmx_let, zmx_letq, lm_fX12_is, lm_fX12_tellRule_L295, lm_fX12_tellRule_L289]
theorem lm_fX12_tellRule_L248 {A : zMem} (N : Nat) (x2 : Int32) (x3 : Int32) (B : zMem) : fX12_tellRule_L248 N x2 x3 (zmx A B) = zmq A (fX12_tellRule_L248 N x2 x3 B) := by
  unfold fX12_tellRule_L248
  simp (maxSteps := 2000000) (disch := first | assumption | decide) only [zmx_1, zmx_2, zmx_ldI, zmx_ldJ, zmx_stI, zmx_stJ, zmx_stB, zmx_stZ, zmx_pI, zmx_pJ, zmp_zb2, zmp_bd, zmq_zb2, zmq_bd, zmp_if, zmq_if, zmp_some, zmq_some, zmp_none, zmq_none, zmp_let, zmq_let, zmp_gb, zmq_gb, zmb_zb2, zmb_zb2q, zmb_bd, zmb_bdq, zmx_let, zmx_letq, lm_fX12_wrong, lm_fX12_tellRule_L254]
theorem lm_fX12_tellRule_L181 {A : zMem} (N : Nat) (x2 : Int32) (B : zMem) : fX12_tellRule_L181 N x2 (zmx A B) = zmq A (fX12_tellRule_L181 N x2 B) := by
  unfold fX12_tellRule_L181
  simp (maxSteps := 2000000) (disch := first | assumption | decide) only [zmx_1, zmx_2, zmx_ldI, zmx_ldJ, zmx_stI, zmx_stJ, zmx_stB, zmx_stZ, zmx_pI, zmx_pJ, zmp_zb2, zmp_bd, zmq_zb2, zmq_bd, zmp_if, zmq_if, zmp_some, zmq_some, zmp_none, zmq_none, zmp_let, zmq_let, zmp_gb, zmq_gb, zmb_zb2, zmb_zb2q, zmb_bd, zmb_bdq, zmx_let, zmx_letq, lm_fX12_must, lm_fX12_tellRule_L254, lm_fX12_tellRule_L248]
theorem lm_fX12_tellRule_L151 {A : zMem} (N : Nat) (x2 : Int32) (B : zMem) : fX12_tellRule_L151 N x2 (zmx A B) = zmq A (fX12_tellRule_L151 N x2 B) := by
  unfold fX12_tellRule_L151
  simp (maxSteps := 2000000) (disch := first | assumption | decide) only [zmx_1, zmx_2, zmx_ldI, zmx_ldJ, zmx_stI, zmx_stJ, zmx_stB, zmx_stZ, zmx_pI, zmx_pJ, zmp_zb2, zmp_bd, zmq_zb2, zmq_bd, zmp_if, zmq_if, zmp_some, zmq_some, zmp_none, zmq_none, zmp_let, zmq_let, zmp_gb, zmq_gb, zmb_zb2, zmb_zb2q, zmb_bd, zmb_bdq, zmx_let, zmx_letq, lm_fX12_tellRule_L181, lm_fX12_tellRule_L254]
theorem lm_fX12_tellRule_L73 {A : zMem} (N : Nat) (B : zMem) : fX12_tellRule_L73 N (zmx A B) = zmq A (fX12_tellRule_L73 N B) := by
  unfold fX12_tellRule_L73
  simp (maxSteps := 2000000) (disch := first | assumption | decide) only [zmx_1, zmx_2, zmx_ldI, zmx_ldJ, zmx_stI, zmx_stJ, zmx_stB, zmx_stZ, zmx_pI, zmx_pJ, zmp_zb2, zmp_bd, zmq_zb2, zmq_bd, zmp_if, zmq_if, zmp_some, zmq_some, zmp_none, zmq_none, zmp_let, zmq_let, zmp_gb, zmq_gb, zmb_zb2, zmb_zb2q, zmb_bd, zmb_bdq, zmx_let, zmx_letq, lm_fX12_next, lm_fX12_expression, lm_fX12_tellRule_L151]
theorem lm_fX12_tellRule_L41 {A : zMem} (N : Nat) (s0 : Int32) (B : zMem) : fX12_tellRule_L41 N s0 (zmx A B) = zmq A (fX12_tellRule_L41 N s0 B) := by
  unfold fX12_tellRule_L41
  simp (maxSteps := 2000000) (disch := first | assumption | decide) only [zmx_1, zmx_2, zmx_ldI, zmx_ldJ, zmx_stI, zmx_stJ, zmx_stB, zmx_stZ, zmx_pI, zmx_pJ, zmp_zb2, zmp_bd, zmq_zb2, zmq_bd, zmp_if, zmq_if, zmp_some, zmq_some, zmp_none, zmq_none, zmp_let, zmq_let, zmp_gb, zmq_gb, zmb_zb2, zmb_zb2q, zmb_bd, zmb_bdq, zmx_let, zmx_letq, lm_fX12_fail, lm_fX12_tellRule_L73]
theorem lm_fX12_tellRule_L36 {A : zMem} (N : Nat) (B : zMem) : fX12_tellRule_L36 N (zmx A B) = zmq A (fX12_tellRule_L36 N B) := by
  unfold fX12_tellRule_L36
  simp (maxSteps := 2000000) (disch := first | assumption | decide) only [zmx_1, zmx_2, zmx_ldI, zmx_ldJ, zmx_stI, zmx_stJ, zmx_stB, zmx_stZ, zmx_pI, zmx_pJ, zmp_zb2, zmp_bd, zmq_zb2, zmq_bd, zmp_if, zmq_if, zmp_some, zmq_some, zmp_none, zmq_none, zmp_let, zmq_let, zmp_gb, zmq_gb, zmb_zb2, zmb_zb2q, zmb_bd, zmb_bdq, zmx_let, zmx_letq, lm_fX12_tellRule_L41]
theorem lm_fX12_tellRule {A : zMem} (N : Nat) (B : zMem) : fX12_tellRule N (zmx A B) = zmq A (fX12_tellRule N B) := by
  unfold fX12_tellRule
  simp (maxSteps := 2000000) (disch := first | assumption | decide) only [zmx_1, zmx_2, zmx_ldI, zmx_ldJ, zmx_stI, zmx_stJ, zmx_stB, zmx_stZ, zmx_pI, zmx_pJ, zmp_zb2, zmp_bd, zmq_zb2, zmq_bd, zmp_if, zmq_if, zmp_some, zmq_some, zmp_none, zmq_none, zmp_let, zmq_let, zmp_gb, zmq_gb, zmb_zb2, zmb_zb2q, zmb_bd, zmb_bdq, zmx_let, zmx_letq, lm_fX12_is, lm_fX12_tellRule_L41, lm_fX12_tellRule_L36]
theorem lm_fX12_read_L159 {A : zMem} (N : Nat) (s1 : Int32) (B : zMem) : fX12_read_L159 N s1 (zmx A B) = zmp A (fX12_read_L159 N s1 B) := by
  unfold fX12_read_L159
  simp (maxSteps := 2000000) (disch := first | assumption | decide) only [zmx_1, zmx_2, zmx_ldI, zmx_ldJ, zmx_stI, zmx_stJ, zmx_stB, zmx_stZ, zmx_pI, zmx_pJ, zmp_zb2, zmp_bd, zmq_zb2, zmq_bd, zmp_if, zmq_if, zmp_some, zmq_some, zmp_none, zmq_none, zmp_let, zmq_let, zmp_gb, zmq_gb, zmb_zb2, zmb_zb2q, zmb_bd, zmb_bdq, zmx_let, zmx_letq]
theorem lm_fX12_read_L129 {A : zMem} (N : Nat) (B : zMem) : fX12_read_L129 N (zmx A B) = zmp A (fX12_read_L129 N B) := by
  unfold fX12_read_L129
  simp (maxSteps := 2000000) (disch := first | assumption | decide) only [zmx_1, zmx_2, zmx_ldI, zmx_ldJ, zmx_stI, zmx_stJ, zmx_stB, zmx_stZ, zmx_pI, zmx_pJ, zmp_zb2, zmp_bd, zmq_zb2, zmq_bd, zmp_if, zmq_if, zmp_some, zmq_some, zmp_none, zmq_none, zmp_let, zmq_let, zmp_gb, zmq_gb, zmb_zb2, zmb_zb2q, zmb_bd, zmb_bdq, zmx_let, zmx_letq, lm_fX12_read_L159]
set_option maxRecDepth 16384 in
theorem lm_fX12_read_L107 {A : zMem} (N : Nat) : ∀ (n : Nat) (B : zMem), fX12_read_L107 N n  (zmx A B) = zmp A (fX12_read_L107 N n  B) := by
  intro n
  induction n with
  | zero => intros; rfl
  | succ n ih =>
    intro  B
    simp (maxSteps := 2000000) (disch := first | assumption | decide) only [fX12_read_L107, zmx_1, zmx_2, zmx_ldI, zmx_ldJ, zmx_stI, zmx_stJ, zmx_stB, zmx_stZ, zmx_pI, zmx_pJ, zmp_zb2, zmp_bd, zmq_zb2, zmq_bd, zmp_if, zmq_if, zmp_some, zmq_some, zmp_none, zmq_none, zmp_let, zmq_let, zmp_gb, zmq_gb, zmb_zb2, zmb_zb2q, zmb_bd, zmb_bdq, zmx_let, zmx_letq, lm_fX12_is, lm_fX12_tellRule, lm_fX12_read_L129, ih]
theorem lm_fX12_read_L10 {A : zMem} (N : Nat) : ∀ (n : Nat) (z0 : Int32) (B : zMem), fX12_read_L10 N n z0 (zmx A B) = zmp A (fX12_read_L10 N n z0 B) := by
  intro n
  induction n with
  | zero => intros; rfl
  | succ n ih =>
    intro z0 B
    simp (maxSteps := 2000000) (disch := first | assumption | decide) only [fX12_read_L10, zmx_1, zmx_2, zmx_ldI, zmx_ldJ, zmx_stI, zmx_stJ, zmx_stB, zmx_stZ, zmx_pI, zmx_pJ, zmp_zb2, zmp_bd, zmq_zb2, zmq_bd, zmp_if, zmq_if, zmp_some, zmq_some, zmp_none, zmq_none, zmp_let, zmq_let, zmp_gb, zmq_gb, zmb_zb2, zmb_zb2q, zmb_bd, zmb_bdq, zmx_let, zmx_letq, lm_fX12_cut, lm_fX12_read_L107, ih]
theorem lm_fX12_read {A : zMem} (N : Nat) (B : zMem) : fX12_read N (zmx A B) = zmp A (fX12_read N B) := by
  unfold fX12_read
  simp (maxSteps := 2000000) (disch := first | assumption | decide) only [zmx_1, zmx_2, zmx_ldI, zmx_ldJ, zmx_stI, zmx_stJ, zmx_stB, zmx_stZ, zmx_pI, zmx_pJ, zmp_zb2, zmp_bd, zmq_zb2, zmq_bd, zmp_if, zmq_if, zmp_some, zmq_some, zmp_none, zmq_none, zmp_let, zmq_let, zmp_gb, zmq_gb, zmb_zb2, zmb_zb2q, zmb_bd, zmb_bdq, zmx_let, zmx_letq, lm_fX12_read_L10]
theorem lm_fX12_place {A : zMem} (B : zMem) : fX12_place  (zmx A B) = zmp A (fX12_place  B) := by
  unfold fX12_place
  simp (maxSteps := 2000000) (disch := first | assumption | decide) only [zmx_1, zmx_2, zmx_ldI, zmx_ldJ, zmx_stI, zmx_stJ, zmx_stB, zmx_stZ, zmx_pI, zmx_pJ, zmp_zb2, zmp_bd, zmq_zb2, zmq_bd, zmp_if, zmq_if, zmp_some, zmq_some, zmp_none, zmq_none, zmp_let, zmq_let, zmp_gb, zmq_gb, zmb_zb2, zmb_zb2q, zmb_bd, zmb_bdq, zmx_let, zmx_letq]
theorem lm_fX12_isVolunteer {A : zMem} (x1 : Int32) (B : zMem) : fX12_isVolunteer x1 (zmx A B) = zmp A (fX12_isVolunteer x1 B) := by
  unfold fX12_isVolunteer
  simp (maxSteps := 2000000) (disch := first | assumption | decide) only [zmx_1, zmx_2, zmx_ldI, zmx_ldJ, zmx_stI, zmx_stJ, zmx_stB, zmx_stZ, zmx_pI, zmx_pJ, zmp_zb2, zmp_bd, zmq_zb2, zmq_bd, zmp_if, zmq_if, zmp_some, zmq_some, zmp_none, zmq_none, zmp_let, zmq_let, zmp_gb, zmq_gb, zmb_zb2, zmb_zb2q, zmb_bd, zmb_bdq, zmx_let, zmx_letq]
theorem lm_fX12_isNight {A : zMem} (x0 : Int32) (B : zMem) : fX12_isNight x0 (zmx A B) = zmp A (fX12_isNight x0 B) := by
  unfold fX12_isNight
  simp (maxSteps := 2000000) (disch := first | assumption | decide) only [zmx_1, zmx_2, zmx_ldI, zmx_ldJ, zmx_stI, zmx_stJ, zmx_stB, zmx_stZ, zmx_pI, zmx_pJ, zmp_zb2, zmp_bd, zmq_zb2, zmq_bd, zmp_if, zmq_if, zmp_some, zmq_some, zmp_none, zmq_none, zmp_let, zmq_let, zmp_gb, zmq_gb, zmb_zb2, zmb_zb2q, zmb_bd, zmb_bdq, zmx_let, zmx_letq]
theorem lm_fX12_volunteer {A : zMem} (x1 : Int32) (B : zMem) : fX12_volunteer x1 (zmx A B) = zmp A (fX12_volunteer x1 B) := by
  unfold fX12_volunteer
  simp (maxSteps := 2000000) (disch := first | assumption | decide) only [zmx_1, zmx_2, zmx_ldI, zmx_ldJ, zmx_stI, zmx_stJ, zmx_stB, zmx_stZ, zmx_pI, zmx_pJ, zmp_zb2, zmp_bd, zmq_zb2, zmq_bd, zmp_if, zmq_if, zmp_some, zmq_some, zmp_none, zmq_none, zmp_let, zmq_let, zmp_gb, zmq_gb, zmb_zb2, zmb_zb2q, zmb_bd, zmb_bdq, zmx_let, zmx_letq]
theorem lm_fX12_step_L26 {A : zMem} (x1 : Int32) (x2 : Int32) (B : zMem) : fX12_step_L26 x1 x2 (zmx A B) = zmp A (fX12_step_L26 x1 x2 B) := by
  unfold fX12_step_L26
  simp (maxSteps := 2000000) (disch := first | assumption | decide) only [zmx_1, zmx_2, zmx_ldI, zmx_ldJ, zmx_stI, zmx_stJ, zmx_stB, zmx_stZ, zmx_pI, zmx_pJ, zmp_zb2, zmp_bd, zmq_zb2, zmq_bd, zmp_if, zmq_if, zmp_some, zmq_some, zmp_none, zmq_none, zmp_let, zmq_let, zmp_gb, zmq_gb, zmb_zb2, zmb_zb2q, zmb_bd, zmb_bdq, zmx_let, zmx_letq]
theorem lm_fX12_step {A : zMem} (x1 : Int32) (x2 : Int32) (B : zMem) : fX12_step x1 x2 (zmx A B) = zmp A (fX12_step x1 x2 B) := by
  unfold fX12_step
  simp (maxSteps := 2000000) (disch := first | assumption | decide) only [zmx_1, zmx_2, zmx_ldI, zmx_ldJ, zmx_stI, zmx_stJ, zmx_stB, zmx_stZ, zmx_pI, zmx_pJ, zmp_zb2, zmp_bd, zmq_zb2, zmq_bd, zmp_if, zmq_if, zmp_some, zmq_some, zmp_none, zmq_none, zmp_let, zmq_let, zmp_gb, zmq_gb, zmb_zb2, zmb_zb2q, zmb_bd, zmb_bdq, zmx_let, zmx_letq, lm_fX12_step_L26]
theorem lm_fX12_hasStep_L67 {A : zMem} (N : Nat) (k3 : Int32 → Int32 → Int32 → zMem → Option (Int32 × zMem)) (hk3 : ∀ (y0 : Int32) (y1 : Int32) (y2 : Int32) (B : zMem), k3 y0 y1 y2 (zmx A B) = zmp A (k3 y0 y1 y2 B)) (k15 : Int32 → Int32 → Int32 → Int32 → Int32 → zMem → Option (Int32 × zMem)) (hk15 : ∀ (y0 : Int32) (y1 : Int32) (y2 : Int32) (y3 : Int32) (y4 : Int32) (B : zMem), k15 y0 y1 y2 y3 y4 (zmx A B) = zmp A (k15 y0 y1 y2 y3 y4 B)) (x1 : Int32) (x3 : Int32) (x4 : Int32) (x6 : Int32) (s0 : Int32) (B : zMem) : fX12_hasStep_L67 N k3 k15 x1 x3 x4 x6 s0 (zmx A B) = zmp A (fX12_hasStep_L67 N k3 k15 x1 x3 x4 x6 s0 B) := by
  unfold fX12_hasStep_L67
  simp (maxSteps := 2000000) (disch := first | assumption | decide) only [zmx_1, zmx_2, zmx_ldI, zmx_ldJ, zmx_stI, zmx_stJ, zmx_stB, zmx_stZ, zmx_pI, zmx_pJ, zmp_zb2, zmp_bd, zmq_zb2, zmq_bd, zmp_if, zmq_if, zmp_some, zmq_some, zmp_none, zmq_none, zmp_let, zmq_let, zmp_gb, zmq_gb, zmb_zb2, zmb_zb2q, zmb_bd, zmb_bdq, zmx_let, zmx_letq, hk3, hk15]
theorem lm_fX12_hasStep_L62 {A : zMem} (N : Nat) (k3 : Int32 → Int32 → Int32 → zMem → Option (Int32 × zMem)) (hk3 : ∀ (y0 : Int32) (y1 : Int32) (y2 : Int32) (B : zMem), k3 y0 y1 y2 (zmx A B) = zmp A (k3 y0 y1 y2 B)) (k15 : Int32 → Int32 → Int32 → Int32 → Int32 → zMem → Option (Int32 × zMem)) (hk15 : ∀ (y0 : Int32) (y1 : Int32) (y2 : Int32) (y3 : Int32) (y4 : Int32) (B : zMem), k15 y0 y1 y2 y3 y4 (zmx A B) = zmp A (k15 y0 y1 y2 y3 y4 B)) (x1 : Int32) (x3 : Int32) (x4 : Int32) (x6 : Int32) (B : zMem) : fX12_hasStep_L62 N k3 k15 x1 x3 x4 x6 (zmx A B) = zmp A (fX12_hasStep_L62 N k3 k15 x1 x3 x4 x6 B) := by
  unfold fX12_hasStep_L62
  simp (maxSteps := 2000000) (disch := first | assumption | decide) only [zmx_1, zmx_2, zmx_ldI, zmx_ldJ, zmx_stI, zmx_stJ, zmx_stB, zmx_stZ, zmx_pI, zmx_pJ, zmp_zb2, zmp_bd, zmq_zb2, zmq_bd, zmp_if, zmq_if, zmp_some, zmq_some, zmp_none, zmq_none, zmp_let, zmq_let, zmp_gb, zmq_gb, zmb_zb2, zmb_zb2q, zmb_bd, zmb_bdq, zmx_let, zmx_letq, lm_fX12_hasStep_L67, hk3, hk15]
theorem lm_fX12_hasStep_L75 {A : zMem} (N : Nat) (k3 : Int32 → Int32 → Int32 → zMem → Option (Int32 × zMem)) (hk3 : ∀ (y0 : Int32) (y1 : Int32) (y2 : Int32) (B : zMem), k3 y0 y1 y2 (zmx A B) = zmp A (k3 y0 y1 y2 B)) (x1 : Int32) (x3 : Int32) (x4 : Int32) (x5 : Int32) (B : zMem) : fX12_hasStep_L75 N k3 x1 x3 x4 x5 (zmx A B) = zmp A (fX12_hasStep_L75 N k3 x1 x3 x4 x5 B) := by
  unfold fX12_hasStep_L75
  simp (maxSteps := 2000000) (disch := first | assumption | decide) only [zmx_1, zmx_2, zmx_ldI, zmx_ldJ, zmx_stI, zmx_stJ, zmx_stB, zmx_stZ, zmx_pI, zmx_pJ, zmp_zb2, zmp_bd, zmq_zb2, zmq_bd, zmp_if, zmq_if, zmp_some, zmq_some, zmp_none, zmq_none, zmp_let, zmq_let, zmp_gb, zmq_gb, zmb_zb2, zmb_zb2q, zmb_bd, zmb_bdq, zmx_let, zmx_letq, hk3]
theorem lm_fX12_hasStep_L15 {A : zMem} (N : Nat) (k3 : Int32 → Int32 → Int32 → zMem → Option (Int32 × zMem)) (hk3 : ∀ (y0 : Int32) (y1 : Int32) (y2 : Int32) (B : zMem), k3 y0 y1 y2 (zmx A B) = zmp A (k3 y0 y1 y2 B)) : ∀ (n : Nat) (z0 : Int32) (z1 : Int32) (z2 : Int32) (z3 : Int32) (z4 : Int32) (B : zMem), fX12_hasStep_L15 N k3 n z0 z1 z2 z3 z4 (zmx A B) = zmp A (fX12_hasStep_L15 N k3 n z0 z1 z2 z3 z4 B) := by
  intro n
  induction n with
  | zero => intros; rfl
  | succ n ih =>
    intro z0 z1 z2 z3 z4 B
    simp (maxSteps := 2000000) (disch := first | assumption | decide) only [fX12_hasStep_L15, zmx_1, zmx_2, zmx_ldI, zmx_ldJ, zmx_stI, zmx_stJ, zmx_stB, zmx_stZ, zmx_pI, zmx_pJ, zmp_zb2, zmp_bd, zmq_zb2, zmq_bd, zmp_if, zmq_if, zmp_some, zmq_some, zmp_none, zmq_none, zmp_let, zmq_let, zmp_gb, zmq_gb, zmb_zb2, zmb_zb2q, zmb_bd, zmb_bdq, zmx_let, zmx_letq, lm_fX12_hasStep_L75, lm_fX12_hasStep_L67, lm_fX12_hasStep_L62, ih, hk3]
theorem lm_fX12_hasStep_L3 {A : zMem} (N : Nat) : ∀ (n : Nat) (z0 : Int32) (z1 : Int32) (z2 : Int32) (B : zMem), fX12_hasStep_L3 N n z0 z1 z2 (zmx A B) = zmp A (fX12_hasStep_L3 N n z0 z1 z2 B) := by
  intro n
  induction n with
  | zero => intros; rfl
  | succ n ih =>
    intro z0 z1 z2 B
    simp (maxSteps := 2000000) (disch := first | assumption | decide) only [fX12_hasStep_L3, zmx_1, zmx_2, zmx_ldI, zmx_ldJ, zmx_stI, zmx_stJ, zmx_stB, zmx_stZ, zmx_pI, zmx_pJ, zmp_zb2, zmp_bd, zmq_zb2, zmq_bd, zmp_if, zmq_if, zmp_some, zmq_some, zmp_none, zmq_none, zmp_let, zmq_let, zmp_gb, zmq_gb, zmb_zb2, zmb_zb2q, zmb_bd, zmb_bdq, zmx_let, zmx_letq, lm_fX12_hasStep_L15, ih]
theorem lm_fX12_hasStep {A : zMem} (N : Nat) (x1 : Int32) (x2 : Int32) (x3 : Int32) (B : zMem) : fX12_hasStep N x1 x2 x3 (zmx A B) = zmp A (fX12_hasStep N x1 x2 x3 B) := by
  unfold fX12_hasStep
  simp (maxSteps := 2000000) (disch := first | assumption | decide) only [zmx_1, zmx_2, zmx_ldI, zmx_ldJ, zmx_stI, zmx_stJ, zmx_stB, zmx_stZ, zmx_pI, zmx_pJ, zmp_zb2, zmp_bd, zmq_zb2, zmq_bd, zmp_if, zmq_if, zmp_some, zmq_some, zmp_none, zmq_none, zmp_let, zmq_let, zmp_gb, zmq_gb, zmb_zb2, zmb_zb2q, zmb_bd, zmb_bdq, zmx_let, zmx_letq, lm_fX12_hasStep_L3]
theorem lm_fX12_learn_L50 {A : zMem} (N : Nat) (x1 : Int32) (x2 : Int32) (B : zMem) : fX12_learn_L50 N x1 x2 (zmx A B) = zmp A (fX12_learn_L50 N x1 x2 B) := by
  unfold fX12_learn_L50
  simp (maxSteps := 2000000) (disch := first | assumption | decide) only [zmx_1, zmx_2, zmx_ldI, zmx_ldJ, zmx_stI, zmx_stJ, zmx_stB, zmx_stZ, zmx_pI, zmx_pJ, zmp_zb2, zmp_bd, zmq_zb2, zmq_bd, zmp_if, zmq_if, zmp_some, zmq_some, zmp_none, zmq_none, zmp_let, zmq_let, zmp_gb, zmq_gb, zmb_zb2, zmb_zb2q, zmb_bd, zmb_bdq, zmx_let, zmx_letq]
theorem lm_fX12_learn {A : zMem} (N : Nat) (x1 : Int32) (x2 : Int32) (B : zMem) : fX12_learn N x1 x2 (zmx A B) = zmp A (fX12_learn N x1 x2 B) := by
  unfold fX12_learn
  simp (maxSteps := 2000000) (disch := first | assumption | decide) only [zmx_1, zmx_2, zmx_ldI, zmx_ldJ, zmx_stI, zmx_stJ, zmx_stB, zmx_stZ, zmx_pI, zmx_pJ, zmp_zb2, zmp_bd, zmq_zb2, zmq_bd, zmp_if, zmq_if, zmp_some, zmq_some, zmp_none, zmq_none, zmp_let, zmq_let, zmp_gb, zmq_gb, zmb_zb2, zmb_zb2q, zmb_bd, zmb_bdq, zmx_let, zmx_letq, lm_fX12_isVolunteer, lm_fX12_learn_L50, lm_fX12_hasStep]
theorem lm_fX12_has {A : zMem} (N : Nat) (x1 : Int32) (x2 : Int32) (x3 : Int32) (B : zMem) : fX12_has N x1 x2 x3 (zmx A B) = zmp A (fX12_has N x1 x2 x3 B) := by
  unfold fX12_has
  simp (maxSteps := 2000000) (disch := first | assumption | decide) only [zmx_1, zmx_2, zmx_ldI, zmx_ldJ, zmx_stI, zmx_stJ, zmx_stB, zmx_stZ, zmx_pI, zmx_pJ, zmp_zb2, zmp_bd, zmq_zb2, zmq_bd, zmp_if, zmq_if, zmp_some, zmq_some, zmp_none, zmq_none, zmp_let, zmq_let, zmp_gb, zmq_gb, zmb_zb2, zmb_zb2q, zmb_bd, zmb_bdq, zmx_let, zmx_letq, lm_fX12_isVolunteer, lm_fX12_isNight, lm_fX12_hasStep]
theorem lm_fX12_isBarred {A : zMem} (x1 : Int32) (x2 : Int32) (x3 : Int32) (B : zMem) : fX12_isBarred x1 x2 x3 (zmx A B) = zmp A (fX12_isBarred x1 x2 x3 B) := by
  unfold fX12_isBarred
  simp (maxSteps := 2000000) (disch := first | assumption | decide) only [zmx_1, zmx_2, zmx_ldI, zmx_ldJ, zmx_stI, zmx_stJ, zmx_stB, zmx_stZ, zmx_pI, zmx_pJ, zmp_zb2, zmp_bd, zmq_zb2, zmq_bd, zmp_if, zmq_if, zmp_some, zmq_some, zmp_none, zmq_none, zmp_let, zmq_let, zmp_gb, zmq_gb, zmb_zb2, zmb_zb2q, zmb_bd, zmb_bdq, zmx_let, zmx_letq]
theorem lm_fX12_bar {A : zMem} (x1 : Int32) (x2 : Int32) (B : zMem) : fX12_bar x1 x2 (zmx A B) = zmp A (fX12_bar x1 x2 B) := by
  unfold fX12_bar
  simp (maxSteps := 2000000) (disch := first | assumption | decide) only [zmx_1, zmx_2, zmx_ldI, zmx_ldJ, zmx_stI, zmx_stJ, zmx_stB, zmx_stZ, zmx_pI, zmx_pJ, zmp_zb2, zmp_bd, zmq_zb2, zmq_bd, zmp_if, zmq_if, zmp_some, zmq_some, zmp_none, zmq_none, zmp_let, zmq_let, zmp_gb, zmq_gb, zmb_zb2, zmb_zb2q, zmb_bd, zmb_bdq, zmx_let, zmx_letq, lm_fX12_isVolunteer]
theorem lm_fX12_isDue_L7 {A : zMem} (N : Nat) : ∀ (n : Nat) (z0 : Int32) (z1 : Int32) (B : zMem), fX12_isDue_L7 N n z0 z1 (zmx A B) = zmp A (fX12_isDue_L7 N n z0 z1 B) := by
  intro n
  induction n with
  | zero => intros; rfl
  | succ n ih =>
    intro z0 z1 B
    simp (maxSteps := 2000000) (disch := first | assumption | decide) only [fX12_isDue_L7, zmx_1, zmx_2, zmx_ldI, zmx_ldJ, zmx_stI, zmx_stJ, zmx_stB, zmx_stZ, zmx_pI, zmx_pJ, zmp_zb2, zmp_bd, zmq_zb2, zmq_bd, zmp_if, zmq_if, zmp_some, zmq_some, zmp_none, zmq_none, zmp_let, zmq_let, zmp_gb, zmq_gb, zmb_zb2, zmb_zb2q, zmb_bd, zmb_bdq, zmx_let, zmx_letq, ih]
theorem lm_fX12_isDue {A : zMem} (N : Nat) (x1 : Int32) (B : zMem) : fX12_isDue N x1 (zmx A B) = zmp A (fX12_isDue N x1 B) := by
  unfold fX12_isDue
  simp (maxSteps := 2000000) (disch := first | assumption | decide) only [zmx_1, zmx_2, zmx_ldI, zmx_ldJ, zmx_stI, zmx_stJ, zmx_stB, zmx_stZ, zmx_pI, zmx_pJ, zmp_zb2, zmp_bd, zmq_zb2, zmq_bd, zmp_if, zmq_if, zmp_some, zmq_some, zmp_none, zmq_none, zmp_let, zmq_let, zmp_gb, zmq_gb, zmb_zb2, zmb_zb2q, zmb_bd, zmb_bdq, zmx_let, zmx_letq, lm_fX12_isDue_L7]
