/-! LOCALITY: the class reads and writes its own places alone -/
def zcp {α : Type} (B : zMem) (o : Option (α × zMem)) : Option (α × zMem) := o.map fun p => (p.1, zmx p.2 B)
def zcq (B : zMem) (o : Option zMem) : Option zMem := o.map fun A => zmx A B
theorem zmx_R (A B : zMem) : (zmx A B).2.2 = A.2.2 := (rfl)
theorem zcx_ldI {A B : zMem} {a : Nat} (h : a < 69) (n : Nat) (i : Int32) : zldI (zmx A B) a n i = zldI A a n i := by unfold zldI; rw [zmx_1c h]
theorem zcx_ldJ {A B : zMem} {a : Nat} (h : a < 69) (n : Nat) (i : Int32) : zldJ (zmx A B) a n i = zldJ A a n i := by unfold zldJ; rw [zmx_2c h]
theorem zcx_pI {A B : zMem} {a : Nat} (h : a < 69) (k : Nat) (x : Int32) : zpI (zmx A B) a k x = zmx (zpI A a k x) B := by
  unfold zpI zmx zu
  refine Prod.ext ?_ rfl
  funext b j
  by_cases e : b = a
  · subst e
    simp [h]
  · by_cases q : b < 69 <;> simp [e, q]
theorem zcx_pJ {A B : zMem} {a : Nat} (h : a < 69) (k : Nat) (x : Int64) : zpJ (zmx A B) a k x = zmx (zpJ A a k x) B := by
  unfold zpJ zmx zu
  refine Prod.ext rfl (Prod.ext ?_ rfl)
  funext b j
  by_cases e : b = a
  · subst e
    simp [h]
  · by_cases q : b < 69 <;> simp [e, q]
theorem zcx_pR (A B : zMem) (a k r : Nat) : zpR (zmx A B) a k r = zmx (zpR A a k r) B := (rfl)
theorem zcx_stI {A B : zMem} {a : Nat} (h : a < 69) (n : Nat) (i x : Int32) : zstI (zmx A B) a n i x = zcq B (zstI A a n i x) := by unfold zstI zcq; rw [zcx_pI h]; split <;> rfl
theorem zcx_stB {A B : zMem} {a : Nat} (h : a < 69) (n : Nat) (i x : Int32) : zstB (zmx A B) a n i x = zcq B (zstB A a n i x) := by unfold zstB zcq; rw [zcx_pI h]; split <;> rfl
theorem zcx_stZ {A B : zMem} {a : Nat} (h : a < 69) (n : Nat) (i x : Int32) : zstZ (zmx A B) a n i x = zcq B (zstZ A a n i x) := by unfold zstZ zcq; rw [zcx_pI h]; split <;> rfl
theorem zcx_stJ {A B : zMem} {a : Nat} (h : a < 69) (n : Nat) (i : Int32) (x : Int64) : zstJ (zmx A B) a n i x = zcq B (zstJ A a n i x) := by unfold zstJ zcq; rw [zcx_pJ h]; split <;> rfl
theorem zcp_zb2 {α β : Type} {B : zMem} (o : Option (α × zMem)) (f : α → zMem → Option (β × zMem)) : zcp B (zb2 o f) = zb2 o fun r M => zcp B (f r M) := by cases o <;> rfl
theorem zcq_zb2 {α : Type} {B : zMem} (o : Option (α × zMem)) (f : α → zMem → Option zMem) : zcq B (zb2 o f) = zb2 o fun r M => zcq B (f r M) := by cases o <;> rfl
theorem zcp_bd {α β : Type} {B : zMem} (o : Option α) (f : α → Option (β × zMem)) : zcp B (o.bind f) = o.bind fun v => zcp B (f v) := by cases o <;> rfl
theorem zcq_bd {α : Type} {B : zMem} (o : Option α) (f : α → Option zMem) : zcq B (o.bind f) = o.bind fun v => zcq B (f v) := by cases o <;> rfl
theorem zcp_if {α : Type} {B : zMem} (c : Prop) [Decidable c] (x y : Option (α × zMem)) : zcp B (if c then x else y) = if c then zcp B x else zcp B y := by split <;> rfl
theorem zcq_if {B : zMem} (c : Prop) [Decidable c] (x y : Option zMem) : zcq B (if c then x else y) = if c then zcq B x else zcq B y := by split <;> rfl
theorem zcp_some {α : Type} {B : zMem} (r : α) (A : zMem) : zcp B (some (r, A)) = some (r, zmx A B) := (rfl)
theorem zcq_some {B : zMem} (A : zMem) : zcq B (some A) = some (zmx A B) := (rfl)
theorem zcp_none {α : Type} {B : zMem} : zcp B (none : Option (α × zMem)) = none := (rfl)
theorem zcq_none {B : zMem} : zcq B none = none := (rfl)
theorem zcp_let {α β : Type} {B : zMem} (x : α) (f : α → Option (β × zMem)) : zcp B (zlet x f) = zlet x fun v => zcp B (f v) := (rfl)
theorem zcq_let {α : Type} {B : zMem} (x : α) (f : α → Option zMem) : zcq B (zlet x f) = zlet x fun v => zcq B (f v) := (rfl)
theorem zcp_gb {α : Type} {B : zMem} (v : Int32) (x : Option (α × zMem)) : zcp B (zgb v x) = zgb v (zcp B x) := by unfold zgb; split <;> rfl
theorem zcq_gb {B : zMem} (v : Int32) (x : Option zMem) : zcq B (zgb v x) = zgb v (zcq B x) := by unfold zgb; split <;> rfl
theorem zcb_zb2 {α β : Type} {B : zMem} (o : Option (α × zMem)) (f : α → zMem → Option (β × zMem)) : zb2 (zcp B o) f = zb2 o fun r M => f r (zmx M B) := by cases o <;> rfl
theorem zcb_zb2q {α : Type} {B : zMem} (o : Option (α × zMem)) (f : α → zMem → Option zMem) : zb2 (zcp B o) f = zb2 o fun r M => f r (zmx M B) := by cases o <;> rfl
theorem zcb_bd {β : Type} {B : zMem} (o : Option zMem) (f : zMem → Option (β × zMem)) : (zcq B o).bind f = o.bind fun M => f (zmx M B) := by cases o <;> rfl
theorem zcb_bdq {B : zMem} (o : Option zMem) (f : zMem → Option zMem) : (zcq B o).bind f = o.bind fun M => f (zmx M B) := by cases o <;> rfl
theorem zcx_let {α : Type} {A B : zMem} (f : zMem → Option (α × zMem)) : zlet (zmx A B) f = zlet A fun M => f (zmx M B) := (rfl)
theorem zcx_letq {A B : zMem} (f : zMem → Option zMem) : zlet (zmx A B) f = zlet A fun M => f (zmx M B) := (rfl)
theorem zcx_cp {A B : zMem} {sa da : Nat} (hs : sa < 69) (hd : da < 69) (n0 : Nat) (sp : Int32) (n1 : Nat) (dp cnt : Int32) : zcpI (zmx A B) sa n0 sp da n1 dp cnt = zcq B (zcpI A sa n0 sp da n1 dp cnt) := by
  unfold zcpI zcq
  split
  · refine congrArg some (Prod.ext ?_ rfl)
    funext b
    by_cases e : b = da
    · subst e; simp [zmx, hs, hd]
    · by_cases q : b < 69 <;> simp [zmx, e, q]
  · rfl
theorem zcd_p {α : Type} {B : zMem} {r : Nat} {x : Option (α × zMem)} {y : Option (α × zMem)} (h : r = 3 ∨ r = 11 → x = zcp B y) : zdy r x = zcp B (zdy r y) := by
  unfold zdy
  split
  · rename_i q; exact h q
  · rfl
theorem zcd_q {B : zMem} {r : Nat} {x y : Option zMem} (h : r = 3 ∨ r = 11 → x = zcq B y) : zdy r x = zcq B (zdy r y) := by
  unfold zdy
  split
  · rename_i q; exact h q
  · rfl
theorem lc_fX11_isNight {B : zMem} (x0 : Int32) (A : zMem) : fX11_isNight x0 (zmx A B) = zcp B (fX11_isNight x0 A) := by
  unfold fX11_isNight
  simp (maxSteps := 2000000) (disch := first | assumption | decide | omega) only [zmx_1c, zmx_2c, zmx_R, zcx_ldI, zcx_ldJ, zcx_stI, zcx_stJ, zcx_stB, zcx_stZ, zcx_pI, zcx_pJ, zcx_pR, zcp_zb2, zcp_bd, zcq_zb2, zcq_bd, zcp_if, zcq_if, zcp_some, zcq_some, zcp_none, zcq_none, zcp_let, zcq_let, zcp_gb, zcq_gb, zcb_zb2, zcb_zb2q, zcb_bd, zcb_bdq, zcx_let, zcx_letq, zcx_cp]
theorem lc_fX0_isMarked {B : zMem} (x1 : Int32) (x2 : Int32) (A : zMem) : fX0_isMarked x1 x2 (zmx A B) = zcp B (fX0_isMarked x1 x2 A) := by
  unfold fX0_isMarked
  simp (maxSteps := 2000000) (disch := first | assumption | decide | omega) only [zmx_1c, zmx_2c, zmx_R, zcx_ldI, zcx_ldJ, zcx_stI, zcx_stJ, zcx_stB, zcx_stZ, zcx_pI, zcx_pJ, zcx_pR, zcp_zb2, zcp_bd, zcq_zb2, zcq_bd, zcp_if, zcq_if, zcp_some, zcq_some, zcp_none, zcq_none, zcp_let, zcq_let, zcp_gb, zcq_gb, zcb_zb2, zcb_zb2q, zcb_bd, zcb_bdq, zcx_let, zcx_letq, zcx_cp, lc_fX11_isNight]
theorem lc_fX0_isHoliday {B : zMem} (x1 : Int32) (A : zMem) : fX0_isHoliday x1 (zmx A B) = zcp B (fX0_isHoliday x1 A) := by
  unfold fX0_isHoliday
  simp (maxSteps := 2000000) (disch := first | assumption | decide | omega) only [zmx_1c, zmx_2c, zmx_R, zcx_ldI, zcx_ldJ, zcx_stI, zcx_stJ, zcx_stB, zcx_stZ, zcx_pI, zcx_pJ, zcx_pR, zcp_zb2, zcp_bd, zcq_zb2, zcq_bd, zcp_if, zcq_if, zcp_some, zcq_some, zcp_none, zcq_none, zcp_let, zcq_let, zcp_gb, zcq_gb, zcb_zb2, zcb_zb2q, zcb_bd, zcb_bdq, zcx_let, zcx_letq, zcx_cp, lc_fX0_isMarked]
theorem lc_fX0_isFound {B : zMem} (x1 : Int32) (A : zMem) : fX0_isFound x1 (zmx A B) = zcp B (fX0_isFound x1 A) := by
  unfold fX0_isFound
  simp (maxSteps := 2000000) (disch := first | assumption | decide | omega) only [zmx_1c, zmx_2c, zmx_R, zcx_ldI, zcx_ldJ, zcx_stI, zcx_stJ, zcx_stB, zcx_stZ, zcx_pI, zcx_pJ, zcx_pR, zcp_zb2, zcp_bd, zcq_zb2, zcq_bd, zcp_if, zcq_if, zcp_some, zcq_some, zcp_none, zcq_none, zcp_let, zcq_let, zcp_gb, zcq_gb, zcb_zb2, zcb_zb2q, zcb_bd, zcb_bdq, zcx_let, zcx_letq, zcx_cp, lc_fX0_isMarked]
theorem lc_fX0_isGone {B : zMem} (x1 : Int32) (A : zMem) : fX0_isGone x1 (zmx A B) = zcp B (fX0_isGone x1 A) := by
  unfold fX0_isGone
  simp (maxSteps := 2000000) (disch := first | assumption | decide | omega) only [zmx_1c, zmx_2c, zmx_R, zcx_ldI, zcx_ldJ, zcx_stI, zcx_stJ, zcx_stB, zcx_stZ, zcx_pI, zcx_pJ, zcx_pR, zcp_zb2, zcp_bd, zcq_zb2, zcq_bd, zcp_if, zcq_if, zcp_some, zcq_some, zcp_none, zcq_none, zcp_let, zcq_let, zcp_gb, zcq_gb, zcb_zb2, zcb_zb2q, zcb_bd, zcb_bdq, zcx_let, zcx_letq, zcx_cp, lc_fX0_isMarked]
theorem lc_fX0_mark {B : zMem} (x1 : Int32) (x2 : Int32) (A : zMem) : fX0_mark x1 x2 (zmx A B) = zcq B (fX0_mark x1 x2 A) := by
  unfold fX0_mark
  simp (maxSteps := 2000000) (disch := first | assumption | decide | omega) only [zmx_1c, zmx_2c, zmx_R, zcx_ldI, zcx_ldJ, zcx_stI, zcx_stJ, zcx_stB, zcx_stZ, zcx_pI, zcx_pJ, zcx_pR, zcp_zb2, zcp_bd, zcq_zb2, zcq_bd, zcp_if, zcq_if, zcp_some, zcq_some, zcp_none, zcq_none, zcp_let, zcq_let, zcp_gb, zcq_gb, zcb_zb2, zcb_zb2q, zcb_bd, zcb_bdq, zcx_let, zcx_letq, zcx_cp, lc_fX11_isNight]
theorem lc_fX0_setHoliday {B : zMem} (x1 : Int32) (A : zMem) : fX0_setHoliday x1 (zmx A B) = zcq B (fX0_setHoliday x1 A) := by
  unfold fX0_setHoliday
  simp (maxSteps := 2000000) (disch := first | assumption | decide | omega) only [zmx_1c, zmx_2c, zmx_R, zcx_ldI, zcx_ldJ, zcx_stI, zcx_stJ, zcx_stB, zcx_stZ, zcx_pI, zcx_pJ, zcx_pR, zcp_zb2, zcp_bd, zcq_zb2, zcq_bd, zcp_if, zcq_if, zcp_some, zcq_some, zcp_none, zcq_none, zcp_let, zcq_let, zcp_gb, zcq_gb, zcb_zb2, zcb_zb2q, zcb_bd, zcb_bdq, zcx_let, zcx_letq, zcx_cp, lc_fX0_mark]
theorem lc_fX0_setFound {B : zMem} (x1 : Int32) (A : zMem) : fX0_setFound x1 (zmx A B) = zcq B (fX0_setFound x1 A) := by
  unfold fX0_setFound
  simp (maxSteps := 2000000) (disch := first | assumption | decide | omega) only [zmx_1c, zmx_2c, zmx_R, zcx_ldI, zcx_ldJ, zcx_stI, zcx_stJ, zcx_stB, zcx_stZ, zcx_pI, zcx_pJ, zcx_pR, zcp_zb2, zcp_bd, zcq_zb2, zcq_bd, zcp_if, zcq_if, zcp_some, zcq_some, zcp_none, zcq_none, zcp_let, zcq_let, zcp_gb, zcq_gb, zcb_zb2, zcb_zb2q, zcb_bd, zcb_bdq, zcx_let, zcx_letq, zcx_cp, lc_fX0_mark]
theorem lc_fX0_setGone {B : zMem} (x1 : Int32) (A : zMem) : fX0_setGone x1 (zmx A B) = zcq B (fX0_setGone x1 A) := by
  unfold fX0_setGone
  simp (maxSteps := 2000000) (disch := first | assumption | decide | omega) only [zmx_1c, zmx_2c, zmx_R, zcx_ldI, zcx_ldJ, zcx_stI, zcx_stJ, zcx_stB, zcx_stZ, zcx_pI, zcx_pJ, zcx_pR, zcp_zb2, zcp_bd, zcq_zb2, zcq_bd, zcp_if, zcq_if, zcp_some, zcq_some, zcp_none, zcq_none, zcp_let, zcq_let, zcp_gb, zcq_gb, zcb_zb2, zcb_zb2q, zcb_bd, zcb_bdq, zcx_let, zcx_letq, zcx_cp, lc_fX0_mark]
theorem lc_fX0_countGone_L22 {B : zMem} (N : Nat) (k4 : Int32 → Int32 → zMem → Option (Int32 × zMem)) (hk4 : ∀ (y0 : Int32) (y1 : Int32) (A : zMem), k4 y0 y1 (zmx A B) = zcp B (k4 y0 y1 A)) (x1 : Int32) (x2 : Int32) (A : zMem) : fX0_countGone_L22 N k4 x1 x2 (zmx A B) = zcp B (fX0_countGone_L22 N k4 x1 x2 A) := by
  unfold fX0_countGone_L22
  simp (maxSteps := 2000000) (disch := first | assumption | decide | omega) only [zmx_1c, zmx_2c, zmx_R, zcx_ldI, zcx_ldJ, zcx_stI, zcx_stJ, zcx_stB, zcx_stZ, zcx_pI, zcx_pJ, zcx_pR, zcp_zb2, zcp_bd, zcq_zb2, zcq_bd, zcp_if, zcq_if, zcp_some, zcq_some, zcp_none, zcq_none, zcp_let, zcq_let, zcp_gb, zcq_gb, zcb_zb2, zcb_zb2q, zcb_bd, zcb_bdq, zcx_let, zcx_letq, zcx_cp, hk4]
theorem lc_fX0_countGone_L4 {B : zMem} (N : Nat) : ∀ (n : Nat) (z0 : Int32) (z1 : Int32) (A : zMem), fX0_countGone_L4 N n z0 z1 (zmx A B) = zcp B (fX0_countGone_L4 N n z0 z1 A) := by
  intro n
  induction n with
  | zero => intros; rfl
  | succ n ih =>
    intro z0 z1 A
    simp (maxSteps := 2000000) (disch := first | assumption | decide | omega) only [fX0_countGone_L4, zmx_1c, zmx_2c, zmx_R, zcx_ldI, zcx_ldJ, zcx_stI, zcx_stJ, zcx_stB, zcx_stZ, zcx_pI, zcx_pJ, zcx_pR, zcp_zb2, zcp_bd, zcq_zb2, zcq_bd, zcp_if, zcq_if, zcp_some, zcq_some, zcp_none, zcq_none, zcp_let, zcq_let, zcp_gb, zcq_gb, zcb_zb2, zcb_zb2q, zcb_bd, zcb_bdq, zcx_let, zcx_letq, zcx_cp, lc_fX0_isGone, lc_fX0_countGone_L22, ih]
theorem lc_fX0_countGone {B : zMem} (N : Nat) (A : zMem) : fX0_countGone N (zmx A B) = zcp B (fX0_countGone N A) := by
  unfold fX0_countGone
  simp (maxSteps := 2000000) (disch := first | assumption | decide | omega) only [zmx_1c, zmx_2c, zmx_R, zcx_ldI, zcx_ldJ, zcx_stI, zcx_stJ, zcx_stB, zcx_stZ, zcx_pI, zcx_pJ, zcx_pR, zcp_zb2, zcp_bd, zcq_zb2, zcq_bd, zcp_if, zcq_if, zcp_some, zcq_some, zcp_none, zcq_none, zcp_let, zcq_let, zcp_gb, zcq_gb, zcb_zb2, zcb_zb2q, zcb_bd, zcb_bdq, zcx_let, zcx_letq, zcx_cp, lc_fX0_countGone_L4]
theorem lc_fX0_areAlike_L34 {B : zMem} (A : zMem) : fX0_areAlike_L34  (zmx A B) = zcp B (fX0_areAlike_L34  A) := by
  unfold fX0_areAlike_L34
  simp (maxSteps := 2000000) (disch := first | assumption | decide | omega) only [zmx_1c, zmx_2c, zmx_R, zcx_ldI, zcx_ldJ, zcx_stI, zcx_stJ, zcx_stB, zcx_stZ, zcx_pI, zcx_pJ, zcx_pR, zcp_zb2, zcp_bd, zcq_zb2, zcq_bd, zcp_if, zcq_if, zcp_some, zcq_some, zcp_none, zcq_none, zcp_let, zcq_let, zcp_gb, zcq_gb, zcb_zb2, zcb_zb2q, zcb_bd, zcb_bdq, zcx_let, zcx_letq, zcx_cp]
theorem lc_fX0_areAlike {B : zMem} (x1 : Int32) (x2 : Int32) (A : zMem) : fX0_areAlike x1 x2 (zmx A B) = zcp B (fX0_areAlike x1 x2 A) := by
  unfold fX0_areAlike
  simp (maxSteps := 2000000) (disch := first | assumption | decide | omega) only [zmx_1c, zmx_2c, zmx_R, zcx_ldI, zcx_ldJ, zcx_stI, zcx_stJ, zcx_stB, zcx_stZ, zcx_pI, zcx_pJ, zcx_pR, zcp_zb2, zcp_bd, zcq_zb2, zcq_bd, zcp_if, zcq_if, zcp_some, zcq_some, zcp_none, zcq_none, zcp_let, zcq_let, zcp_gb, zcq_gb, zcb_zb2, zcb_zb2q, zcb_bd, zcb_bdq, zcx_let, zcx_letq, zcx_cp, lc_fX0_isHoliday, lc_fX0_areAlike_L34]
theorem lc_fX0_setHours {B : zMem} (x1 : Int32) (x2 : Int32) (x3 : Int32) (A : zMem) : fX0_setHours x1 x2 x3 (zmx A B) = zcq B (fX0_setHours x1 x2 x3 A) := by
  unfold fX0_setHours
  simp (maxSteps := 2000000) (disch := first | assumption | decide | omega) only [zmx_1c, zmx_2c, zmx_R, zcx_ldI, zcx_ldJ, zcx_stI, zcx_stJ, zcx_stB, zcx_stZ, zcx_pI, zcx_pJ, zcx_pR, zcp_zb2, zcp_bd, zcq_zb2, zcq_bd, zcp_if, zcq_if, zcp_some, zcq_some, zcp_none, zcq_none, zcp_let, zcq_let, zcp_gb, zcq_gb, zcb_zb2, zcb_zb2q, zcb_bd, zcb_bdq, zcx_let, zcx_letq, zcx_cp, lc_fX11_isNight]
theorem lc_fX0_hoursOf {B : zMem} (x1 : Int32) (x2 : Int32) (A : zMem) : fX0_hoursOf x1 x2 (zmx A B) = zcp B (fX0_hoursOf x1 x2 A) := by
  unfold fX0_hoursOf
  simp (maxSteps := 2000000) (disch := first | assumption | decide | omega) only [zmx_1c, zmx_2c, zmx_R, zcx_ldI, zcx_ldJ, zcx_stI, zcx_stJ, zcx_stB, zcx_stZ, zcx_pI, zcx_pJ, zcx_pR, zcp_zb2, zcp_bd, zcq_zb2, zcq_bd, zcp_if, zcq_if, zcp_some, zcq_some, zcp_none, zcq_none, zcp_let, zcq_let, zcp_gb, zcq_gb, zcb_zb2, zcb_zb2q, zcb_bd, zcb_bdq, zcx_let, zcx_letq, zcx_cp, lc_fX11_isNight]
theorem lc_fX1_size {B : zMem} (A : zMem) : fX1_size  (zmx A B) = zcp B (fX1_size  A) := by
  unfold fX1_size
  simp (maxSteps := 2000000) (disch := first | assumption | decide | omega) only [zmx_1c, zmx_2c, zmx_R, zcx_ldI, zcx_ldJ, zcx_stI, zcx_stJ, zcx_stB, zcx_stZ, zcx_pI, zcx_pJ, zcx_pR, zcp_zb2, zcp_bd, zcq_zb2, zcq_bd, zcp_if, zcq_if, zcp_some, zcq_some, zcp_none, zcq_none, zcp_let, zcq_let, zcp_gb, zcq_gb, zcb_zb2, zcb_zb2q, zcb_bd, zcb_bdq, zcx_let, zcx_letq, zcx_cp]
theorem lc_fX1_beginNight {B : zMem} (A : zMem) : fX1_beginNight  (zmx A B) = zcq B (fX1_beginNight  A) := by
  unfold fX1_beginNight
  simp (maxSteps := 2000000) (disch := first | assumption | decide | omega) only [zmx_1c, zmx_2c, zmx_R, zcx_ldI, zcx_ldJ, zcx_stI, zcx_stJ, zcx_stB, zcx_stZ, zcx_pI, zcx_pJ, zcx_pR, zcp_zb2, zcp_bd, zcq_zb2, zcq_bd, zcp_if, zcq_if, zcp_some, zcq_some, zcp_none, zcq_none, zcp_let, zcq_let, zcp_gb, zcq_gb, zcb_zb2, zcb_zb2q, zcb_bd, zcb_bdq, zcx_let, zcx_letq, zcx_cp]
theorem lc_fX1_nightStart {B : zMem} (A : zMem) : fX1_nightStart  (zmx A B) = zcp B (fX1_nightStart  A) := by
  unfold fX1_nightStart
  simp (maxSteps := 2000000) (disch := first | assumption | decide | omega) only [zmx_1c, zmx_2c, zmx_R, zcx_ldI, zcx_ldJ, zcx_stI, zcx_stJ, zcx_stB, zcx_stZ, zcx_pI, zcx_pJ, zcx_pR, zcp_zb2, zcp_bd, zcq_zb2, zcq_bd, zcp_if, zcq_if, zcp_some, zcq_some, zcp_none, zcq_none, zcp_let, zcq_let, zcp_gb, zcq_gb, zcb_zb2, zcb_zb2q, zcb_bd, zcb_bdq, zcx_let, zcx_letq, zcx_cp]
theorem lc_fX1_add {B : zMem} (x1 : Int32) (x2 : Int32) (x3 : Int32) (x4 : Int32) (x5 : Int32) (x6 : Int32) (A : zMem) : fX1_add x1 x2 x3 x4 x5 x6 (zmx A B) = zcp B (fX1_add x1 x2 x3 x4 x5 x6 A) := by
  unfold fX1_add
  simp (maxSteps := 2000000) (disch := first | assumption | decide | omega) only [zmx_1c, zmx_2c, zmx_R, zcx_ldI, zcx_ldJ, zcx_stI, zcx_stJ, zcx_stB, zcx_stZ, zcx_pI, zcx_pJ, zcx_pR, zcp_zb2, zcp_bd, zcq_zb2, zcq_bd, zcp_if, zcq_if, zcp_some, zcq_some, zcp_none, zcq_none, zcp_let, zcq_let, zcp_gb, zcq_gb, zcb_zb2, zcb_zb2q, zcb_bd, zcb_bdq, zcx_let, zcx_letq, zcx_cp]
theorem lc_fX1_isCall {B : zMem} (x1 : Int32) (A : zMem) : fX1_isCall x1 (zmx A B) = zcp B (fX1_isCall x1 A) := by
  unfold fX1_isCall
  simp (maxSteps := 2000000) (disch := first | assumption | decide | omega) only [zmx_1c, zmx_2c, zmx_R, zcx_ldI, zcx_ldJ, zcx_stI, zcx_stJ, zcx_stB, zcx_stZ, zcx_pI, zcx_pJ, zcx_pR, zcp_zb2, zcp_bd, zcq_zb2, zcq_bd, zcp_if, zcq_if, zcp_some, zcq_some, zcp_none, zcq_none, zcp_let, zcq_let, zcp_gb, zcq_gb, zcb_zb2, zcb_zb2q, zcb_bd, zcb_bdq, zcx_let, zcx_letq, zcx_cp]
theorem lc_fX1_nightOf {B : zMem} (x1 : Int32) (A : zMem) : fX1_nightOf x1 (zmx A B) = zcp B (fX1_nightOf x1 A) := by
  unfold fX1_nightOf
  simp (maxSteps := 2000000) (disch := first | assumption | decide | omega) only [zmx_1c, zmx_2c, zmx_R, zcx_ldI, zcx_ldJ, zcx_stI, zcx_stJ, zcx_stB, zcx_stZ, zcx_pI, zcx_pJ, zcx_pR, zcp_zb2, zcp_bd, zcq_zb2, zcq_bd, zcp_if, zcq_if, zcp_some, zcq_some, zcp_none, zcq_none, zcp_let, zcq_let, zcp_gb, zcq_gb, zcb_zb2, zcb_zb2q, zcb_bd, zcb_bdq, zcx_let, zcx_letq, zcx_cp, lc_fX1_isCall]
theorem lc_fX1_minuteOf {B : zMem} (x1 : Int32) (A : zMem) : fX1_minuteOf x1 (zmx A B) = zcp B (fX1_minuteOf x1 A) := by
  unfold fX1_minuteOf
  simp (maxSteps := 2000000) (disch := first | assumption | decide | omega) only [zmx_1c, zmx_2c, zmx_R, zcx_ldI, zcx_ldJ, zcx_stI, zcx_stJ, zcx_stB, zcx_stZ, zcx_pI, zcx_pJ, zcx_pR, zcp_zb2, zcp_bd, zcq_zb2, zcq_bd, zcp_if, zcq_if, zcp_some, zcq_some, zcp_none, zcq_none, zcp_let, zcq_let, zcp_gb, zcq_gb, zcb_zb2, zcb_zb2q, zcb_bd, zcb_bdq, zcx_let, zcx_letq, zcx_cp, lc_fX1_isCall]
theorem lc_fX1_callerOf {B : zMem} (x1 : Int32) (A : zMem) : fX1_callerOf x1 (zmx A B) = zcp B (fX1_callerOf x1 A) := by
  unfold fX1_callerOf
  simp (maxSteps := 2000000) (disch := first | assumption | decide | omega) only [zmx_1c, zmx_2c, zmx_R, zcx_ldI, zcx_ldJ, zcx_stI, zcx_stJ, zcx_stB, zcx_stZ, zcx_pI, zcx_pJ, zcx_pR, zcp_zb2, zcp_bd, zcq_zb2, zcq_bd, zcp_if, zcq_if, zcp_some, zcq_some, zcp_none, zcq_none, zcp_let, zcq_let, zcp_gb, zcq_gb, zcb_zb2, zcb_zb2q, zcb_bd, zcb_bdq, zcx_let, zcx_letq, zcx_cp, lc_fX1_isCall]
theorem lc_fX1_needOf {B : zMem} (x1 : Int32) (A : zMem) : fX1_needOf x1 (zmx A B) = zcp B (fX1_needOf x1 A) := by
  unfold fX1_needOf
  simp (maxSteps := 2000000) (disch := first | assumption | decide | omega) only [zmx_1c, zmx_2c, zmx_R, zcx_ldI, zcx_ldJ, zcx_stI, zcx_stJ, zcx_stB, zcx_stZ, zcx_pI, zcx_pJ, zcx_pR, zcp_zb2, zcp_bd, zcq_zb2, zcq_bd, zcp_if, zcq_if, zcp_some, zcq_some, zcp_none, zcq_none, zcp_let, zcq_let, zcp_gb, zcq_gb, zcb_zb2, zcb_zb2q, zcb_bd, zcb_bdq, zcx_let, zcx_letq, zcx_cp, lc_fX1_isCall]
theorem lc_fX1_topicOf {B : zMem} (x1 : Int32) (A : zMem) : fX1_topicOf x1 (zmx A B) = zcp B (fX1_topicOf x1 A) := by
  unfold fX1_topicOf
  simp (maxSteps := 2000000) (disch := first | assumption | decide | omega) only [zmx_1c, zmx_2c, zmx_R, zcx_ldI, zcx_ldJ, zcx_stI, zcx_stJ, zcx_stB, zcx_stZ, zcx_pI, zcx_pJ, zcx_pR, zcp_zb2, zcp_bd, zcq_zb2, zcq_bd, zcp_if, zcq_if, zcp_some, zcq_some, zcp_none, zcq_none, zcp_let, zcq_let, zcp_gb, zcq_gb, zcb_zb2, zcb_zb2q, zcb_bd, zcb_bdq, zcx_let, zcx_letq, zcx_cp, lc_fX1_isCall]
theorem lc_fX1_lengthOf {B : zMem} (x1 : Int32) (A : zMem) : fX1_lengthOf x1 (zmx A B) = zcp B (fX1_lengthOf x1 A) := by
  unfold fX1_lengthOf
  simp (maxSteps := 2000000) (disch := first | assumption | decide | omega) only [zmx_1c, zmx_2c, zmx_R, zcx_ldI, zcx_ldJ, zcx_stI, zcx_stJ, zcx_stB, zcx_stZ, zcx_pI, zcx_pJ, zcx_pR, zcp_zb2, zcp_bd, zcq_zb2, zcq_bd, zcp_if, zcq_if, zcp_some, zcq_some, zcp_none, zcq_none, zcp_let, zcq_let, zcp_gb, zcq_gb, zcb_zb2, zcb_zb2q, zcb_bd, zcb_bdq, zcx_let, zcx_letq, zcx_cp, lc_fX1_isCall]
theorem lc_fX1_stateOf {B : zMem} (x1 : Int32) (A : zMem) : fX1_stateOf x1 (zmx A B) = zcp B (fX1_stateOf x1 A) := by
  unfold fX1_stateOf
  simp (maxSteps := 2000000) (disch := first | assumption | decide | omega) only [zmx_1c, zmx_2c, zmx_R, zcx_ldI, zcx_ldJ, zcx_stI, zcx_stJ, zcx_stB, zcx_stZ, zcx_pI, zcx_pJ, zcx_pR, zcp_zb2, zcp_bd, zcq_zb2, zcq_bd, zcp_if, zcq_if, zcp_some, zcq_some, zcp_none, zcq_none, zcp_let, zcq_let, zcp_gb, zcq_gb, zcb_zb2, zcb_zb2q, zcb_bd, zcb_bdq, zcx_let, zcx_letq, zcx_cp, lc_fX1_isCall]
theorem lc_fX1_takerOf {B : zMem} (x1 : Int32) (A : zMem) : fX1_takerOf x1 (zmx A B) = zcp B (fX1_takerOf x1 A) := by
  unfold fX1_takerOf
  simp (maxSteps := 2000000) (disch := first | assumption | decide | omega) only [zmx_1c, zmx_2c, zmx_R, zcx_ldI, zcx_ldJ, zcx_stI, zcx_stJ, zcx_stB, zcx_stZ, zcx_pI, zcx_pJ, zcx_pR, zcp_zb2, zcp_bd, zcq_zb2, zcq_bd, zcp_if, zcq_if, zcp_some, zcq_some, zcp_none, zcq_none, zcp_let, zcq_let, zcp_gb, zcq_gb, zcb_zb2, zcb_zb2q, zcb_bd, zcb_bdq, zcx_let, zcx_letq, zcx_cp, lc_fX1_isCall]
theorem lc_fX1_sinceOf {B : zMem} (x1 : Int32) (A : zMem) : fX1_sinceOf x1 (zmx A B) = zcp B (fX1_sinceOf x1 A) := by
  unfold fX1_sinceOf
  simp (maxSteps := 2000000) (disch := first | assumption | decide | omega) only [zmx_1c, zmx_2c, zmx_R, zcx_ldI, zcx_ldJ, zcx_stI, zcx_stJ, zcx_stB, zcx_stZ, zcx_pI, zcx_pJ, zcx_pR, zcp_zb2, zcp_bd, zcq_zb2, zcq_bd, zcp_if, zcq_if, zcp_some, zcq_some, zcp_none, zcq_none, zcp_let, zcq_let, zcp_gb, zcq_gb, zcb_zb2, zcb_zb2q, zcb_bd, zcb_bdq, zcx_let, zcx_letq, zcx_cp, lc_fX1_isCall]
theorem lc_fX1_endOf {B : zMem} (x1 : Int32) (A : zMem) : fX1_endOf x1 (zmx A B) = zcp B (fX1_endOf x1 A) := by
  unfold fX1_endOf
  simp (maxSteps := 2000000) (disch := first | assumption | decide | omega) only [zmx_1c, zmx_2c, zmx_R, zcx_ldI, zcx_ldJ, zcx_stI, zcx_stJ, zcx_stB, zcx_stZ, zcx_pI, zcx_pJ, zcx_pR, zcp_zb2, zcp_bd, zcq_zb2, zcq_bd, zcp_if, zcq_if, zcp_some, zcq_some, zcp_none, zcq_none, zcp_let, zcq_let, zcp_gb, zcq_gb, zcb_zb2, zcb_zb2q, zcb_bd, zcb_bdq, zcx_let, zcx_letq, zcx_cp, lc_fX1_isCall]
theorem lc_fX1_isWaiting {B : zMem} (x1 : Int32) (x2 : Int32) (A : zMem) : fX1_isWaiting x1 x2 (zmx A B) = zcp B (fX1_isWaiting x1 x2 A) := by
  unfold fX1_isWaiting
  simp (maxSteps := 2000000) (disch := first | assumption | decide | omega) only [zmx_1c, zmx_2c, zmx_R, zcx_ldI, zcx_ldJ, zcx_stI, zcx_stJ, zcx_stB, zcx_stZ, zcx_pI, zcx_pJ, zcx_pR, zcp_zb2, zcp_bd, zcq_zb2, zcq_bd, zcp_if, zcq_if, zcp_some, zcq_some, zcp_none, zcq_none, zcp_let, zcq_let, zcp_gb, zcq_gb, zcb_zb2, zcb_zb2q, zcb_bd, zcb_bdq, zcx_let, zcx_letq, zcx_cp, lc_fX1_isCall]
theorem lc_fX1_give {B : zMem} (x1 : Int32) (x2 : Int32) (x3 : Int32) (A : zMem) : fX1_give x1 x2 x3 (zmx A B) = zcq B (fX1_give x1 x2 x3 A) := by
  unfold fX1_give
  simp (maxSteps := 2000000) (disch := first | assumption | decide | omega) only [zmx_1c, zmx_2c, zmx_R, zcx_ldI, zcx_ldJ, zcx_stI, zcx_stJ, zcx_stB, zcx_stZ, zcx_pI, zcx_pJ, zcx_pR, zcp_zb2, zcp_bd, zcq_zb2, zcq_bd, zcp_if, zcq_if, zcp_some, zcq_some, zcp_none, zcq_none, zcp_let, zcq_let, zcp_gb, zcq_gb, zcb_zb2, zcb_zb2q, zcb_bd, zcb_bdq, zcx_let, zcx_letq, zcx_cp, lc_fX1_isCall]
theorem lc_fX1_drop {B : zMem} (x1 : Int32) (x2 : Int32) (A : zMem) : fX1_drop x1 x2 (zmx A B) = zcq B (fX1_drop x1 x2 A) := by
  unfold fX1_drop
  simp (maxSteps := 2000000) (disch := first | assumption | decide | omega) only [zmx_1c, zmx_2c, zmx_R, zcx_ldI, zcx_ldJ, zcx_stI, zcx_stJ, zcx_stB, zcx_stZ, zcx_pI, zcx_pJ, zcx_pR, zcp_zb2, zcp_bd, zcq_zb2, zcq_bd, zcp_if, zcq_if, zcp_some, zcq_some, zcp_none, zcq_none, zcp_let, zcq_let, zcp_gb, zcq_gb, zcb_zb2, zcb_zb2q, zcb_bd, zcb_bdq, zcx_let, zcx_letq, zcx_cp, lc_fX1_isCall]
theorem lc_fX1_leave {B : zMem} (x1 : Int32) (A : zMem) : fX1_leave x1 (zmx A B) = zcq B (fX1_leave x1 A) := by
  unfold fX1_leave
  simp (maxSteps := 2000000) (disch := first | assumption | decide | omega) only [zmx_1c, zmx_2c, zmx_R, zcx_ldI, zcx_ldJ, zcx_stI, zcx_stJ, zcx_stB, zcx_stZ, zcx_pI, zcx_pJ, zcx_pR, zcp_zb2, zcp_bd, zcq_zb2, zcq_bd, zcp_if, zcq_if, zcp_some, zcq_some, zcp_none, zcq_none, zcp_let, zcq_let, zcp_gb, zcq_gb, zcb_zb2, zcb_zb2q, zcb_bd, zcb_bdq, zcx_let, zcx_letq, zcx_cp, lc_fX1_isCall]
theorem lc_fX1_countState_L25 {B : zMem} (N : Nat) (k4 : Int32 → Int32 → Int32 → zMem → Option (Int32 × zMem)) (hk4 : ∀ (y0 : Int32) (y1 : Int32) (y2 : Int32) (A : zMem), k4 y0 y1 y2 (zmx A B) = zcp B (k4 y0 y1 y2 A)) (x1 : Int32) (x2 : Int32) (x3 : Int32) (A : zMem) : fX1_countState_L25 N k4 x1 x2 x3 (zmx A B) = zcp B (fX1_countState_L25 N k4 x1 x2 x3 A) := by
  unfold fX1_countState_L25
  simp (maxSteps := 2000000) (disch := first | assumption | decide | omega) only [zmx_1c, zmx_2c, zmx_R, zcx_ldI, zcx_ldJ, zcx_stI, zcx_stJ, zcx_stB, zcx_stZ, zcx_pI, zcx_pJ, zcx_pR, zcp_zb2, zcp_bd, zcq_zb2, zcq_bd, zcp_if, zcq_if, zcp_some, zcq_some, zcp_none, zcq_none, zcp_let, zcq_let, zcp_gb, zcq_gb, zcb_zb2, zcb_zb2q, zcb_bd, zcb_bdq, zcx_let, zcx_letq, zcx_cp, hk4]
theorem lc_fX1_countState_L4 {B : zMem} (N : Nat) : ∀ (n : Nat) (z0 : Int32) (z1 : Int32) (z2 : Int32) (A : zMem), fX1_countState_L4 N n z0 z1 z2 (zmx A B) = zcp B (fX1_countState_L4 N n z0 z1 z2 A) := by
  intro n
  induction n with
  | zero => intros; rfl
  | succ n ih =>
    intro z0 z1 z2 A
    simp (maxSteps := 2000000) (disch := first | assumption | decide | omega) only [fX1_countState_L4, zmx_1c, zmx_2c, zmx_R, zcx_ldI, zcx_ldJ, zcx_stI, zcx_stJ, zcx_stB, zcx_stZ, zcx_pI, zcx_pJ, zcx_pR, zcp_zb2, zcp_bd, zcq_zb2, zcq_bd, zcp_if, zcq_if, zcp_some, zcq_some, zcp_none, zcq_none, zcp_let, zcq_let, zcp_gb, zcq_gb, zcb_zb2, zcb_zb2q, zcb_bd, zcb_bdq, zcx_let, zcx_letq, zcx_cp, lc_fX1_countState_L25, ih]
theorem lc_fX1_countState {B : zMem} (N : Nat) (x1 : Int32) (A : zMem) : fX1_countState N x1 (zmx A B) = zcp B (fX1_countState N x1 A) := by
  unfold fX1_countState
  simp (maxSteps := 2000000) (disch := first | assumption | decide | omega) only [zmx_1c, zmx_2c, zmx_R, zcx_ldI, zcx_ldJ, zcx_stI, zcx_stJ, zcx_stB, zcx_stZ, zcx_pI, zcx_pJ, zcx_pR, zcp_zb2, zcp_bd, zcq_zb2, zcq_bd, zcp_if, zcq_if, zcp_some, zcq_some, zcp_none, zcq_none, zcp_let, zcq_let, zcp_gb, zcq_gb, zcb_zb2, zcb_zb2q, zcb_bd, zcb_bdq, zcx_let, zcx_letq, zcx_cp, lc_fX1_countState_L4]
theorem lc_fX1_minutesOf_L46 {B : zMem} (N : Nat) (k5 : Int32 → Int32 → Int32 → Int32 → zMem → Option (Int32 × zMem)) (hk5 : ∀ (y0 : Int32) (y1 : Int32) (y2 : Int32) (y3 : Int32) (A : zMem), k5 y0 y1 y2 y3 (zmx A B) = zcp B (k5 y0 y1 y2 y3 A)) (x1 : Int32) (x2 : Int32) (x3 : Int32) (x4 : Int32) (A : zMem) : fX1_minutesOf_L46 N k5 x1 x2 x3 x4 (zmx A B) = zcp B (fX1_minutesOf_L46 N k5 x1 x2 x3 x4 A) := by
  unfold fX1_minutesOf_L46
  simp (maxSteps := 2000000) (disch := first | assumption | decide | omega) only [zmx_1c, zmx_2c, zmx_R, zcx_ldI, zcx_ldJ, zcx_stI, zcx_stJ, zcx_stB, zcx_stZ, zcx_pI, zcx_pJ, zcx_pR, zcp_zb2, zcp_bd, zcq_zb2, zcq_bd, zcp_if, zcq_if, zcp_some, zcq_some, zcp_none, zcq_none, zcp_let, zcq_let, zcp_gb, zcq_gb, zcb_zb2, zcb_zb2q, zcb_bd, zcb_bdq, zcx_let, zcx_letq, zcx_cp, hk5]
theorem lc_fX1_minutesOf_L5 {B : zMem} (N : Nat) : ∀ (n : Nat) (z0 : Int32) (z1 : Int32) (z2 : Int32) (z3 : Int32) (A : zMem), fX1_minutesOf_L5 N n z0 z1 z2 z3 (zmx A B) = zcp B (fX1_minutesOf_L5 N n z0 z1 z2 z3 A) := by
  intro n
  induction n with
  | zero => intros; rfl
  | succ n ih =>
    intro z0 z1 z2 z3 A
    simp (maxSteps := 2000000) (disch := first | assumption | decide | omega) only [fX1_minutesOf_L5, zmx_1c, zmx_2c, zmx_R, zcx_ldI, zcx_ldJ, zcx_stI, zcx_stJ, zcx_stB, zcx_stZ, zcx_pI, zcx_pJ, zcx_pR, zcp_zb2, zcp_bd, zcq_zb2, zcq_bd, zcp_if, zcq_if, zcp_some, zcq_some, zcp_none, zcq_none, zcp_let, zcq_let, zcp_gb, zcq_gb, zcb_zb2, zcb_zb2q, zcb_bd, zcb_bdq, zcx_let, zcx_letq, zcx_cp, lc_fX1_minutesOf_L46, ih]
theorem lc_fX1_minutesOf {B : zMem} (N : Nat) (x1 : Int32) (x2 : Int32) (A : zMem) : fX1_minutesOf N x1 x2 (zmx A B) = zcp B (fX1_minutesOf N x1 x2 A) := by
  unfold fX1_minutesOf
  simp (maxSteps := 2000000) (disch := first | assumption | decide | omega) only [zmx_1c, zmx_2c, zmx_R, zcx_ldI, zcx_ldJ, zcx_stI, zcx_stJ, zcx_stB, zcx_stZ, zcx_pI, zcx_pJ, zcx_pR, zcp_zb2, zcp_bd, zcq_zb2, zcq_bd, zcp_if, zcq_if, zcp_some, zcq_some, zcp_none, zcq_none, zcp_let, zcq_let, zcp_gb, zcq_gb, zcb_zb2, zcb_zb2q, zcb_bd, zcb_bdq, zcx_let, zcx_letq, zcx_cp, lc_fX1_minutesOf_L5]
theorem lc_fX1_hasHardCall_L71 {B : zMem} (N : Nat) (k3 : Int32 → Int32 → Int32 → Int32 → zMem → Option (Int32 × zMem)) (hk3 : ∀ (y0 : Int32) (y1 : Int32) (y2 : Int32) (y3 : Int32) (A : zMem), k3 y0 y1 y2 y3 (zmx A B) = zcp B (k3 y0 y1 y2 y3 A)) (x1 : Int32) (x2 : Int32) (x3 : Int32) (x4 : Int32) (A : zMem) : fX1_hasHardCall_L71 N k3 x1 x2 x3 x4 (zmx A B) = zcp B (fX1_hasHardCall_L71 N k3 x1 x2 x3 x4 A) := by
  unfold fX1_hasHardCall_L71
  simp (maxSteps := 2000000) (disch := first | assumption | decide | omega) only [zmx_1c, zmx_2c, zmx_R, zcx_ldI, zcx_ldJ, zcx_stI, zcx_stJ, zcx_stB, zcx_stZ, zcx_pI, zcx_pJ, zcx_pR, zcp_zb2, zcp_bd, zcq_zb2, zcq_bd, zcp_if, zcq_if, zcp_some, zcq_some, zcp_none, zcq_none, zcp_let, zcq_let, zcp_gb, zcq_gb, zcb_zb2, zcb_zb2q, zcb_bd, zcb_bdq, zcx_let, zcx_letq, zcx_cp, hk3]
theorem lc_fX1_hasHardCall_L39 {B : zMem} (N : Nat) (k3 : Int32 → Int32 → Int32 → Int32 → zMem → Option (Int32 × zMem)) (hk3 : ∀ (y0 : Int32) (y1 : Int32) (y2 : Int32) (y3 : Int32) (A : zMem), k3 y0 y1 y2 y3 (zmx A B) = zcp B (k3 y0 y1 y2 y3 A)) (x1 : Int32) (x2 : Int32) (x3 : Int32) (x4 : Int32) (s0 : Int32) (A : zMem) : fX1_hasHardCall_L39 N k3 x1 x2 x3 x4 s0 (zmx A B) = zcp B (fX1_hasHardCall_L39 N k3 x1 x2 x3 x4 s0 A) := by
  unfold fX1_hasHardCall_L39
  simp (maxSteps := 2000000) (disch := first | assumption | decide | omega) only [zmx_1c, zmx_2c, zmx_R, zcx_ldI, zcx_ldJ, zcx_stI, zcx_stJ, zcx_stB, zcx_stZ, zcx_pI, zcx_pJ, zcx_pR, zcp_zb2, zcp_bd, zcq_zb2, zcq_bd, zcp_if, zcq_if, zcp_some, zcq_some, zcp_none, zcq_none, zcp_let, zcq_let, zcp_gb, zcq_gb, zcb_zb2, zcb_zb2q, zcb_bd, zcb_bdq, zcx_let, zcx_letq, zcx_cp, lc_fX1_hasHardCall_L71, hk3]
theorem lc_fX1_hasHardCall_L38 {B : zMem} (N : Nat) (k3 : Int32 → Int32 → Int32 → Int32 → zMem → Option (Int32 × zMem)) (hk3 : ∀ (y0 : Int32) (y1 : Int32) (y2 : Int32) (y3 : Int32) (A : zMem), k3 y0 y1 y2 y3 (zmx A B) = zcp B (k3 y0 y1 y2 y3 A)) (x1 : Int32) (x2 : Int32) (x3 : Int32) (x4 : Int32) (A : zMem) : fX1_hasHardCall_L38 N k3 x1 x2 x3 x4 (zmx A B) = zcp B (fX1_hasHardCall_L38 N k3 x1 x2 x3 x4 A) := by
  unfold fX1_hasHardCall_L38
  simp (maxSteps := 2000000) (disch := first | assumption | decide | omega) only [zmx_1c, zmx_2c, zmx_R, zcx_ldI, zcx_ldJ, zcx_stI, zcx_stJ, zcx_stB, zcx_stZ, zcx_pI, zcx_pJ, zcx_pR, zcp_zb2, zcp_bd, zcq_zb2, zcq_bd, zcp_if, zcq_if, zcp_some, zcq_some, zcp_none, zcq_none, zcp_let, zcq_let, zcp_gb, zcq_gb, zcb_zb2, zcb_zb2q, zcb_bd, zcb_bdq, zcx_let, zcx_letq, zcx_cp, lc_fX1_hasHardCall_L39, hk3]
theorem lc_fX1_hasHardCall_L3 {B : zMem} (N : Nat) : ∀ (n : Nat) (z0 : Int32) (z1 : Int32) (z2 : Int32) (z3 : Int32) (A : zMem), fX1_hasHardCall_L3 N n z0 z1 z2 z3 (zmx A B) = zcp B (fX1_hasHardCall_L3 N n z0 z1 z2 z3 A) := by
  intro n
  induction n with
  | zero => intros; rfl
  | succ n ih =>
    intro z0 z1 z2 z3 A
    simp (maxSteps := 2000000) (disch := first | assumption | decide | omega) only [fX1_hasHardCall_L3, zmx_1c, zmx_2c, zmx_R, zcx_ldI, zcx_ldJ, zcx_stI, zcx_stJ, zcx_stB, zcx_stZ, zcx_pI, zcx_pJ, zcx_pR, zcp_zb2, zcp_bd, zcq_zb2, zcq_bd, zcp_if, zcq_if, zcp_some, zcq_some, zcp_none, zcq_none, zcp_let, zcq_let, zcp_gb, zcq_gb, zcb_zb2, zcb_zb2q, zcb_bd, zcb_bdq, zcx_let, zcx_letq, zcx_cp, lc_fX1_hasHardCall_L38, lc_fX1_hasHardCall_L39, ih]
theorem lc_fX1_hasHardCall {B : zMem} (N : Nat) (x1 : Int32) (x2 : Int32) (x3 : Int32) (A : zMem) : fX1_hasHardCall N x1 x2 x3 (zmx A B) = zcp B (fX1_hasHardCall N x1 x2 x3 A) := by
  unfold fX1_hasHardCall
  simp (maxSteps := 2000000) (disch := first | assumption | decide | omega) only [zmx_1c, zmx_2c, zmx_R, zcx_ldI, zcx_ldJ, zcx_stI, zcx_stJ, zcx_stB, zcx_stZ, zcx_pI, zcx_pJ, zcx_pR, zcp_zb2, zcp_bd, zcq_zb2, zcq_bd, zcp_if, zcq_if, zcp_some, zcq_some, zcp_none, zcq_none, zcp_let, zcq_let, zcp_gb, zcq_gb, zcb_zb2, zcb_zb2q, zcb_bd, zcb_bdq, zcx_let, zcx_letq, zcx_cp, lc_fX1_hasHardCall_L3]
theorem lc_fX11_isCaller {B : zMem} (x0 : Int32) (A : zMem) : fX11_isCaller x0 (zmx A B) = zcp B (fX11_isCaller x0 A) := by
  unfold fX11_isCaller
  simp (maxSteps := 2000000) (disch := first | assumption | decide | omega) only [zmx_1c, zmx_2c, zmx_R, zcx_ldI, zcx_ldJ, zcx_stI, zcx_stJ, zcx_stB, zcx_stZ, zcx_pI, zcx_pJ, zcx_pR, zcp_zb2, zcp_bd, zcq_zb2, zcq_bd, zcp_if, zcq_if, zcp_some, zcq_some, zcp_none, zcq_none, zcp_let, zcq_let, zcp_gb, zcq_gb, zcb_zb2, zcb_zb2q, zcb_bd, zcb_bdq, zcx_let, zcx_letq, zcx_cp]
theorem lc_fX2_begin_L125 {B : zMem} (N : Nat) (k73 : Int32 → zMem → Option zMem) (hk73 : ∀ (y0 : Int32) (A : zMem), k73 y0 (zmx A B) = zcq B (k73 y0 A)) (x3 : Int32) (A : zMem) : fX2_begin_L125 N k73 x3 (zmx A B) = zcq B (fX2_begin_L125 N k73 x3 A) := by
  unfold fX2_begin_L125
  simp (maxSteps := 2000000) (disch := first | assumption | decide | omega) only [zmx_1c, zmx_2c, zmx_R, zcx_ldI, zcx_ldJ, zcx_stI, zcx_stJ, zcx_stB, zcx_stZ, zcx_pI, zcx_pJ, zcx_pR, zcp_zb2, zcp_bd, zcq_zb2, zcq_bd, zcp_if, zcq_if, zcp_some, zcq_some, zcp_none, zcq_none, zcp_let, zcq_let, zcp_gb, zcq_gb, zcb_zb2, zcb_zb2q, zcb_bd, zcb_bdq, zcx_let, zcx_letq, zcx_cp, hk73]
theorem lc_fX2_begin_L73 {B : zMem} (N : Nat) : ∀ (n : Nat) (z0 : Int32) (A : zMem), fX2_begin_L73 N n z0 (zmx A B) = zcq B (fX2_begin_L73 N n z0 A) := by
  intro n
  induction n with
  | zero => intros; rfl
  | succ n ih =>
    intro z0 A
    simp (maxSteps := 2000000) (disch := first | assumption | decide | omega) only [fX2_begin_L73, zmx_1c, zmx_2c, zmx_R, zcx_ldI, zcx_ldJ, zcx_stI, zcx_stJ, zcx_stB, zcx_stZ, zcx_pI, zcx_pJ, zcx_pR, zcp_zb2, zcp_bd, zcq_zb2, zcq_bd, zcp_if, zcq_if, zcp_some, zcq_some, zcp_none, zcq_none, zcp_let, zcq_let, zcp_gb, zcq_gb, zcb_zb2, zcb_zb2q, zcb_bd, zcb_bdq, zcx_let, zcx_letq, zcx_cp, lc_fX1_nightStart, lc_fX1_callerOf, lc_fX1_stateOf, lc_fX11_isCaller, lc_fX2_begin_L125, ih]
theorem lc_fX2_begin_L52 {B : zMem} (N : Nat) : ∀ (n : Nat) (z0 : Int32) (A : zMem), fX2_begin_L52 N n z0 (zmx A B) = zcq B (fX2_begin_L52 N n z0 A) := by
  intro n
  induction n with
  | zero => intros; rfl
  | succ n ih =>
    intro z0 A
    simp (maxSteps := 2000000) (disch := first | assumption | decide | omega) only [fX2_begin_L52, zmx_1c, zmx_2c, zmx_R, zcx_ldI, zcx_ldJ, zcx_stI, zcx_stJ, zcx_stB, zcx_stZ, zcx_pI, zcx_pJ, zcx_pR, zcp_zb2, zcp_bd, zcq_zb2, zcq_bd, zcp_if, zcq_if, zcp_some, zcq_some, zcp_none, zcq_none, zcp_let, zcq_let, zcp_gb, zcq_gb, zcb_zb2, zcb_zb2q, zcb_bd, zcb_bdq, zcx_let, zcx_letq, zcx_cp, lc_fX2_begin_L73, ih]
theorem lc_fX2_begin_L17 {B : zMem} (N : Nat) : ∀ (n : Nat) (z0 : Int32) (A : zMem), fX2_begin_L17 N n z0 (zmx A B) = zcq B (fX2_begin_L17 N n z0 A) := by
  intro n
  induction n with
  | zero => intros; rfl
  | succ n ih =>
    intro z0 A
    simp (maxSteps := 2000000) (disch := first | assumption | decide | omega) only [fX2_begin_L17, zmx_1c, zmx_2c, zmx_R, zcx_ldI, zcx_ldJ, zcx_stI, zcx_stJ, zcx_stB, zcx_stZ, zcx_pI, zcx_pJ, zcx_pR, zcp_zb2, zcp_bd, zcq_zb2, zcq_bd, zcp_if, zcq_if, zcp_some, zcq_some, zcp_none, zcq_none, zcp_let, zcq_let, zcp_gb, zcq_gb, zcb_zb2, zcb_zb2q, zcb_bd, zcb_bdq, zcx_let, zcx_letq, zcx_cp, lc_fX2_begin_L52, ih]
theorem lc_fX2_begin {B : zMem} (N : Nat) (x1 : Int32) (x2 : Nat) (A : zMem) : fX2_begin N x1 x2 (zmx A B) = zcq B (fX2_begin N x1 x2 A) := by
  unfold fX2_begin
  simp (maxSteps := 2000000) (disch := first | assumption | decide | omega) only [zmx_1c, zmx_2c, zmx_R, zcx_ldI, zcx_ldJ, zcx_stI, zcx_stJ, zcx_stB, zcx_stZ, zcx_pI, zcx_pJ, zcx_pR, zcp_zb2, zcp_bd, zcq_zb2, zcq_bd, zcp_if, zcq_if, zcp_some, zcq_some, zcp_none, zcq_none, zcp_let, zcq_let, zcp_gb, zcq_gb, zcb_zb2, zcb_zb2q, zcb_bd, zcb_bdq, zcx_let, zcx_letq, zcx_cp, lc_fX2_begin_L17]
theorem lc_fX2_setFacts_L88 {B : zMem} (x4 : Int32) (s1 : Int32) (s2 : Int32) (A : zMem) : fX2_setFacts_L88 x4 s1 s2 (zmx A B) = zcq B (fX2_setFacts_L88 x4 s1 s2 A) := by
  unfold fX2_setFacts_L88
  simp (maxSteps := 2000000) (disch := first | assumption | decide | omega) only [zmx_1c, zmx_2c, zmx_R, zcx_ldI, zcx_ldJ, zcx_stI, zcx_stJ, zcx_stB, zcx_stZ, zcx_pI, zcx_pJ, zcx_pR, zcp_zb2, zcp_bd, zcq_zb2, zcq_bd, zcp_if, zcq_if, zcp_some, zcq_some, zcp_none, zcq_none, zcp_let, zcq_let, zcp_gb, zcq_gb, zcb_zb2, zcb_zb2q, zcb_bd, zcb_bdq, zcx_let, zcx_letq, zcx_cp]
theorem lc_fX2_setFacts {B : zMem} (x1 : Int32) (x2 : Int32) (x3 : Int32) (x4 : Int32) (A : zMem) : fX2_setFacts x1 x2 x3 x4 (zmx A B) = zcq B (fX2_setFacts x1 x2 x3 x4 A) := by
  unfold fX2_setFacts
  simp (maxSteps := 2000000) (disch := first | assumption | decide | omega) only [zmx_1c, zmx_2c, zmx_R, zcx_ldI, zcx_ldJ, zcx_stI, zcx_stJ, zcx_stB, zcx_stZ, zcx_pI, zcx_pJ, zcx_pR, zcp_zb2, zcp_bd, zcq_zb2, zcq_bd, zcp_if, zcq_if, zcp_some, zcq_some, zcp_none, zcq_none, zcp_let, zcq_let, zcp_gb, zcq_gb, zcb_zb2, zcb_zb2q, zcb_bd, zcb_bdq, zcx_let, zcx_letq, zcx_cp, lc_fX1_callerOf, lc_fX1_needOf, lc_fX1_topicOf, lc_fX1_minuteOf, lc_fX11_isCaller, lc_fX2_setFacts_L88]
theorem lc_fX6_combine {B : zMem} (x0 : Int32) (x1 : Int32) (x2 : Int32) (A : zMem) : fX6_combine x0 x1 x2 (zmx A B) = zcp B (fX6_combine x0 x1 x2 A) := by
  unfold fX6_combine
  simp (maxSteps := 2000000) (disch := first | assumption | decide | omega) only [zmx_1c, zmx_2c, zmx_R, zcx_ldI, zcx_ldJ, zcx_stI, zcx_stJ, zcx_stB, zcx_stZ, zcx_pI, zcx_pJ, zcx_pR, zcp_zb2, zcp_bd, zcq_zb2, zcq_bd, zcp_if, zcq_if, zcp_some, zcq_some, zcp_none, zcq_none, zcp_let, zcq_let, zcp_gb, zcq_gb, zcb_zb2, zcb_zb2q, zcb_bd, zcb_bdq, zcx_let, zcx_letq, zcx_cp]
theorem lc_fX6_workOut_L157 {B : zMem} (r0 : Nat) (N : Nat) (k10 : Int32 → Int32 → Int32 → zMem → Option (Int32 × zMem)) (hk10 : ∀ (y0 : Int32) (y1 : Int32) (y2 : Int32) (A : zMem), k10 y0 y1 y2 (zmx A B) = zcp B (k10 y0 y1 y2 A)) (x2 : Int32) (x4 : Int32) (x5 : Int32) (hr : r0 = 3 ∨ r0 = 11) (A : zMem) : fX6_workOut_L157 r0 N k10 x2 x4 x5 (zmx A B) = zcp B (fX6_workOut_L157 r0 N k10 x2 x4 x5 A) := by
  unfold fX6_workOut_L157
  simp (maxSteps := 2000000) (disch := first | assumption | decide | omega) only [zmx_1c, zmx_2c, zmx_R, zcx_ldI, zcx_ldJ, zcx_stI, zcx_stJ, zcx_stB, zcx_stZ, zcx_pI, zcx_pJ, zcx_pR, zcp_zb2, zcp_bd, zcq_zb2, zcq_bd, zcp_if, zcq_if, zcp_some, zcq_some, zcp_none, zcq_none, zcp_let, zcq_let, zcp_gb, zcq_gb, zcb_zb2, zcb_zb2q, zcb_bd, zcb_bdq, zcx_let, zcx_letq, zcx_cp, hk10]
theorem lc_fX6_workOut_L118 {B : zMem} (r0 : Nat) (N : Nat) (k10 : Int32 → Int32 → Int32 → zMem → Option (Int32 × zMem)) (hk10 : ∀ (y0 : Int32) (y1 : Int32) (y2 : Int32) (A : zMem), k10 y0 y1 y2 (zmx A B) = zcp B (k10 y0 y1 y2 A)) (x2 : Int32) (x4 : Int32) (x5 : Int32) (x6 : Int32) (hr : r0 = 3 ∨ r0 = 11) (A : zMem) : fX6_workOut_L118 r0 N k10 x2 x4 x5 x6 (zmx A B) = zcp B (fX6_workOut_L118 r0 N k10 x2 x4 x5 x6 A) := by
  unfold fX6_workOut_L118
  simp (maxSteps := 2000000) (disch := first | assumption | decide | omega) only [zmx_1c, zmx_2c, zmx_R, zcx_ldI, zcx_ldJ, zcx_stI, zcx_stJ, zcx_stB, zcx_stZ, zcx_pI, zcx_pJ, zcx_pR, zcp_zb2, zcp_bd, zcq_zb2, zcq_bd, zcp_if, zcq_if, zcp_some, zcq_some, zcp_none, zcq_none, zcp_let, zcq_let, zcp_gb, zcq_gb, zcb_zb2, zcb_zb2q, zcb_bd, zcb_bdq, zcx_let, zcx_letq, zcx_cp, lc_fX6_workOut_L157, lc_fX6_combine, hk10]
theorem lc_fX6_workOut_L76 {B : zMem} (r0 : Nat) (N : Nat) (k10 : Int32 → Int32 → Int32 → zMem → Option (Int32 × zMem)) (hk10 : ∀ (y0 : Int32) (y1 : Int32) (y2 : Int32) (A : zMem), k10 y0 y1 y2 (zmx A B) = zcp B (k10 y0 y1 y2 A)) (x2 : Int32) (x4 : Int32) (x5 : Int32) (x6 : Int32) (x7 : Int32) (hr : r0 = 3 ∨ r0 = 11) (A : zMem) : fX6_workOut_L76 r0 N k10 x2 x4 x5 x6 x7 (zmx A B) = zcp B (fX6_workOut_L76 r0 N k10 x2 x4 x5 x6 x7 A) := by
  unfold fX6_workOut_L76
  simp (maxSteps := 2000000) (disch := first | assumption | decide | omega) only [zmx_1c, zmx_2c, zmx_R, zcx_ldI, zcx_ldJ, zcx_stI, zcx_stJ, zcx_stB, zcx_stZ, zcx_pI, zcx_pJ, zcx_pR, zcp_zb2, zcp_bd, zcq_zb2, zcq_bd, zcp_if, zcq_if, zcp_some, zcq_some, zcp_none, zcq_none, zcp_let, zcq_let, zcp_gb, zcq_gb, zcb_zb2, zcb_zb2q, zcb_bd, zcb_bdq, zcx_let, zcx_letq, zcx_cp, lc_fX6_workOut_L118, lc_fX6_workOut_L157, hk10]
theorem lc_fX6_workOut_L163 {B : zMem} (r0 : Nat) (N : Nat) (hr : r0 = 3 ∨ r0 = 11) (A : zMem) : fX6_workOut_L163 r0 N (zmx A B) = zcp B (fX6_workOut_L163 r0 N A) := by
  unfold fX6_workOut_L163
  simp (maxSteps := 2000000) (disch := first | assumption | decide | omega) only [zmx_1c, zmx_2c, zmx_R, zcx_ldI, zcx_ldJ, zcx_stI, zcx_stJ, zcx_stB, zcx_stZ, zcx_pI, zcx_pJ, zcx_pR, zcp_zb2, zcp_bd, zcq_zb2, zcq_bd, zcp_if, zcq_if, zcp_some, zcq_some, zcp_none, zcq_none, zcp_let, zcq_let, zcp_gb, zcq_gb, zcb_zb2, zcb_zb2q, zcb_bd, zcb_bdq, zcx_let, zcx_letq, zcx_cp]
theorem lc_fX6_workOut_L10 {B : zMem} (r0 : Nat) (N : Nat) (hr : r0 = 3 ∨ r0 = 11) : ∀ (n : Nat) (z0 : Int32) (z1 : Int32) (z2 : Int32) (A : zMem), fX6_workOut_L10 r0 N n z0 z1 z2 (zmx A B) = zcp B (fX6_workOut_L10 r0 N n z0 z1 z2 A) := by
  intro n
  induction n with
  | zero => intros; rfl
  | succ n ih =>
    intro z0 z1 z2 A
    simp (maxSteps := 2000000) (disch := first | assumption | decide | omega) only [fX6_workOut_L10, zmx_1c, zmx_2c, zmx_R, zcx_ldI, zcx_ldJ, zcx_stI, zcx_stJ, zcx_stB, zcx_stZ, zcx_pI, zcx_pJ, zcx_pR, zcp_zb2, zcp_bd, zcq_zb2, zcq_bd, zcp_if, zcq_if, zcp_some, zcq_some, zcp_none, zcq_none, zcp_let, zcq_let, zcp_gb, zcq_gb, zcb_zb2, zcb_zb2q, zcb_bd, zcb_bdq, zcx_let, zcx_letq, zcx_cp, lc_fX6_workOut_L163, lc_fX6_workOut_L76, lc_fX6_workOut_L157, ih]
theorem lc_fX6_workOut {B : zMem} (N : Nat) (r0 : Nat) (x1 : Int32) (x2 : Int32) (hr : r0 = 3 ∨ r0 = 11) (A : zMem) : fX6_workOut N r0 x1 x2 (zmx A B) = zcp B (fX6_workOut N r0 x1 x2 A) := by
  unfold fX6_workOut
  simp (maxSteps := 2000000) (disch := first | assumption | decide | omega) only [zmx_1c, zmx_2c, zmx_R, zcx_ldI, zcx_ldJ, zcx_stI, zcx_stJ, zcx_stB, zcx_stZ, zcx_pI, zcx_pJ, zcx_pR, zcp_zb2, zcp_bd, zcq_zb2, zcq_bd, zcp_if, zcq_if, zcp_some, zcq_some, zcp_none, zcq_none, zcp_let, zcq_let, zcp_gb, zcq_gb, zcb_zb2, zcb_zb2q, zcb_bd, zcb_bdq, zcx_let, zcx_letq, zcx_cp, lc_fX6_workOut_L10]
theorem lcd_fX6_workOut {B : zMem} (N : Nat) (r0 : Nat) (x1 : Int32) (x2 : Int32) (A : zMem) : zdy r0 (fX6_workOut N r0 x1 x2 (zmx A B)) = zcp B (zdy r0 (fX6_workOut N r0 x1 x2 A)) := zcd_p fun q => lc_fX6_workOut _ _ _ _ q A
theorem lc_fX6_holds_L49 {B : zMem} (r0 : Nat) (N : Nat) (hr : r0 = 3 ∨ r0 = 11) (A : zMem) : fX6_holds_L49 r0 N (zmx A B) = zcp B (fX6_holds_L49 r0 N A) := by
  unfold fX6_holds_L49
  simp (maxSteps := 2000000) (disch := first | assumption | decide | omega) only [zmx_1c, zmx_2c, zmx_R, zcx_ldI, zcx_ldJ, zcx_stI, zcx_stJ, zcx_stB, zcx_stZ, zcx_pI, zcx_pJ, zcx_pR, zcp_zb2, zcp_bd, zcq_zb2, zcq_bd, zcp_if, zcq_if, zcp_some, zcq_some, zcp_none, zcq_none, zcp_let, zcq_let, zcp_gb, zcq_gb, zcb_zb2, zcb_zb2q, zcb_bd, zcb_bdq, zcx_let, zcx_letq, zcx_cp]
theorem lc_fX6_holds {B : zMem} (N : Nat) (r0 : Nat) (x1 : Int32) (hr : r0 = 3 ∨ r0 = 11) (A : zMem) : fX6_holds N r0 x1 (zmx A B) = zcp B (fX6_holds N r0 x1 A) := by
  unfold fX6_holds
  simp (maxSteps := 2000000) (disch := first | assumption | decide | omega) only [zmx_1c, zmx_2c, zmx_R, zcx_ldI, zcx_ldJ, zcx_stI, zcx_stJ, zcx_stB, zcx_stZ, zcx_pI, zcx_pJ, zcx_pR, zcp_zb2, zcp_bd, zcq_zb2, zcq_bd, zcp_if, zcq_if, zcp_some, zcq_some, zcp_none, zcq_none, zcp_let, zcq_let, zcp_gb, zcq_gb, zcb_zb2, zcb_zb2q, zcb_bd, zcb_bdq, zcx_let, zcx_letq, zcx_cp, lc_fX6_holds_L49, lc_fX6_workOut]
theorem lcd_fX6_holds {B : zMem} (N : Nat) (r0 : Nat) (x1 : Int32) (A : zMem) : zdy r0 (fX6_holds N r0 x1 (zmx A B)) = zcp B (zdy r0 (fX6_holds N r0 x1 A)) := zcd_p fun q => lc_fX6_holds _ _ _ q A
theorem lc_fX6_firstHolding_L31 {B : zMem} (r0 : Nat) (N : Nat) (k2 : Int32 → Int32 → zMem → Option (Int32 × zMem)) (hk2 : ∀ (y0 : Int32) (y1 : Int32) (A : zMem), k2 y0 y1 (zmx A B) = zcp B (k2 y0 y1 A)) (x1 : Int32) (x3 : Int32) (hr : r0 = 3 ∨ r0 = 11) (A : zMem) : fX6_firstHolding_L31 r0 N k2 x1 x3 (zmx A B) = zcp B (fX6_firstHolding_L31 r0 N k2 x1 x3 A) := by
  unfold fX6_firstHolding_L31
  simp (maxSteps := 2000000) (disch := first | assumption | decide | omega) only [zmx_1c, zmx_2c, zmx_R, zcx_ldI, zcx_ldJ, zcx_stI, zcx_stJ, zcx_stB, zcx_stZ, zcx_pI, zcx_pJ, zcx_pR, zcp_zb2, zcp_bd, zcq_zb2, zcq_bd, zcp_if, zcq_if, zcp_some, zcq_some, zcp_none, zcq_none, zcp_let, zcq_let, zcp_gb, zcq_gb, zcb_zb2, zcb_zb2q, zcb_bd, zcb_bdq, zcx_let, zcx_letq, zcx_cp, hk2]
theorem lc_fX6_firstHolding_L2 {B : zMem} (r0 : Nat) (N : Nat) (hr : r0 = 3 ∨ r0 = 11) : ∀ (n : Nat) (z0 : Int32) (z1 : Int32) (A : zMem), fX6_firstHolding_L2 r0 N n z0 z1 (zmx A B) = zcp B (fX6_firstHolding_L2 r0 N n z0 z1 A) := by
  intro n
  induction n with
  | zero => intros; rfl
  | succ n ih =>
    intro z0 z1 A
    simp (maxSteps := 2000000) (disch := first | assumption | decide | omega) only [fX6_firstHolding_L2, zmx_1c, zmx_2c, zmx_R, zcx_ldI, zcx_ldJ, zcx_stI, zcx_stJ, zcx_stB, zcx_stZ, zcx_pI, zcx_pJ, zcx_pR, zcp_zb2, zcp_bd, zcq_zb2, zcq_bd, zcp_if, zcq_if, zcp_some, zcq_some, zcp_none, zcq_none, zcp_let, zcq_let, zcp_gb, zcq_gb, zcb_zb2, zcb_zb2q, zcb_bd, zcb_bdq, zcx_let, zcx_letq, zcx_cp, lc_fX6_holds, lc_fX6_firstHolding_L31, ih]
theorem lc_fX6_firstHolding {B : zMem} (N : Nat) (r0 : Nat) (x1 : Int32) (hr : r0 = 3 ∨ r0 = 11) (A : zMem) : fX6_firstHolding N r0 x1 (zmx A B) = zcp B (fX6_firstHolding N r0 x1 A) := by
  unfold fX6_firstHolding
  simp (maxSteps := 2000000) (disch := first | assumption | decide | omega) only [zmx_1c, zmx_2c, zmx_R, zcx_ldI, zcx_ldJ, zcx_stI, zcx_stJ, zcx_stB, zcx_stZ, zcx_pI, zcx_pJ, zcx_pR, zcp_zb2, zcp_bd, zcq_zb2, zcq_bd, zcp_if, zcq_if, zcp_some, zcq_some, zcp_none, zcq_none, zcp_let, zcq_let, zcp_gb, zcq_gb, zcb_zb2, zcb_zb2q, zcb_bd, zcb_bdq, zcx_let, zcx_letq, zcx_cp, lc_fX6_firstHolding_L2]
theorem lcd_fX6_firstHolding {B : zMem} (N : Nat) (r0 : Nat) (x1 : Int32) (A : zMem) : zdy r0 (fX6_firstHolding N r0 x1 (zmx A B)) = zcp B (zdy r0 (fX6_firstHolding N r0 x1 A)) := zcd_p fun q => lc_fX6_firstHolding _ _ _ q A
theorem lc_fX2_dropCalls_L65 {B : zMem} (N : Nat) (k8 : Int32 → Int32 → zMem → Option zMem) (hk8 : ∀ (y0 : Int32) (y1 : Int32) (A : zMem), k8 y0 y1 (zmx A B) = zcq B (k8 y0 y1 A)) (x1 : Int32) (x2 : Int32) (A : zMem) : fX2_dropCalls_L65 N k8 x1 x2 (zmx A B) = zcq B (fX2_dropCalls_L65 N k8 x1 x2 A) := by
  unfold fX2_dropCalls_L65
  simp (maxSteps := 2000000) (disch := first | assumption | decide | omega) only [zmx_1c, zmx_2c, zmx_R, zcx_ldI, zcx_ldJ, zcx_stI, zcx_stJ, zcx_stB, zcx_stZ, zcx_pI, zcx_pJ, zcx_pR, zcp_zb2, zcp_bd, zcq_zb2, zcq_bd, zcp_if, zcq_if, zcp_some, zcq_some, zcp_none, zcq_none, zcp_let, zcq_let, zcp_gb, zcq_gb, zcb_zb2, zcb_zb2q, zcb_bd, zcb_bdq, zcx_let, zcx_letq, zcx_cp, hk8]
theorem lc_fX2_dropCalls_L8 {B : zMem} (N : Nat) : ∀ (n : Nat) (z0 : Int32) (z1 : Int32) (A : zMem), fX2_dropCalls_L8 N n z0 z1 (zmx A B) = zcq B (fX2_dropCalls_L8 N n z0 z1 A) := by
  intro n
  induction n with
  | zero => intros; rfl
  | succ n ih =>
    intro z0 z1 A
    simp (maxSteps := 2000000) (disch := first | assumption | decide | omega) only [fX2_dropCalls_L8, zmx_1c, zmx_2c, zmx_R, zcx_ldI, zcx_ldJ, zcx_stI, zcx_stJ, zcx_stB, zcx_stZ, zcx_pI, zcx_pJ, zcx_pR, zcp_zb2, zcp_bd, zcq_zb2, zcq_bd, zcp_if, zcq_if, zcp_some, zcq_some, zcp_none, zcq_none, zcp_let, zcq_let, zcp_gb, zcq_gb, zcb_zb2, zcb_zb2q, zcb_bd, zcb_bdq, zcx_let, zcx_letq, zcx_cp, lc_fX1_size, lc_fX1_isWaiting, lc_fX2_dropCalls_L65, lc_fX2_setFacts, lc_fX6_firstHolding, lc_fX1_drop, lcd_fX6_firstHolding, ih]
theorem lc_fX2_dropCalls {B : zMem} (N : Nat) (x1 : Int32) (A : zMem) : fX2_dropCalls N x1 (zmx A B) = zcq B (fX2_dropCalls N x1 A) := by
  unfold fX2_dropCalls
  simp (maxSteps := 2000000) (disch := first | assumption | decide | omega) only [zmx_1c, zmx_2c, zmx_R, zcx_ldI, zcx_ldJ, zcx_stI, zcx_stJ, zcx_stB, zcx_stZ, zcx_pI, zcx_pJ, zcx_pR, zcp_zb2, zcp_bd, zcq_zb2, zcq_bd, zcp_if, zcq_if, zcp_some, zcq_some, zcp_none, zcq_none, zcp_let, zcq_let, zcp_gb, zcq_gb, zcb_zb2, zcb_zb2q, zcb_bd, zcb_bdq, zcx_let, zcx_letq, zcx_cp, lc_fX1_nightStart, lc_fX2_dropCalls_L8]
theorem lc_fX6_numberOf {B : zMem} (r0 : Nat) (x1 : Int32) (hr : r0 = 3 ∨ r0 = 11) (A : zMem) : fX6_numberOf r0 x1 (zmx A B) = zcp B (fX6_numberOf r0 x1 A) := by
  unfold fX6_numberOf
  simp (maxSteps := 2000000) (disch := first | assumption | decide | omega) only [zmx_1c, zmx_2c, zmx_R, zcx_ldI, zcx_ldJ, zcx_stI, zcx_stJ, zcx_stB, zcx_stZ, zcx_pI, zcx_pJ, zcx_pR, zcp_zb2, zcp_bd, zcq_zb2, zcq_bd, zcp_if, zcq_if, zcp_some, zcq_some, zcp_none, zcq_none, zcp_let, zcq_let, zcp_gb, zcq_gb, zcb_zb2, zcb_zb2q, zcb_bd, zcb_bdq, zcx_let, zcx_letq, zcx_cp]
theorem lcd_fX6_numberOf {B : zMem} (r0 : Nat) (x1 : Int32) (A : zMem) : zdy r0 (fX6_numberOf r0 x1 (zmx A B)) = zcp B (zdy r0 (fX6_numberOf r0 x1 A)) := zcd_p fun q => lc_fX6_numberOf _ _ q A
theorem lc_fX2_endCalls_L108 {B : zMem} (N : Nat) (k2 : Int32 → Int32 → zMem → Option zMem) (hk2 : ∀ (y0 : Int32) (y1 : Int32) (A : zMem), k2 y0 y1 (zmx A B) = zcq B (k2 y0 y1 A)) (x1 : Int32) (x2 : Int32) (A : zMem) : fX2_endCalls_L108 N k2 x1 x2 (zmx A B) = zcq B (fX2_endCalls_L108 N k2 x1 x2 A) := by
  unfold fX2_endCalls_L108
  simp (maxSteps := 2000000) (disch := first | assumption | decide | omega) only [zmx_1c, zmx_2c, zmx_R, zcx_ldI, zcx_ldJ, zcx_stI, zcx_stJ, zcx_stB, zcx_stZ, zcx_pI, zcx_pJ, zcx_pR, zcp_zb2, zcp_bd, zcq_zb2, zcq_bd, zcp_if, zcq_if, zcp_some, zcq_some, zcp_none, zcq_none, zcp_let, zcq_let, zcp_gb, zcq_gb, zcb_zb2, zcb_zb2q, zcb_bd, zcb_bdq, zcx_let, zcx_letq, zcx_cp, hk2]
theorem lc_fX2_endCalls_L2 {B : zMem} (N : Nat) : ∀ (n : Nat) (z0 : Int32) (z1 : Int32) (A : zMem), fX2_endCalls_L2 N n z0 z1 (zmx A B) = zcq B (fX2_endCalls_L2 N n z0 z1 A) := by
  intro n
  induction n with
  | zero => intros; rfl
  | succ n ih =>
    intro z0 z1 A
    simp (maxSteps := 2000000) (disch := first | assumption | decide | omega) only [fX2_endCalls_L2, zmx_1c, zmx_2c, zmx_R, zcx_ldI, zcx_ldJ, zcx_stI, zcx_stJ, zcx_stB, zcx_stZ, zcx_pI, zcx_pJ, zcx_pR, zcp_zb2, zcp_bd, zcq_zb2, zcq_bd, zcp_if, zcq_if, zcp_some, zcq_some, zcp_none, zcq_none, zcp_let, zcq_let, zcp_gb, zcq_gb, zcb_zb2, zcb_zb2q, zcb_bd, zcb_bdq, zcx_let, zcx_letq, zcx_cp, lc_fX2_endCalls_L108, lc_fX1_endOf, lc_fX1_lengthOf, lc_fX1_sinceOf, lc_fX2_setFacts, lc_fX6_firstHolding, lc_fX6_numberOf, lcd_fX6_firstHolding, lcd_fX6_numberOf, ih]
theorem lc_fX2_endCalls {B : zMem} (N : Nat) (x1 : Int32) (A : zMem) : fX2_endCalls N x1 (zmx A B) = zcq B (fX2_endCalls N x1 A) := by
  unfold fX2_endCalls
  simp (maxSteps := 2000000) (disch := first | assumption | decide | omega) only [zmx_1c, zmx_2c, zmx_R, zcx_ldI, zcx_ldJ, zcx_stI, zcx_stJ, zcx_stB, zcx_stZ, zcx_pI, zcx_pJ, zcx_pR, zcp_zb2, zcp_bd, zcq_zb2, zcq_bd, zcp_if, zcq_if, zcp_some, zcq_some, zcp_none, zcq_none, zcp_let, zcq_let, zcp_gb, zcq_gb, zcb_zb2, zcb_zb2q, zcb_bd, zcb_bdq, zcx_let, zcx_letq, zcx_cp, lc_fX2_endCalls_L2]
theorem lc_fX2_isFree {B : zMem} (x1 : Int32) (x2 : Int32) (A : zMem) : fX2_isFree x1 x2 (zmx A B) = zcp B (fX2_isFree x1 x2 A) := by
  unfold fX2_isFree
  simp (maxSteps := 2000000) (disch := first | assumption | decide | omega) only [zmx_1c, zmx_2c, zmx_R, zcx_ldI, zcx_ldJ, zcx_stI, zcx_stJ, zcx_stB, zcx_stZ, zcx_pI, zcx_pJ, zcx_pR, zcp_zb2, zcp_bd, zcq_zb2, zcq_bd, zcp_if, zcq_if, zcp_some, zcq_some, zcp_none, zcq_none, zcp_let, zcq_let, zcp_gb, zcq_gb, zcb_zb2, zcb_zb2q, zcb_bd, zcb_bdq, zcx_let, zcx_letq, zcx_cp, lc_fX0_hoursOf]
theorem lc_fX6_kindOf {B : zMem} (r0 : Nat) (x1 : Int32) (hr : r0 = 3 ∨ r0 = 11) (A : zMem) : fX6_kindOf r0 x1 (zmx A B) = zcp B (fX6_kindOf r0 x1 A) := by
  unfold fX6_kindOf
  simp (maxSteps := 2000000) (disch := first | assumption | decide | omega) only [zmx_1c, zmx_2c, zmx_R, zcx_ldI, zcx_ldJ, zcx_stI, zcx_stJ, zcx_stB, zcx_stZ, zcx_pI, zcx_pJ, zcx_pR, zcp_zb2, zcp_bd, zcq_zb2, zcq_bd, zcp_if, zcq_if, zcp_some, zcq_some, zcp_none, zcq_none, zcp_let, zcq_let, zcp_gb, zcq_gb, zcb_zb2, zcb_zb2q, zcb_bd, zcb_bdq, zcx_let, zcx_letq, zcx_cp]
theorem lcd_fX6_kindOf {B : zMem} (r0 : Nat) (x1 : Int32) (A : zMem) : zdy r0 (fX6_kindOf r0 x1 (zmx A B)) = zcp B (zdy r0 (fX6_kindOf r0 x1 A)) := zcd_p fun q => lc_fX6_kindOf _ _ q A
theorem lc_fX6_size {B : zMem} (r0 : Nat) (hr : r0 = 3 ∨ r0 = 11) (A : zMem) : fX6_size r0 (zmx A B) = zcp B (fX6_size r0 A) := by
  unfold fX6_size
  simp (maxSteps := 2000000) (disch := first | assumption | decide | omega) only [zmx_1c, zmx_2c, zmx_R, zcx_ldI, zcx_ldJ, zcx_stI, zcx_stJ, zcx_stB, zcx_stZ, zcx_pI, zcx_pJ, zcx_pR, zcp_zb2, zcp_bd, zcq_zb2, zcq_bd, zcp_if, zcq_if, zcp_some, zcq_some, zcp_none, zcq_none, zcp_let, zcq_let, zcp_gb, zcq_gb, zcb_zb2, zcb_zb2q, zcb_bd, zcb_bdq, zcx_let, zcx_letq, zcx_cp]
theorem lcd_fX6_size {B : zMem} (r0 : Nat) (A : zMem) : zdy r0 (fX6_size r0 (zmx A B)) = zcp B (zdy r0 (fX6_size r0 A)) := zcd_p fun q => lc_fX6_size _ q A
theorem lc_fX9_isStep {B : zMem} (x1 : Int32) (A : zMem) : fX9_isStep x1 (zmx A B) = zcp B (fX9_isStep x1 A) := by
  unfold fX9_isStep
  simp (maxSteps := 2000000) (disch := first | assumption | decide | omega) only [zmx_1c, zmx_2c, zmx_R, zcx_ldI, zcx_ldJ, zcx_stI, zcx_stJ, zcx_stB, zcx_stZ, zcx_pI, zcx_pJ, zcx_pR, zcp_zb2, zcp_bd, zcq_zb2, zcq_bd, zcp_if, zcq_if, zcp_some, zcq_some, zcp_none, zcq_none, zcp_let, zcq_let, zcp_gb, zcq_gb, zcb_zb2, zcb_zb2q, zcb_bd, zcb_bdq, zcx_let, zcx_letq, zcx_cp]
theorem lc_fX9_isVolunteer {B : zMem} (x1 : Int32) (A : zMem) : fX9_isVolunteer x1 (zmx A B) = zcp B (fX9_isVolunteer x1 A) := by
  unfold fX9_isVolunteer
  simp (maxSteps := 2000000) (disch := first | assumption | decide | omega) only [zmx_1c, zmx_2c, zmx_R, zcx_ldI, zcx_ldJ, zcx_stI, zcx_stJ, zcx_stB, zcx_stZ, zcx_pI, zcx_pJ, zcx_pR, zcp_zb2, zcp_bd, zcq_zb2, zcq_bd, zcp_if, zcq_if, zcp_some, zcq_some, zcp_none, zcq_none, zcp_let, zcq_let, zcp_gb, zcq_gb, zcb_zb2, zcb_zb2q, zcb_bd, zcb_bdq, zcx_let, zcx_letq, zcx_cp]
theorem lc_fX9_learnedBit {B : zMem} (x0 : Int32) (x1 : Int32) (A : zMem) : fX9_learnedBit x0 x1 (zmx A B) = zcp B (fX9_learnedBit x0 x1 A) := by
  unfold fX9_learnedBit
  simp (maxSteps := 2000000) (disch := first | assumption | decide | omega) only [zmx_1c, zmx_2c, zmx_R, zcx_ldI, zcx_ldJ, zcx_stI, zcx_stJ, zcx_stB, zcx_stZ, zcx_pI, zcx_pJ, zcx_pR, zcp_zb2, zcp_bd, zcq_zb2, zcq_bd, zcp_if, zcq_if, zcp_some, zcq_some, zcp_none, zcq_none, zcp_let, zcq_let, zcp_gb, zcq_gb, zcb_zb2, zcb_zb2q, zcb_bd, zcb_bdq, zcx_let, zcx_letq, zcx_cp]
theorem lc_fX9_hasStep_L31 {B : zMem} (N : Nat) : ∀ (n : Nat) (z0 : Int32) (z1 : Int32) (z2 : Int32) (z3 : Int32) (A : zMem), fX9_hasStep_L31 N n z0 z1 z2 z3 (zmx A B) = zcp B (fX9_hasStep_L31 N n z0 z1 z2 z3 A) := by
  intro n
  induction n with
  | zero => intros; rfl
  | succ n ih =>
    intro z0 z1 z2 z3 A
    simp (maxSteps := 2000000) (disch := first | assumption | decide | omega) only [fX9_hasStep_L31, zmx_1c, zmx_2c, zmx_R, zcx_ldI, zcx_ldJ, zcx_stI, zcx_stJ, zcx_stB, zcx_stZ, zcx_pI, zcx_pJ, zcx_pR, zcp_zb2, zcp_bd, zcq_zb2, zcq_bd, zcp_if, zcq_if, zcp_some, zcq_some, zcp_none, zcq_none, zcp_let, zcq_let, zcp_gb, zcq_gb, zcb_zb2, zcb_zb2q, zcb_bd, zcb_bdq, zcx_let, zcx_letq, zcx_cp, lc_fX9_isStep, lc_fX9_learnedBit, ih]
theorem lc_fX9_hasStep {B : zMem} (N : Nat) (x1 : Int32) (x2 : Int32) (x3 : Int32) (A : zMem) : fX9_hasStep N x1 x2 x3 (zmx A B) = zcp B (fX9_hasStep N x1 x2 x3 A) := by
  unfold fX9_hasStep
  simp (maxSteps := 2000000) (disch := first | assumption | decide | omega) only [zmx_1c, zmx_2c, zmx_R, zcx_ldI, zcx_ldJ, zcx_stI, zcx_stJ, zcx_stB, zcx_stZ, zcx_pI, zcx_pJ, zcx_pR, zcp_zb2, zcp_bd, zcq_zb2, zcq_bd, zcp_if, zcq_if, zcp_some, zcq_some, zcp_none, zcq_none, zcp_let, zcq_let, zcp_gb, zcq_gb, zcb_zb2, zcb_zb2q, zcb_bd, zcb_bdq, zcx_let, zcx_letq, zcx_cp, lc_fX9_isVolunteer, lc_fX9_isStep, lc_fX11_isNight, lc_fX9_hasStep_L31]
theorem lc_fX2_isTrained_L95 {B : zMem} (N : Nat) (k28 : Int32 → Int32 → zMem → Option (Int32 × zMem)) (hk28 : ∀ (y0 : Int32) (y1 : Int32) (A : zMem), k28 y0 y1 (zmx A B) = zcp B (k28 y0 y1 A)) (x1 : Int32) (x4 : Int32) (A : zMem) : fX2_isTrained_L95 N k28 x1 x4 (zmx A B) = zcp B (fX2_isTrained_L95 N k28 x1 x4 A) := by
  unfold fX2_isTrained_L95
  simp (maxSteps := 2000000) (disch := first | assumption | decide | omega) only [zmx_1c, zmx_2c, zmx_R, zcx_ldI, zcx_ldJ, zcx_stI, zcx_stJ, zcx_stB, zcx_stZ, zcx_pI, zcx_pJ, zcx_pR, zcp_zb2, zcp_bd, zcq_zb2, zcq_bd, zcp_if, zcq_if, zcp_some, zcq_some, zcp_none, zcq_none, zcp_let, zcq_let, zcp_gb, zcq_gb, zcb_zb2, zcb_zb2q, zcb_bd, zcb_bdq, zcx_let, zcx_letq, zcx_cp, hk28]
theorem lc_fX2_isTrained_L28 {B : zMem} (N : Nat) : ∀ (n : Nat) (z0 : Int32) (z1 : Int32) (A : zMem), fX2_isTrained_L28 N n z0 z1 (zmx A B) = zcp B (fX2_isTrained_L28 N n z0 z1 A) := by
  intro n
  induction n with
  | zero => intros; rfl
  | succ n ih =>
    intro z0 z1 A
    simp (maxSteps := 2000000) (disch := first | assumption | decide | omega) only [fX2_isTrained_L28, zmx_1c, zmx_2c, zmx_R, zcx_ldI, zcx_ldJ, zcx_stI, zcx_stJ, zcx_stB, zcx_stZ, zcx_pI, zcx_pJ, zcx_pR, zcp_zb2, zcp_bd, zcq_zb2, zcq_bd, zcp_if, zcq_if, zcp_some, zcq_some, zcp_none, zcq_none, zcp_let, zcq_let, zcp_gb, zcq_gb, zcb_zb2, zcb_zb2q, zcb_bd, zcb_bdq, zcx_let, zcx_letq, zcx_cp, lc_fX6_size, lc_fX6_kindOf, lc_fX6_numberOf, lc_fX9_hasStep, lc_fX6_holds, lc_fX2_isTrained_L95, lcd_fX6_size, lcd_fX6_kindOf, lcd_fX6_numberOf, lcd_fX6_holds, ih]
theorem lc_fX2_isTrained {B : zMem} (N : Nat) (x1 : Int32) (x2 : Int32) (x3 : Int32) (A : zMem) : fX2_isTrained N x1 x2 x3 (zmx A B) = zcp B (fX2_isTrained N x1 x2 x3 A) := by
  unfold fX2_isTrained
  simp (maxSteps := 2000000) (disch := first | assumption | decide | omega) only [zmx_1c, zmx_2c, zmx_R, zcx_ldI, zcx_ldJ, zcx_stI, zcx_stJ, zcx_stB, zcx_stZ, zcx_pI, zcx_pJ, zcx_pR, zcp_zb2, zcp_bd, zcq_zb2, zcq_bd, zcp_if, zcq_if, zcp_some, zcq_some, zcp_none, zcq_none, zcp_let, zcq_let, zcp_gb, zcq_gb, zcb_zb2, zcb_zb2q, zcb_bd, zcb_bdq, zcx_let, zcx_letq, zcx_cp, lc_fX2_setFacts, lc_fX2_isTrained_L28]
theorem lc_fX9_barIndex {B : zMem} (x0 : Int32) (x1 : Int32) (A : zMem) : fX9_barIndex x0 x1 (zmx A B) = zcp B (fX9_barIndex x0 x1 A) := by
  unfold fX9_barIndex
  simp (maxSteps := 2000000) (disch := first | assumption | decide | omega) only [zmx_1c, zmx_2c, zmx_R, zcx_ldI, zcx_ldJ, zcx_stI, zcx_stJ, zcx_stB, zcx_stZ, zcx_pI, zcx_pJ, zcx_pR, zcp_zb2, zcp_bd, zcq_zb2, zcq_bd, zcp_if, zcq_if, zcp_some, zcq_some, zcp_none, zcq_none, zcp_let, zcq_let, zcp_gb, zcq_gb, zcb_zb2, zcb_zb2q, zcb_bd, zcb_bdq, zcx_let, zcx_letq, zcx_cp]
theorem lc_fX9_isBarred {B : zMem} (x1 : Int32) (x2 : Int32) (x3 : Int32) (A : zMem) : fX9_isBarred x1 x2 x3 (zmx A B) = zcp B (fX9_isBarred x1 x2 x3 A) := by
  unfold fX9_isBarred
  simp (maxSteps := 2000000) (disch := first | assumption | decide | omega) only [zmx_1c, zmx_2c, zmx_R, zcx_ldI, zcx_ldJ, zcx_stI, zcx_stJ, zcx_stB, zcx_stZ, zcx_pI, zcx_pJ, zcx_pR, zcp_zb2, zcp_bd, zcq_zb2, zcq_bd, zcp_if, zcq_if, zcp_some, zcq_some, zcp_none, zcq_none, zcp_let, zcq_let, zcp_gb, zcq_gb, zcb_zb2, zcb_zb2q, zcb_bd, zcb_bdq, zcx_let, zcx_letq, zcx_cp, lc_fX11_isCaller, lc_fX9_isVolunteer, lc_fX9_barIndex]
theorem lc_fX9_size {B : zMem} (A : zMem) : fX9_size  (zmx A B) = zcp B (fX9_size  A) := by
  unfold fX9_size
  simp (maxSteps := 2000000) (disch := first | assumption | decide | omega) only [zmx_1c, zmx_2c, zmx_R, zcx_ldI, zcx_ldJ, zcx_stI, zcx_stJ, zcx_stB, zcx_stZ, zcx_pI, zcx_pJ, zcx_pR, zcp_zb2, zcp_bd, zcq_zb2, zcq_bd, zcp_if, zcq_if, zcp_some, zcq_some, zcp_none, zcq_none, zcp_let, zcq_let, zcp_gb, zcq_gb, zcb_zb2, zcb_zb2q, zcb_bd, zcb_bdq, zcx_let, zcx_letq, zcx_cp]
theorem lc_fX2_volunteerFor_L105 {B : zMem} (N : Nat) (k5 : Int32 → Int32 → Int32 → Int32 → zMem → Option (Int32 × zMem)) (hk5 : ∀ (y0 : Int32) (y1 : Int32) (y2 : Int32) (y3 : Int32) (A : zMem), k5 y0 y1 y2 y3 (zmx A B) = zcp B (k5 y0 y1 y2 y3 A)) (x1 : Int32) (x2 : Int32) (x3 : Int32) (x4 : Int32) (A : zMem) : fX2_volunteerFor_L105 N k5 x1 x2 x3 x4 (zmx A B) = zcp B (fX2_volunteerFor_L105 N k5 x1 x2 x3 x4 A) := by
  unfold fX2_volunteerFor_L105
  simp (maxSteps := 2000000) (disch := first | assumption | decide | omega) only [zmx_1c, zmx_2c, zmx_R, zcx_ldI, zcx_ldJ, zcx_stI, zcx_stJ, zcx_stB, zcx_stZ, zcx_pI, zcx_pJ, zcx_pR, zcp_zb2, zcp_bd, zcq_zb2, zcq_bd, zcp_if, zcq_if, zcp_some, zcq_some, zcp_none, zcq_none, zcp_let, zcq_let, zcp_gb, zcq_gb, zcb_zb2, zcb_zb2q, zcb_bd, zcb_bdq, zcx_let, zcx_letq, zcx_cp, hk5]
