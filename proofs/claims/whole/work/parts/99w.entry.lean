/-! AT THE ENTRY of the law: what the tables and the constants say -/
def kF : List Cond := flatC (Jvm.Cond.and given_1 narrow_1)
def ktm (i : Nat) : Term := Term.string "FriendLine$TokenScanner" (zSk.getD i 0)
theorem kx_ex : ∀ i, i < 12 → Cond.exactly (ktm i) "java/lang/String" ∈ kF := by decide +kernel
theorem kx_co : ∀ i, i < 12 → Cond.eq (.field (ktm i) "java/lang/String" "coder" "B") (.int 0) ∈ kF := by decide +kernel
theorem kx_ar : ∀ i, i < 12 → Cond.arrayOf (.field (ktm i) "java/lang/String" "value" "[B") .byte ∈ kF := by decide +kernel
theorem kx_le : ∀ i, i < 12 → Cond.eq (.length (.field (ktm i) "java/lang/String" "value" "[B")) (.int (Int32.ofNat (zLen.getD i 0))) ∈ kF := by decide +kernel
theorem kx_el : ∀ i, i < 12 → ∀ j, j < zLen.getD i 0 → Cond.eq (.elem (.field (ktm i) "java/lang/String" "value" "[B") (.int (Int32.ofNat j))) (.int ((zByt.getD i []).getD j 0)) ∈ kF := by decide +kernel
theorem kx_ne : ∀ i, i < 12 → ∀ j, j < i → Cond.not (Cond.eq (ktm j) (ktm i)) ∈ kF := by decide +kernel
theorem kx_cs : Cond.eq (.static "java/lang/String" "COMPACT_STRINGS" "Z") (.int 1) ∈ kF := by decide +kernel
theorem kx_sf : Cond.isRef (.static "jdk/internal/util/Preconditions" "SIOOBE_FORMATTER" "Ljava/util/function/BiFunction;") ∈ kF := by decide +kernel
theorem kx_sr : ∀ i, i < 12 → lw_tbl[([539, 592, 593, 594, 595, 596, 601, 602, 603, 604, 605, 606] : List Nat).getD i 0]? = some (Cond.stringRef "FriendLine$TokenScanner" (zSk.getD i 0) (zSt.getD i "")) := by decide +kernel
