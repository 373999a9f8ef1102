theorem lcmp_of {a b : Int} (a0 : -9223372036854775808 ≤ a) (a1 : a ≤ 9223372036854775807) (b0 : -9223372036854775808 ≤ b) (b1 : b ≤ 9223372036854775807) : qlcmp a b = if b < a then 1 else if a = b then 0 else -1 := by
  unfold qlcmp lg_cmp
  by_cases h : b < a
  · rw [if_pos h, if_pos (show qJ b < qJ a by rw [Int64.lt_iff_toInt_lt, qJ_of a0 (by omega), qJ_of b0 (by omega)]; exact h)]
    rfl
  · rw [if_neg h, if_neg (show ¬ qJ b < qJ a by rw [Int64.lt_iff_toInt_lt, qJ_of a0 (by omega), qJ_of b0 (by omega)]; exact h)]
    by_cases h2 : a = b
    · rw [if_pos h2, h2, if_pos rfl]
      rfl
    · rw [if_neg h2, if_neg (fun e => h2 (by have := congrArg Int64.toInt e; rw [qJ_of a0 (by omega), qJ_of b0 (by omega)] at this; exact this))]
      rfl
theorem lcmp_self (a : Int) : qlcmp a a = 0 := by
  unfold qlcmp lg_cmp
  rw [if_neg (show ¬ qJ a < qJ a by rw [Int64.lt_iff_toInt_lt]; omega), if_pos rfl]
  rfl
theorem iL_le0 {α : Type} {a b : Int} (a0 : -9223372036854775808 ≤ a) (a1 : a ≤ 9223372036854775807) (b0 : -9223372036854775808 ≤ b) (b1 : b ≤ 9223372036854775807) (x y : α) : (if qI (qlcmp a b) ≤ 0 then x else y) = if a ≤ b then x else y := by
  rw [lcmp_of a0 a1 b0 b1]
  by_cases h : b < a
  · rw [if_pos h, if_neg (by rw [mI_le0] <;> omega), if_neg (by omega)]
  · rw [if_neg h]
    by_cases h2 : a = b
    · rw [if_pos h2, if_pos (by rw [mI_le0] <;> omega), if_pos (by omega)]
    · rw [if_neg h2, if_pos (by rw [mI_le0] <;> omega), if_pos (by omega)]
theorem iL_0lt {α : Type} {a b : Int} (a0 : -9223372036854775808 ≤ a) (a1 : a ≤ 9223372036854775807) (b0 : -9223372036854775808 ≤ b) (b1 : b ≤ 9223372036854775807) (x y : α) : (if 0 < qI (qlcmp a b) then x else y) = if b < a then x else y := by
  rw [lcmp_of a0 a1 b0 b1]
  by_cases h : b < a
  · rw [if_pos h, if_pos (by rw [mI_0lt] <;> omega), if_pos h]
  · rw [if_neg h]
    by_cases h2 : a = b
    · rw [if_pos h2, if_neg (by rw [mI_0lt] <;> omega), if_neg h]
    · rw [if_neg h2, if_neg (by rw [mI_0lt] <;> omega), if_neg h]
theorem iL_0le {α : Type} {a b : Int} (a0 : -9223372036854775808 ≤ a) (a1 : a ≤ 9223372036854775807) (b0 : -9223372036854775808 ≤ b) (b1 : b ≤ 9223372036854775807) (x y : α) : (if 0 ≤ qI (qlcmp a b) then x else y) = if b ≤ a then x else y := by
  rw [lcmp_of a0 a1 b0 b1]
  by_cases h : b < a
  · rw [if_pos h, if_pos (by rw [mI_0le] <;> omega), if_pos (by omega)]
  · rw [if_neg h]
    by_cases h2 : a = b
    · rw [if_pos h2, if_pos (by rw [mI_0le] <;> omega), if_pos (by omega)]
    · rw [if_neg h2, if_neg (by rw [mI_0le] <;> omega), if_neg (by omega)]
theorem iL_eq0 {α : Type} {a b : Int} (a0 : -9223372036854775808 ≤ a) (a1 : a ≤ 9223372036854775807) (b0 : -9223372036854775808 ≤ b) (b1 : b ≤ 9223372036854775807) (x y : α) : (if qI (qlcmp a b) = 0 then x else y) = if a = b then x else y := by
  rw [lcmp_of a0 a1 b0 b1]
  by_cases h : b < a
  · rw [if_pos h, if_neg (by rw [mI_eq0] <;> omega), if_neg (by omega)]
  · rw [if_neg h]
    by_cases h2 : a = b
    · rw [if_pos h2, if_pos (by rw [mI_eq0] <;> omega), if_pos h2]
    · rw [if_neg h2, if_neg (by rw [mI_eq0] <;> omega), if_neg h2]
