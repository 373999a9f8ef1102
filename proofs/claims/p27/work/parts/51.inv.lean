/-! ===== the class's rows and the reference's rows say the same ===== -/
/-- what the class keeps, what the reference keeps -/
def keepA (a a' : qSt) : Prop := a' 0 5 = a 0 5 ∧ a' 0 6 = a 0 6 ∧ a' 1 12 = a 1 12 ∧ a' 27 2 = a 27 2 ∧ a' 27 3 = a 27 3 ∧ ∀ k, (2 ≤ k ∧ k ≤ 5) ∨ (8 ≤ k ∧ k ≤ 13) ∨ (30 ≤ k ∧ k ≤ 46) → a' k = a k
theorem keepA38 {a a' : qSt} (h : keepA a a') (h38 : a' 38 = a 38) : ∀ k, 38 ≤ k → k ≤ 45 → a' k = a k := fun k k0 k1 => by
  by_cases e : k = 38
  · rw [e]; exact h38
  · exact h.2.2.2.2.2 k (by omega)
theorem keepA.rf (a : qSt) : keepA a a := ⟨rfl, rfl, rfl, rfl, rfl, fun _ _ => rfl⟩
theorem m_isOutside {σ : qSt} {x l h : Int} (x0 : -2147483648 ≤ x) (x1 : x ≤ 2147483647) (l0 : -2147483648 ≤ l) (l1 : l ≤ 2147483647) (h0 : -2147483648 ≤ h) (h1 : h ≤ 2147483647) : fX5_isOutside σ x l h = some (if l ≤ x ∧ x ≤ h then 0 else 1) := by
  unfold fX5_isOutside
  rw [iI_lt x0 x1 l0 l1, iI_le x0 x1 h0 h1]
  by_cases e : x < l
  · rw [if_pos e, if_neg (by omega)]
  · rw [if_neg e]
    by_cases e2 : x ≤ h
    · rw [if_pos e2, if_pos (by omega)]
    · rw [if_neg e2, if_neg (by omega)]
/-- an int of the machine -/
def isI (x : Int) : Prop := -2147483648 ≤ x ∧ x ≤ 2147483647
theorem isI_xs (xs : Nat → Int32) (i : Int) : isI (qXs xs i) := by
  unfold qXs
  have h1 := Int32.le_toInt (xs i.toNat)
  have h2 := Int32.toInt_lt (xs i.toNat)
  exact ⟨by omega, by omega⟩
theorem noCell0 {σ : qSt} {x : Int} (h0 : 0 ≤ x) (h1 : x < 96) : fX5_isNoCell σ x = some 0 := by rw [m_isNoCell (by omega) (by omega), if_pos ⟨h0, h1⟩]
theorem noCell1 {σ : qSt} {x : Int} (h : isI x) (h1 : ¬ (0 ≤ x ∧ x < 96)) : fX5_isNoCell σ x = some 1 := by rw [m_isNoCell h.1 h.2, if_neg h1]
theorem noBody0 {σ : qSt} {x : Int} (h0 : 0 ≤ x) (h1 : x < 4) : fX5_isNoBody σ x = some 0 := by rw [m_isNoBody (by omega) (by omega), if_pos ⟨h0, h1⟩]
theorem noBody1 {σ : qSt} {x : Int} (h : isI x) (h1 : ¬ (0 ≤ x ∧ x < 4)) : fX5_isNoBody σ x = some 1 := by rw [m_isNoBody h.1 h.2, if_neg h1]
theorem outs0 {σ : qSt} {x l h : Int} (l0 : -2147483648 ≤ l) (h1 : h ≤ 2147483647) (a : l ≤ x) (b : x ≤ h) : fX5_isOutside σ x l h = some 0 := by rw [m_isOutside (by omega) (by omega) l0 (by omega) (by omega) h1, if_pos ⟨a, b⟩]
theorem outs1 {σ : qSt} {x l h : Int} (hx : isI x) (hl : isI l) (hh : isI h) (a : ¬ (l ≤ x ∧ x ≤ h)) : fX5_isOutside σ x l h = some 1 := by rw [m_isOutside hx.1 hx.2 hl.1 hl.2 hh.1 hh.2, if_neg a]
theorem isI_of {x : Int} (h0 : -2147483648 ≤ x) (h1 : x ≤ 2147483647) : isI x := ⟨h0, h1⟩
