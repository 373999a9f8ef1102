/-! ===== the start ===== -/
theorem qrow_same (σ : qSt) (k : Nat) : qrow σ k (σ k) = σ := by
  funext k'
  unfold qrow
  by_cases e : k' = k
  · rw [if_pos e, e]
  · rw [if_neg e]
theorem qrow_zero {σ : qSt} {k : Nat} (h : σ k = fun _ => 0) : qrow σ k (fun _ => 0) = σ := by
  funext k'
  unfold qrow
  by_cases e : k' = k
  · rw [if_pos e, e, h]
  · rw [if_neg e]
theorem qSmna_zero {σ : qSt} {k0 k1 : Nat} (h0 : σ k0 = fun _ => 0) (h : ∀ k, k1 ≤ k → k < k1 + 4 → σ k = fun _ => 0) : qSmna σ k0 k1 = σ := by
  funext k'
  unfold qSmna
  by_cases e : k' = k0 ∨ (k1 ≤ k' ∧ k' < k1 + 4)
  · rw [if_pos e]
    rcases e with e | e
    · rw [e, h0]
    · rw [h k' e.1 e.2]
  · rw [if_neg e]
theorem m_X3init {B : Nat} {σ : qSt} (h : ∀ k, B + 1 ≤ k → k ≤ B + 12 → σ k = fun _ => 0) : ∃ σ', fX3_init B σ = some (0, σ') ∧ (∀ k, k ≠ B + 2 → σ' k = σ k) ∧ ∀ x, σ' (B + 2) x = if 0 ≤ x ∧ x < 96 then -1 else 0 := by
  unfold fX3_init
  rw [mqb, qrow_zero (h (B + 1) (by omega) (by omega)), mqb, qrow_same, mqb, qrow_zero (h (B + 2) (by omega) (by omega)), mqb, qrow_same, mqb, qrow_zero (h (B + 3) (by omega) (by omega)), mqb, qrow_same, mqb, qrow_zero (h (B + 4) (by omega) (by omega)), mqb, qrow_same, mqb, qrow_zero (h (B + 5) (by omega) (by omega)), mqb, qrow_same, mqb, qrow_zero (h (B + 6) (by omega) (by omega)), mqb, qrow_same, mqb, qrow_zero (h (B + 7) (by omega) (by omega)), mqb, qrow_same, mqb, qrow_zero (h (B + 8) (by omega) (by omega)), mqb, qrow_same, mqb, qrow_zero (h (B + 9) (by omega) (by omega)), mqb, qrow_same, mqb, qrow_zero (h (B + 10) (by omega) (by omega)), mqb, qrow_same, mqb, qrow_zero (h (B + 11) (by omega) (by omega)), mqb, qrow_same, mqb, qrow_zero (h (B + 12) (by omega) (by omega)), mqb, qrow_same]
  obtain ⟨σ', e1, e2, e3⟩ := mfill (B + 2) (-1) σ
  rw [e1, mqbd]
  refine ⟨σ', rfl, e2, fun x => ?_⟩
  rw [e3 x, h (B + 2) (by omega) (by omega)]
theorem m_X5init {σ : qSt} (h : ∀ k, k < 64 → σ k = fun _ => 0) : ∃ σ', fX5_init σ = some (0, σ') ∧ (∀ k, k ≠ 3 → k ≠ 16 → σ' k = σ k) ∧ ∀ x, σ' 3 x = if 0 ≤ x ∧ x < 96 then -1 else 0 := by
  unfold fX5_init fX0_init fX1_init
  obtain ⟨s1, e1, f1, g1⟩ := m_X3init (B := 1) (σ := σ) (fun k _ _ => h k (by omega))
  have f1 : ∀ k, k ≠ 3 → s1 k = σ k := f1
  have g1 : ∀ x, s1 3 x = if 0 ≤ x ∧ x < 96 then -1 else 0 := g1
  have z1 : ∀ k, k ≠ 3 → k < 64 → s1 k = fun _ => 0 := fun k k0 k1 => by rw [f1 k k0]; exact h k k1
  obtain ⟨s2, e2, f2, g2⟩ := m_X3init (B := 14) (σ := s1) (fun k _ _ => z1 k (by omega) (by omega))
  have f2 : ∀ k, k ≠ 16 → s2 k = s1 k := f2
  have z2 : ∀ k, k ≠ 3 → k ≠ 16 → k < 64 → s2 k = fun _ => 0 := fun k k0 k1 k2 => by rw [f2 k k1]; exact z1 k k0 k2
  rw [mqb, qrow_zero (h 1 (by omega)), e1, mqbd, mqb, qrow_same, mqb, qrow_zero (z1 14 (by omega) (by omega)), e2, mqbd, mqb, qrow_same, mqb, qrow_zero (z2 27 (by omega) (by omega) (by omega)), mqb, qSmna_zero (z2 28 (by omega) (by omega) (by omega)) (fun k _ _ => z2 k (by omega) (by omega) (by omega)), mqb, qrow_same, mqb, qSmna_zero (z2 29 (by omega) (by omega) (by omega)) (fun k _ _ => z2 k (by omega) (by omega) (by omega)), mqb, qrow_same, mqbd, mqb, qrow_same, mqb, qrow_zero (z2 38 (by omega) (by omega) (by omega)), mqb, qrow_zero (z2 39 (by omega) (by omega) (by omega)), mqb, qrow_same, mqb, qrow_zero (z2 40 (by omega) (by omega) (by omega)), mqb, qrow_same, mqb, qSmna_zero (z2 41 (by omega) (by omega) (by omega)) (fun k _ _ => z2 k (by omega) (by omega) (by omega)), mqb, qrow_same, mqbd, mqb, qrow_same, mqb, qrow_zero (z2 46 (by omega) (by omega) (by omega)), mqb, qrow_same]
  exact ⟨s2, rfl, fun k k0 k1 => by rw [f2 k k1, f1 k k0], fun x => by rw [f2 3 (by omega)]; exact g1 x⟩
