/-! ===== the start ===== -/
theorem qrow_same (σ : qSt) (k : Nat) : qrow σ k (σ k) = σ := by
  funext k'
  unfold qrow
  by_cases e : k' = k
  · rw [if_pos e, e]
  · rw [if_neg e]
theorem qrow_zero {σ : qSt} {k : Nat} (h : σ k = fun _ => 0) : qrow σ k (fun _ => 0) = σ := by
  funext k'
  unfold qrow
  by_cases e : k' = k
  · rw [if_pos e, e, h]
  · rw [if_neg e]
theorem qSmna_zero {σ : qSt} {k0 k1 : Nat} (h0 : σ k0 = fun _ => 0) (h : ∀ k, k1 ≤ k → k < k1 + 4 → σ k = fun _ => 0) : qSmna σ k0 k1 = σ := by
  funext k'
  unfold qSmna
  by_cases e : k' = k0 ∨ (k1 ≤ k' ∧ k' < k1 + 4)
  · rw [if_pos e]
    rcases e with e | e
    · rw [e, h0]
    · rw [h k' e.1 e.2]
  · rw [if_neg e]
theorem m_X3init {B : Nat} {σ : qSt} (h : ∀ k, B + 1 ≤ k → k ≤ B + 12 → σ k = fun _ => 0) : ∃ σ', fX3_init B σ = some (0, σ') ∧ (∀ k, k ≠ B + 2 → σ' k = σ k) ∧ ∀ x, σ' (B + 2) x = if 0 ≤ x ∧ x < 96 then -1 else 0 := by
  unfold fX3_init
  rw [mqb, qrow_zero (h (B + 1) (by omega) (by omega)), mqb, qrow_same, mqb, qrow_zero (h (B + 2) (by omega) (by omega)), mqb, qrow_same, mqb, qrow_zero (h (B + 3) (by omega) (by omega)), mqb, qrow_same, mqb, qrow_zero (h (B + 4) (by omega) (by omega)), mqb, qrow_same, mqb, qrow_zero (h (B + 5) (by omega) (by omega)), mqb, qrow_same, mqb, qrow_zero (h (B + 6) (by omega) (by omega)), mqb, qrow_same, mqb, qrow_zero (h (B + 7) (by omega) (by omega)), mqb, qrow_same, mqb, qrow_zero (h (B + 8) (by omega) (by omega)), mqb, qrow_same, mqb, qrow_zero (h (B + 9) (by omega) (by omega)), mqb, qrow_same, mqb, qrow_zero (h (B + 10) (by omega) (by omega)), mqb, qrow_same, mqb, qrow_zero (h (B + 11) (by omega) (by omega)), mqb, qrow_same, mqb, qrow_zero (h (B + 12) (by omega) (by omega)), mqb, qrow_same]
  obtain ⟨σ', e1, e2, e3⟩ := mfill (B + 2) (-1) σ
  rw [e1, mqbd]
  refine ⟨σ', rfl, e2, fun x => ?_⟩
  rw [e3 x, h (B + 2) (by omega) (by omega)]
theorem m_X5init {σ : qSt} (h : ∀ k, k < 64 → σ k = fun _ => 0) : ∃ σ', fX5_init σ = some (0, σ') ∧ (∀ k, k ≠ 3 → k ≠ 16 → σ' k = σ k) ∧ ∀ x, σ' 3 x = if 0 ≤ x ∧ x < 96 then -1 else 0 := by
  unfold fX5_init fX0_init fX1_init
  obtain ⟨s1, e1, f1, g1⟩ := m_X3init (B := 1) (σ := σ) (fun k _ _ => h k (by omega))
  have f1 : ∀ k, k ≠ 3 → s1 k = σ k := f1
  have g1 : ∀ x, s1 3 x = if 0 ≤ x ∧ x < 96 then -1 else 0 := g1
  have z1 : ∀ k, k ≠ 3 → k < 64 → s1 k = fun _ => 0 := fun k k0 k1 => by rw [f1 k k0]; exact h k k1
  obtain ⟨s2, e2, f2, g2⟩ := m_X3init (B := 14) (σ := s1) (fun k _ _ => z1 k (by omega) (by omega))
  have f2 : ∀ k, k ≠ 16 → s2 k = s1 k := f2
  have z2 : ∀ k, k ≠ 3 → k ≠ 16 → k < 64 → s2 k = fun _ => 0 := fun k k0 k1 k2 => by rw [f2 k k1]; exact z1 k k0 k2
  rw [mqb, qrow_zero (h 1 (by omega)), e1, mqbd, mqb, qrow_same, mqb, qrow_zero (z1 14 (by omega) (by omega)), e2, mqbd, mqb, qrow_same, mqb, qrow_zero (z2 27 (by omega) (by omega) (by omega)), mqb, qSmna_zero (z2 28 (by omega) (by omega) (by omega)) (fun k _ _ => z2 k (by omega) (by omega) (by omega)), mqb, qrow_same, mqb, qSmna_zero (z2 29 (by omega) (by omega) (by omega)) (fun k _ _ => z2 k (by omega) (by omega) (by omega)), mqb, qrow_same, mqbd, mqb, qrow_same, mqb, qrow_zero (z2 38 (by omega) (by omega) (by omega)), mqb, qrow_zero (z2 39 (by omega) (by omega) (by omega)), mqb, qrow_same, mqb, qrow_zero (z2 40 (by omega) (by omega) (by omega)), mqb, qrow_same, mqb, qSmna_zero (z2 41 (by omega) (by omega) (by omega)) (fun k _ _ => z2 k (by omega) (by omega) (by omega)), mqb, qrow_same, mqbd, mqb, qrow_same, mqb, qrow_zero (z2 46 (by omega) (by omega) (by omega)), mqb, qrow_same]
  exact ⟨s2, rfl, fun k k0 k1 => by rw [f2 k k1, f1 k k0], fun x => by rw [f2 3 (by omega)]; exact g1 x⟩
theorem m_X6init {σ : qSt} (h : ∀ k, 47 ≤ k → k < 64 → σ k = fun _ => 0) : ∃ σ', fX6_init σ = some (0, σ') ∧ (∀ k, k ≠ 49 → σ' k = σ k) ∧ ∀ x, σ' 49 x = if 0 ≤ x ∧ x < 96 then -1 else 0 := by
  unfold fX6_init
  rw [mqb, qrow_zero (h 48 (by omega) (by omega)), mqb, qrow_same, mqb, qrow_zero (h 49 (by omega) (by omega)), mqb, qrow_same, mqb, qrow_zero (h 50 (by omega) (by omega)), mqb, qrow_same, mqb, qrow_zero (h 51 (by omega) (by omega)), mqb, qrow_same, mqb, qrow_zero (h 52 (by omega) (by omega)), mqb, qrow_same, mqb, qrow_zero (h 53 (by omega) (by omega)), mqb, qrow_same, mqb, qrow_zero (h 54 (by omega) (by omega)), mqb, qrow_same, mqb, qrow_zero (h 55 (by omega) (by omega)), mqb, qrow_same, mqb, qrow_zero (h 56 (by omega) (by omega)), mqb, qrow_same, mqb, qrow_zero (h 57 (by omega) (by omega)), mqb, qrow_same, mqb, qrow_zero (h 58 (by omega) (by omega)), mqb, qrow_same, mqb, qrow_zero (h 59 (by omega) (by omega)), mqb, qrow_same, mqb, qrow_zero (h 60 (by omega) (by omega)), mqb, qrow_same, mqb, qrow_zero (h 61 (by omega) (by omega)), mqb, qrow_same, mqb, qrow_zero (h 62 (by omega) (by omega)), mqb, qrow_same, mqb, qrow_zero (h 63 (by omega) (by omega)), mqb, qrow_same]
  obtain ⟨s, e, f, g⟩ := mloop (P := fun i t => (∀ k, k ≠ 49 → t k = σ k) ∧ ∀ x, t 49 x = if 0 ≤ x ∧ x < i then -1 else 0) (F := fun f i t => fX6_init_c134 f i t) (R := fun t => some (0, t)) 96 (by omega) (by omega) (fun f t _ => by
    show fX6_init_c134 (f + 1) 96 t = _
    rw [fX6_init_c134, if_pos (by rw [mI_le] <;> omega)]) (fun f i t i0 i1 hP => by
    obtain ⟨fr, hv⟩ := hP
    show ∃ s1, fX6_init_c134 (f + 1) i t = fX6_init_c134 f (i + 1) s1 ∧ _
    rw [fX6_init_c134, if_neg (by rw [mI_le] <;> omega), if_pos ⟨i0, i1⟩, mqb]
    refine ⟨_, rfl, fun k hk => by rw [mset_ne hk]; exact fr k hk, fun x => ?_⟩
    rw [mset_same]
    show (if x = i then -1 else t 49 x) = _
    rw [hv x]
    by_cases e : x = i
    · rw [if_pos e, if_pos (by omega)]
    · rw [if_neg e]
      by_cases e2 : 0 ≤ x ∧ x < i
      · rw [if_pos e2, if_pos (by omega)]
      · rw [if_neg e2, if_neg (by omega)]) (s := σ) ⟨fun _ _ => rfl, fun x => by rw [h 49 (by omega) (by omega), if_neg (by omega)]⟩
  exact ⟨s, e, f, g⟩
theorem J_start {σ : qSt} (h : ∀ k, k ≠ 3 → k ≠ 16 → k ≠ 49 → σ k = fun _ => 0) (h3 : ∀ x, σ 3 x = if 0 ≤ x ∧ x < 96 then -1 else 0) (h49 : ∀ x, σ 49 x = if 0 ≤ x ∧ x < 96 then -1 else 0) : J 0 σ σ := by
  have z : ∀ k, k ≠ 3 → k ≠ 16 → k ≠ 49 → ∀ j, σ k j = 0 := fun k k0 k1 k2 j => by rw [h k k0 k1 k2]
  have hgs : ∀ u, gs u (σ 4) = 0 := fun u => sr_zero fun x _ _ => by
    rw [z 4 (by omega) (by omega) (by omega), bt_0, bt_0]; rfl
  have hla : ∀ u, LA 1 σ u = 0 := fun u => by
    show (σ 11 u - σ 11 (u + 2)) - gs u (σ 4) - (σ 12 u - σ 12 (u + 2)) - 2 * (σ 13 u - σ 13 (u + 2)) = 0
    rw [hgs, z 11 (by omega) (by omega) (by omega), z 11 (by omega) (by omega) (by omega), z 12 (by omega) (by omega) (by omega), z 12 (by omega) (by omega) (by omega), z 13 (by omega) (by omega) (by omega), z 13 (by omega) (by omega) (by omega)]
    rfl
  have hsm : sm (cq (σ 56)) 384 = 0 := by
    rw [sm_congr' (f := cq (σ 56)) (g := fun _ _ => 0) (fun c w _ _ _ _ => z 56 (by omega) (by omega) (by omega) _)]
    have : ∀ m : Nat, sm (fun _ _ => 0) m = 0 := fun m => by
      induction m with
      | zero => rfl
      | succ m ih => show sm _ m + 0 = 0; rw [ih]; rfl
    exact this 384
  refine ⟨⟨?_, ?_, ?_, ?_, ⟨fun c c0 c1 => ?_, fun c c0 c1 => ?_, fun c c0 c1 => ?_, fun c c0 c1 => ?_, fun c c0 c1 _ => ?_, fun c w c0 c1 w0 w1 => ?_⟩, fun c c0 c1 hc => ?_⟩, ⟨fun c w c0 c1 w0 w1 => ⟨?_, ?_, fun _ => ?_, ?_⟩, ?_, ?_⟩, fun k k0 k1 => ⟨?_, ?_, ?_⟩, ⟨?_, ?_, fun w w0 w1 => ?_, hla 0, hla 1⟩, ?_, ?_, ?_⟩
  · rw [h 2 (by omega) (by omega) (by omega), h 48 (by omega) (by omega) (by omega)]
  · funext x; rw [h3, h49]
  · rw [h 4 (by omega) (by omega) (by omega), h 50 (by omega) (by omega) (by omega)]
  · rw [h 5 (by omega) (by omega) (by omega), h 51 (by omega) (by omega) (by omega)]
  · show 0 ≤ σ 2 c ∧ σ 2 c ≤ 3
    rw [z 2 (by omega) (by omega) (by omega)]; omega
  · show -1 ≤ σ 3 c ∧ σ 3 c ≤ 3
    rw [h3, if_pos ⟨c0, c1⟩]; omega
  · show 0 ≤ σ 4 c ∧ σ 4 c ≤ 15
    rw [z 4 (by omega) (by omega) (by omega)]; omega
  · show 0 ≤ σ 5 c ∧ σ 5 c ≤ 15
    rw [z 5 (by omega) (by omega) (by omega)]; omega
  · exact z 4 (by omega) (by omega) (by omega) c
  · show bt (σ 5 c) w ≤ bt (σ 4 c) w
    rw [z 5 (by omega) (by omega) (by omega), z 4 (by omega) (by omega) (by omega)]; omega
  · rw [h3, if_pos ⟨c0, c1⟩] at hc; exact absurd rfl hc
  · rw [z (30 + w.toNat) (by omega) (by omega) (by omega), z 56 (by omega) (by omega) (by omega)]
  · rw [z 56 (by omega) (by omega) (by omega)]; omega
  · exact z 56 (by omega) (by omega) (by omega) _
  · exact z (34 + w.toNat) (by omega) (by omega) (by omega) _
  · rw [hsm]; exact z 27 (by omega) (by omega) (by omega) _
  · rw [z 27 (by omega) (by omega) (by omega)]; omega
  · rw [z 8 (by omega) (by omega) (by omega), z 58 (by omega) (by omega) (by omega)]
  · rw [z 9 (by omega) (by omega) (by omega), z 58 (by omega) (by omega) (by omega)]
  · rw [z 10 (by omega) (by omega) (by omega), z 58 (by omega) (by omega) (by omega)]
  · rw [z 1 (by omega) (by omega) (by omega), z 47 (by omega) (by omega) (by omega)]
  · rw [z 1 (by omega) (by omega) (by omega)]; omega
  · rw [z 11 (by omega) (by omega) (by omega), z 12 (by omega) (by omega) (by omega), z 13 (by omega) (by omega) (by omega)]; omega
  · unfold JS
    rw [z 0 (by omega) (by omega) (by omega), z 0 (by omega) (by omega) (by omega), z 38 (by omega) (by omega) (by omega), z 47 (by omega) (by omega) (by omega), z 47 (by omega) (by omega) (by omega), z 47 (by omega) (by omega) (by omega)]
    refine ⟨rfl, by omega, rfl, by omega, rfl, by omega, fun k k0 k1 => ?_⟩
    rw [z 40 (by omega) (by omega) (by omega), z 62 (by omega) (by omega) (by omega)]
    exact ⟨rfl, by omega, fun hk => by omega, fun _ => rfl, fun j j0 j1 => by omega⟩
  · rw [h 46 (by omega) (by omega) (by omega), h 59 (by omega) (by omega) (by omega)]
  · rw [z 27 (by omega) (by omega) (by omega), z 47 (by omega) (by omega) (by omega)]
/-- THE MATHEMATICS: on every script the law comes to its end -/
theorem law_holds {L : Nat} {xs : Nat → Int32} (hL : L ≤ 3584) : fL_law L xs = some () := by
  unfold fL_law
  have z0 : ∀ k, (fun _ _ => 0 : qSt) k = fun _ => 0 := fun _ => rfl
  generalize (fun _ _ => 0 : qSt) = Z at z0 ⊢
  obtain ⟨s1, e1, f1, g1⟩ := m_X5init (σ := Z) (fun k _ => z0 k)
  have z1 : ∀ k, k ≠ 3 → k ≠ 16 → s1 k = fun _ => 0 := fun k k0 k1 => by rw [f1 k k0 k1]; exact z0 k
  obtain ⟨s2, e2, f2, g2⟩ := m_X6init (σ := s1) (fun k _ _ => z1 k (by omega) (by omega))
  have z2 : ∀ k, k ≠ 3 → k ≠ 16 → k ≠ 49 → s2 k = fun _ => 0 := fun k k0 k1 k2 => by rw [f2 k k2]; exact z1 k k0 k1
  rw [mqb, qrow_zero (z0 0), e1, mqbd, mqb, qrow_zero (z1 47 (by omega) (by omega)), e2, mqbd, mqb, qrow_zero (z2 64 (by omega) (by omega) (by omega)), mqb, qrow_zero (z2 65 (by omega) (by omega) (by omega))]
  exact q_loop hL 600 0 0 s2 (by omega) (by omega) (by omega) (by omega) (J_start z2 (fun x => by rw [f2 3 (by omega)]; exact g1 x) g2)
