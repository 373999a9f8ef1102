theorem sr_step2 {f : Int → Int} {i : Int} (h0 : 0 ≤ i) (h : f (i + 1) = 0) : sr f (i + 2).toNat = sr f i.toNat + f i := by
  rw [show i + 2 = (i + 1) + 1 by omega, sr_step (by omega), sr_step h0, h]; omega
theorem sr_skip {f : Int → Int} {i : Int} (h0 : 0 ≤ i) : ∀ n : Nat, (∀ x, i ≤ x → x < i + n → f x = 0) → sr f (i + n).toNat = sr f i.toNat := by
  intro n
  induction n with
  | zero => intro _; rw [show i + ((0 : Nat) : Int) = i by omega]
  | succ n ih =>
    intro h
    rw [show i + ((n + 1 : Nat) : Int) = (i + n) + 1 by omega, sr_step (by omega), h _ (by omega) (by omega), ih (fun x h1 h2 => h x h1 (by omega))]
    omega
theorem m_uneven {σ : qSt} (hp : PR (σ 4)) (hd : PR (σ 5)) : ∃ σ', fX5_unevenInk σ = some (sr (un4 (σ 4) (σ 5) (sr (fun c => btc (σ 4 c)) 96) (sr (fun c => btc (σ 5 c)) 96)) 96, σ') ∧ ∀ k, k ≠ 66 → σ' k = σ k := by
  have rA := sbtc_r (σ 4)
  have rI := sbtc_r (σ 5)
  unfold fX5_unevenInk
  rw [m_bitsOf hp, Option.bind_some, mqb, m_bitsOf hd, Option.bind_some, mqb, m_i2l (by omega) (by omega), m_i2l (by omega) (by omega)]
  generalize sr (fun c => btc (σ 4 c)) 96 = A at rA ⊢
  generalize sr (fun c => btc (σ 5 c)) 96 = I at rI ⊢
  obtain ⟨s, e, q0, q1, q2⟩ := mloop (S := Nat × Int × qSt) (P := fun m s => (s.1 : Int) = 6 * m ∧ s.2.1 = sr (un4 (σ 4) (σ 5) A I) (24 * m).toNat ∧ ∀ k, k ≠ 66 → s.2.2 k = σ k) (F := fun f m s => fX5_unevenInk_c30 f s.1 A I s.2.1 (2 * m) s.2.2) (R := fun s => some (s.2.1, s.2.2)) 4 (by omega) (by omega) (fun f s hP => by
    obtain ⟨kc, acc, t⟩ := s
    obtain ⟨h1, h2, h3⟩ := hP
    have h1 : (kc : Int) = 6 * 4 := h1
    show fX5_unevenInk_c30 (f + 1) kc A I acc (2 * 4) t = some (acc, t)
    rw [fX5_unevenInk_c30, if_pos (by rw [mI_le] <;> omega), if_pos (by omega)]) (fun f m s m0 m1 hP => by
    obtain ⟨kc, acc, t⟩ := s
    obtain ⟨h1, h2, h3⟩ := hP
    have h1 : (kc : Int) = 6 * m := h1
    have h2 : acc = sr (un4 (σ 4) (σ 5) A I) (24 * m).toNat := h2
    have h3 : ∀ k, k ≠ 66 → t k = σ k := h3
    show ∃ s1 : Nat × Int × qSt, fX5_unevenInk_c30 (f + 1) kc A I acc (2 * m) t = fX5_unevenInk_c30 f s1.1 A I s1.2.1 (2 * (m + 1)) s1.2.2 ∧ _
    rw [fX5_unevenInk_c30, if_neg (by rw [mI_le] <;> omega)]
    obtain ⟨s1, d1, d2, d3, d4⟩ := mloop (S := Nat × Int × qSt) (P := fun j s => (s.1 : Int) = 6 * m + j ∧ s.2.1 = sr (un4 (σ 4) (σ 5) A I) (24 * m + 2 * j).toNat ∧ ∀ k, k ≠ 66 → s.2.2 k = σ k) (F := fun f' j s => fX5_unevenInk_c40 (fX5_unevenInk_c30 f) f' s.1 A I s.2.1 (2 * m) (2 * j) s.2.2) (R := fun s => fX5_unevenInk_c30 f s.1 A I s.2.1 (2 * m + 2) s.2.2) 6 (by omega) (by omega) (fun f' s _ => by
      obtain ⟨kc, acc, t⟩ := s
      show fX5_unevenInk_c40 (fX5_unevenInk_c30 f) (f' + 1) kc A I acc (2 * m) (2 * 6) t = fX5_unevenInk_c30 f kc A I acc (2 * m + 2) t
      rw [fX5_unevenInk_c40, if_pos (by rw [mI_le] <;> omega)]) (fun f' j s j0 j1 hP => by
      obtain ⟨kc, acc, t⟩ := s
      obtain ⟨h1, h2, h3⟩ := hP
      have h1 : (kc : Int) = 6 * m + j := h1
      have h2 : acc = sr (un4 (σ 4) (σ 5) A I) (24 * m + 2 * j).toNat := h2
      have h3 : ∀ k, k ≠ 66 → t k = σ k := h3
      show ∃ s1 : Nat × Int × qSt, fX5_unevenInk_c40 (fX5_unevenInk_c30 f) (f' + 1) kc A I acc (2 * m) (2 * j) t = fX5_unevenInk_c40 (fX5_unevenInk_c30 f) f' s1.1 A I s1.2.1 (2 * m) (2 * (j + 1)) s1.2.2 ∧ _
      obtain ⟨t1, g1, g2, g3, g4, g5, g6⟩ := m_win4 (σ := t) (T := 2 * m) (L := 2 * j) (R := 2) (K := 2)
      rw [mqb] at g1
      have t4 : t1 4 = σ 4 := by rw [g2 4 (by omega), h3 4 (by omega)]
      have t5 : t1 5 = σ 5 := by rw [g2 5 (by omega), h3 5 (by omega)]
      have w5 := m_bitsWithin (σ := t1) (p := 5) (by rw [t5]; exact hd) m0 m1 j0 j1 g3 g4 g5 g6
      have w4 := m_bitsWithin (σ := t1) (p := 4) (by rw [t4]; exact hp) m0 m1 j0 j1 g3 g4 g5 g6
      rw [t5] at w5
      rw [t4] at w4
      have r5 := bl4_r (σ 5) (24 * m + 2 * j)
      have r4 := bl4_r (σ 4) (24 * m + 2 * j)
      have ru := un_r (σ 4) (σ 5) rA.1 rA.2 rI.1 rI.2 (24 * m + 2 * j)
      rw [fX5_unevenInk_c40, if_neg (by rw [mI_le] <;> omega), if_pos (by omega), mqb, g1, mqbd, w5, Option.bind_some, mqb, w4, Option.bind_some, mqb, m_i2l (by omega) (by omega), m_i2l (by omega) (by omega)]
      have hab : fJ9_abs_067f4 t1 (bl4 (σ 5) (24 * m + 2 * j) * A - I * bl4 (σ 4) (24 * m + 2 * j)) = some (ab4 (bl4 (σ 5) (24 * m + 2 * j) * A - I * bl4 (σ 4) (24 * m + 2 * j))) := by
        unfold fJ9_abs_067f4 ab4
        rw [iL_0le (by omega) (by omega) (by omega) (by omega)]
        split <;> rfl
      rw [hab, Option.bind_some, mqb, show 2 * j + 2 = 2 * (j + 1) by omega]
      refine ⟨(kc + 1, acc + ab4 (bl4 (σ 5) (24 * m + 2 * j) * A - I * bl4 (σ 4) (24 * m + 2 * j)), t1), rfl, ?_, ?_, fun k hk => ?_⟩
      · show ((kc + 1 : Nat) : Int) = 6 * m + (j + 1)
        omega
      · show acc + ab4 (bl4 (σ 5) (24 * m + 2 * j) * A - I * bl4 (σ 4) (24 * m + 2 * j)) = sr (un4 (σ 4) (σ 5) A I) (24 * m + 2 * (j + 1)).toNat
        rw [show 24 * m + 2 * (j + 1) = 24 * m + 2 * j + 2 by omega, sr_step2 (by omega) (by unfold un4; rw [if_neg (by omega)]), h2]
        unfold un4
        rw [if_pos (show (24 * m + 2 * j) / 12 % 2 = 0 ∧ (24 * m + 2 * j) % 2 = 0 by omega)]
      · show t1 k = σ k
        rw [g2 k hk, h3 k hk]) (s := (kc, acc, t)) ⟨by show (kc : Int) = 6 * m + 0; omega, by show acc = _; rw [h2, show 24 * m + 2 * 0 = 24 * m by omega], h3⟩
    have d1 : fX5_unevenInk_c40 (fX5_unevenInk_c30 f) qFU kc A I acc (2 * m) 0 t = fX5_unevenInk_c30 f s1.1 A I s1.2.1 (2 * m + 2) s1.2.2 := d1
    rw [d1, show 2 * m + 2 = 2 * (m + 1) by omega]
    refine ⟨s1, rfl, by omega, ?_, d4⟩
    rw [d3, show 24 * (m + 1) = (24 * m + 2 * 6) + ((12 : Nat) : Int) by omega]
    exact (sr_skip (by omega) 12 (fun x h1 h2 => by unfold un4; rw [if_neg (by omega)])).symm) (s := (0, 0, σ)) ⟨rfl, rfl, fun _ _ => rfl⟩
  have e : fX5_unevenInk_c30 qFU 0 A I 0 0 σ = some (s.2.1, s.2.2) := e
  rw [e, q1]
  exact ⟨s.2.2, rfl, q2⟩
theorem m_even {c : Int} (c0 : 0 ≤ c) (c1 : c < 96) : qrem (qdiv c 12) 2 = c / 12 % 2 ∧ qrem c 2 = c % 2 := by
  obtain ⟨n, rfl⟩ := f96 c0 c1
  exact (by decide +kernel : ∀ (n : Fin 96), qrem (qdiv (n.val : Int) 12) 2 = (n.val : Int) / 12 % 2 ∧ qrem (n.val : Int) 2 = (n.val : Int) % 2) n
