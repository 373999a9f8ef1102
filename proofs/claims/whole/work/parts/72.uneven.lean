theorem sr_step2 {f : Int → Int} {i : Int} (h0 : 0 ≤ i) (h : f (i + 1) = 0) : sr f (i + 2).toNat = sr f i.toNat + f i := by
  rw [show i + 2 = (i + 1) + 1 by omega, sr_step (by omega), sr_step h0, h]; omega
theorem sr_skip {f : Int → Int} {i : Int} (h0 : 0 ≤ i) : ∀ n : Nat, (∀ x, i ≤ x → x < i + n → f x = 0) → sr f (i + n).toNat = sr f i.toNat := by
  intro n
  induction n with
  | zero => intro _; rw [show i + ((0 : Nat) : Int) = i by omega]
  | succ n ih =>
    intro h
    rw [show i + ((n + 1 : Nat) : Int) = (i + n) + 1 by omega, sr_step (by omega), h _ (by omega) (by omega), ih (fun x h1 h2 => h x h1 (by omega))]
    omega
theorem m_uneven {σ : qSt} (hp : PR (σ 4)) (hd : PR (σ 5)) : ∃ σ', fX5_unevenInk σ = some (sr (un4 (σ 4) (σ 5) (sr (fun c => btc (σ 4 c)) 96) (sr (fun c => btc (σ 5 c)) 96)) 96, σ') ∧ ∀ k, k ≠ 66 → σ' k = σ k := by
  have rA := sbtc_r (σ 4)
  have rI := sbtc_r (σ 5)
  unfold fX5_unevenInk
  rw [m_bitsOf hp, Option.bind_some, mqb, m_bitsOf hd, Option.bind_some, mqb, m_i2l (by omega) (by omega), m_i2l (by omega) (by omega)]
  generalize sr (fun c => btc (σ 4 c)) 96 = A at rA ⊢
  generalize sr (fun c => btc (σ 5 c)) 96 = I at rI ⊢
  obtain ⟨s, e, q0, q1, q2⟩ := mloop (S := Nat × Int × qSt) (P := fun m s => (s.1 : Int) = 6 * m ∧ s.2.1 = sr (un4 (σ 4) (σ 5) A I) (24 * m).toNat ∧ ∀ k, k ≠ 66 → s.2.2 k = σ k) (F := fun f m s => fX5_unevenInk_c30 f s.1 A I s.2.1 (2 * m) s.2.2) (R := fun s => some (s.2.1, s.2.2)) 4 (by omega) (by omega) (fun f s hP => by
    obtain ⟨kc, acc, t⟩ := s
    obtain ⟨h1, h2, h3⟩ := hP
    have h1 : (kc : Int) = 6 * 4 := h1
    show fX5_unevenInk_c30 (f + 1) kc A I acc (2 * 4) t = some (acc, t)
    rw [fX5_unevenInk_c30, if_pos (by rw [mI_le] <;> omega), if_pos (by omega)]) (fun f m s m0 m1 hP => by
    obtain ⟨kc, acc, t⟩ := s
    obtain ⟨h1, h2, h3⟩ := hP
    have h1 : (kc : Int) = 6 * m := h1
    have h2 : acc = sr (un4 (σ 4) (σ 5) A I) (24 * m).toNat := h2
    have h3 : ∀ k, k ≠ 66 → t k = σ k := h3
    show ∃ s1 : Nat × Int × qSt, fX5_unevenInk_c30 (f + 1) kc A I acc (2 * m) t = fX5_unevenInk_c30 f s1.1 A I s1.2.1 (2 * (m + 1)) s1.2.2 ∧ _
    rw [fX5_unevenInk_c30, if_neg (by rw [mI_le] <;> omega)]
    obtain ⟨s1, d1, d2, d3, d4⟩ := mloop (S := Nat × Int × qSt) (P := fun j s => (s.1 : Int) = 6 * m + j ∧ s.2.1 = sr (un4 (σ 4) (σ 5) A I) (24 * m + 2 * j).toNat ∧ ∀ k, k ≠ 66 → s.2.2 k = σ k) (F := fun f' j s => fX5_unevenInk_c40 (fX5_unevenInk_c30 f) f' s.1 A I s.2.1 (2 * m) (2 * j) s.2.2) (R := fun s => fX5_unevenInk_c30 f s.1 A I s.2.1 (2 * m + 2) s.2.2) 6 (by omega) (by omega) (fun f' s _ => by
      obtain ⟨kc, acc, t⟩ := s
      show fX5_unevenInk_c40 (fX5_unevenInk_c30 f) (f' + 1) kc A I acc (2 * m) (2 * 6) t = fX5_unevenInk_c30 f kc A I acc (2 * m + 2) t
      rw [fX5_unevenInk_c40, if_pos (by rw [mI_le] <;> omega)]) (fun f' j s j0 j1 hP => by
      obtain ⟨kc, acc, t⟩ := s
      obtain ⟨h1, h2, h3⟩ := hP
      have h1 : (kc : Int) = 6 * m + j := h1
      have h2 : acc = sr (un4 (σ 4) (σ 5) A I) (24 * m + 2 * j).toNat := h2
      have h3 : ∀ k, k ≠ 66 → t k = σ k := h3
      show ∃ s1 : Nat × Int × qSt, fX5_unevenInk_c40 (fX5_unevenInk_c30 f) (f' + 1) kc A I acc (2 * m) (2 * j) t = fX5_unevenInk_c40 (fX5_unevenInk_c30 f) f' s1.1 A I s1.2.1 (2 * m) (2 * (j + 1)) s1.2.2 ∧ _
      obtain ⟨t1, g1, g2, g3, g4, g5, g6⟩ := m_win4 (σ := t) (T := 2 * m) (L := 2 * j) (R := 2) (K := 2)
      rw [mqb] at g1
      have t4 : t1 4 = σ 4 := by rw [g2 4 (by omega), h3 4 (by omega)]
      have t5 : t1 5 = σ 5 := by rw [g2 5 (by omega), h3 5 (by omega)]
      have w5 := m_bitsWithin (σ := t1) (p := 5) (by rw [t5]; exact hd) m0 m1 j0 j1 g3 g4 g5 g6
      have w4 := m_bitsWithin (σ := t1) (p := 4) (by rw [t4]; exact hp) m0 m1 j0 j1 g3 g4 g5 g6
      rw [t5] at w5
      rw [t4] at w4
      have r5 := bl4_r (σ 5) (24 * m + 2 * j)
      have r4 := bl4_r (σ 4) (24 * m + 2 * j)
      have ru := un_r (σ 4) (σ 5) rA.1 rA.2 rI.1 rI.2 (24 * m + 2 * j)
      rw [fX5_unevenInk_c40, if_neg (by rw [mI_le] <;> omega), if_pos (by omega), mqb, g1, mqbd, w5, Option.bind_some, mqb, w4, Option.bind_some, mqb, m_i2l (by omega) (by omega), m_i2l (by omega) (by omega)]
      have hab : fJ9_abs_067f4 t1 (bl4 (σ 5) (24 * m + 2 * j) * A - I * bl4 (σ 4) (24 * m + 2 * j)) = some (ab4 (bl4 (σ 5) (24 * m + 2 * j) * A - I * bl4 (σ 4) (24 * m + 2 * j))) := by
        unfold fJ9_abs_067f4 ab4
        rw [iL_0le (by omega) (by omega) (by omega) (by omega)]
        split <;> rfl
      rw [hab, Option.bind_some, mqb, show 2 * j + 2 = 2 * (j + 1) by omega]
      refine ⟨(kc + 1, acc + ab4 (bl4 (σ 5) (24 * m + 2 * j) * A - I * bl4 (σ 4) (24 * m + 2 * j)), t1), rfl, ?_, ?_, fun k hk => ?_⟩
      · show ((kc + 1 : Nat) : Int) = 6 * m + (j + 1)
        omega
      · show acc + ab4 (bl4 (σ 5) (24 * m + 2 * j) * A - I * bl4 (σ 4) (24 * m + 2 * j)) = sr (un4 (σ 4) (σ 5) A I) (24 * m + 2 * (j + 1)).toNat
        rw [show 24 * m + 2 * (j + 1) = 24 * m + 2 * j + 2 by omega, sr_step2 (by omega) (by unfold un4; rw [if_neg (by omega)]), h2]
        unfold un4
        rw [if_pos (show (24 * m + 2 * j) / 12 % 2 = 0 ∧ (24 * m + 2 * j) % 2 = 0 by omega)]
      · show t1 k = σ k
        rw [g2 k hk, h3 k hk]) (s := (kc, acc, t)) ⟨by show (kc : Int) = 6 * m + 0; omega, by show acc = _; rw [h2, show 24 * m + 2 * 0 = 24 * m by omega], h3⟩
    have d1 : fX5_unevenInk_c40 (fX5_unevenInk_c30 f) qFU kc A I acc (2 * m) 0 t = fX5_unevenInk_c30 f s1.1 A I s1.2.1 (2 * m + 2) s1.2.2 := d1
    rw [d1, show 2 * m + 2 = 2 * (m + 1) by omega]
    refine ⟨s1, rfl, by omega, ?_, d4⟩
    rw [d3, show 24 * (m + 1) = (24 * m + 2 * 6) + ((12 : Nat) : Int) by omega]
    exact (sr_skip (by omega) 12 (fun x h1 h2 => by unfold un4; rw [if_neg (by omega)])).symm) (s := (0, 0, σ)) ⟨rfl, rfl, fun _ _ => rfl⟩
  have e : fX5_unevenInk_c30 qFU 0 A I 0 0 σ = some (s.2.1, s.2.2) := e
  rw [e, q1]
  exact ⟨s.2.2, rfl, q2⟩
theorem m_even {c : Int} (c0 : 0 ≤ c) (c1 : c < 96) : qrem (qdiv c 12) 2 = c / 12 % 2 ∧ qrem c 2 = c % 2 := by
  obtain ⟨n, rfl⟩ := f96 c0 c1
  exact (by decide +kernel : ∀ (n : Fin 96), qrem (qdiv (n.val : Int) 12) 2 = (n.val : Int) / 12 % 2 ∧ qrem (n.val : Int) 2 = (n.val : Int) % 2) n
theorem m_blocksOff {σ : qSt} (hp : PR (σ 50)) (hd : PR (σ 51)) : fX6_blocksOff σ = some (sr (un4 (σ 50) (σ 51) (sr (fun c => btc (σ 50 c)) 96) (sr (fun c => btc (σ 51 c)) 96)) 96) := by
  have rA := sbtc_r (σ 50)
  have rI := sbtc_r (σ 51)
  unfold fX6_blocksOff
  obtain ⟨s, e, q1, q2⟩ := mloop (S := Int × Int) (P := fun i s => s.1 = sr (fun c => btc (σ 50 c)) i.toNat ∧ s.2 = sr (fun c => btc (σ 51 c)) i.toNat) (F := fun f i s => fX6_blocksOff_c10 σ f 0 s.1 s.2 i) (R := fun s => fX6_blocksOff_c56 σ qFU 0 s.1 s.2 0) 96 (by omega) (by omega) (fun f s _ => by
    show fX6_blocksOff_c10 σ (f + 1) 0 s.1 s.2 96 = _
    rw [fX6_blocksOff_c10, if_pos (by rw [mI_le] <;> omega)]) (fun f i s i0 i1 hP => by
    obtain ⟨x, y⟩ := s
    obtain ⟨h1, h2⟩ := hP
    have h1 : x = sr (fun c => btc (σ 50 c)) i.toNat := h1
    have h2 : y = sr (fun c => btc (σ 51 c)) i.toNat := h2
    have p0 := hp i i0 i1
    have d0 := hd i i0 i1
    have b0 := btc_r (σ 50 i)
    have b1 := btc_r (σ 51 i)
    have hii : 0 ≤ i ∧ i < 96 := ⟨i0, i1⟩
    show ∃ s1 : Int × Int, fX6_blocksOff_c10 σ (f + 1) 0 x y i = fX6_blocksOff_c10 σ f 0 s1.1 s1.2 (i + 1) ∧ _
    rw [fX6_blocksOff_c10, if_neg (by rw [mI_le] <;> omega), if_pos hii, m_many p0.1 p0.2, Option.bind_some, mqb, if_pos hii, m_many d0.1 d0.2, Option.bind_some, mqb, m_i2l (by omega) (by omega), m_i2l (by omega) (by omega)]
    exact ⟨(x + btc (σ 50 i), y + btc (σ 51 i)), rfl, by rw [sr_step i0, h1], by rw [sr_step i0, h2]⟩) (s := (0, 0)) ⟨rfl, rfl⟩
  have e : fX6_blocksOff_c10 σ qFU 0 0 0 0 = fX6_blocksOff_c56 σ qFU 0 s.1 s.2 0 := e
  have q1 : s.1 = sr (fun c => btc (σ 50 c)) 96 := q1
  have q2 : s.2 = sr (fun c => btc (σ 51 c)) 96 := q2
  rw [e, q1, q2]
  generalize sr (fun c => btc (σ 50 c)) 96 = A at rA ⊢
  generalize sr (fun c => btc (σ 51 c)) 96 = I at rI ⊢
  obtain ⟨s, e, q⟩ := mloop (P := fun i (n : Int) => n = sr (un4 (σ 50) (σ 51) A I) i.toNat) (F := fun f i n => fX6_blocksOff_c56 σ f n A I i) (R := fun n => some n) 96 (by omega) (by omega) (fun f n _ => by
    show fX6_blocksOff_c56 σ (f + 1) n A I 96 = _
    rw [fX6_blocksOff_c56, if_pos (by rw [mI_le] <;> omega)]) (fun f i n i0 i1 hP => by
    obtain ⟨v1, v2⟩ := m_even i0 i1
    show ∃ s1, fX6_blocksOff_c56 σ (f + 1) n A I i = fX6_blocksOff_c56 σ f s1 A I (i + 1) ∧ _
    rw [fX6_blocksOff_c56, if_neg (by rw [mI_le] <;> omega), v1, v2, iI_eq0 (by omega) (by omega), iI_eq0 (by omega) (by omega), sr_step i0]
    unfold fX6_blocksOff_c216 fX6_blocksOff_c218
    by_cases h1 : i / 12 % 2 = 0
    · rw [if_pos h1]
      by_cases h2 : i % 2 = 0
      · rw [if_pos h2]
        have g0 : 0 ≤ i ∧ i < 96 := ⟨i0, i1⟩
        have g1 : 0 ≤ i + 1 ∧ i + 1 < 96 := by omega
        have g2 : 0 ≤ i + 12 ∧ i + 12 < 96 := by omega
        have g3 : 0 ≤ i + 13 ∧ i + 13 < 96 := by omega
        have p0 := hp i i0 i1
        have p1 := hp (i + 1) g1.1 g1.2
        have p2 := hp (i + 12) g2.1 g2.2
        have p3 := hp (i + 13) g3.1 g3.2
        have d0 := hd i i0 i1
        have d1 := hd (i + 1) g1.1 g1.2
        have d2 := hd (i + 12) g2.1 g2.2
        have d3 := hd (i + 13) g3.1 g3.2
        have r5 := bl4_r (σ 51) i
        have r4 := bl4_r (σ 50) i
        have ru := un_r (σ 50) (σ 51) rA.1 rA.2 rI.1 rI.2 i
        simp only [if_pos g0, if_pos g1, if_pos g2, if_pos g3, m_many p0.1 p0.2, m_many p1.1 p1.2, m_many p2.1 p2.2, m_many p3.1 p3.2, m_many d0.1 d0.2, m_many d1.1 d1.2, m_many d2.1 d2.2, m_many d3.1 d3.2, Option.bind_some, mqb]
        have e5 : btc (σ 51 i) + btc (σ 51 (i + 1)) + btc (σ 51 (i + 12)) + btc (σ 51 (i + 13)) = bl4 (σ 51) i := rfl
        have e4 : btc (σ 50 i) + btc (σ 50 (i + 1)) + btc (σ 50 (i + 12)) + btc (σ 50 (i + 13)) = bl4 (σ 50) i := rfl
        rw [e5, e4, m_i2l (by omega) (by omega), m_i2l (by omega) (by omega), iL_0le (by omega) (by omega) (by omega) (by omega)]
        have hu : un4 (σ 50) (σ 51) A I i = ab4 (bl4 (σ 51) i * A - I * bl4 (σ 50) i) := by unfold un4; rw [if_pos ⟨h1, h2⟩]
        rw [hu]
        unfold ab4
        by_cases hs : 0 ≤ bl4 (σ 51) i * A - I * bl4 (σ 50) i
        · rw [if_pos hs, if_pos hs]; exact ⟨_, rfl, by rw [hP]⟩
        · rw [if_neg hs, if_neg hs]; exact ⟨_, rfl, by rw [hP]⟩
      · rw [if_neg h2]
        refine ⟨n, rfl, ?_⟩
        unfold un4
        rw [if_neg (fun z => h2 z.2), hP]
        unfold un4
        omega
    · rw [if_neg h1]
      refine ⟨n, rfl, ?_⟩
      unfold un4
      rw [if_neg (fun z => h1 z.1), hP]
      unfold un4
      omega) (s := 0) rfl
  have e : fX6_blocksOff_c56 σ qFU 0 A I 0 = some s := e
  rw [e, q]
  rfl
theorem p_mixed {t : Int} {a b : qSt} (h : J t a b) {k : Int} (hk : isI k) : PQ [(0, 0), (2, 1)] t a b (fX5_mixed k a) (fX6_mixed k b) := by
  obtain ⟨j1, j2, j3, j4, j5, j6, j7⟩ := id h
  obtain ⟨q1, q2, q3, q4, ⟨v1, v2, v3, v4, v5, v6⟩, q6⟩ := id j1
  have v3 : PR (a 4) := v3
  have v4 : PR (a 5) := v4
  have z50 : qset b 47 0 0 50 = a 4 := by rw [mset_ne (by omega)]; exact q3.symm
  have z51 : qset b 47 0 0 51 = a 5 := by rw [mset_ne (by omega)]; exact q4.symm
  unfold fX5_mixed fX6_mixed fX6_mixed_c15
  rw [iI_eq hk.1 hk.2 (by omega) (by omega), iI_eq hk.1 hk.2 (by omega) (by omega)]
  by_cases hkk : 0 ≤ k ∧ k ≤ 1
  · rw [with1 (by omega) (by omega) hkk.1 hkk.2, Option.bind_some, iI_yes, ref_ok, iI_eq0 hk.1 hk.2]
    by_cases e : k = 0
    · have hr := sr_bound (f := pr4 (a 4) (a 5)) (B := 2) (by omega) (n := 96) (fun x _ _ => by
        have g0 := eg4_r (a 4) (a 5) x (bs x 0)
        have g3 := eg4_r (a 4) (a 5) x (bs x 3)
        unfold pr4
        omega)
      rw [if_pos e, if_pos e, m_edges v3 v4, Option.bind_some, m_pairs (by rw [z50]; exact v3) (by rw [z51]; exact v4), Option.bind_some, z50, z51, m_i2l (by omega) (by omega)]
      exact PQ.val h (by simp)
    · obtain ⟨a', e1, e2⟩ := m_uneven (σ := a) v3 v4
      rw [if_neg e, if_neg e, if_pos (show k = 1 by omega), e1, mqbd, m_blocksOff (by rw [z50]; exact v3) (by rw [z51]; exact v4), Option.bind_some, z50, z51]
      exact PQ.ok h (by simp) (keepA_tmp fun j hj => e2 j (by omega)) (keepB.ref b 0) (m_ref0 ..) (fun j _ hj => e2 j (by omega)) (fun j hj => mset_ne (by omega))
  · rw [with0 hk (isI_of (by omega) (by omega)) (isI_of (by omega) (by omega)) hkk, Option.bind_some, iI_no, ref_no (by omega) (by omega), if_neg (show ¬ k = 0 by omega), if_neg (show ¬ k = 1 by omega)]
    exact PQ.no h (by simp) (by omega)
