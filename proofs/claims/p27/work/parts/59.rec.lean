/-! ===== records of probes ===== -/
def upR (r : Int → Int) (c : Int) : Int := bt (r c) 1 - bt (r c) (1 + 2)
theorem upR_r (r : Int → Int) (c : Int) : -1 ≤ upR r c ∧ upR r c ≤ 1 := by
  have a := bt_r (r c) 1
  have b := bt_r (r c) (1 + 2)
  unfold upR
  omega
theorem m_i2b {x : Int} (h0 : -1 ≤ x) (h1 : x ≤ 1) : qi2b (qi2b x) = x := by
  rcases (show x = -1 ∨ x = 0 ∨ x = 1 by omega) with rfl | rfl | rfl <;> decide +kernel
theorem m_recordAll {σ : qSt} (hp : PR (σ 4)) (n0 : 0 ≤ σ 38 3) (n1 : σ 38 3 ≤ 4) (hc : ∀ k, 0 ≤ k → k < σ 38 3 → (0 ≤ σ 39 k ∧ σ 39 k < 96) ∧ 0 ≤ σ 40 k ∧ σ 40 k < 5000) : ∃ σ', fX1_recordAll σ = some (0, σ') ∧ (∀ k, k ≠ 40 → k ≠ 42 → k ≠ 43 → k ≠ 44 → k ≠ 45 → σ' k = σ k) ∧ ∀ k, 0 ≤ k → k < 4 → σ' 40 k = σ 40 k + (if k < σ 38 3 then 1 else 0) ∧ ∀ j, σ' (42 + k.toNat) j = if k < σ 38 3 ∧ j = σ 40 k then upR (σ 4) (σ 39 k) else σ (42 + k.toNat) j := by
  unfold fX1_recordAll
  exact mloop (P := fun i t => (∀ k, k ≠ 40 → k ≠ 42 → k ≠ 43 → k ≠ 44 → k ≠ 45 → t k = σ k) ∧ ∀ k, 0 ≤ k → k < 4 → t 40 k = σ 40 k + (if k < i then 1 else 0) ∧ ∀ j, t (42 + k.toNat) j = if k < i ∧ j = σ 40 k then upR (σ 4) (σ 39 k) else σ (42 + k.toNat) j) (F := fun f i t => fX1_recordAll_c2 f i t) (R := fun t => some (0, t)) (σ 38 3) n0 (by omega) (fun f t hP => by
    have e38 : t 38 = σ 38 := hP.1 _ (by omega) (by omega) (by omega) (by omega) (by omega)
    show fX1_recordAll_c2 (f + 1) (σ 38 3) t = _
    rw [fX1_recordAll_c2, e38, if_pos (by rw [mI_le] <;> omega)]) (fun f i t i0 i1 hP => by
    obtain ⟨fr, hv⟩ := hP
    obtain ⟨h1, h2, h3⟩ := hc i i0 i1
    have hii : 0 ≤ i ∧ i < 4 := by omega
    have e38 : t 38 = σ 38 := fr _ (by omega) (by omega) (by omega) (by omega) (by omega)
    have e39 : t 39 = σ 39 := fr _ (by omega) (by omega) (by omega) (by omega) (by omega)
    have e4 : t 4 = σ 4 := fr _ (by omega) (by omega) (by omega) (by omega) (by omega)
    have e40 : t 40 i = σ 40 i := by rw [(hv i i0 hii.2).1, if_neg (by omega)]; omega
    have hu := upR_r (σ 4) (σ 39 i)
    show ∃ s1, fX1_recordAll_c2 (f + 1) i t = fX1_recordAll_c2 f (i + 1) s1 ∧ _
    rw [fX1_recordAll_c2, e38, if_neg (by rw [mI_le] <;> omega), if_neg (by rw [mI_le] <;> omega), if_pos hii, e40, if_neg (by rw [mI_le] <;> omega), if_pos hii, if_pos hii, if_pos hii, e39, m_moreAt (B := 1) (by rw [e4]; exact hp) h1.1 h1.2 (Or.inr rfl), Option.bind_some, if_pos ⟨h2, h3⟩, mqb, if_pos hii, if_pos hii, mqb, e4]
    have e40' : qset t (42 + i.toNat) (σ 40 i) (qi2b (qi2b (bt (σ 4 (σ 39 i)) 1 - bt (σ 4 (σ 39 i)) (1 + 2)))) 40 = t 40 := mset_ne (by omega)
    show ∃ s1, fX1_recordAll_c2 f (i + 1) (qset (qset t (42 + i.toNat) (σ 40 i) (qi2b (qi2b (upR (σ 4) (σ 39 i))))) 40 i (qset t (42 + i.toNat) (σ 40 i) (qi2b (qi2b (upR (σ 4) (σ 39 i)))) 40 i + 1)) = _ ∧ _
    rw [m_i2b hu.1 hu.2]
    refine ⟨_, rfl, fun k k0 k2 k3 k4 k5 => by rw [mset_ne k0, mset_ne (by omega)]; exact fr k k0 k2 k3 k4 k5, fun k k0 k1 => ⟨?_, fun j => ?_⟩⟩
    · rw [mset_same]
      show (if k = i then _ else _) = _
      rw [mset_ne (by omega), e40, (hv k k0 k1).1]
      by_cases e : k = i
      · rw [if_pos e, if_pos (by omega), e]
      · rw [if_neg e]
        by_cases e2 : k < i
        · rw [if_pos e2, if_pos (by omega)]
        · rw [if_neg e2, if_neg (by omega)]
    · rw [mset_ne (by omega)]
      by_cases e : k = i
      · rw [e, mset_same]
        show (if j = σ 40 i then _ else _) = _
        rw [(hv i i0 hii.2).2 j, if_neg (show ¬ (i < i ∧ j = σ 40 i) by omega)]
        by_cases e2 : j = σ 40 i
        · rw [if_pos e2, if_pos ⟨by omega, e2⟩]
        · rw [if_neg e2, if_neg (fun z => e2 z.2)]
      · rw [mset_ne (by omega), (hv k k0 k1).2 j]
        by_cases e2 : k < i ∧ j = σ 40 k
        · rw [if_pos e2, if_pos ⟨by omega, e2.2⟩]
        · rw [if_neg e2, if_neg (by omega)]) (s := σ) ⟨fun _ _ _ _ _ _ => rfl, fun k k0 k1 => ⟨by rw [if_neg (by omega)]; omega, fun j => by rw [if_neg (by omega)]⟩⟩
theorem m_loseLatest {σ : qSt} (n0 : 0 ≤ σ 38 3) (n1 : σ 38 3 ≤ 4) (hc : ∀ k, 0 ≤ k → k < σ 38 3 → 1 ≤ σ 40 k ∧ σ 40 k ≤ 5000) : ∃ σ', fX1_loseLatest σ = some (0, σ') ∧ (∀ k, k ≠ 40 → σ' k = σ k) ∧ ∀ k, 0 ≤ k → k < 4 → σ' 40 k = σ 40 k - (if k < σ 38 3 then 1 else 0) := by
  unfold fX1_loseLatest
  exact mloop (P := fun i t => (∀ k, k ≠ 40 → t k = σ k) ∧ ∀ k, 0 ≤ k → k < 4 → t 40 k = σ 40 k - (if k < i then 1 else 0)) (F := fun f i t => fX1_loseLatest_c2 f i t) (R := fun t => some (0, t)) (σ 38 3) n0 (by omega) (fun f t hP => by
    have e38 : t 38 = σ 38 := hP.1 _ (by omega)
    show fX1_loseLatest_c2 (f + 1) (σ 38 3) t = _
    rw [fX1_loseLatest_c2, e38, if_pos (by rw [mI_le] <;> omega)]) (fun f i t i0 i1 hP => by
    obtain ⟨fr, hv⟩ := hP
    have h1 := hc i i0 i1
    have hii : 0 ≤ i ∧ i < 4 := by omega
    have e38 : t 38 = σ 38 := fr _ (by omega)
    have e40 : t 40 i = σ 40 i := by rw [hv i i0 hii.2, if_neg (by omega)]; omega
    show ∃ s1, fX1_loseLatest_c2 (f + 1) i t = fX1_loseLatest_c2 f (i + 1) s1 ∧ _
    rw [fX1_loseLatest_c2, e38, if_neg (by rw [mI_le] <;> omega), if_neg (by rw [mI_le] <;> omega), if_pos hii, e40, if_neg (by rw [mI_le0] <;> omega), if_pos hii, if_pos hii, mqb]
    refine ⟨_, rfl, fun k k0 => by rw [mset_ne k0]; exact fr k k0, fun k k0 k1 => ?_⟩
    rw [mset_same]
    show (if k = i then _ else _) = _
    rw [hv k k0 k1]
    by_cases e : k = i
    · rw [if_pos e, if_pos (by omega), e]
    · rw [if_neg e]
      by_cases e2 : k < i
      · rw [if_pos e2, if_pos (by omega)]
      · rw [if_neg e2, if_neg (by omega)]) (s := σ) ⟨fun _ _ => rfl, fun k k0 k1 => by rw [if_neg (by omega)]; omega⟩
