/-! ===== records of probes ===== -/
def upR (r : Int → Int) (c : Int) : Int := bt (r c) 1 - bt (r c) (1 + 2)
theorem upR_r (r : Int → Int) (c : Int) : -1 ≤ upR r c ∧ upR r c ≤ 1 := by
  have a := bt_r (r c) 1
  have b := bt_r (r c) (1 + 2)
  unfold upR
  omega
theorem m_i2b {x : Int} (h0 : -1 ≤ x) (h1 : x ≤ 1) : qi2b (qi2b x) = x := by
  rcases (show x = -1 ∨ x = 0 ∨ x = 1 by omega) with rfl | rfl | rfl <;> decide +kernel
theorem m_recordAll {σ : qSt} (hp : PR (σ 4)) (n0 : 0 ≤ σ 38 3) (n1 : σ 38 3 ≤ 4) (hc : ∀ k, 0 ≤ k → k < σ 38 3 → (0 ≤ σ 39 k ∧ σ 39 k < 96) ∧ 0 ≤ σ 40 k ∧ σ 40 k < 5000) : ∃ σ', fX1_recordAll σ = some (0, σ') ∧ (∀ k, k ≠ 40 → k ≠ 42 → k ≠ 43 → k ≠ 44 → k ≠ 45 → σ' k = σ k) ∧ ∀ k, 0 ≤ k → k < 4 → σ' 40 k = σ 40 k + (if k < σ 38 3 then 1 else 0) ∧ ∀ j, σ' (42 + k.toNat) j = if k < σ 38 3 ∧ j = σ 40 k then upR (σ 4) (σ 39 k) else σ (42 + k.toNat) j := by
  unfold fX1_recordAll
  exact mloop (P := fun i t => (∀ k, k ≠ 40 → k ≠ 42 → k ≠ 43 → k ≠ 44 → k ≠ 45 → t k = σ k) ∧ ∀ k, 0 ≤ k → k < 4 → t 40 k = σ 40 k + (if k < i then 1 else 0) ∧ ∀ j, t (42 + k.toNat) j = if k < i ∧ j = σ 40 k then upR (σ 4) (σ 39 k) else σ (42 + k.toNat) j) (F := fun f i t => fX1_recordAll_c2 f i t) (R := fun t => some (0, t)) (σ 38 3) n0 (by omega) (fun f t hP => by
    have e38 : t 38 = σ 38 := hP.1 _ (by omega) (by omega) (by omega) (by omega) (by omega)
    show fX1_recordAll_c2 (f + 1) (σ 38 3) t = _
    rw [fX1_recordAll_c2, e38, if_pos (by rw [mI_le] <;> omega)]) (fun f i t i0 i1 hP => by
    obtain ⟨fr, hv⟩ := hP
    obtain ⟨h1, h2, h3⟩ := hc i i0 i1
    have hii : 0 ≤ i ∧ i < 4 := by omega
    have e38 : t 38 = σ 38 := fr _ (by omega) (by omega) (by omega) (by omega) (by omega)
    have e39 : t 39 = σ 39 := fr _ (by omega) (by omega) (by omega) (by omega) (by omega)
    have e4 : t 4 = σ 4 := fr _ (by omega) (by omega) (by omega) (by omega) (by omega)
    have e40 : t 40 i = σ 40 i := by rw [(hv i i0 hii.2).1, if_neg (by omega)]; omega
    have hu := upR_r (σ 4) (σ 39 i)
    show ∃ s1, fX1_recordAll_c2 (f + 1) i t = fX1_recordAll_c2 f (i + 1) s1 ∧ _
    rw [fX1_recordAll_c2, e38, if_neg (by rw [mI_le] <;> omega), if_neg (by rw [mI_le] <;> omega), if_pos hii, e40, if_neg (by rw [mI_le] <;> omega), if_pos hii, if_pos hii, if_pos hii, e39, m_moreAt (B := 1) (by rw [e4]; exact hp) h1.1 h1.2 (Or.inr rfl), Option.bind_some, if_pos ⟨h2, h3⟩, mqb, if_pos hii, if_pos hii, mqb, e4]
    have e40' : qset t (42 + i.toNat) (σ 40 i) (qi2b (qi2b (bt (σ 4 (σ 39 i)) 1 - bt (σ 4 (σ 39 i)) (1 + 2)))) 40 = t 40 := mset_ne (by omega)
    show ∃ s1, fX1_recordAll_c2 f (i + 1) (qset (qset t (42 + i.toNat) (σ 40 i) (qi2b (qi2b (upR (σ 4) (σ 39 i))))) 40 i (qset t (42 + i.toNat) (σ 40 i) (qi2b (qi2b (upR (σ 4) (σ 39 i)))) 40 i + 1)) = _ ∧ _
    rw [m_i2b hu.1 hu.2]
    refine ⟨_, rfl, fun k k0 k2 k3 k4 k5 => by rw [mset_ne k0, mset_ne (by omega)]; exact fr k k0 k2 k3 k4 k5, fun k k0 k1 => ⟨?_, fun j => ?_⟩⟩
    · rw [mset_same]
      show (if k = i then _ else _) = _
      rw [mset_ne (by omega), e40, (hv k k0 k1).1]
      by_cases e : k = i
      · rw [if_pos e, if_pos (by omega), e]
      · rw [if_neg e]
        by_cases e2 : k < i
        · rw [if_pos e2, if_pos (by omega)]
        · rw [if_neg e2, if_neg (by omega)]
    · rw [mset_ne (by omega)]
      by_cases e : k = i
      · rw [e, mset_same]
        show (if j = σ 40 i then _ else _) = _
        rw [(hv i i0 hii.2).2 j, if_neg (show ¬ (i < i ∧ j = σ 40 i) by omega)]
        by_cases e2 : j = σ 40 i
        · rw [if_pos e2, if_pos ⟨by omega, e2⟩]
        · rw [if_neg e2, if_neg (fun z => e2 z.2)]
      · rw [mset_ne (by omega), (hv k k0 k1).2 j]
        by_cases e2 : k < i ∧ j = σ 40 k
        · rw [if_pos e2, if_pos ⟨by omega, e2.2⟩]
        · rw [if_neg e2, if_neg (by omega)]) (s := σ) ⟨fun _ _ _ _ _ _ => rfl, fun k k0 k1 => ⟨by rw [if_neg (by omega)]; omega, fun j => by rw [if_neg (by omega)]⟩⟩
theorem m_loseLatest {σ : qSt} (n0 : 0 ≤ σ 38 3) (n1 : σ 38 3 ≤ 4) (hc : ∀ k, 0 ≤ k → k < σ 38 3 → 1 ≤ σ 40 k ∧ σ 40 k ≤ 5000) : ∃ σ', fX1_loseLatest σ = some (0, σ') ∧ (∀ k, k ≠ 40 → σ' k = σ k) ∧ ∀ k, 0 ≤ k → k < 4 → σ' 40 k = σ 40 k - (if k < σ 38 3 then 1 else 0) := by
  unfold fX1_loseLatest
  exact mloop (P := fun i t => (∀ k, k ≠ 40 → t k = σ k) ∧ ∀ k, 0 ≤ k → k < 4 → t 40 k = σ 40 k - (if k < i then 1 else 0)) (F := fun f i t => fX1_loseLatest_c2 f i t) (R := fun t => some (0, t)) (σ 38 3) n0 (by omega) (fun f t hP => by
    have e38 : t 38 = σ 38 := hP.1 _ (by omega)
    show fX1_loseLatest_c2 (f + 1) (σ 38 3) t = _
    rw [fX1_loseLatest_c2, e38, if_pos (by rw [mI_le] <;> omega)]) (fun f i t i0 i1 hP => by
    obtain ⟨fr, hv⟩ := hP
    have h1 := hc i i0 i1
    have hii : 0 ≤ i ∧ i < 4 := by omega
    have e38 : t 38 = σ 38 := fr _ (by omega)
    have e40 : t 40 i = σ 40 i := by rw [hv i i0 hii.2, if_neg (by omega)]; omega
    show ∃ s1, fX1_loseLatest_c2 (f + 1) i t = fX1_loseLatest_c2 f (i + 1) s1 ∧ _
    rw [fX1_loseLatest_c2, e38, if_neg (by rw [mI_le] <;> omega), if_neg (by rw [mI_le] <;> omega), if_pos hii, e40, if_neg (by rw [mI_le0] <;> omega), if_pos hii, if_pos hii, mqb]
    refine ⟨_, rfl, fun k k0 => by rw [mset_ne k0]; exact fr k k0, fun k k0 k1 => ?_⟩
    rw [mset_same]
    show (if k = i then _ else _) = _
    rw [hv k k0 k1]
    by_cases e : k = i
    · rw [if_pos e, if_pos (by omega), e]
    · rw [if_neg e]
      by_cases e2 : k < i
      · rw [if_pos e2, if_pos (by omega)]
      · rw [if_neg e2, if_neg (by omega)]) (s := σ) ⟨fun _ _ => rfl, fun k k0 k1 => by rw [if_neg (by omega)]; omega⟩
theorem m_recordM {σ : qSt} (k48 : Int → Int → Int → qSt → Option (Int × qSt)) (x1 x2 x3 : Int) (hp : PR (σ 50)) (n0 : 0 ≤ σ 47 19) (n1 : σ 47 19 ≤ 4) (hc : ∀ k, 0 ≤ k → k < σ 47 19 → (0 ≤ σ 61 k ∧ σ 61 k < 96) ∧ 0 ≤ σ 62 k ∧ σ 62 k < 5000) : ∃ σ', fX6_step_c143 k48 qFU x1 x2 x3 0 σ = k48 x1 x2 (x3 + 1) σ' ∧ (∀ k, k ≠ 62 → k ≠ 63 → σ' k = σ k) ∧ ∀ k, 0 ≤ k → k < 4 → σ' 62 k = σ 62 k + (if k < σ 47 19 then 1 else 0) ∧ ∀ j, 0 ≤ j → j < 5000 → σ' 63 (5000 * k + j) = if k < σ 47 19 ∧ j = σ 62 k then upR (σ 50) (σ 61 k) else σ 63 (5000 * k + j) :=
  mloop (P := fun i t => (∀ k, k ≠ 62 → k ≠ 63 → t k = σ k) ∧ ∀ k, 0 ≤ k → k < 4 → t 62 k = σ 62 k + (if k < i then 1 else 0) ∧ ∀ j, 0 ≤ j → j < 5000 → t 63 (5000 * k + j) = if k < i ∧ j = σ 62 k then upR (σ 50) (σ 61 k) else σ 63 (5000 * k + j)) (F := fun f i t => fX6_step_c143 k48 f x1 x2 x3 i t) (R := fun t => k48 x1 x2 (x3 + 1) t) (σ 47 19) n0 (by omega) (fun f t hP => by
    have e47 : t 47 = σ 47 := hP.1 _ (by omega) (by omega)
    show fX6_step_c143 k48 (f + 1) x1 x2 x3 (σ 47 19) t = _
    rw [fX6_step_c143, e47, if_pos (by rw [mI_le] <;> omega)]) (fun f i t i0 i1 hP => by
    obtain ⟨fr, hv⟩ := hP
    obtain ⟨h1, h2, h3⟩ := hc i i0 i1
    have hii : 0 ≤ i ∧ i < 4 := by omega
    have e47 : t 47 = σ 47 := fr _ (by omega) (by omega)
    have e61 : t 61 = σ 61 := fr _ (by omega) (by omega)
    have e50 : t 50 = σ 50 := fr _ (by omega) (by omega)
    have e62 : t 62 i = σ 62 i := by rw [(hv i i0 hii.2).1, if_neg (by omega)]; omega
    have hr := hp (σ 61 i) h1.1 h1.2
    show ∃ s1, fX6_step_c143 k48 (f + 1) x1 x2 x3 i t = fX6_step_c143 k48 f x1 x2 x3 (i + 1) s1 ∧ _
    rw [fX6_step_c143, e47, if_neg (by rw [mI_le] <;> omega), if_pos hii, e61, if_pos h1, mqb, if_pos hii, e62, if_pos (show 0 ≤ 5000 * i + σ 62 i ∧ 5000 * i + σ 62 i < 20000 by omega), mqb, if_pos hii, if_pos hii, mqb, e50, m_bit hr.1 hr.2 (by omega) (by omega), m_bit hr.1 hr.2 (by omega) (by omega)]
    show ∃ s1, fX6_step_c143 k48 f x1 x2 x3 (i + 1) (qset (qset t 63 (5000 * i + σ 62 i) (upR (σ 50) (σ 61 i))) 62 i (qset t 63 (5000 * i + σ 62 i) (upR (σ 50) (σ 61 i)) 62 i + 1)) = _ ∧ _
    refine ⟨_, rfl, fun k k2 k3 => by rw [mset_ne k2, mset_ne k3]; exact fr k k2 k3, fun k k0 k1 => ⟨?_, fun j j0 j1 => ?_⟩⟩
    · rw [mset_same]
      show (if k = i then _ else _) = _
      rw [mset_ne (by omega), e62, (hv k k0 k1).1]
      by_cases e : k = i
      · rw [if_pos e, if_pos (by omega), e]
      · rw [if_neg e]
        by_cases e2 : k < i
        · rw [if_pos e2, if_pos (by omega)]
        · rw [if_neg e2, if_neg (by omega)]
    · rw [mset_ne (by omega), mset_same]
      show (if 5000 * k + j = 5000 * i + σ 62 i then _ else _) = _
      rw [(hv k k0 k1).2 j j0 j1]
      by_cases e : k = i ∧ j = σ 62 i
      · rw [if_pos (by omega), if_pos (by rw [e.1]; exact ⟨by omega, e.2⟩), e.1]
      · rw [if_neg (by omega)]
        by_cases e2 : k < i ∧ j = σ 62 k
        · rw [if_pos e2, if_pos ⟨by omega, e2.2⟩]
        · by_cases e3 : k = i
          · rw [if_neg e2, if_neg (fun z => e ⟨e3, by rw [← e3]; exact z.2⟩)]
          · rw [if_neg e2, if_neg (by omega)]) (s := σ) ⟨fun _ _ _ => rfl, fun k k0 k1 => ⟨by rw [if_neg (by omega)]; omega, fun j _ _ => by rw [if_neg (by omega)]⟩⟩
theorem m_loseM {σ : qSt} (k39 : Int → Int → qSt → Option (Int × qSt)) (x1 x2 : Int) (n0 : 0 ≤ σ 47 19) (n1 : σ 47 19 ≤ 4) : ∃ σ', fX6_back_c113 k39 qFU x1 x2 0 σ = k39 x1 (x2 + 1) σ' ∧ (∀ k, k ≠ 62 → σ' k = σ k) ∧ ∀ k, 0 ≤ k → k < 4 → σ' 62 k = σ 62 k - (if k < σ 47 19 then 1 else 0) :=
  mloop (P := fun i t => (∀ k, k ≠ 62 → t k = σ k) ∧ ∀ k, 0 ≤ k → k < 4 → t 62 k = σ 62 k - (if k < i then 1 else 0)) (F := fun f i t => fX6_back_c113 k39 f x1 x2 i t) (R := fun t => k39 x1 (x2 + 1) t) (σ 47 19) n0 (by omega) (fun f t hP => by
    have e47 : t 47 = σ 47 := hP.1 _ (by omega)
    show fX6_back_c113 k39 (f + 1) x1 x2 (σ 47 19) t = _
    rw [fX6_back_c113, e47, if_pos (by rw [mI_le] <;> omega)]) (fun f i t i0 i1 hP => by
    obtain ⟨fr, hv⟩ := hP
    have hii : 0 ≤ i ∧ i < 4 := by omega
    have e47 : t 47 = σ 47 := fr _ (by omega)
    show ∃ s1, fX6_back_c113 k39 (f + 1) x1 x2 i t = fX6_back_c113 k39 f x1 x2 (i + 1) s1 ∧ _
    rw [fX6_back_c113, e47, if_neg (by rw [mI_le] <;> omega), if_pos hii, if_pos hii, mqb]
    refine ⟨_, rfl, fun k k0 => by rw [mset_ne k0]; exact fr k k0, fun k k0 k1 => ?_⟩
    rw [mset_same]
    show (if k = i then _ else _) = _
    have e62 : t 62 i = σ 62 i := by rw [hv i i0 hii.2, if_neg (by omega)]; omega
    rw [hv k k0 k1, e62]
    by_cases e : k = i
    · rw [if_pos e, if_pos (by omega), e]
    · rw [if_neg e]
      by_cases e2 : k < i
      · rw [if_pos e2, if_pos (by omega)]
      · rw [if_neg e2, if_neg (by omega)]) (s := σ) ⟨fun _ _ => rfl, fun k k0 k1 => by rw [if_neg (by omega)]; omega⟩
/-- is the water closed -/
theorem m_closed {a b : qSt} (h : JW a b) : ∃ cl o : Int, fX3_isClosed 1 a = some cl ∧ fX6_hasOpen b = some o ∧ ((cl = 1 ∧ o = 0) ∨ (cl = 0 ∧ o = 1)) := by
  have hk : KR (a 2) := h.2.2.2.2.1.1
  have hk2 : KR (b 48) := by rw [← h.1]; exact hk
  have ho : (fX6_hasOpen b = some 0 ∧ ∀ c, 0 ≤ c → c < 96 → b 48 c ≠ 2 ∧ b 48 c ≠ 3) ∨ (fX6_hasOpen b = some 1 ∧ ∃ c, 0 ≤ c ∧ c < 96 ∧ (b 48 c = 2 ∨ b 48 c = 3)) := by
    unfold fX6_hasOpen
    obtain ⟨s, e, q⟩ := mloop (P := fun i (n : Int) => (n = 0 ∧ ∀ c, 0 ≤ c → c < i → b 48 c ≠ 2 ∧ b 48 c ≠ 3) ∨ (n = 1 ∧ ∃ c, 0 ≤ c ∧ c < 96 ∧ (b 48 c = 2 ∨ b 48 c = 3))) (F := fun f i n => fX6_hasOpen_c4 b f n i) (R := fun n => some n) 96 (by omega) (by omega) (fun f n hP => by
      show fX6_hasOpen_c4 b (f + 1) n 96 = _
      rw [fX6_hasOpen_c4, if_pos (by rw [mI_le] <;> omega), if_pos (hP.elim (fun h => Or.inl h.1) (fun h => Or.inr h.1))]) (fun f i n i0 i1 hP => by
      have hr := hk2 i i0 i1
      show ∃ s1, fX6_hasOpen_c4 b (f + 1) n i = fX6_hasOpen_c4 b f s1 (i + 1) ∧ _
      rw [fX6_hasOpen_c4, if_neg (by rw [mI_le] <;> omega)]
      rcases hP with ⟨rfl, hP⟩ | ⟨rfl, c, cc⟩
      · rw [iI_no, if_pos (show 0 ≤ i ∧ i < 96 from ⟨i0, i1⟩), if_pos (show 0 ≤ i ∧ i < 96 from ⟨i0, i1⟩), iI_eq (by omega) (by omega) (by omega) (by omega), iI_eq (by omega) (by omega) (by omega) (by omega)]
        by_cases e2 : b 48 i = 2
        · rw [if_pos e2]; exact ⟨1, rfl, Or.inr ⟨rfl, i, i0, i1, Or.inl e2⟩⟩
        rw [if_neg e2]
        by_cases e3 : b 48 i = 3
        · rw [if_pos e3]; exact ⟨1, rfl, Or.inr ⟨rfl, i, i0, i1, Or.inr e3⟩⟩
        rw [if_neg e3]
        refine ⟨0, rfl, Or.inl ⟨rfl, fun c c0 c1 => ?_⟩⟩
        by_cases e : c = i
        · rw [e]; exact ⟨e2, e3⟩
        · exact hP c c0 (by omega)
      · rw [iI_yes]; exact ⟨1, rfl, Or.inr ⟨rfl, c, cc⟩⟩) (s := 0) (Or.inl ⟨rfl, fun c _ _ => by omega⟩)
    have e' : fX6_hasOpen_c4 b qFU 0 0 = some s := e
    rcases q with ⟨rfl, q⟩ | ⟨rfl, q⟩
    · exact Or.inl ⟨e', q⟩
    · exact Or.inr ⟨e', q⟩
  have hcl : (fX3_isClosed 1 a = some 1 ∧ ∀ c, 0 ≤ c → c < 96 → a 2 c ≠ 2 ∧ a 2 c ≠ 3) ∨ (fX3_isClosed 1 a = some 0 ∧ ∃ c, 0 ≤ c ∧ c < 96 ∧ (a 2 c = 2 ∨ a 2 c = 3)) := by
    unfold fX3_isClosed
    rcases mloopX (S := Unit) (P := fun i _ => ∀ c, 0 ≤ c → c < i → a 2 c ≠ 2 ∧ a 2 c ≠ 3) (F := fun f i _ => fX3_isClosed_c10 1 a f 96 i) (R := fun _ => some 1) (Q := fun z => z = 0 ∧ ∃ c, 0 ≤ c ∧ c < 96 ∧ (a 2 c = 2 ∨ a 2 c = 3)) 96 (by omega) (by omega) (fun f _ _ => by
      show fX3_isClosed_c10 1 a (f + 1) 96 96 = _
      rw [fX3_isClosed_c10, if_pos (by rw [mI_le] <;> omega)]) (fun f i _ i0 i1 hP => by
      have hr := hk i i0 i1
      show (∃ s1 : Unit, fX3_isClosed_c10 1 a (f + 1) 96 i = fX3_isClosed_c10 1 a f 96 (i + 1) ∧ _) ∨ ∃ z, fX3_isClosed_c10 1 a (f + 1) 96 i = some z ∧ _
      rw [fX3_isClosed_c10, if_neg (by rw [mI_le] <;> omega), if_pos ⟨i0, i1⟩, mqb]
      show (∃ s1 : Unit, (if qI (a 2 i) = qI 2 then _ else if qI (a 2 i) = qI 3 then _ else _) = _ ∧ _) ∨ ∃ z, (if qI (a 2 i) = qI 2 then _ else if qI (a 2 i) = qI 3 then _ else _) = _ ∧ _
      rw [iI_eq (by omega) (by omega) (by omega) (by omega), iI_eq (by omega) (by omega) (by omega) (by omega)]
      by_cases e2 : a 2 i = 2
      · rw [if_pos e2]; exact Or.inr ⟨0, rfl, rfl, i, i0, i1, Or.inl e2⟩
      rw [if_neg e2]
      by_cases e3 : a 2 i = 3
      · rw [if_pos e3]; exact Or.inr ⟨0, rfl, rfl, i, i0, i1, Or.inr e3⟩
      rw [if_neg e3]
      refine Or.inl ⟨(), rfl, fun c c0 c1 => ?_⟩
      by_cases e : c = i
      · rw [e]; exact ⟨e2, e3⟩
      · exact hP c c0 (by omega)) (s := ()) (fun c _ _ => by omega) with ⟨_, e1, p1⟩ | ⟨z, e1, rfl, p1⟩
    · exact Or.inl ⟨e1, p1⟩
    · exact Or.inr ⟨e1, p1⟩
  rw [h.1] at hcl
  rcases hcl with ⟨q1, p1⟩ | ⟨q1, c, c0, c1, p1⟩ <;> rcases ho with ⟨q2, p2⟩ | ⟨q2, c', c0', c1', p2⟩
  · exact ⟨1, 0, q1, q2, Or.inl ⟨rfl, rfl⟩⟩
  · exact absurd p2 (fun z => z.elim (p1 c' c0' c1').1 (p1 c' c0' c1').2)
  · exact absurd p1 (fun z => z.elim (p2 c c0 c1).1 (p2 c c0 c1).2)
  · exact ⟨0, 1, q1, q2, Or.inr ⟨rfl, rfl⟩⟩
