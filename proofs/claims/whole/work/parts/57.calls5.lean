theorem btc_r (x : Int) : 0 ≤ btc x ∧ btc x ≤ 4 := by
  have a := bt_r x 0
  have b := bt_r x 1
  have c := bt_r x 2
  have d := bt_r x 3
  unfold btc
  omega
theorem m_bitsOf {p : Nat} {σ : qSt} (h : PR (σ p)) : fX5_bitsOf p σ = some (sr (fun c => btc (σ p c)) 96) := by
  unfold fX5_bitsOf
  obtain ⟨s, e, q⟩ := mloop (P := fun i (n : Int) => n = sr (fun c => btc (σ p c)) i.toNat) (F := fun f i n => fX5_bitsOf_c10 p σ f n 96 i) (R := fun n => some n) 96 (by omega) (by omega) (fun f n _ => by
    show fX5_bitsOf_c10 p σ (f + 1) n 96 96 = _
    rw [fX5_bitsOf_c10, if_pos (by rw [mI_le] <;> omega)]) (fun f i n i0 i1 hP => by
    have hr := h i i0 i1
    show ∃ s1, fX5_bitsOf_c10 p σ (f + 1) n 96 i = fX5_bitsOf_c10 p σ f s1 96 (i + 1) ∧ _
    rw [fX5_bitsOf_c10, if_neg (by rw [mI_le] <;> omega), if_pos ⟨i0, i1⟩, mqb, m_bitCount hr.1 hr.2, Option.bind_some, mqb]
    exact ⟨_, rfl, by rw [hP, sr_step i0]⟩) (s := 0) rfl
  have e' : fX5_bitsOf_c10 p σ qFU 0 96 0 = some s := e
  rw [e', q]
  rfl
theorem m_moreAt {B : Nat} {σ : qSt} {c u : Int} (h : PR (σ (B + 3))) (c0 : 0 ≤ c) (c1 : c < 96) (hu : u = 0 ∨ u = 1) : fX3_moreAt B σ c u = some (bt (σ (B + 3) c) u - bt (σ (B + 3) c) (u + 2)) := by
  have hr := h c c0 c1
  unfold fX3_moreAt fX5_opposite
  rw [if_pos ⟨c0, c1⟩, if_pos ⟨c0, c1⟩, Option.bind_some, m_opp (by omega) (by omega), m_bit hr.1 hr.2 (by omega) (by omega), show op u = u + 2 by unfold op; rw [if_pos (by omega)], m_bit hr.1 hr.2 (by omega) (by omega)]
theorem m_goingMore {σ : qSt} {u : Int} (h : PR (σ 4)) (hu : u = 0 ∨ u = 1) : fX3_goingMore 1 σ u = some (gs u (σ 4)) := by
  unfold fX3_goingMore
  obtain ⟨s, e, q⟩ := mloop (P := fun i (n : Int) => n = sr (fun c => bt (σ 4 c) u - bt (σ 4 c) (u + 2)) i.toNat) (F := fun f i n => fX3_goingMore_c4 1 σ f u n i) (R := fun n => some n) 96 (by omega) (by omega) (fun f n _ => by
    show fX3_goingMore_c4 1 σ (f + 1) u n 96 = _
    rw [fX3_goingMore_c4, if_pos (by rw [mI_le] <;> omega)]) (fun f i n i0 i1 hP => by
    show ∃ s1, fX3_goingMore_c4 1 σ (f + 1) u n i = fX3_goingMore_c4 1 σ f u s1 (i + 1) ∧ _
    rw [fX3_goingMore_c4, if_neg (by rw [mI_le] <;> omega), m_moreAt (B := 1) h i0 i1 hu, Option.bind_some, mqb]
    exact ⟨_, rfl, by rw [hP, sr_step i0]⟩) (s := 0) rfl
  have e' : fX3_goingMore_c4 1 σ qFU u 0 0 = some s := e
  rw [e', q]
  rfl
theorem gs_r (u : Int) (r : Int → Int) : -96 ≤ gs u r ∧ gs u r ≤ 96 := by
  have := sr_bound (f := fun c => bt (r c) u - bt (r c) (u + 2)) (B := 1) (by omega) (n := 96) (fun x _ _ => by have := bt_r (r x) u; have := bt_r (r x) (u + 2); omega)
  unfold gs
  omega
theorem sbtc_r (r : Int → Int) : 0 ≤ sr (fun c => btc (r c)) 96 ∧ sr (fun c => btc (r c)) 96 ≤ 384 := by
  have h := sr_bound (f := fun c => btc (r c)) (B := 4) (by omega) (n := 96) (fun x _ _ => by have := btc_r (r x); omega)
  have key : ∀ n : Nat, 0 ≤ sr (fun c => btc (r c)) n := by
    intro n
    induction n with
    | zero => exact Int.le_refl _
    | succ n ih =>
      have := btc_r (r n)
      show 0 ≤ sr _ n + btc (r n)
      omega
  have := key 96
  omega
theorem m_rightOf {σ : qSt} {x : Int} (h0 : 0 ≤ x) (h1 : x ≤ 15) : fX6_rightOf σ x = some (bt x 0 - bt x (0 + 2)) := by
  unfold fX6_rightOf
  rw [m_and1 h0 h1, m_bit h0 h1 (by omega) (by omega)]
  rfl
theorem m_upOf {σ : qSt} {x : Int} (h0 : 0 ≤ x) (h1 : x ≤ 15) : fX6_upOf σ x = some (bt x 1 - bt x (1 + 2)) := by
  unfold fX6_upOf
  rw [m_bit h0 h1 (by omega) (by omega), m_bit h0 h1 (by omega) (by omega)]
  rfl
def sumF (b : qSt) (k c : Int) : Int := if k = 2 then btc (b 50 c) else if k = 3 then btc (b 51 c) else if k = 4 then bt (b 50 c) 0 - bt (b 50 c) (0 + 2) else bt (b 50 c) 1 - bt (b 50 c) (1 + 2)
theorem m_sumloop {b : qSt} {k : Int} (h2 : 2 ≤ k) (h5 : k ≤ 5) (hp : PR (b 50)) (hd : PR (b 51)) : fX6_sum_c29 qFU k 0 0 b = fX6_sum_c124 k (sr (sumF b k) 96) b := by
  obtain ⟨s, e, q⟩ := mloop (P := fun i (n : Int) => n = sr (sumF b k) i.toNat) (F := fun f i n => fX6_sum_c29 f k n i b) (R := fun n => fX6_sum_c124 k n b) 96 (by omega) (by omega) (fun f n _ => by
    show fX6_sum_c29 (f + 1) k n 96 b = _
    rw [fX6_sum_c29, if_pos (by rw [mI_le] <;> omega)]) (fun f i n i0 i1 hP => by
    have hr := hp i i0 i1
    have hr2 := hd i i0 i1
    have c1 := btc_r (b 50 i)
    have c2 := btc_r (b 51 i)
    have b0 := bt_r (b 50 i) 0
    have b1 := bt_r (b 50 i) 1
    have b2 := bt_r (b 50 i) (0 + 2)
    have b3 := bt_r (b 50 i) (1 + 2)
    show ∃ s1, fX6_sum_c29 (f + 1) k n i b = fX6_sum_c29 f k s1 (i + 1) b ∧ _
    rw [fX6_sum_c29, if_neg (by rw [mI_le] <;> omega), if_neg (by rw [mI_le] <;> omega), if_neg (by rw [mI_le] <;> omega), iI_eq (by omega) (by omega) (by omega) (by omega), iI_eq (by omega) (by omega) (by omega) (by omega), iI_eq (by omega) (by omega) (by omega) (by omega)]
    simp only [if_pos (show 0 ≤ i ∧ i < 96 from ⟨i0, i1⟩)]
    rw [m_many hr.1 hr.2, m_many hr2.1 hr2.2, m_rightOf hr.1 hr.2, m_upOf hr.1 hr.2, Option.bind_some, Option.bind_some, Option.bind_some, Option.bind_some, m_i2l (by omega) (by omega), m_i2l (by omega) (by omega), m_i2l (by omega) (by omega), m_i2l (by omega) (by omega)]
    unfold fX6_sum_c116
    simp only [mqb]
    have last : ∀ v : Int, v = sumF b k i → ∃ s1, fX6_sum_c29 f k (n + v) (i + 1) b = fX6_sum_c29 f k s1 (i + 1) b ∧ s1 = sr (sumF b k) (i + 1).toNat := fun v hv => ⟨_, rfl, by rw [hP, sr_step i0, hv]⟩
    unfold sumF at last
    by_cases e2 : k = 2
    · rw [if_pos e2]; exact last _ (by rw [if_pos e2])
    rw [if_neg e2]
    by_cases e3 : k = 3
    · rw [if_pos e3]; exact last _ (by rw [if_neg e2, if_pos e3])
    rw [if_neg e3]
    by_cases e4 : k = 4
    · rw [if_pos e4]; exact last _ (by rw [if_neg e2, if_neg e3, if_pos e4])
    rw [if_neg e4]; exact last _ (by rw [if_neg e2, if_neg e3, if_neg e4])) (s := 0) rfl
  have e' : fX6_sum_c29 qFU k 0 0 b = fX6_sum_c124 k s b := e
  rw [e', q]
  rfl
theorem p_sum {t : Int} (t0 : 0 ≤ t) (t1 : t ≤ 600) {a b : qSt} (h : J t a b) {k : Int} (hk : isI k) : PQ [(0, 0), (2, 1)] t a b (fX5_sum k a) (fX6_sum k b) := by
  obtain ⟨j1, j2, j3, j4, j5, j6, j7⟩ := id h
  obtain ⟨x1, x2, x3, x4, x5, x6, x7⟩ := id j5
  obtain ⟨q1, q2, q3, q4, ⟨v1, v2, v3, v4, v5, v6⟩, q6⟩ := id j1
  have v3 : PR (a 4) := v3
  have v4 : PR (a 5) := v4
  have har := all_r j2
  have hmr := j4.2.1
  unfold fX5_sum fX6_sum fX6_sum_c16
  rw [iI_eq hk.1 hk.2 (by omega) (by omega), iI_eq hk.1 hk.2 (by omega) (by omega), iI_eq hk.1 hk.2 (by omega) (by omega), iI_eq hk.1 hk.2 (by omega) (by omega), iI_eq hk.1 hk.2 (by omega) (by omega), iI_eq hk.1 hk.2 (by omega) (by omega), iI_eq hk.1 hk.2 (by omega) (by omega), iI_eq hk.1 hk.2 (by omega) (by omega)]
  by_cases hkk : 0 ≤ k ∧ k ≤ 7
  · rw [with1 (by omega) (by omega) hkk.1 hkk.2, Option.bind_some, iI_yes, ref_ok]
    have hb : ∀ k, k ≠ 47 → qset b 47 0 0 k = b k := fun k hk => mset_ne hk
    have hb7 : ∀ j, j ≠ 0 → qset b 47 0 0 47 j = b 47 j := fun j hj => by rw [mset_same]; exact if_neg hj
    have hc : fX6_allCounts (qset b 47 0 0) = some (a 27 2) := m_allCounts (j2.fr (a' := a) rfl (fun _ _ _ => rfl) rfl (hb 56 (by omega)))
    by_cases hkk2 : 2 ≤ k ∧ k ≤ 5
    · rw [m_sumloop hkk2.1 hkk2.2 (by rw [hb 50 (by omega), ← q3]; exact v3) (by rw [hb 51 (by omega), ← q4]; exact v4)]
      unfold fX6_sum_c124 sumF
      rw [iI_eq0 hk.1 hk.2, iI_eq hk.1 hk.2 (by omega) (by omega), iI_eq hk.1 hk.2 (by omega) (by omega), iI_eq hk.1 hk.2 (by omega) (by omega), if_neg (show ¬ k = 0 by omega), if_neg (show ¬ k = 0 by omega), if_neg (show ¬ k = 1 by omega), if_neg (show ¬ k = 1 by omega), if_neg (show ¬ k = 6 by omega), if_neg (show ¬ k = 6 by omega), if_neg (show ¬ k = 7 by omega), if_neg (show ¬ k = 7 by omega), hb 50 (by omega), hb 51 (by omega), ← q3, ← q4]
      rcases (show k = 2 ∨ k = 3 ∨ k = 4 ∨ k = 5 by omega) with rfl | rfl | rfl | rfl
      · have := sbtc_r (a 4)
        rw [if_pos rfl, m_bitsOf v3, Option.bind_some, m_i2l (by omega) (by omega)]
        exact PQ.val h (by simp)
      · have := sbtc_r (a 5)
        rw [if_neg (show ¬ (3 : Int) = 2 by omega), if_pos rfl, m_bitsOf v4, Option.bind_some, m_i2l (by omega) (by omega)]
        exact PQ.val h (by simp)
      · have := gs_r 0 (a 4)
        rw [if_neg (show ¬ (4 : Int) = 2 by omega), if_neg (show ¬ (4 : Int) = 3 by omega), if_pos rfl, m_goingMore v3 (Or.inl rfl), Option.bind_some, m_i2l (by omega) (by omega)]
        exact PQ.val h (by simp)
      · have := gs_r 1 (a 4)
        rw [if_neg (show ¬ (5 : Int) = 2 by omega), if_neg (show ¬ (5 : Int) = 3 by omega), if_neg (show ¬ (5 : Int) = 4 by omega), if_pos rfl, m_goingMore v3 (Or.inr rfl), Option.bind_some, m_i2l (by omega) (by omega)]
        exact PQ.val h (by simp)
    · have e29 : fX6_sum_c29 qFU k 0 0 (qset b 47 0 0) = fX6_sum_c124 k 0 (qset b 47 0 0) := by
        show fX6_sum_c29 (99999 + 1) k 0 0 (qset b 47 0 0) = _
        rw [fX6_sum_c29, iI_le (by omega) (by omega) (by omega) (by omega), if_neg (show ¬ (96 : Int) ≤ 0 by omega), iI_le hk.1 hk.2 (by omega) (by omega), iI_le (by omega) (by omega) hk.1 hk.2]
        by_cases e : k ≤ 1
        · rw [if_pos e]
        · rw [if_neg e, if_pos (by omega)]
      rw [e29]
      unfold fX6_sum_c124
      rw [iI_eq0 hk.1 hk.2, iI_eq hk.1 hk.2 (by omega) (by omega), iI_eq hk.1 hk.2 (by omega) (by omega), iI_eq hk.1 hk.2 (by omega) (by omega), hb7 15 (by omega), hb7 16 (by omega), hb7 17 (by omega), hc, Option.bind_some, ← x1, ← x3, ← j4.1, m_i2l (by omega) (by omega), m_i2l (by omega) (by omega), m_i2l (by omega) (by omega), m_i2l (by omega) (by omega), if_neg (show ¬ k = 2 by omega), if_neg (show ¬ k = 3 by omega), if_neg (show ¬ k = 4 by omega), if_neg (show ¬ k = 5 by omega)]
      by_cases k0 : k = 0
      · rw [if_pos k0, if_pos k0]; exact PQ.val h (by simp)
      rw [if_neg k0, if_neg k0]
      by_cases k1 : k = 1
      · rw [if_pos k1, if_pos k1]; exact PQ.val h (by simp)
      rw [if_neg k1, if_neg k1]
      by_cases k6 : k = 6
      · rw [if_pos k6, if_pos k6]; exact PQ.val h (by simp)
      rw [if_neg k6, if_neg k6, if_pos (show k = 7 by omega), if_pos (show k = 7 by omega)]
      exact PQ.val h (by simp)
  · rw [with0 hk (isI_of (by omega) (by omega)) (isI_of (by omega) (by omega)) hkk, Option.bind_some, iI_no, ref_no (by omega) (by omega), if_neg (show ¬ k = 0 by omega), if_neg (show ¬ k = 1 by omega), if_neg (show ¬ k = 2 by omega), if_neg (show ¬ k = 3 by omega), if_neg (show ¬ k = 4 by omega), if_neg (show ¬ k = 5 by omega), if_neg (show ¬ k = 6 by omega), if_neg (show ¬ k = 7 by omega)]
    exact PQ.no h (by simp) (by omega)
theorem m_left {t : Int} (t0 : 0 ≤ t) (t1 : t ≤ 600) {a b : qSt} (h : J t a b) {k : Int} (hk : isI k) : fX5_left a k = some 0 := by
  obtain ⟨j1, j2, j3, j4, j5, j6, j7⟩ := id h
  have v3 : PR (a 4) := j1.2.2.2.2.1.2.2.1
  have c9 : ∀ u : Int, u = 0 ∨ u = 1 → LA 1 a u = 0 → fX5_left_c9 a u = some 0 := fun u hu hl => by
    unfold fX5_left_c9 fX5_opposite
    have hg := gs_r u (a 4)
    have o1 := j4.2.2.1 u (by omega) (by omega)
    have o2 := j4.2.2.1 (u + 2) (by omega) (by omega)
    have hl : a 11 u - a 11 (u + 2) - gs u (a 4) - (a 12 u - a 12 (u + 2)) - 2 * (a 13 u - a 13 (u + 2)) = 0 := hl
    rw [Option.bind_some, m_opp (by omega) (by omega), show op u = u + 2 by unfold op; rw [if_pos (by omega)]]
    simp only [if_pos (show 0 ≤ u ∧ u < 4 by omega), if_pos (show 0 ≤ u + 2 ∧ u + 2 < 4 by omega), mqb]
    rw [m_goingMore v3 hu, Option.bind_some, m_i2l (by omega) (by omega), m_i2l (by omega) (by omega), m_i2l (by omega) (by omega), m_i2l (by omega) (by omega), hl]
  unfold fX5_left
  split
  · exact c9 0 (Or.inl rfl) j4.2.2.2.1
  · exact c9 1 (Or.inr rfl) j4.2.2.2.2
