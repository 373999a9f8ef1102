/-! ===== what questions answer ===== -/
def cv (a : qSt) (c k : Int) : Int := if k = 0 then a 2 c else if k = 1 then a 3 c else if k = 2 then a 4 c else if k = 3 then a 5 c else a (30 + (k - 4).toNat) c
theorem x_cellOf {a : qSt} {c k : Int} (c0 : 0 ≤ c) (c1 : c < 96) (k0 : 0 ≤ k) (k7 : k ≤ 7) : fX5_cellOf c k a = some (0, cv a c k, a) := by
  have hcc : 0 ≤ c ∧ c < 96 := ⟨c0, c1⟩
  have hk : isI k := isI_of (by omega) (by omega)
  unfold fX5_cellOf cv
  rw [noCell0 c0 c1, Option.bind_some, iI_no]
  simp only [if_pos hcc]
  rw [iI_eq hk.1 hk.2 (by omega) (by omega), iI_eq hk.1 hk.2 (by omega) (by omega), iI_eq hk.1 hk.2 (by omega) (by omega), iI_eq hk.1 hk.2 (by omega) (by omega), iI_eq hk.1 hk.2 (by omega) (by omega), iI_eq hk.1 hk.2 (by omega) (by omega), iI_eq hk.1 hk.2 (by omega) (by omega), iI_eq hk.1 hk.2 (by omega) (by omega)]
  by_cases e0 : k = 0
  · rw [if_pos e0, if_pos e0]
  rw [if_neg e0, if_neg e0]
  by_cases e1 : k = 1
  · rw [if_pos e1, if_pos e1]
  rw [if_neg e1, if_neg e1]
  by_cases e2 : k = 2
  · rw [if_pos e2, if_pos e2]
  rw [if_neg e2, if_neg e2]
  by_cases e3 : k = 3
  · rw [if_pos e3, if_pos e3]
  rw [if_neg e3, if_neg e3]
  simp only [if_pos (show 0 ≤ k - 4 ∧ k - 4 < 4 by omega)]
  rcases (show k = 4 ∨ k = 5 ∨ k = 6 ∨ k = 7 by omega) with e4 | e4 | e4 | e4
  · rw [if_pos e4]
  · rw [if_neg (show ¬ k = 4 by omega), if_pos e4]
  · rw [if_neg (show ¬ k = 4 by omega), if_neg (show ¬ k = 5 by omega), if_pos e4]
  · rw [if_neg (show ¬ k = 4 by omega), if_neg (show ¬ k = 5 by omega), if_neg (show ¬ k = 6 by omega), if_pos e4]
theorem cv_r {h e s r n : Int} {a : qSt} (H : I h e s r n a) (hn : n ≤ 1000000) {c k : Int} (c0 : 0 ≤ c) (c1 : c < 96) (k0 : 0 ≤ k) (k7 : k ≤ 7) : -1 ≤ cv a c k ∧ cv a c k ≤ 1000000 := by
  have h1 : 0 ≤ a 2 c ∧ a 2 c ≤ 3 := H.1.1.1 c c0 c1
  have h2 : -1 ≤ a 3 c ∧ a 3 c ≤ 3 := H.1.1.2.1 c c0 c1
  have h3 : 0 ≤ a 4 c ∧ a 4 c ≤ 15 := H.1.1.2.2.1 c c0 c1
  have h4 : 0 ≤ a 5 c ∧ a 5 c ≤ 15 := H.1.1.2.2.2.1 c c0 c1
  unfold cv
  by_cases e0 : k = 0
  · rw [if_pos e0]; omega
  rw [if_neg e0]
  by_cases e1 : k = 1
  · rw [if_pos e1]; omega
  rw [if_neg e1]
  by_cases e2 : k = 2
  · rw [if_pos e2]; omega
  rw [if_neg e2]
  by_cases e3 : k = 3
  · rw [if_pos e3]; omega
  rw [if_neg e3]
  have := H.2.1.r c0 c1 (w := k - 4) (by omega) (by omega)
  omega
theorem L_cell {h e s r n : Int} {a : qSt} (H : I h e s r n a) (hn : n ≤ 1000000) {c k : Int} (c0 : 0 ≤ c) (c1 : c < 96) (k0 : 0 ≤ k) (k7 : k ≤ 7) : fL_cellOf c k a = some (cv a c k, a) := by
  have hr := cv_r H hn c0 c1 k0 k7
  unfold fL_cellOf
  rw [x_cellOf c0 c1 k0 k7, mqbx, if_pos rfl, m_i2l (by omega) (by omega)]
theorem L_c0 {h e s r n : Int} {a : qSt} (H : I h e s r n a) (hn : n ≤ 1000000) {c : Int} (c0 : 0 ≤ c) (c1 : c < 96) : fL_cellOf c 0 a = some (a 2 c, a) := by
  rw [L_cell H hn c0 c1 (by omega) (by omega)]; rfl
theorem L_c1 {h e s r n : Int} {a : qSt} (H : I h e s r n a) (hn : n ≤ 1000000) {c : Int} (c0 : 0 ≤ c) (c1 : c < 96) : fL_cellOf c 1 a = some (a 3 c, a) := by
  rw [L_cell H hn c0 c1 (by omega) (by omega)]; rfl
theorem L_c2 {h e s r n : Int} {a : qSt} (H : I h e s r n a) (hn : n ≤ 1000000) {c : Int} (c0 : 0 ≤ c) (c1 : c < 96) : fL_cellOf c 2 a = some (a 4 c, a) := by
  rw [L_cell H hn c0 c1 (by omega) (by omega)]; rfl
theorem L_c3 {h e s r n : Int} {a : qSt} (H : I h e s r n a) (hn : n ≤ 1000000) {c : Int} (c0 : 0 ≤ c) (c1 : c < 96) : fL_cellOf c 3 a = some (a 5 c, a) := by
  rw [L_cell H hn c0 c1 (by omega) (by omega)]; rfl
theorem L_cw {h e s r n : Int} {a : qSt} (H : I h e s r n a) (hn : n ≤ 1000000) {c w : Int} (c0 : 0 ≤ c) (c1 : c < 96) (w0 : 0 ≤ w) (w1 : w < 4) : fL_cellOf c (4 + w) a = some (a (30 + w.toNat) c, a) := by
  rw [L_cell H hn c0 c1 (by omega) (by omega)]
  unfold cv
  rw [if_neg (by omega), if_neg (by omega), if_neg (by omega), if_neg (by omega), show 4 + w - 4 = w by omega]
theorem L_c4 {h e s r n : Int} {a : qSt} (H : I h e s r n a) (hn : n ≤ 1000000) {c : Int} (c0 : 0 ≤ c) (c1 : c < 96) : fL_cellOf c 4 a = some (a 30 c, a) := L_cw (w := 0) H hn c0 c1 (by omega) (by omega)
theorem L_c5 {h e s r n : Int} {a : qSt} (H : I h e s r n a) (hn : n ≤ 1000000) {c : Int} (c0 : 0 ≤ c) (c1 : c < 96) : fL_cellOf c 5 a = some (a 31 c, a) := L_cw (w := 1) H hn c0 c1 (by omega) (by omega)
theorem L_c6 {h e s r n : Int} {a : qSt} (H : I h e s r n a) (hn : n ≤ 1000000) {c : Int} (c0 : 0 ≤ c) (c1 : c < 96) : fL_cellOf c 6 a = some (a 32 c, a) := L_cw (w := 2) H hn c0 c1 (by omega) (by omega)
theorem L_c7 {h e s r n : Int} {a : qSt} (H : I h e s r n a) (hn : n ≤ 1000000) {c : Int} (c0 : 0 ≤ c) (c1 : c < 96) : fL_cellOf c 7 a = some (a 33 c, a) := L_cw (w := 3) H hn c0 c1 (by omega) (by omega)
theorem mul5 {x y B : Int} (h0 : -5 ≤ x) (h1 : x ≤ 5) (g0 : -B ≤ y) (g1 : y ≤ B) : -(5 * B) ≤ x * y ∧ x * y ≤ 5 * B := by
  rcases (show x = -5 ∨ x = -4 ∨ x = -3 ∨ x = -2 ∨ x = -1 ∨ x = 0 ∨ x = 1 ∨ x = 2 ∨ x = 3 ∨ x = 4 ∨ x = 5 by omega) with rfl | rfl | rfl | rfl | rfl | rfl | rfl | rfl | rfl | rfl | rfl <;> omega
theorem L_b1 {h e s r n : Int} {a : qSt} (H : I h e s r n a) (hh : h ≤ 500) {b : Int} (b0 : 0 ≤ b) (b1 : b < 4) : fL_bodyOf b 1 a = some (a 8 b, a) := by
  have hb : 0 ≤ b ∧ b < 4 := ⟨b0, b1⟩
  have hr := H.2.2.1 b b0 b1
  unfold fL_bodyOf fX5_bodyOf
  rw [noBody0 b0 b1, Option.bind_some, iI_no]
  simp only [if_pos hb]
  rw [iI_eq (by omega) (by omega) (by omega) (by omega), if_neg (by omega), if_pos trivial, mqbx, if_pos rfl, m_i2l (by omega) (by omega)]
theorem L_b2 {h e s r n : Int} {a : qSt} (H : I h e s r n a) (hh : h ≤ 500) {b : Int} (b0 : 0 ≤ b) (b1 : b < 4) : fL_bodyOf b 2 a = some (a 9 b, a) := by
  have hb : 0 ≤ b ∧ b < 4 := ⟨b0, b1⟩
  have hr := H.2.2.1 b b0 b1
  unfold fL_bodyOf fX5_bodyOf
  rw [noBody0 b0 b1, Option.bind_some, iI_no]
  simp only [if_pos hb]
  rw [iI_eq (by omega) (by omega) (by omega) (by omega), if_neg (by omega), iI_eq (by omega) (by omega) (by omega) (by omega), if_neg (by omega), if_pos trivial, mqbx, if_pos rfl, m_i2l (by omega) (by omega)]
theorem L_b3 {h e s r n : Int} {a : qSt} (H : I h e s r n a) (hh : h ≤ 500) {b : Int} (b0 : 0 ≤ b) (b1 : b < 4) : fL_bodyOf b 3 a = some (a 10 b, a) := by
  have hb : 0 ≤ b ∧ b < 4 := ⟨b0, b1⟩
  have hr := H.2.2.1 b b0 b1
  unfold fL_bodyOf fX5_bodyOf
  rw [noBody0 b0 b1, Option.bind_some, iI_no]
  simp only [if_pos hb]
  rw [iI_eq (by omega) (by omega) (by omega) (by omega), if_neg (by omega), iI_eq (by omega) (by omega) (by omega) (by omega), if_neg (by omega), iI_eq (by omega) (by omega) (by omega) (by omega), if_neg (by omega), if_pos trivial, mqbx, if_pos rfl, m_i2l (by omega) (by omega)]
theorem L_b4 {h e s r n : Int} {a : qSt} (H : I h e s r n a) (hh : h ≤ 500) {b : Int} (b0 : 0 ≤ b) (b1 : b < 4) : fL_bodyOf b 4 a = some (a 9 b + a 46 b * a 8 b, a) := by
  have hb : 0 ≤ b ∧ b < 4 := ⟨b0, b1⟩
  have hr := H.2.2.1 b b0 b1
  have hf := H.2.2.2.2.2.1 b b0 b1
  have hm := mul5 hf.1 hf.2 hr.1.1 hr.1.2
  unfold fL_bodyOf fX5_bodyOf
  rw [noBody0 b0 b1, Option.bind_some, iI_no]
  simp only [if_pos hb]
  rw [iI_eq (by omega) (by omega) (by omega) (by omega), if_neg (by omega), iI_eq (by omega) (by omega) (by omega) (by omega), if_neg (by omega), iI_eq (by omega) (by omega) (by omega) (by omega), if_neg (by omega), iI_eq (by omega) (by omega) (by omega) (by omega), if_neg (by omega), if_pos trivial, mqbx, if_pos rfl, m_i2l (by omega) (by omega)]
def sv (a : qSt) (k : Int) : Int := if k = 0 then a 0 5 else if k = 1 then a 0 6 else if k = 2 then sr (fun c => btc (a 4 c)) 96 else if k = 3 then sr (fun c => btc (a 5 c)) 96 else if k = 4 then gs 0 (a 4) else if k = 5 then gs 1 (a 4) else if k = 6 then a 1 12 else a 27 2
theorem L_sum {h e s r n : Int} {a : qSt} (H : I h e s r n a) (hn : n ≤ 1000000) (he : e ≤ 10000) (hs : s ≤ 5000) {k : Int} (k0 : 0 ≤ k) (k7 : k ≤ 7) : fL_sum k a = some (sv a k, a) := by
  have hk : isI k := isI_of (by omega) (by omega)
  have v3 : PR (a 4) := H.1.1.2.2.1
  have v4 : PR (a 5) := H.1.1.2.2.2.1
  have x1 := H.2.2.2.2.1.1
  have x2 := H.2.2.2.2.1.2.1
  have x3 := H.2.2.2.1.1
  have x4 := H.2.1.r0
  have x5 := H.2.1.2.2
  unfold fL_sum fX5_sum sv
  rw [iI_eq hk.1 hk.2 (by omega) (by omega), iI_eq hk.1 hk.2 (by omega) (by omega), iI_eq hk.1 hk.2 (by omega) (by omega), iI_eq hk.1 hk.2 (by omega) (by omega), iI_eq hk.1 hk.2 (by omega) (by omega), iI_eq hk.1 hk.2 (by omega) (by omega), iI_eq hk.1 hk.2 (by omega) (by omega), iI_eq hk.1 hk.2 (by omega) (by omega)]
  by_cases e0 : k = 0
  · rw [if_pos e0, if_pos e0, mqbx, if_pos rfl, m_i2l (by omega) (by omega)]
  rw [if_neg e0, if_neg e0]
  by_cases e1 : k = 1
  · rw [if_pos e1, if_pos e1, mqbx, if_pos rfl, m_i2l (by omega) (by omega)]
  rw [if_neg e1, if_neg e1]
  by_cases e2 : k = 2
  · have := sbtc_r (a 4)
    rw [if_pos e2, if_pos e2, m_bitsOf v3, Option.bind_some, mqbx, if_pos rfl, m_i2l (by omega) (by omega)]
  rw [if_neg e2, if_neg e2]
  by_cases e3 : k = 3
  · have := sbtc_r (a 5)
    rw [if_pos e3, if_pos e3, m_bitsOf v4, Option.bind_some, mqbx, if_pos rfl, m_i2l (by omega) (by omega)]
  rw [if_neg e3, if_neg e3]
  by_cases e4 : k = 4
  · have := gs_r 0 (a 4)
    rw [if_pos e4, if_pos e4, m_goingMore v3 (Or.inl rfl), Option.bind_some, mqbx, if_pos rfl, m_i2l (by omega) (by omega)]
  rw [if_neg e4, if_neg e4]
  by_cases e5 : k = 5
  · have := gs_r 1 (a 4)
    rw [if_pos e5, if_pos e5, m_goingMore v3 (Or.inr rfl), Option.bind_some, mqbx, if_pos rfl, m_i2l (by omega) (by omega)]
  rw [if_neg e5, if_neg e5]
  by_cases e6 : k = 6
  · rw [if_pos e6, if_pos e6, mqbx, if_pos rfl, m_i2l (by omega) (by omega)]
  rw [if_neg e6, if_neg e6, if_pos (show k = 7 by omega), mqbx, if_pos rfl, m_i2l (by omega) (by omega)]
theorem L_s0 {h e s r n : Int} {a : qSt} (H : I h e s r n a) (hn : n ≤ 1000000) (he : e ≤ 10000) (hs : s ≤ 5000) : fL_sum 0 a = some (a 0 5, a) := by rw [L_sum H hn he hs (by omega) (by omega)]; rfl
theorem L_s1 {h e s r n : Int} {a : qSt} (H : I h e s r n a) (hn : n ≤ 1000000) (he : e ≤ 10000) (hs : s ≤ 5000) : fL_sum 1 a = some (a 0 6, a) := by rw [L_sum H hn he hs (by omega) (by omega)]; rfl
theorem L_s2 {h e s r n : Int} {a : qSt} (H : I h e s r n a) (hn : n ≤ 1000000) (he : e ≤ 10000) (hs : s ≤ 5000) : fL_sum 2 a = some (sr (fun c => btc (a 4 c)) 96, a) := by rw [L_sum H hn he hs (by omega) (by omega)]; rfl
theorem L_s3 {h e s r n : Int} {a : qSt} (H : I h e s r n a) (hn : n ≤ 1000000) (he : e ≤ 10000) (hs : s ≤ 5000) : fL_sum 3 a = some (sr (fun c => btc (a 5 c)) 96, a) := by rw [L_sum H hn he hs (by omega) (by omega)]; rfl
theorem L_s4 {h e s r n : Int} {a : qSt} (H : I h e s r n a) (hn : n ≤ 1000000) (he : e ≤ 10000) (hs : s ≤ 5000) : fL_sum 4 a = some (gs 0 (a 4), a) := by rw [L_sum H hn he hs (by omega) (by omega)]; rfl
theorem L_s5 {h e s r n : Int} {a : qSt} (H : I h e s r n a) (hn : n ≤ 1000000) (he : e ≤ 10000) (hs : s ≤ 5000) : fL_sum 5 a = some (gs 1 (a 4), a) := by rw [L_sum H hn he hs (by omega) (by omega)]; rfl
theorem L_s6 {h e s r n : Int} {a : qSt} (H : I h e s r n a) (hn : n ≤ 1000000) (he : e ≤ 10000) (hs : s ≤ 5000) : fL_sum 6 a = some (a 1 12, a) := by rw [L_sum H hn he hs (by omega) (by omega)]; rfl
theorem L_s7 {h e s r n : Int} {a : qSt} (H : I h e s r n a) (hn : n ≤ 1000000) (he : e ≤ 10000) (hs : s ≤ 5000) : fL_sum 7 a = some (a 27 2, a) := by rw [L_sum H hn he hs (by omega) (by omega)]; rfl
theorem L_left {h e s r n : Int} {a : qSt} (H : I h e s r n a) (he : e ≤ 10000) {k : Int} (hk : isI k) : fX5_left a k = some 0 := by
  have v3 : PR (a 4) := H.1.1.2.2.1
  have j4 := H.2.2.2.1
  have c9 : ∀ u : Int, u = 0 ∨ u = 1 → LA 1 a u = 0 → fX5_left_c9 a u = some 0 := fun u hu hl => by
    unfold fX5_left_c9 fX5_opposite
    have hg := gs_r u (a 4)
    have o1 := j4.2.1 u (by omega) (by omega)
    have o2 := j4.2.1 (u + 2) (by omega) (by omega)
    have hl : a 11 u - a 11 (u + 2) - gs u (a 4) - (a 12 u - a 12 (u + 2)) - 2 * (a 13 u - a 13 (u + 2)) = 0 := hl
    rw [Option.bind_some, m_opp (by omega) (by omega), show op u = u + 2 by unfold op; rw [if_pos (by omega)]]
    simp only [if_pos (show 0 ≤ u ∧ u < 4 by omega), if_pos (show 0 ≤ u + 2 ∧ u + 2 < 4 by omega), mqb]
    rw [m_goingMore v3 hu, Option.bind_some, m_i2l (by omega) (by omega), m_i2l (by omega) (by omega), m_i2l (by omega) (by omega), m_i2l (by omega) (by omega), hl]
  unfold fX5_left
  split
  · exact c9 0 (Or.inl rfl) j4.2.2.1
  · exact c9 1 (Or.inr rfl) j4.2.2.2
