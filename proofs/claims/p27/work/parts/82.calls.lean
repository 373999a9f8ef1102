/-! ===== calls: what they answer, and what holds behind them ===== -/
theorem m_mayBeWall {h e s r n : Int} {a : qSt} (H : I h e s r n a) (hn : n ≤ 1000000) {c : Int} (c0 : 0 ≤ c) (c1 : c < 96) : (fX5_mayBeWall a c = some 1 ∧ mayP a c) ∨ (fX5_mayBeWall a c = some 0 ∧ ¬ mayP a c) := by
  have hk : 0 ≤ a 2 c ∧ a 2 c ≤ 3 := H.1.1.1 c c0 c1
  have hp : 0 ≤ a 4 c ∧ a 4 c ≤ 15 := H.1.1.2.2.1 c c0 c1
  have hS := H.2.2.2.2.1
  have hc : 0 ≤ c ∧ c < 96 := ⟨c0, c1⟩
  unfold fX5_mayBeWall
  rw [if_pos hc, iI_eq0 (by omega) (by omega)]
  by_cases e1 : a 2 c = 0
  · rw [if_pos e1, if_pos hc, iI_eq0 (by omega) (by omega)]
    by_cases e2 : a 4 c = 0
    · rw [if_pos e2]
      rcases m_cntAt (σ := a) c0 c1 (fun w w0 w1 => by have := H.2.1.r c0 c1 w0 w1; omega) with ⟨q, p3⟩ | ⟨q, w, w0, w1, p3⟩
      · rw [q, Option.bind_some, iI_no]
        rcases m_prbAt (σ := a) c0 c1 hS.2.2.1.1 hS.2.2.1.2 (fun k k0 k1 => ((hS.2.2.2 k k0 (by have := hS.2.2.1.2; omega)).2.1 k1).1) with ⟨q2, p4⟩ | ⟨q2, k, k0, k1, p4⟩
        · rw [q2, Option.bind_some, iI_no]
          exact Or.inl ⟨rfl, e1, e2, p3, p4⟩
        · rw [q2, Option.bind_some, iI_yes]
          exact Or.inr ⟨rfl, fun h => h.2.2.2 k k0 k1 p4⟩
      · rw [q, Option.bind_some, iI_yes]
        exact Or.inr ⟨rfl, fun h => p3 (h.2.2.1 w w0 w1)⟩
    · rw [if_neg e2]
      exact Or.inr ⟨rfl, fun h => e2 h.2.1⟩
  · rw [if_neg e1]
    exact Or.inr ⟨rfl, fun h => e1 h.1⟩
theorem s_wall {h e s r n : Int} {a : qSt} (H : I h e s r n a) (hn : n ≤ 1000000) {c k : Int} (c0 : 0 ≤ c) (c1 : c < 96) (k0 : -1 ≤ k) (k1 : k ≤ 3) : fL_wall c k a = some (-9000000000000000003, a) ∨ ∃ a', fL_wall c k a = some (0, a') ∧ I h e s r n a' ∧ mayP a c ∧ a' 2 c = 1 ∧ a' 3 c = k ∧ a' 0 6 = 0 ∧ a' 38 3 = a 38 3 := by
  have hcc : 0 ≤ c ∧ c < 96 := ⟨c0, c1⟩
  have hk : isI k := isI_of (by omega) (by omega)
  have no : fX5_wall c k a = some (3, 0, a) → fL_wall c k a = some (-9000000000000000003, a) := fun q => by
    unfold fL_wall
    rw [q, mqbx]
    rfl
  have yes : mayP a c → fX5_wall c k a = fX5_wall_c61 c k a → ∃ a', fL_wall c k a = some (0, a') ∧ I h e s r n a' ∧ mayP a c ∧ a' 2 c = 1 ∧ a' 3 c = k ∧ a' 0 6 = 0 ∧ a' 38 3 = a 38 3 := fun hm q => by
    have ea2 : qset (qset (qset a 2 c 1) 3 c k) 0 6 0 2 = fun j => if j = c then 1 else a 2 j := by rw [mset_ne (by omega), mset_ne (by omega), mset_same]
    have ea3 : qset (qset (qset a 2 c 1) 3 c k) 0 6 0 3 = fun j => if j = c then k else a 3 j := by rw [mset_ne (by omega), mset_same, mset_ne (by omega)]
    have ea5 : qset (qset (qset a 2 c 1) 3 c k) 0 6 0 5 = a 5 := by rw [mset_ne (by omega), mset_ne (by omega), mset_ne (by omega)]
    have fr : ∀ k', k' ≠ 0 → k' ≠ 2 → k' ≠ 3 → qset (qset (qset a 2 c 1) 3 c k) 0 6 0 k' = a k' := fun k' k0 k2 k3 => by rw [mset_ne k0, mset_ne k3, mset_ne k2]
    have f06 : qset (qset (qset a 2 c 1) 3 c k) 0 6 0 0 6 = 0 := by rw [mset_same]; exact if_pos rfl
    have f05 : qset (qset (qset a 2 c 1) 3 c k) 0 6 0 0 5 = a 0 5 := by
      rw [mset_same]; show (if (5 : Int) = 6 then 0 else _) = _; rw [if_neg (by omega), mset_ne (by omega), mset_ne (by omega)]
    have hq : fX5_wall c k a = some (0, 0, qset (qset (qset a 2 c 1) 3 c k) 0 6 0) := by
      rw [q]
      unfold fX5_wall_c61
      simp only [if_pos hcc, mqb]
    generalize qset (qset (qset a 2 c 1) 3 c k) 0 6 0 = a' at ea2 ea3 ea5 fr f06 f05 hq
    obtain ⟨⟨v1, v2, v3, v4, v5, v6⟩, w6⟩ := H.1
    refine ⟨a', ?_, ?_, hm, ?_, ?_, f06, ?_⟩
    · unfold fL_wall
      rw [hq, mqbx]
      exact if_pos rfl
    · refine H.cells ?_ ?_ ?_ ?_ ?_ ?_ ?_ f06 (fun k' k0 k2 k3 _ => fr k' k0 k2 k3) f05
      · rw [ea2]; intro x x0 x1; show 0 ≤ (if x = c then 1 else a 2 x) ∧ (if x = c then 1 else a 2 x) ≤ 3; have : 0 ≤ a 2 x ∧ a 2 x ≤ 3 := v1 x x0 x1; split <;> omega
      · rw [ea3]; intro x x0 x1; show -1 ≤ (if x = c then k else a 3 x) ∧ (if x = c then k else a 3 x) ≤ 3; have : -1 ≤ a 3 x ∧ a 3 x ≤ 3 := v2 x x0 x1; split <;> omega
      · rw [ea5]; exact v4
      · rw [ea2]; intro x x0 x1 hx
        by_cases e : x = c
        · rw [e]; exact hm.2.1
        · exact v5 x x0 x1 (by have hx : (if x = c then 1 else a 2 x) = 1 := hx; rw [if_neg e] at hx; exact hx)
      · rw [ea5]; exact v6
      · rw [ea2, ea3]; intro x x0 x1 hx
        have hx : (if x = c then k else a 3 x) ≠ -1 := hx
        show (if x = c then 1 else a 2 x) = 1
        by_cases e : x = c
        · rw [if_pos e]
        · rw [if_neg e] at hx ⊢; exact w6 x x0 x1 hx
      · rw [ea2]; intro x w x0 x1 w0 w1 hx
        by_cases e : x = c
        · rw [e]; exact hm.2.2.1 w w0 w1
        · exact (H.2.1.1 x w x0 x1 w0 w1).2.1 (by have hx : (if x = c then 1 else a 2 x) = 1 := hx; rw [if_neg e] at hx; exact hx)
    · rw [ea2]; exact if_pos rfl
    · rw [ea3]; exact if_pos rfl
    · rw [fr 38 (by omega) (by omega) (by omega)]
  have c27 : fX5_wall c k a = fX5_wall_c27 c k a := by
    unfold fX5_wall
    rw [noCell0 c0 c1, Option.bind_some, iI_no, iI_eq hk.1 hk.2 (by omega) (by omega)]
    by_cases e : k = -1
    · rw [if_pos e]
    · rw [if_neg e, noBody0 (by omega) (by omega), Option.bind_some, iI_no]
  have hb3 : BR (a 3) := H.1.1.2.1
  have hbn := bn_r (a 3) k
  unfold fX5_wall_c27 at c27
  rcases m_mayBeWall H hn c0 c1 with ⟨q, m⟩ | ⟨q, m⟩
  · rw [q, Option.bind_some, iI_yes, iI_eq hk.1 hk.2 (by omega) (by omega)] at c27
    by_cases e : k = -1
    · rw [if_pos e] at c27
      exact Or.inr (yes m c27)
    · rw [if_neg e, m_cellsOfBody hb3 hk.1 hk.2, Option.bind_some, iI_lt (by omega) (by omega) (by omega) (by omega)] at c27
      by_cases e2 : sr (bn (a 3) k) 96 < 12
      · rw [if_pos e2] at c27
        exact Or.inr (yes m c27)
      · rw [if_neg e2] at c27
        exact Or.inl (no c27)
  · rw [q, Option.bind_some, iI_no] at c27
    exact Or.inl (no c27)
theorem s_clear {h e s r n : Int} {a : qSt} (H : I h e s r n a) {c : Int} (c0 : 0 ≤ c) (c1 : c < 96) : ∃ a', fL_clear c a = some (a 2 c, a') ∧ I h e s r n a' ∧ a' 2 c = 0 ∧ a' 0 6 = 0 ∧ a' 38 3 = a 38 3 := by
  have hcc : 0 ≤ c ∧ c < 96 := ⟨c0, c1⟩
  have ea2 : qset (qset (qset a 2 c 0) 3 c (-1)) 0 6 0 2 = fun j => if j = c then 0 else a 2 j := by rw [mset_ne (by omega), mset_ne (by omega), mset_same]
  have ea3 : qset (qset (qset a 2 c 0) 3 c (-1)) 0 6 0 3 = fun j => if j = c then -1 else a 3 j := by rw [mset_ne (by omega), mset_same, mset_ne (by omega)]
  have ea5 : qset (qset (qset a 2 c 0) 3 c (-1)) 0 6 0 5 = a 5 := by rw [mset_ne (by omega), mset_ne (by omega), mset_ne (by omega)]
  have fr : ∀ k', k' ≠ 0 → k' ≠ 2 → k' ≠ 3 → qset (qset (qset a 2 c 0) 3 c (-1)) 0 6 0 k' = a k' := fun k' k0 k2 k3 => by rw [mset_ne k0, mset_ne k3, mset_ne k2]
  have f06 : qset (qset (qset a 2 c 0) 3 c (-1)) 0 6 0 0 6 = 0 := by rw [mset_same]; exact if_pos rfl
  have f05 : qset (qset (qset a 2 c 0) 3 c (-1)) 0 6 0 0 5 = a 0 5 := by
    rw [mset_same]; show (if (5 : Int) = 6 then 0 else _) = _; rw [if_neg (by omega), mset_ne (by omega), mset_ne (by omega)]
  have hq : fX5_clear c a = some (0, a 2 c, qset (qset (qset a 2 c 0) 3 c (-1)) 0 6 0) := by
    unfold fX5_clear fX3_makeFree
    rw [noCell0 c0 c1, Option.bind_some, iI_no]
    simp only [if_pos hcc, mqb, mqbd]
  generalize qset (qset (qset a 2 c 0) 3 c (-1)) 0 6 0 = a' at ea2 ea3 ea5 fr f06 f05 hq
  obtain ⟨⟨v1, v2, v3, v4, v5, v6⟩, w6⟩ := H.1
  have hkr : 0 ≤ a 2 c ∧ a 2 c ≤ 3 := v1 c c0 c1
  refine ⟨a', ?_, ?_, ?_, f06, ?_⟩
  · unfold fL_clear
    rw [hq, mqbx, if_pos rfl, m_i2l (by omega) (by omega)]
  · refine H.cells ?_ ?_ ?_ ?_ ?_ ?_ ?_ f06 (fun k' k0 k2 k3 _ => fr k' k0 k2 k3) f05
    · rw [ea2]; intro x x0 x1; show 0 ≤ (if x = c then 0 else a 2 x) ∧ (if x = c then 0 else a 2 x) ≤ 3; have : 0 ≤ a 2 x ∧ a 2 x ≤ 3 := v1 x x0 x1; split <;> omega
    · rw [ea3]; intro x x0 x1; show -1 ≤ (if x = c then -1 else a 3 x) ∧ (if x = c then -1 else a 3 x) ≤ 3; have : -1 ≤ a 3 x ∧ a 3 x ≤ 3 := v2 x x0 x1; split <;> omega
    · rw [ea5]; exact v4
    · rw [ea2]; intro x x0 x1 hx
      have hx : (if x = c then 0 else a 2 x) = 1 := hx
      by_cases e : x = c
      · rw [if_pos e] at hx; omega
      · rw [if_neg e] at hx; exact v5 x x0 x1 hx
    · rw [ea5]; exact v6
    · rw [ea2, ea3]; intro x x0 x1 hx
      have hx : (if x = c then -1 else a 3 x) ≠ -1 := hx
      show (if x = c then 0 else a 2 x) = 1
      by_cases e : x = c
      · rw [if_pos e] at hx; exact absurd rfl hx
      · rw [if_neg e] at hx ⊢; exact w6 x x0 x1 hx
    · rw [ea2]; intro x w x0 x1 w0 w1 hx
      have hx : (if x = c then 0 else a 2 x) = 1 := hx
      by_cases e : x = c
      · rw [if_pos e] at hx; omega
      · rw [if_neg e] at hx; exact (H.2.1.1 x w x0 x1 w0 w1).2.1 hx
  · rw [ea2]; exact if_pos rfl
  · rw [fr 38 (by omega) (by omega) (by omega)]
theorem s_open {h e s r n : Int} {a : qSt} (H : I h e s r n a) {c k : Int} (c0 : 0 ≤ c) (c1 : c < 96) (hk : k = 2 ∨ k = 3) : (a 2 c ≠ 0 → fL_open c k a = some (-9000000000000000003, a)) ∧ (a 2 c = 0 → ∃ a', fL_open c k a = some (0, a') ∧ I h e s r n a' ∧ a' 2 c = k ∧ a' 38 3 = a 38 3) := by
  have hcc : 0 ≤ c ∧ c < 96 := ⟨c0, c1⟩
  have hkr : 0 ≤ a 2 c ∧ a 2 c ≤ 3 := H.1.1.1 c c0 c1
  have c33 : fX5_open c k a = fX5_open_c33 c k a := by
    unfold fX5_open
    rw [noCell0 c0 c1, Option.bind_some, iI_no, iI_eq (by omega) (by omega) (by omega) (by omega), iI_eq (by omega) (by omega) (by omega) (by omega)]
    rcases hk with e | e
    · rw [if_pos e]
    · rw [if_neg (by omega), if_pos e]
  unfold fX5_open_c33 at c33
  rw [if_pos hcc, iI_eq0 (by omega) (by omega)] at c33
  refine ⟨fun e0 => ?_, fun e0 => ?_⟩
  · rw [if_neg e0] at c33
    unfold fL_open
    rw [c33, mqbx]
    rfl
  · rw [if_pos e0] at c33
    simp only [if_pos hcc, mqb] at c33
    have ea2 : qset (qset a 2 c k) 0 6 0 2 = fun j => if j = c then k else a 2 j := by rw [mset_ne (by omega), mset_same]
    have fr : ∀ k', k' ≠ 0 → k' ≠ 2 → qset (qset a 2 c k) 0 6 0 k' = a k' := fun k' k0 k2 => by rw [mset_ne k0, mset_ne k2]
    have f06 : qset (qset a 2 c k) 0 6 0 0 6 = 0 := by rw [mset_same]; exact if_pos rfl
    have f05 : qset (qset a 2 c k) 0 6 0 0 5 = a 0 5 := by
      rw [mset_same]; show (if (5 : Int) = 6 then 0 else _) = _; rw [if_neg (by omega), mset_ne (by omega)]
    generalize qset (qset a 2 c k) 0 6 0 = a' at ea2 fr f06 f05 c33
    obtain ⟨⟨v1, v2, v3, v4, v5, v6⟩, w6⟩ := H.1
    have ea3 : a' 3 = a 3 := fr 3 (by omega) (by omega)
    have ea5 : a' 5 = a 5 := fr 5 (by omega) (by omega)
    have eb : ∀ x, (if x = c then k else a 2 x) = 1 → a 2 x = 1 := fun x hx => by
      by_cases e : x = c
      · rw [if_pos e] at hx; omega
      · rw [if_neg e] at hx; exact hx
    refine ⟨a', ?_, ?_, ?_, ?_⟩
    · unfold fL_open
      rw [c33, mqbx]
      exact if_pos rfl
    · refine H.cells ?_ ?_ ?_ ?_ ?_ ?_ ?_ f06 (fun k' k0 k2 _ _ => fr k' k0 k2) f05
      · rw [ea2]; intro x x0 x1; show 0 ≤ (if x = c then k else a 2 x) ∧ (if x = c then k else a 2 x) ≤ 3; have : 0 ≤ a 2 x ∧ a 2 x ≤ 3 := v1 x x0 x1; split <;> omega
      · rw [ea3]; exact v2
      · rw [ea5]; exact v4
      · rw [ea2]; intro x x0 x1 hx; exact v5 x x0 x1 (eb x hx)
      · rw [ea5]; exact v6
      · rw [ea2, ea3]; intro x x0 x1 hx
        show (if x = c then k else a 2 x) = 1
        by_cases e9 : x = c
        · have := w6 x x0 x1 hx; rw [e9] at this; omega
        · rw [if_neg e9]; exact w6 x x0 x1 hx
      · rw [ea2]; intro x w x0 x1 w0 w1 hx; exact (H.2.1.1 x w x0 x1 w0 w1).2.1 (eb x hx)
    · rw [ea2]; exact if_pos rfl
    · rw [fr 38 (by omega) (by omega)]
theorem btc_le {x y : Int} (h : ∀ w, 0 ≤ w → w < 4 → bt y w ≤ bt x w) : btc y ≤ btc x := by
  have h0 := h 0 (by omega) (by omega)
  have h1 := h 1 (by omega) (by omega)
  have h2 := h 2 (by omega) (by omega)
  have h3 := h 3 (by omega) (by omega)
  unfold btc
  omega
theorem s_ink {h e s r n : Int} {a : qSt} (H : I h e s r n a) {c : Int} (c0 : 0 ≤ c) (c1 : c < 96) : ∃ a', fL_ink c a = some (btc (a 4 c) - btc (a 5 c), a') ∧ I h e s r n a' ∧ a' 5 c = a 4 c ∧ a' 4 = a 4 ∧ a' 38 3 = a 38 3 ∧ 0 ≤ btc (a 4 c) - btc (a 5 c) := by
  have hcc : 0 ≤ c ∧ c < 96 := ⟨c0, c1⟩
  obtain ⟨⟨v1, v2, v3, v4, v5, v6⟩, w6⟩ := H.1
  have hp : 0 ≤ a 4 c ∧ a 4 c ≤ 15 := v3 c c0 c1
  have hd : 0 ≤ a 5 c ∧ a 5 c ≤ 15 := v4 c c0 c1
  have hds : ∀ w, 0 ≤ w → w < 4 → bt (a 5 c) w ≤ bt (a 4 c) w := fun w w0 w1 => v6 c w c0 c1 w0 w1
  have hb1 := btc_r (a 4 c)
  have hb2 := btc_r (a 5 c)
  have ea5 : qset (qset a 5 c (a 4 c)) 0 6 0 5 = fun j => if j = c then a 4 c else a 5 j := by rw [mset_ne (by omega), mset_same]
  have fr : ∀ k', k' ≠ 0 → k' ≠ 5 → qset (qset a 5 c (a 4 c)) 0 6 0 k' = a k' := fun k' k0 k5 => by rw [mset_ne k0, mset_ne k5]
  have f06 : qset (qset a 5 c (a 4 c)) 0 6 0 0 6 = 0 := by rw [mset_same]; exact if_pos rfl
  have f05 : qset (qset a 5 c (a 4 c)) 0 6 0 0 5 = a 0 5 := by
    rw [mset_same]; show (if (5 : Int) = 6 then 0 else _) = _; rw [if_neg (by omega), mset_ne (by omega)]
  have hq : fX5_ink c a = some (0, btc (a 4 c) - btc (a 5 c), qset (qset a 5 c (a 4 c)) 0 6 0) := by
    unfold fX5_ink
    rw [noCell0 c0 c1, Option.bind_some, iI_no]
    simp only [if_pos hcc, mqb]
    rw [m_plain hp.1 hp.2 hd.1 hd.2 hds, Option.bind_some]
  generalize qset (qset a 5 c (a 4 c)) 0 6 0 = a' at ea5 fr f06 f05 hq
  have ea2 : a' 2 = a 2 := fr 2 (by omega) (by omega)
  have ea3 : a' 3 = a 3 := fr 3 (by omega) (by omega)
  have hle := btc_le hds
  refine ⟨a', ?_, ?_, ?_, fr 4 (by omega) (by omega), ?_, by omega⟩
  · unfold fL_ink
    rw [hq, mqbx, if_pos rfl, m_i2l (by omega) (by omega)]
  · refine H.cells ?_ ?_ ?_ ?_ ?_ ?_ ?_ f06 (fun k' k0 _ _ k5 => fr k' k0 k5) f05
    · rw [ea2]; exact v1
    · rw [ea3]; exact v2
    · rw [ea5]; intro x x0 x1; show 0 ≤ (if x = c then a 4 c else a 5 x) ∧ (if x = c then a 4 c else a 5 x) ≤ 15; have : 0 ≤ a 5 x ∧ a 5 x ≤ 15 := v4 x x0 x1; split <;> omega
    · rw [ea2]; exact v5
    · rw [ea5]; intro x w x0 x1 w0 w1'
      show bt (if x = c then a 4 c else a 5 x) w ≤ bt (a 4 x) w
      by_cases e : x = c
      · rw [if_pos e, e]; exact Int.le_refl _
      · rw [if_neg e]; exact v6 x w x0 x1 w0 w1'
    · rw [ea2, ea3]; exact w6
    · rw [ea2]; intro x w x0 x1 w0 w1' hx; exact (H.2.1.1 x w x0 x1 w0 w1').2.1 hx
  · rw [ea5]; exact if_pos rfl
  · rw [fr 38 (by omega) (by omega)]
theorem s_particle {h e s r n : Int} {a : qSt} (H : I h e s r n a) {c w : Int} (c0 : 0 ≤ c) (c1 : c < 96) (w0 : 0 ≤ w) (w1 : w < 4) : ((a 2 c = 1 ∨ bt (a 4 c) w = 1) → fL_particle c w a = some (-9000000000000000003, a)) ∧ (a 2 c ≠ 1 → bt (a 4 c) w = 0 → ∃ a', fL_particle c w a = some (a 4 c + pw w, a') ∧ I h (e + 1) s r n a' ∧ a' 38 3 = a 38 3) := by
  have hcc : 0 ≤ c ∧ c < 96 := ⟨c0, c1⟩
  obtain ⟨⟨⟨v1, v2, v3, v4, v5, v6⟩, q6⟩, j2, j3, j4, j5, j6, j7⟩ := id H
  have v3 : PR (a 4) := v3
  have hkr : 0 ≤ a 2 c ∧ a 2 c ≤ 3 := v1 c c0 c1
  have hp : 0 ≤ a 4 c ∧ a 4 c ≤ 15 := v3 c c0 c1
  have hbr := bt_r (a 4 c) w
  unfold fL_particle fX5_particle
  rw [noCell0 c0 c1, Option.bind_some, iI_no, outs0 (by omega) (by omega) w0 (show w ≤ 3 by omega), Option.bind_some, iI_no, if_pos hcc, iI_eq (by omega) (by omega) (by omega) (by omega)]
  refine ⟨fun hh => ?_, fun e1 e => ?_⟩
  · by_cases e1 : a 2 c = 1
    · rw [if_pos e1, mqbx]; rfl
    · rw [if_neg e1, if_pos hcc, m_has hp.1 hp.2 w0 w1, Option.bind_some, hh.resolve_left e1, iI_yes, mqbx]; rfl
  · rw [if_neg e1, if_pos hcc, m_has hp.1 hp.2 w0 w1, Option.bind_some, e, iI_no]
    obtain ⟨a1, f1, g1, r1, s1⟩ := m_letIn (B := 1) (σ := a) c0 c1 w0 w1 hp.1 hp.2 e
    rw [f1]
    simp only [if_pos hcc, mqb, mqbd]
    have fr : ∀ k, k ≠ 0 → k ≠ 4 → k ≠ 11 → qset a1 0 6 0 k = a k := fun k k0 k4 k11 => by rw [mset_ne k0]; exact g1 k k4 k11
    have r4 : ∀ x, qset a1 0 6 0 4 x = if x = c then a 4 c + pw w else a 4 x := fun x => by rw [mset_ne (by omega)]; exact r1 x
    have r11 : ∀ j, qset a1 0 6 0 11 j = a 11 j + if j = w then 1 else 0 := fun j => by rw [mset_ne (by omega)]; exact s1 j
    have a05 : qset a1 0 6 0 0 5 = a 0 5 := by rw [mset_same]; show (if (5 : Int) = 6 then 0 else a1 0 5) = _; rw [if_neg (by omega), g1 0 (by omega) (by omega)]
    have a06 : qset a1 0 6 0 0 6 = 0 := by rw [mset_same]; exact if_pos rfl
    generalize qset a1 0 6 0 = a' at fr r4 r11 a05 a06 ⊢
    have had := add_r hp.1 hp.2 w0 w1 e
    refine ⟨a', ?_, ⟨⟨⟨?_, ?_, ?_, ?_, ?_, ?_⟩, ?_⟩, j2.fr (fr 2 (by omega) (by omega) (by omega)) (fun k _ _ => fr k (by omega) (by omega) (by omega)) (by rw [fr 27 (by omega) (by omega) (by omega)]), j3.fr (fun k _ _ => fr k (by omega) (by omega) (by omega)), ⟨?_, fun v v0 v1 => ?_, ?_, ?_⟩, ?_, j6.fr (fr 46 (by omega) (by omega) (by omega)), j7.fr (by rw [fr 27 (by omega) (by omega) (by omega)])⟩, by rw [fr 38 (by omega) (by omega) (by omega)]⟩
    · rw [mqbx, if_pos rfl, r4, if_pos rfl, m_i2l (by omega) (by omega)]
    · show KR (a' 2); rw [fr 2 (by omega) (by omega) (by omega)]; exact v1
    · show BR (a' 3); rw [fr 3 (by omega) (by omega) (by omega)]; exact v2
    · intro x x0 x1
      show 0 ≤ a' 4 x ∧ a' 4 x ≤ 15
      rw [r4]
      have : 0 ≤ a 4 x ∧ a 4 x ≤ 15 := v3 x x0 x1
      split <;> omega
    · show PR (a' 5); rw [fr 5 (by omega) (by omega) (by omega)]; exact v4
    · show WF (a' 2) (a' 4)
      rw [fr 2 (by omega) (by omega) (by omega)]
      intro x x0 x1 hx
      rw [r4, if_neg (fun z => e1 (by rw [← z]; exact hx))]
      exact v5 x x0 x1 hx
    · show DS (a' 5) (a' 4)
      rw [fr 5 (by omega) (by omega) (by omega)]
      intro x v x0 x1 v0 v1
      have h6 := v6 x v x0 x1 v0 v1
      unfold qbt at h6 ⊢
      rw [r4]
      by_cases ex : x = c
      · rw [if_pos ex, bt_add hp.1 hp.2 w0 w1 v0 v1 e]
        rw [ex] at h6 ⊢
        have h6 : bt (a 5 c) v ≤ bt (a 4 c) v := h6
        split <;> omega
      · rw [if_neg ex]; exact h6
    · rw [fr 2 (by omega) (by omega) (by omega), fr 3 (by omega) (by omega) (by omega)]; exact q6
    · rw [fr 1 (by omega) (by omega) (by omega)]; have := j4.1; omega
    · rw [r11, fr 12 (by omega) (by omega) (by omega), fr 13 (by omega) (by omega) (by omega)]
      have := j4.2.1 v v0 v1
      split <;> omega
    · have hg := gs_add (u := 0) v3 c0 c1 w0 w1 e r4 (Or.inl rfl)
      have hl : a 11 0 - a 11 (0 + 2) - gs 0 (a 4) - (a 12 0 - a 12 (0 + 2)) - 2 * (a 13 0 - a 13 (0 + 2)) = 0 := j4.2.2.1
      show a' 11 0 - a' 11 (0 + 2) - gs 0 (a' 4) - (a' 12 0 - a' 12 (0 + 2)) - 2 * (a' 13 0 - a' 13 (0 + 2)) = 0
      rw [hg, r11, r11, fr 12 (by omega) (by omega) (by omega), fr 13 (by omega) (by omega) (by omega)]
      unfold dsg
      rcases (show w = 0 ∨ w = 1 ∨ w = 2 ∨ w = 3 by omega) with rfl | rfl | rfl | rfl <;> simp at hl ⊢ <;> omega
    · have hg := gs_add (u := 1) v3 c0 c1 w0 w1 e r4 (Or.inr rfl)
      have hl : a 11 1 - a 11 (1 + 2) - gs 1 (a 4) - (a 12 1 - a 12 (1 + 2)) - 2 * (a 13 1 - a 13 (1 + 2)) = 0 := j4.2.2.2
      show a' 11 1 - a' 11 (1 + 2) - gs 1 (a' 4) - (a' 12 1 - a' 12 (1 + 2)) - 2 * (a' 13 1 - a' 13 (1 + 2)) = 0
      rw [hg, r11, r11, fr 12 (by omega) (by omega) (by omega), fr 13 (by omega) (by omega) (by omega)]
      unfold dsg
      rcases (show w = 0 ∨ w = 1 ∨ w = 2 ∨ w = 3 by omega) with rfl | rfl | rfl | rfl <;> simp at hl ⊢ <;> omega
    · obtain ⟨x1, x2, x3, x4⟩ := j5
      unfold IS
      rw [a05, a06, fr 38 (by omega) (by omega) (by omega), fr 39 (by omega) (by omega) (by omega), fr 40 (by omega) (by omega) (by omega)]
      refine ⟨x1, by omega, x3, fun k k0 k1 => ?_⟩
      obtain ⟨y1, y2, y3⟩ := x4 k k0 k1
      exact ⟨y1, fun z => ⟨(y2 z).1, y1.1⟩, y3⟩
theorem s_probe {h e s r n : Int} {a : qSt} (H : I h e s r n a) {c : Int} (c0 : 0 ≤ c) (c1 : c < 96) : ((a 2 c = 1 ∨ 4 ≤ a 38 3) → fL_probe c a = some (-9000000000000000003, a)) ∧ (a 2 c ≠ 1 → a 38 3 < 4 → ∃ a', fL_probe c a = some (a 38 3, a') ∧ I h e s r n a' ∧ a' 38 3 = a 38 3 + 1) := by
  have hcc : 0 ≤ c ∧ c < 96 := ⟨c0, c1⟩
  obtain ⟨⟨⟨v1, v2, v3, v4, v5, v6⟩, q6⟩, j2, j3, j4, j5, j6, j7⟩ := id H
  obtain ⟨x1, x2, x3, x4⟩ := id j5
  have hkr : 0 ≤ a 2 c ∧ a 2 c ≤ 3 := v1 c c0 c1
  unfold fL_probe fX5_probe
  rw [noCell0 c0 c1, Option.bind_some, iI_no, if_pos hcc, iI_eq (by omega) (by omega) (by omega) (by omega), iI_lt (by omega) (by omega) (by omega) (by omega)]
  refine ⟨fun hh => ?_, fun e1 e2 => ?_⟩
  · by_cases e1 : a 2 c = 1
    · rw [if_pos e1, mqbx]; rfl
    · rw [if_neg e1, if_neg (by have := hh.resolve_left e1; omega), mqbx]; rfl
  · rw [if_neg e1, if_pos e2]
    have m04 : 0 ≤ a 38 3 ∧ a 38 3 < 4 := ⟨x3.1, e2⟩
    have z1 : qset a 0 6 0 38 3 = a 38 3 := by rw [mset_ne (by omega)]
    unfold fX1_setInto
    rw [mqb, z1, iI_lt (by omega) (by omega) (by omega) (by omega), if_pos e2, if_pos m04]
    simp only [mqb, mqbd]
    generalize hn : a 38 3 = m at *
    have z3 : qset (qset a 0 6 0) 39 m c 38 3 = m := by rw [mset_ne (by omega), mset_ne (by omega)]; exact hn
    rw [z3]
    have fr : ∀ k, k ≠ 0 → k ≠ 38 → k ≠ 39 → qset (qset (qset a 0 6 0) 39 m c) 38 3 (m + 1) k = a k := fun k k0 k8 k9 => by rw [mset_ne k8, mset_ne k9, mset_ne k0]
    have g38 : qset (qset (qset a 0 6 0) 39 m c) 38 3 (m + 1) 38 3 = m + 1 := by rw [mset_same]; exact if_pos rfl
    have g39 : ∀ j, qset (qset (qset a 0 6 0) 39 m c) 38 3 (m + 1) 39 j = if j = m then c else a 39 j := fun j => by rw [mset_ne (by omega), mset_same, mset_ne (by omega)]
    have g05 : qset (qset (qset a 0 6 0) 39 m c) 38 3 (m + 1) 0 5 = a 0 5 := by rw [mset_ne (by omega), mset_ne (by omega), mset_same]; exact if_neg (by omega)
    have g06 : qset (qset (qset a 0 6 0) 39 m c) 38 3 (m + 1) 0 6 = 0 := by rw [mset_ne (by omega), mset_ne (by omega), mset_same]; exact if_pos rfl
    generalize qset (qset (qset a 0 6 0) 39 m c) 38 3 (m + 1) = a' at fr g38 g39 g05 g06 ⊢
    refine ⟨a', ?_, ⟨IW.fr ⟨⟨v1, v2, v3, v4, v5, v6⟩, q6⟩ (fun k _ _ => fr k (by omega) (by omega) (by omega)), j2.fr (fr 2 (by omega) (by omega) (by omega)) (fun k _ _ => fr k (by omega) (by omega) (by omega)) (by rw [fr 27 (by omega) (by omega) (by omega)]), j3.fr (fun k _ _ => fr k (by omega) (by omega) (by omega)), j4.fr (fun k _ _ => fr k (by omega) (by omega) (by omega)) (fr 4 (by omega) (by omega) (by omega)) (by rw [fr 1 (by omega) (by omega) (by omega)]), ?_, j6.fr (fr 46 (by omega) (by omega) (by omega)), j7.fr (by rw [fr 27 (by omega) (by omega) (by omega)])⟩, g38⟩
    · rw [g38, mqbx, if_pos rfl, m_i2l (by omega) (by omega), show m + 1 - 1 = m by omega]
    · unfold IS
      rw [g05, g06, g38, fr 40 (by omega) (by omega) (by omega)]
      refine ⟨x1, by omega, by omega, fun k k0 k1 => ?_⟩
      rw [g39]
      obtain ⟨y1, y2, y3⟩ := x4 k k0 k1
      refine ⟨y1, fun z => ?_, fun z => y3 (by omega)⟩
      by_cases ek : k = m
      · rw [if_pos ek]; exact ⟨hcc, y1.1⟩
      · rw [if_neg ek]; exact ⟨(y2 (by omega)).1, y1.1⟩
theorem s_fault {h e s r n : Int} {a : qSt} (H : I h e s r n a) {b f : Int} (b0 : 0 ≤ b) (b1 : b < 4) (f0 : -5 ≤ f) (f1 : f ≤ 5) : ∃ a', fL_fault b f a = some (a 46 b, a') ∧ I h e s r n a' ∧ a' 46 b = f ∧ a' 8 = a 8 ∧ a' 9 = a 9 ∧ a' 38 3 = a 38 3 := by
  have hbb : 0 ≤ b ∧ b < 4 := ⟨b0, b1⟩
  obtain ⟨j1, j2, j3, j4, j5, j6, j7⟩ := id H
  have hf := j6 b b0 b1
  have fr : ∀ k, k ≠ 46 → qset a 46 b f k = a k := fun k hk => mset_ne hk
  have g46 : ∀ j, qset a 46 b f 46 j = if j = b then f else a 46 j := fun j => by rw [mset_same]
  refine ⟨qset a 46 b f, ?_, ⟨j1.fr (fun k _ _ => fr k (by omega)), j2.fr (fr 2 (by omega)) (fun k _ _ => fr k (by omega)) (by rw [fr 27 (by omega)]), j3.fr (fun k _ _ => fr k (by omega)), j4.fr (fun k _ _ => fr k (by omega)) (fr 4 (by omega)) (by rw [fr 1 (by omega)]), j5.fr (fun k _ _ => fr k (by omega)) ⟨by rw [fr 0 (by omega)], by rw [fr 0 (by omega)]⟩, fun k k0 k1 => ?_, j7.fr (by rw [fr 27 (by omega)])⟩, ?_, fr 8 (by omega), fr 9 (by omega), by rw [fr 38 (by omega)]⟩
  · unfold fL_fault fX5_fault
    rw [noBody0 b0 b1, Option.bind_some, iI_no, outs0 (by omega) (by omega) f0 f1, Option.bind_some, iI_no]
    simp only [if_pos hbb, mqb]
    rw [mqbx, if_pos rfl, m_i2l (by omega) (by omega)]
  · rw [g46]
    have := j6 k k0 k1
    split <;> omega
  · rw [g46]; exact if_pos rfl
theorem s_bring {h e s r n : Int} {a : qSt} (H : I h e s r n a) {c w m : Int} (c0 : 0 ≤ c) (c1 : c < 96) (w0 : 0 ≤ w) (w1 : w < 4) (m0 : 1 ≤ m) (m1 : m ≤ 2000) (hn : n + m ≤ 1000000) : (a 2 c = 1 → fL_bring c w m a = some (-9000000000000000003, a)) ∧ (a 2 c ≠ 1 → ∃ a', fL_bring c w m a = some (a (30 + w.toNat) c + m, a') ∧ I h e s r (n + m) a' ∧ a' 38 3 = a 38 3) := by
  have hcc : 0 ≤ c ∧ c < 96 := ⟨c0, c1⟩
  have hww : 0 ≤ w ∧ w < 4 := ⟨w0, w1⟩
  obtain ⟨⟨⟨v1, v2, v3, v4, v5, v6⟩, q6⟩, j2, j3, j4, j5, j6, j7⟩ := id H
  have hkr : 0 ≤ a 2 c ∧ a 2 c ≤ 3 := v1 c c0 c1
  have har := j2.r0
  have har2 := j2.2.2
  have hcr := j2.r c0 c1 w0 w1
  unfold fL_bring fX5_bring
  rw [noCell0 c0 c1, Option.bind_some, iI_no, outs0 (by omega) (by omega) w0 (show w ≤ 3 by omega), Option.bind_some, iI_no, outs0 (by omega) (by omega) m0 (show m ≤ 100000 by omega), Option.bind_some, iI_no, if_pos hcc, iI_eq (by omega) (by omega) (by omega) (by omega), iI_le (by omega) (by omega) (by omega) (by omega)]
  refine ⟨fun e1 => ?_, fun e1 => ?_⟩
  · rw [if_pos e1, mqbx]; rfl
  · rw [if_neg e1, if_pos (by omega)]
    have e30 : qset a 27 2 (a 27 2 + m) (30 + w.toNat) = a (30 + w.toNat) := mset_ne (by omega)
    simp only [if_pos hcc, if_pos hww, mqb, e30]
    have fr : ∀ k, k ≠ 27 → k ≠ 30 + w.toNat → qset (qset a 27 2 (a 27 2 + m)) (30 + w.toNat) c (a (30 + w.toNat) c + m) k = a k := fun k k7 k3 => by rw [mset_ne k3, mset_ne k7]
    have g30 : ∀ v x : Int, 0 ≤ v → v < 4 → qset (qset a 27 2 (a 27 2 + m)) (30 + w.toNat) c (a (30 + w.toNat) c + m) (30 + v.toNat) x = if x = c ∧ v = w then a (30 + w.toNat) c + m else a (30 + v.toNat) x := fun v x v0 v1 => by
      by_cases e : v = w
      · rw [e, mset_same]
        show (if x = c then _ else _) = _
        rw [e30]
        by_cases e3 : x = c
        · rw [if_pos e3, if_pos ⟨e3, rfl⟩]
        · rw [if_neg e3, if_neg (fun z => e3 z.1)]
      · rw [mset_ne (by omega), mset_ne (by omega), if_neg (fun z => e z.2)]
    have g27 : ∀ j, qset (qset a 27 2 (a 27 2 + m)) (30 + w.toNat) c (a (30 + w.toNat) c + m) 27 j = if j = 2 then a 27 2 + m else a 27 j := fun j => by rw [mset_ne (by omega), mset_same]
    generalize qset (qset a 27 2 (a 27 2 + m)) (30 + w.toNat) c (a (30 + w.toNat) c + m) = a' at fr g30 g27 ⊢
    refine ⟨a', ?_, ⟨IW.fr ⟨⟨v1, v2, v3, v4, v5, v6⟩, q6⟩ (fun k _ _ => fr k (by omega) (by omega)), ⟨fun x v xx0 xx1 v0 v1 => ?_, ?_, ?_⟩, j3.fr (fun k _ _ => fr k (by omega) (by omega)), j4.fr (fun k _ _ => fr k (by omega) (by omega)) (fr 4 (by omega) (by omega)) (by rw [fr 1 (by omega) (by omega)]), j5.fr (fun k _ _ => fr k (by omega) (by omega)) ⟨by rw [fr 0 (by omega) (by omega)], by rw [fr 0 (by omega) (by omega)]⟩, j6.fr (fr 46 (by omega) (by omega)), j7.fr (by rw [g27, if_neg (by omega)])⟩, by rw [fr 38 (by omega) (by omega)]⟩
    · rw [mqbx, if_pos rfl, g30 w c w0 w1, if_pos ⟨rfl, rfl⟩, m_i2l (by omega) (by omega)]
    · rw [g30 v x v0 v1, fr 2 (by omega) (by omega), fr (34 + v.toNat) (by omega) (by omega)]
      obtain ⟨y1, y2, y3⟩ := j2.1 x v xx0 xx1 v0 v1
      by_cases e : x = c ∧ v = w
      · rw [if_pos e]
        refine ⟨by omega, fun z => absurd z (by rw [e.1]; exact e1), y3⟩
      · rw [if_neg e]
        exact ⟨y1, y2, y3⟩
    · rw [g27, if_pos rfl, sm_upd (f := rq a) (c0 := c) (w0 := w) (d := m) c0 w0 w1 (fun x v x0 x1 v0 v1 => by
        unfold rq
        rw [g30 v x v0 v1]
        by_cases e : x = c ∧ v = w
        · rw [if_pos e, if_pos e, e.1, e.2]
        · rw [if_neg e, if_neg e]; omega) 384 (Nat.le_refl _), if_pos (by omega), j2.2.1]
    · rw [g27, if_pos rfl]; omega
