theorem lcmp_of {a b : Int} (a0 : -9223372036854775808 ≤ a) (a1 : a ≤ 9223372036854775807) (b0 : -9223372036854775808 ≤ b) (b1 : b ≤ 9223372036854775807) : qlcmp a b = if b < a then 1 else if a = b then 0 else -1 := by
  unfold qlcmp lg_cmp
  by_cases h : b < a
  · rw [if_pos h, if_pos (show qJ b < qJ a by rw [Int64.lt_iff_toInt_lt, qJ_of a0 (by omega), qJ_of b0 (by omega)]; exact h)]
    rfl
  · rw [if_neg h, if_neg (show ¬ qJ b < qJ a by rw [Int64.lt_iff_toInt_lt, qJ_of a0 (by omega), qJ_of b0 (by omega)]; exact h)]
    by_cases h2 : a = b
    · rw [if_pos h2, h2, if_pos rfl]
      rfl
    · rw [if_neg h2, if_neg (fun e => h2 (by have := congrArg Int64.toInt e; rw [qJ_of a0 (by omega), qJ_of b0 (by omega)] at this; exact this))]
      rfl
theorem lcmp_self (a : Int) : qlcmp a a = 0 := by
  unfold qlcmp lg_cmp
  rw [if_neg (show ¬ qJ a < qJ a by rw [Int64.lt_iff_toInt_lt]; omega), if_pos rfl]
  rfl
theorem iL_le0 {α : Type} {a b : Int} (a0 : -9223372036854775808 ≤ a) (a1 : a ≤ 9223372036854775807) (b0 : -9223372036854775808 ≤ b) (b1 : b ≤ 9223372036854775807) (x y : α) : (if qI (qlcmp a b) ≤ 0 then x else y) = if a ≤ b then x else y := by
  rw [lcmp_of a0 a1 b0 b1]
  by_cases h : b < a
  · rw [if_pos h, if_neg (by rw [mI_le0] <;> omega), if_neg (by omega)]
  · rw [if_neg h]
    by_cases h2 : a = b
    · rw [if_pos h2, if_pos (by rw [mI_le0] <;> omega), if_pos (by omega)]
    · rw [if_neg h2, if_pos (by rw [mI_le0] <;> omega), if_pos (by omega)]
theorem iL_0lt {α : Type} {a b : Int} (a0 : -9223372036854775808 ≤ a) (a1 : a ≤ 9223372036854775807) (b0 : -9223372036854775808 ≤ b) (b1 : b ≤ 9223372036854775807) (x y : α) : (if 0 < qI (qlcmp a b) then x else y) = if b < a then x else y := by
  rw [lcmp_of a0 a1 b0 b1]
  by_cases h : b < a
  · rw [if_pos h, if_pos (by rw [mI_0lt] <;> omega), if_pos h]
  · rw [if_neg h]
    by_cases h2 : a = b
    · rw [if_pos h2, if_neg (by rw [mI_0lt] <;> omega), if_neg h]
    · rw [if_neg h2, if_neg (by rw [mI_0lt] <;> omega), if_neg h]
theorem iL_0le {α : Type} {a b : Int} (a0 : -9223372036854775808 ≤ a) (a1 : a ≤ 9223372036854775807) (b0 : -9223372036854775808 ≤ b) (b1 : b ≤ 9223372036854775807) (x y : α) : (if 0 ≤ qI (qlcmp a b) then x else y) = if b ≤ a then x else y := by
  rw [lcmp_of a0 a1 b0 b1]
  by_cases h : b < a
  · rw [if_pos h, if_pos (by rw [mI_0le] <;> omega), if_pos (by omega)]
  · rw [if_neg h]
    by_cases h2 : a = b
    · rw [if_pos h2, if_pos (by rw [mI_0le] <;> omega), if_pos (by omega)]
    · rw [if_neg h2, if_neg (by rw [mI_0le] <;> omega), if_neg (by omega)]
theorem iL_eq0 {α : Type} {a b : Int} (a0 : -9223372036854775808 ≤ a) (a1 : a ≤ 9223372036854775807) (b0 : -9223372036854775808 ≤ b) (b1 : b ≤ 9223372036854775807) (x y : α) : (if qI (qlcmp a b) = 0 then x else y) = if a = b then x else y := by
  rw [lcmp_of a0 a1 b0 b1]
  by_cases h : b < a
  · rw [if_pos h, if_neg (by rw [mI_eq0] <;> omega), if_neg (by omega)]
  · rw [if_neg h]
    by_cases h2 : a = b
    · rw [if_pos h2, if_pos (by rw [mI_eq0] <;> omega), if_pos h2]
    · rw [if_neg h2, if_neg (by rw [mI_eq0] <;> omega), if_neg h2]
/-- calls that change cells only, and end the way back -/
theorem J.cells {t : Int} {a b a' b' : qSt} (h : J t a b) (e2 : a' 2 = b' 48) (e3 : a' 3 = b' 49) (e5 : a' 5 = b' 51) (h2 : KR (a' 2)) (h3 : BR (a' 3)) (h5 : PR (a' 5)) (hw : WF (a' 2) (a 4)) (hds : DS (a' 5) (a 4)) (hb : ∀ c, 0 ≤ c → c < 96 → a' 3 c ≠ -1 → a' 2 c = 1) (hc : ∀ c w, 0 ≤ c → c < 96 → 0 ≤ w → w < 4 → a' 2 c = 1 → b 56 (4 * c + w) = 0) (r0 : a' 0 6 = 0) (r1 : b' 47 16 = 0) (ha : ∀ k, k ≠ 0 → k ≠ 2 → k ≠ 3 → k ≠ 5 → a' k = a k) (h05 : a' 0 5 = a 0 5) (hb2 : ∀ k, k ≠ 47 → k ≠ 48 → k ≠ 49 → k ≠ 51 → b' k = b k) (hb3 : ∀ j, j ≠ 0 → j ≠ 16 → b' 47 j = b 47 j) : J (t + 1) a' b' := by
  obtain ⟨j1, j2, j3, j4, j5, j6, j7⟩ := h
  refine ⟨⟨e2, e3, ?_, e5, ⟨h2, h3, ?_, h5, ?_, ?_⟩, hb⟩, ⟨fun c w c0 c1 w0 w1 => ?_, ?_, ?_⟩, j3.fr (fun k _ _ => ha k (by omega) (by omega) (by omega) (by omega)) (hb2 _ (by omega) (by omega) (by omega) (by omega)), (j4.fr (fun k _ _ => ha k (by omega) (by omega) (by omega) (by omega)) (ha 4 (by omega) (by omega) (by omega) (by omega)) (by rw [ha 1 (by omega) (by omega) (by omega) (by omega)]) (hb3 17 (by omega) (by omega))).mono (by omega), ?_, ?_, ?_⟩
  · rw [ha 4 (by omega) (by omega) (by omega) (by omega), hb2 50 (by omega) (by omega) (by omega) (by omega)]; exact j1.2.2.1
  · show PR (a' 4); rw [ha 4 (by omega) (by omega) (by omega) (by omega)]; exact j1.2.2.2.2.1.2.2.1
  · show WF (a' 2) (a' 4); rw [ha 4 (by omega) (by omega) (by omega) (by omega)]; exact hw
  · show DS (a' 5) (a' 4); rw [ha 4 (by omega) (by omega) (by omega) (by omega)]; exact hds
  · obtain ⟨x1, x2, x3, x4⟩ := j2.1 c w c0 c1 w0 w1
    rw [ha (30 + w.toNat) (by omega) (by omega) (by omega) (by omega), ha (34 + w.toNat) (by omega) (by omega) (by omega) (by omega), hb2 56 (by omega) (by omega) (by omega) (by omega)]
    exact ⟨x1, x2, hc c w c0 c1 w0 w1, x4⟩
  · rw [ha 27 (by omega) (by omega) (by omega) (by omega), hb2 56 (by omega) (by omega) (by omega) (by omega)]; exact j2.2.1
  · rw [ha 27 (by omega) (by omega) (by omega) (by omega)]; exact j2.2.2
  · obtain ⟨x1, x2, x3, x4, x5, x6, x7⟩ := j5
    unfold JS
    rw [h05, r0, r1, hb3 15 (by omega) (by omega), hb3 19 (by omega) (by omega), ha 38 (by omega) (by omega) (by omega) (by omega)]
    refine ⟨x1, x2, rfl, by omega, x5, x6, fun k k0 k1 => ?_⟩
    rw [ha 40 (by omega) (by omega) (by omega) (by omega), ha 39 (by omega) (by omega) (by omega) (by omega), ha (42 + k.toNat) (by omega) (by omega) (by omega) (by omega), hb2 61 (by omega) (by omega) (by omega) (by omega), hb2 62 (by omega) (by omega) (by omega) (by omega), hb2 63 (by omega) (by omega) (by omega) (by omega)]
    obtain ⟨y1, y2, y3, y4, y5⟩ := x7 k k0 k1
    exact ⟨y1, y2, fun z => ⟨(y3 z).1, (y3 z).2.1, y2.1⟩, y4, y5⟩
  · rw [ha 46 (by omega) (by omega) (by omega) (by omega), hb2 59 (by omega) (by omega) (by omega) (by omega)]; exact j6
  · rw [ha 27 (by omega) (by omega) (by omega) (by omega), hb3 18 (by omega) (by omega)]; exact j7
theorem p_wall {t : Int} {a b : qSt} (h : J t a b) {c k : Int} (hc : isI c) (hk : isI k) : PQ [(0, 0), (1, 1), (3, 2)] t a b (fX5_wall c k a) (fX6_wall c k b) := by
  obtain ⟨j1, j2, j3, j4, j5, j6, j7⟩ := id h
  unfold fX5_wall fX6_wall fX6_wall_c21 fX6_wall_c22 fX6_wall_c46
  by_cases hcc : 0 ≤ c ∧ c < 96
  · obtain ⟨c0, c1⟩ := id hcc
    rw [noCell0 c0 c1, isCell1 c0 c1, Option.bind_some, Option.bind_some, iI_no, iI_yes]
    by_cases hkk : -1 ≤ k ∧ k ≤ 3
    · rw [with1 (by omega) (by omega) hkk.1 hkk.2, Option.bind_some, iI_yes, iI_yes]
      have hcm := can_may j1 j2 j5 (k := k) c0 c1
      have no : ¬ canP b c k → fX6_canBeWall b c k = some 0 → PQ [(0, 0), (1, 1), (3, 2)] t a b (some (3, 0, a)) ((fX6_canBeWall b c k).bind fun (r35 : Int) => if qI r35 = 0 then (qbd (fX6_refused 2 b) fun (r46 : Int) (σ1 : qSt) => (if qI r46 = 0 then (if 0 ≤ c ∧ c < 96 then (qb (qset σ1 48 c 1) fun (σ2 : qSt) => (if 0 ≤ c ∧ c < 96 then (qb (qset σ2 49 c k) fun (σ3 : qSt) => (qb (qset σ3 47 16 0) fun (σ4 : qSt) => (some (0, σ4)))) else none)) else none) else (some (0, σ1)))) else (qbd (fX6_refused 0 b) fun (r46 : Int) (σ1 : qSt) => (if qI r46 = 0 then (if 0 ≤ c ∧ c < 96 then (qb (qset σ1 48 c 1) fun (σ2 : qSt) => (if 0 ≤ c ∧ c < 96 then (qb (qset σ2 49 c k) fun (σ3 : qSt) => (qb (qset σ3 47 16 0) fun (σ4 : qSt) => (some (0, σ4)))) else none)) else none) else (some (0, σ1))))) := fun _ hr => by
        rw [hr, Option.bind_some, iI_no, ref_no (by omega) (by omega)]
        exact PQ.no h (by simp) (by omega)
      have yes : mayP a c → canP b c k → fX6_canBeWall b c k = some 1 → PQ [(0, 0), (1, 1), (3, 2)] t a b (fX5_wall_c61 c k a) ((fX6_canBeWall b c k).bind fun (r35 : Int) => if qI r35 = 0 then (qbd (fX6_refused 2 b) fun (r46 : Int) (σ1 : qSt) => (if qI r46 = 0 then (if 0 ≤ c ∧ c < 96 then (qb (qset σ1 48 c 1) fun (σ2 : qSt) => (if 0 ≤ c ∧ c < 96 then (qb (qset σ2 49 c k) fun (σ3 : qSt) => (qb (qset σ3 47 16 0) fun (σ4 : qSt) => (some (0, σ4)))) else none)) else none) else (some (0, σ1)))) else (qbd (fX6_refused 0 b) fun (r46 : Int) (σ1 : qSt) => (if qI r46 = 0 then (if 0 ≤ c ∧ c < 96 then (qb (qset σ1 48 c 1) fun (σ2 : qSt) => (if 0 ≤ c ∧ c < 96 then (qb (qset σ2 49 c k) fun (σ3 : qSt) => (qb (qset σ3 47 16 0) fun (σ4 : qSt) => (some (0, σ4)))) else none)) else none) else (some (0, σ1))))) := fun hm hcn hr => by
        unfold fX5_wall_c61
        rw [hr, Option.bind_some, iI_yes, ref_ok]
        simp only [if_pos hcc, mqb]
        obtain ⟨w1, w2, w3, w4, ⟨v1, v2, v3, v4, v5, v6⟩, w6⟩ := j1
        have ea2 : qset (qset (qset a 2 c 1) 3 c k) 0 6 0 2 = fun j => if j = c then 1 else a 2 j := by rw [mset_ne (by omega), mset_ne (by omega), mset_same]
        have ea3 : qset (qset (qset a 2 c 1) 3 c k) 0 6 0 3 = fun j => if j = c then k else a 3 j := by rw [mset_ne (by omega), mset_same, mset_ne (by omega)]
        have ea5 : qset (qset (qset a 2 c 1) 3 c k) 0 6 0 5 = a 5 := by rw [mset_ne (by omega), mset_ne (by omega), mset_ne (by omega)]
        refine ⟨0, 0, _, 0, _, rfl, rfl, ?_, fun _ => rfl, ?_, fun k k0 k1 => by rw [mset_ne (by omega), mset_ne (by omega), mset_ne (by omega)], fun k hk => by rw [mset_ne (by omega), mset_ne (by omega), mset_ne (by omega), mset_ne (by omega)]⟩
        · rw [mset_same, mset_ne (by omega), mset_ne (by omega)]
          show (0, (if (0 : Int) = 16 then 0 else qset b 47 0 0 47 0)) ∈ _
          rw [if_neg (by omega), m_ref0]
          simp
        · refine h.cells ?_ ?_ ?_ ?_ ?_ ?_ ?_ ?_ ?_ ?_ ?_ ?_ (fun k k0 k2 k3 k5 => by rw [mset_ne k0, mset_ne k3, mset_ne k2]) ?_ (fun k k47 k48 k49 _ => by rw [mset_ne k47, mset_ne k49, mset_ne k48, mset_ne k47]) (fun j j0 j16 => ?_)
          · rw [ea2, mset_ne (by omega), mset_ne (by omega), mset_same, mset_ne (by omega), ← w1]
          · rw [ea3, mset_ne (by omega), mset_same, mset_ne (by omega), mset_ne (by omega), ← w2]
          · rw [ea5, mset_ne (by omega), mset_ne (by omega), mset_ne (by omega), mset_ne (by omega), ← w4]
          · rw [ea2]; intro x x0 x1; show 0 ≤ (if x = c then 1 else a 2 x) ∧ (if x = c then 1 else a 2 x) ≤ 3; have : 0 ≤ a 2 x ∧ a 2 x ≤ 3 := v1 x x0 x1; split <;> omega
          · rw [ea3]; intro x x0 x1; show -1 ≤ (if x = c then k else a 3 x) ∧ (if x = c then k else a 3 x) ≤ 3; have : -1 ≤ a 3 x ∧ a 3 x ≤ 3 := v2 x x0 x1; split <;> omega
          · rw [ea5]; exact v4
          · rw [ea2]; intro x x0 x1 hx
            by_cases e : x = c
            · rw [e]; exact hm.2.1
            · exact v5 x x0 x1 (by have hx : (if x = c then 1 else a 2 x) = 1 := hx; rw [if_neg e] at hx; exact hx)
          · rw [ea5]; exact v6
          · rw [ea2, ea3]; intro x x0 x1 hx
            have hx : (if x = c then k else a 3 x) ≠ -1 := hx
            show (if x = c then 1 else a 2 x) = 1
            by_cases e : x = c
            · rw [if_pos e]
            · rw [if_neg e] at hx ⊢; exact w6 x x0 x1 hx
          · rw [ea2]; intro x w x0 x1 w0 w1 hx
            by_cases e : x = c
            · rw [e]; exact hcn.2.2.1 w w0 w1
            · exact (j2.1 x w x0 x1 w0 w1).2.2.1 (by have hx : (if x = c then 1 else a 2 x) = 1 := hx; rw [if_neg e] at hx; exact hx)
          · rw [mset_same]; exact if_pos rfl
          · rw [mset_same]; exact if_pos rfl
          · rw [mset_same]; show (if (5 : Int) = 6 then 0 else _) = _; rw [if_neg (by omega), mset_ne (by omega), mset_ne (by omega)]
          · rw [mset_same]
            show (if j = 16 then 0 else _) = _
            rw [if_neg j16, mset_ne (by omega), mset_ne (by omega), mset_same]
            exact if_neg j0
      have hb3 : BR (a 3) := j1.2.2.2.2.1.2.1
      have c27 : PQ [(0, 0), (1, 1), (3, 2)] t a b (fX5_wall_c27 c k a) ((fX6_canBeWall b c k).bind fun (r35 : Int) => if qI r35 = 0 then (qbd (fX6_refused 2 b) fun (r46 : Int) (σ1 : qSt) => (if qI r46 = 0 then (if 0 ≤ c ∧ c < 96 then (qb (qset σ1 48 c 1) fun (σ2 : qSt) => (if 0 ≤ c ∧ c < 96 then (qb (qset σ2 49 c k) fun (σ3 : qSt) => (qb (qset σ3 47 16 0) fun (σ4 : qSt) => (some (0, σ4)))) else none)) else none) else (some (0, σ1)))) else (qbd (fX6_refused 0 b) fun (r46 : Int) (σ1 : qSt) => (if qI r46 = 0 then (if 0 ≤ c ∧ c < 96 then (qb (qset σ1 48 c 1) fun (σ2 : qSt) => (if 0 ≤ c ∧ c < 96 then (qb (qset σ2 49 c k) fun (σ3 : qSt) => (qb (qset σ3 47 16 0) fun (σ4 : qSt) => (some (0, σ4)))) else none)) else none) else (some (0, σ1))))) := by
        unfold fX5_wall_c27
        have hbn := bn_r (a 3) k
        rcases m_mayBeWall j1 j2 j5 c0 c1 with ⟨q, m⟩ | ⟨q, m⟩
        · rw [q, Option.bind_some, iI_yes, iI_eq hk.1 hk.2 (by omega) (by omega)]
          rcases m_canBeWall j1 j2 j5 (k := k) c0 c1 hkk.1 hkk.2 with ⟨q2, m2⟩ | ⟨q2, m2⟩
          · by_cases e : k = -1
            · rw [if_pos e]; exact yes m m2 q2
            · rw [if_neg e, m_cellsOfBody hb3 hk.1 hk.2, Option.bind_some, iI_lt (by omega) (by omega) (by omega) (by omega), if_pos ((hcm.mp m2).2.resolve_left e)]; exact yes m m2 q2
          · have nn : ¬ (k = -1 ∨ sr (bn (a 3) k) 96 < 12) := fun z => m2 (hcm.mpr ⟨m, z⟩)
            rw [if_neg (fun z => nn (Or.inl z)), m_cellsOfBody hb3 hk.1 hk.2, Option.bind_some, iI_lt (by omega) (by omega) (by omega) (by omega), if_neg (fun z => nn (Or.inr z))]
            exact no m2 q2
        · have m2 : ¬ canP b c k := fun z => m (hcm.mp z).1
          rcases m_canBeWall j1 j2 j5 (k := k) c0 c1 hkk.1 hkk.2 with ⟨q2, m3⟩ | ⟨q2, m3⟩
          · exact absurd m3 m2
          · rw [q, Option.bind_some, iI_no]; exact no m2 q2
      rw [iI_eq hk.1 hk.2 (by omega) (by omega)]
      by_cases e : k = -1
      · rw [if_pos e]; exact c27
      · rw [if_neg e, noBody0 (by omega) (by omega), Option.bind_some, iI_no]; exact c27
    · rw [with0 hk (isI_of (by omega) (by omega)) (isI_of (by omega) (by omega)) hkk, Option.bind_some, iI_no, iI_no, iI_eq hk.1 hk.2 (by omega) (by omega), if_neg (show ¬ k = -1 by omega), noBody1 hk (by omega), Option.bind_some, iI_yes, ref_no (by omega) (by omega)]
      exact PQ.no h (by simp) (by omega)
  · rw [noCell1 hc hcc, isCell0 hc hcc, Option.bind_some, Option.bind_some, iI_yes, iI_no, iI_no, ref_no (by omega) (by omega)]
    exact PQ.no h (by simp) (by omega)
