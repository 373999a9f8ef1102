theorem J.same {t : Int} {a b a' b' : qSt} (h : J t a b) (ha : keepA a a') (hb : keepB b b') : J (t + 1) a' b' := h.keep (by omega) ha hb
theorem p_clear {t : Int} {a b : qSt} (h : J t a b) {c : Int} (hc : isI c) : PQ [(0, 0), (1, 1)] t a b (fX5_clear c a) (fX6_clear c b) := by
  obtain ⟨j1, j2, j3, j4, j5, j6, j7⟩ := id h
  unfold fX5_clear fX6_clear fX6_clear_c14 fX3_makeFree
  by_cases hcc : 0 ≤ c ∧ c < 96
  · obtain ⟨c0, c1⟩ := id hcc
    rw [noCell0 c0 c1, isCell1 c0 c1, Option.bind_some, Option.bind_some, iI_no, iI_yes, ref_ok]
    simp only [if_pos hcc, mqb, mqbd]
    obtain ⟨w1, w2, w3, w4, ⟨v1, v2, v3, v4, v5, v6⟩, w6⟩ := j1
    have ea2 : qset (qset (qset a 2 c 0) 3 c (-1)) 0 6 0 2 = fun j => if j = c then 0 else a 2 j := by rw [mset_ne (by omega), mset_ne (by omega), mset_same]
    have ea3 : qset (qset (qset a 2 c 0) 3 c (-1)) 0 6 0 3 = fun j => if j = c then -1 else a 3 j := by rw [mset_ne (by omega), mset_same, mset_ne (by omega)]
    have ea5 : qset (qset (qset a 2 c 0) 3 c (-1)) 0 6 0 5 = a 5 := by rw [mset_ne (by omega), mset_ne (by omega), mset_ne (by omega)]
    refine ⟨0, a 2 c, _, qset b 47 0 0 48 c, _, rfl, rfl, ?_, fun _ => ?_, ?_, fun k k0 k1 => by show qset (qset (qset a 2 c 0) 3 c (-1)) 0 6 0 k = _; rw [mset_ne (by omega), mset_ne (by omega), mset_ne (by omega)], fun k hk => by rw [mset_ne (by omega), mset_ne (by omega), mset_ne (by omega), mset_ne (by omega)]⟩
    · rw [mset_same, mset_ne (by omega), mset_ne (by omega)]
      show (0, (if (0 : Int) = 16 then 0 else qset b 47 0 0 47 0)) ∈ _
      rw [if_neg (by omega), m_ref0]
      simp
    · rw [mset_ne (by omega), w1]
    · refine h.cells ?_ ?_ ?_ ?_ ?_ ?_ ?_ ?_ ?_ ?_ ?_ ?_ (fun k k0 k2 k3 k5 => by show qset (qset (qset a 2 c 0) 3 c (-1)) 0 6 0 k = _; rw [mset_ne k0, mset_ne k3, mset_ne k2]) ?_ (fun k k47 k48 k49 _ => by rw [mset_ne k47, mset_ne k49, mset_ne k48, mset_ne k47]) (fun j j0 j16 => ?_)
      · refine Eq.trans ea2 ?_; rw [mset_ne (by omega), mset_ne (by omega), mset_same, mset_ne (by omega), ← w1]
      · refine Eq.trans ea3 ?_; rw [mset_ne (by omega), mset_same, mset_ne (by omega), mset_ne (by omega), ← w2]
      · refine Eq.trans ea5 ?_; rw [mset_ne (by omega), mset_ne (by omega), mset_ne (by omega), mset_ne (by omega), ← w4]
      · refine (congrArg KR ea2).mpr ?_; intro x x0 x1; show 0 ≤ (if x = c then 0 else a 2 x) ∧ (if x = c then 0 else a 2 x) ≤ 3; have : 0 ≤ a 2 x ∧ a 2 x ≤ 3 := v1 x x0 x1; split <;> omega
      · refine (congrArg BR ea3).mpr ?_; intro x x0 x1; show -1 ≤ (if x = c then -1 else a 3 x) ∧ (if x = c then -1 else a 3 x) ≤ 3; have : -1 ≤ a 3 x ∧ a 3 x ≤ 3 := v2 x x0 x1; split <;> omega
      · exact (congrArg PR ea5).mpr v4
      · refine (congrArg (fun z => WF z (a 4)) ea2).mpr ?_
        intro x x0 x1 hx
        have hx : (if x = c then 0 else a 2 x) = 1 := hx
        by_cases e : x = c
        · rw [if_pos e] at hx; omega
        · rw [if_neg e] at hx; exact v5 x x0 x1 hx
      · exact (congrArg (fun z => DS z (a 4)) ea5).mpr v6
      · intro x x0 x1 hx
        have hx : qset (qset (qset a 2 c 0) 3 c (-1)) 0 6 0 3 x ≠ -1 := hx
        show qset (qset (qset a 2 c 0) 3 c (-1)) 0 6 0 2 x = 1
        rw [ea3] at hx
        rw [ea2]
        have hx : (if x = c then -1 else a 3 x) ≠ -1 := hx
        show (if x = c then 0 else a 2 x) = 1
        by_cases e : x = c
        · rw [if_pos e] at hx; exact absurd rfl hx
        · rw [if_neg e] at hx ⊢; exact w6 x x0 x1 hx
      · intro x w x0 x1 w0 w1' hx
        have hx : qset (qset (qset a 2 c 0) 3 c (-1)) 0 6 0 2 x = 1 := hx
        rw [ea2] at hx
        have hx : (if x = c then 0 else a 2 x) = 1 := hx
        by_cases e : x = c
        · rw [if_pos e] at hx; omega
        · rw [if_neg e] at hx; exact (j2.1 x w x0 x1 w0 w1').2.2.1 hx
      · show qset (qset (qset a 2 c 0) 3 c (-1)) 0 6 0 0 6 = 0; rw [mset_same]; exact if_pos rfl
      · rw [mset_same]; exact if_pos rfl
      · show qset (qset (qset a 2 c 0) 3 c (-1)) 0 6 0 0 5 = _; rw [mset_same]; show (if (5 : Int) = 6 then 0 else _) = _; rw [if_neg (by omega), mset_ne (by omega), mset_ne (by omega)]
      · rw [mset_same]
        show (if j = 16 then 0 else _) = _
        rw [if_neg j16, mset_ne (by omega), mset_ne (by omega), mset_same]
        exact if_neg j0
  · rw [noCell1 hc hcc, isCell0 hc hcc, Option.bind_some, Option.bind_some, iI_yes, iI_no, ref_no (by omega) (by omega)]
    exact PQ.no h (by simp) (by omega)
theorem p_open {t : Int} {a b : qSt} (h : J t a b) {c k : Int} (hc : isI c) (hk : isI k) : PQ [(0, 0), (1, 1), (2, 2), (3, 3)] t a b (fX5_open c k a) (fX6_open c k b) := by
  obtain ⟨j1, j2, j3, j4, j5, j6, j7⟩ := id h
  unfold fX5_open fX6_open fX6_open_c40
  by_cases hcc : 0 ≤ c ∧ c < 96
  · obtain ⟨c0, c1⟩ := id hcc
    rw [noCell0 c0 c1, isCell1 c0 c1, Option.bind_some, Option.bind_some, iI_no, iI_yes, iI_eq hk.1 hk.2 (by omega) (by omega), iI_eq hk.1 hk.2 (by omega) (by omega)]
    by_cases hkk : 2 ≤ k ∧ k ≤ 3
    · rw [with1 (by omega) (by omega) hkk.1 hkk.2, Option.bind_some, iI_yes]
      have go : PQ [(0, 0), (1, 1), (2, 2), (3, 3)] t a b (fX5_open_c33 c k a) (if 0 ≤ c ∧ c < 96 then (if qI (b 48 c) = 0 then (qbd (fX6_refused 0 b) fun (r40 : Int) (σ1 : qSt) => (if qI r40 = 0 then (if 0 ≤ c ∧ c < 96 then (qb (qset σ1 48 c k) fun (σ2 : qSt) => (qb (qset σ2 47 16 0) fun (σ3 : qSt) => (some (0, σ3)))) else none) else (some (0, σ1)))) else (qbd (fX6_refused 3 b) fun (r40 : Int) (σ1 : qSt) => (if qI r40 = 0 then (if 0 ≤ c ∧ c < 96 then (qb (qset σ1 48 c k) fun (σ2 : qSt) => (qb (qset σ2 47 16 0) fun (σ3 : qSt) => (some (0, σ3)))) else none) else (some (0, σ1))))) else none) := by
        unfold fX5_open_c33
        obtain ⟨w1, w2, w3, w4, ⟨v1, v2, v3, v4, v5, v6⟩, w6⟩ := j1
        have hkr : 0 ≤ a 2 c ∧ a 2 c ≤ 3 := v1 c c0 c1
        rw [if_pos hcc, if_pos hcc, ← w1, iI_eq0 (by omega) (by omega), iI_eq0 (by omega) (by omega)]
        by_cases e : a 2 c = 0
        · rw [if_pos e, if_pos e, ref_ok]
          simp only [if_pos hcc, mqb]
          have ea2 : qset (qset a 2 c k) 0 6 0 2 = fun j => if j = c then k else a 2 j := by rw [mset_ne (by omega), mset_same]
          have ea3 : qset (qset a 2 c k) 0 6 0 3 = a 3 := by rw [mset_ne (by omega), mset_ne (by omega)]
          have ea5 : qset (qset a 2 c k) 0 6 0 5 = a 5 := by rw [mset_ne (by omega), mset_ne (by omega)]
          have eb : ∀ x, (if x = c then k else a 2 x) = 1 → a 2 x = 1 := fun x hx => by
            by_cases e : x = c
            · rw [if_pos e] at hx; omega
            · rw [if_neg e] at hx; exact hx
          refine ⟨0, 0, _, 0, _, rfl, rfl, ?_, fun _ => rfl, ?_, fun k k0 k1 => by rw [mset_ne (by omega), mset_ne (by omega)], fun k hk => by rw [mset_ne (by omega), mset_ne (by omega), mset_ne (by omega)]⟩
          · rw [mset_same, mset_ne (by omega)]
            show (0, (if (0 : Int) = 16 then 0 else qset b 47 0 0 47 0)) ∈ _
            rw [if_neg (by omega), m_ref0]
            simp
          · refine h.cells ?_ ?_ ?_ ?_ ?_ ?_ ?_ ?_ ?_ ?_ ?_ ?_ (fun k k0 k2 k3 k5 => by rw [mset_ne k0, mset_ne k2]) ?_ (fun k k47 k48 k49 _ => by rw [mset_ne k47, mset_ne k48, mset_ne k47]) (fun j j0 j16 => ?_)
            · rw [ea2, mset_ne (by omega), mset_same, mset_ne (by omega), ← w1]
            · rw [ea3, mset_ne (by omega), mset_ne (by omega), mset_ne (by omega), ← w2]
            · rw [ea5, mset_ne (by omega), mset_ne (by omega), mset_ne (by omega), ← w4]
            · rw [ea2]; intro x x0 x1; show 0 ≤ (if x = c then k else a 2 x) ∧ (if x = c then k else a 2 x) ≤ 3; have : 0 ≤ a 2 x ∧ a 2 x ≤ 3 := v1 x x0 x1; split <;> omega
            · rw [ea3]; exact v2
            · rw [ea5]; exact v4
            · rw [ea2]; intro x x0 x1 hx; exact v5 x x0 x1 (eb x hx)
            · rw [ea5]; exact v6
            · rw [ea2, ea3]; intro x x0 x1 hx
              show (if x = c then k else a 2 x) = 1
              by_cases e9 : x = c
              · have := w6 x x0 x1 hx; rw [e9] at this; omega
              · rw [if_neg e9]; exact w6 x x0 x1 hx
            · rw [ea2]; intro x w x0 x1 w0 w1' hx; exact (j2.1 x w x0 x1 w0 w1').2.2.1 (eb x hx)
            · rw [mset_same]; exact if_pos rfl
            · rw [mset_same]; exact if_pos rfl
            · rw [mset_same]; show (if (5 : Int) = 6 then 0 else _) = _; rw [if_neg (by omega), mset_ne (by omega)]
            · rw [mset_same]
              show (if j = 16 then 0 else _) = _
              rw [if_neg j16, mset_ne (by omega), mset_same]
              exact if_neg j0
        · rw [if_neg e, if_neg e, ref_no (by omega) (by omega), if_pos hcc]
          exact PQ.no h (by simp) (by omega)
      by_cases e : k = 2
      · rw [if_pos e]; exact go
      · rw [if_neg e, if_pos (show k = 3 by omega)]; exact go
    · rw [if_neg (show ¬ k = 2 by omega), if_neg (show ¬ k = 3 by omega), with0 hk (isI_of (by omega) (by omega)) (isI_of (by omega) (by omega)) hkk, Option.bind_some, iI_no, ref_no (by omega) (by omega)]
      exact PQ.no h (by simp) (by omega)
  · rw [noCell1 hc hcc, isCell0 hc hcc, Option.bind_some, Option.bind_some, iI_yes, iI_no, ref_no (by omega) (by omega)]
    exact PQ.no h (by simp) (by omega)
theorem m_plain {σ : qSt} {x y : Int} (h0 : 0 ≤ x) (h1 : x ≤ 15) (g0 : 0 ≤ y) (g1 : y ≤ 15) (hs : ∀ w, 0 ≤ w → w < 4 → bt y w ≤ bt x w) : fJ6_bitCount_0f7a4 σ (qand x (qxor y (-1))) = some (btc x - btc y) := by
  obtain ⟨n, rfl⟩ := f16 h0 h1
  obtain ⟨m, rfl⟩ := f16 g0 g1
  exact (by decide +kernel : ∀ (n m : Fin 16), (bt (m.val : Int) 0 ≤ bt (n.val : Int) 0 ∧ bt (m.val : Int) 1 ≤ bt (n.val : Int) 1 ∧ bt (m.val : Int) 2 ≤ bt (n.val : Int) 2 ∧ bt (m.val : Int) 3 ≤ bt (n.val : Int) 3) → fJ6_bitCount_0f7a4 (fun _ _ => 0) (qand (n.val : Int) (qxor (m.val : Int) (-1))) = some (btc (n.val : Int) - btc (m.val : Int))) n m ⟨hs 0 (by omega) (by omega), hs 1 (by omega) (by omega), hs 2 (by omega) (by omega), hs 3 (by omega) (by omega)⟩
theorem p_ink {t : Int} {a b : qSt} (h : J t a b) {c : Int} (hc : isI c) : PQ [(0, 0), (1, 1)] t a b (fX5_ink c a) (fX6_ink c b) := by
  obtain ⟨j1, j2, j3, j4, j5, j6, j7⟩ := id h
  unfold fX5_ink fX6_ink fX6_ink_c14
  by_cases hcc : 0 ≤ c ∧ c < 96
  · obtain ⟨c0, c1⟩ := id hcc
    rw [noCell0 c0 c1, isCell1 c0 c1, Option.bind_some, Option.bind_some, iI_no, iI_yes, ref_ok]
    simp only [if_pos hcc, mqb]
    obtain ⟨w1, w2, w3, w4, ⟨v1, v2, v3, v4, v5, v6⟩, w6⟩ := j1
    have hp : 0 ≤ a 4 c ∧ a 4 c ≤ 15 := v3 c c0 c1
    have hd : 0 ≤ a 5 c ∧ a 5 c ≤ 15 := v4 c c0 c1
    rw [m_plain hp.1 hp.2 hd.1 hd.2 (fun w w0 w1 => v6 c w c0 c1 w0 w1), Option.bind_some, mset_ne (k := 47) (k' := 50) (by omega), mset_ne (k := 47) (k' := 51) (by omega), ← w3, ← w4, m_many hp.1 hp.2, Option.bind_some, m_many hd.1 hd.2, Option.bind_some]
    have ea2 : qset (qset a 5 c (a 4 c)) 0 6 0 2 = a 2 := by rw [mset_ne (by omega), mset_ne (by omega)]
    have ea3 : qset (qset a 5 c (a 4 c)) 0 6 0 3 = a 3 := by rw [mset_ne (by omega), mset_ne (by omega)]
    have ea5 : qset (qset a 5 c (a 4 c)) 0 6 0 5 = fun j => if j = c then a 4 c else a 5 j := by rw [mset_ne (by omega), mset_same]
    refine ⟨0, _, _, _, _, rfl, rfl, ?_, fun _ => rfl, ?_, fun k k0 k1 => by rw [mset_ne (by omega), mset_ne (by omega)], fun k hk => by rw [mset_ne (by omega), mset_ne (by omega), mset_ne (by omega)]⟩
    · rw [mset_same, mset_ne (by omega)]
      show (0, (if (0 : Int) = 16 then 0 else qset b 47 0 0 47 0)) ∈ _
      rw [if_neg (by omega), m_ref0]
      simp
    · refine h.cells ?_ ?_ ?_ ?_ ?_ ?_ ?_ ?_ ?_ ?_ ?_ ?_ (fun k k0 k2 k3 k5 => by rw [mset_ne k0, mset_ne k5]) ?_ (fun k k47 k48 k49 k51 => by rw [mset_ne k47, mset_ne k51, mset_ne k47]) (fun j j0 j16 => ?_)
      · rw [ea2, mset_ne (by omega), mset_ne (by omega), mset_ne (by omega), ← w1]
      · rw [ea3, mset_ne (by omega), mset_ne (by omega), mset_ne (by omega), ← w2]
      · rw [ea5, mset_ne (by omega), mset_same, mset_ne (by omega), ← w4]
      · rw [ea2]; exact v1
      · rw [ea3]; exact v2
      · rw [ea5]; intro x x0 x1; show 0 ≤ (if x = c then a 4 c else a 5 x) ∧ (if x = c then a 4 c else a 5 x) ≤ 15; have : 0 ≤ a 5 x ∧ a 5 x ≤ 15 := v4 x x0 x1; split <;> omega
      · rw [ea2]; exact v5
      · rw [ea5]; intro x w x0 x1 w0 w1'
        show bt (if x = c then a 4 c else a 5 x) w ≤ bt (a 4 x) w
        by_cases e : x = c
        · rw [if_pos e, e]; exact Int.le_refl _
        · rw [if_neg e]; exact v6 x w x0 x1 w0 w1'
      · rw [ea2, ea3]; exact w6
      · rw [ea2]; intro x w x0 x1 w0 w1' hx; exact (j2.1 x w x0 x1 w0 w1').2.2.1 hx
      · rw [mset_same]; exact if_pos rfl
      · rw [mset_same]; exact if_pos rfl
      · rw [mset_same]; show (if (5 : Int) = 6 then 0 else _) = _; rw [if_neg (by omega), mset_ne (by omega)]
      · rw [mset_same]
        show (if j = 16 then 0 else _) = _
        rw [if_neg j16, mset_ne (by omega), mset_same]
        exact if_neg j0
  · rw [noCell1 hc hcc, isCell0 hc hcc, Option.bind_some, Option.bind_some, iI_yes, iI_no, ref_no (by omega) (by omega)]
    exact PQ.no h (by simp) (by omega)
