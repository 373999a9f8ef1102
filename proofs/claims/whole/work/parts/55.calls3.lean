theorem bt_add {x w v : Int} (h0 : 0 ≤ x) (h1 : x ≤ 15) (w0 : 0 ≤ w) (w1 : w < 4) (v0 : 0 ≤ v) (v1 : v < 4) (hb : bt x w = 0) : bt (x + pw w) v = bt x v + if v = w then 1 else 0 := by
  obtain ⟨n, rfl⟩ := f16 h0 h1
  obtain ⟨k, rfl⟩ := f4 w0 w1
  obtain ⟨j, rfl⟩ := f4 v0 v1
  exact (by decide +kernel : ∀ (n : Fin 16) (k j : Fin 4), bt (n.val : Int) (k.val : Int) = 0 → bt ((n.val : Int) + pw (k.val : Int)) (j.val : Int) = bt (n.val : Int) (j.val : Int) + if (j.val : Int) = (k.val : Int) then 1 else 0) n k j hb
theorem add_r {x w : Int} (h0 : 0 ≤ x) (h1 : x ≤ 15) (w0 : 0 ≤ w) (w1 : w < 4) (hb : bt x w = 0) : 0 ≤ x + pw w ∧ x + pw w ≤ 15 := by
  obtain ⟨n, rfl⟩ := f16 h0 h1
  obtain ⟨k, rfl⟩ := f4 w0 w1
  exact (by decide +kernel : ∀ (n : Fin 16) (k : Fin 4), bt (n.val : Int) (k.val : Int) = 0 → 0 ≤ (n.val : Int) + pw (k.val : Int) ∧ (n.val : Int) + pw (k.val : Int) ≤ 15) n k hb
theorem gs_add {r r' : Int → Int} {c w u : Int} (hr : PR r) (c0 : 0 ≤ c) (c1 : c < 96) (w0 : 0 ≤ w) (w1 : w < 4) (hb : bt (r c) w = 0) (h : ∀ x, r' x = if x = c then r c + pw w else r x) (hu : u = 0 ∨ u = 1) : gs u r' = gs u r + dsg u w := by
  have hc := hr c c0 c1
  refine sr_upd (a := c) c0 c1 fun x x0 x1 => ?_
  rw [h x]
  by_cases e : x = c
  · rw [if_pos e, if_pos e, e, bt_add hc.1 hc.2 w0 w1 (by omega) (by omega) hb, bt_add hc.1 hc.2 w0 w1 (by omega) (by omega) hb]
    unfold dsg
    rcases hu with rfl | rfl <;> rcases (show w = 0 ∨ w = 1 ∨ w = 2 ∨ w = 3 by omega) with rfl | rfl | rfl | rfl <;> simp <;> omega
  · rw [if_neg e, if_neg e]; omega
theorem p_particle {t : Int} {a b : qSt} (h : J t a b) {c w : Int} (hc : isI c) (hk : isI w) : PQ [(0, 0), (1, 1), (2, 2), (3, 3)] t a b (fX5_particle c w a) (fX6_particle c w b) := by
  obtain ⟨j1, j2, j3, j4, j5, j6, j7⟩ := id h
  unfold fX5_particle fX6_particle fX6_particle_c56 fX6_particle_c61
  by_cases hcc : 0 ≤ c ∧ c < 96
  · obtain ⟨c0, c1⟩ := id hcc
    by_cases hww : 0 ≤ w ∧ w ≤ 3
    · obtain ⟨w0, w1⟩ := id hww
      have w1' : w < 4 := by omega
      rw [noCell0 c0 c1, isCell1 c0 c1, Option.bind_some, Option.bind_some, iI_no, outs0 (by omega) (by omega) w0 w1, Option.bind_some, iI_no, if_pos hcc, with1 (by omega) (by omega) w0 w1, Option.bind_some, iI_yes, iI_yes]
      obtain ⟨q1, q2, q3, q4, ⟨v1, v2, v3, v4, v5, v6⟩, q6⟩ := j1
      have hkr : 0 ≤ a 2 c ∧ a 2 c ≤ 3 := v1 c c0 c1
      have hp : 0 ≤ a 4 c ∧ a 4 c ≤ 15 := v3 c c0 c1
      rw [← q1, ← q3, iI_eq (by omega) (by omega) (by omega) (by omega), iI_eq (by omega) (by omega) (by omega) (by omega)]
      by_cases e1 : a 2 c = 1
      · rw [if_pos e1, if_pos e1, ref_no (by omega) (by omega), if_pos hcc]
        exact PQ.no h (by simp) (by omega)
      · rw [if_neg e1, if_neg e1, m_has hp.1 hp.2 w0 w1', Option.bind_some, m_bit hp.1 hp.2 w0 w1']
        have hbr := bt_r (a 4 c) w
        rw [iI_eq (by omega) (by omega) (by omega) (by omega)]
        rcases (show bt (a 4 c) w = 0 ∨ bt (a 4 c) w = 1 by omega) with e | e
        · rw [e, iI_no, if_neg (show ¬ (0 : Int) = 1 by omega), ref_ok]
          obtain ⟨a1, f1, g1, r1, s1⟩ := m_letIn (B := 1) (σ := a) c0 c1 w0 w1' hp.1 hp.2 e
          rw [f1]
          simp only [if_pos hcc, mqb, mqbd]
          have e50 : qset b 47 0 0 50 = a 4 := by rw [mset_ne (by omega)]; exact q3.symm
          rw [e50, m_or hp.1 hp.2 w0 w1' (Or.inr rfl) e, Int.one_mul]
          have fr : ∀ k, k ≠ 0 → k ≠ 4 → k ≠ 11 → qset a1 0 6 0 k = a k := fun k k0 k4 k11 => by rw [mset_ne k0]; exact g1 k k4 k11
          have r4 : ∀ x, qset a1 0 6 0 4 x = if x = c then a 4 c + pw w else a 4 x := fun x => by rw [mset_ne (by omega)]; exact r1 x
          have r11 : ∀ j, qset a1 0 6 0 11 j = a 11 j + if j = w then 1 else 0 := fun j => by rw [mset_ne (by omega)]; exact s1 j
          have b50 : ∀ x, qset (qset (qset b 47 0 0) 50 c (a 4 c + pw w)) 47 16 0 50 x = if x = c then a 4 c + pw w else a 4 x := fun x => by
            rw [mset_ne (by omega), mset_same, mset_ne (by omega), q3]
          have bfr : ∀ k, k ≠ 47 → k ≠ 50 → qset (qset (qset b 47 0 0) 50 c (a 4 c + pw w)) 47 16 0 k = b k := fun k k47 k50 => by rw [mset_ne k47, mset_ne k50, mset_ne k47]
          have b47 : ∀ j, qset (qset (qset b 47 0 0) 50 c (a 4 c + pw w)) 47 16 0 47 j = if j = 16 then 0 else if j = 0 then 0 else b 47 j := fun j => by
            rw [mset_same, mset_ne (by omega), mset_same]
          have had := add_r hp.1 hp.2 w0 w1' e
          refine ⟨0, _, _, _, _, rfl, rfl, ?_, fun _ => ?_, ?_, fun k k0 k1 => fr k (by omega) (by omega) (by omega), fun k hk => bfr k (by omega) (by omega)⟩
          · rw [b47, if_neg (by omega), if_pos rfl]; simp
          · rw [r4, b50]
          · refine ⟨⟨?_, ?_, ?_, ?_, ⟨?_, ?_, ?_, ?_, ?_, ?_⟩, ?_⟩, j2.fr (fr 2 (by omega) (by omega) (by omega)) (fun k _ _ => fr k (by omega) (by omega) (by omega)) (by rw [fr 27 (by omega) (by omega) (by omega)]) (bfr 56 (by omega) (by omega)), j3.fr (fun k _ _ => fr k (by omega) (by omega) (by omega)) (bfr 58 (by omega) (by omega)), ⟨?_, ?_, fun v v0 v1 => ?_, ?_, ?_⟩, ?_, ?_, ?_⟩
            · rw [fr 2 (by omega) (by omega) (by omega), bfr 48 (by omega) (by omega)]; exact q1
            · rw [fr 3 (by omega) (by omega) (by omega), bfr 49 (by omega) (by omega)]; exact q2
            · funext x; rw [r4, b50]
            · rw [fr 5 (by omega) (by omega) (by omega), bfr 51 (by omega) (by omega)]; exact q4
            · show KR (qset a1 0 6 0 2); rw [fr 2 (by omega) (by omega) (by omega)]; exact v1
            · show BR (qset a1 0 6 0 3); rw [fr 3 (by omega) (by omega) (by omega)]; exact v2
            · intro x x0 x1
              show 0 ≤ qset a1 0 6 0 4 x ∧ qset a1 0 6 0 4 x ≤ 15
              rw [r4]
              have : 0 ≤ a 4 x ∧ a 4 x ≤ 15 := v3 x x0 x1
              split <;> omega
            · show PR (qset a1 0 6 0 5); rw [fr 5 (by omega) (by omega) (by omega)]; exact v4
            · show WF (qset a1 0 6 0 2) (qset a1 0 6 0 4)
              rw [fr 2 (by omega) (by omega) (by omega)]
              intro x x0 x1 hx
              rw [r4, if_neg (fun z => e1 (by rw [← z]; exact hx))]
              exact v5 x x0 x1 hx
            · show DS (qset a1 0 6 0 5) (qset a1 0 6 0 4)
              rw [fr 5 (by omega) (by omega) (by omega)]
              intro x v x0 x1 v0 v1
              have h6 := v6 x v x0 x1 v0 v1
              unfold qbt at h6 ⊢
              rw [r4]
              by_cases ex : x = c
              · rw [if_pos ex, bt_add hp.1 hp.2 w0 w1' v0 v1 e]
                rw [ex] at h6 ⊢
                have h6 : bt (a 5 c) v ≤ bt (a 4 c) v := h6
                split <;> omega
              · rw [if_neg ex]; exact h6
            · rw [fr 2 (by omega) (by omega) (by omega), fr 3 (by omega) (by omega) (by omega)]; exact q6
            · rw [fr 1 (by omega) (by omega) (by omega), b47, if_neg (by omega), if_neg (by omega)]; exact j4.1
            · rw [fr 1 (by omega) (by omega) (by omega)]; have := j4.2.1; omega
            · rw [r11, fr 12 (by omega) (by omega) (by omega), fr 13 (by omega) (by omega) (by omega)]
              have := j4.2.2.1 v v0 v1
              split <;> omega
            · have hg := gs_add (u := 0) v3 c0 c1 w0 w1' e r4 (Or.inl rfl)
              have hl : a 11 0 - a 11 (0 + 2) - gs 0 (a 4) - (a 12 0 - a 12 (0 + 2)) - 2 * (a 13 0 - a 13 (0 + 2)) = 0 := j4.2.2.2.1
              show qset a1 0 6 0 11 0 - qset a1 0 6 0 11 (0 + 2) - gs 0 (qset a1 0 6 0 4) - (qset a1 0 6 0 12 0 - qset a1 0 6 0 12 (0 + 2)) - 2 * (qset a1 0 6 0 13 0 - qset a1 0 6 0 13 (0 + 2)) = 0
              rw [hg, r11, r11, fr 12 (by omega) (by omega) (by omega), fr 13 (by omega) (by omega) (by omega)]
              unfold dsg
              rcases (show w = 0 ∨ w = 1 ∨ w = 2 ∨ w = 3 by omega) with rfl | rfl | rfl | rfl <;> simp at hl ⊢ <;> omega
            · have hg := gs_add (u := 1) v3 c0 c1 w0 w1' e r4 (Or.inr rfl)
              have hl : a 11 1 - a 11 (1 + 2) - gs 1 (a 4) - (a 12 1 - a 12 (1 + 2)) - 2 * (a 13 1 - a 13 (1 + 2)) = 0 := j4.2.2.2.2
              show qset a1 0 6 0 11 1 - qset a1 0 6 0 11 (1 + 2) - gs 1 (qset a1 0 6 0 4) - (qset a1 0 6 0 12 1 - qset a1 0 6 0 12 (1 + 2)) - 2 * (qset a1 0 6 0 13 1 - qset a1 0 6 0 13 (1 + 2)) = 0
              rw [hg, r11, r11, fr 12 (by omega) (by omega) (by omega), fr 13 (by omega) (by omega) (by omega)]
              unfold dsg
              rcases (show w = 0 ∨ w = 1 ∨ w = 2 ∨ w = 3 by omega) with rfl | rfl | rfl | rfl <;> simp at hl ⊢ <;> omega
            · obtain ⟨x1, x2, x3, x4, x5, x6, x7⟩ := j5
              have a05 : qset a1 0 6 0 0 5 = a 0 5 := by rw [mset_same]; show (if (5 : Int) = 6 then 0 else a1 0 5) = _; rw [if_neg (by omega), g1 0 (by omega) (by omega)]
              have a06 : qset a1 0 6 0 0 6 = 0 := by rw [mset_same]; exact if_pos rfl
              unfold JS
              rw [a05, a06, b47, b47, b47, if_neg (show ¬ (15 : Int) = 16 by omega), if_neg (show ¬ (15 : Int) = 0 by omega), if_pos rfl, if_neg (show ¬ (19 : Int) = 16 by omega), if_neg (show ¬ (19 : Int) = 0 by omega), fr 38 (by omega) (by omega) (by omega)]
              refine ⟨x1, x2, rfl, by omega, x5, x6, fun k k0 k1 => ?_⟩
              rw [fr 40 (by omega) (by omega) (by omega), fr 39 (by omega) (by omega) (by omega), fr (42 + k.toNat) (by omega) (by omega) (by omega), bfr 61 (by omega) (by omega), bfr 62 (by omega) (by omega), bfr 63 (by omega) (by omega)]
              obtain ⟨y1, y2, y3, y4, y5⟩ := x7 k k0 k1
              exact ⟨y1, y2, fun z => ⟨(y3 z).1, (y3 z).2.1, y2.1⟩, y4, y5⟩
            · rw [fr 46 (by omega) (by omega) (by omega), bfr 59 (by omega) (by omega)]; exact j6
            · rw [fr 27 (by omega) (by omega) (by omega), b47, if_neg (by omega), if_neg (by omega)]; exact j7
        · rw [e, iI_yes, if_pos (show (1 : Int) = 1 from rfl), ref_no (by omega) (by omega)]
          simp only [if_pos hcc]
          exact PQ.no h (by simp) (by omega)
    · rw [noCell0 c0 c1, isCell1 c0 c1, Option.bind_some, Option.bind_some, iI_no, outs1 hk (isI_of (by omega) (by omega)) (isI_of (by omega) (by omega)) hww, Option.bind_some, iI_yes, with0 hk (isI_of (by omega) (by omega)) (isI_of (by omega) (by omega)) hww, Option.bind_some, iI_yes, iI_no, ref_no (by omega) (by omega)]
      exact PQ.no h (by simp) (by omega)
  · rw [noCell1 hc hcc, isCell0 hc hcc, Option.bind_some, Option.bind_some, iI_yes, m_within hk.1 hk.2 (by omega) (by omega) (by omega) (by omega), Option.bind_some, iI_no, ref_no (by omega) (by omega)]
    exact PQ.no h (by simp) (by omega)
theorem p_probe {t : Int} {a b : qSt} (h : J t a b) {c : Int} (hc : isI c) : PQ [(0, 0), (1, 1), (3, 2)] t a b (fX5_probe c a) (fX6_probe c b) := by
  obtain ⟨j1, j2, j3, j4, j5, j6, j7⟩ := id h
  unfold fX5_probe fX6_probe fX6_probe_c31 fX6_probe_c36
  by_cases hcc : 0 ≤ c ∧ c < 96
  · obtain ⟨c0, c1⟩ := id hcc
    obtain ⟨q1, q2, q3, q4, ⟨v1, v2, v3, v4, v5, v6⟩, q6⟩ := id j1
    obtain ⟨x1, x2, x3, x4, x5, x6, x7⟩ := id j5
    have hkr : 0 ≤ a 2 c ∧ a 2 c ≤ 3 := v1 c c0 c1
    rw [noCell0 c0 c1, isCell1 c0 c1, Option.bind_some, Option.bind_some, iI_no, iI_yes, if_pos hcc, if_pos hcc, ← q1, iI_eq (by omega) (by omega) (by omega) (by omega), iI_eq (by omega) (by omega) (by omega) (by omega), ← x5, iI_lt (by omega) (by omega) (by omega) (by omega), iI_eq (by omega) (by omega) (by omega) (by omega)]
    by_cases e1 : a 2 c = 1
    · rw [if_pos e1, if_pos e1, ref_no (by omega) (by omega)]
      exact PQ.no h (by simp) (by omega)
    · rw [if_neg e1, if_neg e1]
      by_cases e2 : a 38 3 < 4
      · have m04 : 0 ≤ a 38 3 ∧ a 38 3 < 4 := ⟨x6.1, e2⟩
        have z1 : qset a 0 6 0 38 3 = a 38 3 := by rw [mset_ne (by omega)]
        have z2 : qset b 47 0 0 47 19 = a 38 3 := by rw [mset_same]; show (if (19 : Int) = 0 then 0 else b 47 19) = _; rw [if_neg (by omega)]; exact x5.symm
        unfold fX1_setInto
        rw [if_pos e2, if_neg (show ¬ a 38 3 = 4 by omega), ref_ok, mqb, z1, iI_lt (by omega) (by omega) (by omega) (by omega), if_pos e2, if_pos m04, z2, if_pos m04]
        simp only [mqb, mqbd]
        generalize hn : a 38 3 = n at *
        have z3 : qset (qset a 0 6 0) 39 n c 38 3 = n := by rw [mset_ne (by omega), mset_ne (by omega)]; exact hn
        have z4 : qset (qset b 47 0 0) 61 n c 47 19 = n := by rw [mset_ne (by omega)]; exact z2
        rw [z3, z4]
        have fr : ∀ k, k ≠ 0 → k ≠ 38 → k ≠ 39 → qset (qset (qset a 0 6 0) 39 n c) 38 3 (n + 1) k = a k := fun k k0 k8 k9 => by rw [mset_ne k8, mset_ne k9, mset_ne k0]
        have g38 : qset (qset (qset a 0 6 0) 39 n c) 38 3 (n + 1) 38 3 = n + 1 := by rw [mset_same]; exact if_pos rfl
        have g39 : ∀ j, qset (qset (qset a 0 6 0) 39 n c) 38 3 (n + 1) 39 j = if j = n then c else a 39 j := fun j => by rw [mset_ne (by omega), mset_same, mset_ne (by omega)]
        have g0 : ∀ j, qset (qset (qset a 0 6 0) 39 n c) 38 3 (n + 1) 0 j = if j = 6 then 0 else a 0 j := fun j => by rw [mset_ne (by omega), mset_ne (by omega), mset_same]
        have bfr : ∀ k, k ≠ 47 → k ≠ 61 → qset (qset (qset (qset b 47 0 0) 61 n c) 47 19 (n + 1)) 47 16 0 k = b k := fun k k47 k61 => by rw [mset_ne k47, mset_ne k47, mset_ne k61, mset_ne k47]
        have b61 : ∀ j, qset (qset (qset (qset b 47 0 0) 61 n c) 47 19 (n + 1)) 47 16 0 61 j = if j = n then c else b 61 j := fun j => by rw [mset_ne (by omega), mset_ne (by omega), mset_same, mset_ne (by omega)]
        have b47 : ∀ j, qset (qset (qset (qset b 47 0 0) 61 n c) 47 19 (n + 1)) 47 16 0 47 j = if j = 16 then 0 else if j = 19 then n + 1 else if j = 0 then 0 else b 47 j := fun j => by
          simp only [mset_same]
          rw [mset_ne (by omega), mset_same]
        refine ⟨0, _, _, _, _, rfl, rfl, ?_, fun _ => ?_, ?_, fun k k0 k1 => fr k (by omega) (by omega) (by omega), fun k hk => bfr k (by omega) (by omega)⟩
        · rw [b47, if_neg (by omega), if_neg (by omega), if_pos rfl]; simp
        · rw [g38, b47, if_neg (by omega), if_pos rfl]
        · refine ⟨j1.fr (fun k _ _ => fr k (by omega) (by omega) (by omega)) (fun k _ _ => bfr k (by omega) (by omega)), j2.fr (fr 2 (by omega) (by omega) (by omega)) (fun k _ _ => fr k (by omega) (by omega) (by omega)) (by rw [fr 27 (by omega) (by omega) (by omega)]) (bfr 56 (by omega) (by omega)), j3.fr (fun k _ _ => fr k (by omega) (by omega) (by omega)) (bfr 58 (by omega) (by omega)), (j4.fr (fun k _ _ => fr k (by omega) (by omega) (by omega)) (fr 4 (by omega) (by omega) (by omega)) (by rw [fr 1 (by omega) (by omega) (by omega)]) (by rw [b47, if_neg (by omega), if_neg (by omega), if_neg (by omega)])).mono (by omega), ?_, ?_, ?_⟩
          · unfold JS
            rw [g0, g0, g38, b47, b47, b47, if_neg (show ¬ (5 : Int) = 6 by omega), if_pos (show (6 : Int) = 6 from rfl), if_neg (show ¬ (15 : Int) = 16 by omega), if_neg (show ¬ (15 : Int) = 19 by omega), if_neg (show ¬ (15 : Int) = 0 by omega), if_pos (show (16 : Int) = 16 from rfl), if_neg (show ¬ (19 : Int) = 16 by omega), if_pos (show (19 : Int) = 19 from rfl)]
            refine ⟨x1, x2, rfl, by omega, rfl, by omega, fun k k0 k1 => ?_⟩
            rw [g39, b61, fr 40 (by omega) (by omega) (by omega), fr (42 + k.toNat) (by omega) (by omega) (by omega), bfr 62 (by omega) (by omega), bfr 63 (by omega) (by omega)]
            obtain ⟨y1, y2, y3, y4, y5⟩ := x7 k k0 k1
            refine ⟨y1, y2, fun z => ?_, fun z => y4 (by omega), y5⟩
            by_cases ek : k = n
            · rw [if_pos ek, if_pos ek]; exact ⟨rfl, ⟨c0, c1⟩, y2.1⟩
            · rw [if_neg ek, if_neg ek]
              have := y3 (by omega)
              exact ⟨this.1, this.2.1, y2.1⟩
          · rw [fr 46 (by omega) (by omega) (by omega), bfr 59 (by omega) (by omega)]; exact j6
          · rw [fr 27 (by omega) (by omega) (by omega), b47, if_neg (by omega), if_neg (by omega), if_neg (by omega)]; exact j7
      · rw [if_neg e2, if_pos (show a 38 3 = 4 by omega), ref_no (by omega) (by omega)]
        exact PQ.no h (by simp) (by omega)
  · rw [noCell1 hc hcc, isCell0 hc hcc, Option.bind_some, Option.bind_some, iI_yes, iI_no, ref_no (by omega) (by omega)]
    exact PQ.no h (by simp) (by omega)
theorem p_fault {t : Int} {a b : qSt} (h : J t a b) {c w : Int} (hc : isI c) (hk : isI w) : PQ [(0, 0), (1, 1), (2, 2)] t a b (fX5_fault c w a) (fX6_fault c w b) := by
  obtain ⟨j1, j2, j3, j4, j5, j6, j7⟩ := id h
  unfold fX5_fault fX6_fault fX6_fault_c29
  by_cases hcc : 0 ≤ c ∧ c < 4
  · obtain ⟨c0, c1⟩ := id hcc
    rw [noBody0 c0 c1, with1 (by omega) (by omega) c0 (show c ≤ 3 by omega), Option.bind_some, Option.bind_some, iI_no, iI_yes]
    by_cases hww : -5 ≤ w ∧ w ≤ 5
    · rw [outs0 (by omega) (by omega) hww.1 hww.2, with1 (by omega) (by omega) hww.1 hww.2, Option.bind_some, Option.bind_some, iI_no, iI_yes, ref_ok]
      simp only [if_pos hcc, mqb]
      have e59 : qset b 47 0 0 59 = b 59 := mset_ne (by omega)
      refine ⟨0, _, _, _, _, rfl, rfl, ?_, fun _ => by rw [e59, j6], ?_, fun k k0 k1 => mset_ne (by omega), fun k hk => by rw [mset_ne (by omega), mset_ne (by omega)]⟩
      · rw [mset_ne (by omega), m_ref0]; simp
      · have fr : ∀ k, k ≠ 46 → qset a 46 c w k = a k := fun k hk => mset_ne hk
        have bfr : ∀ k, k ≠ 59 → k ≠ 47 → qset (qset b 47 0 0) 59 c w k = b k := fun k k9 k7 => by rw [mset_ne k9, mset_ne k7]
        have b47 : ∀ j, j ≠ 0 → qset (qset b 47 0 0) 59 c w 47 j = b 47 j := fun j hj => by rw [mset_ne (by omega), mset_same]; exact if_neg hj
        exact ⟨j1.fr (fun k _ _ => fr k (by omega)) (fun k _ _ => bfr k (by omega) (by omega)), j2.fr (fr 2 (by omega)) (fun k _ _ => fr k (by omega)) (by rw [fr 27 (by omega)]) (bfr 56 (by omega) (by omega)), j3.fr (fun k _ _ => fr k (by omega)) (bfr 58 (by omega) (by omega)), (j4.fr (fun k _ _ => fr k (by omega)) (fr 4 (by omega)) (by rw [fr 1 (by omega)]) (b47 17 (by omega))).mono (by omega), j5.fr (fun k _ _ => fr k (by omega)) ⟨by rw [fr 0 (by omega)], by rw [fr 0 (by omega)]⟩ (fun k _ _ => bfr k (by omega) (by omega)) ⟨b47 15 (by omega), b47 16 (by omega), b47 19 (by omega)⟩, by rw [mset_same, mset_same, e59, j6], by rw [fr 27 (by omega), b47 18 (by omega)]; exact j7⟩
    · rw [outs1 hk (isI_of (by omega) (by omega)) (isI_of (by omega) (by omega)) hww, with0 hk (isI_of (by omega) (by omega)) (isI_of (by omega) (by omega)) hww, Option.bind_some, Option.bind_some, iI_yes, iI_no, ref_no (by omega) (by omega)]
      exact PQ.no h (by simp) (by omega)
  · rw [noBody1 hc hcc, with0 hc (isI_of (by omega) (by omega)) (isI_of (by omega) (by omega)) (show ¬ (0 ≤ c ∧ c ≤ 3) by omega), Option.bind_some, Option.bind_some, iI_yes, iI_no, ref_no (by omega) (by omega)]
    exact PQ.no h (by simp) (by omega)
