theorem sm_upd {f g : Int → Int → Int} {c0 w0 d : Int} (h0 : 0 ≤ c0) (h2 : 0 ≤ w0) (h3 : w0 < 4) (h : ∀ c w, 0 ≤ c → c < 96 → 0 ≤ w → w < 4 → g c w = f c w + (if c = c0 ∧ w = w0 then d else 0)) : ∀ n : Nat, n ≤ 384 → sm g n = sm f n + if 4 * c0 + w0 < n then d else 0 := by
  intro n
  induction n with
  | zero => intro _; rw [if_neg (by omega)]; rfl
  | succ n ih =>
    intro hn
    show sm g n + g ((n / 4 : Nat) : Int) ((n % 4 : Nat) : Int) = sm f n + f ((n / 4 : Nat) : Int) ((n % 4 : Nat) : Int) + _
    rw [ih (by omega), h _ _ (by omega) (by omega) (by omega) (by omega)]
    by_cases e : 4 * c0 + w0 = n
    · rw [if_pos (show ((n / 4 : Nat) : Int) = c0 ∧ ((n % 4 : Nat) : Int) = w0 by omega), if_neg (by omega), if_pos (by omega)]; omega
    · rw [if_neg (show ¬ (((n / 4 : Nat) : Int) = c0 ∧ ((n % 4 : Nat) : Int) = w0) by omega)]
      by_cases e2 : 4 * c0 + w0 < n
      · rw [if_pos e2, if_pos (by omega)]; omega
      · rw [if_neg e2, if_neg (by omega)]; omega
theorem m_allCounts {a b : qSt} (h : JC a b) : fX6_allCounts b = some (a 27 2) := by
  unfold fX6_allCounts
  obtain ⟨s, e, p⟩ := mloop (P := fun i (n : Int) => n = sm (cq (b 56)) i.toNat) (F := fun f i n => fX6_allCounts_c4 b f n i) (R := fun n => some n) 384 (by omega) (by omega) (fun f n _ => by
    show fX6_allCounts_c4 b (f + 1) n 384 = _
    rw [fX6_allCounts_c4, if_pos (by rw [mI_le] <;> omega)]) (fun f i n i0 i1 hP => by
    have hr := cnt_r h (c := i / 4) (w := i % 4) (by omega) (by omega) (by omega) (by omega)
    rw [show 4 * (i / 4) + i % 4 = i by omega] at hr
    show ∃ s1, fX6_allCounts_c4 b (f + 1) n i = fX6_allCounts_c4 b f s1 (i + 1) ∧ _
    rw [fX6_allCounts_c4, if_neg (by rw [mI_le] <;> omega), if_pos ⟨i0, i1⟩, mqb, m_i2l (by omega) (by omega)]
    refine ⟨_, rfl, ?_⟩
    rw [hP, sm_step (c := i / 4) (w := i % 4) (by omega) (by omega) (by omega) (by omega)]
    unfold cq
    rw [show 4 * (i / 4) + i % 4 = i by omega]) (s := 0) rfl
  have e' : fX6_allCounts_c4 b qFU 0 0 = some s := e
  rw [e', p, h.2.1]
  rfl
theorem all_r {a b : qSt} (h : JC a b) : 0 ≤ a 27 2 ∧ a 27 2 ≤ 1000000 := by
  refine ⟨?_, h.2.2⟩
  rw [h.2.1]
  have := (sm_bound (f := cq (b 56)) (B := 1000000) (by omega) (n := 384) (fun c w c0 c1 w0 w1 => by have := cnt_r h c0 (by omega) w0 w1; unfold cq; omega)).1
  have key : ∀ n : Nat, n ≤ 384 → 0 ≤ sm (cq (b 56)) n := by
    intro n
    induction n with
    | zero => intro _; exact Int.le_refl _
    | succ n ih =>
      intro hn
      have h9 := (h.1 ((n / 4 : Nat) : Int) ((n % 4 : Nat) : Int) (by omega) (by omega) (by omega) (by omega)).2.1
      have := ih (by omega)
      show 0 ≤ sm (cq (b 56)) n + b 56 (4 * ((n / 4 : Nat) : Int) + ((n % 4 : Nat) : Int))
      omega
  exact key 384 (Nat.le_refl _)
theorem p_bring {t : Int} {a b : qSt} (h : J t a b) {c w n : Int} (hc : isI c) (hw : isI w) (hn : isI n) : PQ [(0, 0), (1, 1), (2, 2), (3, 3)] t a b (fX5_bring c w n a) (fX6_bring c w n b) := by
  obtain ⟨j1, j2, j3, j4, j5, j6, j7⟩ := id h
  have har := all_r j2
  unfold fX5_bring fX6_bring fX6_bring_c23 fX6_bring_c24 fX6_bring_c76 fX6_bring_c81
  by_cases hcc : 0 ≤ c ∧ c < 96
  · obtain ⟨c0, c1⟩ := id hcc
    rw [noCell0 c0 c1, isCell1 c0 c1, Option.bind_some, iI_no]
    simp only [Option.bind_some, iI_yes]
    by_cases hww : 0 ≤ w ∧ w ≤ 3
    · obtain ⟨w0, w1⟩ := id hww
      have w1' : w < 4 := by omega
      rw [outs0 (by omega) (by omega) w0 w1, with1 (by omega) (by omega) w0 w1, Option.bind_some, Option.bind_some, iI_no, iI_yes]
      by_cases hnn : 1 ≤ n ∧ n ≤ 100000
      · rw [outs0 (by omega) (by omega) hnn.1 hnn.2, with1 (by omega) (by omega) hnn.1 hnn.2, Option.bind_some, Option.bind_some, iI_no, iI_yes, if_pos hcc, if_pos hcc]
        obtain ⟨q1, q2, q3, q4, ⟨v1, v2, v3, v4, v5, v6⟩, q6⟩ := id j1
        have hkr : 0 ≤ a 2 c ∧ a 2 c ≤ 3 := v1 c c0 c1
        rw [← q1, iI_eq (by omega) (by omega) (by omega) (by omega), iI_eq (by omega) (by omega) (by omega) (by omega)]
        by_cases e1 : a 2 c = 1
        · rw [if_pos e1, if_pos e1, ref_no (by omega) (by omega)]
          exact PQ.no h (by simp) (by omega)
        · rw [if_neg e1, if_neg e1, m_allCounts j2, Option.bind_some, m_i2l (by omega) (by omega), iI_le (by omega) (by omega) (by omega) (by omega), iL_le0 (by omega) (by omega) (by omega) (by omega)]
          by_cases e2 : a 27 2 + n ≤ 1000000
          · rw [if_pos e2, if_pos e2, ref_ok]
            obtain ⟨x1, x2, x3, x4⟩ := j2.1 c w c0 c1 w0 w1'
            have e56 : qset b 47 0 0 56 = b 56 := mset_ne (by omega)
            have e30 : qset a 27 2 (a 27 2 + n) (30 + w.toNat) = a (30 + w.toNat) := mset_ne (by omega)
            have hi : 0 ≤ 4 * c + w ∧ 4 * c + w < 384 := by omega
            simp only [if_pos hcc, if_pos (show 0 ≤ w ∧ w < 4 from ⟨w0, w1'⟩), if_pos hi, mqb, e56, e30]
            have fr : ∀ k, k ≠ 27 → k ≠ 30 + w.toNat → qset (qset a 27 2 (a 27 2 + n)) (30 + w.toNat) c (a (30 + w.toNat) c + n) k = a k := fun k k7 k3 => by rw [mset_ne k3, mset_ne k7]
            have g30 : ∀ v x : Int, 0 ≤ v → v < 4 → qset (qset a 27 2 (a 27 2 + n)) (30 + w.toNat) c (a (30 + w.toNat) c + n) (30 + v.toNat) x = if x = c ∧ v = w then a (30 + w.toNat) c + n else a (30 + v.toNat) x := fun v x v0 v1 => by
              by_cases e : v = w
              · rw [e, mset_same]
                show (if x = c then _ else _) = _
                rw [e30]
                by_cases e3 : x = c
                · rw [if_pos e3, if_pos ⟨e3, rfl⟩]
                · rw [if_neg e3, if_neg (fun z => e3 z.1)]
              · rw [mset_ne (by omega), mset_ne (by omega), if_neg (fun z => e z.2)]
            have g27 : ∀ j, qset (qset a 27 2 (a 27 2 + n)) (30 + w.toNat) c (a (30 + w.toNat) c + n) 27 j = if j = 2 then a 27 2 + n else a 27 j := fun j => by rw [mset_ne (by omega), mset_same]
            have bfr : ∀ k, k ≠ 47 → k ≠ 56 → qset (qset b 47 0 0) 56 (4 * c + w) (b 56 (4 * c + w) + n) k = b k := fun k k7 k6 => by rw [mset_ne k6, mset_ne k7]
            have b56 : ∀ j, qset (qset b 47 0 0) 56 (4 * c + w) (b 56 (4 * c + w) + n) 56 j = if j = 4 * c + w then b 56 (4 * c + w) + n else b 56 j := fun j => by rw [mset_same, e56]
            have b47 : ∀ j, j ≠ 0 → qset (qset b 47 0 0) 56 (4 * c + w) (b 56 (4 * c + w) + n) 47 j = b 47 j := fun j hj => by rw [mset_ne (by omega), mset_same]; exact if_neg hj
            refine ⟨0, _, _, _, _, rfl, rfl, ?_, fun _ => ?_, ?_, fun k k0 k1 => fr k (by omega) (by omega), fun k hk => bfr k (by omega) (by omega)⟩
            · rw [mset_ne (by omega), m_ref0]; simp
            · rw [g30 w c w0 w1', if_pos ⟨rfl, rfl⟩, b56, if_pos rfl, x1]
            · refine ⟨j1.fr (fun k _ _ => fr k (by omega) (by omega)) (fun k _ _ => bfr k (by omega) (by omega)), ⟨fun x v xx0 xx1 v0 v1 => ?_, ?_, ?_⟩, j3.fr (fun k _ _ => fr k (by omega) (by omega)) (bfr 58 (by omega) (by omega)), (j4.fr (fun k _ _ => fr k (by omega) (by omega)) (fr 4 (by omega) (by omega)) (by rw [fr 1 (by omega) (by omega)]) (b47 17 (by omega))).mono (by omega), j5.fr (fun k _ _ => fr k (by omega) (by omega)) ⟨by rw [fr 0 (by omega) (by omega)], by rw [fr 0 (by omega) (by omega)]⟩ (fun k _ _ => bfr k (by omega) (by omega)) ⟨b47 15 (by omega), b47 16 (by omega), b47 19 (by omega)⟩, ?_, ?_⟩
              · rw [g30 v x v0 v1, b56, fr 2 (by omega) (by omega), fr (34 + v.toNat) (by omega) (by omega)]
                obtain ⟨y1, y2, y3, y4⟩ := j2.1 x v xx0 xx1 v0 v1
                by_cases e : x = c ∧ v = w
                · rw [if_pos e, if_pos (by omega), x1]
                  refine ⟨rfl, by omega, fun z => absurd z (by rw [e.1]; exact e1), y4⟩
                · rw [if_neg e, if_neg (by omega)]
                  exact ⟨y1, y2, y3, y4⟩
              · rw [g27, if_pos rfl, sm_upd (f := cq (b 56)) (c0 := c) (w0 := w) (d := n) c0 w0 w1' (fun x v x0 x1 v0 v1 => by
                  unfold cq
                  rw [b56]
                  by_cases e : x = c ∧ v = w
                  · rw [if_pos (by omega), if_pos e, show 4 * x + v = 4 * c + w by omega]
                  · rw [if_neg (by omega), if_neg e]; omega) 384 (Nat.le_refl _), if_pos (by omega), j2.2.1]
              · rw [g27, if_pos rfl]; exact e2
              · rw [fr 46 (by omega) (by omega), bfr 59 (by omega) (by omega)]; exact j6
              · rw [g27, if_neg (by omega), b47 18 (by omega)]; exact j7
          · rw [if_neg e2, if_neg e2, ref_no (by omega) (by omega)]
            exact PQ.no h (by simp) (by omega)
      · rw [outs1 hn (isI_of (by omega) (by omega)) (isI_of (by omega) (by omega)) hnn, with0 hn (isI_of (by omega) (by omega)) (isI_of (by omega) (by omega)) hnn, Option.bind_some, Option.bind_some, iI_yes, iI_no, iI_no, ref_no (by omega) (by omega)]
        exact PQ.no h (by simp) (by omega)
    · rw [outs1 hw (isI_of (by omega) (by omega)) (isI_of (by omega) (by omega)) hww, with0 hw (isI_of (by omega) (by omega)) (isI_of (by omega) (by omega)) hww, Option.bind_some, Option.bind_some, iI_yes, iI_no, iI_no, ref_no (by omega) (by omega)]
      exact PQ.no h (by simp) (by omega)
  · rw [noCell1 hc hcc, isCell0 hc hcc, Option.bind_some, iI_yes]
    simp only [Option.bind_some, iI_no]
    rw [ref_no (by omega) (by omega), m_within hw.1 hw.2 (by omega) (by omega) (by omega) (by omega), m_within hn.1 hn.2 (by omega) (by omega) (by omega) (by omega), Option.bind_some, Option.bind_some, ite_self, ite_self]
    exact PQ.no h (by simp) (by omega)
theorem PQ.val {codes : List (Int × Int)} {t : Int} {a b : qSt} {r : Int} (h : J t a b) (hc : (0, 0) ∈ codes) : PQ codes t a b (some (0, r, a)) (some (r, qset b 47 0 0)) :=
  ⟨0, r, a, r, _, rfl, rfl, by rw [m_ref0]; exact hc, fun _ => rfl, h.same (keepA.rf a) (keepB.ref b 0), fun _ _ _ => rfl, fun k hk => mset_ne (by omega)⟩
theorem p_cellOf {t : Int} {a b : qSt} (h : J t a b) {c k : Int} (hc : isI c) (hk : isI k) : PQ [(0, 0), (1, 1), (2, 2)] t a b (fX5_cellOf c k a) (fX6_cellOf c k b) := by
  obtain ⟨j1, j2, j3, j4, j5, j6, j7⟩ := id h
  unfold fX5_cellOf fX6_cellOf fX6_cellOf_c28
  by_cases hcc : 0 ≤ c ∧ c < 96
  · obtain ⟨c0, c1⟩ := id hcc
    rw [noCell0 c0 c1, isCell1 c0 c1, Option.bind_some, Option.bind_some, iI_no, iI_yes]
    obtain ⟨q1, q2, q3, q4, -, q6⟩ := id j1
    have hb : ∀ k, k ≠ 47 → qset b 47 0 0 k = b k := fun k hk => mset_ne hk
    simp only [if_pos hcc]
    rw [iI_eq hk.1 hk.2 (by omega) (by omega), iI_eq hk.1 hk.2 (by omega) (by omega), iI_eq hk.1 hk.2 (by omega) (by omega), iI_eq hk.1 hk.2 (by omega) (by omega), iI_eq hk.1 hk.2 (by omega) (by omega), iI_eq hk.1 hk.2 (by omega) (by omega), iI_eq hk.1 hk.2 (by omega) (by omega), iI_eq hk.1 hk.2 (by omega) (by omega)]
    by_cases hkk : 0 ≤ k ∧ k ≤ 7
    · rw [with1 (by omega) (by omega) hkk.1 hkk.2, Option.bind_some, iI_yes, ref_ok, hb 48 (by omega), hb 49 (by omega), hb 50 (by omega), hb 51 (by omega), hb 56 (by omega), iI_eq0 hk.1 hk.2, iI_eq hk.1 hk.2 (by omega) (by omega), iI_eq hk.1 hk.2 (by omega) (by omega), iI_eq hk.1 hk.2 (by omega) (by omega), ← q1, ← q2, ← q3, ← q4]
      by_cases k0 : k = 0
      · rw [if_pos k0, if_pos k0]; exact PQ.val h (by simp)
      rw [if_neg k0, if_neg k0]
      by_cases k1 : k = 1
      · rw [if_pos k1, if_pos k1]; exact PQ.val h (by simp)
      rw [if_neg k1, if_neg k1]
      by_cases k2 : k = 2
      · rw [if_pos k2, if_pos k2]; exact PQ.val h (by simp)
      rw [if_neg k2, if_neg k2]
      by_cases k3 : k = 3
      · rw [if_pos k3, if_pos k3]; exact PQ.val h (by simp)
      rw [if_neg k3, if_neg k3]
      have e := (j2.1 c (k - 4) c0 c1 (by omega) (by omega)).1
      rw [if_pos (show 0 ≤ 4 * c + k - 4 ∧ 4 * c + k - 4 < 384 by omega), show 4 * c + k - 4 = 4 * c + (k - 4) by omega, ← e]
      have go : PQ [(0, 0), (1, 1), (2, 2)] t a b (some (0, a (30 + (k - 4).toNat) c, a)) (some (a (30 + (k - 4).toNat) c, qset b 47 0 0)) := PQ.val h (by simp)
      simp only [if_pos (show 0 ≤ k - 4 ∧ k - 4 < 4 by omega)]
      rcases (show k = 4 ∨ k = 5 ∨ k = 6 ∨ k = 7 by omega) with e4 | e4 | e4 | e4
      · rw [if_pos e4]; exact go
      · rw [if_neg (show ¬ k = 4 by omega), if_pos e4]; exact go
      · rw [if_neg (show ¬ k = 4 by omega), if_neg (show ¬ k = 5 by omega), if_pos e4]; exact go
      · rw [if_neg (show ¬ k = 4 by omega), if_neg (show ¬ k = 5 by omega), if_neg (show ¬ k = 6 by omega), if_pos e4]; exact go
    · rw [with0 hk (isI_of (by omega) (by omega)) (isI_of (by omega) (by omega)) hkk, Option.bind_some, iI_no, ref_no (by omega) (by omega), if_neg (show ¬ k = 0 by omega), if_neg (show ¬ k = 1 by omega), if_neg (show ¬ k = 2 by omega), if_neg (show ¬ k = 3 by omega), if_neg (show ¬ k = 4 by omega), if_neg (show ¬ k = 5 by omega), if_neg (show ¬ k = 6 by omega), if_neg (show ¬ k = 7 by omega)]
      exact PQ.no h (by simp) (by omega)
  · rw [noCell1 hc hcc, isCell0 hc hcc, Option.bind_some, Option.bind_some, iI_yes, iI_no, ref_no (by omega) (by omega)]
    exact PQ.no h (by simp) (by omega)
theorem p_bodyOf {t : Int} {a b : qSt} (h : J t a b) {c k : Int} (hc : isI c) (hk : isI k) : PQ [(0, 0), (1, 1), (2, 2)] t a b (fX5_bodyOf c k a) (fX6_bodyOf c k b) := by
  obtain ⟨j1, j2, j3, j4, j5, j6, j7⟩ := id h
  unfold fX5_bodyOf fX6_bodyOf fX6_bodyOf_c28
  by_cases hcc : 0 ≤ c ∧ c < 4
  · obtain ⟨c0, c1⟩ := id hcc
    rw [noBody0 c0 c1, with1 (by omega) (by omega) c0 (show c ≤ 3 by omega), Option.bind_some, Option.bind_some, iI_no, iI_yes]
    obtain ⟨x1, x2, x3⟩ := j3 c c0 c1
    have hb : ∀ k, k ≠ 47 → qset b 47 0 0 k = b k := fun k hk => mset_ne hk
    simp only [if_pos hcc]
    rw [iI_eq hk.1 hk.2 (by omega) (by omega), iI_eq hk.1 hk.2 (by omega) (by omega), iI_eq hk.1 hk.2 (by omega) (by omega), iI_eq hk.1 hk.2 (by omega) (by omega), iI_eq hk.1 hk.2 (by omega) (by omega), iI_eq hk.1 hk.2 (by omega) (by omega)]
    by_cases hkk : 0 ≤ k ∧ k ≤ 5
    · rw [with1 (by omega) (by omega) hkk.1 hkk.2, Option.bind_some, iI_yes, ref_ok, mqb, hb 58 (by omega), hb 59 (by omega), iI_eq0 hk.1 hk.2, iI_le (by omega) (by omega) hk.1 hk.2]
      by_cases k0 : k = 0
      · rw [if_pos k0, if_pos k0, m_cellsOfBody j1.2.2.2.2.1.2.1 (by omega) (by omega), Option.bind_some, m_cellsOf (by rw [hb 49 (by omega), ← j1.2.1]; exact j1.2.2.2.2.1.2.1) (by omega) (by omega), Option.bind_some, hb 49 (by omega), ← j1.2.1]
        exact PQ.val h (by simp)
      rw [if_neg k0, if_neg k0]
      by_cases k4 : 4 ≤ k
      · rw [if_pos k4, if_pos (show 0 ≤ 3 * c + k - 3 ∧ 3 * c + k - 3 < 12 by omega), if_pos (show 0 ≤ 3 * c ∧ 3 * c < 12 by omega), if_neg (show ¬ k = 1 by omega), if_neg (show ¬ k = 2 by omega), if_neg (show ¬ k = 3 by omega), ← x1, ← j6]
        by_cases e4 : k = 4
        · rw [if_pos e4, show 3 * c + k - 3 = 3 * c + 1 by omega, ← x2]; exact PQ.val h (by simp)
        · rw [if_neg e4, if_pos (show k = 5 by omega), show 3 * c + k - 3 = 3 * c + 2 by omega, ← x3]; exact PQ.val h (by simp)
      · rw [if_neg k4, if_pos (show 0 ≤ 3 * c + k - 1 ∧ 3 * c + k - 1 < 12 by omega)]
        rcases (show k = 1 ∨ k = 2 ∨ k = 3 by omega) with e4 | e4 | e4
        · rw [if_pos e4, show 3 * c + k - 1 = 3 * c by omega, ← x1]; exact PQ.val h (by simp)
        · rw [if_neg (show ¬ k = 1 by omega), if_pos e4, show 3 * c + k - 1 = 3 * c + 1 by omega, ← x2]; exact PQ.val h (by simp)
        · rw [if_neg (show ¬ k = 1 by omega), if_neg (show ¬ k = 2 by omega), if_pos e4, show 3 * c + k - 1 = 3 * c + 2 by omega, ← x3]; exact PQ.val h (by simp)
    · rw [with0 hk (isI_of (by omega) (by omega)) (isI_of (by omega) (by omega)) hkk, Option.bind_some, iI_no, ref_no (by omega) (by omega), if_neg (show ¬ k = 0 by omega), if_neg (show ¬ k = 1 by omega), if_neg (show ¬ k = 2 by omega), if_neg (show ¬ k = 3 by omega), if_neg (show ¬ k = 4 by omega), if_neg (show ¬ k = 5 by omega)]
      exact PQ.no h (by simp) (by omega)
  · rw [noBody1 hc hcc, with0 hc (isI_of (by omega) (by omega)) (isI_of (by omega) (by omega)) (show ¬ (0 ≤ c ∧ c ≤ 3) by omega), Option.bind_some, Option.bind_some, iI_yes, iI_no, ref_no (by omega) (by omega)]
    exact PQ.no h (by simp) (by omega)
