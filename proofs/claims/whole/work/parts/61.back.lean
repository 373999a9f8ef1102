/-- one step back of the class -/
theorem cls_back {a : qSt} (hW : WOK 1 a) (hp : 0 ≤ a 38 3 ∧ a 38 3 ≤ 4) (hr : ∀ k, 0 ≤ k → k < a 38 3 → 1 ≤ a 40 k ∧ a 40 k ≤ 5000) (k37 : Int → Int → qSt → Option (Int × Int × qSt)) (x1 i : Int) : ∃ a1, (qbd (fX3_undoStep 1 a) fun (r46 : Int) (σ1 : qSt) => (qbd (fX1_loseLatest σ1) fun (r53 : Int) (σ2 : qSt) => (qb (qset σ2 0 5 ((σ2 0 5) - 1)) fun (σ3 : qSt) => (qb (qset σ3 0 6 ((σ3 0 6) - 1)) fun (σ4 : qSt) => (k37 x1 (i + 1) σ4))))) = k37 x1 (i + 1) a1 ∧ (∀ k, k ≠ 0 → k ≠ 1 → (k < 4 ∨ 13 < k) → k ≠ 40 → a1 k = a k) ∧ (∀ j, a1 0 j = if j = 6 then a 0 6 - 1 else if j = 5 then a 0 5 - 1 else a 0 j) ∧ a1 1 12 = a 1 12 - mn (upP (a 2) (a 4)) ∧ (∀ x, a1 4 x = if 0 ≤ x ∧ x < 96 then backP (a 2) (a 4) x else a 4 x) ∧ (∀ x, a1 5 x = if 0 ≤ x ∧ x < 96 then backD (a 2) (a 4) (a 5) x else a 5 x) ∧ (∀ b, 0 ≤ b → a1 8 b = a 8 b - sm (hN (a 2) (a 3) (qbt (t2r (a 4))) b) 384 ∧ a1 9 b = a 9 b - sm (hR (a 2) (a 3) (qbt (t2r (a 4))) b) 384 ∧ a1 10 b = a 10 b - sm (hU (a 2) (a 3) (qbt (t2r (a 4))) b) 384) ∧ (∀ u, u = 0 ∨ u = 1 → LA 1 a1 u = LA 1 a u) ∧ LB 1 400 a a1 ∧ ∀ k, 0 ≤ k → k < 4 → a1 40 k = a 40 k - (if k < a 38 3 then 1 else 0) := by
  obtain ⟨s1, e1, f1, g1, c1, n1, l1, lb0, lb1⟩ := m_undoStep (B := 1) hW
  have f1 : ∀ k, k ≠ 1 → (k < 4 ∨ 13 < k) → s1 k = a k := f1
  have g4 : ∀ x, s1 4 x = if 0 ≤ x ∧ x < 96 then backP (a 2) (a 4) x else a 4 x := fun x => (g1 x).1
  have g5 : ∀ x, s1 5 x = if 0 ≤ x ∧ x < 96 then backD (a 2) (a 4) (a 5) x else a 5 x := fun x => (g1 x).2
  have c1 : ∀ j, s1 1 j = if j = 12 then a 1 12 - mn (upP (a 2) (a 4)) else a 1 j := c1
  have s38 : s1 38 = a 38 := f1 38 (by omega) (by omega)
  have s40 : s1 40 = a 40 := f1 40 (by omega) (by omega)
  obtain ⟨s2, e2, f2, g2⟩ := m_loseLatest (σ := s1) (by rw [s38]; exact hp.1) (by rw [s38]; exact hp.2) (fun k k0 k1 => by
    rw [s38] at k1
    rw [s40]
    exact hr k k0 k1)
  rw [s38, s40] at g2
  rw [e1, mqbd, e2, mqbd, mqb, mqb]
  have s20 : s2 0 = a 0 := by rw [f2 0 (by omega)]; exact f1 0 (by omega) (by omega)
  have z0 : ∀ j, qset (qset s2 0 5 (s2 0 5 - 1)) 0 6 (qset s2 0 5 (s2 0 5 - 1) 0 6 - 1) 0 j = if j = 6 then a 0 6 - 1 else if j = 5 then a 0 5 - 1 else a 0 j := fun j => by
    simp only [mset_same, s20]
    rw [if_neg (show ¬ (6 : Int) = 5 by omega)]
  have F0 : ∀ k, k ≠ 0 → qset (qset s2 0 5 (s2 0 5 - 1)) 0 6 (qset s2 0 5 (s2 0 5 - 1) 0 6 - 1) k = s2 k := fun k k0 => by rw [mset_ne k0, mset_ne k0]
  generalize qset (qset s2 0 5 (s2 0 5 - 1)) 0 6 (qset s2 0 5 (s2 0 5 - 1) 0 6 - 1) = s3 at z0 F0 ⊢
  have F : ∀ k, k ≠ 0 → k ≠ 40 → s3 k = s1 k := fun k k0 k1 => by rw [F0 k k0]; exact f2 k k1
  refine ⟨s3, rfl, fun k k0 k1 k2 k3 => by rw [F k k0 k3]; exact f1 k k1 k2, z0, ?_, fun x => ?_, fun x => ?_, fun b b0 => ?_, fun u hu => ?_, ?_, fun k k0 k1 => ?_⟩
  · rw [F 1 (by omega) (by omega), c1, if_pos rfl]
  · rw [F 4 (by omega) (by omega)]; exact g4 x
  · rw [F 5 (by omega) (by omega)]; exact g5 x
  · rw [F 8 (by omega) (by omega), F 9 (by omega) (by omega), F 10 (by omega) (by omega)]; exact n1 b b0
  · rw [← l1 u hu]
    show (s3 11 u - s3 11 (u + 2)) - gs u (s3 4) - (s3 12 u - s3 12 (u + 2)) - 2 * (s3 13 u - s3 13 (u + 2)) = (s1 11 u - s1 11 (u + 2)) - gs u (s1 4) - (s1 12 u - s1 12 (u + 2)) - 2 * (s1 13 u - s1 13 (u + 2))
    rw [F 11 (by omega) (by omega), F 12 (by omega) (by omega), F 13 (by omega) (by omega), F 4 (by omega) (by omega)]
  · show (-400 ≤ s3 1 12 - a 1 12 ∧ s3 1 12 - a 1 12 ≤ 400) ∧ ∀ w, 0 ≤ w → w < 4 → (-400 ≤ s3 11 w - a 11 w ∧ s3 11 w - a 11 w ≤ 400) ∧ (-400 ≤ s3 12 w - a 12 w ∧ s3 12 w - a 12 w ≤ 400) ∧ (-400 ≤ s3 13 w - a 13 w ∧ s3 13 w - a 13 w ≤ 400)
    rw [F 1 (by omega) (by omega), F 11 (by omega) (by omega), F 12 (by omega) (by omega), F 13 (by omega) (by omega)]
    exact ⟨lb0, lb1⟩
  · rw [F0 40 (by omega)]; exact g2 k k0 k1
/-- one step back of the reference -/
theorem ref_back {b : qSt} (v1 : KR (b 48)) (v2 : BR (b 49)) (v3 : PR (b 50)) (v4 : PR (b 51)) (v5 : WF (b 48) (b 50)) (v6 : DS (b 51) (b 50)) (hp : 0 ≤ b 47 19 ∧ b 47 19 ≤ 4) (k39 : Int → Int → qSt → Option (Int × qSt)) (x1 i : Int) : ∃ b1, (qbd (fX6_retreat b) fun (r45 : Int) (σ2 : qSt) => (fX6_back_c50 k39 qFU x1 i 0 σ2)) = k39 x1 (i + 1) b1 ∧ (∀ k, k ≠ 47 → k ≠ 50 → k ≠ 51 → k ≠ 52 → k ≠ 53 → k ≠ 58 → k ≠ 60 → k ≠ 62 → b1 k = b k) ∧ (∀ j, b1 47 j = if j = 16 then b 47 16 - 1 else if j = 15 then b 47 15 - 1 else if j = 17 then b 47 17 - mn (upP (b 48) (b 50)) else if j = 14 then mn (upP (b 48) (b 50)) else b 47 j) ∧ (∀ x, b1 50 x = if 0 ≤ x ∧ x < 96 then backP (b 48) (b 50) x else b 50 x) ∧ (∀ x, b1 51 x = if 0 ≤ x ∧ x < 96 then backD (b 48) (b 50) (b 51) x else b 51 x) ∧ (∀ k, 0 ≤ k → k < 4 → b1 58 (3 * k) = b 58 (3 * k) - sm (hN (b 48) (b 49) (qbt (t2r (b 50))) k) 384 ∧ b1 58 (3 * k + 1) = b 58 (3 * k + 1) - sm (hR (b 48) (b 49) (qbt (t2r (b 50))) k) 384 ∧ b1 58 (3 * k + 2) = b 58 (3 * k + 2) - sm (hU (b 48) (b 49) (qbt (t2r (b 50))) k) 384) ∧ ∀ k, 0 ≤ k → k < 4 → b1 62 k = b 62 k - (if k < b 47 19 then 1 else 0) := by
  obtain ⟨u1, e3, f3, c3, g3, n3⟩ := m_retreat (σ := b) v1 v2 v3 v4 v5 v6
  have h50 : ∀ x, u1 50 x = if 0 ≤ x ∧ x < 96 then backP (b 48) (b 50) x else b 50 x := fun x => (g3 x).1
  have h51 : ∀ x, u1 51 x = if 0 ≤ x ∧ x < 96 then backD (b 48) (b 50) (b 51) x else b 51 x := fun x => (g3 x).2
  obtain ⟨u2, e4, f4, g4⟩ := m_subPush (σ := u1) k39 x1 i
  rw [e3, mqbd, e4, mqb, mqb, mqb]
  have y47 : ∀ j, u2 47 j = if j = 14 then mn (upP (b 48) (b 50)) else b 47 j := fun j => by rw [f4 47 (by omega)]; exact c3 j
  have mnr := mn_r (upP (b 48) (b 50))
  have z47 : ∀ j, qset (qset (qset u2 47 17 (u2 47 17 - qi2l (u2 47 14))) 47 15 (qset u2 47 17 (u2 47 17 - qi2l (u2 47 14)) 47 15 - 1)) 47 16 (qset (qset u2 47 17 (u2 47 17 - qi2l (u2 47 14))) 47 15 (qset u2 47 17 (u2 47 17 - qi2l (u2 47 14)) 47 15 - 1) 47 16 - 1) 47 j = if j = 16 then b 47 16 - 1 else if j = 15 then b 47 15 - 1 else if j = 17 then b 47 17 - mn (upP (b 48) (b 50)) else if j = 14 then mn (upP (b 48) (b 50)) else b 47 j := fun j => by
    have w17 : u2 47 17 = b 47 17 := y47 17
    have w16 : u2 47 16 = b 47 16 := y47 16
    have w15 : u2 47 15 = b 47 15 := y47 15
    have w14 : u2 47 14 = mn (upP (b 48) (b 50)) := y47 14
    simp only [mset_same]
    rw [w17, w14, w15, w16, m_i2l (by omega) (by omega), y47 j, if_neg (show ¬ (15 : Int) = 17 by omega), if_neg (show ¬ (16 : Int) = 17 by omega), if_neg (show ¬ (16 : Int) = 15 by omega)]
  have zf : ∀ k, k ≠ 47 → qset (qset (qset u2 47 17 (u2 47 17 - qi2l (u2 47 14))) 47 15 (qset u2 47 17 (u2 47 17 - qi2l (u2 47 14)) 47 15 - 1)) 47 16 (qset (qset u2 47 17 (u2 47 17 - qi2l (u2 47 14))) 47 15 (qset u2 47 17 (u2 47 17 - qi2l (u2 47 14)) 47 15 - 1) 47 16 - 1) k = u2 k := fun k k0 => by rw [mset_ne k0, mset_ne k0, mset_ne k0]
  generalize qset (qset (qset u2 47 17 (u2 47 17 - qi2l (u2 47 14))) 47 15 (qset u2 47 17 (u2 47 17 - qi2l (u2 47 14)) 47 15 - 1)) 47 16 (qset (qset u2 47 17 (u2 47 17 - qi2l (u2 47 14))) 47 15 (qset u2 47 17 (u2 47 17 - qi2l (u2 47 14)) 47 15 - 1) 47 16 - 1) = u3 at z47 zf ⊢
  have z62 : u3 62 = b 62 := by rw [zf 62 (by omega), f4 62 (by omega), f3 62 (by omega) (by omega) (by omega) (by omega) (by omega) (by omega)]
  have z19 : u3 47 19 = b 47 19 := by rw [z47, if_neg (by omega), if_neg (by omega), if_neg (by omega), if_neg (by omega)]
  obtain ⟨b1, e5, f5, g5⟩ := m_loseM (σ := u3) k39 x1 i (by rw [z19]; exact hp.1) (by rw [z19]; exact hp.2)
  rw [z19, z62] at g5
  refine ⟨b1, e5, fun k k1 k2 k3 k4 k5 k6 k7 k8 => by rw [f5 k k8, zf k k1, f4 k k6, f3 k k1 k2 k3 k4 k5 k7], fun j => by rw [f5 47 (by omega)]; exact z47 j, fun x => by rw [f5 50 (by omega), zf 50 (by omega), f4 50 (by omega)]; exact h50 x, fun x => by rw [f5 51 (by omega), zf 51 (by omega), f4 51 (by omega)]; exact h51 x, fun k k0 k1 => ?_, g5⟩
  obtain ⟨y1, y2, y3⟩ := n3 k k0 k1
  rw [f5 58 (by omega), zf 58 (by omega), g4, g4, g4, if_pos (by omega), if_pos (by omega), if_pos (by omega), f3 58 (by omega) (by omega) (by omega) (by omega) (by omega) (by omega), y1, y2, y3]
  exact ⟨rfl, rfl, rfl⟩
theorem back_two {D : Int} {a b : qSt} (h : JD D a b) (hs : 1 ≤ a 0 6) (k37 : Int → Int → qSt → Option (Int × Int × qSt)) (k39 : Int → Int → qSt → Option (Int × qSt)) (x1 i : Int) : ∃ a1 b1, (qbd (fX3_undoStep 1 a) fun (r46 : Int) (σ1 : qSt) => (qbd (fX1_loseLatest σ1) fun (r53 : Int) (σ2 : qSt) => (qb (qset σ2 0 5 ((σ2 0 5) - 1)) fun (σ3 : qSt) => (qb (qset σ3 0 6 ((σ3 0 6) - 1)) fun (σ4 : qSt) => (k37 x1 (i + 1) σ4))))) = k37 x1 (i + 1) a1 ∧ (qbd (fX6_retreat b) fun (r45 : Int) (σ2 : qSt) => (fX6_back_c50 k39 qFU x1 i 0 σ2)) = k39 x1 (i + 1) b1 ∧ JD (D + 400) a1 b1 ∧ a1 0 6 = a 0 6 - 1 ∧ (∀ k, 47 ≤ k → a1 k = a k) ∧ (∀ k, k < 47 ∨ 64 ≤ k → b1 k = b k) ∧ b1 47 0 = b 47 0 := by
  obtain ⟨⟨q1, q2, q3, q4, hW, q6⟩, j2, j3, ⟨m1, m2, m3, m4, m5⟩, ⟨x1', x2, x3, x4, x5, x6, x7⟩, j6, j7⟩ := h
  obtain ⟨v1, v2, v3, v4, v5, v6⟩ := id hW
  have v1 : KR (a 2) := v1
  have v2 : BR (a 3) := v2
  have v3 : PR (a 4) := v3
  have v4 : PR (a 5) := v4
  have v5 : WF (a 2) (a 4) := v5
  have v6 : DS (a 5) (a 4) := v6
  obtain ⟨a1, e1, f1, c1, n1, g4, g5, p1, l1, ⟨lb0, lb1⟩, r1⟩ := cls_back hW x6 (fun k k0 k1 => by have := x7 k k0 (by omega); have := (this.2.2.1 k1).2.2; omega) k37 x1 i
  have lb0 : -400 ≤ a1 1 12 - a 1 12 ∧ a1 1 12 - a 1 12 ≤ 400 := lb0
  have lb1 : ∀ w, 0 ≤ w → w < 4 → (-400 ≤ a1 11 w - a 11 w ∧ a1 11 w - a 11 w ≤ 400) ∧ (-400 ≤ a1 12 w - a 12 w ∧ a1 12 w - a 12 w ≤ 400) ∧ (-400 ≤ a1 13 w - a 13 w ∧ a1 13 w - a 13 w ≤ 400) := lb1
  obtain ⟨b1, e2, f2, c2, h50, h51, p2, r2⟩ := ref_back (b := b) (by rw [← q1]; exact v1) (by rw [← q2]; exact v2) (by rw [← q3]; exact v3) (by rw [← q4]; exact v4) (by rw [← q1, ← q3]; exact v5) (by rw [← q4, ← q3]; exact v6) (by rw [← x5]; exact x6) k39 x1 i
  rw [← q1, ← q3] at h50
  rw [← q1, ← q3, ← q4] at h51
  rw [← q1, ← q2, ← q3] at p2
  rw [← q1, ← q3] at c2
  rw [← x5] at r2
  have A2 : a1 2 = a 2 := f1 2 (by omega) (by omega) (by omega) (by omega)
  have A3 : a1 3 = a 3 := f1 3 (by omega) (by omega) (by omega) (by omega)
  have A38 : a1 38 = a 38 := f1 38 (by omega) (by omega) (by omega) (by omega)
  have A39 : a1 39 = a 39 := f1 39 (by omega) (by omega) (by omega) (by omega)
  have A27 : a1 27 = a 27 := f1 27 (by omega) (by omega) (by omega) (by omega)
  have A46 : a1 46 = a 46 := f1 46 (by omega) (by omega) (by omega) (by omega)
  have B48 : b1 48 = b 48 := f2 48 (by omega) (by omega) (by omega) (by omega) (by omega) (by omega) (by omega) (by omega)
  have B49 : b1 49 = b 49 := f2 49 (by omega) (by omega) (by omega) (by omega) (by omega) (by omega) (by omega) (by omega)
  have B56 : b1 56 = b 56 := f2 56 (by omega) (by omega) (by omega) (by omega) (by omega) (by omega) (by omega) (by omega)
  have B59 : b1 59 = b 59 := f2 59 (by omega) (by omega) (by omega) (by omega) (by omega) (by omega) (by omega) (by omega)
  have B61 : b1 61 = b 61 := f2 61 (by omega) (by omega) (by omega) (by omega) (by omega) (by omega) (by omega) (by omega)
  have B63 : b1 63 = b 63 := f2 63 (by omega) (by omega) (by omega) (by omega) (by omega) (by omega) (by omega) (by omega)
  have E4 : a1 4 = b1 50 := funext fun x => by rw [g4, h50, q3]
  have E5 : a1 5 = b1 51 := funext fun x => by rw [g5, h51, q4]
  refine ⟨a1, b1, e1, e2, ⟨⟨?_, ?_, E4, E5, ⟨?_, ?_, ?_, ?_, ?_, ?_⟩, ?_⟩, j2.fr A2 (fun k k0 k1 => f1 k (by omega) (by omega) (by omega) (by omega)) (by rw [A27]) B56, fun k k0 k1 => ?_, ⟨?_, ?_, fun w w0 w1 => ?_, ?_, ?_⟩, ?_, ?_, ?_⟩, ?_, fun k k0 => f1 k (by omega) (by omega) (by omega) (by omega), fun k k0 => f2 k (by omega) (by omega) (by omega) (by omega) (by omega) (by omega) (by omega) (by omega), ?_⟩
  · rw [A2, B48]; exact q1
  · rw [A3, B49]; exact q2
  · show KR (a1 2); rw [A2]; exact v1
  · show BR (a1 3); rw [A3]; exact v2
  · show PR (a1 4); exact row_PR (backP_PR _ _) g4
  · show PR (a1 5); exact row_PR (backD_PR _ _ _) g5
  · show WF (a1 2) (a1 4); rw [A2]; exact row_WF (backP_WF _ _) g4
  · show DS (a1 5) (a1 4); exact row_DS (back_DS v3 v4 v6) g5 g4
  · rw [A2, A3]; exact q6
  · obtain ⟨y1, y2, y3⟩ := p1 k k0
    obtain ⟨z1, z2, z3⟩ := p2 k k0 k1
    obtain ⟨w1, w2, w3⟩ := j3 k k0 k1
    rw [y1, y2, y3, z1, z2, z3, w1, w2, w3]
    exact ⟨rfl, rfl, rfl⟩
  · rw [n1, c2, if_neg (by omega), if_neg (by omega), if_pos rfl, m1]
  · omega
  · have := m3 w w0 w1
    have := lb1 w w0 w1
    omega
  · rw [l1 0 (Or.inl rfl)]; exact m4
  · rw [l1 1 (Or.inr rfl)]; exact m5
  · unfold JS
    have z05 : a1 0 5 = a 0 5 - 1 := by rw [c1, if_neg (by omega), if_pos rfl]
    have z06 : a1 0 6 = a 0 6 - 1 := by rw [c1, if_pos rfl]
    have w15 : b1 47 15 = b 47 15 - 1 := by rw [c2, if_neg (by omega), if_pos rfl]
    have w16 : b1 47 16 = b 47 16 - 1 := by rw [c2, if_pos rfl]
    have w19 : b1 47 19 = b 47 19 := by rw [c2, if_neg (by omega), if_neg (by omega), if_neg (by omega), if_neg (by omega)]
    rw [z05, z06, w15, w16, w19, A38]
    refine ⟨by omega, by omega, by omega, by omega, x5, x6, fun k k0 k1 => ?_⟩
    obtain ⟨y1, y2, y3, y4, y5⟩ := x7 k k0 k1
    have r11 := r1 k k0 k1
    have r21 := r2 k k0 k1
    rw [A39, B61, r11, r21, f1 (42 + k.toNat) (by omega) (by omega) (by omega) (by omega), B63]
    refine ⟨by rw [y1], ?_, fun z => ⟨(y3 z).1, (y3 z).2.1, ?_⟩, fun z => ?_, fun j j0 j1 => ?_⟩
    · split
      · rename_i z; have := (y3 z).2.2; omega
      · rename_i z; have := y4 (by omega); omega
    · rw [if_pos z]; have := (y3 z).2.2; omega
    · rw [if_neg (by omega), y4 z]; rfl
    · exact y5 j j0 (by split at j1 <;> omega)
  · rw [A46, B59]; exact j6
  · rw [A27, c2, if_neg (by omega), if_neg (by omega), if_neg (by omega), if_neg (by omega)]; exact j7
  · rw [c1, if_pos rfl]
  · rw [c2, if_neg (by omega), if_neg (by omega), if_neg (by omega), if_neg (by omega)]
theorem back_loop {N : Int} (hN : N ≤ 200) : ∀ (n f : Nat) (i D : Int) (a b : qSt), i + n = N → n < f → 0 ≤ i → JD D a b → n ≤ a 0 6 → ∃ a' b', fX5_back_c37 f N i a = some (0, a' 0 5, a') ∧ fX6_back_c39 f N i b = some (b' 47 15, b') ∧ JD (D + 400 * n) a' b' ∧ (∀ k, 47 ≤ k → a' k = a k) ∧ (∀ k, k < 47 ∨ 64 ≤ k → b' k = b k) ∧ b' 47 0 = b 47 0 := by
  intro n
  induction n with
  | zero =>
    intro f i D a b h1 h2 h3 h4 h5
    obtain ⟨f, rfl⟩ : ∃ f', f = f' + 1 := ⟨f - 1, by omega⟩
    have e : i = N := by omega
    refine ⟨a, b, ?_, ?_, ?_, fun _ _ => rfl, fun _ _ => rfl, rfl⟩
    · rw [fX5_back_c37, if_pos (by rw [mI_le] <;> omega)]
    · rw [fX6_back_c39, if_pos (by rw [mI_le] <;> omega)]
    · rw [show D + 400 * ((0 : Nat) : Int) = D by omega]; exact h4
  | succ n ih =>
    intro f i D a b h1 h2 h3 h4 h5
    obtain ⟨f, rfl⟩ : ∃ f', f = f' + 1 := ⟨f - 1, by omega⟩
    obtain ⟨a1, b1, e1, e2, k1, k2, k3, k4, k5⟩ := back_two h4 (by omega) (fX5_back_c37 f) (fX6_back_c39 f) N i
    obtain ⟨a2, b2, d1, d2, d3, d4, d5, d6⟩ := ih f (i + 1) (D + 400) a1 b1 (by omega) (by omega) (by omega) k1 (by omega)
    refine ⟨a2, b2, ?_, ?_, ?_, fun k hk => by rw [d4 k hk, k3 k hk], fun k hk => by rw [d5 k hk, k4 k hk], by rw [d6, k5]⟩
    · rw [fX5_back_c37, if_neg (by rw [mI_le] <;> omega), e1]; exact d1
    · rw [fX6_back_c39, if_neg (by rw [mI_le] <;> omega), e2]; exact d2
    · rw [show D + 400 * ((n + 1 : Nat) : Int) = D + 400 + 400 * (n : Int) by omega]; exact d3
theorem p_back {t : Int} {a b : qSt} (h : J t a b) {c : Int} (hc : isI c) : PQ [(0, 0), (2, 1), (3, 2)] t a b (fX5_back c a) (fX6_back c b) := by
  obtain ⟨j1, j2, j3, j4, j5, j6, j7⟩ := id h
  obtain ⟨x1, x2, x3, x4, x5, x6, x7⟩ := id j5
  unfold fX5_back fX6_back fX6_back_c29
  by_cases hcc : 1 ≤ c ∧ c ≤ 200
  · rw [outs0 (by omega) (by omega) hcc.1 hcc.2, with1 (by omega) (by omega) hcc.1 hcc.2, Option.bind_some, Option.bind_some, iI_no, iI_yes, ← x3, iI_le (by omega) (by omega) (by omega) (by omega), iI_le (by omega) (by omega) (by omega) (by omega)]
    by_cases e : c ≤ a 0 6
    · rw [if_pos e, if_pos e, ref_ok]
      have hb : keepB b (qset b 47 0 0) := keepB.ref b 0
      have hJ : J t a (qset b 47 0 0) := h.keep (by omega) (keepA.rf a) hb
      obtain ⟨a', b', e1, e2, e3, e4, e5, e6⟩ := back_loop hcc.2 c.toNat qFU 0 (100000 * t) a (qset b 47 0 0) (by omega) (by unfold qFU; omega) (by omega) (JD.ofJ hJ) (by omega)
      rw [e1, e2]
      refine ⟨0, _, a', _, b', rfl, rfl, ?_, fun _ => ?_, e3.toJ (by omega), fun k k0 k1 => e4 k k0, fun k hk => ?_⟩
      · rw [e6, m_ref0]; simp
      · exact e3.2.2.2.2.1.1
      · rw [e5 k hk]; exact mset_ne (by omega)
    · rw [if_neg e, if_neg e, ref_no (by omega) (by omega)]
      exact PQ.no h (by simp) (by omega)
  · rw [outs1 hc (isI_of (by omega) (by omega)) (isI_of (by omega) (by omega)) hcc, with0 hc (isI_of (by omega) (by omega)) (isI_of (by omega) (by omega)) hcc, Option.bind_some, Option.bind_some, iI_yes, iI_no, ref_no (by omega) (by omega)]
    exact PQ.no h (by simp) (by omega)
