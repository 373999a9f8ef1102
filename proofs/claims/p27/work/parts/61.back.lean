/-- one step back of the class -/
theorem cls_back {a : qSt} (hW : WOK 1 a) (hp : 0 ≤ a 38 3 ∧ a 38 3 ≤ 4) (hr : ∀ k, 0 ≤ k → k < a 38 3 → 1 ≤ a 40 k ∧ a 40 k ≤ 5000) (k37 : Int → Int → qSt → Option (Int × Int × qSt)) (x1 i : Int) : ∃ a1, (qbd (fX3_undoStep 1 a) fun (r46 : Int) (σ1 : qSt) => (qbd (fX1_loseLatest σ1) fun (r53 : Int) (σ2 : qSt) => (qb (qset σ2 0 5 ((σ2 0 5) - 1)) fun (σ3 : qSt) => (qb (qset σ3 0 6 ((σ3 0 6) - 1)) fun (σ4 : qSt) => (k37 x1 (i + 1) σ4))))) = k37 x1 (i + 1) a1 ∧ (∀ k, k ≠ 0 → k ≠ 1 → (k < 4 ∨ 13 < k) → k ≠ 40 → a1 k = a k) ∧ (∀ j, a1 0 j = if j = 6 then a 0 6 - 1 else if j = 5 then a 0 5 - 1 else a 0 j) ∧ a1 1 12 = a 1 12 - mn (upP (a 2) (a 4)) ∧ (∀ x, a1 4 x = if 0 ≤ x ∧ x < 96 then backP (a 2) (a 4) x else a 4 x) ∧ (∀ x, a1 5 x = if 0 ≤ x ∧ x < 96 then backD (a 2) (a 4) (a 5) x else a 5 x) ∧ (∀ b, 0 ≤ b → a1 8 b = a 8 b - sm (hN (a 2) (a 3) (qbt (t2r (a 4))) b) 384 ∧ a1 9 b = a 9 b - sm (hR (a 2) (a 3) (qbt (t2r (a 4))) b) 384 ∧ a1 10 b = a 10 b - sm (hU (a 2) (a 3) (qbt (t2r (a 4))) b) 384) ∧ (∀ u, u = 0 ∨ u = 1 → LA 1 a1 u = LA 1 a u) ∧ LB 1 400 a a1 ∧ ∀ k, 0 ≤ k → k < 4 → a1 40 k = a 40 k - (if k < a 38 3 then 1 else 0) := by
  obtain ⟨s1, e1, f1, g1, c1, n1, l1, lb0, lb1⟩ := m_undoStep (B := 1) hW
  have f1 : ∀ k, k ≠ 1 → (k < 4 ∨ 13 < k) → s1 k = a k := f1
  have g4 : ∀ x, s1 4 x = if 0 ≤ x ∧ x < 96 then backP (a 2) (a 4) x else a 4 x := fun x => (g1 x).1
  have g5 : ∀ x, s1 5 x = if 0 ≤ x ∧ x < 96 then backD (a 2) (a 4) (a 5) x else a 5 x := fun x => (g1 x).2
  have c1 : ∀ j, s1 1 j = if j = 12 then a 1 12 - mn (upP (a 2) (a 4)) else a 1 j := c1
  have s38 : s1 38 = a 38 := f1 38 (by omega) (by omega)
  have s40 : s1 40 = a 40 := f1 40 (by omega) (by omega)
  obtain ⟨s2, e2, f2, g2⟩ := m_loseLatest (σ := s1) (by rw [s38]; exact hp.1) (by rw [s38]; exact hp.2) (fun k k0 k1 => by
    rw [s38] at k1
    rw [s40]
    exact hr k k0 k1)
  rw [s38, s40] at g2
  rw [e1, mqbd, e2, mqbd, mqb, mqb]
  have s20 : s2 0 = a 0 := by rw [f2 0 (by omega)]; exact f1 0 (by omega) (by omega)
  have z0 : ∀ j, qset (qset s2 0 5 (s2 0 5 - 1)) 0 6 (qset s2 0 5 (s2 0 5 - 1) 0 6 - 1) 0 j = if j = 6 then a 0 6 - 1 else if j = 5 then a 0 5 - 1 else a 0 j := fun j => by
    simp only [mset_same, s20]
    rw [if_neg (show ¬ (6 : Int) = 5 by omega)]
  have F0 : ∀ k, k ≠ 0 → qset (qset s2 0 5 (s2 0 5 - 1)) 0 6 (qset s2 0 5 (s2 0 5 - 1) 0 6 - 1) k = s2 k := fun k k0 => by rw [mset_ne k0, mset_ne k0]
  generalize qset (qset s2 0 5 (s2 0 5 - 1)) 0 6 (qset s2 0 5 (s2 0 5 - 1) 0 6 - 1) = s3 at z0 F0 ⊢
  have F : ∀ k, k ≠ 0 → k ≠ 40 → s3 k = s1 k := fun k k0 k1 => by rw [F0 k k0]; exact f2 k k1
  refine ⟨s3, rfl, fun k k0 k1 k2 k3 => by rw [F k k0 k3]; exact f1 k k1 k2, z0, ?_, fun x => ?_, fun x => ?_, fun b b0 => ?_, fun u hu => ?_, ?_, fun k k0 k1 => ?_⟩
  · rw [F 1 (by omega) (by omega), c1, if_pos rfl]
  · rw [F 4 (by omega) (by omega)]; exact g4 x
  · rw [F 5 (by omega) (by omega)]; exact g5 x
  · rw [F 8 (by omega) (by omega), F 9 (by omega) (by omega), F 10 (by omega) (by omega)]; exact n1 b b0
  · rw [← l1 u hu]
    show (s3 11 u - s3 11 (u + 2)) - gs u (s3 4) - (s3 12 u - s3 12 (u + 2)) - 2 * (s3 13 u - s3 13 (u + 2)) = (s1 11 u - s1 11 (u + 2)) - gs u (s1 4) - (s1 12 u - s1 12 (u + 2)) - 2 * (s1 13 u - s1 13 (u + 2))
    rw [F 11 (by omega) (by omega), F 12 (by omega) (by omega), F 13 (by omega) (by omega), F 4 (by omega) (by omega)]
  · show (-400 ≤ s3 1 12 - a 1 12 ∧ s3 1 12 - a 1 12 ≤ 400) ∧ ∀ w, 0 ≤ w → w < 4 → (-400 ≤ s3 11 w - a 11 w ∧ s3 11 w - a 11 w ≤ 400) ∧ (-400 ≤ s3 12 w - a 12 w ∧ s3 12 w - a 12 w ≤ 400) ∧ (-400 ≤ s3 13 w - a 13 w ∧ s3 13 w - a 13 w ≤ 400)
    rw [F 1 (by omega) (by omega), F 11 (by omega) (by omega), F 12 (by omega) (by omega), F 13 (by omega) (by omega)]
    exact ⟨lb0, lb1⟩
  · rw [F0 40 (by omega)]; exact g2 k k0 k1
