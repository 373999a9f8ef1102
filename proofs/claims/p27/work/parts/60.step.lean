/-! ===== steps, and back ===== -/
/-- rows of 96 cells written anew -/
theorem row_PR {f g r : Int → Int} (hf : PR f) (h : ∀ x, r x = if 0 ≤ x ∧ x < 96 then f x else g x) : PR r := fun c c0 c1 => by
  rw [h c, if_pos ⟨c0, c1⟩]; exact hf c c0 c1
theorem row_WF {kd f g r : Int → Int} (hf : WF kd f) (h : ∀ x, r x = if 0 ≤ x ∧ x < 96 then f x else g x) : WF kd r := fun c c0 c1 hk => by
  rw [h c, if_pos ⟨c0, c1⟩]; exact hf c c0 c1 hk
theorem row_DS {d f g r d1 f1 : Int → Int} (hf : DS d f) (h1 : ∀ x, d1 x = if 0 ≤ x ∧ x < 96 then d x else g x) (h2 : ∀ x, f1 x = if 0 ≤ x ∧ x < 96 then f x else r x) : DS d1 f1 := fun c w c0 c1 w0 w1 => by
  have := hf c w c0 c1 w0 w1
  unfold qbt at this ⊢
  rw [h1 c, h2 c, if_pos ⟨c0, c1⟩, if_pos ⟨c0, c1⟩]; exact this
/-- one step of the class -/
theorem cls_step {a : qSt} (hW : WOK 1 a) (hp : 0 ≤ a 38 3 ∧ a 38 3 ≤ 4) (hr : ∀ k, 0 ≤ k → k < a 38 3 → (0 ≤ a 39 k ∧ a 39 k < 96) ∧ 0 ≤ a 40 k ∧ a 40 k < 5000) {cl : Int} (hcl : cl = 1 ∨ cl = 0) (k49 : Int → Int → Int → qSt → Option (Int × Int × qSt)) (x1 i : Int) : ∃ a1, (qbd (fX3_passStep 1 a) fun (r58 : Int) (σ1 : qSt) => (qbd (fX1_recordAll σ1) fun (r69 : Int) (σ2 : qSt) => (qb (qset σ2 0 5 ((σ2 0 5) + 1)) fun (σ3 : qSt) => (if qI cl = 0 then (fX5_step_c97 k49 x1 cl i 0 σ3) else (fX5_step_c97 k49 x1 cl i ((σ3 0 6) + 1) σ3))))) = k49 x1 cl (i + 1) a1 ∧ (∀ k, k ≠ 0 → k ≠ 1 → (k < 4 ∨ 13 < k) → k ≠ 40 → k ≠ 42 → k ≠ 43 → k ≠ 44 → k ≠ 45 → a1 k = a k) ∧ (∀ j, a1 0 j = if j = 6 then (if cl = 1 then a 0 6 + 1 else 0) else if j = 5 then a 0 5 + 1 else a 0 j) ∧ a1 1 12 = a 1 12 + mn (a 4) ∧ (∀ x, a1 4 x = if 0 ≤ x ∧ x < 96 then stepP (a 2) (a 4) x else a 4 x) ∧ (∀ x, a1 5 x = if 0 ≤ x ∧ x < 96 then stepD (a 2) (a 4) (a 5) x else a 5 x) ∧ (∀ b, 0 ≤ b → a1 8 b = a 8 b + sm (hN (a 2) (a 3) (qbt (mt (a 4))) b) 384 ∧ a1 9 b = a 9 b + sm (hR (a 2) (a 3) (qbt (mt (a 4))) b) 384 ∧ a1 10 b = a 10 b + sm (hU (a 2) (a 3) (qbt (mt (a 4))) b) 384) ∧ (∀ u, u = 0 ∨ u = 1 → LA 1 a1 u = LA 1 a u) ∧ LB 1 400 a a1 ∧ ∀ k, 0 ≤ k → k < 4 → a1 40 k = a 40 k + (if k < a 38 3 then 1 else 0) ∧ ∀ j, a1 (42 + k.toNat) j = if k < a 38 3 ∧ j = a 40 k then upR (a1 4) (a 39 k) else a (42 + k.toNat) j := by
  obtain ⟨s1, e1, f1, g1, c1, n1, l1, lb0, lb1⟩ := m_passStep (B := 1) hW
  have f1 : ∀ k, k ≠ 1 → (k < 4 ∨ 13 < k) → s1 k = a k := f1
  have g4 : ∀ x, s1 4 x = if 0 ≤ x ∧ x < 96 then stepP (a 2) (a 4) x else a 4 x := fun x => (g1 x).1
  have g5 : ∀ x, s1 5 x = if 0 ≤ x ∧ x < 96 then stepD (a 2) (a 4) (a 5) x else a 5 x := fun x => (g1 x).2
  have c1 : ∀ j, s1 1 j = if j = 12 then a 1 12 + mn (a 4) else a 1 j := c1
  have p4 : PR (s1 4) := row_PR (stepP_PR _ _) g4
  have s38 : s1 38 = a 38 := f1 38 (by omega) (by omega)
  have s39 : s1 39 = a 39 := f1 39 (by omega) (by omega)
  have s40 : s1 40 = a 40 := f1 40 (by omega) (by omega)
  obtain ⟨s2, e2, f2, g2⟩ := m_recordAll (σ := s1) p4 (by rw [s38]; exact hp.1) (by rw [s38]; exact hp.2) (fun k k0 k1 => by
    rw [s38] at k1
    rw [s39, s40]
    exact hr k k0 k1)
  rw [s38, s39, s40] at g2
  rw [e1, mqbd, e2, mqbd, mqb]
  have fin : ∀ rr : Int, rr = (if cl = 1 then a 0 6 + 1 else 0) → ∃ a1, k49 x1 cl (i + 1) (qset (qset s2 0 5 (s2 0 5 + 1)) 0 6 rr) = k49 x1 cl (i + 1) a1 ∧ (∀ k, k ≠ 0 → k ≠ 1 → (k < 4 ∨ 13 < k) → k ≠ 40 → k ≠ 42 → k ≠ 43 → k ≠ 44 → k ≠ 45 → a1 k = a k) ∧ (∀ j, a1 0 j = if j = 6 then (if cl = 1 then a 0 6 + 1 else 0) else if j = 5 then a 0 5 + 1 else a 0 j) ∧ a1 1 12 = a 1 12 + mn (a 4) ∧ (∀ x, a1 4 x = if 0 ≤ x ∧ x < 96 then stepP (a 2) (a 4) x else a 4 x) ∧ (∀ x, a1 5 x = if 0 ≤ x ∧ x < 96 then stepD (a 2) (a 4) (a 5) x else a 5 x) ∧ (∀ b, 0 ≤ b → a1 8 b = a 8 b + sm (hN (a 2) (a 3) (qbt (mt (a 4))) b) 384 ∧ a1 9 b = a 9 b + sm (hR (a 2) (a 3) (qbt (mt (a 4))) b) 384 ∧ a1 10 b = a 10 b + sm (hU (a 2) (a 3) (qbt (mt (a 4))) b) 384) ∧ (∀ u, u = 0 ∨ u = 1 → LA 1 a1 u = LA 1 a u) ∧ LB 1 400 a a1 ∧ ∀ k, 0 ≤ k → k < 4 → a1 40 k = a 40 k + (if k < a 38 3 then 1 else 0) ∧ ∀ j, a1 (42 + k.toNat) j = if k < a 38 3 ∧ j = a 40 k then upR (a1 4) (a 39 k) else a (42 + k.toNat) j := fun rr hrr => by
    have F : ∀ k, k ≠ 0 → k ≠ 40 → k ≠ 42 → k ≠ 43 → k ≠ 44 → k ≠ 45 → qset (qset s2 0 5 (s2 0 5 + 1)) 0 6 rr k = s1 k := fun k k0 k1 k2 k3 k4 k5 => by rw [mset_ne k0, mset_ne k0]; exact f2 k k1 k2 k3 k4 k5
    have F0 : ∀ k, k ≠ 0 → qset (qset s2 0 5 (s2 0 5 + 1)) 0 6 rr k = s2 k := fun k k0 => by rw [mset_ne k0, mset_ne k0]
    have s20 : s2 0 = a 0 := by rw [f2 0 (by omega) (by omega) (by omega) (by omega) (by omega)]; exact f1 0 (by omega) (by omega)
    refine ⟨_, rfl, fun k k0 k1 k2 k3 k4 k5 k6 k7 => by rw [F k k0 k3 k4 k5 k6 k7]; exact f1 k k1 k2, fun j => ?_, ?_, fun x => ?_, fun x => ?_, fun b b0 => ?_, fun u hu => ?_, ?_, fun k k0 k1 => ?_⟩
    · simp only [mset_same, s20]; rw [hrr]
    · rw [F 1 (by omega) (by omega) (by omega) (by omega) (by omega) (by omega), c1, if_pos rfl]
    · rw [F 4 (by omega) (by omega) (by omega) (by omega) (by omega) (by omega)]; exact g4 x
    · rw [F 5 (by omega) (by omega) (by omega) (by omega) (by omega) (by omega)]; exact g5 x
    · rw [F 8 (by omega) (by omega) (by omega) (by omega) (by omega) (by omega), F 9 (by omega) (by omega) (by omega) (by omega) (by omega) (by omega), F 10 (by omega) (by omega) (by omega) (by omega) (by omega) (by omega)]; exact n1 b b0
    · rw [← l1 u hu]
      show (qset (qset s2 0 5 (s2 0 5 + 1)) 0 6 rr 11 u - qset (qset s2 0 5 (s2 0 5 + 1)) 0 6 rr 11 (u + 2)) - gs u (qset (qset s2 0 5 (s2 0 5 + 1)) 0 6 rr 4) - (qset (qset s2 0 5 (s2 0 5 + 1)) 0 6 rr 12 u - qset (qset s2 0 5 (s2 0 5 + 1)) 0 6 rr 12 (u + 2)) - 2 * (qset (qset s2 0 5 (s2 0 5 + 1)) 0 6 rr 13 u - qset (qset s2 0 5 (s2 0 5 + 1)) 0 6 rr 13 (u + 2)) = (s1 11 u - s1 11 (u + 2)) - gs u (s1 4) - (s1 12 u - s1 12 (u + 2)) - 2 * (s1 13 u - s1 13 (u + 2))
      rw [F 11 (by omega) (by omega) (by omega) (by omega) (by omega) (by omega), F 12 (by omega) (by omega) (by omega) (by omega) (by omega) (by omega), F 13 (by omega) (by omega) (by omega) (by omega) (by omega) (by omega), F 4 (by omega) (by omega) (by omega) (by omega) (by omega) (by omega)]
    · unfold LB
      show (-400 ≤ qset (qset s2 0 5 (s2 0 5 + 1)) 0 6 rr 1 12 - a 1 12 ∧ qset (qset s2 0 5 (s2 0 5 + 1)) 0 6 rr 1 12 - a 1 12 ≤ 400) ∧ ∀ w, 0 ≤ w → w < 4 → (-400 ≤ qset (qset s2 0 5 (s2 0 5 + 1)) 0 6 rr 11 w - a 11 w ∧ qset (qset s2 0 5 (s2 0 5 + 1)) 0 6 rr 11 w - a 11 w ≤ 400) ∧ (-400 ≤ qset (qset s2 0 5 (s2 0 5 + 1)) 0 6 rr 12 w - a 12 w ∧ qset (qset s2 0 5 (s2 0 5 + 1)) 0 6 rr 12 w - a 12 w ≤ 400) ∧ (-400 ≤ qset (qset s2 0 5 (s2 0 5 + 1)) 0 6 rr 13 w - a 13 w ∧ qset (qset s2 0 5 (s2 0 5 + 1)) 0 6 rr 13 w - a 13 w ≤ 400)
      rw [F 1 (by omega) (by omega) (by omega) (by omega) (by omega) (by omega), F 11 (by omega) (by omega) (by omega) (by omega) (by omega) (by omega), F 12 (by omega) (by omega) (by omega) (by omega) (by omega) (by omega), F 13 (by omega) (by omega) (by omega) (by omega) (by omega) (by omega)]
      exact ⟨lb0, lb1⟩
    · rw [F 4 (by omega) (by omega) (by omega) (by omega) (by omega) (by omega), F0 40 (by omega), F0 (42 + k.toNat) (by omega)]
      obtain ⟨y1, y2⟩ := g2 k k0 k1
      refine ⟨y1, fun j => ?_⟩
      rw [y2 j, f1 (42 + k.toNat) (by omega) (by omega)]
  have s206 : qset s2 0 5 (s2 0 5 + 1) 0 6 = a 0 6 := by
    rw [mset_same]
    show (if (6 : Int) = 5 then _ else s2 0 6) = _
    rw [if_neg (by omega), f2 0 (by omega) (by omega) (by omega) (by omega) (by omega), f1 0 (by omega) (by omega)]
  rcases hcl with rfl | rfl
  · rw [iI_yes, s206]
    exact fin _ (by rw [if_pos rfl])
  · rw [iI_no]
    exact fin _ (by rw [if_neg (by omega)])
