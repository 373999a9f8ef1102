/-! ===== steps, and back ===== -/
def JAd (D : Int) (a b : qSt) : Prop := a 1 12 = b 47 17 ∧ (-D ≤ a 1 12 ∧ a 1 12 ≤ D) ∧ (∀ w, 0 ≤ w → w < 4 → (-D ≤ a 11 w ∧ a 11 w ≤ D) ∧ (-D ≤ a 12 w ∧ a 12 w ≤ D) ∧ (-D ≤ a 13 w ∧ a 13 w ≤ D)) ∧ LA 1 a 0 = 0 ∧ LA 1 a 1 = 0
def JD (D : Int) (a b : qSt) : Prop := JW a b ∧ JC a b ∧ JH a b ∧ JAd D a b ∧ JS a b ∧ a 46 = b 59 ∧ a 27 3 = b 47 18
theorem JD.ofJ {t : Int} {a b : qSt} (h : J t a b) : JD (100000 * t) a b := h
theorem JD.toJ {D t : Int} {a b : qSt} (h : JD D a b) (hD : D ≤ 100000 * t) : J t a b := by
  obtain ⟨j1, j2, j3, ⟨x1, x2, x3, x4, x5⟩, j5, j6, j7⟩ := h
  exact ⟨j1, j2, j3, ⟨x1, by omega, fun w w0 w1 => by have := x3 w w0 w1; omega, x4, x5⟩, j5, j6, j7⟩
/-- rows of 96 cells written anew -/
theorem row_PR {f g r : Int → Int} (hf : PR f) (h : ∀ x, r x = if 0 ≤ x ∧ x < 96 then f x else g x) : PR r := fun c c0 c1 => by
  rw [h c, if_pos ⟨c0, c1⟩]; exact hf c c0 c1
theorem row_WF {kd f g r : Int → Int} (hf : WF kd f) (h : ∀ x, r x = if 0 ≤ x ∧ x < 96 then f x else g x) : WF kd r := fun c c0 c1 hk => by
  rw [h c, if_pos ⟨c0, c1⟩]; exact hf c c0 c1 hk
theorem row_DS {d f g r d1 f1 : Int → Int} (hf : DS d f) (h1 : ∀ x, d1 x = if 0 ≤ x ∧ x < 96 then d x else g x) (h2 : ∀ x, f1 x = if 0 ≤ x ∧ x < 96 then f x else r x) : DS d1 f1 := fun c w c0 c1 w0 w1 => by
  have := hf c w c0 c1 w0 w1
  unfold qbt at this ⊢
  rw [h1 c, h2 c, if_pos ⟨c0, c1⟩, if_pos ⟨c0, c1⟩]; exact this
theorem m_addPush {σ : qSt} (k48 : Int → Int → Int → qSt → Option (Int × qSt)) (x1 x2 x3 : Int) : ∃ σ', fX6_step_c68 k48 qFU x1 x2 x3 0 σ = (qb (qset σ' 47 17 ((σ' 47 17) + (qi2l (σ' 47 14)))) fun (σ3 : qSt) => (qb (qset σ3 47 15 ((σ3 47 15) + 1)) fun (σ4 : qSt) => (if qI x2 = 0 then (fX6_step_c137 k48 x1 x2 x3 ((σ4 47 16) + 1) σ4) else (fX6_step_c137 k48 x1 x2 x3 0 σ4)))) ∧ (∀ k, k ≠ 58 → σ' k = σ k) ∧ ∀ j, σ' 58 j = if 0 ≤ j ∧ j < 12 then σ 58 j + σ 60 j else σ 58 j :=
  mloop (P := fun i t => (∀ k, k ≠ 58 → t k = σ k) ∧ ∀ j, t 58 j = if 0 ≤ j ∧ j < i then σ 58 j + σ 60 j else σ 58 j) (F := fun f i t => fX6_step_c68 k48 f x1 x2 x3 i t) (R := fun σ' => (qb (qset σ' 47 17 ((σ' 47 17) + (qi2l (σ' 47 14)))) fun (σ3 : qSt) => (qb (qset σ3 47 15 ((σ3 47 15) + 1)) fun (σ4 : qSt) => (if qI x2 = 0 then (fX6_step_c137 k48 x1 x2 x3 ((σ4 47 16) + 1) σ4) else (fX6_step_c137 k48 x1 x2 x3 0 σ4))))) 12 (by omega) (by omega) (fun f t _ => by
    show fX6_step_c68 k48 (f + 1) x1 x2 x3 12 t = _
    rw [fX6_step_c68, if_pos (by rw [mI_le] <;> omega)]) (fun f i t i0 i1 hP => by
    obtain ⟨fr, hv⟩ := hP
    have hii : 0 ≤ i ∧ i < 12 := by omega
    have e60 : t 60 = σ 60 := fr _ (by omega)
    have e58 : t 58 i = σ 58 i := by rw [hv i, if_neg (by omega)]
    show ∃ s1, fX6_step_c68 k48 (f + 1) x1 x2 x3 i t = fX6_step_c68 k48 f x1 x2 x3 (i + 1) s1 ∧ _
    rw [fX6_step_c68, if_neg (by rw [mI_le] <;> omega), if_pos hii, if_pos hii, if_pos hii, mqb]
    refine ⟨_, rfl, fun k k0 => by rw [mset_ne k0]; exact fr k k0, fun j => ?_⟩
    rw [mset_same]
    show (if j = i then _ else _) = _
    rw [e58, e60, hv j]
    by_cases e : j = i
    · rw [if_pos e, if_pos (by omega), e]
    · rw [if_neg e]
      by_cases e2 : 0 ≤ j ∧ j < i
      · rw [if_pos e2, if_pos (by omega)]
      · rw [if_neg e2, if_neg (by omega)]) (s := σ) ⟨fun _ _ => rfl, fun j => by rw [if_neg (by omega)]⟩
theorem m_subPush {σ : qSt} (k39 : Int → Int → qSt → Option (Int × qSt)) (x1 x2 : Int) : ∃ σ', fX6_back_c50 k39 qFU x1 x2 0 σ = (qb (qset σ' 47 17 ((σ' 47 17) - (qi2l (σ' 47 14)))) fun (σ3 : qSt) => (qb (qset σ3 47 15 ((σ3 47 15) - 1)) fun (σ4 : qSt) => (qb (qset σ4 47 16 ((σ4 47 16) - 1)) fun (σ5 : qSt) => (fX6_back_c113 k39 qFU x1 x2 0 σ5)))) ∧ (∀ k, k ≠ 58 → σ' k = σ k) ∧ ∀ j, σ' 58 j = if 0 ≤ j ∧ j < 12 then σ 58 j - σ 60 j else σ 58 j :=
  mloop (P := fun i t => (∀ k, k ≠ 58 → t k = σ k) ∧ ∀ j, t 58 j = if 0 ≤ j ∧ j < i then σ 58 j - σ 60 j else σ 58 j) (F := fun f i t => fX6_back_c50 k39 f x1 x2 i t) (R := fun σ' => (qb (qset σ' 47 17 ((σ' 47 17) - (qi2l (σ' 47 14)))) fun (σ3 : qSt) => (qb (qset σ3 47 15 ((σ3 47 15) - 1)) fun (σ4 : qSt) => (qb (qset σ4 47 16 ((σ4 47 16) - 1)) fun (σ5 : qSt) => (fX6_back_c113 k39 qFU x1 x2 0 σ5))))) 12 (by omega) (by omega) (fun f t _ => by
    show fX6_back_c50 k39 (f + 1) x1 x2 12 t = _
    rw [fX6_back_c50, if_pos (by rw [mI_le] <;> omega)]) (fun f i t i0 i1 hP => by
    obtain ⟨fr, hv⟩ := hP
    have hii : 0 ≤ i ∧ i < 12 := by omega
    have e60 : t 60 = σ 60 := fr _ (by omega)
    have e58 : t 58 i = σ 58 i := by rw [hv i, if_neg (by omega)]
    show ∃ s1, fX6_back_c50 k39 (f + 1) x1 x2 i t = fX6_back_c50 k39 f x1 x2 (i + 1) s1 ∧ _
    rw [fX6_back_c50, if_neg (by rw [mI_le] <;> omega), if_pos hii, if_pos hii, if_pos hii, mqb]
    refine ⟨_, rfl, fun k k0 => by rw [mset_ne k0]; exact fr k k0, fun j => ?_⟩
    rw [mset_same]
    show (if j = i then _ else _) = _
    rw [e58, e60, hv j]
    by_cases e : j = i
    · rw [if_pos e, if_pos (by omega), e]
    · rw [if_neg e]
      by_cases e2 : 0 ≤ j ∧ j < i
      · rw [if_pos e2, if_pos (by omega)]
      · rw [if_neg e2, if_neg (by omega)]) (s := σ) ⟨fun _ _ => rfl, fun j => by rw [if_neg (by omega)]⟩
/-- one step of the class -/
theorem cls_step {a : qSt} (hW : WOK 1 a) (hp : 0 ≤ a 38 3 ∧ a 38 3 ≤ 4) (hr : ∀ k, 0 ≤ k → k < a 38 3 → (0 ≤ a 39 k ∧ a 39 k < 96) ∧ 0 ≤ a 40 k ∧ a 40 k < 5000) {cl : Int} (hcl : cl = 1 ∨ cl = 0) (k49 : Int → Int → Int → qSt → Option (Int × Int × qSt)) (x1 i : Int) : ∃ a1, (qbd (fX3_passStep 1 a) fun (r58 : Int) (σ1 : qSt) => (qbd (fX1_recordAll σ1) fun (r69 : Int) (σ2 : qSt) => (qb (qset σ2 0 5 ((σ2 0 5) + 1)) fun (σ3 : qSt) => (if qI cl = 0 then (fX5_step_c97 k49 x1 cl i 0 σ3) else (fX5_step_c97 k49 x1 cl i ((σ3 0 6) + 1) σ3))))) = k49 x1 cl (i + 1) a1 ∧ (∀ k, k ≠ 0 → k ≠ 1 → (k < 4 ∨ 13 < k) → k ≠ 40 → k ≠ 42 → k ≠ 43 → k ≠ 44 → k ≠ 45 → a1 k = a k) ∧ (∀ j, a1 0 j = if j = 6 then (if cl = 1 then a 0 6 + 1 else 0) else if j = 5 then a 0 5 + 1 else a 0 j) ∧ a1 1 12 = a 1 12 + mn (a 4) ∧ (∀ x, a1 4 x = if 0 ≤ x ∧ x < 96 then stepP (a 2) (a 4) x else a 4 x) ∧ (∀ x, a1 5 x = if 0 ≤ x ∧ x < 96 then stepD (a 2) (a 4) (a 5) x else a 5 x) ∧ (∀ b, 0 ≤ b → a1 8 b = a 8 b + sm (hN (a 2) (a 3) (qbt (mt (a 4))) b) 384 ∧ a1 9 b = a 9 b + sm (hR (a 2) (a 3) (qbt (mt (a 4))) b) 384 ∧ a1 10 b = a 10 b + sm (hU (a 2) (a 3) (qbt (mt (a 4))) b) 384) ∧ (∀ u, u = 0 ∨ u = 1 → LA 1 a1 u = LA 1 a u) ∧ LB 1 400 a a1 ∧ ∀ k, 0 ≤ k → k < 4 → a1 40 k = a 40 k + (if k < a 38 3 then 1 else 0) ∧ ∀ j, a1 (42 + k.toNat) j = if k < a 38 3 ∧ j = a 40 k then upR (a1 4) (a 39 k) else a (42 + k.toNat) j := by
  obtain ⟨s1, e1, f1, g1, c1, n1, l1, lb0, lb1⟩ := m_passStep (B := 1) hW
  have f1 : ∀ k, k ≠ 1 → (k < 4 ∨ 13 < k) → s1 k = a k := f1
  have g4 : ∀ x, s1 4 x = if 0 ≤ x ∧ x < 96 then stepP (a 2) (a 4) x else a 4 x := fun x => (g1 x).1
  have g5 : ∀ x, s1 5 x = if 0 ≤ x ∧ x < 96 then stepD (a 2) (a 4) (a 5) x else a 5 x := fun x => (g1 x).2
  have c1 : ∀ j, s1 1 j = if j = 12 then a 1 12 + mn (a 4) else a 1 j := c1
  have p4 : PR (s1 4) := row_PR (stepP_PR _ _) g4
  have s38 : s1 38 = a 38 := f1 38 (by omega) (by omega)
  have s39 : s1 39 = a 39 := f1 39 (by omega) (by omega)
  have s40 : s1 40 = a 40 := f1 40 (by omega) (by omega)
  obtain ⟨s2, e2, f2, g2⟩ := m_recordAll (σ := s1) p4 (by rw [s38]; exact hp.1) (by rw [s38]; exact hp.2) (fun k k0 k1 => by
    rw [s38] at k1
    rw [s39, s40]
    exact hr k k0 k1)
  rw [s38, s39, s40] at g2
  rw [e1, mqbd, e2, mqbd, mqb]
  have fin : ∀ rr : Int, rr = (if cl = 1 then a 0 6 + 1 else 0) → ∃ a1, k49 x1 cl (i + 1) (qset (qset s2 0 5 (s2 0 5 + 1)) 0 6 rr) = k49 x1 cl (i + 1) a1 ∧ (∀ k, k ≠ 0 → k ≠ 1 → (k < 4 ∨ 13 < k) → k ≠ 40 → k ≠ 42 → k ≠ 43 → k ≠ 44 → k ≠ 45 → a1 k = a k) ∧ (∀ j, a1 0 j = if j = 6 then (if cl = 1 then a 0 6 + 1 else 0) else if j = 5 then a 0 5 + 1 else a 0 j) ∧ a1 1 12 = a 1 12 + mn (a 4) ∧ (∀ x, a1 4 x = if 0 ≤ x ∧ x < 96 then stepP (a 2) (a 4) x else a 4 x) ∧ (∀ x, a1 5 x = if 0 ≤ x ∧ x < 96 then stepD (a 2) (a 4) (a 5) x else a 5 x) ∧ (∀ b, 0 ≤ b → a1 8 b = a 8 b + sm (hN (a 2) (a 3) (qbt (mt (a 4))) b) 384 ∧ a1 9 b = a 9 b + sm (hR (a 2) (a 3) (qbt (mt (a 4))) b) 384 ∧ a1 10 b = a 10 b + sm (hU (a 2) (a 3) (qbt (mt (a 4))) b) 384) ∧ (∀ u, u = 0 ∨ u = 1 → LA 1 a1 u = LA 1 a u) ∧ LB 1 400 a a1 ∧ ∀ k, 0 ≤ k → k < 4 → a1 40 k = a 40 k + (if k < a 38 3 then 1 else 0) ∧ ∀ j, a1 (42 + k.toNat) j = if k < a 38 3 ∧ j = a 40 k then upR (a1 4) (a 39 k) else a (42 + k.toNat) j := fun rr hrr => by
    have F : ∀ k, k ≠ 0 → k ≠ 40 → k ≠ 42 → k ≠ 43 → k ≠ 44 → k ≠ 45 → qset (qset s2 0 5 (s2 0 5 + 1)) 0 6 rr k = s1 k := fun k k0 k1 k2 k3 k4 k5 => by rw [mset_ne k0, mset_ne k0]; exact f2 k k1 k2 k3 k4 k5
    have F0 : ∀ k, k ≠ 0 → qset (qset s2 0 5 (s2 0 5 + 1)) 0 6 rr k = s2 k := fun k k0 => by rw [mset_ne k0, mset_ne k0]
    have s20 : s2 0 = a 0 := by rw [f2 0 (by omega) (by omega) (by omega) (by omega) (by omega)]; exact f1 0 (by omega) (by omega)
    refine ⟨_, rfl, fun k k0 k1 k2 k3 k4 k5 k6 k7 => by rw [F k k0 k3 k4 k5 k6 k7]; exact f1 k k1 k2, fun j => ?_, ?_, fun x => ?_, fun x => ?_, fun b b0 => ?_, fun u hu => ?_, ?_, fun k k0 k1 => ?_⟩
    · simp only [mset_same, s20]; rw [hrr]
    · rw [F 1 (by omega) (by omega) (by omega) (by omega) (by omega) (by omega), c1, if_pos rfl]
    · rw [F 4 (by omega) (by omega) (by omega) (by omega) (by omega) (by omega)]; exact g4 x
    · rw [F 5 (by omega) (by omega) (by omega) (by omega) (by omega) (by omega)]; exact g5 x
    · rw [F 8 (by omega) (by omega) (by omega) (by omega) (by omega) (by omega), F 9 (by omega) (by omega) (by omega) (by omega) (by omega) (by omega), F 10 (by omega) (by omega) (by omega) (by omega) (by omega) (by omega)]; exact n1 b b0
    · rw [← l1 u hu]
      show (qset (qset s2 0 5 (s2 0 5 + 1)) 0 6 rr 11 u - qset (qset s2 0 5 (s2 0 5 + 1)) 0 6 rr 11 (u + 2)) - gs u (qset (qset s2 0 5 (s2 0 5 + 1)) 0 6 rr 4) - (qset (qset s2 0 5 (s2 0 5 + 1)) 0 6 rr 12 u - qset (qset s2 0 5 (s2 0 5 + 1)) 0 6 rr 12 (u + 2)) - 2 * (qset (qset s2 0 5 (s2 0 5 + 1)) 0 6 rr 13 u - qset (qset s2 0 5 (s2 0 5 + 1)) 0 6 rr 13 (u + 2)) = (s1 11 u - s1 11 (u + 2)) - gs u (s1 4) - (s1 12 u - s1 12 (u + 2)) - 2 * (s1 13 u - s1 13 (u + 2))
      rw [F 11 (by omega) (by omega) (by omega) (by omega) (by omega) (by omega), F 12 (by omega) (by omega) (by omega) (by omega) (by omega) (by omega), F 13 (by omega) (by omega) (by omega) (by omega) (by omega) (by omega), F 4 (by omega) (by omega) (by omega) (by omega) (by omega) (by omega)]
    · unfold LB
      show (-400 ≤ qset (qset s2 0 5 (s2 0 5 + 1)) 0 6 rr 1 12 - a 1 12 ∧ qset (qset s2 0 5 (s2 0 5 + 1)) 0 6 rr 1 12 - a 1 12 ≤ 400) ∧ ∀ w, 0 ≤ w → w < 4 → (-400 ≤ qset (qset s2 0 5 (s2 0 5 + 1)) 0 6 rr 11 w - a 11 w ∧ qset (qset s2 0 5 (s2 0 5 + 1)) 0 6 rr 11 w - a 11 w ≤ 400) ∧ (-400 ≤ qset (qset s2 0 5 (s2 0 5 + 1)) 0 6 rr 12 w - a 12 w ∧ qset (qset s2 0 5 (s2 0 5 + 1)) 0 6 rr 12 w - a 12 w ≤ 400) ∧ (-400 ≤ qset (qset s2 0 5 (s2 0 5 + 1)) 0 6 rr 13 w - a 13 w ∧ qset (qset s2 0 5 (s2 0 5 + 1)) 0 6 rr 13 w - a 13 w ≤ 400)
      rw [F 1 (by omega) (by omega) (by omega) (by omega) (by omega) (by omega), F 11 (by omega) (by omega) (by omega) (by omega) (by omega) (by omega), F 12 (by omega) (by omega) (by omega) (by omega) (by omega) (by omega), F 13 (by omega) (by omega) (by omega) (by omega) (by omega) (by omega)]
      exact ⟨lb0, lb1⟩
    · rw [F 4 (by omega) (by omega) (by omega) (by omega) (by omega) (by omega), F0 40 (by omega), F0 (42 + k.toNat) (by omega)]
      obtain ⟨y1, y2⟩ := g2 k k0 k1
      refine ⟨y1, fun j => ?_⟩
      rw [y2 j, f1 (42 + k.toNat) (by omega) (by omega)]
  have s206 : qset s2 0 5 (s2 0 5 + 1) 0 6 = a 0 6 := by
    rw [mset_same]
    show (if (6 : Int) = 5 then _ else s2 0 6) = _
    rw [if_neg (by omega), f2 0 (by omega) (by omega) (by omega) (by omega) (by omega), f1 0 (by omega) (by omega)]
  rcases hcl with rfl | rfl
  · rw [iI_yes, s206]
    exact fin _ (by rw [if_pos rfl])
  · rw [iI_no]
    exact fin _ (by rw [if_neg (by omega)])
/-- one step of the reference -/
theorem ref_step {b : qSt} (v1 : KR (b 48)) (v2 : BR (b 49)) (v3 : PR (b 50)) (v4 : PR (b 51)) (v5 : WF (b 48) (b 50)) (v6 : DS (b 51) (b 50)) (hp : 0 ≤ b 47 19 ∧ b 47 19 ≤ 4) (hr : ∀ k, 0 ≤ k → k < b 47 19 → (0 ≤ b 61 k ∧ b 61 k < 96) ∧ 0 ≤ b 62 k ∧ b 62 k < 5000) {o : Int} (ho : o = 0 ∨ o = 1) (k48 : Int → Int → Int → qSt → Option (Int × qSt)) (x1 i : Int) : ∃ b1, (qbd (fX6_advance 50 51 b) fun (r62 : Int) (σ2 : qSt) => (fX6_step_c68 k48 qFU x1 o i 0 σ2)) = k48 x1 o (i + 1) b1 ∧ (∀ k, k ≠ 47 → k ≠ 50 → k ≠ 51 → k ≠ 52 → k ≠ 53 → k ≠ 58 → k ≠ 60 → k ≠ 62 → k ≠ 63 → b1 k = b k) ∧ (∀ j, b1 47 j = if j = 16 then (if o = 0 then b 47 16 + 1 else 0) else if j = 15 then b 47 15 + 1 else if j = 17 then b 47 17 + mn (b 50) else if j = 14 then mn (b 50) else b 47 j) ∧ (∀ x, b1 50 x = if 0 ≤ x ∧ x < 96 then stepP (b 48) (b 50) x else b 50 x) ∧ (∀ x, b1 51 x = if 0 ≤ x ∧ x < 96 then stepD (b 48) (b 50) (b 51) x else b 51 x) ∧ (∀ k, 0 ≤ k → k < 4 → b1 58 (3 * k) = b 58 (3 * k) + sm (hN (b 48) (b 49) (qbt (mt (b 50))) k) 384 ∧ b1 58 (3 * k + 1) = b 58 (3 * k + 1) + sm (hR (b 48) (b 49) (qbt (mt (b 50))) k) 384 ∧ b1 58 (3 * k + 2) = b 58 (3 * k + 2) + sm (hU (b 48) (b 49) (qbt (mt (b 50))) k) 384) ∧ ∀ k, 0 ≤ k → k < 4 → b1 62 k = b 62 k + (if k < b 47 19 then 1 else 0) ∧ ∀ j, 0 ≤ j → j < 5000 → b1 63 (5000 * k + j) = if k < b 47 19 ∧ j = b 62 k then upR (b1 50) (b 61 k) else b 63 (5000 * k + j) := by
  obtain ⟨u1, e3, f3, c3, g3, n3⟩ := m_advance (B := 47) (Or.inl rfl) (σ := b) v1 v2 v3 v4 v5 v6
  have e3 : fX6_advance 50 51 b = some (0, u1) := e3
  have f3 : ∀ k, k ≠ 47 → k ≠ 50 → k ≠ 51 → k ≠ 52 → k ≠ 53 → k ≠ 60 → u1 k = b k := f3
  have c3 : ∀ j, u1 47 j = if j = 14 then mn (b 50) else b 47 j := c3
  have h50 : ∀ x, u1 50 x = if 0 ≤ x ∧ x < 96 then stepP (b 48) (b 50) x else b 50 x := fun x => (g3 x).1
  have h51 : ∀ x, u1 51 x = if 0 ≤ x ∧ x < 96 then stepD (b 48) (b 50) (b 51) x else b 51 x := fun x => (g3 x).2
  have n3 : ∀ k, 0 ≤ k → k < 4 → u1 60 (3 * k) = sm (hN (b 48) (b 49) (qbt (mt (b 50))) k) 384 ∧ u1 60 (3 * k + 1) = sm (hR (b 48) (b 49) (qbt (mt (b 50))) k) 384 ∧ u1 60 (3 * k + 2) = sm (hU (b 48) (b 49) (qbt (mt (b 50))) k) 384 := n3
  obtain ⟨u2, e4, f4, g4⟩ := m_addPush (σ := u1) k48 x1 o i
  rw [e3, mqbd, e4, mqb, mqb]
  have y47 : ∀ j, u2 47 j = if j = 14 then mn (b 50) else b 47 j := fun j => by rw [f4 47 (by omega)]; exact c3 j
  have mnr := mn_r (b 50)
  have p50 : PR (u1 50) := row_PR (stepP_PR _ _) h50
  have fin : ∀ rr : Int, rr = (if o = 0 then b 47 16 + 1 else 0) → ∃ b1, fX6_step_c137 k48 x1 o i rr (qset (qset u2 47 17 (u2 47 17 + qi2l (u2 47 14))) 47 15 (qset u2 47 17 (u2 47 17 + qi2l (u2 47 14)) 47 15 + 1)) = k48 x1 o (i + 1) b1 ∧ (∀ k, k ≠ 47 → k ≠ 50 → k ≠ 51 → k ≠ 52 → k ≠ 53 → k ≠ 58 → k ≠ 60 → k ≠ 62 → k ≠ 63 → b1 k = b k) ∧ (∀ j, b1 47 j = if j = 16 then (if o = 0 then b 47 16 + 1 else 0) else if j = 15 then b 47 15 + 1 else if j = 17 then b 47 17 + mn (b 50) else if j = 14 then mn (b 50) else b 47 j) ∧ (∀ x, b1 50 x = if 0 ≤ x ∧ x < 96 then stepP (b 48) (b 50) x else b 50 x) ∧ (∀ x, b1 51 x = if 0 ≤ x ∧ x < 96 then stepD (b 48) (b 50) (b 51) x else b 51 x) ∧ (∀ k, 0 ≤ k → k < 4 → b1 58 (3 * k) = b 58 (3 * k) + sm (hN (b 48) (b 49) (qbt (mt (b 50))) k) 384 ∧ b1 58 (3 * k + 1) = b 58 (3 * k + 1) + sm (hR (b 48) (b 49) (qbt (mt (b 50))) k) 384 ∧ b1 58 (3 * k + 2) = b 58 (3 * k + 2) + sm (hU (b 48) (b 49) (qbt (mt (b 50))) k) 384) ∧ ∀ k, 0 ≤ k → k < 4 → b1 62 k = b 62 k + (if k < b 47 19 then 1 else 0) ∧ ∀ j, 0 ≤ j → j < 5000 → b1 63 (5000 * k + j) = if k < b 47 19 ∧ j = b 62 k then upR (b1 50) (b 61 k) else b 63 (5000 * k + j) := fun rr hrr => by
    unfold fX6_step_c137
    rw [mqb]
    have z47 : ∀ j, qset (qset (qset u2 47 17 (u2 47 17 + qi2l (u2 47 14))) 47 15 (qset u2 47 17 (u2 47 17 + qi2l (u2 47 14)) 47 15 + 1)) 47 16 rr 47 j = if j = 16 then (if o = 0 then b 47 16 + 1 else 0) else if j = 15 then b 47 15 + 1 else if j = 17 then b 47 17 + mn (b 50) else if j = 14 then mn (b 50) else b 47 j := fun j => by
      have w17 : u2 47 17 = b 47 17 := y47 17
      have w15 : u2 47 15 = b 47 15 := y47 15
      have w14 : u2 47 14 = mn (b 50) := y47 14
      simp only [mset_same]
      rw [w17, w14, w15, m_i2l (by omega) (by omega), y47 j, if_neg (show ¬ (15 : Int) = 17 by omega), hrr]
    have zf : ∀ k, k ≠ 47 → qset (qset (qset u2 47 17 (u2 47 17 + qi2l (u2 47 14))) 47 15 (qset u2 47 17 (u2 47 17 + qi2l (u2 47 14)) 47 15 + 1)) 47 16 rr k = u2 k := fun k k0 => by rw [mset_ne k0, mset_ne k0, mset_ne k0]
    generalize qset (qset (qset u2 47 17 (u2 47 17 + qi2l (u2 47 14))) 47 15 (qset u2 47 17 (u2 47 17 + qi2l (u2 47 14)) 47 15 + 1)) 47 16 rr = u3 at z47 zf ⊢
    have z50 : u3 50 = u1 50 := by rw [zf 50 (by omega), f4 50 (by omega)]
    have z51 : u3 51 = u1 51 := by rw [zf 51 (by omega), f4 51 (by omega)]
    have z61 : u3 61 = b 61 := by rw [zf 61 (by omega), f4 61 (by omega), f3 61 (by omega) (by omega) (by omega) (by omega) (by omega) (by omega)]
    have z62 : u3 62 = b 62 := by rw [zf 62 (by omega), f4 62 (by omega), f3 62 (by omega) (by omega) (by omega) (by omega) (by omega) (by omega)]
    have z63 : u3 63 = b 63 := by rw [zf 63 (by omega), f4 63 (by omega), f3 63 (by omega) (by omega) (by omega) (by omega) (by omega) (by omega)]
    have z19 : u3 47 19 = b 47 19 := by rw [z47, if_neg (by omega), if_neg (by omega), if_neg (by omega), if_neg (by omega)]
    obtain ⟨b1, e5, f5, g5⟩ := m_recordM (σ := u3) k48 x1 o i (by rw [z50]; exact p50) (by rw [z19]; exact hp.1) (by rw [z19]; exact hp.2) (fun k k0 k1 => by rw [z19] at k1; rw [z61, z62]; exact hr k k0 k1)
    rw [z19, z50, z61, z62, z63] at g5
    have y50 : b1 50 = u1 50 := by rw [f5 50 (by omega) (by omega), z50]
    refine ⟨b1, e5, fun k k1 k2 k3 k4 k5 k6 k7 k8 k9 => by rw [f5 k k8 k9, zf k k1, f4 k k6, f3 k k1 k2 k3 k4 k5 k7], fun j => by rw [f5 47 (by omega) (by omega)]; exact z47 j, fun x => by rw [y50]; exact h50 x, fun x => by rw [f5 51 (by omega) (by omega), z51]; exact h51 x, fun k k0 k1 => ?_, fun k k0 k1 => ?_⟩
    · obtain ⟨y1, y2, y3⟩ := n3 k k0 k1
      rw [f5 58 (by omega) (by omega), zf 58 (by omega), g4, g4, g4, if_pos (by omega), if_pos (by omega), if_pos (by omega), f3 58 (by omega) (by omega) (by omega) (by omega) (by omega) (by omega), y1, y2, y3]
      exact ⟨rfl, rfl, rfl⟩
    · obtain ⟨y1, y2⟩ := g5 k k0 k1
      refine ⟨y1, fun j j0 j1 => ?_⟩
      rw [y2 j j0 j1, y50]
  have w16 : qset (qset u2 47 17 (u2 47 17 + qi2l (u2 47 14))) 47 15 (qset u2 47 17 (u2 47 17 + qi2l (u2 47 14)) 47 15 + 1) 47 16 = b 47 16 := by
    simp only [mset_same]
    rw [if_neg (by omega), if_neg (by omega), y47, if_neg (by omega)]
  rcases ho with rfl | rfl
  · rw [iI_no, w16]
    exact fin _ (by rw [if_pos rfl])
  · rw [iI_yes]
    exact fin _ (by rw [if_neg (by omega)])
theorem step_two {D : Int} {a b : qSt} (h : JD D a b) (hs : a 0 5 < 5000) {cl o : Int} (hco : (cl = 1 ∧ o = 0) ∨ (cl = 0 ∧ o = 1)) (k49 : Int → Int → Int → qSt → Option (Int × Int × qSt)) (k48 : Int → Int → Int → qSt → Option (Int × qSt)) (x1 i : Int) : ∃ a1 b1, (qbd (fX3_passStep 1 a) fun (r58 : Int) (σ1 : qSt) => (qbd (fX1_recordAll σ1) fun (r69 : Int) (σ2 : qSt) => (qb (qset σ2 0 5 ((σ2 0 5) + 1)) fun (σ3 : qSt) => (if qI cl = 0 then (fX5_step_c97 k49 x1 cl i 0 σ3) else (fX5_step_c97 k49 x1 cl i ((σ3 0 6) + 1) σ3))))) = k49 x1 cl (i + 1) a1 ∧ (qbd (fX6_advance 50 51 b) fun (r62 : Int) (σ2 : qSt) => (fX6_step_c68 k48 qFU x1 o i 0 σ2)) = k48 x1 o (i + 1) b1 ∧ JD (D + 400) a1 b1 ∧ a1 0 5 = a 0 5 + 1 ∧ (∀ k, 47 ≤ k → a1 k = a k) ∧ (∀ k, k < 47 ∨ 64 ≤ k → b1 k = b k) ∧ b1 47 0 = b 47 0 := by
  obtain ⟨⟨q1, q2, q3, q4, hW, q6⟩, j2, j3, ⟨m1, m2, m3, m4, m5⟩, ⟨x1', x2, x3, x4, x5, x6, x7⟩, j6, j7⟩ := h
  obtain ⟨v1, v2, v3, v4, v5, v6⟩ := id hW
  have v1 : KR (a 2) := v1
  have v2 : BR (a 3) := v2
  have v3 : PR (a 4) := v3
  have v4 : PR (a 5) := v4
  have v5 : WF (a 2) (a 4) := v5
  have v6 : DS (a 5) (a 4) := v6
  obtain ⟨a1, e1, f1, c1, n1, g4, g5, p1, l1, ⟨lb0, lb1⟩, r1⟩ := cls_step hW x6 (fun k k0 k1 => by have := x7 k k0 (by omega); exact ⟨(this.2.2.1 k1).2.1, by omega⟩) (hco.elim (fun z => Or.inl z.1) (fun z => Or.inr z.1)) k49 x1 i
  have lb0 : -400 ≤ a1 1 12 - a 1 12 ∧ a1 1 12 - a 1 12 ≤ 400 := lb0
  have lb1 : ∀ w, 0 ≤ w → w < 4 → (-400 ≤ a1 11 w - a 11 w ∧ a1 11 w - a 11 w ≤ 400) ∧ (-400 ≤ a1 12 w - a 12 w ∧ a1 12 w - a 12 w ≤ 400) ∧ (-400 ≤ a1 13 w - a 13 w ∧ a1 13 w - a 13 w ≤ 400) := lb1
  obtain ⟨b1, e2, f2, c2, h50, h51, p2, r2⟩ := ref_step (b := b) (by rw [← q1]; exact v1) (by rw [← q2]; exact v2) (by rw [← q3]; exact v3) (by rw [← q4]; exact v4) (by rw [← q1, ← q3]; exact v5) (by rw [← q4, ← q3]; exact v6) (by rw [← x5]; exact x6) (fun k k0 k1 => by
    rw [← x5] at k1
    obtain ⟨y1, y2, y3, y4, y5⟩ := x7 k k0 (by omega)
    obtain ⟨z1, z2, z3⟩ := y3 k1
    rw [← z1, ← y1]
    exact ⟨z2, by omega⟩) (hco.elim (fun z => Or.inl z.2) (fun z => Or.inr z.2)) k48 x1 i
  rw [← q1, ← q3] at h50
  rw [← q1, ← q3, ← q4] at h51
  rw [← q1, ← q2, ← q3] at p2
  rw [← q3] at c2
  rw [← x5] at r2
  have A2 : a1 2 = a 2 := f1 2 (by omega) (by omega) (by omega) (by omega) (by omega) (by omega) (by omega) (by omega)
  have A3 : a1 3 = a 3 := f1 3 (by omega) (by omega) (by omega) (by omega) (by omega) (by omega) (by omega) (by omega)
  have A38 : a1 38 = a 38 := f1 38 (by omega) (by omega) (by omega) (by omega) (by omega) (by omega) (by omega) (by omega)
  have A39 : a1 39 = a 39 := f1 39 (by omega) (by omega) (by omega) (by omega) (by omega) (by omega) (by omega) (by omega)
  have A27 : a1 27 = a 27 := f1 27 (by omega) (by omega) (by omega) (by omega) (by omega) (by omega) (by omega) (by omega)
  have A46 : a1 46 = a 46 := f1 46 (by omega) (by omega) (by omega) (by omega) (by omega) (by omega) (by omega) (by omega)
  have B48 : b1 48 = b 48 := f2 48 (by omega) (by omega) (by omega) (by omega) (by omega) (by omega) (by omega) (by omega) (by omega)
  have B49 : b1 49 = b 49 := f2 49 (by omega) (by omega) (by omega) (by omega) (by omega) (by omega) (by omega) (by omega) (by omega)
  have B56 : b1 56 = b 56 := f2 56 (by omega) (by omega) (by omega) (by omega) (by omega) (by omega) (by omega) (by omega) (by omega)
  have B59 : b1 59 = b 59 := f2 59 (by omega) (by omega) (by omega) (by omega) (by omega) (by omega) (by omega) (by omega) (by omega)
  have B61 : b1 61 = b 61 := f2 61 (by omega) (by omega) (by omega) (by omega) (by omega) (by omega) (by omega) (by omega) (by omega)
  have E4 : a1 4 = b1 50 := funext fun x => by rw [g4, h50, q3]
  have E5 : a1 5 = b1 51 := funext fun x => by rw [g5, h51, q4]
  refine ⟨a1, b1, e1, e2, ⟨⟨?_, ?_, E4, E5, ⟨?_, ?_, ?_, ?_, ?_, ?_⟩, ?_⟩, j2.fr A2 (fun k k0 k1 => f1 k (by omega) (by omega) (by omega) (by omega) (by omega) (by omega) (by omega) (by omega)) (by rw [A27]) B56, fun k k0 k1 => ?_, ⟨?_, ?_, fun w w0 w1 => ?_, ?_, ?_⟩, ?_, ?_, ?_⟩, ?_, fun k k0 => f1 k (by omega) (by omega) (by omega) (by omega) (by omega) (by omega) (by omega) (by omega), fun k k0 => f2 k (by omega) (by omega) (by omega) (by omega) (by omega) (by omega) (by omega) (by omega) (by omega), ?_⟩
  · rw [A2, B48]; exact q1
  · rw [A3, B49]; exact q2
  · show KR (a1 2); rw [A2]; exact v1
  · show BR (a1 3); rw [A3]; exact v2
  · show PR (a1 4); exact row_PR (stepP_PR _ _) g4
  · show PR (a1 5); exact row_PR (stepD_PR _ _ _) g5
  · show WF (a1 2) (a1 4); rw [A2]; exact row_WF (stepP_WF _ _) g4
  · show DS (a1 5) (a1 4); exact row_DS (step_DS v3 v4 v6) g5 g4
  · rw [A2, A3]; exact q6
  · obtain ⟨y1, y2, y3⟩ := p1 k k0
    obtain ⟨z1, z2, z3⟩ := p2 k k0 k1
    obtain ⟨w1, w2, w3⟩ := j3 k k0 k1
    rw [y1, y2, y3, z1, z2, z3, w1, w2, w3]
    exact ⟨rfl, rfl, rfl⟩
  · rw [n1, c2, if_neg (by omega), if_neg (by omega), if_pos rfl, m1]
  · omega
  · have := m3 w w0 w1
    have := lb1 w w0 w1
    omega
  · rw [l1 0 (Or.inl rfl)]; exact m4
  · rw [l1 1 (Or.inr rfl)]; exact m5
  · unfold JS
    have z05 : a1 0 5 = a 0 5 + 1 := by rw [c1, if_neg (by omega), if_pos rfl]
    have z06 : a1 0 6 = if cl = 1 then a 0 6 + 1 else 0 := by rw [c1, if_pos rfl]
    have w15 : b1 47 15 = b 47 15 + 1 := by rw [c2, if_neg (by omega), if_pos rfl]
    have w16 : b1 47 16 = if o = 0 then b 47 16 + 1 else 0 := by rw [c2, if_pos rfl]
    have w19 : b1 47 19 = b 47 19 := by rw [c2, if_neg (by omega), if_neg (by omega), if_neg (by omega), if_neg (by omega)]
    have zr : a1 0 6 = b1 47 16 ∧ 0 ≤ a1 0 6 ∧ a1 0 6 ≤ a 0 6 + 1 := by
      rw [z06, w16]
      rcases hco with ⟨rfl, rfl⟩ | ⟨rfl, rfl⟩
      · rw [if_pos rfl, if_pos rfl, x3]; omega
      · rw [if_neg (by omega), if_neg (by omega)]; omega
    rw [z05, w15, w19, A38]
    refine ⟨by omega, by omega, zr.1, by omega, x5, x6, fun k k0 k1 => ?_⟩
    obtain ⟨y1, y2, y3, y4, y5⟩ := x7 k k0 k1
    obtain ⟨r11, r12⟩ := r1 k k0 k1
    obtain ⟨r21, r22⟩ := r2 k k0 k1
    rw [A39, B61, r11, r21]
    refine ⟨by rw [y1], ?_, fun z => ⟨(y3 z).1, (y3 z).2.1, ?_⟩, fun z => ?_, fun j j0 j1 => ?_⟩
    · split <;> omega
    · rw [if_pos z]; have := (y3 z).2.2; omega
    · rw [if_neg (by omega), y4 z]; rfl
    · have hj : j < 5000 := by split at j1 <;> omega
      rw [r12 j, r22 j j0 hj]
      by_cases e : k < a 38 3 ∧ j = a 40 k
      · have hu := upR_r (b1 50) (b 61 k)
        rw [if_pos e, if_pos ⟨e.1, by rw [← y1]; exact e.2⟩, E4, (y3 e.1).1]
        exact ⟨rfl, hu⟩
      · rw [if_neg e, if_neg (fun z => e ⟨z.1, by rw [y1]; exact z.2⟩)]
        exact y5 j j0 (by
          by_cases e2 : k < a 38 3
          · rw [if_pos e2] at j1
            have : ¬ j = a 40 k := fun z => e ⟨e2, z⟩
            omega
          · rw [if_neg e2] at j1; omega)
  · rw [A46, B59]; exact j6
  · rw [A27, c2, if_neg (by omega), if_neg (by omega), if_neg (by omega), if_neg (by omega)]; exact j7
  · rw [c1, if_neg (by omega), if_pos rfl]
  · rw [c2, if_neg (by omega), if_neg (by omega), if_neg (by omega), if_neg (by omega)]
theorem step_loop {cl o N : Int} (hco : (cl = 1 ∧ o = 0) ∨ (cl = 0 ∧ o = 1)) (hN : N ≤ 200) : ∀ (n f : Nat) (i D : Int) (a b : qSt), i + n = N → n < f → 0 ≤ i → JD D a b → a 0 5 + n ≤ 5000 → ∃ a' b', fX5_step_c49 f N cl i a = some (0, a' 0 5, a') ∧ fX6_step_c48 f N o i b = some (b' 47 15, b') ∧ JD (D + 400 * n) a' b' ∧ (∀ k, 47 ≤ k → a' k = a k) ∧ (∀ k, k < 47 ∨ 64 ≤ k → b' k = b k) ∧ b' 47 0 = b 47 0 := by
  intro n
  induction n with
  | zero =>
    intro f i D a b h1 h2 h3 h4 h5
    obtain ⟨f, rfl⟩ : ∃ f', f = f' + 1 := ⟨f - 1, by omega⟩
    have e : i = N := by omega
    refine ⟨a, b, ?_, ?_, ?_, fun _ _ => rfl, fun _ _ => rfl, rfl⟩
    · rw [fX5_step_c49, if_pos (by rw [mI_le] <;> omega)]
    · rw [fX6_step_c48, if_pos (by rw [mI_le] <;> omega)]
    · rw [show D + 400 * ((0 : Nat) : Int) = D by omega]; exact h4
  | succ n ih =>
    intro f i D a b h1 h2 h3 h4 h5
    obtain ⟨f, rfl⟩ : ∃ f', f = f' + 1 := ⟨f - 1, by omega⟩
    obtain ⟨a1, b1, e1, e2, k1, k2, k3, k4, k5⟩ := step_two h4 (by omega) hco (fX5_step_c49 f) (fX6_step_c48 f) N i
    obtain ⟨a2, b2, d1, d2, d3, d4, d5, d6⟩ := ih f (i + 1) (D + 400) a1 b1 (by omega) (by omega) (by omega) k1 (by omega)
    refine ⟨a2, b2, ?_, ?_, ?_, fun k hk => by rw [d4 k hk, k3 k hk], fun k hk => by rw [d5 k hk, k4 k hk], by rw [d6, k5]⟩
    · rw [fX5_step_c49, if_neg (by rw [mI_le] <;> omega), e1]; exact d1
    · rw [fX6_step_c48, if_neg (by rw [mI_le] <;> omega), e2]; exact d2
    · rw [show D + 400 * ((n + 1 : Nat) : Int) = D + 400 + 400 * (n : Int) by omega]; exact d3
theorem p_step {t : Int} {a b : qSt} (h : J t a b) {c : Int} (hc : isI c) : PQ [(0, 0), (2, 1), (3, 2)] t a b (fX5_step c a) (fX6_step c b) := by
  obtain ⟨j1, j2, j3, j4, j5, j6, j7⟩ := id h
  obtain ⟨x1, x2, x3, x4, x5, x6, x7⟩ := id j5
  unfold fX5_step fX6_step fX6_step_c33
  by_cases hcc : 1 ≤ c ∧ c ≤ 200
  · rw [outs0 (by omega) (by omega) hcc.1 hcc.2, with1 (by omega) (by omega) hcc.1 hcc.2, Option.bind_some, Option.bind_some, iI_no, iI_yes, ← x1, iI_le (by omega) (by omega) (by omega) (by omega), iI_le (by omega) (by omega) (by omega) (by omega)]
    by_cases e : a 0 5 + c ≤ 5000
    · rw [if_pos e, if_pos e, ref_ok]
      have hb : keepB b (qset b 47 0 0) := keepB.ref b 0
      have hJ : J t a (qset b 47 0 0) := h.keep (by omega) (keepA.rf a) hb
      obtain ⟨cl, o, d1, d2, hco⟩ := m_closed hJ.1
      rw [d1, d2, Option.bind_some, Option.bind_some]
      obtain ⟨a', b', e1, e2, e3, e4, e5, e6⟩ := step_loop hco hcc.2 c.toNat qFU 0 (100000 * t) a (qset b 47 0 0) (by omega) (by unfold qFU; omega) (by omega) (JD.ofJ hJ) (by omega)
      rw [e1, e2]
      refine ⟨0, _, a', _, b', rfl, rfl, ?_, fun _ => ?_, e3.toJ (by omega), fun k k0 k1 => e4 k k0, fun k hk => ?_⟩
      · rw [e6, m_ref0]; simp
      · exact e3.2.2.2.2.1.1
      · rw [e5 k hk]; exact mset_ne (by omega)
    · rw [if_neg e, if_neg e, ref_no (by omega) (by omega)]
      exact PQ.no h (by simp) (by omega)
  · rw [outs1 hc (isI_of (by omega) (by omega)) (isI_of (by omega) (by omega)) hcc, with0 hc (isI_of (by omega) (by omega)) (isI_of (by omega) (by omega)) hcc, Option.bind_some, Option.bind_some, iI_yes, iI_no, ref_no (by omega) (by omega)]
    exact PQ.no h (by simp) (by omega)
