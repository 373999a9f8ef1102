/-! ===== STEPS and going back, of the class ===== -/
def St (cl : Int) (a a1 : qSt) : Prop := (∀ k, k ≠ 0 → k ≠ 1 → (k < 4 ∨ 13 < k) → k ≠ 40 → k ≠ 42 → k ≠ 43 → k ≠ 44 → k ≠ 45 → a1 k = a k) ∧ (∀ j, a1 0 j = if j = 6 then (if cl = 1 then a 0 6 + 1 else 0) else if j = 5 then a 0 5 + 1 else a 0 j) ∧ a1 1 12 = a 1 12 + mn (a 4) ∧ (∀ x, a1 4 x = if 0 ≤ x ∧ x < 96 then stepP (a 2) (a 4) x else a 4 x) ∧ (∀ x, a1 5 x = if 0 ≤ x ∧ x < 96 then stepD (a 2) (a 4) (a 5) x else a 5 x) ∧ (∀ b, 0 ≤ b → a1 8 b = a 8 b + sm (hN (a 2) (a 3) (qbt (mt (a 4))) b) 384 ∧ a1 9 b = a 9 b + sm (hR (a 2) (a 3) (qbt (mt (a 4))) b) 384 ∧ a1 10 b = a 10 b + sm (hU (a 2) (a 3) (qbt (mt (a 4))) b) 384) ∧ (∀ u, u = 0 ∨ u = 1 → LA 1 a1 u = LA 1 a u) ∧ LB 1 400 a a1 ∧ ∀ k, 0 ≤ k → k < 4 → a1 40 k = a 40 k + (if k < a 38 3 then 1 else 0) ∧ ∀ j, a1 (42 + k.toNat) j = if k < a 38 3 ∧ j = a 40 k then upR (a1 4) (a 39 k) else a (42 + k.toNat) j
def Bk (a a1 : qSt) : Prop := (∀ k, k ≠ 0 → k ≠ 1 → (k < 4 ∨ 13 < k) → k ≠ 40 → a1 k = a k) ∧ (∀ j, a1 0 j = if j = 6 then a 0 6 - 1 else if j = 5 then a 0 5 - 1 else a 0 j) ∧ a1 1 12 = a 1 12 - mn (upP (a 2) (a 4)) ∧ (∀ x, a1 4 x = if 0 ≤ x ∧ x < 96 then backP (a 2) (a 4) x else a 4 x) ∧ (∀ x, a1 5 x = if 0 ≤ x ∧ x < 96 then backD (a 2) (a 4) (a 5) x else a 5 x) ∧ (∀ b, 0 ≤ b → a1 8 b = a 8 b - sm (hN (a 2) (a 3) (qbt (t2r (a 4))) b) 384 ∧ a1 9 b = a 9 b - sm (hR (a 2) (a 3) (qbt (t2r (a 4))) b) 384 ∧ a1 10 b = a 10 b - sm (hU (a 2) (a 3) (qbt (t2r (a 4))) b) 384) ∧ (∀ u, u = 0 ∨ u = 1 → LA 1 a1 u = LA 1 a u) ∧ LB 1 400 a a1 ∧ ∀ k, 0 ≤ k → k < 4 → a1 40 k = a 40 k - (if k < a 38 3 then 1 else 0)
theorem St.I {h e s r n cl : Int} {a a1 : qSt} (H : I h e s r n a) (S : St cl a a1) : I (h + 1) (e + 1) (s + 1) r n a1 := by
  obtain ⟨⟨hW, q6⟩, j2, j3, ⟨m2, m3, m4, m5⟩, ⟨x1, x2, x3, x4⟩, j6, j7⟩ := H
  obtain ⟨v1, v2, v3, v4, v5, v6⟩ := id hW
  have v1 : KR (a 2) := v1
  have v2 : BR (a 3) := v2
  have v3 : PR (a 4) := v3
  have v4 : PR (a 5) := v4
  have v5 : WF (a 2) (a 4) := v5
  have v6 : DS (a 5) (a 4) := v6
  obtain ⟨f1, c1, n1, g4, g5, p1, l1, ⟨lb0, lb1⟩, r1⟩ := S
  have lb0 : -400 ≤ a1 1 12 - a 1 12 ∧ a1 1 12 - a 1 12 ≤ 400 := lb0
  have lb1 : ∀ w, 0 ≤ w → w < 4 → (-400 ≤ a1 11 w - a 11 w ∧ a1 11 w - a 11 w ≤ 400) ∧ (-400 ≤ a1 12 w - a 12 w ∧ a1 12 w - a 12 w ≤ 400) ∧ (-400 ≤ a1 13 w - a 13 w ∧ a1 13 w - a 13 w ≤ 400) := lb1
  have A2 : a1 2 = a 2 := f1 2 (by omega) (by omega) (by omega) (by omega) (by omega) (by omega) (by omega) (by omega)
  have A3 : a1 3 = a 3 := f1 3 (by omega) (by omega) (by omega) (by omega) (by omega) (by omega) (by omega) (by omega)
  have A38 : a1 38 = a 38 := f1 38 (by omega) (by omega) (by omega) (by omega) (by omega) (by omega) (by omega) (by omega)
  have A39 : a1 39 = a 39 := f1 39 (by omega) (by omega) (by omega) (by omega) (by omega) (by omega) (by omega) (by omega)
  have A27 : a1 27 = a 27 := f1 27 (by omega) (by omega) (by omega) (by omega) (by omega) (by omega) (by omega) (by omega)
  have A46 : a1 46 = a 46 := f1 46 (by omega) (by omega) (by omega) (by omega) (by omega) (by omega) (by omega) (by omega)
  refine ⟨⟨⟨?_, ?_, ?_, ?_, ?_, ?_⟩, ?_⟩, j2.fr A2 (fun k k0 k1 => f1 k (by omega) (by omega) (by omega) (by omega) (by omega) (by omega) (by omega) (by omega)) (by rw [A27]), fun k k0 k1 => ?_, ⟨?_, fun w w0 w1 => ?_, ?_, ?_⟩, ?_, j6.fr A46, j7.fr (by rw [A27])⟩
  · show KR (a1 2); rw [A2]; exact v1
  · show BR (a1 3); rw [A3]; exact v2
  · show PR (a1 4); exact row_PR (stepP_PR _ _) g4
  · show PR (a1 5); exact row_PR (stepD_PR _ _ _) g5
  · show WF (a1 2) (a1 4); rw [A2]; exact row_WF (stepP_WF _ _) g4
  · show DS (a1 5) (a1 4); exact row_DS (step_DS v3 v4 v6) g5 g4
  · rw [A2, A3]; exact q6
  · obtain ⟨y1, y2, y3⟩ := p1 k k0
    obtain ⟨w1, w2, w3⟩ := j3 k k0 k1
    have b1 := hN_384 (a 2) (a 3) (mt (a 4)) k
    have b2 := hR_192 (a 2) (a 3) (mt (a 4)) k
    have b3 := hU_768 (a 2) (a 3) (mt (a 4)) k
    rw [y1, y2, y3]
    omega
  · omega
  · have := m3 w w0 w1
    have := lb1 w w0 w1
    omega
  · rw [l1 0 (Or.inl rfl)]; exact m4
  · rw [l1 1 (Or.inr rfl)]; exact m5
  · unfold IS
    have z05 : a1 0 5 = a 0 5 + 1 := by rw [c1, if_neg (by omega), if_pos rfl]
    have z06 : a1 0 6 = if cl = 1 then a 0 6 + 1 else 0 := by rw [c1, if_pos rfl]
    have zr : 0 ≤ a1 0 6 ∧ a1 0 6 ≤ a 0 6 + 1 := by
      rw [z06]
      split <;> omega
    rw [z05, A38, A39]
    refine ⟨by omega, by omega, x3, fun k k0 k1 => ?_⟩
    obtain ⟨y2, y3, y4⟩ := x4 k k0 k1
    obtain ⟨r11, r12⟩ := r1 k k0 k1
    rw [r11]
    refine ⟨?_, fun z => ⟨(y3 z).1, ?_⟩, fun z => ?_⟩
    · split <;> omega
    · rw [if_pos z]; have := (y3 z).2; omega
    · rw [if_neg (by omega), y4 z]; rfl
theorem Bk.I {h e s r n : Int} {a a1 : qSt} (H : I h e s r n a) (hs : 1 ≤ a 0 6) (S : Bk a a1) : I (h + 1) (e + 1) s r n a1 := by
  obtain ⟨⟨hW, q6⟩, j2, j3, ⟨m2, m3, m4, m5⟩, ⟨x1, x2, x3, x4⟩, j6, j7⟩ := H
  obtain ⟨v1, v2, v3, v4, v5, v6⟩ := id hW
  have v1 : KR (a 2) := v1
  have v2 : BR (a 3) := v2
  have v3 : PR (a 4) := v3
  have v4 : PR (a 5) := v4
  have v5 : WF (a 2) (a 4) := v5
  have v6 : DS (a 5) (a 4) := v6
  obtain ⟨f1, c1, n1, g4, g5, p1, l1, ⟨lb0, lb1⟩, r1⟩ := S
  have lb0 : -400 ≤ a1 1 12 - a 1 12 ∧ a1 1 12 - a 1 12 ≤ 400 := lb0
  have lb1 : ∀ w, 0 ≤ w → w < 4 → (-400 ≤ a1 11 w - a 11 w ∧ a1 11 w - a 11 w ≤ 400) ∧ (-400 ≤ a1 12 w - a 12 w ∧ a1 12 w - a 12 w ≤ 400) ∧ (-400 ≤ a1 13 w - a 13 w ∧ a1 13 w - a 13 w ≤ 400) := lb1
  have A2 : a1 2 = a 2 := f1 2 (by omega) (by omega) (by omega) (by omega)
  have A3 : a1 3 = a 3 := f1 3 (by omega) (by omega) (by omega) (by omega)
  have A38 : a1 38 = a 38 := f1 38 (by omega) (by omega) (by omega) (by omega)
  have A39 : a1 39 = a 39 := f1 39 (by omega) (by omega) (by omega) (by omega)
  have A27 : a1 27 = a 27 := f1 27 (by omega) (by omega) (by omega) (by omega)
  have A46 : a1 46 = a 46 := f1 46 (by omega) (by omega) (by omega) (by omega)
  refine ⟨⟨⟨?_, ?_, ?_, ?_, ?_, ?_⟩, ?_⟩, j2.fr A2 (fun k k0 k1 => f1 k (by omega) (by omega) (by omega) (by omega)) (by rw [A27]), fun k k0 k1 => ?_, ⟨?_, fun w w0 w1 => ?_, ?_, ?_⟩, ?_, j6.fr A46, j7.fr (by rw [A27])⟩
  · show KR (a1 2); rw [A2]; exact v1
  · show BR (a1 3); rw [A3]; exact v2
  · show PR (a1 4); exact row_PR (backP_PR _ _) g4
  · show PR (a1 5); exact row_PR (backD_PR _ _ _) g5
  · show WF (a1 2) (a1 4); rw [A2]; exact row_WF (backP_WF _ _) g4
  · show DS (a1 5) (a1 4); exact row_DS (back_DS v3 v4 v6) g5 g4
  · rw [A2, A3]; exact q6
  · obtain ⟨y1, y2, y3⟩ := p1 k k0
    obtain ⟨w1, w2, w3⟩ := j3 k k0 k1
    have b1 := hN_384 (a 2) (a 3) (t2r (a 4)) k
    have b2 := hR_192 (a 2) (a 3) (t2r (a 4)) k
    have b3 := hU_768 (a 2) (a 3) (t2r (a 4)) k
    rw [y1, y2, y3]
    omega
  · omega
  · have := m3 w w0 w1
    have := lb1 w w0 w1
    omega
  · rw [l1 0 (Or.inl rfl)]; exact m4
  · rw [l1 1 (Or.inr rfl)]; exact m5
  · unfold IS
    have z05 : a1 0 5 = a 0 5 - 1 := by rw [c1, if_neg (by omega), if_pos rfl]
    have z06 : a1 0 6 = a 0 6 - 1 := by rw [c1, if_pos rfl]
    rw [z05, z06, A38, A39]
    refine ⟨by omega, by omega, x3, fun k k0 k1 => ?_⟩
    obtain ⟨y2, y3, y4⟩ := x4 k k0 k1
    have r11 := r1 k k0 k1
    rw [r11]
    by_cases z : k < a 38 3
    · have := (y3 z).2
      rw [if_pos z]
      exact ⟨by omega, fun _ => ⟨(y3 z).1, by omega⟩, fun z2 => by omega⟩
    · have y5 := y4 (by omega)
      rw [if_neg z]
      exact ⟨by omega, fun z2 => absurd z2 z, fun _ => by omega⟩
/-- what the law sees of a state -/
def OB (a b : qSt) : Prop := b 0 5 = a 0 5 ∧ b 0 6 = a 0 6 ∧ b 1 12 = a 1 12 ∧ b 2 = a 2 ∧ b 3 = a 3 ∧ b 4 = a 4 ∧ b 5 = a 5 ∧ ∀ k, 0 ≤ k → b 8 k = a 8 k ∧ b 9 k = a 9 k ∧ b 10 k = a 10 k
theorem OB.rf (a : qSt) : OB a a := ⟨rfl, rfl, rfl, rfl, rfl, rfl, rfl, fun _ _ => ⟨rfl, rfl, rfl⟩⟩
theorem OB.kept {a b c : qSt} (h : OB a b) (g : keepA b c) : OB a c := by
  obtain ⟨h1, h2, h3, h4, h5, h6, h7, h8⟩ := h
  obtain ⟨g1, g2, g3, g4, g5, g6⟩ := g
  refine ⟨g1.trans h1, g2.trans h2, g3.trans h3, (g6 2 (by omega)).trans h4, (g6 3 (by omega)).trans h5, (g6 4 (by omega)).trans h6, (g6 5 (by omega)).trans h7, fun k k0 => ?_⟩
  rw [g6 8 (by omega), g6 9 (by omega), g6 10 (by omega)]
  exact h8 k k0
/-- one STEP, undone -/
theorem undo_one {a a1 b b1 : qSt} (hW : WOK 1 a) (hc : CLO (a 2)) (S : St 1 a a1) (hb : OB a1 b) (B : Bk b b1) : OB a b1 := by
  obtain ⟨v1, v2, v3, v4, v5, v6⟩ := hW
  have v3 : PR (a 4) := v3
  have v4 : PR (a 5) := v4
  have v5 : WF (a 2) (a 4) := v5
  have v6 : DS (a 5) (a 4) := v6
  obtain ⟨f1, c1, n1, g4, g5, p1, -, -, -⟩ := S
  obtain ⟨f2, c2, n2, h4, h5, p2, -, -, -⟩ := B
  obtain ⟨o05, o06, o12, o2, o3, o4, o5, o8⟩ := hb
  have A2 : a1 2 = a 2 := f1 2 (by omega) (by omega) (by omega) (by omega) (by omega) (by omega) (by omega) (by omega)
  have A3 : a1 3 = a 3 := f1 3 (by omega) (by omega) (by omega) (by omega) (by omega) (by omega) (by omega) (by omega)
  have B2 : b1 2 = b 2 := f2 2 (by omega) (by omega) (by omega) (by omega)
  have B3 : b1 3 = b 3 := f2 3 (by omega) (by omega) (by omega) (by omega)
  obtain ⟨u1, u2, u3⟩ := undo_pure (bd := a 3) hc v3 v4 v5 v6 (p := a1 4) (d := a1 5) (fun c c0 c1 => by rw [g4, if_pos ⟨c0, c1⟩]) (fun c c0 c1 => by rw [g5, if_pos ⟨c0, c1⟩])
  rw [o2, A2, o4] at h4 n2
  rw [o2, A2, o4, o5] at h5
  refine ⟨?_, ?_, ?_, by rw [B2, o2, A2], by rw [B3, o3, A3], funext fun x => ?_, funext fun x => ?_, fun k k0 => ?_⟩
  · rw [c2, if_neg (by omega), if_pos rfl, o05, c1, if_neg (by omega), if_pos rfl]; omega
  · rw [c2, if_pos rfl, o06, c1, if_pos rfl, if_pos rfl]; omega
  · rw [n2, o12, n1, u2]; omega
  · rw [h4]
    by_cases hx : 0 ≤ x ∧ x < 96
    · rw [if_pos hx]; exact (u1 x hx.1 hx.2).1
    · rw [if_neg hx, g4, if_neg hx]
  · rw [h5]
    by_cases hx : 0 ≤ x ∧ x < 96
    · rw [if_pos hx]; exact (u1 x hx.1 hx.2).2
    · rw [if_neg hx, g5, if_neg hx]
  · obtain ⟨y1, y2, y3⟩ := p2 k k0
    obtain ⟨z1, z2, z3⟩ := o8 k k0
    obtain ⟨w1, w2, w3⟩ := p1 k k0
    obtain ⟨t1, t2, t3⟩ := u3 k k0
    rw [y1, y2, y3, z1, z2, z3, w1, w2, w3, o2, o3, o4, A2, A3, t1, t2, t3]
    omega
/-- n STEPS of closed water; n back -/
def SF : Nat → qSt → qSt → Prop
  | 0, a, a' => a' = a
  | n + 1, a, a' => ∃ a1, SF n a a1 ∧ WOK 1 a1 ∧ CLO (a1 2) ∧ St 1 a1 a'
def BF : Nat → qSt → qSt → Prop
  | 0, b, b' => b' = b
  | n + 1, b, b' => ∃ b1, Bk b b1 ∧ BF n b1 b'
theorem undo_all : ∀ (n : Nat) (a a' b b' : qSt), SF n a a' → OB a' b → BF n b b' → OB a b' := by
  intro n
  induction n with
  | zero =>
    intro a a' b b' h1 h2 h3
    have h1 : a' = a := h1
    have h3 : b' = b := h3
    rw [h1] at h2
    rw [h3]
    exact h2
  | succ n ih =>
    intro a a' b b' h1 h2 h3
    obtain ⟨a1, s1, s2, s3, s4⟩ := h1
    obtain ⟨b1, t1, t2⟩ := h3
    exact ih a a1 b1 b' s1 (undo_one s2 s3 s4 h2 t1) t2
theorem SF.cnt : ∀ (n : Nat) (a a' : qSt), SF n a a' → cnt (a' 4) = cnt (a 4) := by
  intro n
  induction n with
  | zero =>
    intro a a' h1
    have h1 : a' = a := h1
    rw [h1]
  | succ n ih =>
    intro a a' h1
    obtain ⟨a1, s1, ⟨v1, v2, v3, v4, v5, v6⟩, s3, ⟨f1, c1, n1, g4, g5⟩⟩ := h1
    have v5 : WF (a1 2) (a1 4) := v5
    rw [← ih a a1 s1]
    exact cnt_step s3 v5 (fun c c0 c1 => by rw [g4, if_pos ⟨c0, c1⟩])
theorem m_closedA {a : qSt} (hk : KR (a 2)) : (fX3_isClosed 1 a = some 1 ∧ CLO (a 2)) ∨ (fX3_isClosed 1 a = some 0 ∧ ¬ CLO (a 2)) := by
  unfold fX3_isClosed
  rcases mloopX (S := Unit) (P := fun i _ => ∀ c, 0 ≤ c → c < i → a 2 c ≠ 2 ∧ a 2 c ≠ 3) (F := fun f i _ => fX3_isClosed_c10 1 a f 96 i) (R := fun _ => some 1) (Q := fun z => z = 0 ∧ ∃ c, 0 ≤ c ∧ c < 96 ∧ (a 2 c = 2 ∨ a 2 c = 3)) 96 (by omega) (by omega) (fun f _ _ => by
    show fX3_isClosed_c10 1 a (f + 1) 96 96 = _
    rw [fX3_isClosed_c10, if_pos (by rw [mI_le] <;> omega)]) (fun f i _ i0 i1 hP => by
    have hr := hk i i0 i1
    show (∃ s1 : Unit, fX3_isClosed_c10 1 a (f + 1) 96 i = fX3_isClosed_c10 1 a f 96 (i + 1) ∧ _) ∨ ∃ z, fX3_isClosed_c10 1 a (f + 1) 96 i = some z ∧ _
    rw [fX3_isClosed_c10, if_neg (by rw [mI_le] <;> omega), if_pos ⟨i0, i1⟩, mqb]
    show (∃ s1 : Unit, (if qI (a 2 i) = qI 2 then _ else if qI (a 2 i) = qI 3 then _ else _) = _ ∧ _) ∨ ∃ z, (if qI (a 2 i) = qI 2 then _ else if qI (a 2 i) = qI 3 then _ else _) = _ ∧ _
    rw [iI_eq (by omega) (by omega) (by omega) (by omega), iI_eq (by omega) (by omega) (by omega) (by omega)]
    by_cases e2 : a 2 i = 2
    · rw [if_pos e2]; exact Or.inr ⟨0, rfl, rfl, i, i0, i1, Or.inl e2⟩
    rw [if_neg e2]
    by_cases e3 : a 2 i = 3
    · rw [if_pos e3]; exact Or.inr ⟨0, rfl, rfl, i, i0, i1, Or.inr e3⟩
    rw [if_neg e3]
    refine Or.inl ⟨(), rfl, fun c c0 c1 => ?_⟩
    by_cases e : c = i
    · rw [e]; exact ⟨e2, e3⟩
    · exact hP c c0 (by omega)) (s := ()) (fun c _ _ => by omega) with ⟨_, e1, p1⟩ | ⟨z, e1, rfl, c, c0, c1, p1⟩
  · exact Or.inl ⟨e1, p1⟩
  · exact Or.inr ⟨e1, fun z => p1.elim (z c c0 c1).1 (z c c0 c1).2⟩
/-- the loop of STEPS: closed, or not -/
theorem x_steps {N : Int} (hN : N ≤ 200) {cl : Int} (hcl : cl = 1 ∨ cl = 0) (a0 : qSt) : ∀ (n f j : Nat) (i h e s r m : Int) (a : qSt), i + n = N → n < f → i = j → I h e s r m a → (cl = 1 → CLO (a 2) ∧ SF j a0 a ∧ a 0 6 = a0 0 6 + j) → s + n ≤ 5000 → ∃ a', fX5_step_c49 f N cl i a = some (0, a' 0 5, a') ∧ I (h + n) (e + n) (s + n) r m a' ∧ a' 0 5 = a 0 5 + n ∧ a' 38 = a 38 ∧ (cl = 1 → SF (j + n) a0 a' ∧ a' 0 6 = a0 0 6 + N) ∧ (cl = 0 → 1 ≤ n → a' 0 6 = 0) := by
  intro n
  induction n with
  | zero =>
    intro f j i h e s r m a h1 h2 h3 h4 h5 h6
    obtain ⟨f, rfl⟩ : ∃ f', f = f' + 1 := ⟨f - 1, by omega⟩
    have e9 : i = N := by omega
    refine ⟨a, ?_, h4.mono (by omega) (by omega) (by omega) (by omega) (by omega), by omega, rfl, fun z => ⟨(h5 z).2.1, by rw [(h5 z).2.2]; omega⟩, fun _ z => by omega⟩
    rw [fX5_step_c49, if_pos (by rw [mI_le] <;> omega)]
  | succ n ih =>
    intro f j i h e s r m a h1 h2 h3 h4 h5 h6
    obtain ⟨f, rfl⟩ : ∃ f', f = f' + 1 := ⟨f - 1, by omega⟩
    have hS := h4.2.2.2.2.1
    obtain ⟨x1, x2, x3, x4⟩ := id hS
    obtain ⟨a1, e1, S⟩ := cls_step h4.1.1 x3 (fun k k0 k1 => by have := x4 k k0 (by omega); exact ⟨(this.2.1 k1).1, by omega⟩) hcl (fX5_step_c49 f) N i
    have S : St cl a a1 := S
    have A2 : a1 2 = a 2 := S.1 2 (by omega) (by omega) (by omega) (by omega) (by omega) (by omega) (by omega) (by omega)
    have A38 : a1 38 = a 38 := S.1 38 (by omega) (by omega) (by omega) (by omega) (by omega) (by omega) (by omega) (by omega)
    have z05 : a1 0 5 = a 0 5 + 1 := by rw [S.2.1, if_neg (by omega), if_pos rfl]
    have z06 : a1 0 6 = if cl = 1 then a 0 6 + 1 else 0 := by rw [S.2.1, if_pos rfl]
    obtain ⟨a2, d1, d2, d3, d4, d5, d6⟩ := ih f (j + 1) (i + 1) (h + 1) (e + 1) (s + 1) r m a1 (by omega) (by omega) (by omega) (S.I h4) (fun z => by
      obtain ⟨q1, q2, q3⟩ := h5 z
      refine ⟨by rw [A2]; exact q1, ⟨a, q2, h4.1.1, q1, by rw [z] at S; exact S⟩, ?_⟩
      rw [z06, if_pos z, q3]; omega) (by omega)
    refine ⟨a2, ?_, d2.mono (by omega) (by omega) (by omega) (by omega) (by omega), by omega, d4.trans A38, fun z => ?_, fun z _ => ?_⟩
    · rw [fX5_step_c49, if_neg (by rw [mI_le] <;> omega), e1]; exact d1
    · obtain ⟨q1, q2⟩ := d5 z
      exact ⟨by rw [show j + (n + 1) = j + 1 + n by omega]; exact q1, q2⟩
    · by_cases e9 : 1 ≤ n
      · exact d6 z e9
      · have e8 : n = 0 := by omega
        subst e8
        obtain ⟨f, rfl⟩ : ∃ f', f = f' + 1 := ⟨f - 1, by omega⟩
        rw [fX5_step_c49, if_pos (by rw [mI_le] <;> omega)] at d1
        have := (Prod.mk.inj (Prod.mk.inj (Option.some.inj d1)).2).2
        rw [← this, z06, if_neg (by omega)]
theorem s_step {h e s r n : Int} {a : qSt} (H : I h e s r n a) {m : Int} (m0 : 1 ≤ m) (m1 : m ≤ 200) (hs : s + m ≤ 5000) : ∃ a', fL_step m a = some (a 0 5 + m, a') ∧ I (h + m) (e + m) (s + m) r n a' ∧ a' 38 3 = a 38 3 ∧ a' 0 5 = a 0 5 + m ∧ ((SF m.toNat a a' ∧ a' 0 6 = a 0 6 + m) ∨ a' 0 6 = 0) := by
  have hS := H.2.2.2.2.1
  obtain ⟨x1, x2, x3, x4⟩ := id hS
  have hk : KR (a 2) := H.1.1.1
  have e5 : fX5_step m a = (fX3_isClosed 1 a).bind fun cl => fX5_step_c49 qFU m cl 0 a := by
    unfold fX5_step
    rw [outs0 (by omega) (by omega) m0 m1, Option.bind_some, iI_no, iI_le (by omega) (by omega) (by omega) (by omega), if_pos (by omega)]
  have fin : ∀ a' : qSt, fX5_step m a = some (0, a' 0 5, a') → a' 0 5 = a 0 5 + m → fL_step m a = some (a 0 5 + m, a') := fun a' q1 q2 => by
    unfold fL_step
    rw [q1, mqbx, if_pos rfl, q2, m_i2l (by omega) (by omega)]
  rcases m_closedA hk with ⟨q, hc⟩ | ⟨q, hc⟩
  · obtain ⟨a', d1, d2, d3, d4, d5, d6⟩ := x_steps m1 (cl := 1) (Or.inl rfl) a m.toNat qFU 0 0 h e s r n a (by omega) (by unfold qFU; omega) (by omega) H (fun _ => ⟨hc, rfl, by omega⟩) (by omega)
    have hm : ((m.toNat : Nat) : Int) = m := by omega
    rw [hm] at d2 d3
    refine ⟨a', fin a' (by rw [e5, q, Option.bind_some, d1]) d3, d2, by rw [d4], d3, Or.inl ⟨?_, (d5 rfl).2⟩⟩
    have := (d5 rfl).1
    rw [Nat.zero_add] at this
    exact this
  · obtain ⟨a', d1, d2, d3, d4, d5, d6⟩ := x_steps m1 (cl := 0) (Or.inr rfl) a m.toNat qFU 0 0 h e s r n a (by omega) (by unfold qFU; omega) (by omega) H (fun z => by omega) (by omega)
    have hm : ((m.toNat : Nat) : Int) = m := by omega
    rw [hm] at d2 d3
    exact ⟨a', fin a' (by rw [e5, q, Option.bind_some, d1]) d3, d2, by rw [d4], d3, Or.inr (d6 rfl (by omega))⟩
theorem x_backs {N : Int} (hN : N ≤ 200) : ∀ (n f : Nat) (i h e s r m : Int) (a : qSt), i + n = N → n < f → 0 ≤ i → I h e s r m a → n ≤ a 0 6 → s ≤ 5000 → ∃ a', fX5_back_c37 f N i a = some (0, a' 0 5, a') ∧ I (h + n) (e + n) s r m a' ∧ a' 0 5 = a 0 5 - n ∧ a' 38 = a 38 ∧ BF n a a' := by
  intro n
  induction n with
  | zero =>
    intro f i h e s r m a h1 h2 h3 h4 h5 h6
    obtain ⟨f, rfl⟩ : ∃ f', f = f' + 1 := ⟨f - 1, by omega⟩
    refine ⟨a, ?_, h4.mono (by omega) (by omega) (by omega) (by omega) (by omega), by omega, rfl, rfl⟩
    rw [fX5_back_c37, if_pos (by rw [mI_le] <;> omega)]
  | succ n ih =>
    intro f i h e s r m a h1 h2 h3 h4 h5 h6
    obtain ⟨f, rfl⟩ : ∃ f', f = f' + 1 := ⟨f - 1, by omega⟩
    have hS := h4.2.2.2.2.1
    obtain ⟨x1, x2, x3, x4⟩ := id hS
    obtain ⟨a1, e1, S⟩ := cls_back h4.1.1 x3 (fun k k0 k1 => by have := x4 k k0 (by omega); have := (this.2.1 k1).2; omega) (fX5_back_c37 f) N i
    have S : Bk a a1 := S
    have A38 : a1 38 = a 38 := S.1 38 (by omega) (by omega) (by omega) (by omega)
    have z05 : a1 0 5 = a 0 5 - 1 := by rw [S.2.1, if_neg (by omega), if_pos rfl]
    have z06 : a1 0 6 = a 0 6 - 1 := by rw [S.2.1, if_pos rfl]
    obtain ⟨a2, d1, d2, d3, d4, d5⟩ := ih f (i + 1) (h + 1) (e + 1) s r m a1 (by omega) (by omega) (by omega) (S.I h4 (by omega)) (by omega) h6
    refine ⟨a2, ?_, d2.mono (by omega) (by omega) (by omega) (by omega) (by omega), by omega, d4.trans A38, a1, S, d5⟩
    rw [fX5_back_c37, if_neg (by rw [mI_le] <;> omega), e1]
    exact d1
theorem s_back {h e s r n : Int} {a : qSt} (H : I h e s r n a) {m : Int} (m0 : 1 ≤ m) (m1 : m ≤ 200) (hs : s ≤ 5000) : (a 0 6 < m → fL_back m a = some (-9000000000000000003, a)) ∧ (m ≤ a 0 6 → ∃ a', fL_back m a = some (a 0 5 - m, a') ∧ I (h + m) (e + m) s r n a' ∧ a' 38 3 = a 38 3 ∧ BF m.toNat a a') := by
  have hS := H.2.2.2.2.1
  obtain ⟨x1, x2, x3, x4⟩ := id hS
  have e5 : fX5_back m a = if m ≤ a 0 6 then fX5_back_c37 qFU m 0 a else some (3, 0, a) := by
    unfold fX5_back
    rw [outs0 (by omega) (by omega) m0 m1, Option.bind_some, iI_no, iI_le (by omega) (by omega) (by omega) (by omega)]
  refine ⟨fun e9 => ?_, fun e9 => ?_⟩
  · unfold fL_back
    rw [e5, if_neg (by omega), mqbx]
    rfl
  · obtain ⟨a', d1, d2, d3, d4, d5⟩ := x_backs m1 m.toNat qFU 0 h e s r n a (by omega) (by unfold qFU; omega) (by omega) H (by omega) hs
    have hm : ((m.toNat : Nat) : Int) = m := by omega
    rw [hm] at d2 d3
    refine ⟨a', ?_, d2, by rw [d4], d5⟩
    unfold fL_back
    rw [e5, if_pos e9, d1, mqbx, if_pos rfl, d3, m_i2l (by omega) (by omega)]
/-- what is seen alike is bounded alike -/
theorem I.ob {h e s r n h' e' s' r' n' : Int} {a b : qSt} (H : I h e s r n a) (B : I h' e' s' r' n' b) (o : OB a b) : I h e' s r' n' b := by
  obtain ⟨o05, o06, o12, o2, o3, o4, o5, o8⟩ := o
  obtain ⟨j1, j2, j3, j4, ⟨x1, x2, x3, x4⟩, j6, j7⟩ := B
  refine ⟨j1, j2, fun k k0 k1 => ?_, j4, ⟨?_, x2, x3, x4⟩, j6, j7⟩
  · obtain ⟨z1, z2, z3⟩ := o8 k k0
    rw [z1, z2, z3]
    exact H.2.2.1 k k0 k1
  · rw [o05]
    exact H.2.2.2.2.1.1
