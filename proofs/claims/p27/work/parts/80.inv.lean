/-! ===== what holds of the class between its calls ===== -/
def IW (a : qSt) : Prop := WOK 1 a ∧ ∀ c, 0 ≤ c → c < 96 → a 3 c ≠ -1 → a 2 c = 1
def IC (n : Int) (a : qSt) : Prop := (∀ c w : Int, 0 ≤ c → c < 96 → 0 ≤ w → w < 4 → 0 ≤ a (30 + w.toNat) c ∧ (a 2 c = 1 → a (30 + w.toNat) c = 0) ∧ a (34 + w.toNat) c = 0) ∧ a 27 2 = sm (rq a) 384 ∧ a 27 2 ≤ n
def IH (h : Int) (a : qSt) : Prop := ∀ k, 0 ≤ k → k < 4 → (-(384 * h) ≤ a 8 k ∧ a 8 k ≤ 384 * h) ∧ (-(192 * h) ≤ a 9 k ∧ a 9 k ≤ 192 * h) ∧ (-(768 * h) ≤ a 10 k ∧ a 10 k ≤ 768 * h)
def IA (e : Int) (a : qSt) : Prop := (-(1000 * e) ≤ a 1 12 ∧ a 1 12 ≤ 1000 * e) ∧ (∀ w, 0 ≤ w → w < 4 → (-(1000 * e) ≤ a 11 w ∧ a 11 w ≤ 1000 * e) ∧ (-(1000 * e) ≤ a 12 w ∧ a 12 w ≤ 1000 * e) ∧ (-(1000 * e) ≤ a 13 w ∧ a 13 w ≤ 1000 * e)) ∧ LA 1 a 0 = 0 ∧ LA 1 a 1 = 0
def IS (s : Int) (a : qSt) : Prop := (0 ≤ a 0 5 ∧ a 0 5 ≤ s) ∧ (0 ≤ a 0 6 ∧ a 0 6 ≤ a 0 5) ∧ (0 ≤ a 38 3 ∧ a 38 3 ≤ 4) ∧ ∀ k : Int, 0 ≤ k → k < 4 → (0 ≤ a 40 k ∧ a 40 k ≤ a 0 5) ∧ (k < a 38 3 → (0 ≤ a 39 k ∧ a 39 k < 96) ∧ a 0 6 ≤ a 40 k) ∧ (a 38 3 ≤ k → a 40 k = 0)
def IF (a : qSt) : Prop := ∀ k, 0 ≤ k → k < 4 → -5 ≤ a 46 k ∧ a 46 k ≤ 5
def IR (r : Int) (a : qSt) : Prop := 0 ≤ a 27 3 ∧ a 27 3 ≤ r
/-- hits by h STEPS, accounts by e, STEPS s, rounds r, counts n -/
def I (h e s r n : Int) (a : qSt) : Prop := IW a ∧ IC n a ∧ IH h a ∧ IA e a ∧ IS s a ∧ IF a ∧ IR r a
theorem IW.fr {a a' : qSt} (h : IW a) (h1 : ∀ k, 2 ≤ k → k ≤ 5 → a' k = a k) : IW a' := by
  unfold IW WOK at *
  show (KR (a' 2) ∧ BR (a' 3) ∧ PR (a' 4) ∧ PR (a' 5) ∧ WF (a' 2) (a' 4) ∧ DS (a' 5) (a' 4)) ∧ _
  rw [h1 2 (by omega) (by omega), h1 3 (by omega) (by omega), h1 4 (by omega) (by omega), h1 5 (by omega) (by omega)]
  exact h
theorem rq_fr {a a' : qSt} (h1 : ∀ k, 30 ≤ k → k ≤ 33 → a' k = a k) : sm (rq a') 384 = sm (rq a) 384 :=
  sm_congr' fun c w _ _ w0 w1 => by unfold rq; rw [h1 (30 + w.toNat) (by omega) (by omega)]
theorem IC.fr {n : Int} {a a' : qSt} (h : IC n a) (h0 : a' 2 = a 2) (h1 : ∀ k, 30 ≤ k → k ≤ 37 → a' k = a k) (h3 : a' 27 2 = a 27 2) : IC n a' := by
  obtain ⟨x, y, z⟩ := h
  refine ⟨fun c w c0 c1 w0 w1 => ?_, ?_, ?_⟩
  · rw [h1 (30 + w.toNat) (by omega) (by omega), h1 (34 + w.toNat) (by omega) (by omega), h0]
    exact x c w c0 c1 w0 w1
  · rw [h3, rq_fr (fun k k0 k1 => h1 k k0 (by omega))]; exact y
  · rw [h3]; exact z
theorem IH.fr {t : Int} {a a' : qSt} (h : IH t a) (h1 : ∀ k, 8 ≤ k → k ≤ 10 → a' k = a k) : IH t a' := fun k k0 k1 => by
  rw [h1 _ (by omega) (by omega), h1 _ (by omega) (by omega), h1 _ (by omega) (by omega)]
  exact h k k0 k1
theorem LA_fr {a a' : qSt} (u : Int) (h1 : ∀ k, 11 ≤ k → k ≤ 13 → a' k = a k) (h4 : a' 4 = a 4) : LA 1 a' u = LA 1 a u := by
  unfold LA
  show (a' 11 u - a' 11 (u + 2)) - gs u (a' 4) - (a' 12 u - a' 12 (u + 2)) - 2 * (a' 13 u - a' 13 (u + 2)) = (a 11 u - a 11 (u + 2)) - gs u (a 4) - (a 12 u - a 12 (u + 2)) - 2 * (a 13 u - a 13 (u + 2))
  rw [h1 11 (by omega) (by omega), h1 12 (by omega) (by omega), h1 13 (by omega) (by omega), h4]
theorem IA.fr {t : Int} {a a' : qSt} (h : IA t a) (h1 : ∀ k, 11 ≤ k → k ≤ 13 → a' k = a k) (h4 : a' 4 = a 4) (h3 : a' 1 12 = a 1 12) : IA t a' := by
  obtain ⟨x1, x2, x3, x4⟩ := h
  refine ⟨by rw [h3]; exact x1, fun w w0 w1 => ?_, ?_, ?_⟩
  · rw [h1 11 (by omega) (by omega), h1 12 (by omega) (by omega), h1 13 (by omega) (by omega)]; exact x2 w w0 w1
  · rw [LA_fr 0 h1 h4]; exact x3
  · rw [LA_fr 1 h1 h4]; exact x4
theorem IS.fr {t : Int} {a a' : qSt} (h : IS t a) (h1 : ∀ k, 38 ≤ k → k ≤ 40 → a' k = a k) (h0 : a' 0 5 = a 0 5 ∧ a' 0 6 = a 0 6) : IS t a' := by
  unfold IS
  rw [h0.1, h0.2, h1 38 (by omega) (by omega), h1 39 (by omega) (by omega), h1 40 (by omega) (by omega)]
  exact h
theorem IF.fr {a a' : qSt} (h : IF a) (h1 : a' 46 = a 46) : IF a' := by
  unfold IF
  rw [h1]
  exact h
theorem IR.fr {r : Int} {a a' : qSt} (h : IR r a) (h1 : a' 27 3 = a 27 3) : IR r a' := by
  unfold IR
  rw [h1]
  exact h
theorem I.keep {h e s r n : Int} {a a' : qSt} (H : I h e s r n a) (ha : keepA a a') : I h e s r n a' := by
  obtain ⟨j1, j2, j3, j4, j5, j6, j7⟩ := H
  obtain ⟨a1, a2, a3, a4, a5, a6⟩ := ha
  exact ⟨j1.fr (fun k _ _ => a6 k (by omega)), j2.fr (a6 2 (by omega)) (fun k _ _ => a6 k (by omega)) a4, j3.fr (fun k _ _ => a6 k (by omega)), j4.fr (fun k _ _ => a6 k (by omega)) (a6 4 (by omega)) a3, j5.fr (fun k _ _ => a6 k (by omega)) ⟨a1, a2⟩, j6.fr (a6 46 (by omega)), j7.fr a5⟩
theorem keepA.tr {a b c : qSt} (h : keepA a b) (g : keepA b c) : keepA a c :=
  ⟨g.1.trans h.1, g.2.1.trans h.2.1, g.2.2.1.trans h.2.2.1, g.2.2.2.1.trans h.2.2.2.1, g.2.2.2.2.1.trans h.2.2.2.2.1, fun k hk => (g.2.2.2.2.2 k hk).trans (h.2.2.2.2.2 k hk)⟩
theorem IA.mono {t t' : Int} {a : qSt} (h : IA t a) (ht : t ≤ t') : IA t' a := by
  obtain ⟨x1, x2, x3, x4⟩ := h
  exact ⟨by omega, fun w w0 w1 => by have := x2 w w0 w1; omega, x3, x4⟩
theorem IH.mono {t t' : Int} {a : qSt} (h : IH t a) (ht : t ≤ t') : IH t' a := fun k k0 k1 => by have := h k k0 k1; omega
theorem I.mono {h e s r n h' e' s' r' n' : Int} {a : qSt} (H : I h e s r n a) (h1 : h ≤ h') (h2 : e ≤ e') (h3 : s ≤ s') (h4 : r ≤ r') (h5 : n ≤ n') : I h' e' s' r' n' a := by
  obtain ⟨j1, ⟨c1, c2, c3⟩, j3, j4, ⟨s1, s2, s3, s4⟩, j6, r1, r2⟩ := H
  exact ⟨j1, ⟨c1, c2, by omega⟩, j3.mono h1, j4.mono h2, ⟨by omega, s2, s3, s4⟩, j6, r1, by omega⟩
theorem sm_mem {f : Int → Int → Int} : ∀ n : Nat, (∀ c w : Int, 0 ≤ c → 4 * c + w < n → 0 ≤ w → w < 4 → 0 ≤ f c w) → 0 ≤ sm f n ∧ ∀ c w : Int, 0 ≤ c → 4 * c + w < n → 0 ≤ w → w < 4 → f c w ≤ sm f n := by
  intro n
  induction n with
  | zero => intro _; exact ⟨Int.le_refl _, fun c w c0 h w0 w1 => by omega⟩
  | succ n ih =>
    intro h
    obtain ⟨i1, i2⟩ := ih (fun c w c0 hc w0 w1 => h c w c0 (by omega) w0 w1)
    have hn := h ((n / 4 : Nat) : Int) ((n % 4 : Nat) : Int) (by omega) (by omega) (by omega) (by omega)
    refine ⟨?_, fun c w c0 hc w0 w1 => ?_⟩
    · show 0 ≤ sm f n + f ((n / 4 : Nat) : Int) ((n % 4 : Nat) : Int); omega
    · show f c w ≤ sm f n + f ((n / 4 : Nat) : Int) ((n % 4 : Nat) : Int)
      by_cases e : 4 * c + w < n
      · have := i2 c w c0 e w0 w1; omega
      · have e1 : c = ((n / 4 : Nat) : Int) := by omega
        have e2 : w = ((n % 4 : Nat) : Int) := by omega
        rw [e1, e2]; omega
/-- a count, by all counts -/
theorem IC.r {n : Int} {a : qSt} (h : IC n a) {c w : Int} (c0 : 0 ≤ c) (c1 : c < 96) (w0 : 0 ≤ w) (w1 : w < 4) : 0 ≤ a (30 + w.toNat) c ∧ a (30 + w.toNat) c ≤ n := by
  have hm := sm_mem (f := rq a) 384 (fun c w c0 hc w0 w1 => (h.1 c w c0 (by omega) w0 w1).1)
  have h2 : rq a c w ≤ sm (rq a) 384 := hm.2 c w c0 (by omega) w0 w1
  have h3 : rq a c w = a (30 + w.toNat) c := rfl
  have := h.2.1
  have := h.2.2
  exact ⟨(h.1 c w c0 c1 w0 w1).1, by omega⟩
theorem IC.r0 {n : Int} {a : qSt} (h : IC n a) : 0 ≤ a 27 2 := by
  rw [h.2.1]
  exact (sm_mem (f := rq a) 384 (fun c w c0 hc w0 w1 => (h.1 c w c0 (by omega) w0 w1).1)).1
/-- calls that change cells only, and end the way back -/
theorem I.cells {h e s r n : Int} {a a' : qSt} (H : I h e s r n a) (h2 : KR (a' 2)) (h3 : BR (a' 3)) (h5 : PR (a' 5)) (hw : WF (a' 2) (a 4)) (hds : DS (a' 5) (a 4)) (hb : ∀ c, 0 ≤ c → c < 96 → a' 3 c ≠ -1 → a' 2 c = 1) (hc : ∀ c w : Int, 0 ≤ c → c < 96 → 0 ≤ w → w < 4 → a' 2 c = 1 → a (30 + w.toNat) c = 0) (r0 : a' 0 6 = 0) (ha : ∀ k, k ≠ 0 → k ≠ 2 → k ≠ 3 → k ≠ 5 → a' k = a k) (h05 : a' 0 5 = a 0 5) : I h e s r n a' := by
  obtain ⟨⟨⟨v1, v2, v3, v4, v5, v6⟩, j1⟩, ⟨c1, c2, c3⟩, j3, j4, ⟨s1, s2, s3, s4⟩, j6, j7⟩ := H
  have e4 : a' 4 = a 4 := ha 4 (by omega) (by omega) (by omega) (by omega)
  refine ⟨⟨⟨h2, h3, ?_, h5, ?_, ?_⟩, hb⟩, ⟨fun c w c0 c1' w0 w1 => ?_, ?_, ?_⟩, j3.fr (fun k _ _ => ha k (by omega) (by omega) (by omega) (by omega)), j4.fr (fun k _ _ => ha k (by omega) (by omega) (by omega) (by omega)) e4 (by rw [ha 1 (by omega) (by omega) (by omega) (by omega)]), ?_, j6.fr (ha 46 (by omega) (by omega) (by omega) (by omega)), j7.fr (by rw [ha 27 (by omega) (by omega) (by omega) (by omega)])⟩
  · show PR (a' 4); rw [e4]; exact v3
  · show WF (a' 2) (a' 4); rw [e4]; exact hw
  · show DS (a' 5) (a' 4); rw [e4]; exact hds
  · rw [ha (30 + w.toNat) (by omega) (by omega) (by omega) (by omega), ha (34 + w.toNat) (by omega) (by omega) (by omega) (by omega)]
    have := c1 c w c0 c1' w0 w1
    exact ⟨this.1, hc c w c0 c1' w0 w1, this.2.2⟩
  · rw [ha 27 (by omega) (by omega) (by omega) (by omega), rq_fr (fun k _ _ => ha k (by omega) (by omega) (by omega) (by omega))]; exact c2
  · rw [ha 27 (by omega) (by omega) (by omega) (by omega)]; exact c3
  · unfold IS
    rw [r0, h05, ha 38 (by omega) (by omega) (by omega) (by omega), ha 39 (by omega) (by omega) (by omega) (by omega), ha 40 (by omega) (by omega) (by omega) (by omega)]
    refine ⟨s1, by omega, s3, fun k k0 k1 => ?_⟩
    obtain ⟨y1, y2, y3⟩ := s4 k k0 k1
    exact ⟨y1, fun z => ⟨(y2 z).1, y1.1⟩, y3⟩
