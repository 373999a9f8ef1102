/-! ===== the class's rows and the reference's rows say the same ===== -/
/-- counts by (cell, way), in the reference's row -/
def cq (r : Int → Int) (c w : Int) : Int := r (4 * c + w)
def JW (a b : qSt) : Prop := a 2 = b 48 ∧ a 3 = b 49 ∧ a 4 = b 50 ∧ a 5 = b 51 ∧ WOK 1 a ∧ ∀ c, 0 ≤ c → c < 96 → a 3 c ≠ -1 → a 2 c = 1
def JC (a b : qSt) : Prop := (∀ c w : Int, 0 ≤ c → c < 96 → 0 ≤ w → w < 4 → a (30 + w.toNat) c = b 56 (4 * c + w) ∧ 0 ≤ b 56 (4 * c + w) ∧ (a 2 c = 1 → b 56 (4 * c + w) = 0) ∧ a (34 + w.toNat) c = 0) ∧ a 27 2 = sm (cq (b 56)) 384 ∧ a 27 2 ≤ 1000000
def JH (a b : qSt) : Prop := ∀ k, 0 ≤ k → k < 4 → a 8 k = b 58 (3 * k) ∧ a 9 k = b 58 (3 * k + 1) ∧ a 10 k = b 58 (3 * k + 2)
def JA (t : Int) (a b : qSt) : Prop := a 1 12 = b 47 17 ∧ (-(100000 * t) ≤ a 1 12 ∧ a 1 12 ≤ 100000 * t) ∧ (∀ w, 0 ≤ w → w < 4 → (-(100000 * t) ≤ a 11 w ∧ a 11 w ≤ 100000 * t) ∧ (-(100000 * t) ≤ a 12 w ∧ a 12 w ≤ 100000 * t) ∧ (-(100000 * t) ≤ a 13 w ∧ a 13 w ≤ 100000 * t)) ∧ LA 1 a 0 = 0 ∧ LA 1 a 1 = 0
def JS (a b : qSt) : Prop := a 0 5 = b 47 15 ∧ (0 ≤ a 0 5 ∧ a 0 5 ≤ 5000) ∧ a 0 6 = b 47 16 ∧ (0 ≤ a 0 6 ∧ a 0 6 ≤ a 0 5) ∧ a 38 3 = b 47 19 ∧ (0 ≤ a 38 3 ∧ a 38 3 ≤ 4) ∧ ∀ k : Int, 0 ≤ k → k < 4 → a 40 k = b 62 k ∧ (0 ≤ a 40 k ∧ a 40 k ≤ a 0 5) ∧ (k < a 38 3 → a 39 k = b 61 k ∧ (0 ≤ a 39 k ∧ a 39 k < 96) ∧ a 0 6 ≤ a 40 k) ∧ (a 38 3 ≤ k → a 40 k = 0) ∧ ∀ j, 0 ≤ j → j < a 40 k → a (42 + k.toNat) j = b 63 (5000 * k + j) ∧ (-1 ≤ b 63 (5000 * k + j) ∧ b 63 (5000 * k + j) ≤ 1)
def J (t : Int) (a b : qSt) : Prop := JW a b ∧ JC a b ∧ JH a b ∧ JA t a b ∧ JS a b ∧ a 46 = b 59 ∧ a 27 3 = b 47 18
-- each part by what it speaks of
theorem JW.fr {a b a' b' : qSt} (h : JW a b) (h1 : ∀ k, 2 ≤ k → k ≤ 5 → a' k = a k) (h2 : ∀ k, 48 ≤ k → k ≤ 51 → b' k = b k) : JW a' b' := by
  unfold JW WOK at *
  rw [h1 2 (by omega) (by omega), h1 3 (by omega) (by omega), h1 4 (by omega) (by omega), h1 5 (by omega) (by omega), h2 48 (by omega) (by omega), h2 49 (by omega) (by omega), h2 50 (by omega) (by omega), h2 51 (by omega) (by omega)]
  exact h
theorem JC.fr {a b a' b' : qSt} (h : JC a b) (h0 : a' 2 = a 2) (h1 : ∀ k, 30 ≤ k → k ≤ 37 → a' k = a k) (h3 : a' 27 2 = a 27 2) (h2 : b' 56 = b 56) : JC a' b' := by
  obtain ⟨x, y, z⟩ := h
  refine ⟨fun c w c0 c1 w0 w1 => ?_, ?_, ?_⟩
  · rw [h1 (30 + w.toNat) (by omega) (by omega), h1 (34 + w.toNat) (by omega) (by omega), h0, h2]
    exact x c w c0 c1 w0 w1
  · rw [h3, h2]; exact y
  · rw [h3]; exact z
theorem JH.fr {a b a' b' : qSt} (h : JH a b) (h1 : ∀ k, 8 ≤ k → k ≤ 10 → a' k = a k) (h2 : b' 58 = b 58) : JH a' b' := fun k k0 k1 => by
  rw [h1 _ (by omega) (by omega), h1 _ (by omega) (by omega), h1 _ (by omega) (by omega), h2]
  exact h k k0 k1
theorem JA.fr {t : Int} {a b a' b' : qSt} (h : JA t a b) (h1 : ∀ k, 11 ≤ k → k ≤ 13 → a' k = a k) (h4 : a' 4 = a 4) (h3 : a' 1 12 = a 1 12) (h2 : b' 47 17 = b 47 17) : JA t a' b' := by
  unfold JA LA at *
  show a' 1 12 = b' 47 17 ∧ _ ∧ _ ∧ (a' 11 0 - a' 11 (0 + 2)) - gs 0 (a' 4) - (a' 12 0 - a' 12 (0 + 2)) - 2 * (a' 13 0 - a' 13 (0 + 2)) = 0 ∧ (a' 11 1 - a' 11 (1 + 2)) - gs 1 (a' 4) - (a' 12 1 - a' 12 (1 + 2)) - 2 * (a' 13 1 - a' 13 (1 + 2)) = 0
  rw [h1 11 (by omega) (by omega), h1 12 (by omega) (by omega), h1 13 (by omega) (by omega), h3, h2, h4]
  exact h
theorem JS.fr {a b a' b' : qSt} (h : JS a b) (h1 : ∀ k, 38 ≤ k → k ≤ 45 → a' k = a k) (h0 : a' 0 5 = a 0 5 ∧ a' 0 6 = a 0 6) (h2 : ∀ k, 61 ≤ k → k ≤ 63 → b' k = b k) (h3 : b' 47 15 = b 47 15 ∧ b' 47 16 = b 47 16 ∧ b' 47 19 = b 47 19) : JS a' b' := by
  obtain ⟨x1, x2, x3, x4, x5, x6, x7⟩ := h
  unfold JS
  rw [h0.1, h0.2, h3.1, h3.2.1, h3.2.2, h1 38 (by omega) (by omega)]
  refine ⟨x1, x2, x3, x4, x5, x6, fun k k0 k1 => ?_⟩
  rw [h1 40 (by omega) (by omega), h1 39 (by omega) (by omega), h1 (42 + k.toNat) (by omega) (by omega), h2 61 (by omega) (by omega), h2 62 (by omega) (by omega), h2 63 (by omega) (by omega)]
  exact x7 k k0 k1
/-- what the class keeps, what the reference keeps -/
def keepA (a a' : qSt) : Prop := a' 0 5 = a 0 5 ∧ a' 0 6 = a 0 6 ∧ a' 1 12 = a 1 12 ∧ a' 27 2 = a 27 2 ∧ a' 27 3 = a 27 3 ∧ ∀ k, (2 ≤ k ∧ k ≤ 5) ∨ (8 ≤ k ∧ k ≤ 13) ∨ (30 ≤ k ∧ k ≤ 46) → a' k = a k
theorem keepA38 {a a' : qSt} (h : keepA a a') (h38 : a' 38 = a 38) : ∀ k, 38 ≤ k → k ≤ 45 → a' k = a k := fun k k0 k1 => by
  by_cases e : k = 38
  · rw [e]; exact h38
  · exact h.2.2.2.2.2 k (by omega)
def keepB (b b' : qSt) : Prop := (∀ j, j ≠ 0 → j ≠ 14 → j ≠ 23 → j ≠ 24 → j ≠ 25 → b' 47 j = b 47 j) ∧ ∀ k, (48 ≤ k ∧ k ≤ 51) ∨ k = 56 ∨ k = 58 ∨ k = 59 ∨ (61 ≤ k ∧ k ≤ 63) → b' k = b k
theorem JA.mono {t t' : Int} {a b : qSt} (h : JA t a b) (ht : t ≤ t') : JA t' a b := by
  obtain ⟨x1, x2, x3, x4, x5⟩ := h
  exact ⟨x1, by omega, fun w w0 w1 => by have := x3 w w0 w1; omega, x4, x5⟩
theorem J.keep {t t' : Int} {a b a' b' : qSt} (h : J t a b) (ht : t ≤ t') (ha : keepA a a') (hb : keepB b b') : J t' a' b' := by
  obtain ⟨j1, j2, j3, j4, j5, j6, j7⟩ := h
  obtain ⟨a1, a2, a3, a4, a5, a6⟩ := ha
  obtain ⟨b1, b2⟩ := hb
  refine ⟨j1.fr (fun k _ _ => a6 k (by omega)) (fun k _ _ => b2 k (by omega)), j2.fr (a6 2 (by omega)) (fun k _ _ => a6 k (by omega)) a4 (b2 56 (by omega)), j3.fr (fun k _ _ => a6 k (by omega)) (b2 58 (by omega)), (j4.fr (fun k _ _ => a6 k (by omega)) (a6 4 (by omega)) a3 (b1 17 (by omega) (by omega) (by omega) (by omega) (by omega))).mono ht, j5.fr (fun k _ _ => a6 k (by omega)) ⟨a1, a2⟩ (fun k _ _ => b2 k (by omega)) ⟨b1 15 (by omega) (by omega) (by omega) (by omega) (by omega), b1 16 (by omega) (by omega) (by omega) (by omega) (by omega), b1 19 (by omega) (by omega) (by omega) (by omega) (by omega)⟩, ?_, ?_⟩
  · rw [a6 46 (by omega), b2 59 (by omega)]; exact j6
  · rw [a5, b1 18 (by omega) (by omega) (by omega) (by omega) (by omega)]; exact j7
theorem keepA.rf (a : qSt) : keepA a a := ⟨rfl, rfl, rfl, rfl, rfl, fun _ _ => rfl⟩
theorem keepB.rf (b : qSt) : keepB b b := ⟨fun _ _ _ _ _ _ => rfl, fun _ _ => rfl⟩
theorem keepB.ref (b : qSt) (v : Int) : keepB b (qset b 47 0 v) := ⟨fun j j0 _ _ _ _ => by rw [mset_same]; exact if_neg j0, fun k hk => mset_ne (by omega)⟩
-- the small questions
theorem m_isOutside {σ : qSt} {x l h : Int} (x0 : -2147483648 ≤ x) (x1 : x ≤ 2147483647) (l0 : -2147483648 ≤ l) (l1 : l ≤ 2147483647) (h0 : -2147483648 ≤ h) (h1 : h ≤ 2147483647) : fX5_isOutside σ x l h = some (if l ≤ x ∧ x ≤ h then 0 else 1) := by
  unfold fX5_isOutside
  rw [iI_lt x0 x1 l0 l1, iI_le x0 x1 h0 h1]
  by_cases e : x < l
  · rw [if_pos e, if_neg (by omega)]
  · rw [if_neg e]
    by_cases e2 : x ≤ h
    · rw [if_pos e2, if_pos (by omega)]
    · rw [if_neg e2, if_neg (by omega)]
theorem m_within {σ : qSt} {x l h : Int} (x0 : -2147483648 ≤ x) (x1 : x ≤ 2147483647) (l0 : -2147483648 ≤ l) (l1 : l ≤ 2147483647) (h0 : -2147483648 ≤ h) (h1 : h ≤ 2147483647) : fX6_within σ x l h = some (if l ≤ x ∧ x ≤ h then 1 else 0) := by
  unfold fX6_within
  rw [iI_lt x0 x1 l0 l1, iI_lt h0 h1 x0 x1]
  by_cases e : x < l
  · rw [if_pos e, if_neg (by omega)]
  · rw [if_neg e]
    by_cases e2 : h < x
    · rw [if_pos e2, if_neg (by omega)]
    · rw [if_neg e2, if_pos (by omega)]
theorem m_isCell {σ : qSt} {x : Int} (x0 : -2147483648 ≤ x) (x1 : x ≤ 2147483647) : fX6_isCell σ x = some (if 0 ≤ x ∧ x < 96 then 1 else 0) := by
  unfold fX6_isCell
  rw [m_within x0 x1 (by omega) (by omega) (by omega) (by omega), Option.bind_some]
  by_cases e : 0 ≤ x ∧ x < 96
  · rw [if_pos (show 0 ≤ x ∧ x ≤ 95 by omega), if_pos e, if_pos (Or.inr rfl)]
  · rw [if_neg (show ¬ (0 ≤ x ∧ x ≤ 95) by omega), if_neg e, if_pos (Or.inl rfl)]
theorem m_refused {σ : qSt} {k : Int} (k0 : 0 ≤ k) (k1 : k ≤ 3) : fX6_refused k σ = some (if k = 0 then 0 else 1, qset σ 47 0 k) := by
  unfold fX6_refused
  rw [mqb, iI_eq0 (by omega) (by omega)]
  split <;> rfl
/-- an int of the machine -/
def isI (x : Int) : Prop := -2147483648 ≤ x ∧ x ≤ 2147483647
theorem isI_xs (xs : Nat → Int32) (i : Int) : isI (qXs xs i) := by
  unfold qXs
  have h1 := Int32.le_toInt (xs i.toNat)
  have h2 := Int32.toInt_lt (xs i.toNat)
  exact ⟨by omega, by omega⟩
theorem ref_no {k : Int} {b : qSt} {A : qSt → Option (Int × qSt)} (k0 : 1 ≤ k) (k1 : k ≤ 3) : (qbd (fX6_refused k b) fun (r : Int) (σ1 : qSt) => if qI r = 0 then A σ1 else some (0, σ1)) = some (0, qset b 47 0 k) := by
  rw [m_refused (by omega) k1, mqbd, if_neg (show ¬ k = 0 by omega), iI_yes]
theorem ref_ok {b : qSt} {A : qSt → Option (Int × qSt)} {C : Int → qSt → Option (Int × qSt)} : (qbd (fX6_refused 0 b) fun (r : Int) (σ1 : qSt) => if qI r = 0 then A σ1 else C r σ1) = A (qset b 47 0 0) := by
  rw [m_refused (by omega) (by omega), mqbd, if_pos rfl, iI_no]
theorem noCell0 {σ : qSt} {x : Int} (h0 : 0 ≤ x) (h1 : x < 96) : fX5_isNoCell σ x = some 0 := by rw [m_isNoCell (by omega) (by omega), if_pos ⟨h0, h1⟩]
theorem noCell1 {σ : qSt} {x : Int} (h : isI x) (h1 : ¬ (0 ≤ x ∧ x < 96)) : fX5_isNoCell σ x = some 1 := by rw [m_isNoCell h.1 h.2, if_neg h1]
theorem noBody0 {σ : qSt} {x : Int} (h0 : 0 ≤ x) (h1 : x < 4) : fX5_isNoBody σ x = some 0 := by rw [m_isNoBody (by omega) (by omega), if_pos ⟨h0, h1⟩]
theorem noBody1 {σ : qSt} {x : Int} (h : isI x) (h1 : ¬ (0 ≤ x ∧ x < 4)) : fX5_isNoBody σ x = some 1 := by rw [m_isNoBody h.1 h.2, if_neg h1]
theorem isCell1 {σ : qSt} {x : Int} (h0 : 0 ≤ x) (h1 : x < 96) : fX6_isCell σ x = some 1 := by rw [m_isCell (by omega) (by omega), if_pos ⟨h0, h1⟩]
theorem isCell0 {σ : qSt} {x : Int} (h : isI x) (h1 : ¬ (0 ≤ x ∧ x < 96)) : fX6_isCell σ x = some 0 := by rw [m_isCell h.1 h.2, if_neg h1]
theorem outs0 {σ : qSt} {x l h : Int} (l0 : -2147483648 ≤ l) (h1 : h ≤ 2147483647) (a : l ≤ x) (b : x ≤ h) : fX5_isOutside σ x l h = some 0 := by rw [m_isOutside (by omega) (by omega) l0 (by omega) (by omega) h1, if_pos ⟨a, b⟩]
theorem outs1 {σ : qSt} {x l h : Int} (hx : isI x) (hl : isI l) (hh : isI h) (a : ¬ (l ≤ x ∧ x ≤ h)) : fX5_isOutside σ x l h = some 1 := by rw [m_isOutside hx.1 hx.2 hl.1 hl.2 hh.1 hh.2, if_neg a]
theorem with1 {σ : qSt} {x l h : Int} (l0 : -2147483648 ≤ l) (h1 : h ≤ 2147483647) (a : l ≤ x) (b : x ≤ h) : fX6_within σ x l h = some 1 := by rw [m_within (by omega) (by omega) l0 (by omega) (by omega) h1, if_pos ⟨a, b⟩]
theorem with0 {σ : qSt} {x l h : Int} (hx : isI x) (hl : isI l) (hh : isI h) (a : ¬ (l ≤ x ∧ x ≤ h)) : fX6_within σ x l h = some 0 := by rw [m_within hx.1 hx.2 hl.1 hl.2 hh.1 hh.2, if_neg a]
theorem isI_of {x : Int} (h0 : -2147483648 ≤ x) (h1 : x ≤ 2147483647) : isI x := ⟨h0, h1⟩
