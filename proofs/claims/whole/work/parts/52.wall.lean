/-! ===== the calls, class and reference side by side ===== -/
def PQ (codes : List (Int × Int)) (t : Int) (a b : qSt) (X : Option (Int × Int × qSt)) (V : Option (Int × qSt)) : Prop := ∃ e r a' r' b', X = some (e, r, a') ∧ V = some (r', b') ∧ (e, b' 47 0) ∈ codes ∧ (e = 0 → r = r') ∧ J (t + 1) a' b' ∧ (∀ k, 47 ≤ k → k < 66 → a' k = a k) ∧ ∀ k, k < 47 ∨ 64 ≤ k → b' k = b k
theorem m_ref0 (b : qSt) (v : Int) : qset b 47 0 v 47 0 = v := by rw [mset_same]; exact if_pos rfl
theorem PQ.no {codes : List (Int × Int)} {t : Int} {a b : qSt} {e k : Int} (h : J t a b) (hc : (e, k) ∈ codes) (he : e ≠ 0) : PQ codes t a b (some (e, 0, a)) (some (0, qset b 47 0 k)) :=
  ⟨e, 0, a, 0, _, rfl, rfl, by rw [m_ref0]; exact hc, fun z => absurd z he, h.keep (by omega) (keepA.rf a) (keepB.ref b k), fun _ _ _ => rfl, fun k hk => mset_ne (by omega)⟩
theorem m_cntAt {σ : qSt} {c : Int} (c0 : 0 ≤ c) (c1 : c < 96) (hr : ∀ w : Int, 0 ≤ w → w < 4 → 0 ≤ σ (30 + w.toNat) c ∧ σ (30 + w.toNat) c ≤ 1000000) : (fX0_areAt σ c = some 0 ∧ ∀ w : Int, 0 ≤ w → w < 4 → σ (30 + w.toNat) c = 0) ∨ (fX0_areAt σ c = some 1 ∧ ∃ w : Int, 0 ≤ w ∧ w < 4 ∧ σ (30 + w.toNat) c ≠ 0) := by
  unfold fX0_areAt
  rcases mloopX (S := Unit) (P := fun i _ => ∀ w : Int, 0 ≤ w → w < i → σ (30 + w.toNat) c = 0) (F := fun f i _ => fX0_areAt_c11 σ f c 4 i) (R := fun _ => some 0) (Q := fun z => z = 1 ∧ ∃ w : Int, 0 ≤ w ∧ w < 4 ∧ σ (30 + w.toNat) c ≠ 0) 4 (by omega) (by omega) (fun f _ _ => by
    show fX0_areAt_c11 σ (f + 1) c 4 4 = _
    rw [fX0_areAt_c11, if_pos (by rw [mI_le] <;> omega)]) (fun f i _ i0 i1 hP => by
    have h := hr i i0 i1
    show (∃ s1 : Unit, fX0_areAt_c11 σ (f + 1) c 4 i = fX0_areAt_c11 σ f c 4 (i + 1) ∧ _) ∨ ∃ z, fX0_areAt_c11 σ (f + 1) c 4 i = some z ∧ _
    rw [fX0_areAt_c11, if_neg (by rw [mI_le] <;> omega), if_pos ⟨i0, i1⟩, if_pos ⟨c0, c1⟩, iI_le0 (by omega) (by omega)]
    by_cases e : σ (30 + i.toNat) c ≤ 0
    · rw [if_pos e]
      refine Or.inl ⟨(), rfl, fun w w0 w1 => ?_⟩
      by_cases e2 : w = i
      · rw [e2]; omega
      · exact hP w w0 (by omega)
    · rw [if_neg e]
      exact Or.inr ⟨1, rfl, rfl, i, i0, i1, by omega⟩) (s := ()) (fun w _ _ => by omega) with ⟨_, e1, p1⟩ | ⟨z, e1, rfl, p1⟩
  · exact Or.inl ⟨e1, p1⟩
  · exact Or.inr ⟨e1, p1⟩
theorem m_prbAt {σ : qSt} {c : Int} (c0 : 0 ≤ c) (c1 : c < 96) (n0 : 0 ≤ σ 38 3) (n1 : σ 38 3 ≤ 4) (hr : ∀ k, 0 ≤ k → k < σ 38 3 → 0 ≤ σ 39 k ∧ σ 39 k < 96) : (fX1_areAt σ c = some 0 ∧ ∀ k, 0 ≤ k → k < σ 38 3 → σ 39 k ≠ c) ∨ (fX1_areAt σ c = some 1 ∧ ∃ k, 0 ≤ k ∧ k < σ 38 3 ∧ σ 39 k = c) := by
  unfold fX1_areAt
  rcases mloopX (S := Unit) (P := fun i _ => ∀ k, 0 ≤ k → k < i → σ 39 k ≠ c) (F := fun f i _ => fX1_areAt_c2 σ f c i) (R := fun _ => some 0) (Q := fun z => z = 1 ∧ ∃ k, 0 ≤ k ∧ k < σ 38 3 ∧ σ 39 k = c) (σ 38 3) n0 (by omega) (fun f _ _ => by
    show fX1_areAt_c2 σ (f + 1) c (σ 38 3) = _
    rw [fX1_areAt_c2, if_pos (by rw [mI_le] <;> omega)]) (fun f i _ i0 i1 hP => by
    have h := hr i i0 i1
    show (∃ s1 : Unit, fX1_areAt_c2 σ (f + 1) c i = fX1_areAt_c2 σ f c (i + 1) ∧ _) ∨ ∃ z, fX1_areAt_c2 σ (f + 1) c i = some z ∧ _
    rw [fX1_areAt_c2, if_neg (by rw [mI_le] <;> omega), if_neg (by rw [mI_le] <;> omega), if_pos (show 0 ≤ i ∧ i < 4 by omega), iI_eq (by omega) (by omega) (by omega) (by omega)]
    by_cases e : σ 39 i = c
    · rw [if_pos e]
      exact Or.inr ⟨1, rfl, rfl, i, i0, i1, e⟩
    · rw [if_neg e]
      refine Or.inl ⟨(), rfl, fun w w0 w1 => ?_⟩
      by_cases e2 : w = i
      · rw [e2]; exact e
      · exact hP w w0 (by omega)) (s := ()) (fun w _ _ => by omega) with ⟨_, e1, p1⟩ | ⟨z, e1, rfl, p1⟩
  · exact Or.inl ⟨e1, p1⟩
  · exact Or.inr ⟨e1, p1⟩
def mayP (a : qSt) (c : Int) : Prop := a 2 c = 0 ∧ a 4 c = 0 ∧ (∀ w : Int, 0 ≤ w → w < 4 → a (30 + w.toNat) c = 0) ∧ ∀ k, 0 ≤ k → k < a 38 3 → a 39 k ≠ c
theorem cnt_r {a b : qSt} (h : JC a b) {c w : Int} (c0 : 0 ≤ c) (c1 : c < 96) (w0 : 0 ≤ w) (w1 : w < 4) : 0 ≤ b 56 (4 * c + w) ∧ b 56 (4 * c + w) ≤ 1000000 := by
  obtain ⟨x, y, z⟩ := h
  refine ⟨(x c w c0 c1 w0 w1).2.1, ?_⟩
  have key : ∀ n : Nat, n ≤ 384 → 0 ≤ sm (cq (b 56)) n ∧ ∀ c w : Int, 0 ≤ c → 4 * c + w < n → 0 ≤ w → w < 4 → b 56 (4 * c + w) ≤ sm (cq (b 56)) n := by
    intro n
    induction n with
    | zero => exact fun _ => ⟨Int.le_refl _, fun c w c0 h w0 w1 => by omega⟩
    | succ n ih =>
      intro hn
      obtain ⟨i1, i2⟩ := ih (by omega)
      have h9 := (x ((n / 4 : Nat) : Int) ((n % 4 : Nat) : Int) (by omega) (by omega) (by omega) (by omega)).2.1
      show 0 ≤ sm (cq (b 56)) n + b 56 (4 * ((n / 4 : Nat) : Int) + ((n % 4 : Nat) : Int)) ∧ ∀ c w : Int, 0 ≤ c → 4 * c + w < ((n + 1 : Nat) : Int) → 0 ≤ w → w < 4 → b 56 (4 * c + w) ≤ sm (cq (b 56)) n + b 56 (4 * ((n / 4 : Nat) : Int) + ((n % 4 : Nat) : Int))
      refine ⟨by omega, fun c w c0 h w0 w1 => ?_⟩
      by_cases e : 4 * c + w = n
      · rw [show (4 * ((n / 4 : Nat) : Int) + ((n % 4 : Nat) : Int)) = 4 * c + w by omega]
        omega
      · have := i2 c w c0 (by omega) w0 w1
        omega
  have := (key 384 (Nat.le_refl _)).2 c w c0 (by omega) w0 w1
  omega
theorem m_mayBeWall {a b : qSt} (hW : JW a b) (hC : JC a b) (hS9 : JS a b) {c : Int} (c0 : 0 ≤ c) (c1 : c < 96) : (fX5_mayBeWall a c = some 1 ∧ mayP a c) ∨ (fX5_mayBeWall a c = some 0 ∧ ¬ mayP a c) := by
  have hk : 0 ≤ a 2 c ∧ a 2 c ≤ 3 := hW.2.2.2.2.1.1 c c0 c1
  have hp : 0 ≤ a 4 c ∧ a 4 c ≤ 15 := hW.2.2.2.2.1.2.2.1 c c0 c1
  have hc : 0 ≤ c ∧ c < 96 := ⟨c0, c1⟩
  unfold fX5_mayBeWall
  rw [if_pos hc, iI_eq0 (by omega) (by omega)]
  by_cases e1 : a 2 c = 0
  · rw [if_pos e1, if_pos hc, iI_eq0 (by omega) (by omega)]
    by_cases e2 : a 4 c = 0
    · rw [if_pos e2]
      rcases m_cntAt (σ := a) c0 c1 (fun w w0 w1 => by rw [(hC.1 c w c0 c1 w0 w1).1]; exact cnt_r hC c0 c1 w0 w1) with ⟨q, p3⟩ | ⟨q, w, w0, w1, p3⟩
      · rw [q, Option.bind_some, iI_no]
        rcases m_prbAt (σ := a) c0 c1 hS9.2.2.2.2.2.1.1 hS9.2.2.2.2.2.1.2 (fun k k0 k1 => ((hS9.2.2.2.2.2.2 k k0 (by have := hS9.2.2.2.2.2.1.2; omega)).2.2.1 k1).2.1) with ⟨q2, p4⟩ | ⟨q2, k, k0, k1, p4⟩
        · rw [q2, Option.bind_some, iI_no]
          exact Or.inl ⟨rfl, e1, e2, p3, p4⟩
        · rw [q2, Option.bind_some, iI_yes]
          exact Or.inr ⟨rfl, fun h => h.2.2.2 k k0 k1 p4⟩
      · rw [q, Option.bind_some, iI_yes]
        exact Or.inr ⟨rfl, fun h => p3 (h.2.2.1 w w0 w1)⟩
    · rw [if_neg e2]
      exact Or.inr ⟨rfl, fun h => e2 h.2.1⟩
  · rw [if_neg e1]
    exact Or.inr ⟨rfl, fun h => e1 h.1⟩
/-- how many cells a body has -/
def bn (r : Int → Int) (k c : Int) : Int := if r c = k then 1 else 0
theorem bn_r (r : Int → Int) (k : Int) : 0 ≤ sr (bn r k) 96 ∧ sr (bn r k) 96 ≤ 96 := sr_01 fun x => by unfold bn; split <;> omega
theorem m_cellsOfBody {σ : qSt} {k : Int} (hb : BR (σ 3)) (k0 : -2147483648 ≤ k) (k1 : k ≤ 2147483647) : fX3_cellsOfBody 1 σ k = some (sr (bn (σ 3) k) 96) := by
  unfold fX3_cellsOfBody
  obtain ⟨s, e, p⟩ := mloop (P := fun i (n : Int) => n = sr (bn (σ 3) k) i.toNat) (F := fun f i n => fX3_cellsOfBody_c14 1 σ f k n 96 i) (R := fun n => some n) 96 (by omega) (by omega) (fun f n _ => by
    show fX3_cellsOfBody_c14 1 σ (f + 1) k n 96 96 = _
    rw [fX3_cellsOfBody_c14, if_pos (by rw [mI_le] <;> omega)]) (fun f i n i0 i1 hP => by
    have hr := hb i i0 i1
    show ∃ s1, fX3_cellsOfBody_c14 1 σ (f + 1) k n 96 i = fX3_cellsOfBody_c14 1 σ f k s1 96 (i + 1) ∧ _
    rw [fX3_cellsOfBody_c14, if_neg (by rw [mI_le] <;> omega), if_pos ⟨i0, i1⟩, mqb]
    show ∃ s1, (if qI (σ 3 i) = qI k then _ else _) = _ ∧ _
    rw [iI_eq (by omega) (by omega) k0 k1, sr_step i0]
    unfold bn
    by_cases e : σ 3 i = k
    · rw [if_pos e, if_pos e]
      exact ⟨_, rfl, by rw [hP]; rfl⟩
    · rw [if_neg e, if_neg e]
      exact ⟨_, rfl, by rw [hP]; rfl⟩) (s := 0) rfl
  have e' : fX3_cellsOfBody_c14 1 σ qFU k 0 96 0 = some s := e
  rw [e', p]
  rfl
theorem m_cellsOf {σ : qSt} {k : Int} (hb : BR (σ 49)) (k0 : -2147483648 ≤ k) (k1 : k ≤ 2147483647) : fX6_cellsOf σ k = some (sr (bn (σ 49) k) 96) := by
  unfold fX6_cellsOf
  obtain ⟨s, e, p⟩ := mloop (P := fun i (n : Int) => n = sr (bn (σ 49) k) i.toNat) (F := fun f i n => fX6_cellsOf_c4 σ f k n i) (R := fun n => some n) 96 (by omega) (by omega) (fun f n _ => by
    show fX6_cellsOf_c4 σ (f + 1) k n 96 = _
    rw [fX6_cellsOf_c4, if_pos (by rw [mI_le] <;> omega)]) (fun f i n i0 i1 hP => by
    have hr := hb i i0 i1
    show ∃ s1, fX6_cellsOf_c4 σ (f + 1) k n i = fX6_cellsOf_c4 σ f k s1 (i + 1) ∧ _
    rw [fX6_cellsOf_c4, if_neg (by rw [mI_le] <;> omega), if_pos ⟨i0, i1⟩, iI_eq (by omega) (by omega) k0 k1, sr_step i0]
    unfold bn
    by_cases e : σ 49 i = k
    · rw [if_pos e, if_pos e]
      exact ⟨_, rfl, by rw [hP]; rfl⟩
    · rw [if_neg e, if_neg e]
      exact ⟨_, rfl, by rw [hP]; rfl⟩) (s := 0) rfl
  have e' : fX6_cellsOf_c4 σ qFU k 0 0 = some s := e
  rw [e', p]
  rfl
theorem m_hasProbe {σ : qSt} {c : Int} (c0 : 0 ≤ c) (c1 : c < 96) (n0 : 0 ≤ σ 47 19) (n1 : σ 47 19 ≤ 4) (hr : ∀ k, 0 ≤ k → k < σ 47 19 → 0 ≤ σ 61 k ∧ σ 61 k < 96) : (fX6_hasProbe σ c = some 0 ∧ ∀ k, 0 ≤ k → k < σ 47 19 → σ 61 k ≠ c) ∨ (fX6_hasProbe σ c = some 1 ∧ ∃ k, 0 ≤ k ∧ k < σ 47 19 ∧ σ 61 k = c) := by
  unfold fX6_hasProbe
  obtain ⟨s, e, p⟩ := mloop (P := fun i (n : Int) => (n = 0 ∧ ∀ k, 0 ≤ k → k < i → σ 61 k ≠ c) ∨ (n = 1 ∧ ∃ k, 0 ≤ k ∧ k < i ∧ σ 61 k = c)) (F := fun f i n => fX6_hasProbe_c4 σ f c n i) (R := fun n => some n) (σ 47 19) n0 (by omega) (fun f n hP => by
    show fX6_hasProbe_c4 σ (f + 1) c n (σ 47 19) = _
    rw [fX6_hasProbe_c4, if_pos (by rw [mI_le] <;> omega), if_pos (hP.elim (fun h => Or.inl h.1) (fun h => Or.inr h.1))]) (fun f i n i0 i1 hP => by
    have h := hr i i0 i1
    show ∃ s1, fX6_hasProbe_c4 σ (f + 1) c n i = fX6_hasProbe_c4 σ f c s1 (i + 1) ∧ _
    rw [fX6_hasProbe_c4, if_neg (by rw [mI_le] <;> omega)]
    rcases hP with ⟨rfl, hP⟩ | ⟨rfl, k, k0, k1, k2⟩
    · rw [iI_no, if_pos (show 0 ≤ i ∧ i < 4 by omega), iI_eq (by omega) (by omega) (by omega) (by omega)]
      by_cases e : σ 61 i = c
      · rw [if_pos e]
        exact ⟨1, rfl, Or.inr ⟨rfl, i, i0, by omega, e⟩⟩
      · rw [if_neg e]
        refine ⟨0, rfl, Or.inl ⟨rfl, fun k k0 k1 => ?_⟩⟩
        by_cases e2 : k = i
        · rw [e2]; exact e
        · exact hP k k0 (by omega)
    · rw [iI_yes]
      exact ⟨1, rfl, Or.inr ⟨rfl, k, k0, by omega, k2⟩⟩) (s := 0) (Or.inl ⟨rfl, fun k _ _ => by omega⟩)
  have e' : fX6_hasProbe_c4 σ qFU c 0 0 = some s := e
  rcases p with ⟨rfl, p⟩ | ⟨rfl, p⟩
  · exact Or.inl ⟨e', p⟩
  · exact Or.inr ⟨e', p⟩
def canP (b : qSt) (c k : Int) : Prop := b 48 c = 0 ∧ b 50 c = 0 ∧ (∀ w, 0 ≤ w → w < 4 → b 56 (4 * c + w) = 0) ∧ (∀ k, 0 ≤ k → k < b 47 19 → b 61 k ≠ c) ∧ (k = -1 ∨ sr (bn (b 49) k) 96 < 12)
theorem m_canBeWall {a b : qSt} (hW : JW a b) (hC : JC a b) (hS9 : JS a b) {c k : Int} (c0 : 0 ≤ c) (c1 : c < 96) (k0 : -1 ≤ k) (k1 : k ≤ 3) : (fX6_canBeWall b c k = some 1 ∧ canP b c k) ∨ (fX6_canBeWall b c k = some 0 ∧ ¬ canP b c k) := by
  have hk : 0 ≤ b 48 c ∧ b 48 c ≤ 3 := by rw [← hW.1]; exact hW.2.2.2.2.1.1 c c0 c1
  have hb : BR (b 49) := by rw [← hW.2.1]; exact hW.2.2.2.2.1.2.1
  have hp : 0 ≤ b 50 c ∧ b 50 c ≤ 15 := by rw [← hW.2.2.1]; exact hW.2.2.2.2.1.2.2.1 c c0 c1
  have hc : 0 ≤ c ∧ c < 96 := ⟨c0, c1⟩
  have hbn := bn_r (b 49) k
  have c14 : ∀ s0 : Int, (s0 = 1 ∧ b 50 c = 0) ∨ (s0 = 0 ∧ b 50 c ≠ 0) → (fX6_canBeWall_c14 b c k s0 = some 1 ∧ canP b c k) ∨ (fX6_canBeWall_c14 b c k s0 = some 0 ∧ ¬ canP b c k) := fun s0 hs0 => by
    unfold fX6_canBeWall_c14
    obtain ⟨s, e, p⟩ := mloop (P := fun i (n : Int) => (n = 1 ∧ b 50 c = 0 ∧ ∀ w, 0 ≤ w → w < i → b 56 (4 * c + w) = 0) ∨ (n = 0 ∧ (b 50 c ≠ 0 ∨ ∃ w, 0 ≤ w ∧ w < 4 ∧ b 56 (4 * c + w) ≠ 0))) (F := fun f i n => fX6_canBeWall_c18 b f c k n i) (R := fun n => fX6_canBeWall_c18 b 1 c k n 4) 4 (by omega) (by omega) (fun f n _ => by
      show fX6_canBeWall_c18 b (f + 1) c k n 4 = fX6_canBeWall_c18 b (0 + 1) c k n 4
      have e44 : qI 4 ≤ qI 4 := by rw [mI_le] <;> omega
      rw [fX6_canBeWall_c18, fX6_canBeWall_c18, if_pos e44, if_pos e44]) (fun f i n i0 i1 hP => by
      have h := cnt_r hC c0 c1 i0 i1
      show ∃ s1, fX6_canBeWall_c18 b (f + 1) c k n i = fX6_canBeWall_c18 b f c k s1 (i + 1) ∧ _
      rw [fX6_canBeWall_c18, if_neg (by rw [mI_le] <;> omega)]
      rcases hP with ⟨rfl, e0, hP⟩ | ⟨rfl, hP⟩
      · rw [iI_yes, if_pos (show 0 ≤ 4 * c + i ∧ 4 * c + i < 384 by omega), iI_eq0 (by omega) (by omega)]
        by_cases e : b 56 (4 * c + i) = 0
        · rw [if_pos e]
          refine ⟨1, rfl, Or.inl ⟨rfl, e0, fun w w0 w1 => ?_⟩⟩
          by_cases e2 : w = i
          · rw [e2]; exact e
          · exact hP w w0 (by omega)
        · rw [if_neg e]
          exact ⟨0, rfl, Or.inr ⟨rfl, Or.inr ⟨i, i0, i1, e⟩⟩⟩
      · rw [iI_no]
        exact ⟨0, rfl, Or.inr ⟨rfl, hP⟩⟩) (s := s0) (hs0.elim (fun h => Or.inl ⟨h.1, h.2, fun w _ _ => by omega⟩) (fun h => Or.inr ⟨h.1, Or.inl h.2⟩))
    have e' : fX6_canBeWall_c18 b qFU c k s0 0 = fX6_canBeWall_c18 b (0 + 1) c k s 4 := e
    rw [e', fX6_canBeWall_c18, if_pos (by rw [mI_le] <;> omega), if_pos hc, iI_eq0 (by omega) (by omega)]
    by_cases e1 : b 48 c = 0
    · rw [if_pos e1]
      rcases p with ⟨rfl, e0, p⟩ | ⟨rfl, p⟩
      · rw [iI_yes]
        rcases m_hasProbe (σ := b) c0 c1 (by rw [← hS9.2.2.2.2.1]; exact hS9.2.2.2.2.2.1.1) (by rw [← hS9.2.2.2.2.1]; exact hS9.2.2.2.2.2.1.2) (fun k k0 k1 => by
          rw [← hS9.2.2.2.2.1] at k1
          obtain ⟨x, y, z⟩ := (hS9.2.2.2.2.2.2 k k0 (by have := hS9.2.2.2.2.2.1.2; omega)).2.2.1 k1
          rw [← x]; exact y) with ⟨q2, p4⟩ | ⟨q2, k9, k90, k91, p4⟩
        · rw [q2, Option.bind_some, iI_no, iI_eq (by omega) (by omega) (by omega) (by omega)]
          by_cases e3 : k = -1
          · rw [if_pos e3]
            exact Or.inl ⟨rfl, e1, e0, p, p4, Or.inl e3⟩
          · rw [if_neg e3, m_cellsOf hb (by omega) (by omega), Option.bind_some, iI_le (by omega) (by omega) (by omega) (by omega)]
            by_cases e4 : 12 ≤ sr (bn (b 49) k) 96
            · rw [if_pos e4]
              exact Or.inr ⟨rfl, fun h => h.2.2.2.2.elim e3 (fun h => by omega)⟩
            · rw [if_neg e4]
              exact Or.inl ⟨rfl, e1, e0, p, p4, Or.inr (by omega)⟩
        · rw [q2, Option.bind_some, iI_yes]
          exact Or.inr ⟨rfl, fun h => h.2.2.2.1 k9 k90 k91 p4⟩
      · rw [iI_no]
        exact Or.inr ⟨rfl, fun h => p.elim (fun q => q h.2.1) (fun ⟨w, w0, w1, q⟩ => q (h.2.2.1 w w0 w1))⟩
    · rw [if_neg e1]
      exact Or.inr ⟨rfl, fun h => e1 h.1⟩
  unfold fX6_canBeWall
  rw [if_pos hc, iI_eq0 (by omega) (by omega)]
  by_cases e0 : b 50 c = 0
  · rw [if_pos e0]; exact c14 1 (Or.inl ⟨rfl, e0⟩)
  · rw [if_neg e0]; exact c14 0 (Or.inr ⟨rfl, e0⟩)
theorem can_may {a b : qSt} (hW : JW a b) (hC : JC a b) (hS9 : JS a b) {c k : Int} (c0 : 0 ≤ c) (c1 : c < 96) : canP b c k ↔ mayP a c ∧ (k = -1 ∨ sr (bn (a 3) k) 96 < 12) := by
  unfold canP mayP
  rw [hW.1, hW.2.1, hW.2.2.1, hS9.2.2.2.2.1]
  have q : ∀ k, 0 ≤ k → k < b 47 19 → a 39 k = b 61 k := fun k k0 k1 => ((hS9.2.2.2.2.2.2 k k0 (by have := hS9.2.2.2.2.2.1.2; have := hS9.2.2.2.2.1; omega)).2.2.1 (by have := hS9.2.2.2.2.1; omega)).1
  constructor
  · rintro ⟨h1, h2, h3, h4, h5⟩
    exact ⟨⟨h1, h2, fun w w0 w1 => by rw [(hC.1 c w c0 c1 w0 w1).1]; exact h3 w w0 w1, fun k k0 k1 => by rw [q k k0 k1]; exact h4 k k0 k1⟩, h5⟩
  · rintro ⟨⟨h1, h2, h3, h4⟩, h5⟩
    exact ⟨h1, h2, fun w w0 w1 => by rw [← (hC.1 c w c0 c1 w0 w1).1]; exact h3 w w0 w1, fun k k0 k1 => by rw [← q k k0 k1]; exact h4 k k0 k1, h5⟩
