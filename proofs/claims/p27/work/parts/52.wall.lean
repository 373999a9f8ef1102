/-! ===== the calls, class and reference side by side ===== -/
theorem m_ref0 (b : qSt) (v : Int) : qset b 47 0 v 47 0 = v := by rw [mset_same]; exact if_pos rfl
theorem m_cntAt {σ : qSt} {c : Int} (c0 : 0 ≤ c) (c1 : c < 96) (hr : ∀ w : Int, 0 ≤ w → w < 4 → 0 ≤ σ (30 + w.toNat) c ∧ σ (30 + w.toNat) c ≤ 1000000) : (fX0_areAt σ c = some 0 ∧ ∀ w : Int, 0 ≤ w → w < 4 → σ (30 + w.toNat) c = 0) ∨ (fX0_areAt σ c = some 1 ∧ ∃ w : Int, 0 ≤ w ∧ w < 4 ∧ σ (30 + w.toNat) c ≠ 0) := by
  unfold fX0_areAt
  rcases mloopX (S := Unit) (P := fun i _ => ∀ w : Int, 0 ≤ w → w < i → σ (30 + w.toNat) c = 0) (F := fun f i _ => fX0_areAt_c11 σ f c 4 i) (R := fun _ => some 0) (Q := fun z => z = 1 ∧ ∃ w : Int, 0 ≤ w ∧ w < 4 ∧ σ (30 + w.toNat) c ≠ 0) 4 (by omega) (by omega) (fun f _ _ => by
    show fX0_areAt_c11 σ (f + 1) c 4 4 = _
    rw [fX0_areAt_c11, if_pos (by rw [mI_le] <;> omega)]) (fun f i _ i0 i1 hP => by
    have h := hr i i0 i1
    show (∃ s1 : Unit, fX0_areAt_c11 σ (f + 1) c 4 i = fX0_areAt_c11 σ f c 4 (i + 1) ∧ _) ∨ ∃ z, fX0_areAt_c11 σ (f + 1) c 4 i = some z ∧ _
    rw [fX0_areAt_c11, if_neg (by rw [mI_le] <;> omega), if_pos ⟨i0, i1⟩, if_pos ⟨c0, c1⟩, iI_le0 (by omega) (by omega)]
    by_cases e : σ (30 + i.toNat) c ≤ 0
    · rw [if_pos e]
      refine Or.inl ⟨(), rfl, fun w w0 w1 => ?_⟩
      by_cases e2 : w = i
      · rw [e2]; omega
      · exact hP w w0 (by omega)
    · rw [if_neg e]
      exact Or.inr ⟨1, rfl, rfl, i, i0, i1, by omega⟩) (s := ()) (fun w _ _ => by omega) with ⟨_, e1, p1⟩ | ⟨z, e1, rfl, p1⟩
  · exact Or.inl ⟨e1, p1⟩
  · exact Or.inr ⟨e1, p1⟩
theorem m_prbAt {σ : qSt} {c : Int} (c0 : 0 ≤ c) (c1 : c < 96) (n0 : 0 ≤ σ 38 3) (n1 : σ 38 3 ≤ 4) (hr : ∀ k, 0 ≤ k → k < σ 38 3 → 0 ≤ σ 39 k ∧ σ 39 k < 96) : (fX1_areAt σ c = some 0 ∧ ∀ k, 0 ≤ k → k < σ 38 3 → σ 39 k ≠ c) ∨ (fX1_areAt σ c = some 1 ∧ ∃ k, 0 ≤ k ∧ k < σ 38 3 ∧ σ 39 k = c) := by
  unfold fX1_areAt
  rcases mloopX (S := Unit) (P := fun i _ => ∀ k, 0 ≤ k → k < i → σ 39 k ≠ c) (F := fun f i _ => fX1_areAt_c2 σ f c i) (R := fun _ => some 0) (Q := fun z => z = 1 ∧ ∃ k, 0 ≤ k ∧ k < σ 38 3 ∧ σ 39 k = c) (σ 38 3) n0 (by omega) (fun f _ _ => by
    show fX1_areAt_c2 σ (f + 1) c (σ 38 3) = _
    rw [fX1_areAt_c2, if_pos (by rw [mI_le] <;> omega)]) (fun f i _ i0 i1 hP => by
    have h := hr i i0 i1
    show (∃ s1 : Unit, fX1_areAt_c2 σ (f + 1) c i = fX1_areAt_c2 σ f c (i + 1) ∧ _) ∨ ∃ z, fX1_areAt_c2 σ (f + 1) c i = some z ∧ _
    rw [fX1_areAt_c2, if_neg (by rw [mI_le] <;> omega), if_neg (by rw [mI_le] <;> omega), if_pos (show 0 ≤ i ∧ i < 4 by omega), iI_eq (by omega) (by omega) (by omega) (by omega)]
    by_cases e : σ 39 i = c
    · rw [if_pos e]
      exact Or.inr ⟨1, rfl, rfl, i, i0, i1, e⟩
    · rw [if_neg e]
      refine Or.inl ⟨(), rfl, fun w w0 w1 => ?_⟩
      by_cases e2 : w = i
      · rw [e2]; exact e
      · exact hP w w0 (by omega)) (s := ()) (fun w _ _ => by omega) with ⟨_, e1, p1⟩ | ⟨z, e1, rfl, p1⟩
  · exact Or.inl ⟨e1, p1⟩
  · exact Or.inr ⟨e1, p1⟩
def mayP (a : qSt) (c : Int) : Prop := a 2 c = 0 ∧ a 4 c = 0 ∧ (∀ w : Int, 0 ≤ w → w < 4 → a (30 + w.toNat) c = 0) ∧ ∀ k, 0 ≤ k → k < a 38 3 → a 39 k ≠ c
/-- how many cells a body has -/
def bn (r : Int → Int) (k c : Int) : Int := if r c = k then 1 else 0
theorem bn_r (r : Int → Int) (k : Int) : 0 ≤ sr (bn r k) 96 ∧ sr (bn r k) 96 ≤ 96 := sr_01 fun x => by unfold bn; split <;> omega
theorem m_cellsOfBody {σ : qSt} {k : Int} (hb : BR (σ 3)) (k0 : -2147483648 ≤ k) (k1 : k ≤ 2147483647) : fX3_cellsOfBody 1 σ k = some (sr (bn (σ 3) k) 96) := by
  unfold fX3_cellsOfBody
  obtain ⟨s, e, p⟩ := mloop (P := fun i (n : Int) => n = sr (bn (σ 3) k) i.toNat) (F := fun f i n => fX3_cellsOfBody_c14 1 σ f k n 96 i) (R := fun n => some n) 96 (by omega) (by omega) (fun f n _ => by
    show fX3_cellsOfBody_c14 1 σ (f + 1) k n 96 96 = _
    rw [fX3_cellsOfBody_c14, if_pos (by rw [mI_le] <;> omega)]) (fun f i n i0 i1 hP => by
    have hr := hb i i0 i1
    show ∃ s1, fX3_cellsOfBody_c14 1 σ (f + 1) k n 96 i = fX3_cellsOfBody_c14 1 σ f k s1 96 (i + 1) ∧ _
    rw [fX3_cellsOfBody_c14, if_neg (by rw [mI_le] <;> omega), if_pos ⟨i0, i1⟩, mqb]
    show ∃ s1, (if qI (σ 3 i) = qI k then _ else _) = _ ∧ _
    rw [iI_eq (by omega) (by omega) k0 k1, sr_step i0]
    unfold bn
    by_cases e : σ 3 i = k
    · rw [if_pos e, if_pos e]
      exact ⟨_, rfl, by rw [hP]; rfl⟩
    · rw [if_neg e, if_neg e]
      exact ⟨_, rfl, by rw [hP]; rfl⟩) (s := 0) rfl
  have e' : fX3_cellsOfBody_c14 1 σ qFU k 0 96 0 = some s := e
  rw [e', p]
  rfl
