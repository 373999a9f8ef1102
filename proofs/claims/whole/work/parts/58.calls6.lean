theorem p_record {t : Int} {a b : qSt} (h : J t a b) {c k : Int} (hc : isI c) (hk : isI k) : PQ [(0, 0), (1, 1)] t a b (fX5_record c k a) (fX6_record c k b) := by
  obtain ⟨j1, j2, j3, j4, j5, j6, j7⟩ := id h
  obtain ⟨x1, x2, x3, x4, x5, x6, x7⟩ := id j5
  unfold fX5_record fX6_record fX6_record_c32 fX6_record_c45 fX6_record_c46
  rw [← x5]
  by_cases hcc : 0 ≤ c ∧ c ≤ a 38 3 - 1
  · obtain ⟨y1, y2, y3, y4, y5⟩ := x7 c hcc.1 (by omega)
    rw [outs0 (by omega) (by omega) hcc.1 hcc.2, with1 (by omega) (by omega) hcc.1 hcc.2, Option.bind_some, Option.bind_some, iI_no, iI_yes, iI_yes]
    simp only [if_pos (show 0 ≤ c ∧ c < 4 by omega)]
    rw [← y1]
    by_cases hkk : 0 ≤ k ∧ k ≤ a 40 c - 1
    · rw [outs0 (by omega) (by omega) hkk.1 hkk.2, with1 (by omega) (by omega) hkk.1 hkk.2, Option.bind_some, Option.bind_some, iI_no, iI_yes, ref_ok]
      have e62 : qset b 47 0 0 62 c = a 40 c := by rw [mset_ne (by omega)]; exact y1.symm
      have e63 : qset b 47 0 0 63 = b 63 := mset_ne (by omega)
      have z := (y5 (a 40 c - 1 - k) (by omega) (by omega)).1
      simp only [if_pos (show 0 ≤ a 40 c - 1 - k ∧ a 40 c - 1 - k < 5000 by omega), e62, e63]
      rw [if_pos (show 0 ≤ 5000 * c + a 40 c - 1 - k ∧ 5000 * c + a 40 c - 1 - k < 20000 by omega), show 5000 * c + a 40 c - 1 - k = 5000 * c + (a 40 c - 1 - k) by omega, ← z]
      exact PQ.val h (by simp)
    · rw [outs1 hk (isI_of (by omega) (by omega)) (isI_of (by omega) (by omega)) hkk, with0 hk (isI_of (by omega) (by omega)) (isI_of (by omega) (by omega)) hkk, Option.bind_some, Option.bind_some, iI_yes, iI_no, ref_no (by omega) (by omega)]
      exact PQ.no h (by simp) (by omega)
  · rw [outs1 hc (isI_of (by omega) (by omega)) (isI_of (by omega) (by omega)) hcc, with0 hc (isI_of (by omega) (by omega)) (isI_of (by omega) (by omega)) hcc, Option.bind_some, Option.bind_some, iI_yes, iI_no, ref_no (by omega) (by omega)]
    exact PQ.no h (by simp) (by omega)
/-- the changes of sign, as they are counted -/
def bfold (r : Int → Int) : Nat → Int × Int
  | 0 => (0, 0)
  | n + 1 => ((bfold r n).1 + (if r n * (bfold r n).2 < 0 then 1 else 0), if r n = 0 then (bfold r n).2 else r n)
theorem bfold_congr {r r' : Int → Int} : ∀ {n : Nat}, (∀ j : Int, 0 ≤ j → j < n → r j = r' j) → bfold r n = bfold r' n := by
  intro n
  induction n with
  | zero => intro _; rfl
  | succ n ih =>
    intro h
    show (_, _) = (_, _)
    rw [ih (fun j h0 h1 => h j h0 (by omega)), h n (by omega) (by omega)]
theorem bfold_step {r : Int → Int} {i : Int} (i0 : 0 ≤ i) : bfold r (i + 1).toNat = ((bfold r i.toNat).1 + (if r i * (bfold r i.toNat).2 < 0 then 1 else 0), if r i = 0 then (bfold r i.toNat).2 else r i) := by
  have e : (i + 1).toNat = i.toNat + 1 := by omega
  rw [e]
  show ((bfold r i.toNat).1 + (if r (i.toNat : Int) * (bfold r i.toNat).2 < 0 then 1 else 0), if r (i.toNat : Int) = 0 then (bfold r i.toNat).2 else r (i.toNat : Int)) = _
  rw [show ((i.toNat : Nat) : Int) = i by omega]
theorem mul_r {x y : Int} (h0 : -1 ≤ x) (h1 : x ≤ 1) (g0 : -1 ≤ y) (g1 : y ≤ 1) : -1 ≤ x * y ∧ x * y ≤ 1 := by
  rcases (show x = -1 ∨ x = 0 ∨ x = 1 by omega) with rfl | rfl | rfl <;> omega
theorem m_changes {σ : qSt} {c : Int} (c0 : 0 ≤ c) (c1 : c < 4) (n0 : 0 ≤ σ 40 c) (n1 : σ 40 c ≤ 5000) (hr : ∀ j, 0 ≤ j → j < σ 40 c → -1 ≤ σ (42 + c.toNat) j ∧ σ (42 + c.toNat) j ≤ 1) : fX1_changesOfSign σ c = some (bfold (σ (42 + c.toNat)) (σ 40 c).toNat).1 := by
  unfold fX1_changesOfSign
  have hcc : 0 ≤ c ∧ c < 4 := ⟨c0, c1⟩
  obtain ⟨s, e, q⟩ := mloop (P := fun i (s : Int × Int) => s = bfold (σ (42 + c.toNat)) i.toNat ∧ -1 ≤ s.2 ∧ s.2 ≤ 1) (F := fun f i s => fX1_changesOfSign_c7 σ f c s.1 s.2 i) (R := fun s => some s.1) (σ 40 c) n0 (by omega) (fun f s _ => by
    show fX1_changesOfSign_c7 σ (f + 1) c s.1 s.2 (σ 40 c) = _
    rw [fX1_changesOfSign_c7, if_pos hcc, if_pos (by rw [mI_le] <;> omega)]) (fun f i s i0 i1 hP => by
    have hv := hr i i0 i1
    obtain ⟨x, y⟩ := s
    obtain ⟨hs, l0, l1⟩ := hP
    have l0 : -1 ≤ y := l0
    have l1 : y ≤ 1 := l1
    have hm := mul_r hv.1 hv.2 l0 l1
    have hst := bfold_step (r := σ (42 + c.toNat)) i0
    rw [← hs] at hst
    show ∃ s1 : Int × Int, fX1_changesOfSign_c7 σ (f + 1) c x y i = fX1_changesOfSign_c7 σ f c s1.1 s1.2 (i + 1) ∧ _
    rw [fX1_changesOfSign_c7, if_pos hcc, if_neg (by rw [mI_le] <;> omega), if_neg (by rw [mI_le] <;> omega), if_pos hcc, if_pos (show 0 ≤ i ∧ i < 5000 by omega), mqb, iI_eq0 (by omega) (by omega)]
    by_cases e0 : σ (42 + c.toNat) i = 0
    · rw [if_pos e0]
      refine ⟨(x, y), rfl, ?_, l0, l1⟩
      rw [hst, e0, if_pos rfl, Int.zero_mul, if_neg (show ¬ (0 : Int) < 0 by omega), Int.add_zero]
    · rw [if_neg e0, iI_0le (by omega) (by omega)]
      by_cases em : 0 ≤ σ (42 + c.toNat) i * y
      · rw [if_pos em]
        refine ⟨(x + 0, σ (42 + c.toNat) i), rfl, ?_, hv.1, hv.2⟩
        rw [hst, if_neg e0, if_neg (show ¬ σ (42 + c.toNat) i * (x, y).2 < 0 from Int.not_lt.mpr em)]
      · rw [if_neg em]
        refine ⟨(x + 1, σ (42 + c.toNat) i), rfl, ?_, hv.1, hv.2⟩
        rw [hst, if_neg e0, if_pos (show σ (42 + c.toNat) i * (x, y).2 < 0 from Int.not_le.mp em)]) (s := ((0, 0) : Int × Int)) ⟨rfl, by decide, by decide⟩
  have e' : fX1_changesOfSign_c7 σ qFU c 0 0 0 = some s.1 := e
  rw [e', q.1]
theorem m_beat {σ : qSt} {c : Int} (c0 : 0 ≤ c) (c1 : c < 4) (n0 : 0 ≤ σ 62 c) (n1 : σ 62 c ≤ 5000) (hr : ∀ j, 0 ≤ j → j < σ 62 c → -1 ≤ σ 63 (5000 * c + j) ∧ σ 63 (5000 * c + j) ≤ 1) : fX6_beat_c35 qFU c 0 0 0 σ = some ((bfold (fun j => σ 63 (5000 * c + j)) (σ 62 c).toNat).1, σ) := by
  have hcc : 0 ≤ c ∧ c < 4 := ⟨c0, c1⟩
  obtain ⟨s, e, q⟩ := mloop (P := fun i (s : Int × Int) => s = bfold (fun j => σ 63 (5000 * c + j)) i.toNat ∧ -1 ≤ s.2 ∧ s.2 ≤ 1) (F := fun f i s => fX6_beat_c35 f c s.1 s.2 i σ) (R := fun s => some (s.1, σ)) (σ 62 c) n0 (by omega) (fun f s _ => by
    show fX6_beat_c35 (f + 1) c s.1 s.2 (σ 62 c) σ = _
    rw [fX6_beat_c35, if_pos hcc, if_pos (by rw [mI_le] <;> omega)]) (fun f i s i0 i1 hP => by
    have hv := hr i i0 i1
    obtain ⟨x, y⟩ := s
    obtain ⟨hs, l0, l1⟩ := hP
    have l0 : -1 ≤ y := l0
    have l1 : y ≤ 1 := l1
    have hm := mul_r hv.1 hv.2 l0 l1
    have hst := bfold_step (r := fun j => σ 63 (5000 * c + j)) i0
    rw [← hs] at hst
    show ∃ s1 : Int × Int, fX6_beat_c35 (f + 1) c x y i σ = fX6_beat_c35 f c s1.1 s1.2 (i + 1) σ ∧ _
    rw [fX6_beat_c35, if_pos hcc, if_neg (by rw [mI_le] <;> omega), if_pos (show 0 ≤ 5000 * c + i ∧ 5000 * c + i < 20000 by omega), mqb, iI_0le (by omega) (by omega)]
    have hst : bfold (fun j => σ 63 (5000 * c + j)) (i + 1).toNat = (x + (if σ 63 (5000 * c + i) * y < 0 then 1 else 0), if σ 63 (5000 * c + i) = 0 then y else σ 63 (5000 * c + i)) := hst
    have c74 : ∀ d : Int, d = (if σ 63 (5000 * c + i) * y < 0 then 1 else 0) → ∃ s1 : Int × Int, fX6_beat_c74 (fX6_beat_c35 f) c y i (σ 63 (5000 * c + i)) d x σ = fX6_beat_c35 f c s1.1 s1.2 (i + 1) σ ∧ s1 = bfold (fun j => σ 63 (5000 * c + j)) (i + 1).toNat ∧ -1 ≤ s1.2 ∧ s1.2 ≤ 1 := fun d hd => by
      unfold fX6_beat_c74
      rw [mqb, iI_eq0 (by omega) (by omega)]
      by_cases e0 : σ 63 (5000 * c + i) = 0
      · rw [if_pos e0]
        exact ⟨(x + d, y), rfl, by rw [hst, ← hd, if_pos e0], l0, l1⟩
      · rw [if_neg e0]
        exact ⟨(x + d, σ 63 (5000 * c + i)), rfl, by rw [hst, ← hd, if_neg e0], hv.1, hv.2⟩
    by_cases em : 0 ≤ σ 63 (5000 * c + i) * y
    · rw [if_pos em]; exact c74 0 (by rw [if_neg (Int.not_lt.mpr em)])
    · rw [if_neg em]; exact c74 1 (by rw [if_pos (Int.not_le.mp em)])) (s := ((0, 0) : Int × Int)) ⟨rfl, by decide, by decide⟩
  have e' : fX6_beat_c35 qFU c 0 0 0 σ = some (s.1, σ) := e
  rw [e', q.1]
theorem p_beat {t : Int} {a b : qSt} (h : J t a b) {c : Int} (hc : isI c) : PQ [(0, 0), (1, 1)] t a b (fX5_beat c a) (fX6_beat c b) := by
  obtain ⟨j1, j2, j3, j4, j5, j6, j7⟩ := id h
  obtain ⟨x1, x2, x3, x4, x5, x6, x7⟩ := id j5
  unfold fX5_beat fX6_beat fX6_beat_c20
  rw [← x5]
  by_cases hcc : 0 ≤ c ∧ c ≤ a 38 3 - 1
  · obtain ⟨y1, y2, y3, y4, y5⟩ := x7 c hcc.1 (by omega)
    have e62 : qset b 47 0 0 62 c = b 62 c := by rw [mset_ne (by omega)]
    have e63 : qset b 47 0 0 63 = b 63 := mset_ne (by omega)
    rw [outs0 (by omega) (by omega) hcc.1 hcc.2, with1 (by omega) (by omega) hcc.1 hcc.2, Option.bind_some, Option.bind_some, iI_no, iI_yes, ref_ok, m_changes hcc.1 (by omega) y2.1 (by omega) (fun j h0 h1 => by rw [(y5 j h0 h1).1]; exact (y5 j h0 h1).2), Option.bind_some, m_beat hcc.1 (by omega) (by rw [e62, ← y1]; exact y2.1) (by rw [e62, ← y1]; omega) (fun j h0 h1 => by rw [e62, ← y1] at h1; rw [e63]; exact (y5 j h0 h1).2), e62, e63, ← y1, bfold_congr (r := a (42 + c.toNat)) (r' := fun j => b 63 (5000 * c + j)) (fun j h0 h1 => (y5 j h0 (by omega)).1)]
    exact PQ.val h (by simp)
  · rw [outs1 hc (isI_of (by omega) (by omega)) (isI_of (by omega) (by omega)) hcc, with0 hc (isI_of (by omega) (by omega)) (isI_of (by omega) (by omega)) hcc, Option.bind_some, Option.bind_some, iI_yes, iI_no, ref_no (by omega) (by omega)]
    exact PQ.no h (by simp) (by omega)
