/-! ===== the water tried ===== -/
def RE (r r' : Int → Int) : Prop := ∀ c, 0 ≤ c → c < 96 → r c = r' c
theorem shut_congr {kd kd' : Int → Int} (h : RE kd kd') {x : Int} (x0 : -1 ≤ x) (x1 : x < 96) : shut kd x ↔ shut kd' x := by
  by_cases e : x = -1
  · exact ⟨fun _ => Or.inl e, fun _ => Or.inl e⟩
  · have := h x (by omega) x1
    constructor
    · rintro (z | z)
      · exact Or.inl z
      · exact Or.inr (by rw [← this]; exact z)
    · rintro (z | z)
      · exact Or.inl z
      · exact Or.inr (by rw [this]; exact z)
theorem sC_congr {kd kd' : Int → Int} (h : RE kd kd') {x v : Int} (x0 : 0 ≤ x) (x1 : x < 96) : sC kd x v = sC kd' x v := by
  have hb := bs_r x0 x1 (w := op v)
  have hs := shut_congr h (x := bs x (op v)) hb.1 hb.2
  unfold sC
  by_cases e : shut kd (bs x (op v))
  · rw [if_pos e, if_pos (hs.mp e)]
  · rw [if_neg e, if_neg (fun z => e (hs.mpr z))]
theorem sW_congr {kd kd' : Int → Int} (h : RE kd kd') {x v : Int} (x0 : 0 ≤ x) (x1 : x < 96) : sW kd x v = sW kd' x v := by
  have hb := bs_r x0 x1 (w := op v)
  have hs := shut_congr h (x := bs x (op v)) hb.1 hb.2
  unfold sW
  by_cases e : shut kd (bs x (op v))
  · rw [if_pos e, if_pos (hs.mp e)]
  · rw [if_neg e, if_neg (fun z => e (hs.mpr z))]
theorem hop_RE {kd kd' r r' : Int → Int} (h : RE kd kd') (hr : RE r r') : RE (hop kd r) (hop kd' r') := fun x x0 x1 => mk_congr fun v v0 v1 => by
  have hc := sC_r x0 x1 (kd := kd') (w := v)
  unfold gq
  rw [sC_congr h x0 x1, sW_congr h x0 x1, h x x0 x1]
  split
  · rfl
  · unfold qbt; rw [hr _ hc.1 hc.2]
theorem mt_RE {p p' : Int → Int} (h : RE p p') : RE (mt p) (mt p') := fun x x0 x1 => by
  unfold mt; rw [h x x0 x1]
theorem md_RE {p p' d d' : Int → Int} (h : RE p p') (hd : RE d d') : RE (md p d) (md p' d') := fun x x0 x1 => by
  unfold md; rw [h x x0 x1, hd x x0 x1]
theorem out_RE {kd kd' r r' : Int → Int} (h : RE kd kd') (hr : RE r r') : RE (outP kd r) (outP kd' r') := fun x x0 x1 => by
  unfold outP; rw [h x x0 x1, hr x x0 x1]
theorem in_RE {kd kd' r r' : Int → Int} (h : RE kd kd') (hr : RE r r') : RE (inP kd r) (inP kd' r') := fun x x0 x1 => by
  unfold inP; rw [h x x0 x1, hr x x0 x1]
theorem stepP_RE {kd kd' p p' : Int → Int} (h : RE kd kd') (hp : RE p p') : RE (stepP kd p) (stepP kd' p') := in_RE h (out_RE h (hop_RE h (mt_RE hp)))
theorem stepD_RE {kd kd' p p' d d' : Int → Int} (h : RE kd kd') (hp : RE p p') (hd : RE d d') : RE (stepD kd p d) (stepD kd' p' d') := out_RE h (hop_RE h (md_RE hp hd))
theorem hB_RE {kd kd' bd bd' : Int → Int} (h : RE kd kd') (hb : RE bd bd') {c w : Int} (c0 : 0 ≤ c) (c1 : c < 96) : hB kd bd c w = hB kd' bd' c w := by
  have hr := bs_r c0 c1 (w := w)
  unfold hB
  by_cases e : bs c w = -1
  · rw [if_pos e, if_pos e]
  · rw [if_neg e, if_neg e, h _ (by omega) hr.2, hb _ (by omega) hr.2]
theorem hR_RE {kd kd' bd bd' r r' : Int → Int} (h : RE kd kd') (hb : RE bd bd') (hr : RE r r') {j : Int} : sm (hR kd bd (qbt r) j) 384 = sm (hR kd' bd' (qbt r') j) 384 := sm_congr' fun c w c0 c1 w0 w1 => by
  unfold hR
  rw [hB_RE h hb c0 c1]
  unfold qbt
  rw [hr c c0 c1]
theorem hR_r (kd bd r : Int → Int) (j : Int) : -768 ≤ sm (hR kd bd (qbt r) j) 384 ∧ sm (hR kd bd (qbt r) j) 384 ≤ 768 := by
  have := sm_bound (f := hR kd bd (qbt r) j) (B := 2) (by omega) (n := 384) (fun c w _ _ _ _ => by
    have hq := qbt_r r c w
    have hg : -2 ≤ rgt w ∧ rgt w ≤ 2 := by unfold rgt; repeat' split <;> omega
    unfold hR
    split
    · rcases (show qbt r c w = 0 ∨ qbt r c w = 1 by omega) with e | e
      · rw [e, Int.zero_mul]; omega
      · rw [e, Int.one_mul]; omega
    · omega)
  omega
/-- the class's trial and the reference's try say the same -/
def TR (a b : qSt) : Prop := RE (a 15) (b 48) ∧ RE (a 16) (b 49) ∧ RE (a 17) (b 54) ∧ RE (a 18) (b 55) ∧ WOK 14 a
theorem TR.ref {a b : qSt} (h : TR a b) : KR (b 48) ∧ BR (b 49) ∧ PR (b 54) ∧ PR (b 55) ∧ WF (b 48) (b 54) ∧ DS (b 55) (b 54) := by
  obtain ⟨h1, h2, h3, h4, v1, v2, v3, v4, v5, v6⟩ := h
  have v1 : KR (a 15) := v1
  have v2 : BR (a 16) := v2
  have v3 : PR (a 17) := v3
  have v4 : PR (a 18) := v4
  have v5 : WF (a 15) (a 17) := v5
  have v6 : DS (a 18) (a 17) := v6
  refine ⟨fun c c0 c1 => ?_, fun c c0 c1 => ?_, fun c c0 c1 => ?_, fun c c0 c1 => ?_, fun c c0 c1 hk => ?_, fun c w c0 c1 w0 w1 => ?_⟩
  · rw [← h1 c c0 c1]; exact v1 c c0 c1
  · rw [← h2 c c0 c1]; exact v2 c c0 c1
  · rw [← h3 c c0 c1]; exact v3 c c0 c1
  · rw [← h4 c c0 c1]; exact v4 c c0 c1
  · rw [← h3 c c0 c1]; exact v5 c c0 c1 (by rw [h1 c c0 c1]; exact hk)
  · have := v6 c w c0 c1 w0 w1
    unfold qbt at this ⊢
    rw [← h3 c c0 c1, ← h4 c c0 c1]; exact this
theorem try_two {a b : qSt} (h : TR a b) : ∃ a1 b1, fX3_passStep 14 a = some (0, a1) ∧ fX6_advance 54 55 b = some (0, b1) ∧ TR a1 b1 ∧ (∀ k, (k < 14 ∨ 26 < k) → a1 k = a k) ∧ (∀ k, k ≠ 47 → k ≠ 52 → k ≠ 53 → k ≠ 54 → k ≠ 55 → k ≠ 60 → b1 k = b k) ∧ (∀ j, j ≠ 14 → b1 47 j = b 47 j) ∧ ∀ k, 0 ≤ k → k < 4 → a1 22 k = a 22 k + b1 60 (3 * k + 1) ∧ -768 ≤ b1 60 (3 * k + 1) ∧ b1 60 (3 * k + 1) ≤ 768 := by
  obtain ⟨u1, u2, u3, u4, u5, u6⟩ := h.ref
  obtain ⟨h1, h2, h3, h4, hW⟩ := h
  obtain ⟨v1, v2, v3, v4, v5, v6⟩ := id hW
  have v3 : PR (a 17) := v3
  have v4 : PR (a 18) := v4
  have v6 : DS (a 18) (a 17) := v6
  obtain ⟨a1, e1, f1, g1, c1, n1, -, -⟩ := m_passStep (B := 14) hW
  have f1 : ∀ k, k ≠ 14 → (k < 17 ∨ 26 < k) → a1 k = a k := f1
  have g4 : ∀ x, a1 17 x = if 0 ≤ x ∧ x < 96 then stepP (a 15) (a 17) x else a 17 x := fun x => (g1 x).1
  have g5 : ∀ x, a1 18 x = if 0 ≤ x ∧ x < 96 then stepD (a 15) (a 17) (a 18) x else a 18 x := fun x => (g1 x).2
  have n1 : ∀ b, 0 ≤ b → a1 22 b = a 22 b + sm (hR (a 15) (a 16) (qbt (mt (a 17))) b) 384 := fun b hb => (n1 b hb).2.1
  obtain ⟨b1, e2, f2, c2, g2, n2⟩ := m_advance (B := 51) (Or.inr rfl) (σ := b) u1 u2 u3 u4 u5 u6
  have f2 : ∀ k, k ≠ 47 → k ≠ 54 → k ≠ 55 → k ≠ 52 → k ≠ 53 → k ≠ 60 → b1 k = b k := f2
  have k4 : ∀ x, b1 54 x = if 0 ≤ x ∧ x < 96 then stepP (b 48) (b 54) x else b 54 x := fun x => (g2 x).1
  have k5 : ∀ x, b1 55 x = if 0 ≤ x ∧ x < 96 then stepD (b 48) (b 54) (b 55) x else b 55 x := fun x => (g2 x).2
  have n2 : ∀ k, 0 ≤ k → k < 4 → b1 60 (3 * k + 1) = sm (hR (b 48) (b 49) (qbt (mt (b 54))) k) 384 := fun k k0 k1 => (n2 k k0 k1).2.1
  have a15 : a1 15 = a 15 := f1 15 (by omega) (by omega)
  have a16 : a1 16 = a 16 := f1 16 (by omega) (by omega)
  have b48 : b1 48 = b 48 := f2 48 (by omega) (by omega) (by omega) (by omega) (by omega) (by omega)
  have b49 : b1 49 = b 49 := f2 49 (by omega) (by omega) (by omega) (by omega) (by omega) (by omega)
  refine ⟨a1, b1, e1, e2, ⟨?_, ?_, fun x x0 x1 => ?_, fun x x0 x1 => ?_, ?_, ?_, ?_, ?_, ?_, ?_⟩, fun k hk => f1 k (by omega) (by omega), fun k k0 k1 k2 k3 k4 k5 => f2 k k0 k3 k4 k1 k2 k5, fun j hj => ?_, fun k k0 k1 => ?_⟩
  · rw [a15, b48]; exact h1
  · rw [a16, b49]; exact h2
  · rw [g4, k4, if_pos ⟨x0, x1⟩, if_pos ⟨x0, x1⟩]; exact stepP_RE h1 h3 x x0 x1
  · rw [g5, k5, if_pos ⟨x0, x1⟩, if_pos ⟨x0, x1⟩]; exact stepD_RE h1 h3 h4 x x0 x1
  · show KR (a1 15); rw [a15]; exact v1
  · show BR (a1 16); rw [a16]; exact v2
  · show PR (a1 17); exact row_PR (stepP_PR _ _) g4
  · show PR (a1 18); exact row_PR (stepD_PR _ _ _) g5
  · show WF (a1 15) (a1 17); rw [a15]; exact row_WF (stepP_WF _ _) g4
  · show DS (a1 18) (a1 17); exact row_DS (step_DS v3 v4 v6) g5 g4
  · rw [c2, if_neg hj]
  · have hr := hR_r (b 48) (b 49) (mt (b 54)) k
    rw [n1 k k0, n2 k k0 k1, hR_RE h1 h2 (mt_RE h3)]
    exact ⟨rfl, hr⟩
theorem m_becomeLike {σ : qSt} : ∃ σ', fX3_becomeLike σ = some (0, σ') ∧ (∀ k, (k < 14 ∨ 26 < k) → σ' k = σ k) ∧ RE (σ' 15) (σ 2) ∧ RE (σ' 16) (σ 3) ∧ RE (σ' 17) (σ 4) ∧ RE (σ' 18) (σ 5) ∧ ∀ k, 0 ≤ k → k < 4 → σ' 22 k = σ 9 k := by
  unfold fX3_becomeLike
  simp only [mqb]
  refine ⟨_, rfl, fun k hk => ?_, fun c c0 c1 => ?_, fun c c0 c1 => ?_, fun c c0 c1 => ?_, fun c c0 c1 => ?_, fun k k0 k1 => ?_⟩
  · rw [mset_ne (by omega)]
    simp only [qrow]
    rw [if_neg (by omega), if_neg (by omega), if_neg (by omega), if_neg (by omega), if_neg (by omega), if_neg (by omega), if_neg (by omega), if_neg (by omega), if_neg (by omega), if_neg (by omega)]
  · rw [mset_ne (by omega)]
    simp [qrow, c0, c1]
  · rw [mset_ne (by omega)]
    simp [qrow, c0, c1]
  · rw [mset_ne (by omega)]
    simp [qrow, c0, c1]
  · rw [mset_ne (by omega)]
    simp [qrow, c0, c1]
  · rw [mset_ne (by omega)]
    simp [qrow, k0, k1]
theorem m_copy {σ : qSt} : ∃ σ', fX6_copy σ = some (0, σ') ∧ (∀ k, k ≠ 54 → k ≠ 55 → σ' k = σ k) ∧ RE (σ' 54) (σ 50) ∧ RE (σ' 55) (σ 51) := by
  unfold fX6_copy
  obtain ⟨s, e, f, g⟩ := mloop (P := fun i t => (∀ k, k ≠ 54 → k ≠ 55 → t k = σ k) ∧ ∀ x, 0 ≤ x → x < i → t 54 x = σ 50 x ∧ t 55 x = σ 51 x) (F := fun f i t => fX6_copy_c2 f i t) (R := fun t => some (0, t)) 96 (by omega) (by omega) (fun f t _ => by
    show fX6_copy_c2 (f + 1) 96 t = _
    rw [fX6_copy_c2, if_pos (by rw [mI_le] <;> omega)]) (fun f i t i0 i1 hP => by
    obtain ⟨fr, hv⟩ := hP
    have hii : 0 ≤ i ∧ i < 96 := ⟨i0, i1⟩
    show ∃ s1, fX6_copy_c2 (f + 1) i t = fX6_copy_c2 f (i + 1) s1 ∧ _
    rw [fX6_copy_c2, if_neg (by rw [mI_le] <;> omega)]
    simp only [if_pos hii, mqb]
    refine ⟨_, rfl, fun k k4 k5 => by rw [mset_ne k5, mset_ne k4]; exact fr k k4 k5, fun x x0 x1 => ⟨?_, ?_⟩⟩
    · rw [mset_ne (by omega), mset_same]
      show (if x = i then _ else t 54 x) = _
      by_cases e : x = i
      · rw [if_pos e, e, fr 50 (by omega) (by omega)]
      · rw [if_neg e]; exact (hv x x0 (by omega)).1
    · rw [mset_same]
      show (if x = i then qset t 54 i (t 50 i) 51 i else qset t 54 i (t 50 i) 55 x) = _
      rw [mset_ne (by omega), mset_ne (by omega)]
      by_cases e : x = i
      · rw [if_pos e, e, fr 51 (by omega) (by omega)]
      · rw [if_neg e]; exact (hv x x0 (by omega)).2) (s := σ) ⟨fun _ _ _ => rfl, fun x x0 x1 => by omega⟩
  exact ⟨s, e, f, fun c c0 c1 => (g c c0 c1).1, fun c c0 c1 => (g c c0 c1).2⟩
theorem WOK_RE {a a' : qSt} {B B' : Nat} (h : WOK B a) (h1 : RE (a' (B' + 1)) (a (B + 1))) (h2 : RE (a' (B' + 2)) (a (B + 2))) (h3 : RE (a' (B' + 3)) (a (B + 3))) (h4 : RE (a' (B' + 4)) (a (B + 4))) : WOK B' a' := by
  obtain ⟨v1, v2, v3, v4, v5, v6⟩ := h
  refine ⟨fun c c0 c1 => ?_, fun c c0 c1 => ?_, fun c c0 c1 => ?_, fun c c0 c1 => ?_, fun c c0 c1 hk => ?_, fun c w c0 c1 w0 w1 => ?_⟩
  · rw [h1 c c0 c1]; exact v1 c c0 c1
  · rw [h2 c c0 c1]; exact v2 c c0 c1
  · rw [h3 c c0 c1]; exact v3 c c0 c1
  · rw [h4 c c0 c1]; exact v4 c c0 c1
  · rw [h3 c c0 c1]; exact v5 c c0 c1 (by rw [← h1 c c0 c1]; exact hk)
  · have := v6 c w c0 c1 w0 w1
    unfold qbt at this ⊢
    rw [h3 c c0 c1, h4 c c0 c1]; exact this
/-- what trying changes -/
def triedA (a a' : qSt) : Prop := ∀ k, (k < 14 ∨ 26 < k) → a' k = a k
def triedB (b b' : qSt) : Prop := (∀ k, k ≠ 47 → k ≠ 52 → k ≠ 53 → k ≠ 54 → k ≠ 55 → k ≠ 60 → b' k = b k) ∧ ∀ j, j ≠ 14 → b' 47 j = b 47 j
theorem triedA.tr {a b c : qSt} (h : triedA a b) (g : triedA b c) : triedA a c := fun k hk => (g k hk).trans (h k hk)
theorem triedB.tr {a b c : qSt} (h : triedB a b) (g : triedB b c) : triedB a c := ⟨fun k k1 k2 k3 k4 k5 k6 => (g.1 k k1 k2 k3 k4 k5 k6).trans (h.1 k k1 k2 k3 k4 k5 k6), fun j hj => (g.2 j hj).trans (h.2 j hj)⟩
theorem triedA.keep {a a' : qSt} (h : triedA a a') : keepA a a' := ⟨by rw [h 0 (by omega)], by rw [h 0 (by omega)], by rw [h 1 (by omega)], by rw [h 27 (by omega)], by rw [h 27 (by omega)], fun k hk => h k (by omega)⟩
theorem triedB.keep {b b' : qSt} (h : triedB (qset b 47 0 0) b') : keepB b b' := ⟨fun j h0 h14 _ _ _ => by rw [h.2 j h14, mset_same]; exact if_neg h0, fun k hk => by rw [h.1 k (by omega) (by omega) (by omega) (by omega) (by omega) (by omega)]; exact mset_ne (by omega)⟩
theorem triedB.fr {b b' : qSt} (h : triedB (qset b 47 0 0) b') : ∀ k, k < 47 ∨ 64 ≤ k → b' k = b k := fun k hk => by rw [h.1 k (by omega) (by omega) (by omega) (by omega) (by omega) (by omega)]; exact mset_ne (by omega)
theorem triedB.z {b b' : qSt} (h : triedB (qset b 47 0 0) b') : b' 47 0 = 0 := by rw [h.2 0 (by omega), m_ref0]
theorem ahead_loop {c N : Int} (c0 : 0 ≤ c) (c1 : c < 96) (hN : N ≤ 5) : ∀ (n f : Nat) (i : Int) (a b : qSt), i + n = N → n < f → 0 ≤ i → TR a b → ∃ a' b', fX5_ahead_c45 f c N i a = some (0, a' 17 c, a') ∧ fX6_ahead_c41 f c N i b = some (b' 54 c, b') ∧ TR a' b' ∧ triedA a a' ∧ triedB b b' := by
  have hcc : 0 ≤ c ∧ c < 96 := ⟨c0, c1⟩
  intro n
  induction n with
  | zero =>
    intro f i a b h1 h2 h3 h4
    obtain ⟨f, rfl⟩ : ∃ f', f = f' + 1 := ⟨f - 1, by omega⟩
    refine ⟨a, b, ?_, ?_, h4, fun _ _ => rfl, fun _ _ _ _ _ _ _ => rfl, fun _ _ => rfl⟩
    · rw [fX5_ahead_c45, if_pos (by rw [mI_le] <;> omega), if_pos hcc]
    · rw [fX6_ahead_c41, if_pos (by rw [mI_le] <;> omega), if_pos hcc]
  | succ n ih =>
    intro f i a b h1 h2 h3 h4
    obtain ⟨f, rfl⟩ : ∃ f', f = f' + 1 := ⟨f - 1, by omega⟩
    obtain ⟨a1, b1, e1, e2, k1, k2, k3, k4, -⟩ := try_two h4
    obtain ⟨a2, b2, d1, d2, d3, d4, d5⟩ := ih f (i + 1) a1 b1 (by omega) (by omega) (by omega) k1
    refine ⟨a2, b2, ?_, ?_, d3, triedA.tr k2 d4, triedB.tr ⟨k3, k4⟩ d5⟩
    · rw [fX5_ahead_c45, if_neg (by rw [mI_le] <;> omega), e1]; exact d1
    · rw [fX6_ahead_c41, if_neg (by rw [mI_le] <;> omega), e2]; exact d2
theorem try_start {a b : qSt} (h : JW a b) : ∃ a' b', fX3_becomeLike a = some (0, a') ∧ fX6_copy b = some (0, b') ∧ TR a' b' ∧ triedA a a' ∧ triedB b b' ∧ ∀ k, 0 ≤ k → k < 4 → a' 22 k = a 9 k := by
  obtain ⟨q1, q2, q3, q4, hW, q6⟩ := h
  obtain ⟨a', e1, f1, r1, r2, r3, r4, r5⟩ := m_becomeLike (σ := a)
  obtain ⟨b', e2, f2, s1, s2⟩ := m_copy (σ := b)
  refine ⟨a', b', e1, e2, ⟨fun c c0 c1 => ?_, fun c c0 c1 => ?_, fun c c0 c1 => ?_, fun c c0 c1 => ?_, WOK_RE (B' := 14) hW r1 r2 r3 r4⟩, f1, ⟨fun k _ _ _ k4 k5 _ => f2 k k4 k5, fun j _ => by rw [f2 47 (by omega) (by omega)]⟩, r5⟩
  · rw [r1 c c0 c1, f2 48 (by omega) (by omega), q1]
  · rw [r2 c c0 c1, f2 49 (by omega) (by omega), q2]
  · rw [r3 c c0 c1, s1 c c0 c1, q3]
  · rw [r4 c c0 c1, s2 c c0 c1, q4]
theorem p_ahead {t : Int} {a b : qSt} (h : J t a b) {c k : Int} (hc : isI c) (hk : isI k) : PQ [(0, 0), (1, 1), (2, 2)] t a b (fX5_ahead c k a) (fX6_ahead c k b) := by
  unfold fX5_ahead fX6_ahead fX6_ahead_c27
  by_cases hcc : 0 ≤ c ∧ c < 96
  · obtain ⟨c0, c1⟩ := id hcc
    rw [noCell0 c0 c1, isCell1 c0 c1, Option.bind_some, Option.bind_some, iI_no, iI_yes]
    by_cases hkk : 0 ≤ k ∧ k ≤ 5
    · rw [outs0 (by omega) (by omega) hkk.1 hkk.2, with1 (by omega) (by omega) hkk.1 hkk.2, Option.bind_some, Option.bind_some, iI_no, iI_yes, ref_ok]
      have hJ : J t a (qset b 47 0 0) := h.keep (by omega) (keepA.rf a) (keepB.ref b 0)
      obtain ⟨a1, b1, e1, e2, e3, e4, e5, -⟩ := try_start hJ.1
      obtain ⟨a2, b2, d1, d2, d3, d4, d5⟩ := ahead_loop c0 c1 hkk.2 k.toNat qFU 0 a1 b1 (by omega) (by unfold qFU; omega) (by omega) e3
      rw [e1, e2, mqbd, mqbd, d1, d2, d3.2.2.1 c c0 c1]
      have tA := triedA.tr e4 d4
      have tB := triedB.tr e5 d5
      exact PQ.ok h (by simp) tA.keep tB.keep tB.z (fun k k0 _ => tA k (by omega)) tB.fr
    · rw [outs1 hk (isI_of (by omega) (by omega)) (isI_of (by omega) (by omega)) hkk, with0 hk (isI_of (by omega) (by omega)) (isI_of (by omega) (by omega)) hkk, Option.bind_some, Option.bind_some, iI_yes, iI_no, ref_no (by omega) (by omega)]
      exact PQ.no h (by simp) (by omega)
  · rw [noCell1 hc hcc, isCell0 hc hcc, Option.bind_some, Option.bind_some, iI_yes, iI_no, ref_no (by omega) (by omega)]
    exact PQ.no h (by simp) (by omega)
