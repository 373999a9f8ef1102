/-! ===== better ===== -/
theorem push_loop {k N : Int} (k0 : 0 ≤ k) (k1 : k < 4) (hN : N ≤ 10) : ∀ (n f : Nat) (i acc : Int) (a b : qSt), i + n = N → n < f → 0 ≤ i → TR a b → a 22 k - a 9 k = acc → -(768 * i) ≤ acc → acc ≤ 768 * i → ∃ a' b' r, fX5_pushWithout_c29 f k N i a = some (r, a') ∧ fX6_pushIn_c9 f k N acc i b = some (r, b') ∧ triedA a a' ∧ triedB b b' ∧ -7680 ≤ r ∧ r ≤ 7680 := by
  have hkk : 0 ≤ k ∧ k < 4 := ⟨k0, k1⟩
  intro n
  induction n with
  | zero =>
    intro f i acc a b h1 h2 h3 h4 h5 h6 h7
    obtain ⟨f, rfl⟩ : ∃ f', f = f' + 1 := ⟨f - 1, by omega⟩
    refine ⟨a, b, acc, ?_, ?_, fun _ _ => rfl, ⟨fun _ _ _ _ _ _ _ => rfl, fun _ _ => rfl⟩, by omega, by omega⟩
    · rw [fX5_pushWithout_c29, if_pos (by rw [mI_le] <;> omega), m_isNoBody (by omega) (by omega), if_pos hkk, Option.bind_some, iI_no, if_pos hkk, if_pos hkk, h5]
    · rw [fX6_pushIn_c9, if_pos (by rw [mI_le] <;> omega)]
  | succ n ih =>
    intro f i acc a b h1 h2 h3 h4 h5 h6 h7
    obtain ⟨f, rfl⟩ : ∃ f', f = f' + 1 := ⟨f - 1, by omega⟩
    obtain ⟨a1, b1, e1, e2, g1, g2, g3, g4, g5⟩ := try_two h4
    obtain ⟨g6, g7, g8⟩ := g5 k k0 k1
    have a9 : a1 9 = a 9 := g2 9 (by omega)
    obtain ⟨a2, b2, r, d1, d2, d3, d4, d5, d6⟩ := ih f (i + 1) (acc + b1 60 (3 * k + 1)) a1 b1 (by omega) (by omega) (by omega) g1 (by rw [g6, a9]; omega) (by omega) (by omega)
    refine ⟨a2, b2, r, ?_, ?_, triedA.tr g2 d3, triedB.tr ⟨g3, g4⟩ d4, d5, d6⟩
    · rw [fX5_pushWithout_c29, if_neg (by rw [mI_le] <;> omega), e1]; exact d1
    · rw [fX6_pushIn_c9, if_neg (by rw [mI_le] <;> omega), e2, mqbd, if_pos (show 0 ≤ 3 * k + 1 ∧ 3 * k + 1 < 12 by omega), mqb]; exact d2
theorem push_all {a b : qSt} (h : JW a b) {k N : Int} (k0 : 0 ≤ k) (k1 : k < 4) (hN0 : 0 ≤ N) (hN : N ≤ 10) : ∃ a' b' r, fX5_pushWithout (-1) k N a = some (r, a') ∧ fX6_pushIn k N b = some (r, b') ∧ triedA a a' ∧ triedB b b' ∧ -7680 ≤ r ∧ r ≤ 7680 := by
  obtain ⟨a1, b1, e1, e2, e3, e4, e5, e6⟩ := try_start h
  have a9 : a1 9 = a 9 := e4 9 (by omega)
  obtain ⟨a2, b2, r, d1, d2, d3, d4, d5⟩ := push_loop k0 k1 hN N.toNat qFU 0 0 a1 b1 (by omega) (by unfold qFU; omega) (by omega) e3 (by rw [e6 k k0 k1, a9]; omega) (by omega) (by omega)
  refine ⟨a2, b2, r, ?_, ?_, triedA.tr e4 d3, triedB.tr e5 d4, d5⟩
  · unfold fX5_pushWithout fX5_pushWithout_c26
    rw [e1, mqbd, noCell1 (isI_of (by omega) (by omega)) (by omega), Option.bind_some, iI_yes]
    exact d1
  · unfold fX6_pushIn
    rw [e2, mqbd]
    exact d2
/-- one cell made free, for a while -/
theorem push_one {a b : qSt} (h : JW a b) {k N c : Int} (k0 : 0 ≤ k) (k1 : k < 4) (hN0 : 0 ≤ N) (hN : N ≤ 10) (c0 : 0 ≤ c) (c1 : c < 96) (hc : b 49 c = k) : ∃ a' b' r, fX5_pushWithout c k N a = some (r, a') ∧ fX6_pushIn k N (qset (qset b 48 c 0) 49 c (-1)) = some (r, b') ∧ triedA a a' ∧ triedB b (qset (qset b' 48 c 1) 49 c k) ∧ -7680 ≤ r ∧ r ≤ 7680 := by
  obtain ⟨q1, q2, q3, q4, hW, q6⟩ := id h
  have hcc : 0 ≤ c ∧ c < 96 := ⟨c0, c1⟩
  obtain ⟨a1, e1, f1, r1, r2, r3, r4, r5⟩ := m_becomeLike (σ := a)
  obtain ⟨b1, e2, f2, s1, s2⟩ := m_copy (σ := qset (qset b 48 c 0) 49 c (-1))
  have z50 : qset (qset b 48 c 0) 49 c (-1) 50 = b 50 := by rw [mset_ne (by omega), mset_ne (by omega)]
  have z51 : qset (qset b 48 c 0) 49 c (-1) 51 = b 51 := by rw [mset_ne (by omega), mset_ne (by omega)]
  rw [z50] at s1
  rw [z51] at s2
  have x48 : ∀ x, b1 48 x = if x = c then 0 else b 48 x := fun x => by rw [f2 48 (by omega) (by omega), mset_ne (by omega), mset_same]
  have x49 : ∀ x, b1 49 x = if x = c then -1 else b 49 x := fun x => by rw [f2 49 (by omega) (by omega), mset_same, mset_ne (by omega)]
  have y15 : ∀ x, 0 ≤ x → x < 96 → qset (qset a1 15 c 0) 16 c (-1) 15 x = if x = c then 0 else b 48 x := fun x x0 x1 => by
    rw [mset_ne (by omega), mset_same]
    show (if x = c then 0 else a1 15 x) = _
    rw [r1 x x0 x1, q1]
  have y16 : ∀ x, 0 ≤ x → x < 96 → qset (qset a1 15 c 0) 16 c (-1) 16 x = if x = c then -1 else b 49 x := fun x x0 x1 => by
    rw [mset_same, mset_ne (by omega)]
    show (if x = c then -1 else a1 16 x) = _
    rw [r2 x x0 x1, q2]
  have fr : ∀ j, j ≠ 15 → j ≠ 16 → qset (qset a1 15 c 0) 16 c (-1) j = a1 j := fun j j5 j6 => by rw [mset_ne j6, mset_ne j5]
  have y17 : qset (qset a1 15 c 0) 16 c (-1) 17 = a1 17 := fr 17 (by omega) (by omega)
  have y18 : qset (qset a1 15 c 0) 16 c (-1) 18 = a1 18 := fr 18 (by omega) (by omega)
  have y9 : qset (qset a1 15 c 0) 16 c (-1) 9 = a 9 := by rw [fr 9 (by omega) (by omega), f1 9 (by omega)]
  have y22 : qset (qset a1 15 c 0) 16 c (-1) 22 = a1 22 := fr 22 (by omega) (by omega)
  have eF : fX3_makeFree 14 c a1 = some (0, qset (qset a1 15 c 0) 16 c (-1)) := by
    unfold fX3_makeFree
    simp only [if_pos hcc, mqb]
  have tA1 : triedA a (qset (qset a1 15 c 0) 16 c (-1)) := fun j hj => by rw [fr j (by omega) (by omega), f1 j hj]
  generalize qset (qset a1 15 c 0) 16 c (-1) = a2 at y15 y16 y17 y18 y9 y22 eF tA1
  have hTR : TR a2 b1 := by
    obtain ⟨v1, v2, v3, v4, v5, v6⟩ := hW
    have v1 : KR (a 2) := v1
    have v2 : BR (a 3) := v2
    have v3 : PR (a 4) := v3
    have v4 : PR (a 5) := v4
    have v5 : WF (a 2) (a 4) := v5
    have v6 : DS (a 5) (a 4) := v6
    refine ⟨fun x x0 x1 => ?_, fun x x0 x1 => ?_, fun x x0 x1 => ?_, fun x x0 x1 => ?_, fun x x0 x1 => ?_, fun x x0 x1 => ?_, fun x x0 x1 => ?_, fun x x0 x1 => ?_, fun x x0 x1 hx => ?_, fun x w x0 x1 w0 w1 => ?_⟩
    · rw [y15 x x0 x1, x48]
    · rw [y16 x x0 x1, x49]
    · rw [y17, r3 x x0 x1, s1 x x0 x1, q3]
    · rw [y18, r4 x x0 x1, s2 x x0 x1, q4]
    · show 0 ≤ a2 15 x ∧ a2 15 x ≤ 3
      rw [y15 x x0 x1, ← q1]
      have := v1 x x0 x1
      split <;> omega
    · show -1 ≤ a2 16 x ∧ a2 16 x ≤ 3
      rw [y16 x x0 x1, ← q2]
      have := v2 x x0 x1
      split <;> omega
    · show 0 ≤ a2 17 x ∧ a2 17 x ≤ 15
      rw [y17, r3 x x0 x1]; exact v3 x x0 x1
    · show 0 ≤ a2 18 x ∧ a2 18 x ≤ 15
      rw [y18, r4 x x0 x1]; exact v4 x x0 x1
    · show a2 17 x = 0
      have hx : a2 15 x = 1 := hx
      rw [y15 x x0 x1] at hx
      rw [y17, r3 x x0 x1]
      by_cases e : x = c
      · rw [if_pos e] at hx; omega
      · rw [if_neg e, ← q1] at hx; exact v5 x x0 x1 hx
    · show qbt (a2 18) x w ≤ qbt (a2 17) x w
      have := v6 x w x0 x1 w0 w1
      unfold qbt at this ⊢
      rw [y17, y18, r3 x x0 x1, r4 x x0 x1]; exact this
  obtain ⟨a3, b3, r, d1, d2, d3, d4, d5⟩ := push_loop k0 k1 hN N.toNat qFU 0 0 a2 b1 (by omega) (by unfold qFU; omega) (by omega) hTR (by rw [y22, y9, r5 k k0 k1]; omega) (by omega) (by omega)
  refine ⟨a3, b3, r, ?_, ?_, triedA.tr tA1 d3, ?_, d5⟩
  · unfold fX5_pushWithout fX5_pushWithout_c26
    rw [e1, mqbd, noCell0 c0 c1, Option.bind_some, iI_no, eF, mqbd]
    exact d1
  · unfold fX6_pushIn
    rw [e2, mqbd]
    exact d2
  · have hk1 : b 48 c = 1 := by
      rw [← q1]
      refine q6 c c0 c1 ?_
      rw [q2, hc]; omega
    refine ⟨fun j j1 j2 j3 j4 j5 j6 => ?_, fun j hj => ?_⟩
    · by_cases e8 : j = 48
      · subst e8
        rw [mset_ne (by omega), mset_same]
        funext x
        show (if x = c then 1 else b3 48 x) = _
        rw [d4.1 48 (by omega) (by omega) (by omega) (by omega) (by omega) (by omega), x48]
        by_cases e : x = c
        · rw [if_pos e, e, hk1]
        · rw [if_neg e, if_neg e]
      · by_cases e9 : j = 49
        · subst e9
          rw [mset_same, mset_ne (by omega)]
          funext x
          show (if x = c then k else b3 49 x) = _
          rw [d4.1 49 (by omega) (by omega) (by omega) (by omega) (by omega) (by omega), x49]
          by_cases e : x = c
          · rw [if_pos e, e, hc]
          · rw [if_neg e, if_neg e]
        · rw [mset_ne e9, mset_ne e8, d4.1 j j1 j2 j3 j4 j5 j6, f2 j j4 j5, mset_ne e9, mset_ne e8]
    · rw [mset_ne (by omega), mset_ne (by omega), d4.2 j hj, f2 47 (by omega) (by omega), mset_ne (by omega), mset_ne (by omega)]
theorem better_loop {k N : Int} (k0 : 0 ≤ k) (k1 : k < 4) (hN0 : 0 ≤ N) (hN : N ≤ 10) : ∀ (n f : Nat) (i best least : Int) (a b : qSt), i + n = 96 → n < f → 0 ≤ i → JW a b → -7680 ≤ least → least ≤ 7680 → ∃ a' b' r, fX5_better_c47 f k N best least i a = some (0, r, a') ∧ fX6_better_c50 f k N least best i b = some (r, b') ∧ triedA a a' ∧ triedB b b' := by
  intro n
  induction n with
  | zero =>
    intro f i best least a b h1 h2 h3 h4 h5 h6
    obtain ⟨f, rfl⟩ : ∃ f', f = f' + 1 := ⟨f - 1, by omega⟩
    refine ⟨a, b, best, ?_, ?_, fun _ _ => rfl, fun _ _ _ _ _ _ _ => rfl, fun _ _ => rfl⟩
    · rw [fX5_better_c47, if_pos (by rw [mI_le] <;> omega)]
    · rw [fX6_better_c50, if_pos (by rw [mI_le] <;> omega)]
  | succ n ih =>
    intro f i best least a b h1 h2 h3 h4 h5 h6
    obtain ⟨f, rfl⟩ : ∃ f', f = f' + 1 := ⟨f - 1, by omega⟩
    have hii : 0 ≤ i ∧ i < 96 := by omega
    obtain ⟨q1, q2, q3, q4, hW, q6⟩ := id h4
    have hb3 : BR (a 3) := hW.2.1
    have hbi := hb3 i hii.1 hii.2
    have hn : ¬ qI 96 ≤ qI i := by rw [mI_le] <;> omega
    rw [fX5_better_c47, fX6_better_c50, if_neg hn, if_neg hn, if_pos hii, if_pos hii, ← q2, iI_eq (by omega) (by omega) (by omega) (by omega), iI_eq (by omega) (by omega) (by omega) (by omega)]
    by_cases e : a 3 i = k
    · rw [if_pos e, if_pos e]
      simp only [if_pos hii, mqb]
      obtain ⟨a1, b1, r, d1, d2, d3, d4, d5, d6⟩ := push_one h4 k0 k1 hN0 hN hii.1 hii.2 (show b 49 i = k by rw [← q2]; exact e)
      rw [d1, d2, mqbd, mqbd]
      have hJ : JW a1 (qset (qset b1 48 i 1) 49 i k) := h4.fr (fun j _ _ => d3 j (by omega)) (fun j _ _ => d4.1 j (by omega) (by omega) (by omega) (by omega) (by omega) (by omega))
      unfold fX5_better_c92 fX6_better_c121 fX6_better_c135 fX6_better_c136
      rw [iI_le (by omega) (by omega) (by omega) (by omega), iI_le (by omega) (by omega) (by omega) (by omega)]
      by_cases el : least ≤ r
      · rw [if_pos el, if_pos el, iI_le (by omega) (by omega) (by omega) (by omega), if_pos el]
        obtain ⟨a2, b2, r2, g1, g2, g3, g4⟩ := ih f (i + 1) best least a1 (qset (qset b1 48 i 1) 49 i k) (by omega) (by omega) (by omega) hJ h5 h6
        exact ⟨a2, b2, r2, g1, g2, triedA.tr d3 g3, triedB.tr d4 g4⟩
      · rw [if_neg el, if_neg el, iI_le (by omega) (by omega) (by omega) (by omega), if_neg el]
        obtain ⟨a2, b2, r2, g1, g2, g3, g4⟩ := ih f (i + 1) i r a1 (qset (qset b1 48 i 1) 49 i k) (by omega) (by omega) (by omega) hJ d5 d6
        exact ⟨a2, b2, r2, g1, g2, triedA.tr d3 g3, triedB.tr d4 g4⟩
    · rw [if_neg e, if_neg e]
      exact ih f (i + 1) best least a b (by omega) (by omega) (by omega) h4 h5 h6
theorem p_better {t : Int} {a b : qSt} (h : J t a b) {c k : Int} (hc : isI c) (hk : isI k) : PQ [(0, 0), (1, 1), (2, 2)] t a b (fX5_better c k a) (fX6_better c k b) := by
  unfold fX5_better fX6_better fX6_better_c29
  by_cases hcc : 0 ≤ c ∧ c < 4
  · obtain ⟨c0, c1⟩ := id hcc
    rw [noBody0 c0 c1, with1 (by omega) (by omega) c0 (show c ≤ 3 by omega), Option.bind_some, Option.bind_some, iI_no, iI_yes]
    by_cases hkk : 1 ≤ k ∧ k ≤ 10
    · rw [outs0 (by omega) (by omega) hkk.1 hkk.2, with1 (by omega) (by omega) hkk.1 hkk.2, Option.bind_some, Option.bind_some, iI_no, iI_yes, ref_ok]
      have hJ : J t a (qset b 47 0 0) := h.keep (by omega) (keepA.rf a) (keepB.ref b 0)
      obtain ⟨a1, b1, r, d1, d2, d3, d4, d5, d6⟩ := push_all hJ.1 c0 c1 (show 0 ≤ k by omega) hkk.2
      have hJ1 : JW a1 b1 := hJ.1.fr (fun j _ _ => d3 j (by omega)) (fun j _ _ => d4.1 j (by omega) (by omega) (by omega) (by omega) (by omega) (by omega))
      obtain ⟨a2, b2, r2, g1, g2, g3, g4⟩ := better_loop c0 c1 (show 0 ≤ k by omega) hkk.2 96 qFU 0 (-1) r a1 b1 (by omega) (by unfold qFU; omega) (by omega) hJ1 d5 d6
      rw [d1, d2, mqbd, mqbd, g1, g2]
      have tA := triedA.tr d3 g3
      have tB := triedB.tr d4 g4
      exact PQ.ok h (by simp) tA.keep tB.keep tB.z (fun k k0 _ => tA k (by omega)) tB.fr
    · rw [outs1 hk (isI_of (by omega) (by omega)) (isI_of (by omega) (by omega)) hkk, with0 hk (isI_of (by omega) (by omega)) (isI_of (by omega) (by omega)) hkk, Option.bind_some, Option.bind_some, iI_yes, iI_no, ref_no (by omega) (by omega)]
      exact PQ.no h (by simp) (by omega)
  · rw [noBody1 hc hcc, with0 hc (isI_of (by omega) (by omega)) (isI_of (by omega) (by omega)) (show ¬ (0 ≤ c ∧ c ≤ 3) by omega), Option.bind_some, Option.bind_some, iI_yes, iI_no, ref_no (by omega) (by omega)]
    exact PQ.no h (by simp) (by omega)
