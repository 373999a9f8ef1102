/-! ===== the water tried; ink; of the class alone ===== -/
def TW (kd p : Int → Int) (a : qSt) : Prop := RE (a 15) kd ∧ RE (a 17) p ∧ WOK 14 a
theorem try_one {kd p : Int → Int} {a : qSt} (h : TW kd p a) : ∃ a1, fX3_passStep 14 a = some (0, a1) ∧ TW kd (stepP kd p) a1 ∧ triedA a a1 ∧ ∀ k, 0 ≤ k → k < 4 → -768 ≤ a1 22 k - a 22 k ∧ a1 22 k - a 22 k ≤ 768 := by
  obtain ⟨h1, h3, hW⟩ := h
  obtain ⟨v1, v2, v3, v4, v5, v6⟩ := id hW
  have v3 : PR (a 17) := v3
  have v4 : PR (a 18) := v4
  have v6 : DS (a 18) (a 17) := v6
  obtain ⟨a1, e1, f1, g1, c1, n1, -, -⟩ := m_passStep (B := 14) hW
  have f1 : ∀ k, k ≠ 14 → (k < 17 ∨ 26 < k) → a1 k = a k := f1
  have g4 : ∀ x, a1 17 x = if 0 ≤ x ∧ x < 96 then stepP (a 15) (a 17) x else a 17 x := fun x => (g1 x).1
  have g5 : ∀ x, a1 18 x = if 0 ≤ x ∧ x < 96 then stepD (a 15) (a 17) (a 18) x else a 18 x := fun x => (g1 x).2
  have n1 : ∀ b, 0 ≤ b → a1 22 b = a 22 b + sm (hR (a 15) (a 16) (qbt (mt (a 17))) b) 384 := fun b hb => (n1 b hb).2.1
  have a15 : a1 15 = a 15 := f1 15 (by omega) (by omega)
  have a16 : a1 16 = a 16 := f1 16 (by omega) (by omega)
  refine ⟨a1, e1, ⟨?_, fun x x0 x1 => ?_, ?_, ?_, ?_, ?_, ?_, ?_⟩, fun k hk => f1 k (by omega) (by omega), fun k k0 k1 => ?_⟩
  · rw [a15]; exact h1
  · rw [g4, if_pos ⟨x0, x1⟩]; exact stepP_RE h1 h3 x x0 x1
  · show KR (a1 15); rw [a15]; exact v1
  · show BR (a1 16); rw [a16]; exact v2
  · show PR (a1 17); exact row_PR (stepP_PR _ _) g4
  · show PR (a1 18); exact row_PR (stepD_PR _ _ _) g5
  · show WF (a1 15) (a1 17); rw [a15]; exact row_WF (stepP_WF _ _) g4
  · show DS (a1 18) (a1 17); exact row_DS (step_DS v3 v4 v6) g5 g4
  · have hr := hR_r (a 15) (a 16) (mt (a 17)) k
    rw [n1 k k0]
    omega
theorem like_one {a : qSt} (hW : WOK 1 a) : ∃ a', fX3_becomeLike a = some (0, a') ∧ TW (a 2) (a 4) a' ∧ triedA a a' ∧ ∀ k, 0 ≤ k → k < 4 → a' 22 k = a 9 k := by
  obtain ⟨a', e1, f1, r1, r2, r3, r4, r5⟩ := m_becomeLike (σ := a)
  exact ⟨a', e1, ⟨r1, r3, WOK_RE (B' := 14) hW r1 r2 r3 r4⟩, f1, r5⟩
theorem x_ahead {c N : Int} (c0 : 0 ≤ c) (c1 : c < 96) (hN : N ≤ 5) {kd : Int → Int} : ∀ (n f : Nat) (i : Int) (p : Int → Int) (a : qSt), i + n = N → n < f → 0 ≤ i → TW kd p a → ∃ a', fX5_ahead_c45 f c N i a = some (0, itP kd p n c, a') ∧ triedA a a' := by
  have hcc : 0 ≤ c ∧ c < 96 := ⟨c0, c1⟩
  intro n
  induction n with
  | zero =>
    intro f i p a h1 h2 h3 h4
    obtain ⟨f, rfl⟩ : ∃ f', f = f' + 1 := ⟨f - 1, by omega⟩
    refine ⟨a, ?_, fun _ _ => rfl⟩
    rw [fX5_ahead_c45, if_pos (by rw [mI_le] <;> omega), if_pos hcc, h4.2.1 c c0 c1]
    rfl
  | succ n ih =>
    intro f i p a h1 h2 h3 h4
    obtain ⟨f, rfl⟩ : ∃ f', f = f' + 1 := ⟨f - 1, by omega⟩
    obtain ⟨a1, e1, k1, k2, -⟩ := try_one h4
    obtain ⟨a2, d1, d2⟩ := ih f (i + 1) (stepP kd p) a1 (by omega) (by omega) (by omega) k1
    refine ⟨a2, ?_, triedA.tr k2 d2⟩
    rw [fX5_ahead_c45, if_neg (by rw [mI_le] <;> omega), e1, mqbd, d1, itP_front]
theorem s_ahead {h e s r n : Int} {a : qSt} (H : I h e s r n a) {c k : Int} (c0 : 0 ≤ c) (c1 : c < 96) (k0 : 0 ≤ k) (k1 : k ≤ 5) : ∃ a', fL_ahead c k a = some (itP (a 2) (a 4) k.toNat c, a') ∧ keepA a a' := by
  have hp : PR (a 4) := H.1.1.2.2.1
  have hr := itP_PR (kd := a 2) hp k.toNat c c0 c1
  obtain ⟨a1, e1, e2, e3, -⟩ := like_one H.1.1
  obtain ⟨a2, d1, d2⟩ := x_ahead c0 c1 k1 k.toNat qFU 0 (a 4) a1 (by omega) (by unfold qFU; omega) (by omega) e2
  refine ⟨a2, ?_, (triedA.tr e3 d2).keep⟩
  unfold fL_ahead fX5_ahead
  rw [noCell0 c0 c1, Option.bind_some, iI_no, outs0 (by omega) (by omega) k0 k1, Option.bind_some, iI_no, e1, mqbd, d1, mqbx, if_pos rfl, m_i2l (by omega) (by omega)]
theorem s_anew {h e s r n : Int} {a : qSt} (H : I h e s r n a) {c k : Int} (c0 : 0 ≤ c) (c1 : c < 96) (k0 : 0 ≤ k) (k1 : k ≤ 5) : fL_aheadAnew c k a = some (itP (a 2) (a 4) k.toNat c, a) := by
  obtain ⟨v1, v2, v3, v4, v5, v6⟩ := H.1.1
  have hp : PR (a 4) := v3
  have hr := itP_PR (kd := a 2) hp k.toNat c c0 c1
  have har := m_arrived (σ := a) v1 v3 v5 k.toNat 8 (by omega) (by omega) c c0 c1
  rw [show ((k.toNat : Nat) : Int) = k by omega] at har
  have har : fX5_arrived a c k = some (itP (a 2) (a 4) k.toNat c) := har
  unfold fL_aheadAnew fX5_aheadAnew
  rw [noCell0 c0 c1, Option.bind_some, iI_no, outs0 (by omega) (by omega) k0 k1, Option.bind_some, iI_no, har, Option.bind_some, mqbx, if_pos rfl, m_i2l (by omega) (by omega)]
theorem x_push {k N : Int} (k0 : 0 ≤ k) (k1 : k < 4) (hN : N ≤ 10) {kd : Int → Int} : ∀ (n f : Nat) (i : Int) (p : Int → Int) (a : qSt), i + n = N → n < f → 0 ≤ i → TW kd p a → -(768 * i) ≤ a 22 k - a 9 k → a 22 k - a 9 k ≤ 768 * i → ∃ a' r, fX5_pushWithout_c29 f k N i a = some (r, a') ∧ triedA a a' ∧ -7680 ≤ r ∧ r ≤ 7680 := by
  have hkk : 0 ≤ k ∧ k < 4 := ⟨k0, k1⟩
  intro n
  induction n with
  | zero =>
    intro f i p a h1 h2 h3 h4 h6 h7
    obtain ⟨f, rfl⟩ : ∃ f', f = f' + 1 := ⟨f - 1, by omega⟩
    refine ⟨a, a 22 k - a 9 k, ?_, fun _ _ => rfl, by omega, by omega⟩
    rw [fX5_pushWithout_c29, if_pos (by rw [mI_le] <;> omega), m_isNoBody (by omega) (by omega), if_pos hkk, Option.bind_some, iI_no, if_pos hkk, if_pos hkk]
  | succ n ih =>
    intro f i p a h1 h2 h3 h4 h6 h7
    obtain ⟨f, rfl⟩ : ∃ f', f = f' + 1 := ⟨f - 1, by omega⟩
    obtain ⟨a1, e1, g1, g2, g5⟩ := try_one h4
    have g6 := g5 k k0 k1
    have a9 : a1 9 = a 9 := g2 9 (by omega)
    obtain ⟨a2, r, d1, d3, d5⟩ := ih f (i + 1) (stepP kd p) a1 (by omega) (by omega) (by omega) g1 (by rw [a9]; omega) (by rw [a9]; omega)
    refine ⟨a2, r, ?_, triedA.tr g2 d3, d5⟩
    rw [fX5_pushWithout_c29, if_neg (by rw [mI_le] <;> omega), e1]
    exact d1
theorem x_push0 {a : qSt} (hW : WOK 1 a) {k N : Int} (k0 : 0 ≤ k) (k1 : k < 4) (hN0 : 0 ≤ N) (hN : N ≤ 10) : ∃ a' r, fX5_pushWithout (-1) k N a = some (r, a') ∧ triedA a a' ∧ -7680 ≤ r ∧ r ≤ 7680 := by
  obtain ⟨a1, e1, e3, e4, e6⟩ := like_one hW
  have a9 : a1 9 = a 9 := e4 9 (by omega)
  obtain ⟨a2, r, d1, d3, d5⟩ := x_push k0 k1 hN N.toNat qFU 0 (a 4) a1 (by omega) (by unfold qFU; omega) (by omega) e3 (by rw [e6 k k0 k1, a9]; omega) (by rw [e6 k k0 k1, a9]; omega)
  refine ⟨a2, r, ?_, triedA.tr e4 d3, d5⟩
  unfold fX5_pushWithout fX5_pushWithout_c26
  rw [e1, mqbd, noCell1 (isI_of (by omega) (by omega)) (by omega), Option.bind_some, iI_yes]
  exact d1
theorem x_push1 {a : qSt} (hW : WOK 1 a) {k N c : Int} (k0 : 0 ≤ k) (k1 : k < 4) (hN0 : 0 ≤ N) (hN : N ≤ 10) (c0 : 0 ≤ c) (c1 : c < 96) : ∃ a' r, fX5_pushWithout c k N a = some (r, a') ∧ triedA a a' ∧ -7680 ≤ r ∧ r ≤ 7680 := by
  have hcc : 0 ≤ c ∧ c < 96 := ⟨c0, c1⟩
  obtain ⟨a1, e1, ⟨e3, e5, e7⟩, e4, e6⟩ := like_one hW
  have y15 : ∀ x, qset (qset a1 15 c 0) 16 c (-1) 15 x = if x = c then 0 else a1 15 x := fun x => by
    rw [mset_ne (by omega), mset_same]
  have y16 : ∀ x, qset (qset a1 15 c 0) 16 c (-1) 16 x = if x = c then -1 else a1 16 x := fun x => by
    rw [mset_same, mset_ne (by omega)]
  have fr : ∀ j, j ≠ 15 → j ≠ 16 → qset (qset a1 15 c 0) 16 c (-1) j = a1 j := fun j j5 j6 => by rw [mset_ne j6, mset_ne j5]
  have eF : fX3_makeFree 14 c a1 = some (0, qset (qset a1 15 c 0) 16 c (-1)) := by
    unfold fX3_makeFree
    simp only [if_pos hcc, mqb]
  generalize qset (qset a1 15 c 0) 16 c (-1) = a2 at y15 y16 fr eF
  have tA1 : triedA a a2 := fun j hj => by rw [fr j (by omega) (by omega), e4 j hj]
  have y9 : a2 9 = a 9 := tA1 9 (by omega)
  have y22 : a2 22 = a1 22 := fr 22 (by omega) (by omega)
  have y17 : a2 17 = a1 17 := fr 17 (by omega) (by omega)
  have y18 : a2 18 = a1 18 := fr 18 (by omega) (by omega)
  have hTW : TW (a2 15) (a2 17) a2 := by
    obtain ⟨v1, v2, v3, v4, v5, v6⟩ := e7
    have v1 : KR (a1 15) := v1
    have v2 : BR (a1 16) := v2
    have v3 : PR (a1 17) := v3
    have v4 : PR (a1 18) := v4
    have v5 : WF (a1 15) (a1 17) := v5
    have v6 : DS (a1 18) (a1 17) := v6
    refine ⟨fun x _ _ => rfl, fun x _ _ => rfl, fun x x0 x1 => ?_, fun x x0 x1 => ?_, ?_, ?_, fun x x0 x1 hx => ?_, ?_⟩
    · show 0 ≤ a2 15 x ∧ a2 15 x ≤ 3
      rw [y15]
      have := v1 x x0 x1
      split <;> omega
    · show -1 ≤ a2 16 x ∧ a2 16 x ≤ 3
      rw [y16]
      have := v2 x x0 x1
      split <;> omega
    · show PR (a2 17); rw [y17]; exact v3
    · show PR (a2 18); rw [y18]; exact v4
    · show a2 17 x = 0
      have hx : a2 15 x = 1 := hx
      rw [y15] at hx
      rw [y17]
      by_cases e : x = c
      · rw [if_pos e] at hx; omega
      · rw [if_neg e] at hx; exact v5 x x0 x1 hx
    · show DS (a2 18) (a2 17); rw [y17, y18]; exact v6
  obtain ⟨a3, r, d1, d3, d5⟩ := x_push k0 k1 hN N.toNat qFU 0 (a2 17) a2 (by omega) (by unfold qFU; omega) (by omega) hTW (by rw [y22, y9, e6 k k0 k1]; omega) (by rw [y22, y9, e6 k k0 k1]; omega)
  refine ⟨a3, r, ?_, triedA.tr tA1 d3, d5⟩
  unfold fX5_pushWithout fX5_pushWithout_c26
  rw [e1, mqbd, noCell0 c0 c1, Option.bind_some, iI_no, eF, mqbd]
  exact d1
theorem x_better {k N : Int} (k0 : 0 ≤ k) (k1 : k < 4) (hN0 : 0 ≤ N) (hN : N ≤ 10) (bd : Int → Int) : ∀ (n f : Nat) (i best least : Int) (a : qSt), i + n = 96 → n < f → 0 ≤ i → IW a → a 3 = bd → (best = -1 ∨ 0 ≤ best ∧ best < 96 ∧ bd best = k) → -7680 ≤ least → least ≤ 7680 → ∃ a' r, fX5_better_c47 f k N best least i a = some (0, r, a') ∧ triedA a a' ∧ (r = -1 ∨ 0 ≤ r ∧ r < 96 ∧ bd r = k) := by
  intro n
  induction n with
  | zero =>
    intro f i best least a h1 h2 h3 h4 h7 hb h5 h6
    obtain ⟨f, rfl⟩ : ∃ f', f = f' + 1 := ⟨f - 1, by omega⟩
    refine ⟨a, best, ?_, fun _ _ => rfl, hb⟩
    rw [fX5_better_c47, if_pos (by rw [mI_le] <;> omega)]
  | succ n ih =>
    intro f i best least a h1 h2 h3 h4 h7 hb h5 h6
    obtain ⟨f, rfl⟩ : ∃ f', f = f' + 1 := ⟨f - 1, by omega⟩
    have hii : 0 ≤ i ∧ i < 96 := by omega
    have hb3 : BR (a 3) := h4.1.2.1
    have hbi := hb3 i hii.1 hii.2
    have hn : ¬ qI 96 ≤ qI i := by rw [mI_le] <;> omega
    rw [fX5_better_c47, if_neg hn, if_pos hii, iI_eq (by omega) (by omega) (by omega) (by omega)]
    by_cases e : a 3 i = k
    · rw [if_pos e]
      obtain ⟨a1, r, d1, d3, d5, d6⟩ := x_push1 h4.1 k0 k1 hN0 hN hii.1 hii.2
      rw [d1, mqbd]
      have hJ : IW a1 := h4.fr (fun j _ _ => d3 j (by omega))
      have h71 : a1 3 = bd := by rw [d3 3 (by omega)]; exact h7
      unfold fX5_better_c92
      rw [iI_le (by omega) (by omega) (by omega) (by omega)]
      by_cases el : least ≤ r
      · rw [if_pos el]
        obtain ⟨a2, r2, g1, g3, g4⟩ := ih f (i + 1) best least a1 (by omega) (by omega) (by omega) hJ h71 hb h5 h6
        exact ⟨a2, r2, g1, triedA.tr d3 g3, g4⟩
      · rw [if_neg el]
        obtain ⟨a2, r2, g1, g3, g4⟩ := ih f (i + 1) i r a1 (by omega) (by omega) (by omega) hJ h71 (Or.inr ⟨hii.1, hii.2, by rw [← h7]; exact e⟩) d5 d6
        exact ⟨a2, r2, g1, triedA.tr d3 g3, g4⟩
    · rw [if_neg e]
      unfold fX5_better_c92
      exact ih f (i + 1) best least a (by omega) (by omega) (by omega) h4 h7 hb h5 h6
theorem s_better {h e s r n : Int} {a : qSt} (H : I h e s r n a) {k : Int} (k0 : 0 ≤ k) (k1 : k < 4) : ∃ a' v, fL_better k 1 a = some (v, a') ∧ keepA a a' ∧ (v = -1 ∨ 0 ≤ v ∧ v < 96 ∧ a 3 v = k) := by
  obtain ⟨a1, r1, d1, d3, d5, d6⟩ := x_push0 H.1.1 k0 k1 (N := 1) (by omega) (by omega)
  have hJ1 : IW a1 := H.1.fr (fun j _ _ => d3 j (by omega))
  obtain ⟨a2, v, g1, g3, g4⟩ := x_better k0 k1 (N := 1) (by omega) (by omega) (a 3) 96 qFU 0 (-1) r1 a1 (by omega) (by unfold qFU; omega) (by omega) hJ1 (d3 3 (by omega)) (Or.inl rfl) d5 d6
  refine ⟨a2, v, ?_, (triedA.tr d3 g3).keep, g4⟩
  unfold fL_better fX5_better
  rw [noBody0 k0 k1, Option.bind_some, iI_no, outs0 (by omega) (by omega) (show (1 : Int) ≤ 1 by omega) (show (1 : Int) ≤ 10 by omega), Option.bind_some, iI_no, d1, mqbd, g1, mqbx, if_pos rfl, m_i2l (by omega) (by omega)]
/-! the ink -/
theorem pr_r (p d : Int → Int) : 0 ≤ sr (pr4 p d) 96 ∧ sr (pr4 p d) 96 ≤ 192 := by
  have h1 := sr_bound (f := pr4 p d) (B := 2) (by omega) (n := 96) (fun x _ _ => by
    have g0 := eg4_r p d x (bs x 0)
    have g3 := eg4_r p d x (bs x 3)
    unfold pr4
    omega)
  have h2 := (sr_mem (f := pr4 p d) (n := 96) (fun x _ _ => by
    have g0 := eg4_r p d x (bs x 0)
    have g3 := eg4_r p d x (bs x 3)
    unfold pr4
    omega)).1
  omega
theorem s_mixed0 {h e s r n : Int} {a : qSt} (H : I h e s r n a) : fL_mixed 0 a = some (sr (pr4 (a 4) (a 5)) 96, a) := by
  have v3 : PR (a 4) := H.1.1.2.2.1
  have v4 : PR (a 5) := H.1.1.2.2.2.1
  have hr := pr_r (a 4) (a 5)
  unfold fL_mixed fX5_mixed
  rw [if_pos rfl, m_edges v3 v4, Option.bind_some, mqbx, if_pos rfl, m_i2l (by omega) (by omega)]
theorem s_mixed1 {h e s r n : Int} {a : qSt} (H : I h e s r n a) : ∃ a', fL_mixed 1 a = some (sr (un4 (a 4) (a 5) (cnt (a 4)) (cnt (a 5))) 96, a') ∧ keepA a a' := by
  have v3 : PR (a 4) := H.1.1.2.2.1
  have v4 : PR (a 5) := H.1.1.2.2.2.1
  obtain ⟨a', e1, e2⟩ := m_uneven (σ := a) v3 v4
  refine ⟨a', ?_, keepA_tmp fun j hj => e2 j (by omega)⟩
  unfold fL_mixed fX5_mixed
  rw [iI_eq (by omega) (by omega) (by omega) (by omega), if_neg (by omega), if_pos rfl, e1, mqbd, mqbx, if_pos rfl]
  rfl
theorem cnt_r (r : Int → Int) : 0 ≤ cnt r ∧ cnt r ≤ 384 := sbtc_r r
theorem cnt_le {d p : Int → Int} (h : DS d p) : cnt d ≤ cnt p := by
  have h1 := (sr_mem (f := fun c => btc (p c) - btc (d c)) (n := 96) (fun c c0 c1 => by
    have := btc_le (x := p c) (y := d c) (fun w w0 w1 => h c w c0 (by omega) w0 w1)
    omega)).1
  rw [sr_sub] at h1
  unfold cnt
  omega
theorem cnt_same {d p : Int → Int} (hd : PR d) (hp : PR p) (h : DS d p) (he : cnt d = cnt p) : ∀ c, 0 ≤ c → c < 96 → d c = p c := fun c c0 c1 => by
  have h1 := (sr_mem (f := fun c => btc (p c) - btc (d c)) (n := 96) (fun c c0 c1 => by
    have := btc_le (x := p c) (y := d c) (fun w w0 w1 => h c w c0 (by omega) w0 w1)
    omega)).2 c c0 (by omega)
  rw [sr_sub] at h1
  have h1 : btc (p c) - btc (d c) ≤ cnt p - cnt d := h1
  have b0 : bt (d c) 0 ≤ bt (p c) 0 := h c 0 c0 c1 (by omega) (by omega)
  have b1 : bt (d c) 1 ≤ bt (p c) 1 := h c 1 c0 c1 (by omega) (by omega)
  have b2 : bt (d c) 2 ≤ bt (p c) 2 := h c 2 c0 c1 (by omega) (by omega)
  have b3 : bt (d c) 3 ≤ bt (p c) 3 := h c 3 c0 c1 (by omega) (by omega)
  unfold btc at h1
  have q1 := hd c c0 c1
  have q2 := hp c c0 c1
  refine eq_bits q1.1 q1.2 q2.1 q2.2 fun v v0 v1 => ?_
  rcases (show v = 0 ∨ v = 1 ∨ v = 2 ∨ v = 3 by omega) with rfl | rfl | rfl | rfl <;> omega
theorem cnt_zero {d : Int → Int} (hd : PR d) (he : cnt d = 0) : ∀ c, 0 ≤ c → c < 96 → d c = 0 := fun c c0 c1 => by
  have h1 := (sr_mem (f := fun c => btc (d c)) (n := 96) (fun c _ _ => (btc_r (d c)).1)).2 c c0 (by omega)
  have h1 : btc (d c) ≤ cnt d := h1
  have b0 := bt_r (d c) 0
  have b1 := bt_r (d c) 1
  have b2 := bt_r (d c) 2
  have b3 := bt_r (d c) 3
  unfold btc at h1
  have q1 := hd c c0 c1
  refine eq_bits q1.1 q1.2 (by omega) (by omega) fun v v0 v1 => ?_
  rw [bt_0]
  rcases (show v = 0 ∨ v = 1 ∨ v = 2 ∨ v = 3 by omega) with rfl | rfl | rfl | rfl <;> omega
theorem eg_0 {p d : Int → Int} {c x : Int} (c0 : 0 ≤ c) (c1 : c < 96) (x0 : -1 ≤ x) (x1 : x < 96) (h : (∀ c, 0 ≤ c → c < 96 → 0 ≤ sh4 p d c) ∨ ∀ c, 0 ≤ c → c < 96 → sh4 p d c ≤ 0) : eg4 p d c x = 0 := by
  unfold eg4
  by_cases e : x = -1
  · rw [if_pos e]
  · rw [if_neg e]
    have hc := sh4_r p d c
    have hx := sh4_r p d x
    rw [if_neg]
    rcases h with h | h
    · have h1 := h c c0 c1
      have h2 := h x (by omega) x1
      have := Int.mul_nonneg h1 h2
      omega
    · have h1 := h c c0 c1
      have h2 := h x (by omega) x1
      have := Int.mul_nonneg (show 0 ≤ -sh4 p d c by omega) (show 0 ≤ -sh4 p d x by omega)
      rw [Int.neg_mul_neg] at this
      omega
/-- ink that is nowhere, or everywhere, is not mixed -/
theorem unmixed {p d : Int → Int} (hp : PR p) (hd : PR d) (hs : DS d p) (he : ¬ (0 < cnt d ∧ cnt d < cnt p)) : sr (pr4 p d) 96 = 0 ∧ sr (un4 p d (cnt p) (cnt d)) 96 = 0 := by
  have hle := cnt_le hs
  have hr := cnt_r d
  rcases (show cnt d = 0 ∨ cnt d = cnt p by omega) with e | e
  · have hz := cnt_zero hd e
    refine ⟨sr_zero fun c c0 c1 => ?_, sr_zero fun c c0 c1 => ?_⟩
    · have hb0 := bs_r (c := c) (w := 0) c0 (by omega)
      have hb3 := bs_r (c := c) (w := 3) c0 (by omega)
      have hh : ∀ c, 0 ≤ c → c < 96 → sh4 p d c ≤ 0 := fun c c0 c1 => by
        unfold sh4
        rw [hz c c0 c1]
        by_cases e1 : p c = 0
        · rw [if_pos e1]; omega
        · rw [if_neg e1, if_neg (fun z => e1 z.symm), if_pos rfl]; omega
      unfold pr4
      rw [eg_0 c0 (by omega) hb0.1 hb0.2 (Or.inr hh), eg_0 c0 (by omega) hb3.1 hb3.2 (Or.inr hh)]
      rfl
    · unfold un4
      split
      · rename_i hc
        unfold bl4
        rw [e, hz c c0 (by omega), hz (c + 1) (by omega) (by omega), hz (c + 12) (by omega) (by omega), hz (c + 13) (by omega) (by omega)]
        rw [show btc 0 = 0 from rfl, Int.zero_mul]
        simp [ab4]
      · rfl
  · have hz := cnt_same hd hp hs e
    refine ⟨sr_zero fun c c0 c1 => ?_, sr_zero fun c c0 c1 => ?_⟩
    · have hb0 := bs_r (c := c) (w := 0) c0 (by omega)
      have hb3 := bs_r (c := c) (w := 3) c0 (by omega)
      have hh : ∀ c, 0 ≤ c → c < 96 → 0 ≤ sh4 p d c := fun c c0 c1 => by
        unfold sh4
        rw [hz c c0 c1]
        by_cases e1 : p c = 0
        · rw [if_pos e1]; omega
        · rw [if_neg e1, if_pos rfl]; omega
      unfold pr4
      rw [eg_0 c0 (by omega) hb0.1 hb0.2 (Or.inl hh), eg_0 c0 (by omega) hb3.1 hb3.2 (Or.inl hh)]
      rfl
    · unfold un4
      split
      · rename_i hc
        unfold bl4
        rw [e, hz c c0 (by omega), hz (c + 1) (by omega) (by omega), hz (c + 12) (by omega) (by omega), hz (c + 13) (by omega) (by omega), Int.mul_comm, Int.sub_self]
        rfl
      · rfl
