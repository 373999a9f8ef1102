/-! ===== rounds; windows, of the class ===== -/
theorem round_one {n : Int} {a : qSt} (h : IC n a) (hn : n ≤ 1000000) (hk : KR (a 2)) : ∃ a1, fX0_passRound a = some (0, a1) ∧ IC n a1 ∧ (∀ k, k ≠ 27 → (k < 30 ∨ 37 < k) → a1 k = a k) ∧ ∀ j, a1 27 j = if j = 3 then a 27 3 + 1 else a 27 j := by
  have hz : ∀ c v : Int, 0 ≤ c → c < 96 → 0 ≤ v → v < 4 → a 2 c = 1 → rq a c v = 0 := fun c v c0 c1 v0 v1 z => (h.1 c v c0 c1 v0 v1).2.1 z
  have hR : CR (rq a) := fun c w c0 c1 w0 w1 => by
    have := h.r c0 c1 w0 w1
    exact ⟨this.1, by show a (30 + w.toNat) c ≤ 1000000; omega⟩
  obtain ⟨a1, d1, d2, d3, d4⟩ := m_passRound (a := a) hk hR hz (fun c v c0 c1 v0 v1 => (h.1 c v c0 c1 v0 v1).2.2)
  have hzq : ∀ c v, 0 ≤ c → c < 96 → 0 ≤ v → v < 4 → a 2 c = 1 → ev (rq a) c v = 0 := fun c v c0 c1 v0 v1 z => ev_wall (fun w w0 w1 => hz c w c0 c1 w0 w1 z) v0 v1
  refine ⟨a1, d1, ⟨fun c w c0 c1 w0 w1 => ?_, ?_, ?_⟩, d2, d3⟩
  · obtain ⟨y1, y2⟩ := d4 c w c0 c1 w0 w1
    have hc := sC_r c0 c1 (kd := a 2) (w := w)
    have hw := sW_r w0 w1 (kd := a 2) (c := c)
    rw [y1]
    refine ⟨?_, fun z => ?_, y2⟩
    · unfold gq
      split
      · omega
      · exact ev_0 (fun w w0 w1 => (hR _ w hc.1 hc.2 w0 w1).1) hw.1 hw.2
    · rw [d2 2 (by omega) (by omega)] at z
      unfold gq
      rw [if_pos z]
  · rw [d3, if_neg (by omega), h.2.1, sm_congr' (f := rq a1) (g := gq (a 2) (ev (rq a))) (fun c w c0 c1 w0 w1 => (d4 c w c0 c1 w0 w1).1), sm_gq hzq, sm_ev]
  · rw [d3, if_neg (by omega)]; exact h.2.2
theorem x_flow {N m : Int} (hm : m ≤ 1000000) (hN : N ≤ 100) : ∀ (n f : Nat) (i : Int) (a : qSt), i + n = N → n < f → 0 ≤ i → IC m a → KR (a 2) → ∃ a', fX5_flow_c20 f N i a = some (0, a' 27 3, a') ∧ IC m a' ∧ (∀ k, k ≠ 27 → (k < 30 ∨ 37 < k) → a' k = a k) ∧ ∀ j, a' 27 j = if j = 3 then a 27 3 + n else a 27 j := by
  intro n
  induction n with
  | zero =>
    intro f i a h1 h2 h3 h4 h5
    obtain ⟨f, rfl⟩ : ∃ f', f = f' + 1 := ⟨f - 1, by omega⟩
    have e : i = N := by omega
    refine ⟨a, ?_, h4, fun _ _ _ => rfl, fun j => ?_⟩
    · rw [fX5_flow_c20, if_pos (by rw [mI_le] <;> omega)]
    · by_cases e : j = 3
      · rw [if_pos e, e]; show _ = _ + 0; omega
      · rw [if_neg e]
  | succ n ih =>
    intro f i a h1 h2 h3 h4 h5
    obtain ⟨f, rfl⟩ : ∃ f', f = f' + 1 := ⟨f - 1, by omega⟩
    obtain ⟨a1, e1, k1, k2, k3⟩ := round_one h4 hm h5
    have q2 : a1 2 = a 2 := k2 2 (by omega) (by omega)
    obtain ⟨a2, d1, d3, d4, d5⟩ := ih f (i + 1) a1 (by omega) (by omega) (by omega) k1 (by rw [q2]; exact h5)
    refine ⟨a2, ?_, d3, fun k k0 k1 => by rw [d4 k k0 k1, k2 k k0 k1], fun j => ?_⟩
    · rw [fX5_flow_c20, if_neg (by rw [mI_le] <;> omega), e1]; exact d1
    · rw [d5, k3, k3, if_pos rfl]
      by_cases e : j = 3
      · rw [if_pos e, if_pos e]; omega
      · rw [if_neg e, if_neg e, if_neg e]
theorem s_flow {h e s r n : Int} {a : qSt} (H : I h e s r n a) (hn : n ≤ 1000000) {k : Int} (k0 : 1 ≤ k) (k1 : k ≤ 100) : ∃ a', fL_flow k a = some (a 27 3 + k, a') ∧ I h e s (r + k) n a' ∧ a' 27 2 = a 27 2 ∧ a' 0 6 = a 0 6 ∧ a' 38 3 = a 38 3 := by
  obtain ⟨j1, j2, j3, j4, j5, j6, j7⟩ := id H
  have hk : KR (a 2) := j1.1.1
  obtain ⟨a', d1, d2, d3, d4⟩ := x_flow hn k1 k.toNat qFU 0 a (by omega) (by unfold qFU; omega) (by omega) j2 hk
  have hm : ((k.toNat : Nat) : Int) = k := by omega
  rw [hm] at d4
  have z3 : a' 27 3 = a 27 3 + k := by rw [d4, if_pos rfl]
  have fr : ∀ k, k ≠ 27 → (k < 30 ∨ 37 < k) → a' k = a k := d3
  refine ⟨a', ?_, ⟨j1.fr (fun k _ _ => fr k (by omega) (by omega)), d2, j3.fr (fun k _ _ => fr k (by omega) (by omega)), j4.fr (fun k _ _ => fr k (by omega) (by omega)) (fr 4 (by omega) (by omega)) (by rw [fr 1 (by omega) (by omega)]), j5.fr (fun k _ _ => fr k (by omega) (by omega)) ⟨by rw [fr 0 (by omega) (by omega)], by rw [fr 0 (by omega) (by omega)]⟩, j6.fr (fr 46 (by omega) (by omega)), ?_⟩, by rw [d4, if_neg (by omega)], by rw [fr 0 (by omega) (by omega)], by rw [fr 38 (by omega) (by omega)]⟩
  · unfold fL_flow fX5_flow
    rw [outs0 (by omega) (by omega) k0 k1, Option.bind_some, iI_no, d1, mqbx, if_pos rfl, z3]
  · have := j7.1
    have := j7.2
    exact ⟨by rw [z3]; omega, by rw [z3]; omega⟩
theorem nv_r {h e s r n : Int} {a : qSt} (H : I h e s r n a) (hn : n ≤ 250000) {C k c : Int} (c0 : 0 ≤ c) (c1 : c < 96) : -1000000 ≤ nv a C k c ∧ nv a C k c ≤ 1000000 := by
  have b0 : 0 ≤ a 30 c ∧ a 30 c ≤ n := H.2.1.r (w := 0) c0 c1 (by omega) (by omega)
  have b1 : 0 ≤ a 31 c ∧ a 31 c ≤ n := H.2.1.r (w := 1) c0 c1 (by omega) (by omega)
  have b2 : 0 ≤ a 32 c ∧ a 32 c ≤ n := H.2.1.r (w := 2) c0 c1 (by omega) (by omega)
  have b3 : 0 ≤ a 33 c ∧ a 33 c ≤ n := H.2.1.r (w := 3) c0 c1 (by omega) (by omega)
  have p := btc_r (a 4 c)
  have p0 := bt_r (a 4 c) 0
  have p1 := bt_r (a 4 c) 1
  have p2 := bt_r (a 4 c) 2
  have p3 := bt_r (a 4 c) 3
  unfold nv
  repeat' split
  all_goals omega
/-- a window is looked at -/
theorem looks {h e s r n : Int} {a : qSt} (H : I h e s r n a) (hn : n ≤ 250000) {C k T L R K : Int} (hC : isI C) (k0 : 0 ≤ k) (k1 : k ≤ 2) (hw : WIN T L R K) {u : qSt} (fs : ∀ j, (2 ≤ j ∧ j ≤ 4) ∨ (30 ≤ j ∧ j ≤ 33) → u j = a j) (hT : u 66 0 = T) (hL : u 66 1 = L) (hR : u 66 2 = R) (hK : u 66 3 = K) : ∃ s' : qSt, ∃ c n q : Int, fX5_tallyOf 67 C k u = some (0, s') ∧ (∀ j, j ≠ 67 → s' j = u j) ∧ s' 67 0 = c ∧ s' 67 1 = n ∧ s' 67 2 = q ∧ (0 ≤ c ∧ c ≤ 96) ∧ (-96000000 ≤ n ∧ n ≤ 96000000) ∧ (0 ≤ q ∧ q ≤ 96000000000000) ∧ 0 ≤ c * q - n * n ∧ c = sr (tf (a 2) T L R K (fun _ => 1)) 96 ∧ n = sr (tf (a 2) T L R K (nv a C k)) 96 ∧ q = sr (tf (a 2) T L R K (fun x => nv a C k x * nv a C k x)) 96 := by
  have v1 : KR (a 2) := H.1.1.1
  have v3 : PR (a 4) := H.1.1.2.2.1
  have s2 : u 2 = a 2 := fs 2 (by omega)
  have s4 : u 4 = a 4 := fs 4 (by omega)
  have snv : nv u = nv a := nv_congr s4 (fs 30 (by omega)) (fs 31 (by omega)) (fs 32 (by omega)) (fs 33 (by omega))
  have hr : ∀ x, 0 ≤ x → x < 96 → -1000000 ≤ nv a C k x ∧ nv a C k x ≤ 1000000 := fun x x0 x1 => nv_r H hn x0 x1
  obtain ⟨s', d1, d2, d3, d4, d5⟩ := m_tallyOf (σ := u) (K9 := 67) (Or.inl rfl) hC k0 k1 hw hT hL hR hK (by rw [s2]; exact v1) (by rw [s4]; exact v3) (fun x x0 x1 => by rw [snv]; exact hr x x0 x1)
  rw [s2] at d3
  rw [s2, snv] at d4 d5
  have c1 := tf_1 (kd := a 2) (T := T) (L := L) (R := R) (K := K)
  have c2 := tf_r (kd := a 2) (T := T) (L := L) (R := R) (K := K) (f := nv a C k) (B := 1000000) (by omega) hr
  have c3 := tf_r (kd := a 2) (T := T) (L := L) (R := R) (K := K) (f := fun x => nv a C k x * nv a C k x) (B := 1000000000000) (by omega) (fun x x0 x1 => by
    have h1 := hr x x0 x1
    have h2 := sq_0 (nv a C k x)
    generalize nv a C k x = v at h1 h2 ⊢
    refine ⟨by omega, ?_⟩
    have h4 : 0 ≤ (1000000 - v) * (1000000 + v) := Int.mul_nonneg (by omega) (by omega)
    have h5 : (1000000 - v) * (1000000 + v) = 1000000000000 - v * v := by grind
    omega)
  have c4 := tf_0 (kd := a 2) (T := T) (L := L) (R := R) (K := K) (f := fun x => nv a C k x * nv a C k x) (fun x => sq_0 _)
  have c5 := (tf_cs (kd := a 2) (T := T) (L := L) (R := R) (K := K) (g := nv a C k) 96).2
  exact ⟨s', _, _, _, d1, d2, d3, d4, d5, c1, by omega, by omega, c5, rfl, rfl, rfl⟩
theorem tf_one {kd f : Int → Int} {c : Int} (c0 : 0 ≤ c) (c1 : c < 96) : sr (tf kd (c / 12) (c % 12) 1 1 f) 96 = if kd c = 1 then 0 else f c := by
  rw [sr_congr (g := fun x => if x = c then (if kd c = 1 then 0 else f c) else 0) (fun x x0 x1 => ?_)]
  · exact sr_one c0 c1
  · unfold tf
    show _ = if x = c then (if kd c = 1 then 0 else f c) else 0
    by_cases e : x = c
    · rw [if_pos e, e]
      by_cases e2 : kd c = 1
      · rw [if_neg (fun z => z.2 e2), if_pos e2]
      · rw [if_pos ⟨by refine ⟨by omega, by omega, by omega⟩, e2⟩, if_neg e2]
    · rw [if_neg e, if_neg (fun z => ?_)]
      obtain ⟨⟨z1, z2, z3⟩, -⟩ := z
      exact e (by omega)
/-- the average of one cell -/
theorem s_average1 {h e s r n : Int} {a : qSt} (H : I h e s r n a) (hn : n ≤ 250000) {C k c : Int} (hC : isI C) (k0 : 0 ≤ k) (k1 : k ≤ 2) (c0 : 0 ≤ c) (c1 : c < 96) : ∃ a', fL_average C k (c / 12) (c % 12) 1 1 a = some (if a 2 c = 1 then 0 else 100 * nv a C k c, a') ∧ keepA a a' := by
  have hw : WIN (c / 12) (c % 12) 1 1 := ⟨by omega, by omega, by omega, by omega⟩
  have hr := nv_r H hn (C := C) (k := k) c0 c1
  obtain ⟨s1, d1, d2, d3, d4, d5, d6⟩ := m_win4 (σ := a) (T := c / 12) (L := c % 12) (R := 1) (K := 1)
  rw [mqb] at d1
  obtain ⟨s', c9, n9, q9, e1, f1, a0, a1, a2, rc, rn, rq9, cs, x1, x2, x3⟩ := looks H hn hC k0 k1 hw (u := s1) (fun j hj => d2 j (by omega)) d3 d4 d5 d6
  rw [tf_one c0 c1] at x1 x2
  have fa : ∀ j, j < 66 → s' j = a j := fun j hj => by rw [f1 j (by omega), d2 j (by omega)]
  refine ⟨s', ?_, keepA_tmp fa⟩
  unfold fL_average fX5_average
  rw [outs0 (by omega) (by omega) k0 k1, Option.bind_some, iI_no, m_noWin (isI_of (by omega) (by omega)) (isI_of (by omega) (by omega)) (isI_of (by omega) (by omega)) (isI_of (by omega) (by omega)), Option.bind_some, if_pos hw, iI_no, mqb, d1, mqbd, e1, mqbd, a0, a1, iL_0lt (by omega) (by omega) (by omega) (by omega)]
  by_cases hk : a 2 c = 1
  · rw [if_pos hk] at x1
    rw [if_neg (by omega), mqbx, if_pos rfl, if_pos hk]
  · rw [if_neg hk] at x1 x2
    have x1 : c9 = 1 := x1
    rw [x1, if_pos (by omega), m_floorDiv (by omega) (by omega) (by omega) (by omega), Option.bind_some, mqbx, if_pos rfl, if_neg hk, x2, Int.tdiv_one, Int.mul_one, if_pos rfl, ite_self]
theorem tdiv_r {x y : Int} (hx : 0 ≤ x) (hy : 0 < y) : 0 ≤ x.tdiv y ∧ x.tdiv y ≤ x := by
  refine ⟨Int.tdiv_nonneg hx (by omega), ?_⟩
  have h1 := (tdv (x := x) hy).1 hx
  have h2 : 0 ≤ x.tdiv y := Int.tdiv_nonneg hx (by omega)
  have h3 : x.tdiv y * 1 ≤ x.tdiv y * y := Int.mul_le_mul_of_nonneg_left (by omega) h2
  omega
/-- a scatter is none below 0; that of one cell is 0 -/
theorem s_scatter {h e s r n : Int} {a : qSt} (H : I h e s r n a) (hn : n ≤ 250000) {C k T L R K : Int} (hC : isI C) (k0 : 0 ≤ k) (k1 : k ≤ 2) (hw : WIN T L R K) : ∃ a' v, fL_scatter C k T L R K a = some (v, a') ∧ keepA a a' ∧ 0 ≤ v ∧ v ≤ 1000000000000000000 ∧ ∀ c, 0 ≤ c → c < 96 → T = c / 12 → L = c % 12 → R = 1 → K = 1 → v = 0 := by
  obtain ⟨s1, d1, d2, d3, d4, d5, d6⟩ := m_win4 (σ := a) (T := T) (L := L) (R := R) (K := K)
  rw [mqb] at d1
  obtain ⟨s', c9, n9, q9, e1, f1, a0, a1, a2, rc, rn, rq9, cs, x1, x2, x3⟩ := looks H hn hC k0 k1 hw (u := s1) (fun j hj => d2 j (by omega)) d3 d4 d5 d6
  have fa : ∀ j, j < 66 → s' j = a j := fun j hj => by rw [f1 j (by omega), d2 j (by omega)]
  have hone : ∀ c, 0 ≤ c → c < 96 → T = c / 12 → L = c % 12 → R = 1 → K = 1 → c9 * q9 - n9 * n9 = 0 := fun c c0 c1 hT hL hR hK => by
    rw [hT, hL, hR, hK, tf_one c0 c1] at x1 x2 x3
    rw [x1, x2, x3]
    by_cases hk : a 2 c = 1
    · rw [if_pos hk, if_pos hk, if_pos hk]; rfl
    · rw [if_neg hk, if_neg hk, if_neg hk, Int.one_mul, Int.sub_self]
  have key : ∃ v, fX5_scatter C k T L R K a = some (0, v, s') ∧ 0 ≤ v ∧ v ≤ 1000000000000000000 ∧ (c9 * q9 - n9 * n9 = 0 → v = 0) := by
    unfold fX5_scatter
    obtain ⟨w1, w2, w3, w4⟩ := id hw
    rw [outs0 (by omega) (by omega) k0 k1, Option.bind_some, iI_no, m_noWin (isI_of (by omega) (by omega)) (isI_of (by omega) (by omega)) (isI_of (by omega) (by omega)) (isI_of (by omega) (by omega)), Option.bind_some, if_pos hw, iI_no, mqb, d1, mqbd, e1, mqbd, a0, a1, a2, iL_0lt (by omega) (by omega) (by omega) (by omega)]
    by_cases hc0 : c9 = 0
    · rw [if_neg (show ¬ 0 < c9 by omega)]
      exact ⟨0, rfl, by omega, by omega, fun _ => rfl⟩
    · have hc1 : 0 < c9 := by omega
      have hn2 := sq_0 n9
      have hcc : 0 < c9 * c9 ∧ c9 * c9 ≤ 9216 := by
        refine ⟨Int.mul_pos hc1 hc1, ?_⟩
        have h4 : 0 ≤ (96 - c9) * (96 + c9) := Int.mul_nonneg (by omega) (by omega)
        have h5 : (96 - c9) * (96 + c9) = 9216 - c9 * c9 := by grind
        omega
      have hcq : c9 * q9 ≤ 9216000000000000 := by
        have h4 : 0 ≤ (96 - c9) * q9 := Int.mul_nonneg (by omega) (by omega)
        have h5 : (96 - c9) * q9 = 96 * q9 - c9 * q9 := by grind
        omega
      generalize c9 * q9 = cq9 at cs hcq ⊢
      generalize n9 * n9 = nn at cs hn2 ⊢
      generalize c9 * c9 = cc at hcc ⊢
      have ht := tdiv_r (x := 100 * (cq9 - nn)) (y := cc) (by omega) hcc.1
      rw [if_pos hc1, mqb, m_floorDiv (by omega) (by omega) hcc.1 (by omega), Option.bind_some, if_pos (by omega)]
      refine ⟨_, rfl, ht.1, by omega, fun z => ?_⟩
      rw [z]
      exact Int.zero_tdiv cc
  obtain ⟨v, q1, q2, q3, q4⟩ := key
  refine ⟨s', v, ?_, keepA_tmp fa, q2, q3, fun c c0 c1 hT hL hR hK => q4 (hone c c0 c1 hT hL hR hK)⟩
  unfold fL_scatter
  rw [q1, mqbx, if_pos rfl]
