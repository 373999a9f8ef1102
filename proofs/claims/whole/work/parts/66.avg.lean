theorem tdv {x y : Int} (hy : 0 < y) : (0 ≤ x → 0 ≤ x.tdiv y * y ∧ x.tdiv y * y ≤ x) ∧ (x ≤ 0 → x ≤ x.tdiv y * y ∧ x.tdiv y * y ≤ 0) := by
  have pos : ∀ z : Int, 0 ≤ z → 0 ≤ z.tdiv y * y ∧ z.tdiv y * y ≤ z := fun z hz => by
    rw [Int.tdiv_eq_ediv_of_nonneg hz]
    exact ⟨Int.mul_nonneg (Int.ediv_nonneg hz (by omega)) (by omega), Int.ediv_mul_le z (by omega)⟩
  refine ⟨pos x, fun hx => ?_⟩
  have h := pos (-x) (by omega)
  rw [Int.neg_tdiv, Int.neg_mul] at h
  omega
theorem m_ldiv {x y : Int} (x0 : -4000000000000000000 ≤ x) (x1 : x ≤ 4000000000000000000) (y0 : 0 < y) (y1 : y ≤ 1000000) : qldiv x y = x.tdiv y := by
  unfold qldiv
  rw [Int64.toInt_div_of_ne_right _ _ (fun e => by have h1 := congrArg Int64.toInt e; rw [qJ_of (by omega) (by omega)] at h1; have h2 : (-1 : Int64).toInt = -1 := rfl; omega), qJ_of (by omega) (by omega), qJ_of (by omega) (by omega)]
theorem m_lrem {x y : Int} (x0 : -4000000000000000000 ≤ x) (x1 : x ≤ 4000000000000000000) (y0 : 0 < y) (y1 : y ≤ 1000000) : qlrem x y = x - x.tdiv y * y := by
  have ha := Int.natAbs_tdiv_le_natAbs x y
  have hd := m_ldiv x0 x1 y0 y1
  have ht := tdv (x := x) y0
  have e : qJ x / qJ y = qJ (x.tdiv y) := by
    rw [← qJ_toInt (qJ x / qJ y)]
    unfold qldiv at hd
    rw [hd]
  unfold qlrem
  rw [e, qJ_mul, qJ_sub]
  by_cases hx : 0 ≤ x
  · have := ht.1 hx
    rw [qJ_of (by omega) (by omega)]
  · have := ht.2 (by omega)
    rw [qJ_of (by omega) (by omega)]
theorem m_lxor {x y : Int} (x0 : -4000000000000000000 ≤ x) (x1 : x ≤ 4000000000000000000) (y0 : 0 < y) (y1 : y ≤ 1000000) : 0 ≤ qlxor x y ↔ 0 ≤ x := by
  have h1 := BitVec.msb_eq_toInt (x := (qJ x ^^^ qJ y).toBitVec)
  rw [Int64.toBitVec_xor, BitVec.msb_xor, BitVec.msb_eq_toInt, BitVec.msb_eq_toInt, ← Int64.toBitVec_xor, Int64.toInt_toBitVec, Int64.toInt_toBitVec, Int64.toInt_toBitVec, qJ_of (by omega) (by omega), qJ_of (by omega) (by omega), decide_eq_false (show ¬ y < 0 by omega), Bool.xor_false] at h1
  have h2 : x < 0 ↔ (qJ x ^^^ qJ y).toInt < 0 := by
    constructor
    · intro h
      rw [decide_eq_true h] at h1
      exact of_decide_eq_true h1.symm
    · intro h
      rw [decide_eq_true h] at h1
      exact of_decide_eq_true h1
  unfold qlxor
  omega
theorem qlxor_r (x y : Int) : -9223372036854775808 ≤ qlxor x y ∧ qlxor x y ≤ 9223372036854775807 := by
  have h1 := Int64.le_toInt (qJ x ^^^ qJ y)
  have h2 := Int64.toInt_lt (qJ x ^^^ qJ y)
  unfold qlxor
  omega
theorem m_floorDiv {σ : qSt} {x y : Int} (x0 : -4000000000000000000 ≤ x) (x1 : x ≤ 4000000000000000000) (y0 : 0 < y) (y1 : y ≤ 1000000) : fJ9_floorDiv_f86c9 σ x y = some (if 0 ≤ x then x.tdiv y else if x.tdiv y * y = x then x.tdiv y else x.tdiv y - 1) := by
  have ht := tdv (x := x) y0
  have hr := qlxor_r x y
  have hx := m_lxor x0 x1 y0 y1
  unfold fJ9_floorDiv_f86c9
  rw [if_neg (show ¬ qJ y = 0 by rw [mJ_eq0] <;> omega), mqb, m_ldiv x0 x1 y0 y1, iL_0le hr.1 hr.2 (by omega) (by omega)]
  by_cases h : 0 ≤ x
  · rw [if_pos (hx.mpr h), if_pos h]
  · have := ht.2 (by omega)
    rw [if_neg (fun z => h (hx.mp z)), if_neg h, iL_eq0 (by omega) (by omega) (by omega) (by omega)]
    split <;> rfl
/-- sums over the window -/
theorem tf_r {kd : Int → Int} {T L R K : Int} {f : Int → Int} {B : Int} (hB : 0 ≤ B) (h : ∀ x, 0 ≤ x → x < 96 → -B ≤ f x ∧ f x ≤ B) : -(B * 96) ≤ sr (tf kd T L R K f) 96 ∧ sr (tf kd T L R K f) 96 ≤ B * 96 :=
  sr_bound hB (n := 96) fun x x0 x1 => by
    have := h x x0 x1
    unfold tf
    split <;> omega
theorem tf_0 {kd : Int → Int} {T L R K : Int} {f : Int → Int} (h : ∀ x, 0 ≤ f x) : 0 ≤ sr (tf kd T L R K f) 96 :=
  (sr_mem (n := 96) fun x _ _ => by unfold tf; split; · exact h x
                                    · exact Int.le_refl _).1
theorem tf_1 {kd : Int → Int} {T L R K : Int} : 0 ≤ sr (tf kd T L R K (fun _ => 1)) 96 ∧ sr (tf kd T L R K (fun _ => 1)) 96 ≤ 96 := by
  have a := tf_r (kd := kd) (T := T) (L := L) (R := R) (K := K) (f := fun _ => 1) (B := 1) (by omega) (fun _ _ _ => by omega)
  have b := tf_0 (kd := kd) (T := T) (L := L) (R := R) (K := K) (f := fun _ => 1) (fun _ => by omega)
  omega
theorem tf_congr {kd : Int → Int} {T L R K : Int} {f g : Int → Int} (h : ∀ x, 0 ≤ x → x < 96 → f x = g x) : sr (tf kd T L R K f) 96 = sr (tf kd T L R K g) 96 := sr_congr fun x x0 x1 => by
  unfold tf
  rw [h x x0 x1]
theorem sq_0 (x : Int) : 0 ≤ x * x := by
  by_cases h : 0 ≤ x
  · exact Int.mul_nonneg h h
  · have := Int.mul_nonneg (show 0 ≤ -x by omega) (show 0 ≤ -x by omega)
    rw [Int.neg_mul_neg] at this
    exact this
theorem tf_cs {kd : Int → Int} {T L R K : Int} {g : Int → Int} : ∀ n : Nat, (∀ y : Int, 0 ≤ sr (tf kd T L R K (fun x => g x * g x)) n - 2 * y * sr (tf kd T L R K g) n + sr (tf kd T L R K (fun _ => 1)) n * (y * y)) ∧ 0 ≤ sr (tf kd T L R K (fun _ => 1)) n * sr (tf kd T L R K (fun x => g x * g x)) n - sr (tf kd T L R K g) n * sr (tf kd T L R K g) n := by
  intro n
  induction n with
  | zero => exact ⟨fun y => by show 0 ≤ (0 : Int) - 2 * y * 0 + 0 * (y * y); rw [Int.mul_zero, Int.zero_mul]; omega, by show 0 ≤ (0 : Int) * 0 - 0 * 0; omega⟩
  | succ n ih =>
    obtain ⟨i1, i2⟩ := ih
    show (∀ y : Int, 0 ≤ (sr (tf kd T L R K (fun x => g x * g x)) n + tf kd T L R K (fun x => g x * g x) n) - 2 * y * (sr (tf kd T L R K g) n + tf kd T L R K g n) + (sr (tf kd T L R K (fun _ => 1)) n + tf kd T L R K (fun _ => 1) n) * (y * y)) ∧ 0 ≤ (sr (tf kd T L R K (fun _ => 1)) n + tf kd T L R K (fun _ => 1) n) * (sr (tf kd T L R K (fun x => g x * g x)) n + tf kd T L R K (fun x => g x * g x) n) - (sr (tf kd T L R K g) n + tf kd T L R K g n) * (sr (tf kd T L R K g) n + tf kd T L R K g n)
    generalize sr (tf kd T L R K (fun x => g x * g x)) n = Q at i1 i2 ⊢
    generalize sr (tf kd T L R K g) n = S at i1 i2 ⊢
    generalize sr (tf kd T L R K (fun _ => 1)) n = C at i1 i2 ⊢
    by_cases e : INW T L R K n ∧ kd n ≠ 1
    · rw [show tf kd T L R K (fun x => g x * g x) n = g n * g n from if_pos e, show tf kd T L R K g n = g n from if_pos e, show tf kd T L R K (fun _ => 1) n = 1 from if_pos e]
      generalize g (n : Int) = v
      constructor
      · intro y
        have h1 := i1 y
        have h2 := sq_0 (v - y)
        have h3 : (Q + v * v) - 2 * y * (S + v) + (C + 1) * (y * y) = (Q - 2 * y * S + C * (y * y)) + (v - y) * (v - y) := by grind
        omega
      · have h1 := i1 v
        have h3 : (C + 1) * (Q + v * v) - (S + v) * (S + v) = (C * Q - S * S) + (Q - 2 * v * S + C * (v * v)) := by grind
        omega
    · rw [show tf kd T L R K (fun x => g x * g x) n = 0 from if_neg e, show tf kd T L R K g n = 0 from if_neg e, show tf kd T L R K (fun _ => 1) n = 0 from if_neg e, Int.add_zero, Int.add_zero, Int.add_zero]
      exact ⟨i1, i2⟩
/-- both looks of a window find the same -/
theorem looks {a b : qSt} (hW : JW a b) (h : JC a b) {C k T L R K : Int} (hC : isI C) (k0 : 0 ≤ k) (k1 : k ≤ 2) (hw : WIN T L R K) {s : qSt} (fs : ∀ j, (2 ≤ j ∧ j ≤ 4) ∨ (30 ≤ j ∧ j ≤ 33) → s j = a j) (hT : s 66 0 = T) (hL : s 66 1 = L) (hR : s 66 2 = R) (hK : s 66 3 = K) {u : qSt} (fu : ∀ j, 48 ≤ j → j ≤ 56 → u j = b j) {K9 : Nat} (h9 : K9 = 67 ∨ K9 = 68) : ∃ s' u' : qSt, ∃ c n q : Int, fX5_tallyOf K9 C k s = some (0, s') ∧ fX6_look C k T L R K u = some (0, u') ∧ (∀ j, j ≠ K9 → s' j = s j) ∧ (∀ j, j ≠ 47 → u' j = u j) ∧ (∀ j, j ≠ 23 → j ≠ 24 → j ≠ 25 → u' 47 j = u 47 j) ∧ s' K9 0 = c ∧ s' K9 1 = n ∧ s' K9 2 = q ∧ u' 47 23 = c ∧ u' 47 24 = n ∧ u' 47 25 = q ∧ (0 ≤ c ∧ c ≤ 96) ∧ (-96000000 ≤ n ∧ n ≤ 96000000) ∧ (0 ≤ q ∧ q ≤ 96000000000000) ∧ 0 ≤ c * q - n * n ∧ n = sr (tf (b 48) T L R K (nw b C k)) 96 ∧ c = sr (tf (b 48) T L R K (fun _ => 1)) 96 := by
  obtain ⟨q1, q2, q3, q4, ⟨v1, v2, v3, v4, v5, v6⟩, q6⟩ := id hW
  have v1 : KR (a 2) := v1
  have v3 : PR (a 4) := v3
  have s2 : s 2 = a 2 := fs 2 (by omega)
  have s4 : s 4 = a 4 := fs 4 (by omega)
  have snv : nv s = nv a := nv_congr s4 (fs 30 (by omega)) (fs 31 (by omega)) (fs 32 (by omega)) (fs 33 (by omega))
  have u48 : u 48 = b 48 := fu 48 (by omega) (by omega)
  have u50 : u 50 = b 50 := fu 50 (by omega) (by omega)
  have u56 : u 56 = b 56 := fu 56 (by omega) (by omega)
  have unw : nw u = nw b := nw_congr u50 u56
  have hn : ∀ x, 0 ≤ x → x < 96 → nv a C k x = nw b C k x := fun x x0 x1 => nv_nw q3 h x0 x1
  have hr : ∀ x, 0 ≤ x → x < 96 → -1000000 ≤ nw b C k x ∧ nw b C k x ≤ 1000000 := fun x x0 x1 => nw_r h x0 x1
  obtain ⟨s', d1, d2, d3, d4, d5⟩ := m_tallyOf (σ := s) h9 hC k0 k1 hw hT hL hR hK (by rw [s2]; exact v1) (by rw [s4]; exact v3) (fun x x0 x1 => by rw [snv, hn x x0 x1]; exact hr x x0 x1)
  obtain ⟨u', e1, e2, e3, e4, e5, e6⟩ := m_look (a := a) (b := u) (h.fr (a' := a) rfl (fun _ _ _ => rfl) rfl u56) (by rw [u48, ← q1]; exact v1) (by rw [u50, ← q3]; exact v3) hC k0 k1 hw
  rw [u48] at e4
  rw [u48, unw] at e5 e6
  rw [s2, q1] at d3
  rw [s2, q1, snv, tf_congr hn] at d4
  rw [s2, q1, snv, tf_congr (g := fun x => nw b C k x * nw b C k x) (fun x x0 x1 => by rw [hn x x0 x1])] at d5
  have c1 := tf_1 (kd := b 48) (T := T) (L := L) (R := R) (K := K)
  have c2 := tf_r (kd := b 48) (T := T) (L := L) (R := R) (K := K) (f := nw b C k) (B := 1000000) (by omega) hr
  have c3 := tf_r (kd := b 48) (T := T) (L := L) (R := R) (K := K) (f := fun x => nw b C k x * nw b C k x) (B := 1000000000000) (by omega) (fun x x0 x1 => by
    have h1 := hr x x0 x1
    have h2 := sq_0 (nw b C k x)
    generalize nw b C k x = v at h1 h2 ⊢
    refine ⟨by omega, ?_⟩
    have h4 : 0 ≤ (1000000 - v) * (1000000 + v) := Int.mul_nonneg (by omega) (by omega)
    have h5 : (1000000 - v) * (1000000 + v) = 1000000000000 - v * v := by grind
    omega)
  have c4 := tf_0 (kd := b 48) (T := T) (L := L) (R := R) (K := K) (f := fun x => nw b C k x * nw b C k x) (fun x => sq_0 _)
  have c5 := (tf_cs (kd := b 48) (T := T) (L := L) (R := R) (K := K) (g := nw b C k) 96).2
  exact ⟨s', u', _, _, _, d1, e1, d2, e2, e3, d3, d4, d5, e4, e5, e6, c1, by omega, by omega, c5, rfl, rfl⟩
theorem m_win4 {σ : qSt} {T L R K : Int} : ∃ σ', (qb (qrow σ 66 (fun _ => 0)) fun (σ2 : qSt) => fX4_init T L R K σ2) = some (0, σ') ∧ (∀ j, j ≠ 66 → σ' j = σ j) ∧ σ' 66 0 = T ∧ σ' 66 1 = L ∧ σ' 66 2 = R ∧ σ' 66 3 = K := by
  unfold fX4_init
  simp only [mqb]
  refine ⟨_, rfl, fun j hj => by rw [mset_ne hj, mset_ne hj, mset_ne hj, mset_ne hj, mrow_ne hj], ?_, ?_, ?_, ?_⟩
  · simp only [mset_same]; simp
  · simp only [mset_same]; simp
  · simp only [mset_same]; simp
  · simp only [mset_same]; simp
theorem keepA_tmp {a a' : qSt} (h : ∀ j, j < 66 → a' j = a j) : keepA a a' := ⟨by rw [h 0 (by omega)], by rw [h 0 (by omega)], by rw [h 1 (by omega)], by rw [h 27 (by omega)], by rw [h 27 (by omega)], fun k hk => h k (by omega)⟩
theorem p_average {t : Int} {a b : qSt} (h : J t a b) {C k T L R K : Int} (hC : isI C) (hk : isI k) (hT : isI T) (hL : isI L) (hR : isI R) (hK : isI K) : PQ [(0, 0), (2, 1)] t a b (fX5_average C k T L R K a) (fX6_average C k T L R K b) := by
  obtain ⟨j1, j2, j3, j4, j5, j6, j7⟩ := id h
  unfold fX5_average fX6_average fX6_average_c27 fX6_average_c28
  by_cases hkk : 0 ≤ k ∧ k ≤ 2
  · rw [outs0 (by omega) (by omega) hkk.1 hkk.2, with1 (by omega) (by omega) hkk.1 hkk.2, Option.bind_some, Option.bind_some, iI_no, iI_yes, m_noWin hT hL hR hK, m_isWin hT hL hR hK, Option.bind_some, Option.bind_some]
    by_cases hw : WIN T L R K
    · rw [if_pos hw, if_pos hw, iI_no, iI_yes, ref_ok]
      obtain ⟨s1, d1, d2, d3, d4, d5, d6⟩ := m_win4 (σ := a) (T := T) (L := L) (R := R) (K := K)
      rw [mqb] at d1
      rw [mqb, d1, mqbd]
      obtain ⟨s', u', c, n, q, e1, e2, f1, f2, f3, a0, a1, a2, b0, b1, b2, rc, rn, rq9, cs, -, -⟩ := looks j1 j2 hC hkk.1 hkk.2 hw (s := s1) (fun j hj => d2 j (by omega)) d3 d4 d5 d6 (u := qset b 47 0 0) (fun j _ _ => mset_ne (by omega)) (K9 := 67) (Or.inl rfl)
      rw [e1, e2, mqbd, mqbd, a0, a1, b0, b1]
      have fa : ∀ j, j < 66 → s' j = a j := fun j hj => by rw [f1 j (by omega), d2 j (by omega)]
      have fb : ∀ j, j ≠ 47 → u' j = b j := fun j hj => by rw [f2 j hj]; exact mset_ne hj
      have kb : keepB b u' := ⟨fun j h0 _ h3 h4 h5 => by rw [f3 j h3 h4 h5, mset_same]; exact if_neg h0, fun k hk => fb k (by omega)⟩
      have z0 : u' 47 0 = 0 := by rw [f3 0 (by omega) (by omega) (by omega), m_ref0]
      have ok : ∀ r : Int, PQ [(0, 0), (2, 1)] t a b (some (0, r, s')) (some (r, u')) := fun r => PQ.ok h (by simp) (keepA_tmp fa) kb z0 (fun k _ k1 => fa k k1) (fun k hk => fb k (by omega))
      rw [iL_0lt (by omega) (by omega) (by omega) (by omega), iL_eq0 (by omega) (by omega) (by omega) (by omega)]
      by_cases hc0 : c = 0
      · rw [if_neg (show ¬ 0 < c by omega), if_pos hc0]
        exact ok 0
      · have hc1 : 0 < c := by omega
        have ht := tdv (x := 100 * n) hc1
        rw [if_pos hc1, if_neg hc0, mqb, if_neg (show ¬ qJ c = 0 by rw [mJ_eq0] <;> omega), if_neg (show ¬ qJ c = 0 by rw [mJ_eq0] <;> omega), m_floorDiv (by omega) (by omega) hc1 (by omega), Option.bind_some, m_lrem (by omega) (by omega) hc1 (by omega), m_ldiv (by omega) (by omega) hc1 (by omega)]
        by_cases hx : 0 ≤ 100 * n
        · have := ht.1 hx
          rw [if_pos hx, iL_0le (by omega) (by omega) (by omega) (by omega), if_pos (by omega), Int.sub_zero]
          exact ok _
        · have := ht.2 (by omega)
          rw [if_neg hx, iL_0le (by omega) (by omega) (by omega) (by omega)]
          by_cases he : (100 * n).tdiv c * c = 100 * n
          · rw [if_pos he, if_pos (by omega), Int.sub_zero]
            exact ok _
          · rw [if_neg he, if_neg (by omega)]
            exact ok _
    · rw [if_neg hw, if_neg hw, iI_yes, iI_no, ref_no (by omega) (by omega)]
      exact PQ.no h (by simp) (by omega)
  · rw [outs1 hk (isI_of (by omega) (by omega)) (isI_of (by omega) (by omega)) hkk, with0 hk (isI_of (by omega) (by omega)) (isI_of (by omega) (by omega)) hkk, Option.bind_some, Option.bind_some, iI_yes, iI_no, ref_no (by omega) (by omega)]
    exact PQ.no h (by simp) (by omega)
theorem p_scatter {t : Int} {a b : qSt} (h : J t a b) {C k T L R K : Int} (hC : isI C) (hk : isI k) (hT : isI T) (hL : isI L) (hR : isI R) (hK : isI K) : PQ [(0, 0), (2, 1)] t a b (fX5_scatter C k T L R K a) (fX6_scatter C k T L R K b) := by
  obtain ⟨j1, j2, j3, j4, j5, j6, j7⟩ := id h
  unfold fX5_scatter fX6_scatter fX6_scatter_c27 fX6_scatter_c28
  by_cases hkk : 0 ≤ k ∧ k ≤ 2
  · rw [outs0 (by omega) (by omega) hkk.1 hkk.2, with1 (by omega) (by omega) hkk.1 hkk.2, Option.bind_some, Option.bind_some, iI_no, iI_yes, m_noWin hT hL hR hK, m_isWin hT hL hR hK, Option.bind_some, Option.bind_some]
    by_cases hw : WIN T L R K
    · rw [if_pos hw, if_pos hw, iI_no, iI_yes, ref_ok]
      obtain ⟨s1, d1, d2, d3, d4, d5, d6⟩ := m_win4 (σ := a) (T := T) (L := L) (R := R) (K := K)
      rw [mqb] at d1
      rw [mqb, d1, mqbd]
      obtain ⟨s', u', c, n, q, e1, e2, f1, f2, f3, a0, a1, a2, b0, b1, b2, rc, rn, rq9, cs, -, -⟩ := looks j1 j2 hC hkk.1 hkk.2 hw (s := s1) (fun j hj => d2 j (by omega)) d3 d4 d5 d6 (u := qset b 47 0 0) (fun j _ _ => mset_ne (by omega)) (K9 := 67) (Or.inl rfl)
      rw [e1, e2, mqbd, mqbd, a0, a1, a2, b0, b1, b2]
      have fa : ∀ j, j < 66 → s' j = a j := fun j hj => by rw [f1 j (by omega), d2 j (by omega)]
      have fb : ∀ j, j ≠ 47 → u' j = b j := fun j hj => by rw [f2 j hj]; exact mset_ne hj
      have kb : keepB b u' := ⟨fun j h0 _ h3 h4 h5 => by rw [f3 j h3 h4 h5, mset_same]; exact if_neg h0, fun k hk => fb k (by omega)⟩
      have z0 : u' 47 0 = 0 := by rw [f3 0 (by omega) (by omega) (by omega), m_ref0]
      have ok : ∀ r : Int, PQ [(0, 0), (2, 1)] t a b (some (0, r, s')) (some (r, u')) := fun r => PQ.ok h (by simp) (keepA_tmp fa) kb z0 (fun k _ k1 => fa k k1) (fun k hk => fb k (by omega))
      rw [iL_0lt (by omega) (by omega) (by omega) (by omega), iL_eq0 (by omega) (by omega) (by omega) (by omega)]
      by_cases hc0 : c = 0
      · rw [if_neg (show ¬ 0 < c by omega), if_pos hc0]
        exact ok 0
      · have hc1 : 0 < c := by omega
        have hn2 := sq_0 n
        have hcc : 0 < c * c ∧ c * c ≤ 9216 := by
          refine ⟨Int.mul_pos hc1 hc1, ?_⟩
          have h4 : 0 ≤ (96 - c) * (96 + c) := Int.mul_nonneg (by omega) (by omega)
          have h5 : (96 - c) * (96 + c) = 9216 - c * c := by grind
          omega
        have hcq : c * q ≤ 9216000000000000 := by
          have h4 : 0 ≤ (96 - c) * q := Int.mul_nonneg (by omega) (by omega)
          have h5 : (96 - c) * q = 96 * q - c * q := by grind
          omega
        generalize c * q = cq9 at cs hcq ⊢
        generalize n * n = nn at cs hn2 ⊢
        generalize c * c = cc at hcc ⊢
        rw [if_pos hc1, if_neg hc0, mqb, if_neg (show ¬ qJ cc = 0 by rw [mJ_eq0] <;> omega), m_floorDiv (by omega) (by omega) hcc.1 (by omega), Option.bind_some, m_ldiv (by omega) (by omega) hcc.1 (by omega), if_pos (by omega)]
        exact ok _
    · rw [if_neg hw, if_neg hw, iI_yes, iI_no, ref_no (by omega) (by omega)]
      exact PQ.no h (by simp) (by omega)
  · rw [outs1 hk (isI_of (by omega) (by omega)) (isI_of (by omega) (by omega)) hkk, with0 hk (isI_of (by omega) (by omega)) (isI_of (by omega) (by omega)) hkk, Option.bind_some, Option.bind_some, iI_yes, iI_no, ref_no (by omega) (by omega)]
    exact PQ.no h (by simp) (by omega)
