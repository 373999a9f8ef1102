theorem tdv {x y : Int} (hy : 0 < y) : (0 ≤ x → 0 ≤ x.tdiv y * y ∧ x.tdiv y * y ≤ x) ∧ (x ≤ 0 → x ≤ x.tdiv y * y ∧ x.tdiv y * y ≤ 0) := by
  have pos : ∀ z : Int, 0 ≤ z → 0 ≤ z.tdiv y * y ∧ z.tdiv y * y ≤ z := fun z hz => by
    rw [Int.tdiv_eq_ediv_of_nonneg hz]
    exact ⟨Int.mul_nonneg (Int.ediv_nonneg hz (by omega)) (by omega), Int.ediv_mul_le z (by omega)⟩
  refine ⟨pos x, fun hx => ?_⟩
  have h := pos (-x) (by omega)
  rw [Int.neg_tdiv, Int.neg_mul] at h
  omega
theorem m_ldiv {x y : Int} (x0 : -4000000000000000000 ≤ x) (x1 : x ≤ 4000000000000000000) (y0 : 0 < y) (y1 : y ≤ 1000000) : qldiv x y = x.tdiv y := by
  unfold qldiv
  rw [Int64.toInt_div_of_ne_right _ _ (fun e => by have h1 := congrArg Int64.toInt e; rw [qJ_of (by omega) (by omega)] at h1; have h2 : (-1 : Int64).toInt = -1 := rfl; omega), qJ_of (by omega) (by omega), qJ_of (by omega) (by omega)]
theorem m_lrem {x y : Int} (x0 : -4000000000000000000 ≤ x) (x1 : x ≤ 4000000000000000000) (y0 : 0 < y) (y1 : y ≤ 1000000) : qlrem x y = x - x.tdiv y * y := by
  have ha := Int.natAbs_tdiv_le_natAbs x y
  have hd := m_ldiv x0 x1 y0 y1
  have ht := tdv (x := x) y0
  have e : qJ x / qJ y = qJ (x.tdiv y) := by
    rw [← qJ_toInt (qJ x / qJ y)]
    unfold qldiv at hd
    rw [hd]
  unfold qlrem
  rw [e, qJ_mul, qJ_sub]
  by_cases hx : 0 ≤ x
  · have := ht.1 hx
    rw [qJ_of (by omega) (by omega)]
  · have := ht.2 (by omega)
    rw [qJ_of (by omega) (by omega)]
theorem m_lxor {x y : Int} (x0 : -4000000000000000000 ≤ x) (x1 : x ≤ 4000000000000000000) (y0 : 0 < y) (y1 : y ≤ 1000000) : 0 ≤ qlxor x y ↔ 0 ≤ x := by
  have h1 := BitVec.msb_eq_toInt (x := (qJ x ^^^ qJ y).toBitVec)
  rw [Int64.toBitVec_xor, BitVec.msb_xor, BitVec.msb_eq_toInt, BitVec.msb_eq_toInt, ← Int64.toBitVec_xor, Int64.toInt_toBitVec, Int64.toInt_toBitVec, Int64.toInt_toBitVec, qJ_of (by omega) (by omega), qJ_of (by omega) (by omega), decide_eq_false (show ¬ y < 0 by omega), Bool.xor_false] at h1
  have h2 : x < 0 ↔ (qJ x ^^^ qJ y).toInt < 0 := by
    constructor
    · intro h
      rw [decide_eq_true h] at h1
      exact of_decide_eq_true h1.symm
    · intro h
      rw [decide_eq_true h] at h1
      exact of_decide_eq_true h1
  unfold qlxor
  omega
theorem qlxor_r (x y : Int) : -9223372036854775808 ≤ qlxor x y ∧ qlxor x y ≤ 9223372036854775807 := by
  have h1 := Int64.le_toInt (qJ x ^^^ qJ y)
  have h2 := Int64.toInt_lt (qJ x ^^^ qJ y)
  unfold qlxor
  omega
theorem m_floorDiv {σ : qSt} {x y : Int} (x0 : -4000000000000000000 ≤ x) (x1 : x ≤ 4000000000000000000) (y0 : 0 < y) (y1 : y ≤ 1000000) : fJ9_floorDiv_f86c9 σ x y = some (if 0 ≤ x then x.tdiv y else if x.tdiv y * y = x then x.tdiv y else x.tdiv y - 1) := by
  have ht := tdv (x := x) y0
  have hr := qlxor_r x y
  have hx := m_lxor x0 x1 y0 y1
  unfold fJ9_floorDiv_f86c9
  rw [if_neg (show ¬ qJ y = 0 by rw [mJ_eq0] <;> omega), mqb, m_ldiv x0 x1 y0 y1, iL_0le hr.1 hr.2 (by omega) (by omega)]
  by_cases h : 0 ≤ x
  · rw [if_pos (hx.mpr h), if_pos h]
  · have := ht.2 (by omega)
    rw [if_neg (fun z => h (hx.mp z)), if_neg h, iL_eq0 (by omega) (by omega) (by omega) (by omega)]
    split <;> rfl
/-- sums over the window -/
theorem tf_r {kd : Int → Int} {T L R K : Int} {f : Int → Int} {B : Int} (hB : 0 ≤ B) (h : ∀ x, 0 ≤ x → x < 96 → -B ≤ f x ∧ f x ≤ B) : -(B * 96) ≤ sr (tf kd T L R K f) 96 ∧ sr (tf kd T L R K f) 96 ≤ B * 96 :=
  sr_bound hB (n := 96) fun x x0 x1 => by
    have := h x x0 x1
    unfold tf
    split <;> omega
theorem tf_0 {kd : Int → Int} {T L R K : Int} {f : Int → Int} (h : ∀ x, 0 ≤ f x) : 0 ≤ sr (tf kd T L R K f) 96 :=
  (sr_mem (n := 96) fun x _ _ => by unfold tf; split; · exact h x
                                    · exact Int.le_refl _).1
theorem tf_1 {kd : Int → Int} {T L R K : Int} : 0 ≤ sr (tf kd T L R K (fun _ => 1)) 96 ∧ sr (tf kd T L R K (fun _ => 1)) 96 ≤ 96 := by
  have a := tf_r (kd := kd) (T := T) (L := L) (R := R) (K := K) (f := fun _ => 1) (B := 1) (by omega) (fun _ _ _ => by omega)
  have b := tf_0 (kd := kd) (T := T) (L := L) (R := R) (K := K) (f := fun _ => 1) (fun _ => by omega)
  omega
theorem tf_congr {kd : Int → Int} {T L R K : Int} {f g : Int → Int} (h : ∀ x, 0 ≤ x → x < 96 → f x = g x) : sr (tf kd T L R K f) 96 = sr (tf kd T L R K g) 96 := sr_congr fun x x0 x1 => by
  unfold tf
  rw [h x x0 x1]
theorem sq_0 (x : Int) : 0 ≤ x * x := by
  by_cases h : 0 ≤ x
  · exact Int.mul_nonneg h h
  · have := Int.mul_nonneg (show 0 ≤ -x by omega) (show 0 ≤ -x by omega)
    rw [Int.neg_mul_neg] at this
    exact this
theorem tf_cs {kd : Int → Int} {T L R K : Int} {g : Int → Int} : ∀ n : Nat, (∀ y : Int, 0 ≤ sr (tf kd T L R K (fun x => g x * g x)) n - 2 * y * sr (tf kd T L R K g) n + sr (tf kd T L R K (fun _ => 1)) n * (y * y)) ∧ 0 ≤ sr (tf kd T L R K (fun _ => 1)) n * sr (tf kd T L R K (fun x => g x * g x)) n - sr (tf kd T L R K g) n * sr (tf kd T L R K g) n := by
  intro n
  induction n with
  | zero => exact ⟨fun y => by show 0 ≤ (0 : Int) - 2 * y * 0 + 0 * (y * y); rw [Int.mul_zero, Int.zero_mul]; omega, by show 0 ≤ (0 : Int) * 0 - 0 * 0; omega⟩
  | succ n ih =>
    obtain ⟨i1, i2⟩ := ih
    show (∀ y : Int, 0 ≤ (sr (tf kd T L R K (fun x => g x * g x)) n + tf kd T L R K (fun x => g x * g x) n) - 2 * y * (sr (tf kd T L R K g) n + tf kd T L R K g n) + (sr (tf kd T L R K (fun _ => 1)) n + tf kd T L R K (fun _ => 1) n) * (y * y)) ∧ 0 ≤ (sr (tf kd T L R K (fun _ => 1)) n + tf kd T L R K (fun _ => 1) n) * (sr (tf kd T L R K (fun x => g x * g x)) n + tf kd T L R K (fun x => g x * g x) n) - (sr (tf kd T L R K g) n + tf kd T L R K g n) * (sr (tf kd T L R K g) n + tf kd T L R K g n)
    generalize sr (tf kd T L R K (fun x => g x * g x)) n = Q at i1 i2 ⊢
    generalize sr (tf kd T L R K g) n = S at i1 i2 ⊢
    generalize sr (tf kd T L R K (fun _ => 1)) n = C at i1 i2 ⊢
    by_cases e : INW T L R K n ∧ kd n ≠ 1
    · rw [show tf kd T L R K (fun x => g x * g x) n = g n * g n from if_pos e, show tf kd T L R K g n = g n from if_pos e, show tf kd T L R K (fun _ => 1) n = 1 from if_pos e]
      generalize g (n : Int) = v
      constructor
      · intro y
        have h1 := i1 y
        have h2 := sq_0 (v - y)
        have h3 : (Q + v * v) - 2 * y * (S + v) + (C + 1) * (y * y) = (Q - 2 * y * S + C * (y * y)) + (v - y) * (v - y) := by grind
        omega
      · have h1 := i1 v
        have h3 : (C + 1) * (Q + v * v) - (S + v) * (S + v) = (C * Q - S * S) + (Q - 2 * v * S + C * (v * v)) := by grind
        omega
    · rw [show tf kd T L R K (fun x => g x * g x) n = 0 from if_neg e, show tf kd T L R K g n = 0 from if_neg e, show tf kd T L R K (fun _ => 1) n = 0 from if_neg e, Int.add_zero, Int.add_zero, Int.add_zero]
      exact ⟨i1, i2⟩
theorem m_win4 {σ : qSt} {T L R K : Int} : ∃ σ', (qb (qrow σ 66 (fun _ => 0)) fun (σ2 : qSt) => fX4_init T L R K σ2) = some (0, σ') ∧ (∀ j, j ≠ 66 → σ' j = σ j) ∧ σ' 66 0 = T ∧ σ' 66 1 = L ∧ σ' 66 2 = R ∧ σ' 66 3 = K := by
  unfold fX4_init
  simp only [mqb]
  refine ⟨_, rfl, fun j hj => by rw [mset_ne hj, mset_ne hj, mset_ne hj, mset_ne hj, mrow_ne hj], ?_, ?_, ?_, ?_⟩
  · simp only [mset_same]; simp
  · simp only [mset_same]; simp
  · simp only [mset_same]; simp
  · simp only [mset_same]; simp
theorem keepA_tmp {a a' : qSt} (h : ∀ j, j < 66 → a' j = a j) : keepA a a' := ⟨by rw [h 0 (by omega)], by rw [h 0 (by omega)], by rw [h 1 (by omega)], by rw [h 27 (by omega)], by rw [h 27 (by omega)], fun k hk => h k (by omega)⟩
