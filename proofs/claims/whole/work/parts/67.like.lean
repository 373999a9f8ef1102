/-! ===== likeness ===== -/
theorem nn32 {a : UInt32} (h : a.toNat % 2147483648 ≤ 2139095040) : a &&& 0x7fffffff ≤ 0x7f800000 := by
  rw [UInt32.le_iff_toNat_le, UInt32.toNat_and]
  show a.toNat &&& 2147483647 ≤ 2139095040
  rw [show (2147483647 : Nat) = 2 ^ 31 - 1 from rfl, Nat.and_two_pow_sub_one_eq_mod]
  exact h
theorem nn64 {a : UInt64} (h : a.toNat % 9223372036854775808 ≤ 9218868437227405312) : a &&& 0x7fffffffffffffff ≤ 0x7ff0000000000000 := by
  rw [UInt64.le_iff_toNat_le, UInt64.toNat_and]
  show a.toNat &&& 9223372036854775807 ≤ 9218868437227405312
  rw [show (9223372036854775807 : Nat) = 2 ^ 63 - 1 from rfl, Nat.and_two_pow_sub_one_eq_mod]
  exact h
theorem l2f_small {v : Int} (h0 : -512 ≤ v) (h1 : v ≤ 512) : (FP.l2f (qJ v)).toNat % 2 ^ 31 < 137 * 2 ^ 23 := by
  have h : (FP.l2f (qJ v)).toNat % 2 ^ 31 ≤ 136 * 2 ^ 23 := FP.Core.fromInt_mag32 (FP.Core.toNat_l2f (qJ v)) (j := 9) (K := 136) (by rw [qJ_of (by omega) (by omega)]; omega) (by decide) (by decide)
  omega
theorem l2f_pos {v : Int} (h0 : 1 ≤ v) (h1 : v ≤ 512) : 127 * 2 ^ 23 ≤ (FP.l2f (qJ v)).toNat % 2 ^ 31 := (FP.Core.l2f_big (v := qJ v) (by rw [qJ_of (by omega) (by omega)]; omega)).1
theorem i2f_small {v : Int} (h0 : 0 ≤ v) (h1 : v ≤ 8) : (FP.i2f (qI v)).toNat % 2 ^ 31 < 131 * 2 ^ 23 := by
  have h : (FP.i2f (qI v)).toNat % 2 ^ 31 ≤ 130 * 2 ^ 23 := FP.Core.fromInt_mag32 (FP.Core.toNat_i2f (qI v)) (j := 3) (K := 130) (by rw [qI_of (by omega) (by omega)]; omega) (by decide) (by decide)
  omega
theorem fdiv_small {x y : Int} (x0 : -512 ≤ x) (x1 : x ≤ 512) (y0 : 1 ≤ y) (y1 : y ≤ 512) : (FP.fdiv (FP.l2f (qJ x)) (FP.l2f (qJ y))).toNat % 2 ^ 31 < 138 * 2 ^ 23 := by
  have h1 := l2f_small x0 x1
  have h2 := l2f_pos y0 y1
  have h3 := l2f_small (show -512 ≤ y by omega) y1
  exact FP.Core.fdiv_mag (K := 137) (L := 127) h1 h2 (by omega) (by decide) (by decide)
theorem fmul_small {s u r : UInt32} (hs : s.toNat % 2 ^ 31 < 138 * 2 ^ 23) (hu : u.toNat % 2 ^ 31 < 138 * 2 ^ 23) (hr : r.toNat % 2 ^ 31 < 131 * 2 ^ 23) : (FP.fmul s r).toNat % 2 ^ 31 < 143 * 2 ^ 23 ∧ (FP.fmul (FP.fmul s r) u).toNat % 2 ^ 31 < 155 * 2 ^ 23 := by
  have h1 : (FP.fmul s r).toNat % 2 ^ 31 < 143 * 2 ^ 23 := FP.Core.fmul_mag (Ka := 138) (Kb := 131) hs hr (by decide) (by decide)
  exact ⟨h1, FP.Core.fmul_mag (Ka := 143) (Kb := 138) h1 hu (by decide) (by decide)⟩
theorem mag_ok {a : UInt32} {K : Nat} (h : a.toNat % 2 ^ 31 < K * 2 ^ 23) (hK : K ≤ 255) : a.toNat % 2147483648 ≤ 2139095040 := by
  have h2 : K * 2 ^ 23 ≤ 255 * 2 ^ 23 := Nat.mul_le_mul_right _ hK
  omega
theorem sr_le {f g : Int → Int} : ∀ {n : Nat}, (∀ x : Int, f x ≤ g x) → sr f n ≤ sr g n := by
  intro n
  induction n with
  | zero => intro _; exact Int.le_refl _
  | succ n ih =>
    intro h
    have h1 := ih h
    have h2 := h n
    show sr f n + f n ≤ sr g n + g n
    omega
/-- as PQ, of an answer that is a number of the machine's floats -/
def PF (codes : List (Int × Int)) (t : Int) (a b : qSt) (X : Option (Int × Int × qSt)) (V : Option (Int × qSt)) : Prop := ∃ e r a' r' b', X = some (e, r, a') ∧ V = some (r', b') ∧ (e, b' 47 0) ∈ codes ∧ (e = 0 → r = r' ∧ ∃ x : UInt32, r = (x.toNat : Int) ∧ x.toNat % 2147483648 ≤ 2139095040) ∧ J (t + 1) a' b' ∧ (∀ k, 47 ≤ k → k < 66 → a' k = a k) ∧ ∀ k, k < 47 ∨ 64 ≤ k → b' k = b k
theorem PF.ok {codes : List (Int × Int)} {t : Int} {a b a' b' : qSt} {x : UInt32} (hx : x.toNat % 2147483648 ≤ 2139095040) (h : J t a b) (hc : (0, 0) ∈ codes) (ha : keepA a a') (hb : keepB b b') (h47 : b' 47 0 = 0) (fa : ∀ k, 47 ≤ k → k < 66 → a' k = a k) (fb : ∀ k, k < 47 ∨ 64 ≤ k → b' k = b k) : PF codes t a b (some (0, (x.toNat : Int), a')) (some ((x.toNat : Int), b')) :=
  ⟨0, _, a', _, b', rfl, rfl, by rw [h47]; exact hc, fun _ => ⟨rfl, x, rfl, hx⟩, h.same ha hb, fa, fb⟩
theorem PF.no {codes : List (Int × Int)} {t : Int} {a b : qSt} {e k r : Int} (h : J t a b) (hc : (e, k) ∈ codes) (he : e ≠ 0) : PF codes t a b (some (e, 0, a)) (some (r, qset b 47 0 k)) :=
  ⟨e, 0, a, r, _, rfl, rfl, by rw [m_ref0]; exact hc, fun z => absurd z he, h.keep (by omega) (keepA.rf a) (keepB.ref b k), fun _ _ _ => rfl, fun k hk => mset_ne (by omega)⟩
theorem p_likeness {t : Int} {a b : qSt} (h : J t a b) {T L R K : Int} (hT : isI T) (hL : isI L) (hR : isI R) (hK : isI K) : PF [(0, 0), (2, 1)] t a b (fX5_likeness T L R K a) (fX6_likeness T L R K b) := by
  obtain ⟨j1, j2, j3, j4, j5, j6, j7⟩ := id h
  unfold fX5_likeness fX6_likeness fX6_likeness_c17
  rw [m_noWin hT hL hR hK, m_isWin hT hL hR hK, Option.bind_some, Option.bind_some]
  by_cases hw : WIN T L R K
  · rw [if_pos hw, if_pos hw, iI_no, iI_yes, ref_ok]
    have hI0 : isI 0 := isI_of (by omega) (by omega)
    obtain ⟨s1, d1, d2, d3, d4, d5, d6⟩ := m_win4 (σ := a) (T := T) (L := L) (R := R) (K := K)
    rw [mqb] at d1
    rw [mqb, d1, mqbd]
    obtain ⟨s2, _, c9, n9, _, e1, _, f1, _, _, g0, g1, _, _, _, _, _, _, _, _, gn, gc⟩ := looks j1 j2 hI0 (k := 0) (by omega) (by omega) hw (s := s1) (fun j hj => d2 j (by omega)) d3 d4 d5 d6 (u := qset b 47 0 0) (fun j _ _ => mset_ne (by omega)) (K9 := 67) (Or.inl rfl)
    have s66 : s2 66 = s1 66 := f1 66 (by omega)
    obtain ⟨s3, u1, c8, m, _, e3, e4, f3, f4, f5, g3, g4, _, g6, g7, _, _, rm9, _, _, gm, _⟩ := looks j1 j2 hI0 (k := 1) (by omega) (by omega) hw (s := s2) (fun j hj => by rw [f1 j (by omega), d2 j (by omega)]) (by rw [s66]; exact d3) (by rw [s66]; exact d4) (by rw [s66]; exact d5) (by rw [s66]; exact d6) (u := qset b 47 0 0) (fun j _ _ => mset_ne (by omega)) (K9 := 68) (Or.inr rfl)
    obtain ⟨s2', u2, c, n, _, e5, e6, f6, f7, f8, k0, k1, _, k3, k4, _, rc, rn9, _, _, kn, kc⟩ := looks j1 j2 hI0 (k := 0) (by omega) (by omega) hw (s := s1) (fun j hj => d2 j (by omega)) d3 d4 d5 d6 (u := u1) (fun j _ _ => by rw [f4 j (by omega)]; exact mset_ne (by omega)) (K9 := 67) (Or.inl rfl)
    have es : s2' = s2 := by rw [e1] at e5; injection e5 with e5; injection e5 with _ e5; exact e5.symm
    subst es
    -- the numbers
    have rb : ∀ x, 0 ≤ nw b 0 0 x ∧ nw b 0 0 x ≤ 4 := fun x => btc_r (b 50 x)
    have rn0 : 0 ≤ n := by rw [kn]; exact tf_0 (fun x => (rb x).1)
    have rn1 : n ≤ 4 * c := by
      rw [kn, kc, ← sr_mul]
      refine sr_le fun x => ?_
      have := rb x
      show (if INW T L R K x ∧ b 48 x ≠ 1 then nw b 0 0 x else 0) ≤ 4 * (if INW T L R K x ∧ b 48 x ≠ 1 then (1 : Int) else 0)
      split <;> omega
    have rm : -96 ≤ m ∧ m ≤ 96 := by
      rw [gm]
      have := tf_r (kd := b 48) (T := T) (L := L) (R := R) (K := K) (f := nw b 0 1) (B := 1) (by omega) (fun x _ _ => by
        have b0 := bt_r (b 50 x) 0
        have b2 := bt_r (b 50 x) 2
        show -1 ≤ bt (b 50 x) 0 - bt (b 50 x) 2 ∧ bt (b 50 x) 0 - bt (b 50 x) 2 ≤ 1
        omega)
      omega
    have fa2 : ∀ j, j < 66 → s2' j = a j := fun j hj => by rw [f1 j (by omega), d2 j (by omega)]
    have fa3 : ∀ j, j < 66 → s3 j = a j := fun j hj => by rw [f3 j (by omega)]; exact fa2 j hj
    have fb : ∀ j, j ≠ 47 → u2 j = b j := fun j hj => by rw [f7 j hj, f4 j hj]; exact mset_ne hj
    have kb : keepB b u2 := ⟨fun j h0 _ h3 h4 h5 => by rw [f8 j h3 h4 h5, f5 j h3 h4 h5, mset_same]; exact if_neg h0, fun k hk => fb k (by omega)⟩
    have z0 : u2 47 0 = 0 := by rw [f8 0 (by omega) (by omega) (by omega), f5 0 (by omega) (by omega) (by omega), m_ref0]
    have s367 : s3 67 = s2' 67 := f3 67 (by omega)
    rw [e1, mqbd, e4, mqbd, k1, g7, k0]
    simp only [mqb]
    rw [e3, e6, mqbd, mqbd, g4, k4, k3, s367, k0, iL_le0 (by omega) (by omega) (by omega) (by omega), iL_eq0 (by omega) (by omega) (by omega) (by omega)]
    by_cases hn : n = 0
    · rw [if_pos (show n ≤ 0 by omega), if_pos hn]
      exact PF.ok (x := FP.fconst0) (by decide) h (by simp) (keepA_tmp fa2) kb z0 (fun k _ k1 => fa2 k k1) (fun k hk => fb k (by omega))
    · rw [if_neg (show ¬ n ≤ 0 by omega), if_neg hn, iL_0lt (by omega) (by omega) (by omega) (by omega), if_pos (show 0 < c by omega)]
      have q1 := fdiv_small (x := m) (y := n) (by omega) (by omega) (by omega) (by omega)
      have q2 := fdiv_small (x := n) (y := c) (by omega) (by omega) (by omega) (by omega)
      have q3 := i2f_small (v := R) (by have := hw.2.2.1; omega) (by have := hw.2.2.1; have := hw.1; omega)
      obtain ⟨q4, q5⟩ := fmul_small q1 q2 q3
      have o1 := nn32 (mag_ok q1 (by decide))
      have o2 := nn32 (mag_ok q2 (by decide))
      have o4 := nn32 (mag_ok q4 (by decide))
      have o5 := nn32 (mag_ok q5 (by decide))
      rw [if_pos o1, if_pos o2, if_pos o4, if_pos o5, if_pos o1, if_pos o2, if_pos o4, if_pos o5]
      exact PF.ok (mag_ok q5 (by decide)) h (by simp) (keepA_tmp fa3) kb z0 (fun k _ k1 => fa3 k k1) (fun k hk => fb k (by omega))
  · rw [if_neg hw, if_neg hw, iI_yes, iI_no]
    have e9 : (qbd (fX6_refused 1 b) fun (r : Int) (σ1 : qSt) => if qI r = 0 then (qbd (fX6_look 0 1 T L R K σ1) fun (r33 : Int) (σ2 : qSt) => (qb (FP.l2f (qJ (σ2 47 24))) fun (y3 : UInt32) => (qbd (fX6_look 0 0 T L R K σ2) fun (r51 : Int) (σ4 : qSt) => (if qI (qlcmp (σ4 47 24) 0) = 0 then (some ((FP.fconst0.toNat : Int), σ4)) else (qb (FP.l2f (qJ (σ4 47 24))) fun (y5 : UInt32) => (if (FP.fdiv y3 y5) &&& 0x7fffffff ≤ 0x7f800000 then (qb (FP.fdiv y3 y5) fun (y6 : UInt32) => (if (FP.fdiv y5 (FP.l2f (qJ (σ4 47 23)))) &&& 0x7fffffff ≤ 0x7f800000 then (qb (FP.fdiv y5 (FP.l2f (qJ (σ4 47 23)))) fun (y7 : UInt32) => (if (FP.fmul y6 (FP.i2f (qI R))) &&& 0x7fffffff ≤ 0x7f800000 then (if (FP.fmul (FP.fmul y6 (FP.i2f (qI R))) y7) &&& 0x7fffffff ≤ 0x7f800000 then (some (((FP.fmul (FP.fmul y6 (FP.i2f (qI R))) y7).toNat : Int), σ4)) else none) else none)) else none)) else none)))))) else some ((FP.fconst0.toNat : Int), σ1)) = some ((FP.fconst0.toNat : Int), qset b 47 0 1) := by
      unfold fX6_refused
      rw [mqb, if_neg (show ¬ qI 1 = 0 by rw [mI_eq0] <;> omega), mqbd, if_neg (show ¬ qI 1 = 0 by rw [mI_eq0] <;> omega)]
    rw [e9]
    exact PF.no h (by simp) (by omega)
