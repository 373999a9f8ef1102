/-! ===== the law's own questions: mark, betterHolds, sumsHold ===== -/
theorem iL_lt0 {α : Type} {a b : Int} (a0 : -9223372036854775808 ≤ a) (a1 : a ≤ 9223372036854775807) (b0 : -9223372036854775808 ≤ b) (b1 : b ≤ 9223372036854775807) (x y : α) : (if qI (qlcmp a b) < 0 then x else y) = if a < b then x else y := by
  rw [lcmp_of a0 a1 b0 b1]
  by_cases h : b < a
  · rw [if_pos h, if_neg (show ¬ a < b by omega), iI_lt0 (by omega) (by omega), if_neg (by omega)]
  · rw [if_neg h]
    by_cases h2 : a = b
    · rw [if_pos h2, if_neg (show ¬ a < b by omega), iI_lt0 (by omega) (by omega), if_neg (by omega)]
    · rw [if_neg h2, if_pos (show a < b by omega), iI_lt0 (by omega) (by omega), if_pos (by omega)]
theorem m_l2i {x : Int} (h0 : -2147483648 ≤ x) (h1 : x ≤ 2147483647) : ql2i x = x := by
  unfold ql2i
  rw [Int64.toInt_toInt32, qJ_of (by omega) (by omega)]
  exact Int.bmod_eq_of_le (by omega) (by omega)
theorem m_qr {x c : Int} (x0 : 0 ≤ x) (x1 : x ≤ 2147483647) (c0 : 0 < c) (c1 : c ≤ 2147483647) : qdiv x c = x / c ∧ qrem x c = x % c := by
  have hd : qdiv x c = x / c := by
    rw [m_qdiv (by omega) x1 c0 c1, Int.tdiv_eq_ediv_of_nonneg x0]
  refine ⟨hd, ?_⟩
  have h1 : qI x / qI c = qI (x / c) := by
    have h2 : qI (qdiv x c) = qI x / qI c := by unfold qdiv; exact qI_toInt _
    rw [← h2, hd]
  have h3 := Int.emod_nonneg x (show c ≠ 0 by omega)
  have h4 := Int.emod_lt_of_pos x c0
  have h5 := Int.mul_ediv_add_emod x c
  have h6 : x / c * c = c * (x / c) := Int.mul_comm _ _
  unfold qrem
  rw [h1, qI_mul, qI_sub, qI_of (by omega) (by omega)]
  omega
theorem m_nodye {x y : Int} (h0 : 0 ≤ x) (h1 : x ≤ 15) (g0 : 0 ≤ y) (g1 : y ≤ 15) (hs : ∀ w, 0 ≤ w → w < 4 → bt y w ≤ bt x w) : qand y (qxor x (-1)) = 0 := by
  obtain ⟨n, rfl⟩ := f16 h0 h1
  obtain ⟨m, rfl⟩ := f16 g0 g1
  have b0 := hs 0 (by omega) (by omega)
  have b1 := hs 1 (by omega) (by omega)
  have b2 := hs 2 (by omega) (by omega)
  have b3 := hs 3 (by omega) (by omega)
  exact (by decide +kernel : ∀ (n m : Fin 16), bt (m.val : Int) 0 ≤ bt (n.val : Int) 0 → bt (m.val : Int) 1 ≤ bt (n.val : Int) 1 → bt (m.val : Int) 2 ≤ bt (n.val : Int) 2 → bt (m.val : Int) 3 ≤ bt (n.val : Int) 3 → qand (m.val : Int) (qxor (n.val : Int) (-1)) = 0) n m b0 b1 b2 b3
/-- the number of all cells -/
def mk96 (k p d : Int → Int) : Nat → Int
  | 0 => 17
  | n + 1 => 31 * mk96 k p d n + 256 * k (n : Int) + 16 * p (n : Int) + d (n : Int)
def mk4 (x y z : Int → Int) (m : Int) : Nat → Int
  | 0 => m
  | n + 1 => 31 * mk4 x y z m n + 10007 * x (n : Int) + 101 * y (n : Int) + z (n : Int)
def MK (a : qSt) : Int := 31 * mk4 (a 8) (a 9) (a 10) (mk96 (a 2) (a 4) (a 5) 96) 4 + a 1 12
theorem mk96_step {k p d : Int → Int} {i : Int} (i0 : 0 ≤ i) : mk96 k p d (i + 1).toNat = 31 * mk96 k p d i.toNat + 256 * k i + 16 * p i + d i := by
  obtain ⟨m, rfl⟩ : ∃ m : Nat, i = m := ⟨i.toNat, by omega⟩
  rfl
theorem mk4_step {x y z : Int → Int} {m i : Int} (i0 : 0 ≤ i) : mk4 x y z m (i + 1).toNat = 31 * mk4 x y z m i.toNat + 10007 * x i + 101 * y i + z i := by
  obtain ⟨n, rfl⟩ : ∃ m : Nat, i = m := ⟨i.toNat, by omega⟩
  rfl
theorem mk4_congr {x y z x' y' z' : Int → Int} {m : Int} (h : ∀ k, 0 ≤ k → x' k = x k ∧ y' k = y k ∧ z' k = z k) : ∀ n : Nat, mk4 x' y' z' m n = mk4 x y z m n
  | 0 => rfl
  | n + 1 => by
    obtain ⟨h1, h2, h3⟩ := h (n : Int) (by omega)
    show 31 * mk4 x' y' z' m n + 10007 * x' (n : Int) + 101 * y' (n : Int) + z' (n : Int) = 31 * mk4 x y z m n + 10007 * x (n : Int) + 101 * y (n : Int) + z (n : Int)
    rw [mk4_congr h n, h1, h2, h3]
theorem MK_ob {a b : qSt} (h : OB a b) : MK b = MK a := by
  obtain ⟨o05, o06, o12, o2, o3, o4, o5, o8⟩ := h
  unfold MK
  rw [o2, o4, o5, o12, mk4_congr o8]
theorem MK_keep {a b : qSt} (h : keepA a b) : MK b = MK a := MK_ob ((OB.rf a).kept h)
theorem L_mark {h e s r n : Int} {a : qSt} (H : I h e s r n a) (hh : h ≤ 500) (hn : n ≤ 1000000) (he : e ≤ 10000) (hs : s ≤ 5000) : fL_mark a = some (MK a, a) := by
  unfold fL_mark
  obtain ⟨⟨kc, x1⟩, e1, p1, p2⟩ := mloop (S := Nat × Int) (P := fun i t => (t.1 : Int) = 3 * i ∧ t.2 = mk96 (a 2) (a 4) (a 5) i.toNat) (F := fun f i t => fL_mark_c6 f t.1 t.2 i a) (R := fun t => fL_mark_c55 qFU t.1 t.2 0 a) 96 (by omega) (by omega) (fun f t hP => by
    obtain ⟨kc, x1⟩ := t
    obtain ⟨p1, p2⟩ := hP
    have p1 : (kc : Int) = 3 * 96 := p1
    show fL_mark_c6 (f + 1) kc x1 96 a = fL_mark_c55 qFU kc x1 0 a
    rw [fL_mark_c6, mqif _ (by omega), if_pos (by rw [mI_le] <;> omega)]) (fun f i t i0 i1 hP => by
    obtain ⟨kc, x1⟩ := t
    obtain ⟨p1, p2⟩ := hP
    have p1 : (kc : Int) = 3 * i := p1
    have p2 : x1 = mk96 (a 2) (a 4) (a 5) i.toNat := p2
    refine ⟨(kc + 1 + 1 + 1, 31 * x1 + 256 * a 2 i + 16 * a 4 i + a 5 i), ?_, ?_, ?_⟩
    · show fL_mark_c6 (f + 1) kc x1 i a = fL_mark_c6 f (kc + 1 + 1 + 1) (31 * x1 + 256 * a 2 i + 16 * a 4 i + a 5 i) (i + 1) a
      rw [fL_mark_c6, mqif _ (by omega), if_neg (by rw [mI_le] <;> omega), L_c0 H hn i0 i1, mqbd, L_c2 H hn i0 i1, mqbd, L_c3 H hn i0 i1, mqbd, mqb]
    · show ((kc + 1 + 1 + 1 : Nat) : Int) = 3 * (i + 1); omega
    · show 31 * x1 + 256 * a 2 i + 16 * a 4 i + a 5 i = _
      rw [mk96_step i0, p2]) (s := (0, 17)) ⟨rfl, rfl⟩
  have e1 : fL_mark_c6 qFU 0 17 0 a = fL_mark_c55 qFU kc x1 0 a := e1
  have p1 : (kc : Int) = 3 * 96 := p1
  have p2 : x1 = mk96 (a 2) (a 4) (a 5) 96 := p2
  rw [e1]
  obtain ⟨⟨kd, y1⟩, e2, q1, q2⟩ := mloop (S := Nat × Int) (P := fun i t => (t.1 : Int) = 288 + 3 * i ∧ t.2 = mk4 (a 8) (a 9) (a 10) x1 i.toNat) (F := fun f i t => fL_mark_c55 f t.1 t.2 i a) (R := fun t => some (31 * t.2 + a 1 12, a)) 4 (by omega) (by omega) (fun f t hP => by
    obtain ⟨kc, x1⟩ := t
    obtain ⟨p1, p2⟩ := hP
    have p1 : (kc : Int) = 288 + 3 * 4 := p1
    show fL_mark_c55 (f + 1) kc x1 4 a = some (31 * x1 + a 1 12, a)
    rw [fL_mark_c55, mqif _ (by omega), if_pos (by rw [mI_le] <;> omega), L_s6 H hn he hs, mqbd]) (fun f i t i0 i1 hP => by
    obtain ⟨kc, z1⟩ := t
    obtain ⟨p1, p2⟩ := hP
    have p1 : (kc : Int) = 288 + 3 * i := p1
    have p2 : z1 = mk4 (a 8) (a 9) (a 10) x1 i.toNat := p2
    refine ⟨(kc + 1 + 1 + 1, 31 * z1 + 10007 * a 8 i + 101 * a 9 i + a 10 i), ?_, ?_, ?_⟩
    · show fL_mark_c55 (f + 1) kc z1 i a = fL_mark_c55 f (kc + 1 + 1 + 1) (31 * z1 + 10007 * a 8 i + 101 * a 9 i + a 10 i) (i + 1) a
      rw [fL_mark_c55, mqif _ (by omega), if_neg (by rw [mI_le] <;> omega), L_b1 H hh i0 i1, mqbd, L_b2 H hh i0 i1, mqbd, L_b3 H hh i0 i1, mqbd, mqb]
    · show ((kc + 1 + 1 + 1 : Nat) : Int) = 288 + 3 * (i + 1); omega
    · show 31 * z1 + 10007 * a 8 i + 101 * a 9 i + a 10 i = _
      rw [mk4_step i0, p2]) (s := (kc, x1)) ⟨by show (kc : Int) = 288 + 3 * 0; omega, rfl⟩
  have e2 : fL_mark_c55 qFU kc x1 0 a = some (31 * y1 + a 1 12, a) := e2
  have q2 : y1 = mk4 (a 8) (a 9) (a 10) x1 4 := q2
  rw [e2, q2, p2]
  rfl
theorem L_betterHolds {h e s r n : Int} {a : qSt} (H : I h e s r n a) (hn : n ≤ 1000000) {k : Int} (k0 : 0 ≤ k) (k1 : k < 4) : ∃ a', fL_betterHolds k a = some (1, a') ∧ keepA a a' := by
  obtain ⟨a1, v, e1, e2, e3⟩ := s_better H k0 k1
  refine ⟨a1, ?_, e2⟩
  unfold fL_betterHolds
  rw [e1, mqbd]
  rcases e3 with rfl | ⟨v0, v1, v2⟩
  · rw [iL_eq0 (by omega) (by omega) (by omega) (by omega), if_pos rfl]
  · have hw : a1 3 = a 3 := e2.2.2.2.2.2 3 (by omega)
    rw [iL_eq0 (by omega) (by omega) (by omega) (by omega), if_neg (by omega), iL_lt0 (by omega) (by omega) (by omega) (by omega), if_neg (by omega), iL_0le (by omega) (by omega) (by omega) (by omega), if_neg (by omega), m_l2i (by omega) (by omega), L_c1 (H.keep e2) hn v0 v1, mqbd, hw, v2, m_i2l (by omega) (by omega), lcmp_self, iI_no]
/-- one cell of the sums -/
theorem L_sumsCell {h e s r n : Int} {a : qSt} (H : I h e s r n a) (hn : n ≤ 1000000) {c : Int} (c0 : 0 ≤ c) (c1 : c < 96) (k19 : Nat → Int → Int → Int → Int → Int → Int → Int → qSt → Option (Int × qSt)) {kc : Nat} (hk : (kc : Int) ≤ 16 * c + 3) {x15 : Int} (h15 : (a 2 c = 1 ∧ x15 = 1) ∨ (a 2 c ≠ 1 ∧ x15 = 0)) (x7 x9 : Int) : ∃ kd : Nat, fL_sumsHold_c73 k19 qFU kc (sm (qbt (a 4)) (4 * c).toNat) (sm (qbt (a 5)) (4 * c).toNat) (sm (rq a) (4 * c).toNat) x7 x9 1 c (a 4 c) (a 5 c) x15 0 a = k19 kd (sm (qbt (a 4)) (4 * c + 4).toNat) (sm (qbt (a 5)) (4 * c + 4).toNat) (sm (rq a) (4 * c + 4).toNat) (x7 + (bt (a 4 c) 0 - bt (a 4 c) 2)) (x9 + (bt (a 4 c) 1 - bt (a 4 c) 3)) 1 (c + 1) a ∧ (kd : Int) ≤ 16 * c + 16 := by
  obtain ⟨⟨v1, v2, v3, v4, v5, v6⟩, q6⟩ := H.1
  have hp : 0 ≤ a 4 c ∧ a 4 c ≤ 15 := v3 c c0 c1
  have hd : 0 ≤ a 5 c ∧ a 5 c ≤ 15 := v4 c c0 c1
  have hds : ∀ w, 0 ≤ w → w < 4 → bt (a 5 c) w ≤ bt (a 4 c) w := fun w w0 w1 => v6 c w c0 c1 w0 w1
  have v5 : a 2 c = 1 → a 4 c = 0 := v5 c c0 c1
  obtain ⟨⟨kd, t1, t3, t5⟩, e1, p1, p2, p3, p4⟩ := mloop (S := Nat × Int × Int × Int) (P := fun i t => (t.1 : Int) ≤ 16 * c + 3 + 3 * i ∧ t.2.1 = sm (qbt (a 4)) (4 * c + i).toNat ∧ t.2.2.1 = sm (qbt (a 5)) (4 * c + i).toNat ∧ t.2.2.2 = sm (rq a) (4 * c + i).toNat) (F := fun f i t => fL_sumsHold_c73 k19 f t.1 t.2.1 t.2.2.1 t.2.2.2 x7 x9 1 c (a 4 c) (a 5 c) x15 i a) (R := fun t => if x15 = 0 then k19 (t.1 + 1) t.2.1 t.2.2.1 t.2.2.2 (x7 + (bt (a 4 c) 0 - bt (a 4 c) 2)) (x9 + (bt (a 4 c) 1 - bt (a 4 c) 3)) 1 (c + 1) a else k19 t.1 t.2.1 t.2.2.1 t.2.2.2 (x7 + (bt (a 4 c) 0 - bt (a 4 c) 2)) (x9 + (bt (a 4 c) 1 - bt (a 4 c) 3)) 1 (c + 1) a) 4 (by omega) (by omega) (fun f t hP => by
    obtain ⟨kd, t1, t3, t5⟩ := t
    obtain ⟨p1, p2, p3, p4⟩ := hP
    have p1 : (kd : Int) ≤ 16 * c + 3 + 3 * 4 := p1
    show fL_sumsHold_c73 k19 (f + 1) kd t1 t3 t5 x7 x9 1 c (a 4 c) (a 5 c) x15 4 a = if x15 = 0 then k19 (kd + 1) t1 t3 t5 (x7 + (bt (a 4 c) 0 - bt (a 4 c) 2)) (x9 + (bt (a 4 c) 1 - bt (a 4 c) 3)) 1 (c + 1) a else k19 kd t1 t3 t5 (x7 + (bt (a 4 c) 0 - bt (a 4 c) 2)) (x9 + (bt (a 4 c) 1 - bt (a 4 c) 3)) 1 (c + 1) a
    have b0 := bt_r (a 4 c) 0
    have b1 := bt_r (a 4 c) 1
    have b2 := bt_r (a 4 c) 2
    have b3 := bt_r (a 4 c) 3
    rw [fL_sumsHold_c73, mqif _ (by omega), if_pos (by rw [mI_le] <;> omega), mqb, mqb, m_and1 hp.1 hp.2, m_bit hp.1 hp.2 (w := 2) (by omega) (by omega), m_bit hp.1 hp.2 (w := 1) (by omega) (by omega), m_bit hp.1 hp.2 (w := 3) (by omega) (by omega), m_i2l (by omega) (by omega), m_i2l (by omega) (by omega), iI_yes, m_nodye hp.1 hp.2 hd.1 hd.2 hds, iI_no]
    unfold fL_sumsHold_c230 fL_sumsHold_c249 fL_sumsHold_c254
    rcases h15 with ⟨hw, rfl⟩ | ⟨hw, rfl⟩
    · rw [iI_yes, v5 hw, iI_no, mqif _ (by omega), iI_yes, if_neg (by omega)]
    · have h3 : a 3 c = -1 := Classical.byContradiction fun z => hw (q6 c c0 c1 z)
      rw [iI_no, mqif _ (by omega), iI_no, L_c1 H hn c0 c1, mqbd, h3, lcmp_self, iI_no, if_pos rfl]) (fun f i t i0 i1 hP => by
    obtain ⟨kd, t1, t3, t5⟩ := t
    obtain ⟨p1, p2, p3, p4⟩ := hP
    have p1 : (kd : Int) ≤ 16 * c + 3 + 3 * i := p1
    have p2 : t1 = sm (qbt (a 4)) (4 * c + i).toNat := p2
    have p3 : t3 = sm (qbt (a 5)) (4 * c + i).toNat := p3
    have p4 : t5 = sm (rq a) (4 * c + i).toNat := p4
    have b0 := bt_r (a 4 c) i
    have b1 := bt_r (a 5 c) i
    have hq := H.2.1.1 c i c0 c1 i0 i1
    have hr := H.2.1.r c0 c1 i0 i1
    have hnext : ∀ m : Nat, (m : Int) ≤ 16 * c + 3 + 3 * (i + 1) → ∀ F1 : Option (Int × qSt), F1 = fL_sumsHold_c73 k19 f m (t1 + bt (a 4 c) i) (t3 + bt (a 5 c) i) (t5 + a (30 + i.toNat) c) x7 x9 1 c (a 4 c) (a 5 c) x15 (i + 1) a → ∃ s1 : Nat × Int × Int × Int, F1 = fL_sumsHold_c73 k19 f s1.1 s1.2.1 s1.2.2.1 s1.2.2.2 x7 x9 1 c (a 4 c) (a 5 c) x15 (i + 1) a ∧ (s1.1 : Int) ≤ 16 * c + 3 + 3 * (i + 1) ∧ s1.2.1 = sm (qbt (a 4)) (4 * c + (i + 1)).toNat ∧ s1.2.2.1 = sm (qbt (a 5)) (4 * c + (i + 1)).toNat ∧ s1.2.2.2 = sm (rq a) (4 * c + (i + 1)).toNat := fun m hm F1 hF => by
      refine ⟨(m, t1 + bt (a 4 c) i, t3 + bt (a 5 c) i, t5 + a (30 + i.toNat) c), hF, hm, ?_, ?_, ?_⟩
      · show t1 + bt (a 4 c) i = _
        rw [p2, show 4 * c + (i + 1) = 4 * c + i + 1 by omega, sm_step c0 i0 i1 rfl]; rfl
      · show t3 + bt (a 5 c) i = _
        rw [p3, show 4 * c + (i + 1) = 4 * c + i + 1 by omega, sm_step c0 i0 i1 rfl]; rfl
      · show t5 + a (30 + i.toNat) c = _
        rw [p4, show 4 * c + (i + 1) = 4 * c + i + 1 by omega, sm_step c0 i0 i1 rfl]; rfl
    show ∃ s1 : Nat × Int × Int × Int, fL_sumsHold_c73 k19 (f + 1) kd t1 t3 t5 x7 x9 1 c (a 4 c) (a 5 c) x15 i a = _ ∧ _
    rw [fL_sumsHold_c73, mqif _ (by omega), if_neg (by rw [mI_le] <;> omega), mqb, mqb, m_bit hp.1 hp.2 i0 i1, m_bit hd.1 hd.2 i0 i1, m_i2l (by omega) (by omega), m_i2l (by omega) (by omega), L_cw H hn c0 c1 i0 i1, mqbd, mqb, iI_yes]
    unfold fL_sumsHold_c141 fL_sumsHold_c161
    rcases h15 with ⟨hw, rfl⟩ | ⟨hw, rfl⟩
    · refine hnext (kd + 1 + 1 + 1) (by omega) _ ?_
      rw [iI_yes, L_cw H hn c0 c1 i0 i1, mqbd, hq.2.1 hw, lcmp_self, iI_no, mqif _ (by omega), L_cw H hn c0 c1 i0 i1, mqbd, hq.2.1 hw, lcmp_self, iI_lt0 (by omega) (by omega), if_neg (by omega)]
    · refine hnext (kd + 1 + 1) (by omega) _ ?_
      rw [iI_no, mqif _ (by omega), L_cw H hn c0 c1 i0 i1, mqbd, iL_lt0 (by omega) (by omega) (by omega) (by omega), if_neg (by omega)]) (s := (kc, sm (qbt (a 4)) (4 * c).toNat, sm (qbt (a 5)) (4 * c).toNat, sm (rq a) (4 * c).toNat)) ⟨by show (kc : Int) ≤ 16 * c + 3 + 3 * 0; omega, by show _ = sm (qbt (a 4)) (4 * c + 0).toNat; rw [Int.add_zero], by show _ = sm (qbt (a 5)) (4 * c + 0).toNat; rw [Int.add_zero], by show _ = sm (rq a) (4 * c + 0).toNat; rw [Int.add_zero]⟩
  have p1 : (kd : Int) ≤ 16 * c + 3 + 3 * 4 := p1
  have p2 : t1 = sm (qbt (a 4)) (4 * c + 4).toNat := p2
  have p3 : t3 = sm (qbt (a 5)) (4 * c + 4).toNat := p3
  have p4 : t5 = sm (rq a) (4 * c + 4).toNat := p4
  have e1 : fL_sumsHold_c73 k19 qFU kc (sm (qbt (a 4)) (4 * c).toNat) (sm (qbt (a 5)) (4 * c).toNat) (sm (rq a) (4 * c).toNat) x7 x9 1 c (a 4 c) (a 5 c) x15 0 a = if x15 = 0 then k19 (kd + 1) t1 t3 t5 (x7 + (bt (a 4 c) 0 - bt (a 4 c) 2)) (x9 + (bt (a 4 c) 1 - bt (a 4 c) 3)) 1 (c + 1) a else k19 kd t1 t3 t5 (x7 + (bt (a 4 c) 0 - bt (a 4 c) 2)) (x9 + (bt (a 4 c) 1 - bt (a 4 c) 3)) 1 (c + 1) a := e1
  rw [e1, p2, p3, p4]
  by_cases h0 : x15 = 0
  · rw [if_pos h0]; exact ⟨kd + 1, rfl, by omega⟩
  · rw [if_neg h0]; exact ⟨kd, rfl, by omega⟩
theorem L_sumsHold {h e s r n : Int} {a : qSt} (H : I h e s r n a) (hn : n ≤ 1000000) (he : e ≤ 10000) (hs : s ≤ 5000) : ∃ a', fL_sumsHold a = some (1, a') ∧ keepA a a' := by
  obtain ⟨⟨v1, v2, v3, v4, v5, v6⟩, q6⟩ := H.1
  unfold fL_sumsHold
  obtain ⟨⟨kc, x7, x9⟩, e1, p1, p2, p3⟩ := mloop (S := Nat × Int × Int) (P := fun i t => (t.1 : Int) ≤ 16 * i ∧ t.2.1 = sr (fun c => bt (a 4 c) 0 - bt (a 4 c) 2) i.toNat ∧ t.2.2 = sr (fun c => bt (a 4 c) 1 - bt (a 4 c) 3) i.toNat) (F := fun f i t => fL_sumsHold_c19 f t.1 (sm (qbt (a 4)) (4 * i).toNat) (sm (qbt (a 5)) (4 * i).toNat) (sm (rq a) (4 * i).toNat) t.2.1 t.2.2 1 i a) (R := fun t => fL_sumsHold_c262 t.1 (sm (qbt (a 4)) 384) (sm (qbt (a 5)) 384) (sm (rq a) 384) t.2.1 t.2.2 1 a) 96 (by omega) (by omega) (fun f t hP => by
    obtain ⟨kc, x7, x9⟩ := t
    obtain ⟨p1, p2, p3⟩ := hP
    have p1 : (kc : Int) ≤ 16 * 96 := p1
    show fL_sumsHold_c19 (f + 1) kc (sm (qbt (a 4)) 384) (sm (qbt (a 5)) 384) (sm (rq a) 384) x7 x9 1 96 a = fL_sumsHold_c262 kc (sm (qbt (a 4)) 384) (sm (qbt (a 5)) 384) (sm (rq a) 384) x7 x9 1 a
    rw [fL_sumsHold_c19, mqif _ (by omega), if_pos (by rw [mI_le] <;> omega)]) (fun f i t i0 i1 hP => by
    obtain ⟨kc, x7, x9⟩ := t
    obtain ⟨p1, p2, p3⟩ := hP
    have p1 : (kc : Int) ≤ 16 * i := p1
    have p2 : x7 = sr (fun c => bt (a 4 c) 0 - bt (a 4 c) 2) i.toNat := p2
    have p3 : x9 = sr (fun c => bt (a 4 c) 1 - bt (a 4 c) 3) i.toNat := p3
    have hkr : 0 ≤ a 2 i ∧ a 2 i ≤ 3 := v1 i i0 i1
    have hp : 0 ≤ a 4 i ∧ a 4 i ≤ 15 := v3 i i0 i1
    have hd : 0 ≤ a 5 i ∧ a 5 i ≤ 15 := v4 i i0 i1
    have go : ∀ x15 : Int, ((a 2 i = 1 ∧ x15 = 1) ∨ (a 2 i ≠ 1 ∧ x15 = 0)) → ∃ s1 : Nat × Int × Int, fL_sumsHold_c73 (fL_sumsHold_c19 f) qFU (kc + 1 + 1 + 1) (sm (qbt (a 4)) (4 * i).toNat) (sm (qbt (a 5)) (4 * i).toNat) (sm (rq a) (4 * i).toNat) x7 x9 1 i (a 4 i) (a 5 i) x15 0 a = fL_sumsHold_c19 f s1.1 (sm (qbt (a 4)) (4 * (i + 1)).toNat) (sm (qbt (a 5)) (4 * (i + 1)).toNat) (sm (rq a) (4 * (i + 1)).toNat) s1.2.1 s1.2.2 1 (i + 1) a ∧ (s1.1 : Int) ≤ 16 * (i + 1) ∧ s1.2.1 = sr (fun c => bt (a 4 c) 0 - bt (a 4 c) 2) (i + 1).toNat ∧ s1.2.2 = sr (fun c => bt (a 4 c) 1 - bt (a 4 c) 3) (i + 1).toNat := fun x15 h15 => by
      obtain ⟨kd, d1, d2⟩ := L_sumsCell H hn i0 i1 (fL_sumsHold_c19 f) (kc := kc + 1 + 1 + 1) (by omega) h15 x7 x9
      refine ⟨(kd, x7 + (bt (a 4 i) 0 - bt (a 4 i) 2), x9 + (bt (a 4 i) 1 - bt (a 4 i) 3)), ?_, by show (kd : Int) ≤ 16 * (i + 1); omega, ?_, ?_⟩
      · rw [d1, show 4 * (i + 1) = 4 * i + 4 by omega]
      · show x7 + _ = _
        rw [sr_step i0, p2]
      · show x9 + _ = _
        rw [sr_step i0, p3]
    show ∃ s1 : Nat × Int × Int, fL_sumsHold_c19 (f + 1) kc (sm (qbt (a 4)) (4 * i).toNat) (sm (qbt (a 5)) (4 * i).toNat) (sm (rq a) (4 * i).toNat) x7 x9 1 i a = _ ∧ _
    rw [fL_sumsHold_c19, mqif _ (by omega), if_neg (by rw [mI_le] <;> omega), iI_yes, L_c2 H hn i0 i1, mqbd, mqb, L_c3 H hn i0 i1, mqbd, mqb, L_c0 H hn i0 i1, mqbd, m_l2i (by omega) (by omega), m_l2i (by omega) (by omega), iL_eq0 (by omega) (by omega) (by omega) (by omega)]
    unfold fL_sumsHold_c68
    by_cases hw : a 2 i = 1
    · rw [if_pos hw]; exact go 1 (Or.inl ⟨hw, rfl⟩)
    · rw [if_neg hw]; exact go 0 (Or.inr ⟨hw, rfl⟩)) (s := (0, 0, 0)) ⟨by show (0 : Int) ≤ 16 * 0; omega, rfl, rfl⟩
  have e1 : fL_sumsHold_c19 qFU 0 0 0 0 0 0 1 0 a = fL_sumsHold_c262 kc (sm (qbt (a 4)) 384) (sm (qbt (a 5)) 384) (sm (rq a) 384) x7 x9 1 a := e1
  have p1 : (kc : Int) ≤ 16 * 96 := p1
  have p2 : x7 = gs 0 (a 4) := p2
  have p3 : x9 = gs 1 (a 4) := p3
  have hr1 := cnt_r (a 4)
  have hr2 := cnt_r (a 5)
  have hpr := pr_r (a 4) (a 5)
  have f363 : ∀ m : Nat, (m : Int) + 49 ≤ 3000 → ¬ (0 < cnt (a 5) ∧ cnt (a 5) < cnt (a 4)) → ∃ a', fL_sumsHold_c363 m a = some (1, a') ∧ keepA a a' := fun m hm hu => by
    obtain ⟨a', d1, d2⟩ := s_mixed1 H
    obtain ⟨u1, u2⟩ := unmixed v3 v4 v6 hu
    refine ⟨a', ?_, d2⟩
    unfold fL_sumsHold_c363
    rw [mqif _ (by omega), s_mixed0 H, mqbd, d1, mqbd, u1, u2, show (0 : Int) + 0 = 0 from rfl, lcmp_self, iI_no]
  rw [e1]
  unfold fL_sumsHold_c262
  rw [mqif _ (by omega), iI_yes, L_s2 H hn he hs, mqbd, ← cnt_sm (a 4), ← cnt_sm (a 5)]
  show ∃ a', (if qI (qlcmp (cnt (a 4)) (cnt (a 4))) = 0 then _ else _) = _ ∧ _
  rw [lcmp_self, iI_no, L_s3 H hn he hs, mqbd]
  show ∃ a', (if qI (qlcmp (cnt (a 5)) (cnt (a 5))) = 0 then _ else _) = _ ∧ _
  rw [lcmp_self, iI_no, L_s7 H hn he hs, mqbd, H.2.1.2.1, lcmp_self, iI_no, L_s4 H hn he hs, mqbd, p2, lcmp_self, iI_no, L_s5 H hn he hs, mqbd, p3, lcmp_self, iI_no, L_left H he (isI_of (by omega) (by omega)), Option.bind_some, lcmp_self, iI_no, L_left H he (isI_of (by omega) (by omega)), Option.bind_some, lcmp_self, iI_no, s_mixed0 H, mqbd, iL_lt0 (by omega) (by omega) (by omega) (by omega), if_neg (by omega), iL_le0 (by omega) (by omega) (by omega) (by omega), iL_lt0 (by omega) (by omega) (by omega) (by omega)]
  by_cases h1 : cnt (a 5) ≤ 0
  · rw [if_pos h1]
    exact f363 _ (by omega) (by omega)
  · rw [if_neg h1]
    by_cases h2 : cnt (a 5) < cnt (a 4)
    · rw [if_pos h2]; exact ⟨a, rfl, keepA.rf a⟩
    · rw [if_neg h2]
      exact f363 _ (by omega) (by omega)
