/-! ===== the law's cases ===== -/
theorem draw_r (x : Int) : 0 ≤ qand x 2147483647 ∧ qand x 2147483647 ≤ 2147483647 := by
  unfold qand
  have h1 := Int32.toInt_lt (qI x &&& qI 2147483647)
  have h2 : (qI x &&& qI 2147483647).toBitVec.msb = false := by
    rw [Int32.toBitVec_and, BitVec.msb_and, show (qI 2147483647).toBitVec.msb = false from by decide +kernel, Bool.and_false]
  have h3 : (qI x &&& qI 2147483647).toInt = (((qI x &&& qI 2147483647).toBitVec.toNat : Nat) : Int) := by
    rw [← Int32.toInt_toBitVec]
    exact BitVec.toInt_eq_toNat_of_msb h2
  exact ⟨by omega, by omega⟩
theorem L_draw (L : Nat) (xs : Nat → Int32) {k : Int} (k0 : 0 ≤ k) (k1 : k ≤ 1000) (hL : L ≤ 260) : ∃ v, fL_draw L xs k = some v ∧ 0 ≤ v ∧ v ≤ 2147483647 := by
  unfold fL_draw
  rw [iI_le (by omega) (by omega) (by omega) (by omega)]
  by_cases h : (L : Int) ≤ k
  · rw [if_pos h]
    exact ⟨_, rfl, draw_r _⟩
  · rw [if_neg h, if_pos ⟨k0, by omega⟩]
    exact ⟨_, rfl, draw_r _⟩
theorem shl_pw {w : Int} (w0 : 0 ≤ w) (w1 : w < 4) : qi2l (qshl 1 w) = pw w := by
  obtain ⟨k, rfl⟩ := f4 w0 w1
  exact (by decide +kernel : ∀ (k : Fin 4), qi2l (qshl 1 (k.val : Int)) = pw (k.val : Int)) k
/-- the end of an iteration -/
theorem q_1178 {L : Nat} {xs : Nat → Int32} {k18 : Nat → Int → Int → Int → qSt → Option Unit} {h e s r n x3 x6 x7 x8 : Int} {kc : Nat} {a : qSt} (H : I h e s r n a) (hh : h ≤ 500) (hn : n ≤ 250000) (he : e ≤ 10000) (hs : s ≤ 5000) (i0 : 0 ≤ x6) (i1 : x6 ≤ 48) (x0 : 0 ≤ x7) (x1 : x7 ≤ 2147483647) (y0 : 0 ≤ x8) (y1 : x8 ≤ 2147483647) (hk : kc + 5360 ≤ 400000) (hnx : ∀ (kd : Nat) (a' : qSt), kd ≤ kc + 5360 → keepA a a' → k18 kd 1 x3 (x6 + 1) a' = some ()) : fL_law_c1178 L xs k18 kc 1 x3 x6 x7 x8 a = some () := by
  have hn1 : n ≤ 1000000 := by omega
  have m1 := m_qr (x := x7) (c := 8) x0 x1 (by omega) (by omega)
  have m2 := m_qr (x := x8) (c := 8) y0 y1 (by omega) (by omega)
  have m3 := m_qr (x := x8) (c := 16) y0 y1 (by omega) (by omega)
  have m4 := m_qr (x := x8 / 16) (c := 4) (by omega) (by omega) (by omega) (by omega)
  have m5 := m_qr (x := x6) (c := 8) i0 (by omega) (by omega) (by omega)
  have m6 := m_qr (x := x6) (c := 24) i0 (by omega) (by omega) (by omega)
  have c1273 : ∀ (kd : Nat) (a' : qSt), kd ≤ kc + 5360 → keepA a a' → fL_law_c1273 L xs k18 kd 1 x3 x6 a' = some () := fun kd a' hd ha => by
    unfold fL_law_c1273
    rw [mqif _ (by omega)]
    exact hnx kd a' hd ha
  have c1246 : ∀ (kd : Nat) (a' : qSt), kd ≤ kc + 3360 → keepA a a' → fL_law_c1246 L xs k18 kd 1 x3 x6 a' = some () := fun kd a' hd ha => by
    unfold fL_law_c1246
    rw [mqif _ (by omega), m6.2, iI_eq (by omega) (by omega) (by omega) (by omega)]
    by_cases e9 : x6 % 24 = 23
    · rw [if_pos e9, iI_yes, L_refuses (H.keep ha) hh hn1 he hs, mqbd, iI_yes]
      unfold fL_law_c1272
      rw [mqif _ (by omega)]
      exact c1273 _ _ (by omega) ha
    · rw [if_neg e9]
      exact c1273 _ _ (by omega) ha
  have c1219 : ∀ (kd : Nat) (a' : qSt), kd ≤ kc + 360 → keepA a a' → fL_law_c1219 L xs k18 kd 1 x3 x6 a' = some () := fun kd a' hd ha => by
    unfold fL_law_c1219
    rw [mqif _ (by omega), m5.2, iI_eq (by omega) (by omega) (by omega) (by omega)]
    by_cases e9 : x6 % 8 = 7
    · obtain ⟨a2, f1, f2⟩ := L_sumsHold (H.keep ha) hn1 he hs
      rw [if_pos e9, iI_yes, f1, mqbd, iI_yes]
      unfold fL_law_c1245
      rw [mqif _ (by omega)]
      exact c1246 _ _ (by omega) (ha.tr f2)
    · rw [if_neg e9]
      exact c1246 _ _ (by omega) ha
  obtain ⟨a1, d1, d2⟩ := L_asked H hn (x := x7 / 8) (y := x8 / 8) (by omega) (by omega) (by omega) (by omega)
  obtain ⟨a2, f1, f2⟩ := L_betterHolds (H.keep d2) hn1 (k := x8 / 16 % 4) (by omega) (by omega)
  unfold fL_law_c1178
  rw [mqif _ (by omega), iI_yes, m1.1, m2.1, d1, mqbd, iI_yes, m3.1, m4.2, f1, mqbd, iI_yes]
  unfold fL_law_c1218
  rw [mqif _ (by omega)]
  exact c1219 _ _ (by omega) (d2.tr f2)
/-- a case goes on to the end of the iteration -/
def GO (L : Nat) (xs : Nat → Int32) (k18 : Nat → Int → Int → Int → qSt → Option Unit) (kc : Nat) (x6 x7 x8 h e s r n : Int) (F : Option Unit) : Prop := ∃ (kd : Nat) (x3 : Int) (a' : qSt), F = fL_law_c1178 L xs k18 kd 1 x3 x6 x7 x8 a' ∧ kd ≤ kc + 1500 ∧ I (h + 9) (e + 30) (s + 6) (r + 9) (n + 2000) a' ∧ a' 38 3 = x3
theorem I.more {h e s r n : Int} {a : qSt} (H : I h e s r n a) : I (h + 9) (e + 30) (s + 6) (r + 9) (n + 2000) a := H.mono (by omega) (by omega) (by omega) (by omega) (by omega)
theorem go_0 {L : Nat} {xs : Nat → Int32} {k18 : Nat → Int → Int → Int → qSt → Option Unit} {x6 x7 x8 h e s r n : Int} {kc : Nat} {a : qSt} (H : I h e s r n a) (hn : n ≤ 250000) (he : e ≤ 9000) (hs : s ≤ 4900) {c : Int} (c0 : 0 ≤ c) (c1 : c < 96) (y0 : 0 ≤ x8) (y1 : x8 ≤ 2147483647) (hk : kc + 1600 ≤ 400000) : GO L xs k18 kc x6 x7 x8 h e s r n (fL_law_c97 L xs k18 kc (a 38 3) x6 x7 x8 c (a 2 c) a) := by
  have hn1 : n ≤ 1000000 := by omega
  have m1 := m_qr (x := x8) (c := 96) y0 y1 (by omega) (by omega)
  have m2 := m_qr (x := x8 / 96) (c := 5) (by omega) (by omega) (by omega) (by omega)
  have hkr : 0 ≤ a 2 c ∧ a 2 c ≤ 3 := H.1.1.1 c c0 c1
  have hp : 0 ≤ a 4 c ∧ a 4 c ≤ 15 := H.1.1.2.2.1 c c0 c1
  have q0 : 0 ≤ a 30 c ∧ a 30 c ≤ n := H.2.1.r (w := 0) c0 c1 (by omega) (by omega)
  have q1 : 0 ≤ a 31 c ∧ a 31 c ≤ n := H.2.1.r (w := 1) c0 c1 (by omega) (by omega)
  have q2 : 0 ≤ a 32 c ∧ a 32 c ≤ n := H.2.1.r (w := 2) c0 c1 (by omega) (by omega)
  have q3 : 0 ≤ a 33 c ∧ a 33 c ≤ n := H.2.1.r (w := 3) c0 c1 (by omega) (by omega)
  have c242 : ∀ (kd : Nat) (a' : qSt), kd ≤ kc + 20 → I h e s r n a' → a' 38 3 = a 38 3 → GO L xs k18 kc x6 x7 x8 h e s r n (fL_law_c242 L xs k18 kd (a 38 3) x6 x7 x8 a') := fun kd a' hd ha hb => by
    unfold fL_law_c242 fL_law_c247
    rw [mqif _ (by omega), mqif _ (by omega)]
    exact ⟨kd, _, a', rfl, by omega, ha.more, hb⟩
  have c159 : ∀ (kd : Nat) (f : Int), kd ≤ kc + 10 → (f = 1 ∨ f = 0 ∧ ¬ mayP a c) → GO L xs k18 kc x6 x7 x8 h e s r n (fL_law_c159 L xs k18 kd (a 38 3) x6 x7 x8 c f a) := fun kd f hd hf => by
    unfold fL_law_c159
    rw [mqif _ (by omega), m1.1, m2.2]
    have b0 : -1 ≤ x8 / 96 % 5 - 1 := by omega
    have b1 : x8 / 96 % 5 - 1 ≤ 3 := by omega
    generalize x8 / 96 % 5 - 1 = b at b0 b1 ⊢
    rcases s_wall H hn1 c0 c1 b0 b1 with d1 | ⟨a', d1, d2, d3, d4, d5, d6, d7⟩
    · rw [d1, mqbd, lcmp_self, iI_no]
      exact c242 _ _ (by omega) H rfl
    · have hf1 : f = 1 := hf.elim id (fun z => absurd d3 z.2)
      rw [d1, mqbd, iL_eq0 (by omega) (by omega) (by omega) (by omega), if_neg (by omega), lcmp_self, iI_no, hf1, iI_yes, L_c0 d2 hn1 c0 c1, mqbd, d4, lcmp_self, iI_no, L_c1 d2 hn1 c0 c1, mqbd, d5, m_i2l (by omega) (by omega), lcmp_self, iI_no, L_s1 d2 hn1 (by omega) (by omega), mqbd, d6, lcmp_self, iI_no]
      exact c242 _ _ (by omega) d2 d7
  have c158 : ∀ kd : Nat, kd ≤ kc + 10 → ¬ mayP a c → GO L xs k18 kc x6 x7 x8 h e s r n (fL_law_c158 L xs k18 kd (a 38 3) x6 x7 x8 c a) := fun kd hd hm => by
    unfold fL_law_c158
    rw [mqif _ (by omega)]
    exact c159 kd 0 hd (Or.inr ⟨rfl, hm⟩)
  unfold fL_law_c97
  rw [mqif _ (by omega), iL_eq0 (by omega) (by omega) (by omega) (by omega)]
  by_cases e1 : a 2 c = 0
  · rw [if_pos e1, L_c2 H hn1 c0 c1, mqbd, iL_eq0 (by omega) (by omega) (by omega) (by omega)]
    by_cases e2 : a 4 c = 0
    · rw [if_pos e2, L_c4 H hn1 c0 c1, mqbd, L_c5 H hn1 c0 c1, mqbd, L_c6 H hn1 c0 c1, mqbd, L_c7 H hn1 c0 c1, mqbd, iL_eq0 (by omega) (by omega) (by omega) (by omega)]
      by_cases e3 : a 30 c + a 31 c + a 32 c + a 33 c = 0
      · rw [if_pos e3]
        exact c159 _ 1 (by omega) (Or.inl rfl)
      · rw [if_neg e3]
        refine c158 _ (by omega) (fun z => e3 ?_)
        have z0 : a 30 c = 0 := z.2.2.1 0 (by omega) (by omega)
        have z1 : a 31 c = 0 := z.2.2.1 1 (by omega) (by omega)
        have z2 : a 32 c = 0 := z.2.2.1 2 (by omega) (by omega)
        have z3 : a 33 c = 0 := z.2.2.1 3 (by omega) (by omega)
        omega
    · rw [if_neg e2]
      exact c158 _ (by omega) (fun z => e2 z.2.1)
  · rw [if_neg e1]
    exact c158 _ (by omega) (fun z => e1 z.1)
theorem go_1 {L : Nat} {xs : Nat → Int32} {k18 : Nat → Int → Int → Int → qSt → Option Unit} {x6 x7 x8 h e s r n : Int} {kc : Nat} {a : qSt} (H : I h e s r n a) (hn : n ≤ 250000) (he : e ≤ 9000) (hs : s ≤ 4900) {c : Int} (c0 : 0 ≤ c) (c1 : c < 96) (hk : kc + 1600 ≤ 400000) : GO L xs k18 kc x6 x7 x8 h e s r n (fL_law_c257 L xs k18 kc (a 38 3) x6 x7 x8 c (a 2 c) a) := by
  have hn1 : n ≤ 1000000 := by omega
  obtain ⟨a', d1, d2, d3, d4, d5⟩ := s_clear H c0 c1
  unfold fL_law_c257
  rw [mqif _ (by omega), d1, mqbd, lcmp_self, iI_no, L_c0 d2 hn1 c0 c1, mqbd, d3, lcmp_self, iI_no, L_s1 d2 hn1 (by omega) (by omega), mqbd, d4, lcmp_self, iI_no]
  unfold fL_law_c296
  rw [mqif _ (by omega)]
  exact ⟨_, _, a', rfl, by omega, d2.more, d5⟩
theorem go_2 {L : Nat} {xs : Nat → Int32} {k18 : Nat → Int → Int → Int → qSt → Option Unit} {x6 x7 x8 h e s r n : Int} {kc : Nat} {a : qSt} (H : I h e s r n a) (hn : n ≤ 250000) {c : Int} (c0 : 0 ≤ c) (c1 : c < 96) (y0 : 0 ≤ x8) (y1 : x8 ≤ 2147483647) (hk : kc + 1600 ≤ 400000) : GO L xs k18 kc x6 x7 x8 h e s r n (fL_law_c306 L xs k18 kc (a 38 3) x6 x7 x8 c (a 2 c) a) := by
  have hn1 : n ≤ 1000000 := by omega
  have m1 := m_qr (x := x8) (c := 96) y0 y1 (by omega) (by omega)
  have m2 := m_qr (x := x8 / 96) (c := 5) (by omega) (by omega) (by omega) (by omega)
  have m3 := m_qr (x := x8) (c := 512) y0 y1 (by omega) (by omega)
  have m4 := m_qr (x := x8 / 512) (c := 3) (by omega) (by omega) (by omega) (by omega)
  have hkr : 0 ≤ a 2 c ∧ a 2 c ≤ 3 := H.1.1.1 c c0 c1
  have c386 : ∀ (kd : Nat) (a' : qSt), kd ≤ kc + 20 → I h e s r n a' → a' 38 3 = a 38 3 → GO L xs k18 kc x6 x7 x8 h e s r n (fL_law_c386 L xs k18 kd (a 38 3) x6 x7 x8 a') := fun kd a' hd ha hb => by
    unfold fL_law_c386 fL_law_c391
    rw [mqif _ (by omega), mqif _ (by omega)]
    exact ⟨kd, _, a', rfl, by omega, ha.more, hb⟩
  have c321 : ∀ k : Int, (k = 2 ∨ k = 3) → GO L xs k18 kc x6 x7 x8 h e s r n (fL_law_c321 L xs k18 kc (a 38 3) x6 x7 x8 c (a 2 c) k a) := fun k hk3 => by
    obtain ⟨o1, o2⟩ := s_open H c0 c1 hk3
    unfold fL_law_c321
    rw [mqif _ (by omega), m3.1, m4.2, iI_0lt (by omega) (by omega)]
    by_cases e9 : 0 < x8 / 512 % 3
    · rw [if_pos e9]
      exact c386 _ _ (by omega) H rfl
    · rw [if_neg e9]
      by_cases e0 : a 2 c = 0
      · obtain ⟨a', d1, d2, d3, d4⟩ := o2 e0
        rw [d1, mqbd, e0, lcmp_self, iI_no]
        unfold fL_law_c356 fL_law_c382
        rw [mqif _ (by omega), lcmp_self, iI_no, L_c0 d2 hn1 c0 c1, mqbd, iI_no, mqif _ (by omega), d3, m_i2l (by omega) (by omega), lcmp_self, iI_no]
        exact c386 _ _ (by omega) d2 d4
      · rw [o1 e0, mqbd, iL_eq0 (by omega) (by omega) (by omega) (by omega), if_neg e0]
        unfold fL_law_c356 fL_law_c382
        rw [mqif _ (by omega), lcmp_self, iI_no, L_c0 H hn1 c0 c1, mqbd, iL_eq0 (by omega) (by omega) (by omega) (by omega), if_neg e0, mqif _ (by omega), lcmp_self, iI_no]
        exact c386 _ _ (by omega) H rfl
  unfold fL_law_c306
  rw [mqif _ (by omega), m1.1, m2.2, iI_eq0 (by omega) (by omega)]
  by_cases e9 : x8 / 96 % 5 = 0
  · rw [if_pos e9]; exact c321 2 (Or.inl rfl)
  · rw [if_neg e9]; exact c321 3 (Or.inr rfl)
theorem go_3 {L : Nat} {xs : Nat → Int32} {k18 : Nat → Int → Int → Int → qSt → Option Unit} {x6 x7 x8 h e s r n : Int} {kc : Nat} {a : qSt} (H : I h e s r n a) (hn : n ≤ 250000) {c : Int} (c0 : 0 ≤ c) (c1 : c < 96) (y0 : 0 ≤ x8) (y1 : x8 ≤ 2147483647) (hk : kc + 1600 ≤ 400000) : GO L xs k18 kc x6 x7 x8 h e s r n (fL_law_c402 L xs k18 kc 1 (a 38 3) x6 x7 x8 c a) := by
  have hn1 : n ≤ 1000000 := by omega
  have m1 := m_qr (x := x8) (c := 96) y0 y1 (by omega) (by omega)
  unfold fL_law_c402
  rw [mqif _ (by omega)]
  obtain ⟨⟨kd, b⟩, e1, p1, p2, p3⟩ := mloop (S := Nat × qSt) (P := fun i t => (t.1 : Int) ≤ kc + 4 * i ∧ I h (e + i) s r n t.2 ∧ t.2 38 3 = a 38 3) (F := fun f i t => fL_law_c405 L xs k18 f t.1 1 (a 38 3) x6 x7 x8 c i t.2) (R := fun t => fL_law_c1178 L xs k18 t.1 1 (a 38 3) x6 x7 x8 t.2) 6 (by omega) (by omega) (fun f t hP => by
    obtain ⟨kd, b⟩ := t
    obtain ⟨p1, p2, p3⟩ := hP
    have p1 : (kd : Int) ≤ kc + 4 * 6 := p1
    show fL_law_c405 L xs k18 (f + 1) kd 1 (a 38 3) x6 x7 x8 c 6 b = fL_law_c1178 L xs k18 kd 1 (a 38 3) x6 x7 x8 b
    rw [fL_law_c405, mqif _ (by omega), if_pos (by rw [mI_le] <;> omega)]
    unfold fL_law_c528
    rw [mqif _ (by omega)]) (fun f i t i0 i1 hP => by
    obtain ⟨kd, b⟩ := t
    obtain ⟨p1, p2, p3⟩ := hP
    have p1 : (kd : Int) ≤ kc + 4 * i := p1
    have p2 : I h (e + i) s r n b := p2
    have p3 : b 38 3 = a 38 3 := p3
    have m2 := m_qr (x := c + 17 * i) (c := 96) (by omega) (by omega) (by omega) (by omega)
    have m3 := m_qr (x := x8 / 96 + i) (c := 4) (by omega) (by omega) (by omega) (by omega)
    show ∃ s1 : Nat × qSt, fL_law_c405 L xs k18 (f + 1) kd 1 (a 38 3) x6 x7 x8 c i b = fL_law_c405 L xs k18 f s1.1 1 (a 38 3) x6 x7 x8 c (i + 1) s1.2 ∧ (s1.1 : Int) ≤ kc + 4 * (i + 1) ∧ I h (e + (i + 1)) s r n s1.2 ∧ s1.2 38 3 = a 38 3
    rw [fL_law_c405, mqif _ (by omega), if_neg (by rw [mI_le] <;> omega), iI_yes, mqb, mqb, m1.1, m2.2, m3.2]
    have a0 : 0 ≤ (c + 17 * i) % 96 := by omega
    have a1 : (c + 17 * i) % 96 < 96 := by omega
    have w0 : 0 ≤ (x8 / 96 + i) % 4 := by omega
    have w1 : (x8 / 96 + i) % 4 < 4 := by omega
    generalize (c + 17 * i) % 96 = at9 at a0 a1 ⊢
    generalize (x8 / 96 + i) % 4 = w at w0 w1 ⊢
    have hkr : 0 ≤ b 2 at9 ∧ b 2 at9 ≤ 3 := p2.1.1.1 at9 a0 a1
    have hp : 0 ≤ b 4 at9 ∧ b 4 at9 ≤ 15 := p2.1.1.2.2.1 at9 a0 a1
    have hbr := bt_r (b 4 at9) w
    obtain ⟨o1, o2⟩ := s_particle p2 a0 a1 w0 w1
    have no : ∀ m : Nat, (m : Int) ≤ kd + 2 → (b 2 at9 = 1 ∨ bt (b 4 at9) w = 1) → ∃ s1 : Nat × qSt, fL_law_c473 L xs k18 (fL_law_c405 L xs k18 f) m (a 38 3) x6 x7 x8 c i at9 w b = fL_law_c405 L xs k18 f s1.1 1 (a 38 3) x6 x7 x8 c (i + 1) s1.2 ∧ (s1.1 : Int) ≤ kc + 4 * (i + 1) ∧ I h (e + (i + 1)) s r n s1.2 ∧ s1.2 38 3 = a 38 3 := fun m hm hz => by
      refine ⟨(m + 1 + 1, b), ?_, by show ((m + 1 + 1 : Nat) : Int) ≤ _; omega, p2.mono (by omega) (by omega) (by omega) (by omega) (by omega), p3⟩
      unfold fL_law_c473 fL_law_c474
      rw [mqif _ (by omega), mqif _ (by omega), L_c2 p2 hn1 a0 a1, mqbd, o1 hz, mqbd, iI_no]
      unfold fL_law_c512 fL_law_c521
      rw [mqif _ (by omega), lcmp_self, iI_no, mqif _ (by omega)]
    rw [L_c0 p2 hn1 a0 a1, mqbd, iL_eq0 (by omega) (by omega) (by omega) (by omega)]
    by_cases e1 : b 2 at9 = 1
    · rw [if_pos e1]
      exact no _ (by omega) (Or.inl e1)
    · rw [if_neg e1, L_c2 p2 hn1 a0 a1, mqbd, m_l2i (by omega) (by omega), m_bit hp.1 hp.2 w0 w1, iI_eq0 (by omega) (by omega)]
      by_cases e2 : bt (b 4 at9) w = 0
      · obtain ⟨b', d1, d2, d3⟩ := o2 e1 e2
        rw [if_pos e2]
        refine ⟨(kd + 1 + 1 + 1 + 1, b'), ?_, by show ((kd + 1 + 1 + 1 + 1 : Nat) : Int) ≤ _; omega, d2.mono (by omega) (by omega) (by omega) (by omega) (by omega), d3.trans p3⟩
        unfold fL_law_c474
        rw [mqif _ (by omega), L_c2 p2 hn1 a0 a1, mqbd, d1, mqbd, iI_yes]
        unfold fL_law_c512 fL_law_c521
        rw [mqif _ (by omega), shl_pw w0 w1, lcmp_self, iI_no, mqif _ (by omega)]
      · rw [if_neg e2]
        exact no _ (by omega) (Or.inr (by omega))) (s := (kc, a)) ⟨by show (kc : Int) ≤ kc + 4 * 0; omega, H.mono (by omega) (by omega) (by omega) (by omega) (by omega), rfl⟩
  have e1 : fL_law_c405 L xs k18 qFU kc 1 (a 38 3) x6 x7 x8 c 0 a = fL_law_c1178 L xs k18 kd 1 (a 38 3) x6 x7 x8 b := e1
  have p1 : (kd : Int) ≤ kc + 4 * 6 := p1
  have p2 : I h (e + 6) s r n b := p2
  exact ⟨kd, _, b, e1, by omega, p2.mono (by omega) (by omega) (by omega) (by omega) (by omega), p3⟩
theorem go_6 {L : Nat} {xs : Nat → Int32} {k18 : Nat → Int → Int → Int → qSt → Option Unit} {x6 x7 x8 h e s r n : Int} {kc : Nat} {a : qSt} (H : I h e s r n a) (hn : n ≤ 250000) {c : Int} (c0 : 0 ≤ c) (c1 : c < 96) (hk : kc + 1600 ≤ 400000) : GO L xs k18 kc x6 x7 x8 h e s r n (fL_law_c538 L xs k18 kc (a 38 3) x6 x7 x8 c a) := by
  have hn1 : n ≤ 1000000 := by omega
  have b1 := btc_r (a 4 c)
  have b2 := btc_r (a 5 c)
  obtain ⟨a1, d1, d2, d3, d4, d5, d6⟩ := s_ink H c0 c1
  obtain ⟨a2, f1, f2, f3, f4, f5, f6⟩ := s_ink d2 c0 c1
  rw [d3, d4, Int.sub_self] at f1
  unfold fL_law_c538
  rw [mqif _ (by omega), d1, mqbd, iL_lt0 (by omega) (by omega) (by omega) (by omega), if_neg (by omega), L_c3 d2 hn1 c0 c1, mqbd, L_c2 d2 hn1 c0 c1, mqbd, d3, d4, lcmp_self, iI_no, f1, mqbd, lcmp_self, iI_no]
  unfold fL_law_c583
  rw [mqif _ (by omega)]
  exact ⟨_, _, a2, rfl, by omega, f2.more, f5.trans d5⟩
theorem go_7 {L : Nat} {xs : Nat → Int32} {k18 : Nat → Int → Int → Int → qSt → Option Unit} {x6 x7 x8 h e s r n : Int} {kc : Nat} {a : qSt} (H : I h e s r n a) {c : Int} (c0 : 0 ≤ c) (c1 : c < 96) (hk : kc + 1600 ≤ 400000) : GO L xs k18 kc x6 x7 x8 h e s r n (fL_law_c594 L xs k18 kc (a 38 3) x6 x7 x8 c (a 2 c) a) := by
  obtain ⟨q0, q1⟩ := H.2.2.2.2.1.2.2.1
  have hkr : 0 ≤ a 2 c ∧ a 2 c ≤ 3 := H.1.1.1 c c0 c1
  obtain ⟨o1, o2⟩ := s_probe H c0 c1
  have no : (a 2 c = 1 ∨ 4 ≤ a 38 3) → GO L xs k18 kc x6 x7 x8 h e s r n (fL_law_c610 L xs k18 kc (a 38 3) x6 x7 x8 c a) := fun hz => by
    unfold fL_law_c610 fL_law_c611
    rw [mqif _ (by omega), mqif _ (by omega), o1 hz, mqbd, iI_no]
    unfold fL_law_c632 fL_law_c641 fL_law_c653
    rw [mqif _ (by omega), lcmp_self, iI_no, mqif _ (by omega), iI_no, mqif _ (by omega), mqb, Int.add_zero]
    exact ⟨_, _, a, rfl, by omega, H.more, rfl⟩
  unfold fL_law_c594
  rw [mqif _ (by omega), iL_eq0 (by omega) (by omega) (by omega) (by omega)]
  by_cases e1 : a 2 c = 1
  · rw [if_pos e1]; exact no (Or.inl e1)
  · rw [if_neg e1, iI_le (by omega) (by omega) (by omega) (by omega)]
    by_cases e2 : 4 ≤ a 38 3
    · rw [if_pos e2]; exact no (Or.inr e2)
    · obtain ⟨a', d1, d2, d3⟩ := o2 e1 (by omega)
      rw [if_neg e2]
      unfold fL_law_c611
      rw [mqif _ (by omega), d1, mqbd, iI_yes, m_i2l (by omega) (by omega)]
      unfold fL_law_c632 fL_law_c641 fL_law_c653
      rw [mqif _ (by omega), lcmp_self, iI_no, mqif _ (by omega), iI_yes, mqif _ (by omega), mqb]
      exact ⟨_, _, a', rfl, by omega, d2.more, d3⟩
theorem go_8 {L : Nat} {xs : Nat → Int32} {k18 : Nat → Int → Int → Int → qSt → Option Unit} {x6 x7 x8 h e s r n : Int} {kc : Nat} {a : qSt} (H : I h e s r n a) (hn : n ≤ 250000) {c : Int} (c0 : 0 ≤ c) (c1 : c < 96) (x0 : 0 ≤ x7) (x1 : x7 ≤ 2147483647) (y0 : 0 ≤ x8) (y1 : x8 ≤ 2147483647) (hk : kc + 1600 ≤ 400000) : GO L xs k18 kc x6 x7 x8 h e s r n (fL_law_c665 L xs k18 kc (a 38 3) x6 x7 x8 c (a 2 c) a) := by
  have hn1 : n ≤ 1000000 := by omega
  have hkr : 0 ≤ a 2 c ∧ a 2 c ≤ 3 := H.1.1.1 c c0 c1
  have m1 := m_qr (x := x7) (c := 16) x0 x1 (by omega) (by omega)
  have m2 := m_qr (x := x7 / 16) (c := 4) (by omega) (by omega) (by omega) (by omega)
  have m3 := m_qr (x := x8) (c := 96) y0 y1 (by omega) (by omega)
  have m4 := m_qr (x := x8 / 96) (c := 2000) (by omega) (by omega) (by omega) (by omega)
  have c677 : ∀ f : Int, (a 2 c = 1 ∧ f = 0) ∨ (a 2 c ≠ 1 ∧ f = 1) → GO L xs k18 kc x6 x7 x8 h e s r n (fL_law_c677 L xs k18 kc (a 38 3) x6 x7 x8 c f a) := fun f hf => by
    unfold fL_law_c677
    rw [mqif _ (by omega), m1.1, m2.2, m3.1, m4.2]
    have w0 : 0 ≤ x7 / 16 % 4 := by omega
    have w1 : x7 / 16 % 4 < 4 := by omega
    have g0 : 1 ≤ 1 + x8 / 96 % 2000 := by omega
    have g1 : 1 + x8 / 96 % 2000 ≤ 2000 := by omega
    generalize x7 / 16 % 4 = w at w0 w1 ⊢
    generalize 1 + x8 / 96 % 2000 = m at g0 g1 ⊢
    obtain ⟨o1, o2⟩ := s_bring H c0 c1 w0 w1 g0 g1 (by omega)
    rw [L_cw H hn1 c0 c1 w0 w1, mqbd, mqb]
    rcases hf with ⟨hw, rfl⟩ | ⟨hw, rfl⟩
    · rw [o1 hw, mqbd, iI_no]
      unfold fL_law_c741 fL_law_c750
      rw [mqif _ (by omega), lcmp_self, iI_no, mqif _ (by omega)]
      exact ⟨_, _, a, rfl, by omega, H.more, rfl⟩
    · obtain ⟨a', d1, d2, d3⟩ := o2 hw
      rw [d1, mqbd, iI_yes, m_i2l (by omega) (by omega)]
      unfold fL_law_c741 fL_law_c750
      rw [mqif _ (by omega), lcmp_self, iI_no, mqif _ (by omega)]
      exact ⟨_, _, a', rfl, by omega, d2.mono (by omega) (by omega) (by omega) (by omega) (by omega), d3⟩
  unfold fL_law_c665
  rw [mqif _ (by omega), iL_eq0 (by omega) (by omega) (by omega) (by omega)]
  by_cases e1 : a 2 c = 1
  · rw [if_pos e1]; exact c677 0 (Or.inl ⟨e1, rfl⟩)
  · rw [if_neg e1]; exact c677 1 (Or.inr ⟨e1, rfl⟩)
theorem go_9 {L : Nat} {xs : Nat → Int32} {k18 : Nat → Int → Int → Int → qSt → Option Unit} {x6 x7 x8 h e s r n : Int} {kc : Nat} {a : qSt} (H : I h e s r n a) (hn : n ≤ 250000) (he : e ≤ 9000) (hs : s ≤ 4900) (hr : r ≤ 100000) (y0 : 0 ≤ x8) (y1 : x8 ≤ 2147483647) (hk : kc + 1600 ≤ 400000) : GO L xs k18 kc x6 x7 x8 h e s r n (fL_law_c761 L xs k18 kc (a 38 3) x6 x7 x8 (a 0 6) a) := by
  have hn1 : n ≤ 1000000 := by omega
  have m1 := m_qr (x := x8) (c := 9) y0 y1 (by omega) (by omega)
  obtain ⟨q0, q1⟩ := H.2.2.2.2.2.2
  unfold fL_law_c761
  rw [mqif _ (by omega), L_s7 H hn1 (by omega) (by omega), mqbd, m1.2]
  have g0 : 1 ≤ 1 + x8 % 9 := by omega
  have g1 : 1 + x8 % 9 ≤ 9 := by omega
  generalize 1 + x8 % 9 = m at g0 g1 ⊢
  obtain ⟨a', d1, d2, d3, d4, d5⟩ := s_flow H hn1 g0 (show m ≤ 100 by omega)
  rw [d1, mqbd, iL_le0 (by omega) (by omega) (by omega) (by omega), if_neg (by omega), L_s7 d2 hn1 (by omega) (by omega), mqbd, d3, lcmp_self, iI_no, L_s1 d2 hn1 (by omega) (by omega), mqbd, d4, lcmp_self, iI_no]
  unfold fL_law_c813
  rw [mqif _ (by omega)]
  exact ⟨_, _, a', rfl, by omega, d2.mono (by omega) (by omega) (by omega) (by omega) (by omega), d5⟩
theorem go_10 {L : Nat} {xs : Nat → Int32} {k18 : Nat → Int → Int → Int → qSt → Option Unit} {x6 x7 x8 h e s r n : Int} {kc : Nat} {a : qSt} (H : I h e s r n a) (hh : h ≤ 450) (y0 : 0 ≤ x8) (y1 : x8 ≤ 2147483647) (hk : kc + 1600 ≤ 400000) : GO L xs k18 kc x6 x7 x8 h e s r n (fL_law_c824 L xs k18 kc (a 38 3) x6 x7 x8 a) := by
  have m1 := m_qr (x := x8) (c := 4) y0 y1 (by omega) (by omega)
  have m2 := m_qr (x := x8 / 4) (c := 11) (by omega) (by omega) (by omega) (by omega)
  unfold fL_law_c824
  rw [mqif _ (by omega), m1.1, m1.2, m2.2]
  have b0 : 0 ≤ x8 % 4 := by omega
  have b1 : x8 % 4 < 4 := by omega
  have f0 : -5 ≤ x8 / 4 % 11 - 5 := by omega
  have f1 : x8 / 4 % 11 - 5 ≤ 5 := by omega
  generalize x8 % 4 = b at b0 b1 ⊢
  generalize x8 / 4 % 11 - 5 = f at f0 f1 ⊢
  have hr := H.2.2.1 b b0 b1
  have hf := H.2.2.2.2.2.1 b b0 b1
  have hm := mul5 hf.1 hf.2 hr.1.1 hr.1.2
  obtain ⟨a', d1, d2, d3, d4, d5, d6⟩ := s_fault H b0 b1 f0 f1
  rw [L_b4 H (by omega) b0 b1, mqbd, mqb, d1, mqbd, iL_lt0 (by omega) (by omega) (by omega) (by omega), if_neg (by omega), L_b4 d2 (by omega) b0 b1, mqbd, L_b2 d2 (by omega) b0 b1, mqbd, L_b1 d2 (by omega) b0 b1, mqbd, d3, m_i2l (by omega) (by omega), lcmp_self, iI_no, iL_lt0 (by omega) (by omega) (by omega) (by omega), if_neg (by omega)]
  unfold fL_law_c913
  rw [mqif _ (by omega)]
  exact ⟨_, _, a', rfl, by omega, d2.more, d6⟩
