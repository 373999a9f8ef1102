/-! ===== the law's own questions: asked, refuses ===== -/
theorem L_c330 {h e s r n : Int} {a : qSt} (H : I h e s r n a) (hn : n ≤ 250000) {C k c y v : Int} (hC : isI C) (k0 : 0 ≤ k) (k1 : k ≤ 2) (c0 : 0 ≤ c) (c1 : c < 96) (y0 : 0 ≤ y) (y1 : y ≤ 2147483647) {kc : Nat} (hk : kc ≤ 100) : ∃ a', fL_asked_c330 kc y c k C v v a = some (1, a') ∧ keepA a a' := by
  have hd := m_d12 c0 c1
  have hy1 := m_qr (x := y) (c := 8) y0 y1 (by omega) (by omega)
  have hy2 := m_qr (x := y / 8) (c := 12) (by omega) (by omega) (by omega) (by omega)
  obtain ⟨a1, v1, d1, d2, d3, d4, d5⟩ := s_scatter H hn hC k0 k1 (T := c / 12) (L := c % 12) (R := 1) (K := 1) ⟨by omega, by omega, by omega, by omega⟩
  have hz : v1 = 0 := d5 c c0 c1 rfl rfl rfl rfl
  rw [hz] at d1
  obtain ⟨a2, v2, f1, f2, f3, f4, -⟩ := s_scatter (H.keep d2) hn hC k0 k1 (T := 0) (L := c % 12) (R := 8) (K := 1 + y / 8 % 12) ⟨by omega, by omega, by omega, by omega⟩
  refine ⟨a2, ?_, d2.tr f2⟩
  unfold fL_asked_c330
  rw [mqif _ (by omega), lcmp_self, iI_no, hd.1, hd.2, d1, mqbd, lcmp_self, iI_no, hy1.1, hy2.2, f1, mqbd, iL_lt0 (by omega) (by omega) (by omega) (by omega), if_neg (by omega)]
theorem L_c306 {h e s r n : Int} {a : qSt} (H : I h e s r n a) (hn : n ≤ 250000) {C k c y f own : Int} (hC : isI C) (k0 : 0 ≤ k) (k1 : k ≤ 2) (c0 : 0 ≤ c) (c1 : c < 96) (y0 : 0 ≤ y) (y1 : y ≤ 2147483647) {kc : Nat} (hk : kc ≤ 100) (hf : (a 2 c = 1 ∧ f = 1) ∨ (a 2 c ≠ 1 ∧ f = 0)) : ∃ a', fL_asked_c306 kc y c 1 k C (if a 2 c = 1 then 0 else 100 * own) f own a = some (1, a') ∧ keepA a a' := by
  unfold fL_asked_c306
  rw [iI_yes]
  rcases hf with ⟨hw, rfl⟩ | ⟨hw, rfl⟩
  · rw [iI_yes, if_pos hw]
    exact L_c330 H hn hC k0 k1 c0 c1 y0 y1 hk
  · rw [iI_no, if_neg hw]
    exact L_c330 H hn hC k0 k1 c0 c1 y0 y1 hk
theorem L_c114 {h e s r n : Int} {a : qSt} (H : I h e s r n a) (hn : n ≤ 250000) {C k c y f : Int} (hC : C = 0 ∨ C = 1) (k0 : 0 ≤ k) (k1 : k ≤ 2) (c0 : 0 ≤ c) (c1 : c < 96) (y0 : 0 ≤ y) (y1 : y ≤ 2147483647) {kc : Nat} (hk : kc ≤ 50) (hf : (a 2 c = 1 ∧ f = 1) ∨ (a 2 c ≠ 1 ∧ f = 0)) : ∃ a', fL_asked_c114 kc y c 1 k C (if a 2 c = 1 then 0 else 100 * nv a C k c) f a = some (1, a') ∧ keepA a a' := by
  have hn1 : n ≤ 1000000 := by omega
  have hCi : isI C := isI_of (by omega) (by omega)
  have hp : 0 ≤ a 4 c ∧ a 4 c ≤ 15 := H.1.1.2.2.1 c c0 c1
  have b0 := bt_r (a 4 c) 0
  have b1 := bt_r (a 4 c) 1
  have b2 := bt_r (a 4 c) 2
  have b3 := bt_r (a 4 c) 3
  have e1 : qand (a 4 c) 1 = bt (a 4 c) 0 := m_and1 hp.1 hp.2
  have e2 : qand (qshr (a 4 c) 1) 1 = bt (a 4 c) 1 := m_bit hp.1 hp.2 (by omega) (by omega)
  have e3 : qand (qshr (a 4 c) 2) 1 = bt (a 4 c) 2 := m_bit hp.1 hp.2 (by omega) (by omega)
  have e4 : qand (qshr (a 4 c) 3) 1 = bt (a 4 c) 3 := m_bit hp.1 hp.2 (by omega) (by omega)
  have hl : ql2i (a 4 c) = a 4 c := m_l2i (by omega) (by omega)
  have fin : ∀ (m : Nat) (own : Int), m ≤ 100 → own = nv a C k c → ∃ a', fL_asked_c306 m y c 1 k C (if a 2 c = 1 then 0 else 100 * nv a C k c) f own a = some (1, a') ∧ keepA a a' := fun m own hm ho => by
    rw [← ho]
    exact L_c306 H hn hCi k0 k1 c0 c1 y0 y1 hm hf
  unfold fL_asked_c114
  rw [mqif _ (by omega)]
  rcases (show k = 0 ∨ k = 1 ∨ k = 2 by omega) with rfl | rfl | rfl
  · rw [iI_no]
    rcases hC with rfl | rfl
    · rw [iI_no, L_c2 H hn1 c0 c1, mqbd, L_c2 H hn1 c0 c1, mqbd, L_c2 H hn1 c0 c1, mqbd, L_c2 H hn1 c0 c1, mqbd, hl, e1, e2, e3, e4, m_i2l (by omega) (by omega)]
      exact fin _ _ (by omega) rfl
    · rw [iI_yes, L_c4 H hn1 c0 c1, mqbd, L_c5 H hn1 c0 c1, mqbd, L_c6 H hn1 c0 c1, mqbd, L_c7 H hn1 c0 c1, mqbd]
      refine fin _ _ (by omega) ?_
      show _ = (a 30 c + a 32 c) + (a 31 c + a 33 c)
      omega
  · rw [iI_yes, if_pos rfl]
    rcases hC with rfl | rfl
    · rw [iI_no, L_c2 H hn1 c0 c1, mqbd, L_c2 H hn1 c0 c1, mqbd, hl, e1, e3, m_i2l (by omega) (by omega)]
      exact fin _ _ (by omega) rfl
    · rw [iI_yes, L_c4 H hn1 c0 c1, mqbd, L_c6 H hn1 c0 c1, mqbd]
      exact fin _ _ (by omega) rfl
  · rw [iI_eq0 (by omega) (by omega), if_neg (by omega), iI_eq (by omega) (by omega) (by omega) (by omega), if_neg (by omega)]
    rcases hC with rfl | rfl
    · rw [iI_no, L_c2 H hn1 c0 c1, mqbd, L_c2 H hn1 c0 c1, mqbd, hl, e2, e4, m_i2l (by omega) (by omega)]
      exact fin _ _ (by omega) rfl
    · rw [iI_yes, L_c5 H hn1 c0 c1, mqbd, L_c7 H hn1 c0 c1, mqbd]
      exact fin _ _ (by omega) rfl
theorem nv_keep {a b : qSt} (h : keepA a b) : nv b = nv a := nv_congr (h.2.2.2.2.2 4 (by omega)) (h.2.2.2.2.2 30 (by omega)) (h.2.2.2.2.2 31 (by omega)) (h.2.2.2.2.2 32 (by omega)) (h.2.2.2.2.2 33 (by omega))
theorem L_c76 {h e s r n : Int} {a : qSt} (H : I h e s r n a) (hn : n ≤ 250000) {C k c y : Int} (hC : C = 0 ∨ C = 1) (k0 : 0 ≤ k) (k1 : k ≤ 2) (c0 : 0 ≤ c) (c1 : c < 96) (y0 : 0 ≤ y) (y1 : y ≤ 2147483647) {kc : Nat} (hk : kc ≤ 20) : ∃ a', fL_asked_c76 kc y c 1 k C a = some (1, a') ∧ keepA a a' := by
  have hn1 : n ≤ 1000000 := by omega
  have hd := m_d12 c0 c1
  obtain ⟨a1, d1, d2⟩ := s_average1 H hn (C := C) (k := k) (isI_of (by omega) (by omega)) k0 k1 c0 c1
  have g2 : a1 2 = a 2 := d2.2.2.2.2.2 2 (by omega)
  have hkr : 0 ≤ a 2 c ∧ a 2 c ≤ 3 := H.1.1.1 c c0 c1
  have go : ∀ f : Int, ((a 2 c = 1 ∧ f = 1) ∨ (a 2 c ≠ 1 ∧ f = 0)) → ∃ a', fL_asked_c114 (kc + 2 + 1) y c 1 k C (if a 2 c = 1 then 0 else 100 * nv a C k c) f a1 = some (1, a') ∧ keepA a a' := fun f hf => by
    obtain ⟨a2, f1, f2⟩ := L_c114 (H.keep d2) hn hC k0 k1 c0 c1 y0 y1 (kc := kc + 2 + 1) (by omega) (f := f) (by rw [g2]; exact hf)
    rw [g2, nv_keep d2] at f1
    exact ⟨a2, f1, d2.tr f2⟩
  unfold fL_asked_c76
  rw [mqif _ (by omega), hd.1, hd.2, d1, mqbd, L_c0 (H.keep d2) hn1 c0 c1, mqbd, g2, iL_eq0 (by omega) (by omega) (by omega) (by omega)]
  by_cases hw : a 2 c = 1
  · have g := go 1 (Or.inl ⟨hw, rfl⟩)
    rw [if_pos hw] at g ⊢
    rw [if_pos hw]
    exact g
  · have g := go 0 (Or.inr ⟨hw, rfl⟩)
    rw [if_neg hw] at g ⊢
    rw [if_neg hw]
    exact g
theorem L_c50 {h e s r n : Int} {a : qSt} (H : I h e s r n a) (hn : n ≤ 250000) {c x y : Int} (c0 : 0 ≤ c) (c1 : c < 96) (x0 : 0 ≤ x) (x1 : x ≤ 2147483647) (y0 : 0 ≤ y) (y1 : y ≤ 2147483647) {kc : Nat} (hk : kc ≤ 20) : ∃ a', fL_asked_c50 kc x y c a = some (1, a') ∧ keepA a a' := by
  have h1 := m_qr (x := x) (c := 96) x0 x1 (by omega) (by omega)
  have h2 := m_qr (x := x / 96) (c := 3) (by omega) (by omega) (by omega) (by omega)
  have h3 := m_qr (x := y) (c := 2) y0 y1 (by omega) (by omega)
  unfold fL_asked_c50 fL_asked_c55
  rw [mqb, h1.1, h2.2, h3.2, iI_eq0 (by omega) (by omega)]
  by_cases e9 : y % 2 = 0
  · rw [if_pos e9]
    exact L_c76 H hn (Or.inr rfl) (by omega) (by omega) c0 c1 y0 y1 hk
  · rw [if_neg e9]
    exact L_c76 H hn (Or.inl rfl) (by omega) (by omega) c0 c1 y0 y1 hk
theorem L_asked {h e s r n : Int} {a : qSt} (H : I h e s r n a) (hn : n ≤ 250000) {x y : Int} (x0 : 0 ≤ x) (x1 : x ≤ 2147483647) (y0 : 0 ≤ y) (y1 : y ≤ 2147483647) : ∃ a', fL_asked x y a = some (1, a') ∧ keepA a a' := by
  have hn1 : n ≤ 1000000 := by omega
  have h1 := m_qr (x := x) (c := 96) x0 x1 (by omega) (by omega)
  have h2 := m_qr (x := y) (c := 6) y0 y1 (by omega) (by omega)
  unfold fL_asked
  rw [mqb, mqb, h1.2, h2.2]
  have c0 : 0 ≤ x % 96 := by omega
  have c1 : x % 96 < 96 := by omega
  have k0 : 0 ≤ y % 6 := by omega
  have k1 : y % 6 ≤ 5 := by omega
  generalize x % 96 = c at c0 c1 ⊢
  generalize y % 6 = k at k0 k1 ⊢
  obtain ⟨a1, d1, d2⟩ := s_ahead H c0 c1 k0 k1
  have g2 : a1 2 = a 2 := d2.2.2.2.2.2 2 (by omega)
  have g4 : a1 4 = a 4 := d2.2.2.2.2.2 4 (by omega)
  have H1 := H.keep d2
  have go : ∀ kc : Nat, kc ≤ 20 → ∃ a', fL_asked_c50 kc x y c a1 = some (1, a') ∧ keepA a a' := fun kc hk => by
    obtain ⟨a2, f1, f2⟩ := L_c50 H1 hn c0 c1 x0 x1 y0 y1 hk
    exact ⟨a2, f1, d2.tr f2⟩
  rw [d1, mqbd, s_anew H1 c0 c1 k0 k1, mqbd, g2, g4, lcmp_self, iI_no, iI_0lt (by omega) (by omega)]
  by_cases hk : 0 < k
  · rw [if_pos hk]
    exact go _ (by omega)
  · rw [if_neg hk, L_c2 H1 hn1 c0 c1, mqbd, g4, show k.toNat = 0 by omega]
    show ∃ a', (if qI (qlcmp (a 4 c) (a 4 c)) = 0 then _ else _) = _ ∧ _
    rw [lcmp_self, iI_no]
    exact go _ (by omega)
