/-! ===== STEPS gone and undone; the loop; the end ===== -/
theorem go_11 {L : Nat} {xs : Nat → Int32} {k18 : Nat → Int → Int → Int → qSt → Option Unit} {x6 x7 x8 h e s r n : Int} {kc : Nat} {a : qSt} (H : I h e s r n a) (hn : n ≤ 250000) (hh : h ≤ 450) (he : e ≤ 9000) (hs : s ≤ 4900) (y0 : 0 ≤ x8) (y1 : x8 ≤ 2147483647) (hk : kc + 1600 ≤ 400000) : GO L xs k18 kc x6 x7 x8 h e s r n (fL_law_c924 L xs k18 kc (a 38 3) x6 x7 x8 (a 0 6) a) := by
  have hn1 : n ≤ 1000000 := by omega
  have m1 := m_qr (x := x8) (c := 6) y0 y1 (by omega) (by omega)
  obtain ⟨q1, q2, q3, q4⟩ := H.2.2.2.2.1
  unfold fL_law_c924
  rw [mqif _ (by omega), m1.2, mqb]
  have g0 : 1 ≤ 1 + x8 % 6 := by omega
  have g1 : 1 + x8 % 6 ≤ 6 := by omega
  generalize 1 + x8 % 6 = m at g0 g1 ⊢
  obtain ⟨a1, d1, d2, d3, d4, d5⟩ := s_step H g0 (show m ≤ 200 by omega) (by omega)
  rw [L_mark H (by omega) hn1 (by omega) (by omega), mqbd, L_s0 H hn1 (by omega) (by omega), mqbd, L_s2 H hn1 (by omega) (by omega), mqbd, d1, mqbd, m_i2l (by omega) (by omega), lcmp_self, iI_no, L_s1 d2 hn1 (by omega) (by omega), mqbd]
  rcases d5 with ⟨t1, t2⟩ | t2
  · obtain ⟨b1, b2⟩ := s_back d2 g0 (show m ≤ 200 by omega) (by omega)
    obtain ⟨a2, f1, f2, f3, f4⟩ := b2 (by omega)
    rw [d4, show a 0 5 + m - m = a 0 5 by omega] at f1
    have hob : OB a a2 := undo_all m.toNat a a1 a1 a2 t1 (OB.rf a1) f4
    have H2 := H.ob f2 hob
    obtain ⟨a3, u1, u2, u3, u4, u5⟩ := s_step H2 g0 (show m ≤ 200 by omega) (by omega)
    rw [hob.1] at u1
    have hc : sr (fun c => btc (a1 4 c)) 96 = sr (fun c => btc (a 4 c)) 96 := SF.cnt m.toNat a a1 t1
    rw [t2, lcmp_self, iI_no]
    unfold fL_law_c994 fL_law_c999
    rw [mqif _ (by omega), mqif _ (by omega), L_s1 d2 hn1 (by omega) (by omega), mqbd, t2, iL_le0 (by omega) (by omega) (by omega) (by omega), if_neg (by omega), iI_yes, L_s2 d2 hn1 (by omega) (by omega), mqbd, hc, lcmp_self, iI_no, f1, mqbd, lcmp_self, iI_no, L_mark H2 (by omega) hn1 (by omega) (by omega), mqbd, MK_ob hob, lcmp_self, iI_no, L_s1 H2 hn1 (by omega) (by omega), mqbd, hob.2.1, lcmp_self, iI_no]
    unfold fL_law_c1063
    rw [mqif _ (by omega), iI_yes, u1, mqbd, m_i2l (by omega) (by omega), lcmp_self, iI_no]
    unfold fL_law_c1089 fL_law_c1115
    rw [mqif _ (by omega), mqif _ (by omega)]
    exact ⟨_, _, a3, rfl, by omega, u2.mono (by omega) (by omega) (by omega) (by omega) (by omega), u3.trans (f3.trans d3)⟩
  · obtain ⟨b1, b2⟩ := s_back d2 (m := 1) (by omega) (by omega) (by omega)
    rw [t2, iL_eq0 (by omega) (by omega) (by omega) (by omega), if_neg (by omega), L_s1 d2 hn1 (by omega) (by omega), mqbd, t2, lcmp_self, iI_no]
    unfold fL_law_c994 fL_law_c999
    rw [mqif _ (by omega), mqif _ (by omega), L_s1 d2 hn1 (by omega) (by omega), mqbd, t2, iL_le0 (by omega) (by omega) (by omega) (by omega), if_pos (by omega), iI_yes, b1 (by omega), mqbd, lcmp_self, iI_no]
    unfold fL_law_c1114 fL_law_c1115
    rw [mqif _ (by omega), mqif _ (by omega)]
    exact ⟨_, _, a1, rfl, by omega, d2.mono (by omega) (by omega) (by omega) (by omega) (by omega), d3⟩
theorem go_14 {L : Nat} {xs : Nat → Int32} {k18 : Nat → Int → Int → Int → qSt → Option Unit} {x6 x7 x8 h e s r n : Int} {kc : Nat} {a : qSt} (H : I h e s r n a) (hn : n ≤ 250000) (he : e ≤ 9000) (hs : s ≤ 4900) (y0 : 0 ≤ x8) (y1 : x8 ≤ 2147483647) (hk : kc + 1600 ≤ 400000) : GO L xs k18 kc x6 x7 x8 h e s r n (fL_law_c1118 L xs k18 kc 1 (a 38 3) x6 x7 x8 (a 0 6) a) := by
  have hn1 : n ≤ 1000000 := by omega
  have m1 := m_qr (x := x8) (c := 9) y0 y1 (by omega) (by omega)
  obtain ⟨q1, q2, q3, q4⟩ := H.2.2.2.2.1
  unfold fL_law_c1118
  rw [mqif _ (by omega), iL_le0 (by omega) (by omega) (by omega) (by omega)]
  by_cases e1 : a 0 6 ≤ 0
  · rw [if_pos e1]
    exact ⟨kc, _, a, rfl, by omega, H.more, rfl⟩
  · rw [if_neg e1, m1.2, mqb]
    have g0 : 1 ≤ 1 + x8 % 9 := by omega
    have g1 : 1 + x8 % 9 ≤ 9 := by omega
    generalize 1 + x8 % 9 = m at g0 g1 ⊢
    obtain ⟨b1, b2⟩ := s_back H g0 (show m ≤ 200 by omega) (by omega)
    rw [L_s0 H hn1 (by omega) (by omega), mqbd]
    by_cases e2 : a 0 6 < m
    · rw [b1 e2, mqbd, m_i2l (by omega) (by omega), iL_0lt (by omega) (by omega) (by omega) (by omega), if_pos e2]
      unfold fL_law_c1168 fL_law_c1177
      rw [mqif _ (by omega), lcmp_self, iI_no, mqif _ (by omega)]
      exact ⟨_, _, a, rfl, by omega, H.more, rfl⟩
    · obtain ⟨a', f1, f2, f3, f4⟩ := b2 (by omega)
      rw [f1, mqbd, m_i2l (by omega) (by omega), iL_0lt (by omega) (by omega) (by omega) (by omega), if_neg e2]
      unfold fL_law_c1168 fL_law_c1177
      rw [mqif _ (by omega), lcmp_self, iI_no, mqif _ (by omega)]
      exact ⟨_, _, a', rfl, by omega, f2.mono (by omega) (by omega) (by omega) (by omega) (by omega), f3⟩
theorem go_all {L : Nat} {xs : Nat → Int32} {k18 : Nat → Int → Int → Int → qSt → Option Unit} {x6 x7 x8 x9 c h e s r n : Int} {kc : Nat} {a : qSt} (H : I h e s r n a) (hn : n ≤ 240000) (hh : h ≤ 450) (he : e ≤ 9000) (hs : s ≤ 4900) (hr : r ≤ 100000) (c0 : 0 ≤ c) (c1 : c < 96) (x0 : 0 ≤ x7) (x1 : x7 ≤ 2147483647) (y0 : 0 ≤ x8) (y1 : x8 ≤ 2147483647) (z0 : 0 ≤ x9) (z1 : x9 < 16) (hk : kc + 1600 ≤ 400000) : GO L xs k18 kc x6 x7 x8 h e s r n (fL_law_c92 L xs k18 kc 1 (a 38 3) x6 x7 x8 x9 c (a 0 6) (a 2 c) a) := by
  have hn2 : n ≤ 250000 := by omega
  unfold fL_law_c92
  rw [mqif _ (by omega), iI_eq0 (by omega) (by omega)]
  by_cases e0 : x9 = 0
  · rw [if_pos e0]; exact go_0 H hn2 he hs c0 c1 y0 y1 hk
  rw [if_neg e0, iI_eq (by omega) (by omega) (by omega) (by omega)]
  by_cases e1 : x9 = 1
  · rw [if_pos e1]; exact go_1 H hn2 he hs c0 c1 hk
  rw [if_neg e1, iI_eq (by omega) (by omega) (by omega) (by omega)]
  by_cases e2 : x9 = 2
  · rw [if_pos e2]; exact go_2 H hn2 c0 c1 y0 y1 hk
  rw [if_neg e2, iI_le (by omega) (by omega) (by omega) (by omega)]
  by_cases e3 : 6 ≤ x9
  · rw [if_pos e3, iI_eq (by omega) (by omega) (by omega) (by omega)]
    by_cases e6 : x9 = 6
    · rw [if_pos e6]; exact go_6 H hn2 c0 c1 hk
    rw [if_neg e6, iI_eq (by omega) (by omega) (by omega) (by omega)]
    by_cases e7 : x9 = 7
    · rw [if_pos e7]; exact go_7 H c0 c1 hk
    rw [if_neg e7, iI_eq (by omega) (by omega) (by omega) (by omega)]
    by_cases e8 : x9 = 8
    · rw [if_pos e8]; exact go_8 H hn2 c0 c1 x0 x1 y0 y1 hk
    rw [if_neg e8, iI_eq (by omega) (by omega) (by omega) (by omega)]
    by_cases e9 : x9 = 9
    · rw [if_pos e9]; exact go_9 H hn2 he hs hr y0 y1 hk
    rw [if_neg e9, iI_eq (by omega) (by omega) (by omega) (by omega)]
    by_cases e10 : x9 = 10
    · rw [if_pos e10]; exact go_10 H hh y0 y1 hk
    rw [if_neg e10, iI_le (by omega) (by omega) (by omega) (by omega)]
    by_cases e14 : 14 ≤ x9
    · rw [if_pos e14]; exact go_14 H hn2 he hs y0 y1 hk
    · rw [if_neg e14]; exact go_11 H hn2 hh he hs y0 y1 hk
  · rw [if_neg e3]; exact go_3 H hn2 c0 c1 y0 y1 hk
theorem q_67 {L : Nat} {xs : Nat → Int32} {k18 : Nat → Int → Int → Int → qSt → Option Unit} {i x7 x8 x9 : Int} {kc : Nat} {a : qSt} (i0 : 0 ≤ i) (i1 : i < 48) (H : I (9 * i) (30 * i) (6 * i) (9 * i) (2000 * i) a) (x0 : 0 ≤ x7) (x1 : x7 ≤ 2147483647) (y0 : 0 ≤ x8) (y1 : x8 ≤ 2147483647) (z0 : 0 ≤ x9) (z1 : x9 < 16) (hk : (kc : Int) ≤ 47 + 7000 * i) (hnx : ∀ (kd : Nat) (a' : qSt), (kd : Int) ≤ 47 + 7000 * (i + 1) → I (9 * (i + 1)) (30 * (i + 1)) (6 * (i + 1)) (9 * (i + 1)) (2000 * (i + 1)) a' → k18 kd 1 (a' 38 3) (i + 1) a' = some ()) : fL_law_c67 L xs k18 kc 1 (a 38 3) i x7 x8 x9 a = some () := by
  have m1 := m_qr (x := x8) (c := 96) y0 y1 (by omega) (by omega)
  unfold fL_law_c67
  rw [mqif _ (by omega), m1.2, mqb, L_s1 H (by omega) (by omega) (by omega), mqbd, L_c0 H (by omega) (show 0 ≤ x8 % 96 by omega) (show x8 % 96 < 96 by omega), mqbd]
  obtain ⟨kd, x3, a', e1, e2, e3, e4⟩ := go_all (L := L) (xs := xs) (k18 := k18) (x6 := i) (kc := kc + 1 + 1) H (by omega) (by omega) (by omega) (by omega) (by omega) (show 0 ≤ x8 % 96 by omega) (show x8 % 96 < 96 by omega) x0 x1 y0 y1 z0 z1 (by omega)
  rw [e1]
  refine q_1178 e3 (by omega) (by omega) (by omega) (by omega) i0 (by omega) x0 x1 y0 y1 (by omega) (fun kf a2 hf ha => ?_)
  have h38 : a2 38 3 = x3 := by rw [ha.2.2.2.2.2 38 (by omega)]; exact e4
  rw [← h38]
  exact hnx kf a2 (by omega) ((e3.keep ha).mono (by omega) (by omega) (by omega) (by omega) (by omega))
theorem q_loop {L : Nat} {xs : Nat → Int32} (hL : L ≤ 260) : ∀ (n f : Nat) (i : Int) (kc : Nat) (a : qSt), i + n = 48 → n < f → 0 ≤ i → (kc : Int) ≤ 47 + 7000 * i → I (9 * i) (30 * i) (6 * i) (9 * i) (2000 * i) a → fL_law_c18 L xs f kc 1 (a 38 3) i a = some () := by
  intro n
  induction n with
  | zero =>
    intro f i kc a h1 h2 h3 h4 h5
    obtain ⟨f, rfl⟩ : ∃ f', f = f' + 1 := ⟨f - 1, by omega⟩
    rw [fL_law_c18, mqif _ (by omega), if_pos (by rw [mI_le] <;> omega), mqif _ rfl]
  | succ n ih =>
    intro f i kc a h1 h2 h3 h4 h5
    obtain ⟨f, rfl⟩ : ∃ f', f = f' + 1 := ⟨f - 1, by omega⟩
    obtain ⟨v1, d1, d2, d3⟩ := L_draw L xs (k := 2 * i) (by omega) (by omega) hL
    obtain ⟨v2, f1, f2, f3⟩ := L_draw L xs (k := 2 * i + 1) (by omega) (by omega) hL
    have m1 := m_qr (x := v1) (c := 16) d2 d3 (by omega) (by omega)
    rw [fL_law_c18, mqif _ (by omega), if_neg (by rw [mI_le] <;> omega), iI_yes, d1, Option.bind_some, f1, Option.bind_some, m1.2]
    have go : ∀ x9 : Int, 0 ≤ x9 → x9 < 16 → fL_law_c67 L xs (fL_law_c18 L xs f) kc 1 (a 38 3) i v1 v2 x9 a = some () := fun x9 z0 z1 =>
      q_67 h3 (by omega) h5 d2 d3 f2 f3 z0 z1 h4 (fun kd a' hd ha => ih f (i + 1) kd a' (by omega) (by omega) (by omega) hd ha)
    by_cases e6 : qI 6 ≤ qI i
    · rw [if_pos e6]; exact go _ (by omega) (by omega)
    · rw [if_neg e6]; exact go _ (by omega) (by omega)
theorem I_start {σ : qSt} (h : ∀ k, k ≠ 3 → k ≠ 16 → σ k = fun _ => 0) (h3 : ∀ x, σ 3 x = if 0 ≤ x ∧ x < 96 then -1 else 0) : I 0 0 0 0 0 σ := by
  have z : ∀ k, k ≠ 3 → k ≠ 16 → ∀ j, σ k j = 0 := fun k k0 k1 j => by rw [h k k0 k1]
  have hgs : ∀ u, gs u (σ 4) = 0 := fun u => sr_zero fun x _ _ => by
    rw [z 4 (by omega) (by omega), bt_0, bt_0]; rfl
  have hla : ∀ u, LA 1 σ u = 0 := fun u => by
    show (σ 11 u - σ 11 (u + 2)) - gs u (σ 4) - (σ 12 u - σ 12 (u + 2)) - 2 * (σ 13 u - σ 13 (u + 2)) = 0
    rw [hgs, z 11 (by omega) (by omega), z 11 (by omega) (by omega), z 12 (by omega) (by omega), z 12 (by omega) (by omega), z 13 (by omega) (by omega), z 13 (by omega) (by omega)]
    rfl
  have hsm : sm (rq σ) 384 = 0 := by
    rw [sm_congr' (f := rq σ) (g := fun _ _ => 0) (fun c w _ _ _ _ => z (30 + w.toNat) (by omega) (by omega) _)]
    have : ∀ m : Nat, sm (fun _ _ => 0) m = 0 := fun m => by
      induction m with
      | zero => rfl
      | succ m ih => show sm _ m + 0 = 0; rw [ih]; rfl
    exact this 384
  refine ⟨⟨⟨fun c c0 c1 => ?_, fun c c0 c1 => ?_, fun c c0 c1 => ?_, fun c c0 c1 => ?_, fun c c0 c1 _ => ?_, fun c w c0 c1 w0 w1 => ?_⟩, fun c c0 c1 hc => ?_⟩, ⟨fun c w c0 c1 w0 w1 => ⟨?_, fun _ => ?_, ?_⟩, ?_, ?_⟩, fun k k0 k1 => ⟨?_, ?_, ?_⟩, ⟨?_, fun w w0 w1 => ?_, hla 0, hla 1⟩, ?_, fun k k0 k1 => ?_, ?_⟩
  · show 0 ≤ σ 2 c ∧ σ 2 c ≤ 3
    rw [z 2 (by omega) (by omega)]; omega
  · show -1 ≤ σ 3 c ∧ σ 3 c ≤ 3
    rw [h3, if_pos ⟨c0, c1⟩]; omega
  · show 0 ≤ σ 4 c ∧ σ 4 c ≤ 15
    rw [z 4 (by omega) (by omega)]; omega
  · show 0 ≤ σ 5 c ∧ σ 5 c ≤ 15
    rw [z 5 (by omega) (by omega)]; omega
  · exact z 4 (by omega) (by omega) c
  · show bt (σ 5 c) w ≤ bt (σ 4 c) w
    rw [z 5 (by omega) (by omega), z 4 (by omega) (by omega)]; omega
  · rw [h3, if_pos ⟨c0, c1⟩] at hc; exact absurd rfl hc
  · rw [z (30 + w.toNat) (by omega) (by omega)]; omega
  · exact z (30 + w.toNat) (by omega) (by omega) _
  · exact z (34 + w.toNat) (by omega) (by omega) _
  · rw [hsm]; exact z 27 (by omega) (by omega) _
  · rw [z 27 (by omega) (by omega)]; omega
  · rw [z 8 (by omega) (by omega)]; omega
  · rw [z 9 (by omega) (by omega)]; omega
  · rw [z 10 (by omega) (by omega)]; omega
  · rw [z 1 (by omega) (by omega)]; omega
  · rw [z 11 (by omega) (by omega), z 12 (by omega) (by omega), z 13 (by omega) (by omega)]; omega
  · unfold IS
    rw [z 0 (by omega) (by omega), z 0 (by omega) (by omega), z 38 (by omega) (by omega)]
    refine ⟨by omega, by omega, by omega, fun k k0 k1 => ?_⟩
    rw [z 40 (by omega) (by omega)]
    exact ⟨by omega, fun hk => by omega, fun _ => rfl⟩
  · rw [z 46 (by omega) (by omega)]; omega
  · unfold IR
    rw [z 27 (by omega) (by omega)]; omega
/-- THE MATHEMATICS: on every script the law comes to its end, and says true -/
theorem law_holds {L : Nat} {xs : Nat → Int32} (hL : L ≤ 260) : fL_law L xs = some () := by
  unfold fL_law fL_law8
  have z0 : ∀ k, (fun _ _ => 0 : qSt) k = fun _ => 0 := fun _ => rfl
  generalize (fun _ _ => 0 : qSt) = Z at z0 ⊢
  obtain ⟨s1, e1, f1, g1⟩ := m_X5init (σ := Z) (fun k _ => z0 k)
  have z1 : ∀ k, k ≠ 3 → k ≠ 16 → s1 k = fun _ => 0 := fun k k0 k1 => by rw [f1 k k0 k1]; exact z0 k
  rw [mqb, qrow_zero (z0 0), e1, mqbd]
  have h := q_loop (xs := xs) hL 48 qFU 0 47 s1 (by omega) (by unfold qFU; omega) (by omega) (by omega) (I_start z1 g1)
  rw [show s1 38 3 = 0 by rw [z1 38 (by omega) (by omega)]] at h
  exact h
