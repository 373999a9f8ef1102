theorem m_d4 {i : Int} (i0 : 0 ≤ i) (i1 : i < 384) : qdiv i 4 = i / 4 ∧ qrem i 4 = i % 4 := by
  have h : ∃ n : Fin 384, i = (n.val : Int) := ⟨⟨i.toNat, by omega⟩, by show i = (i.toNat : Int); omega⟩
  obtain ⟨n, rfl⟩ := h
  exact (by decide +kernel : ∀ n : Fin 384, qdiv (n.val : Int) 4 = (n.val : Int) / 4 ∧ qrem (n.val : Int) 4 = (n.val : Int) % 4) n
/-- the reference's meeting -/
theorem m_meet122 {b : qSt} {c f n : Int} (c0 : 0 ≤ c) (c1 : c < 96) (hf : f = 0 ∨ f = 1) : ∃ b', fX6_meet_c122 (4 * c) f n b = some (0, b') ∧ (∀ k, k ≠ 56 → b' k = b k) ∧ ∀ j, b' 56 j = if j = 4 * c + f ∨ j = 4 * c + f + 2 then b 56 j - n else if j = 4 * c + 1 - f ∨ j = 4 * c + 3 - f then b 56 j + n else b 56 j := by
  have g1 : 0 ≤ 4 * c + f ∧ 4 * c + f < 384 := by omega
  have g2 : 0 ≤ 4 * c + f + 2 ∧ 4 * c + f + 2 < 384 := by omega
  have g3 : 0 ≤ 4 * c + 1 - f ∧ 4 * c + 1 - f < 384 := by omega
  have g4 : 0 ≤ 4 * c + 3 - f ∧ 4 * c + 3 - f < 384 := by omega
  unfold fX6_meet_c122
  simp only [if_pos g1, if_pos g2, if_pos g3, if_pos g4, mqb]
  refine ⟨_, rfl, fun k hk => by rw [mset_ne hk, mset_ne hk, mset_ne hk, mset_ne hk], fun j => ?_⟩
  simp only [mset_same]
  by_cases h1 : j = 4 * c + f
  · subst h1
    rw [if_neg (by omega), if_neg (by omega), if_neg (by omega), if_pos rfl, if_pos (Or.inl rfl)]
  by_cases h2 : j = 4 * c + f + 2
  · subst h2
    rw [if_neg (by omega), if_neg (by omega), if_pos rfl, if_pos (Or.inr rfl), if_neg (by omega)]
  by_cases h3 : j = 4 * c + 1 - f
  · subst h3
    rw [if_neg (by omega), if_pos rfl, if_neg (by omega), if_neg (by omega), if_neg (by omega), if_pos (Or.inl rfl)]
  by_cases h4 : j = 4 * c + 3 - f
  · subst h4
    rw [if_pos rfl, if_neg (by omega), if_neg (by omega), if_neg (by omega), if_neg (by omega), if_pos (Or.inr rfl)]
  rw [if_neg h4, if_neg h3, if_neg h2, if_neg h1, if_neg (by omega), if_neg (by omega)]
theorem m_meet {b : qSt} {c : Int} (c0 : 0 ≤ c) (c1 : c < 96) (hr : ∀ w, 0 ≤ w → w < 4 → 0 ≤ cq (b 56) c w ∧ cq (b 56) c w ≤ 1000000) : ∃ b', fX6_meet (4 * c) b = some (0, b') ∧ (∀ k, k ≠ 56 → b' k = b k) ∧ ∀ x w, 0 ≤ w → w < 4 → b' 56 (4 * x + w) = if x = c then ev (cq (b 56)) c w else b 56 (4 * x + w) := by
  have a0 : 0 ≤ b 56 (4 * c) ∧ b 56 (4 * c) ≤ 1000000 := by have := hr 0 (by omega) (by omega); unfold cq at this; rw [show 4 * c + 0 = 4 * c by omega] at this; exact this
  have a1 : 0 ≤ b 56 (4 * c + 1) ∧ b 56 (4 * c + 1) ≤ 1000000 := hr 1 (by omega) (by omega)
  have a2 : 0 ≤ b 56 (4 * c + 2) ∧ b 56 (4 * c + 2) ≤ 1000000 := hr 2 (by omega) (by omega)
  have a3 : 0 ≤ b 56 (4 * c + 3) ∧ b 56 (4 * c + 3) ≤ 1000000 := hr 3 (by omega) (by omega)
  have he := ev_e a0.1 a0.2 a1.1 a1.2 a2.1 a2.2 a3.1 a3.2
  have hs : evs (cq (b 56)) c = evx (b 56 (4 * c)) (b 56 (4 * c + 1)) (b 56 (4 * c + 2)) (b 56 (4 * c + 3)) := by unfold evs cq; rw [show 4 * c + 0 = 4 * c by omega]
  have fin : ∀ f n : Int, (f = 0 ∧ n = evs (cq (b 56)) c) ∨ (f = 1 ∧ n = -(evs (cq (b 56)) c)) → ∃ b', fX6_meet_c122 (4 * c) f n b = some (0, b') ∧ (∀ k, k ≠ 56 → b' k = b k) ∧ ∀ x w, 0 ≤ w → w < 4 → b' 56 (4 * x + w) = if x = c then ev (cq (b 56)) c w else b 56 (4 * x + w) := fun f n hfn => by
    obtain ⟨b', e1, e2, e3⟩ := m_meet122 (b := b) (n := n) c0 c1 (hfn.elim (fun z => Or.inl z.1) (fun z => Or.inr z.1))
    refine ⟨b', e1, e2, fun x w w0 w1 => ?_⟩
    rw [e3]
    by_cases ex : x = c
    · subst ex
      rw [if_pos rfl]
      unfold ev
      show _ = if w = 0 ∨ w = 2 then b 56 (4 * x + w) - evs (cq (b 56)) x else b 56 (4 * x + w) + evs (cq (b 56)) x
      rcases hfn with ⟨rfl, rfl⟩ | ⟨rfl, rfl⟩
      · by_cases hw : w = 0 ∨ w = 2
        · rw [if_pos (by omega), if_pos hw]
        · rw [if_neg (by omega), if_pos (by omega), if_neg hw]
      · by_cases hw : w = 0 ∨ w = 2
        · rw [if_neg (by omega), if_pos (by omega), if_pos hw]; omega
        · rw [if_pos (by omega), if_neg hw]; omega
    · rw [if_neg ex, if_neg (by omega), if_neg (by omega)]
  have g0 : 0 ≤ 4 * c ∧ 4 * c < 384 := by omega
  have g1 : 0 ≤ 4 * c + 1 ∧ 4 * c + 1 < 384 := by omega
  have g2 : 0 ≤ 4 * c + 2 ∧ 4 * c + 2 < 384 := by omega
  have g3 : 0 ≤ 4 * c + 3 ∧ 4 * c + 3 < 384 := by omega
  unfold fX6_meet fX6_meet_c51
  simp only [if_pos g0, if_pos g1, if_pos g2, if_pos g3, mqb]
  unfold evx at hs
  generalize hee : qdiv (b 56 (4 * c) + b 56 (4 * c + 2) - (b 56 (4 * c + 1) + b 56 (4 * c + 3))) 4 = e at he hs ⊢
  rw [iI_le0 (by omega) (by omega)]
  -- the least of the two, and of it and the size
  have mid : ∀ f s p r : Int, (f = 0 ∨ f = 1) → 0 ≤ s → s ≤ 2000000 → b 56 (4 * c + f) = p → b 56 (4 * c + f + 2) = r → 0 ≤ p → p ≤ 1000000 → 0 ≤ r → r ≤ 1000000 → fX6_meet_c66 (4 * c) f s b = fX6_meet_c122 (4 * c) f (mn2 s (mn2 p r)) b := fun f s p r hf s0 s1 hp hr' p0 p1 r0 r1 => by
    unfold fX6_meet_c66 fX6_meet_c106
    rw [if_pos (show 0 ≤ 4 * c + f ∧ 4 * c + f < 384 by omega), mqb, if_pos (show 0 ≤ 4 * c + f + 2 ∧ 4 * c + f + 2 < 384 by omega), mqb, hp, hr', iI_le (by omega) (by omega) (by omega) (by omega), iI_le (by omega) (by omega) (by omega) (by omega), iI_le (by omega) (by omega) (by omega) (by omega)]
    unfold mn2
    by_cases h1 : r ≤ p
    · rw [if_pos h1]
      by_cases h2 : r < p
      · rw [if_pos h2]
        by_cases h3 : r ≤ s
        · rw [if_pos h3]
          by_cases h4 : r < s
          · rw [if_pos h4]
          · rw [if_neg h4, show s = r by omega]
        · rw [if_neg h3, if_neg (by omega)]
      · rw [if_neg h2, show p = r by omega]
        by_cases h3 : r ≤ s
        · rw [if_pos h3]
          by_cases h4 : r < s
          · rw [if_pos h4]
          · rw [if_neg h4, show s = r by omega]
        · rw [if_neg h3, if_neg (by omega)]
    · rw [if_neg h1, if_neg (show ¬ r < p by omega)]
      by_cases h3 : p ≤ s
      · rw [if_pos h3]
        by_cases h4 : p < s
        · rw [if_pos h4]
        · rw [if_neg h4, show s = p by omega]
      · rw [if_neg h3, if_neg (by omega)]
  by_cases h1 : e ≤ 0
  · rw [if_pos h1] at hs
    rw [if_pos h1, iI_le0 (by omega) (by omega), if_pos h1, mid 1 (-e) (b 56 (4 * c + 1)) (b 56 (4 * c + 3)) (Or.inr rfl) (by omega) (by omega) rfl (by rw [show 4 * c + 1 + 2 = 4 * c + 3 by omega]) a1.1 a1.2 a3.1 a3.2]
    refine fin 1 _ (Or.inr ⟨rfl, ?_⟩)
    rw [hs]
    by_cases h2 : 0 ≤ e
    · rw [if_pos h2]
      unfold mn2
      repeat' split
      all_goals omega
    · rw [if_neg h2]; omega
  · rw [if_neg h1] at hs
    rw [if_neg h1, iI_le0 (by omega) (by omega), if_neg h1, mid 0 e (b 56 (4 * c)) (b 56 (4 * c + 2)) (Or.inl rfl) (by omega) (by omega) (by rw [show 4 * c + 0 = 4 * c by omega]) (by rw [show 4 * c + 0 + 2 = 4 * c + 2 by omega]) a0.1 a0.2 a2.1 a2.2]
    exact fin 0 _ (Or.inl ⟨rfl, hs.symm⟩)
theorem m_roundM {b : qSt} (k26 : Int → Int → qSt → Option (Int × qSt)) (x1 x2 : Int) (hk : KR (b 48)) (hr : CR (cq (b 56))) (hz : ∀ c v, 0 ≤ c → c < 96 → 0 ≤ v → v < 4 → b 48 c = 1 → cq (b 56) c v = 0) : ∃ b', fX6_flow_c33 k26 qFU x1 x2 0 b = k26 x1 (x2 + 1) b' ∧ (∀ k, k ≠ 56 → k ≠ 57 → b' k = b k) ∧ ∀ x v, 0 ≤ x → x < 96 → 0 ≤ v → v < 4 → b' 56 (4 * x + v) = gq (b 48) (ev (cq (b 56))) x v := by
  -- meeting
  obtain ⟨s1, e1, f1, g1⟩ := mloop (P := fun i t => (∀ k, k ≠ 56 → t k = b k) ∧ ∀ x w, 0 ≤ w → w < 4 → t 56 (4 * x + w) = if 0 ≤ x ∧ x < i then ev (cq (b 56)) x w else b 56 (4 * x + w)) (F := fun f i t => fX6_flow_c33 k26 f x1 x2 i t) (R := fun t => fX6_flow_c54 k26 qFU x1 x2 0 t) 96 (by omega) (by omega) (fun f t _ => by
    show fX6_flow_c33 k26 (f + 1) x1 x2 96 t = _
    rw [fX6_flow_c33, if_pos (by rw [mI_le] <;> omega)]) (fun f i t i0 i1 hP => by
    obtain ⟨fr, hv⟩ := hP
    have hsame : ∀ w, 0 ≤ w → w < 4 → cq (t 56) i w = cq (b 56) i w := fun w w0 w1 => by
      show t 56 (4 * i + w) = _
      rw [hv i w w0 w1, if_neg (by omega)]; rfl
    obtain ⟨t', d1, d2, d3⟩ := m_meet (b := t) i0 i1 (fun w w0 w1 => by rw [hsame w w0 w1]; exact hr i w i0 i1 w0 w1)
    show ∃ s1, fX6_flow_c33 k26 (f + 1) x1 x2 i t = fX6_flow_c33 k26 f x1 x2 (i + 1) s1 ∧ _
    rw [fX6_flow_c33, if_neg (by rw [mI_le] <;> omega), d1, mqbd]
    refine ⟨t', rfl, fun k hk => by rw [d2 k hk]; exact fr k hk, fun x w w0 w1 => ?_⟩
    rw [d3 x w w0 w1, hv x w w0 w1]
    by_cases ex : x = i
    · rw [if_pos ex, if_pos (by omega), ex]
      exact ev_congr hsame w0 w1
    · rw [if_neg ex]
      by_cases e2 : 0 ≤ x ∧ x < i
      · rw [if_pos e2, if_pos (by omega)]
      · rw [if_neg e2, if_neg (by omega)]) (s := b) ⟨fun _ _ => rfl, fun x w _ _ => by rw [if_neg (by omega)]⟩
  have e1 : fX6_flow_c33 k26 qFU x1 x2 0 b = fX6_flow_c54 k26 qFU x1 x2 0 s1 := e1
  rw [e1]
  have hzq : ∀ c v, 0 ≤ c → c < 96 → 0 ≤ v → v < 4 → b 48 c = 1 → ev (cq (b 56)) c v = 0 := fun c v c0 c1 v0 v1 z => ev_wall (fun w w0 w1 => hz c w c0 c1 w0 w1 z) v0 v1
  -- nothing yet
  obtain ⟨s2, e2, f2, g2⟩ := mloop (P := fun i t => (∀ k, k ≠ 57 → t k = s1 k) ∧ ∀ j, 0 ≤ j → j < i → t 57 j = 0) (F := fun f i t => fX6_flow_c54 k26 f x1 x2 i t) (R := fun t => fX6_flow_c76 k26 qFU x1 x2 0 t) 384 (by omega) (by omega) (fun f t _ => by
    show fX6_flow_c54 k26 (f + 1) x1 x2 384 t = _
    rw [fX6_flow_c54, if_pos (by rw [mI_le] <;> omega)]) (fun f i t i0 i1 hP => by
    obtain ⟨fr, hv⟩ := hP
    show ∃ s1, fX6_flow_c54 k26 (f + 1) x1 x2 i t = fX6_flow_c54 k26 f x1 x2 (i + 1) s1 ∧ _
    rw [fX6_flow_c54, if_neg (by rw [mI_le] <;> omega), if_pos ⟨i0, i1⟩, mqb]
    refine ⟨_, rfl, fun k hk => by rw [mset_ne hk]; exact fr k hk, fun j j0 j1 => ?_⟩
    rw [mset_same]
    show (if j = i then 0 else t 57 j) = 0
    by_cases e : j = i
    · rw [if_pos e]
    · rw [if_neg e]; exact hv j j0 (by omega)) (s := s1) ⟨fun _ _ => rfl, fun j j0 j1 => by omega⟩
  have e2 : fX6_flow_c54 k26 qFU x1 x2 0 s1 = fX6_flow_c76 k26 qFU x1 x2 0 s2 := e2
  rw [e2]
  have q48 : s2 48 = b 48 := by rw [f2 48 (by omega), f1 48 (by omega)]
  -- moving
  obtain ⟨s3, e3, f3, g3⟩ := mloop (P := fun i t => (∀ k, k ≠ 57 → t k = s2 k) ∧ ∀ x v, 0 ≤ x → x < 96 → 0 ≤ v → v < 4 → t 57 (4 * x + v) = gv (b 48) (ev (cq (b 56))) ix1 i x v) (F := fun f i t => fX6_flow_c76 k26 f x1 x2 i t) (R := fun t => fX6_flow_c152 k26 qFU x1 x2 0 t) 384 (by omega) (by omega) (fun f t _ => by
    show fX6_flow_c76 k26 (f + 1) x1 x2 384 t = _
    rw [fX6_flow_c76, if_pos (by rw [mI_le] <;> omega)]) (fun f i t i0 i1 hP => by
    obtain ⟨fr, hv⟩ := hP
    obtain ⟨d1, d2⟩ := m_d4 i0 i1
    have c0 : 0 ≤ i / 4 := by omega
    have c1 : i / 4 < 96 := by omega
    have w0 : 0 ≤ i % 4 := by omega
    have w1 : i % 4 < 4 := by omega
    have hi : ix1 (i / 4) (i % 4) = i := by unfold ix1; omega
    have hbr := bs_r c0 c1 (w := i % 4)
    have ho := op_r w0 w1
    have t48 : t 48 = b 48 := by rw [fr 48 (by omega), q48]
    have t56 : t 56 i = ev (cq (b 56)) (i / 4) (i % 4) := by
      rw [fr 56 (by omega), f2 56 (by omega)]
      have := g1 (i / 4) (i % 4) w0 w1
      rw [show 4 * (i / 4) + i % 4 = i by omega, if_pos ⟨c0, c1⟩] at this
      exact this
    show ∃ s1, fX6_flow_c76 k26 (f + 1) x1 x2 i t = fX6_flow_c76 k26 f x1 x2 (i + 1) s1 ∧ _
    have fin : ∀ J : Int, J = 4 * dC (b 48) (i / 4) (i % 4) + dW (b 48) (i / 4) (i % 4) → ∃ s1, fX6_flow_c126 k26 (fX6_flow_c76 k26 f) x1 x2 i J t = fX6_flow_c76 k26 f x1 x2 (i + 1) s1 ∧ (∀ k, k ≠ 57 → s1 k = s2 k) ∧ ∀ x v, 0 ≤ x → x < 96 → 0 ≤ v → v < 4 → s1 57 (4 * x + v) = gv (b 48) (ev (cq (b 56))) ix1 (i + 1) x v := fun J hJ => by
      have hd := dC_r c0 c1 (kd := b 48) (w := i % 4)
      have hw := dW_r w0 w1 (kd := b 48) (c := i / 4)
      unfold fX6_flow_c126
      rw [if_pos (show 0 ≤ J ∧ J < 384 by omega), if_pos (show 0 ≤ i ∧ i < 384 from ⟨i0, i1⟩), if_pos (show 0 ≤ J ∧ J < 384 by omega), mqb]
      refine ⟨_, rfl, fun k hk => by rw [mset_ne hk]; exact fr k hk, fun x v xx0 xx1 v0 v1 => ?_⟩
      rw [mset_same]
      show (if 4 * x + v = J then _ else _) = _
      rw [gv_step ix1_ok c0 c1 w0 w1 hi (fun z => hzq _ _ c0 c1 w0 w1 z) xx0 xx1 v0 v1, ← hv x v xx0 xx1 v0 v1, t56]
      by_cases e : x = dC (b 48) (i / 4) (i % 4) ∧ v = dW (b 48) (i / 4) (i % 4)
      · rw [if_pos e, if_pos (by rw [e.1, e.2]; exact hJ.symm), hJ, ← e.1, ← e.2]
      · rw [if_neg e, if_neg (fun z => e (by omega))]; omega
    rw [fX6_flow_c76, if_neg (by rw [mI_le] <;> omega), d1, d2, m_besideM c0 c1 w0 w1, Option.bind_some, m_blocks (by omega) (by omega) (by rw [t48]; exact hk), Option.bind_some, t48]
    by_cases hsh : shut (b 48) (bs (i / 4) (i % 4))
    · rw [if_pos hsh, iI_yes]
      unfold fX6_opposite
      rw [show (some (qrem (i % 4 + 2) 4) : Option Int) = some (op (i % 4)) by rw [m_oppM w0 w1], Option.bind_some]
      exact fin _ (by unfold dC dW; rw [if_pos hsh, if_pos hsh]; omega)
    · rw [if_neg hsh, iI_no]
      exact fin _ (by unfold dC dW; rw [if_neg hsh, if_neg hsh])) (s := s2) ⟨fun _ _ => rfl, fun x v x0 x1 v0 v1 => by rw [g2 _ (by omega) (by omega), gv_0 ix1_ok x0 x1 v0 v1]⟩
  have e3 : fX6_flow_c76 k26 qFU x1 x2 0 s2 = fX6_flow_c152 k26 qFU x1 x2 0 s3 := e3
  rw [e3]
  -- back into the row
  obtain ⟨s4, e4, f4, g4⟩ := mloop (P := fun i t => (∀ k, k ≠ 56 → t k = s3 k) ∧ ∀ j, 0 ≤ j → j < i → t 56 j = s3 57 j) (F := fun f i t => fX6_flow_c152 k26 f x1 x2 i t) (R := fun t => k26 x1 (x2 + 1) t) 384 (by omega) (by omega) (fun f t _ => by
    show fX6_flow_c152 k26 (f + 1) x1 x2 384 t = _
    rw [fX6_flow_c152, if_pos (by rw [mI_le] <;> omega)]) (fun f i t i0 i1 hP => by
    obtain ⟨fr, hv⟩ := hP
    show ∃ s1, fX6_flow_c152 k26 (f + 1) x1 x2 i t = fX6_flow_c152 k26 f x1 x2 (i + 1) s1 ∧ _
    rw [fX6_flow_c152, if_neg (by rw [mI_le] <;> omega), if_pos ⟨i0, i1⟩, if_pos ⟨i0, i1⟩, mqb]
    refine ⟨_, rfl, fun k hk => by rw [mset_ne hk]; exact fr k hk, fun j j0 j1 => ?_⟩
    rw [mset_same]
    show (if j = i then _ else t 56 j) = _
    by_cases e : j = i
    · rw [if_pos e, e, fr 57 (by omega)]
    · rw [if_neg e]; exact hv j j0 (by omega)) (s := s3) ⟨fun _ _ => rfl, fun j j0 j1 => by omega⟩
  refine ⟨s4, e4, fun k k6 k7 => by rw [f4 k k6, f3 k k7, f2 k k7, f1 k k6], fun x v x0 x1 v0 v1 => ?_⟩
  rw [g4 _ (by omega) (by omega), g3 x v x0 x1 v0 v1]
  exact gv_N ix1_ok x0 x1 v0 v1
theorem round_two {a b : qSt} (h : JC a b) (hk : KR (a 2)) (e2 : a 2 = b 48) (k26 : Int → Int → qSt → Option (Int × qSt)) (x1 i : Int) : ∃ a1 b1, fX0_passRound a = some (0, a1) ∧ fX6_flow_c33 k26 qFU x1 i 0 b = k26 x1 (i + 1) b1 ∧ JC a1 b1 ∧ (∀ k, k ≠ 27 → (k < 30 ∨ 37 < k) → a1 k = a k) ∧ (∀ j, a1 27 j = if j = 3 then a 27 3 + 1 else a 27 j) ∧ ∀ k, k ≠ 56 → k ≠ 57 → b1 k = b k := by
  have hcr : ∀ c w, 0 ≤ c → c < 96 → 0 ≤ w → w < 4 → rq a c w = cq (b 56) c w := fun c w c0 c1 w0 w1 => (h.1 c w c0 c1 w0 w1).1
  have hR : CR (cq (b 56)) := fun c w c0 c1 w0 w1 => cnt_r h c0 c1 w0 w1
  have hzb : ∀ c v, 0 ≤ c → c < 96 → 0 ≤ v → v < 4 → b 48 c = 1 → cq (b 56) c v = 0 := fun c v c0 c1 v0 v1 z => (h.1 c v c0 c1 v0 v1).2.2.1 (by rw [e2]; exact z)
  obtain ⟨a1, d1, d2, d3, d4⟩ := m_passRound (a := a) hk (fun c w c0 c1 w0 w1 => by rw [hcr c w c0 c1 w0 w1]; exact hR c w c0 c1 w0 w1) (fun c v c0 c1 v0 v1 z => by rw [hcr c v c0 c1 v0 v1]; exact hzb c v c0 c1 v0 v1 (by rw [← e2]; exact z)) (fun c v c0 c1 v0 v1 => (h.1 c v c0 c1 v0 v1).2.2.2)
  obtain ⟨b1, m1, m2, m3⟩ := m_roundM (b := b) k26 x1 i (by rw [← e2]; exact hk) hR hzb
  have hzq : ∀ c v, 0 ≤ c → c < 96 → 0 ≤ v → v < 4 → b 48 c = 1 → ev (cq (b 56)) c v = 0 := fun c v c0 c1 v0 v1 z => ev_wall (fun w w0 w1 => hzb c w c0 c1 w0 w1 z) v0 v1
  refine ⟨a1, b1, d1, m1, ⟨fun c w c0 c1 w0 w1 => ?_, ?_, ?_⟩, d2, d3, m2⟩
  · obtain ⟨y1, y2⟩ := d4 c w c0 c1 w0 w1
    have hc := sC_r c0 c1 (kd := b 48) (w := w)
    have hw := sW_r w0 w1 (kd := b 48) (c := c)
    rw [y1, m3 c w c0 c1 w0 w1, e2]
    refine ⟨gq_congr (fun x v x0 x1 v0 v1 => ev_congr (fun w w0 w1 => hcr x w x0 x1 w0 w1) v0 v1) c0 c1 w0 w1, ?_, fun z => ?_, y2⟩
    · unfold gq
      split
      · omega
      · exact ev_0 (fun w w0 w1 => (hR _ w hc.1 hc.2 w0 w1).1) hw.1 hw.2
    · rw [d2 2 (by omega) (by omega), e2] at z
      unfold gq
      rw [if_pos z]
  · rw [d3, if_neg (by omega), h.2.1, sm_congr' (f := cq (b1 56)) (g := gq (b 48) (ev (cq (b 56)))) (fun c w c0 c1 w0 w1 => m3 c w c0 c1 w0 w1), sm_gq hzq, sm_ev]
  · rw [d3, if_neg (by omega)]; exact h.2.2
theorem flow_loop {N : Int} (hN0 : 0 ≤ N) (hN : N ≤ 100) : ∀ (n f : Nat) (i : Int) (a b : qSt), i + n = N → n < f → 0 ≤ i → JC a b → KR (a 2) → a 2 = b 48 → ∃ a' b', fX5_flow_c20 f N i a = some (0, a' 27 3, a') ∧ fX6_flow_c26 f N i b = some (b' 47 18, b') ∧ JC a' b' ∧ (∀ k, k ≠ 27 → (k < 30 ∨ 37 < k) → a' k = a k) ∧ (∀ j, a' 27 j = if j = 3 then a 27 3 + n else a 27 j) ∧ (∀ k, k ≠ 47 → k ≠ 56 → k ≠ 57 → b' k = b k) ∧ ∀ j, b' 47 j = if j = 18 then b 47 18 + N else b 47 j := by
  intro n
  induction n with
  | zero =>
    intro f i a b h1 h2 h3 h4 h5 h6
    obtain ⟨f, rfl⟩ : ∃ f', f = f' + 1 := ⟨f - 1, by omega⟩
    have e : i = N := by omega
    refine ⟨a, qset b 47 18 (b 47 18 + qi2l N), ?_, ?_, h4.fr rfl (fun _ _ _ => rfl) rfl (mset_ne (by omega)), fun _ _ _ => rfl, fun j => ?_, fun k k0 _ _ => mset_ne k0, fun j => ?_⟩
    · rw [fX5_flow_c20, if_pos (by rw [mI_le] <;> omega)]
    · rw [fX6_flow_c26, if_pos (by rw [mI_le] <;> omega), mqb]
    · by_cases e : j = 3
      · rw [if_pos e, e]; show _ = _ + 0; omega
      · rw [if_neg e]
    · rw [mset_same, m_i2l (by omega) (by omega)]
  | succ n ih =>
    intro f i a b h1 h2 h3 h4 h5 h6
    obtain ⟨f, rfl⟩ : ∃ f', f = f' + 1 := ⟨f - 1, by omega⟩
    obtain ⟨a1, b1, e1, e2, k1, k2, k3, k4⟩ := round_two h4 h5 h6 (fX6_flow_c26 f) N i
    have q2 : a1 2 = a 2 := k2 2 (by omega) (by omega)
    obtain ⟨a2, b2, d1, d2, d3, d4, d5, d6, d7⟩ := ih f (i + 1) a1 b1 (by omega) (by omega) (by omega) k1 (by rw [q2]; exact h5) (by rw [q2, k4 48 (by omega) (by omega)]; exact h6)
    refine ⟨a2, b2, ?_, ?_, d3, fun k k0 k1 => by rw [d4 k k0 k1, k2 k k0 k1], fun j => ?_, fun k k0 k1 k2 => by rw [d6 k k0 k1 k2, k4 k k1 k2], fun j => ?_⟩
    · rw [fX5_flow_c20, if_neg (by rw [mI_le] <;> omega), e1]; exact d1
    · rw [fX6_flow_c26, if_neg (by rw [mI_le] <;> omega), e2]; exact d2
    · rw [d5, k3, k3, if_pos rfl]
      by_cases e : j = 3
      · rw [if_pos e, if_pos e]; omega
      · rw [if_neg e, if_neg e, if_neg e]
    · rw [d7, k4 47 (by omega) (by omega)]
theorem p_flow {t : Int} {a b : qSt} (h : J t a b) {c : Int} (hc : isI c) : PQ [(0, 0), (2, 1)] t a b (fX5_flow c a) (fX6_flow c b) := by
  obtain ⟨j1, j2, j3, j4, j5, j6, j7⟩ := id h
  unfold fX5_flow fX6_flow fX6_flow_c16
  by_cases hcc : 1 ≤ c ∧ c ≤ 100
  · rw [outs0 (by omega) (by omega) hcc.1 hcc.2, with1 (by omega) (by omega) hcc.1 hcc.2, Option.bind_some, Option.bind_some, iI_no, iI_yes, ref_ok]
    have z56 : qset b 47 0 0 56 = b 56 := mset_ne (by omega)
    have z48 : qset b 47 0 0 48 = b 48 := mset_ne (by omega)
    obtain ⟨a', b', e1, e2, e3, e4, e5, e6, e7⟩ := flow_loop (by omega) hcc.2 c.toNat qFU 0 a (qset b 47 0 0) (by omega) (by unfold qFU; omega) (by omega) (j2.fr rfl (fun _ _ _ => rfl) rfl z56) j1.2.2.2.2.1.1 (by rw [z48]; exact j1.1)
    rw [e1, e2]
    have w47 : ∀ j, j ≠ 0 → j ≠ 18 → b' 47 j = b 47 j := fun j j0 j18 => by rw [e7, if_neg j18, mset_same]; exact if_neg j0
    have w18 : b' 47 18 = b 47 18 + c := by rw [e7, if_pos rfl, mset_same]; rfl
    have v3 : a' 27 3 = a 27 3 + c := by rw [e5, if_pos rfl]; omega
    have fr : ∀ k, k ≠ 27 → (k < 30 ∨ 37 < k) → a' k = a k := e4
    have bf : ∀ k, k ≠ 47 → k ≠ 56 → k ≠ 57 → b' k = b k := fun k k0 k1 k2 => by rw [e6 k k0 k1 k2]; exact mset_ne k0
    refine ⟨0, _, a', _, b', rfl, rfl, ?_, fun _ => ?_, ⟨j1.fr (fun k _ _ => fr k (by omega) (by omega)) (fun k _ _ => bf k (by omega) (by omega) (by omega)), e3, j3.fr (fun k _ _ => fr k (by omega) (by omega)) (bf 58 (by omega) (by omega) (by omega)), (j4.fr (fun k _ _ => fr k (by omega) (by omega)) (fr 4 (by omega) (by omega)) (by rw [fr 1 (by omega) (by omega)]) (w47 17 (by omega) (by omega))).mono (by omega), j5.fr (fun k _ _ => fr k (by omega) (by omega)) ⟨by rw [fr 0 (by omega) (by omega)], by rw [fr 0 (by omega) (by omega)]⟩ (fun k _ _ => bf k (by omega) (by omega) (by omega)) ⟨w47 15 (by omega) (by omega), w47 16 (by omega) (by omega), w47 19 (by omega) (by omega)⟩, ?_, ?_⟩, fun k k0 k1 => fr k (by omega) (by omega), fun k hk => bf k (by omega) (by omega) (by omega)⟩
    · rw [e7, if_neg (by omega), m_ref0]; simp
    · rw [v3, w18, j7]
    · rw [fr 46 (by omega) (by omega), bf 59 (by omega) (by omega) (by omega)]; exact j6
    · rw [v3, w18, j7]
  · rw [outs1 hc (isI_of (by omega) (by omega)) (isI_of (by omega) (by omega)) hcc, with0 hc (isI_of (by omega) (by omega)) (isI_of (by omega) (by omega)) hcc, Option.bind_some, Option.bind_some, iI_yes, iI_no, ref_no (by omega) (by omega)]
    exact PQ.no h (by simp) (by omega)
