theorem m_seen {a b : qSt} (h : JC a b) (hp : PR (b 50)) {C k y : Int} (hC : isI C) (k0 : 0 ≤ k) (k1 : k ≤ 2) (y0 : 0 ≤ y) (y1 : y < 96) : fX6_seen b C k y = some (nw b C k y) := by
  have q0 := cnt_r h y0 y1 (w := 0) (by omega) (by omega)
  have q1 := cnt_r h y0 y1 (w := 1) (by omega) (by omega)
  have q2 := cnt_r h y0 y1 (w := 2) (by omega) (by omega)
  have q3 := cnt_r h y0 y1 (w := 3) (by omega) (by omega)
  rw [show 4 * y + 0 = 4 * y by omega] at q0
  have hy := hp y y0 y1
  have hb := btc_r (b 50 y)
  have b0 := bt_r (b 50 y) 0
  have b1 := bt_r (b 50 y) 1
  have b2 := bt_r (b 50 y) 2
  have b3 := bt_r (b 50 y) 3
  unfold fX6_seen nw
  rw [mqb, iI_eq0 hC.1 hC.2, iI_eq0 (by omega) (by omega), iI_eq0 (by omega) (by omega), iI_eq (by omega) (by omega) (by omega) (by omega), iI_eq (by omega) (by omega) (by omega) (by omega)]
  simp only [if_pos (show 0 ≤ y ∧ y < 96 from ⟨y0, y1⟩), if_pos (show 0 ≤ 4 * y ∧ 4 * y < 384 by omega), if_pos (show 0 ≤ 4 * y + 1 ∧ 4 * y + 1 < 384 by omega), if_pos (show 0 ≤ 4 * y + 2 ∧ 4 * y + 2 < 384 by omega), if_pos (show 0 ≤ 4 * y + 3 ∧ 4 * y + 3 < 384 by omega)]
  by_cases eC : C = 0
  · rw [if_pos eC, if_pos eC]
    by_cases e0 : k = 0
    · rw [if_pos e0, if_pos e0, m_many hy.1 hy.2, Option.bind_some, m_i2l (by omega) (by omega)]
    · rw [if_neg e0, if_neg e0]
      by_cases e1 : k = 1
      · rw [if_pos e1, if_pos e1]
        unfold fX6_rightOf
        rw [Option.bind_some, m_and1 hy.1 hy.2, m_bit hy.1 hy.2 (by omega) (by omega), m_i2l (by omega) (by omega)]
      · rw [if_neg e1, if_neg e1]
        unfold fX6_upOf
        rw [Option.bind_some, m_bit hy.1 hy.2 (by omega) (by omega), m_bit hy.1 hy.2 (by omega) (by omega), m_i2l (by omega) (by omega)]
  · rw [if_neg eC, if_neg eC]
    by_cases e0 : k = 0
    · rw [if_pos e0, if_pos e0, m_i2l (by omega) (by omega), m_i2l (by omega) (by omega), m_i2l (by omega) (by omega), m_i2l (by omega) (by omega)]
    · rw [if_neg e0, if_neg e0]
      by_cases e1 : k = 1
      · rw [if_pos e1, if_pos e1, m_i2l (by omega) (by omega)]
      · rw [if_neg e1, if_neg e1, m_i2l (by omega) (by omega)]
/-- the cells seen ahead of (row r, column k) -/
abbrev VW (T L K r k x : Int) : Prop := T ≤ x / 12 ∧ ((x / 12 < r ∧ (x % 12 - L) % 12 < K) ∨ (x / 12 = r ∧ (x % 12 - L) % 12 < k - L))
def vf (kd : Int → Int) (T L K r k : Int) (f : Int → Int) (x : Int) : Int := if VW T L K r k x ∧ kd x ≠ 1 then f x else 0
theorem V_step {T L K r k x : Int} (hL : 0 ≤ L) (hL1 : L ≤ 11) (hT : T ≤ r) (hk : L ≤ k) (hk1 : k < L + K) (hK : K ≤ 12) (x0 : 0 ≤ x) : VW T L K r (k + 1) x ↔ (VW T L K r k x ∨ x = 12 * r + k % 12) := by
  constructor
  · rintro ⟨h1, h2⟩
    rcases h2 with h2 | h2
    · exact Or.inl ⟨h1, Or.inl h2⟩
    · by_cases e : (x % 12 - L) % 12 < k - L
      · exact Or.inl ⟨h1, Or.inr ⟨h2.1, e⟩⟩
      · right
        have := h2.1
        have := h2.2
        omega
  · rintro (⟨h1, h2⟩ | h)
    · rcases h2 with h2 | h2
      · exact ⟨h1, Or.inl h2⟩
      · exact ⟨h1, Or.inr ⟨h2.1, by omega⟩⟩
    · exact ⟨by omega, Or.inr ⟨by omega, by omega⟩⟩
theorem V_new {T L K r k : Int} (hL : 0 ≤ L) (hL1 : L ≤ 11) (hk : L ≤ k) (hk1 : k < L + K) (hK : K ≤ 12) : ¬ VW T L K r k (12 * r + k % 12) := by
  rintro ⟨h1, h2 | h2⟩
  · omega
  · omega
theorem V_row {T L K r x : Int} : VW T L K (r + 1) L x ↔ VW T L K r (L + K) x := by
  constructor
  · rintro ⟨h1, h2 | h2⟩
    · by_cases e : x / 12 < r
      · exact ⟨h1, Or.inl ⟨e, h2.2⟩⟩
      · exact ⟨h1, Or.inr ⟨by omega, by omega⟩⟩
    · omega
  · rintro ⟨h1, h2 | h2⟩
    · exact ⟨h1, Or.inl ⟨by omega, h2.2⟩⟩
    · exact ⟨h1, Or.inl ⟨by omega, by omega⟩⟩
theorem V_0 {T L K x : Int} : ¬ VW T L K T L x := by
  rintro ⟨h1, h2 | h2⟩ <;> omega
theorem V_N {T L R K x : Int} : VW T L K (T + R) L x ↔ INW T L R K x := by
  constructor
  · rintro ⟨h1, h2 | h2⟩
    · exact ⟨h1, h2⟩
    · omega
  · rintro ⟨h1, h2, h3⟩
    exact ⟨h1, Or.inl ⟨h2, h3⟩⟩
theorem sr_zero {f : Int → Int} {n : Nat} (h : ∀ x : Int, 0 ≤ x → x < n → f x = 0) : sr f n = 0 := by
  rw [sr_congr (g := fun _ => 0) h]
  have : ∀ m : Nat, sr (fun _ => 0) m = 0 := fun m => by
    induction m with
    | zero => rfl
    | succ m ih => show sr _ m + 0 = 0; rw [ih]; rfl
  exact this n
theorem vf_0 {kd : Int → Int} {T L K : Int} {f : Int → Int} : sr (vf kd T L K T L f) 96 = 0 := sr_zero fun x _ _ => if_neg fun z => V_0 z.1
theorem vf_row {kd : Int → Int} {T L K r : Int} {f : Int → Int} : sr (vf kd T L K (r + 1) L f) 96 = sr (vf kd T L K r (L + K) f) 96 := sr_congr fun x _ _ => by
  unfold vf
  by_cases e : VW T L K r (L + K) x ∧ kd x ≠ 1
  · rw [if_pos e, if_pos ⟨V_row.mpr e.1, e.2⟩]
  · rw [if_neg e, if_neg fun z => e ⟨V_row.mp z.1, z.2⟩]
theorem vf_N {kd : Int → Int} {T L R K : Int} {f : Int → Int} : sr (vf kd T L K (T + R) L f) 96 = sr (tf kd T L R K f) 96 := sr_congr fun x _ _ => by
  unfold vf tf
  by_cases e : INW T L R K x ∧ kd x ≠ 1
  · rw [if_pos e, if_pos ⟨V_N.mpr e.1, e.2⟩]
  · rw [if_neg e, if_neg fun z => e ⟨V_N.mp z.1, z.2⟩]
theorem vf_step {kd : Int → Int} {T L K r k : Int} {f : Int → Int} (hL : 0 ≤ L) (hL1 : L ≤ 11) (hT0 : 0 ≤ T) (hT : T ≤ r) (hr : r ≤ 7) (hk : L ≤ k) (hk1 : k < L + K) (hK : K ≤ 12) : sr (vf kd T L K r (k + 1) f) 96 = sr (vf kd T L K r k f) 96 + (if kd (12 * r + k % 12) = 1 then 0 else f (12 * r + k % 12)) :=
  sr_upd (a := 12 * r + k % 12) (by omega) (by omega) fun x x0 x1 => by
    have hs := V_step (x := x) hL hL1 hT hk hk1 hK x0
    have hn := V_new (T := T) (r := r) hL hL1 hk hk1 hK
    unfold vf
    by_cases e : x = 12 * r + k % 12
    · rw [if_pos e, ← e]
      rw [← e] at hn
      rw [if_neg (show ¬ (VW T L K r k x ∧ kd x ≠ 1) from fun z => hn z.1)]
      by_cases e2 : kd x = 1
      · rw [if_neg (fun z => z.2 e2), if_pos e2]; rfl
      · rw [if_pos ⟨hs.mpr (Or.inr e), e2⟩, if_neg e2]; omega
    · rw [if_neg e]
      by_cases e2 : VW T L K r k x ∧ kd x ≠ 1
      · rw [if_pos e2, if_pos ⟨hs.mpr (Or.inl e2.1), e2.2⟩]; omega
      · rw [if_neg e2, if_neg (fun z => e2 ⟨(hs.mp z.1).resolve_right e, z.2⟩)]; rfl
theorem nw_congr {a b : qSt} (h : a 50 = b 50) (h2 : a 56 = b 56) : nw a = nw b := by
  funext C k c
  unfold nw
  rw [h, h2]
/-- what the look of the reference keeps and has found -/
def LK (σ0 : qSt) (C k T L K r c : Int) (t : qSt) : Prop := (∀ j, j ≠ 47 → t j = σ0 j) ∧ (∀ j, j ≠ 23 → j ≠ 24 → j ≠ 25 → t 47 j = σ0 47 j) ∧ t 47 23 = sr (vf (σ0 48) T L K r c (fun _ => 1)) 96 ∧ t 47 24 = sr (vf (σ0 48) T L K r c (nw σ0 C k)) 96 ∧ t 47 25 = sr (vf (σ0 48) T L K r c (fun x => nw σ0 C k x * nw σ0 C k x)) 96
theorem m_look {a b : qSt} (h : JC a b) (hk : KR (b 48)) (hp : PR (b 50)) {C k T L R K : Int} (hC : isI C) (k0 : 0 ≤ k) (k1 : k ≤ 2) (hw : WIN T L R K) : ∃ σ', fX6_look C k T L R K b = some (0, σ') ∧ (∀ j, j ≠ 47 → σ' j = b j) ∧ (∀ j, j ≠ 23 → j ≠ 24 → j ≠ 25 → σ' 47 j = b 47 j) ∧ σ' 47 23 = sr (tf (b 48) T L R K (fun _ => 1)) 96 ∧ σ' 47 24 = sr (tf (b 48) T L R K (nw b C k)) 96 ∧ σ' 47 25 = sr (tf (b 48) T L R K (fun x => nw b C k x * nw b C k x)) 96 := by
  obtain ⟨w1, w2, w3, w4⟩ := hw
  unfold fX6_look
  simp only [mqb]
  have z0 : LK b C k T L K T L (qset (qset (qset b 47 23 0) 47 24 0) 47 25 0) := by
    refine ⟨fun j hj => by rw [mset_ne hj, mset_ne hj, mset_ne hj], fun j h1 h2 h3 => ?_, ?_, ?_, ?_⟩
    · simp only [mset_same]; rw [if_neg h3, if_neg h2, if_neg h1]
    · rw [vf_0]; simp only [mset_same]; simp
    · rw [vf_0]; simp only [mset_same]; simp
    · rw [vf_0]; simp only [mset_same]; simp
  generalize qset (qset (qset b 47 23 0) 47 24 0) 47 25 0 = s0 at z0 ⊢
  obtain ⟨s, e, q0, q1, q2, q3, q4, q5⟩ := mloopG (P := fun r t => T ≤ r ∧ LK b C k T L K r L t) (F := fun f r t => fX6_look_c18 f C k T L R K r t) (R := fun t => some (0, t)) (T + R) (fun f t _ => by
    show fX6_look_c18 (f + 1) C k T L R K (T + R) t = _
    rw [fX6_look_c18, if_pos (by rw [mI_le] <;> omega)]) (fun f r t r0 r1 hP => by
    obtain ⟨hTr, hP⟩ := hP
    show ∃ s1, fX6_look_c18 (f + 1) C k T L R K r t = fX6_look_c18 f C k T L R K (r + 1) s1 ∧ _
    rw [fX6_look_c18, if_neg (by rw [mI_le] <;> omega)]
    obtain ⟨s1, d1, d2, d3⟩ := mloopG (P := fun c t => L ≤ c ∧ LK b C k T L K r c t) (F := fun f' c t => fX6_look_c31 (fX6_look_c18 f) f' C k T L R K r c t) (R := fun t => fX6_look_c18 f C k T L R K (r + 1) t) (L + K) (fun f' t _ => by
      show fX6_look_c31 (fX6_look_c18 f) (f' + 1) C k T L R K r (L + K) t = _
      rw [fX6_look_c31, if_pos (by rw [mI_le] <;> omega)]) (fun f' c t c0 c1 hP => by
      obtain ⟨hLc, p1, p2, p3, p4, p5⟩ := hP
      have y0 : 0 ≤ 12 * r + c % 12 := by omega
      have y1 : 12 * r + c % 12 < 96 := by omega
      have hky := hk _ y0 y1
      have t48 : t 48 = b 48 := p1 48 (by omega)
      have t50 : t 50 = b 50 := p1 50 (by omega)
      have t56 : t 56 = b 56 := p1 56 (by omega)
      have tnw : nw t = nw b := nw_congr t50 t56
      have hqr : qrem c 12 = c % 12 := by
        have := (m_d12 (x := c) c0 (by omega)).2
        exact this
      have v1 := vf_step (kd := b 48) (T := T) (r := r) (f := fun _ => 1) w2.1 w2.2 w1.1 hTr (by omega) hLc c1 w4.2
      have v2 := vf_step (kd := b 48) (T := T) (r := r) (f := nw b C k) w2.1 w2.2 w1.1 hTr (by omega) hLc c1 w4.2
      have v3 := vf_step (kd := b 48) (T := T) (r := r) (f := fun x => nw b C k x * nw b C k x) w2.1 w2.2 w1.1 hTr (by omega) hLc c1 w4.2
      show ∃ s1, fX6_look_c31 (fX6_look_c18 f) (f' + 1) C k T L R K r c t = fX6_look_c31 (fX6_look_c18 f) f' C k T L R K r (c + 1) s1 ∧ _
      rw [fX6_look_c31, if_neg (by rw [mI_le] <;> omega), mqb, hqr, if_pos (show 0 ≤ 12 * r + c % 12 ∧ 12 * r + c % 12 < 96 from ⟨y0, y1⟩), t48, iI_eq (by omega) (by omega) (by omega) (by omega)]
      by_cases ek : b 48 (12 * r + c % 12) = 1
      · rw [if_pos ek] at v1 v2 v3 ⊢
        exact ⟨t, rfl, by omega, p1, p2, by rw [v1, p3]; omega, by rw [v2, p4]; omega, by rw [v3, p5]; omega⟩
      · rw [if_neg ek] at v1 v2 v3 ⊢
        rw [m_seen (h.fr (a' := a) (b' := t) rfl (fun _ _ _ => rfl) rfl t56) (by rw [t50]; exact hp) hC k0 k1 y0 y1, Option.bind_some, tnw]
        simp only [mqb]
        refine ⟨_, rfl, by omega, fun j hj => by rw [mset_ne hj, mset_ne hj, mset_ne hj]; exact p1 j hj, fun j h1 h2 h3 => ?_, ?_, ?_, ?_⟩
        · simp only [mset_same]; rw [if_neg h3, if_neg h2, if_neg h1]; exact p2 j h1 h2 h3
        · rw [v1, ← p3]; simp only [mset_same]; simp
        · rw [v2, ← p4]; simp only [mset_same]; simp
        · rw [v3, ← p5]; simp only [mset_same]; simp) K.toNat qFU L t (by omega) (by unfold qFU; omega) w2.1 ⟨by omega, hP⟩
    obtain ⟨g1, g2, g3, g4, g5⟩ := d3
    exact ⟨s1, d1, by omega, g1, g2, by rw [vf_row]; exact g3, by rw [vf_row]; exact g4, by rw [vf_row]; exact g5⟩) R.toNat qFU T s0 (by omega) (by unfold qFU; omega) w1.1 ⟨by omega, z0⟩
  rw [vf_N] at q3 q4 q5
  exact ⟨s, e, q1, q2, q3, q4, q5⟩
