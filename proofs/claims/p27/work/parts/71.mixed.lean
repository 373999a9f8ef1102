/-! ===== mixed ===== -/
def sh4 (p d : Int → Int) (c : Int) : Int := if p c = 0 then 0 else if d c = p c then 1 else if d c = 0 then -1 else 0
theorem sh4_r (p d : Int → Int) (c : Int) : sh4 p d c = 0 ∨ sh4 p d c = 1 ∨ sh4 p d c = -1 := by
  unfold sh4
  repeat' split
  all_goals omega
def eg4 (p d : Int → Int) (c e : Int) : Int := if e = -1 then 0 else if sh4 p d c * sh4 p d e < 0 then 1 else 0
theorem eg4_r (p d : Int → Int) (c e : Int) : 0 ≤ eg4 p d c e ∧ eg4 p d c e ≤ 1 := by
  unfold eg4
  repeat' split
  all_goals omega
theorem m_allDyed {σ : qSt} {c : Int} (hp : PR (σ 4)) (hd : PR (σ 5)) (c0 : 0 ≤ c) (c1 : c < 96) : fX3_isAllDyed 1 σ c = some (if sh4 (σ 4) (σ 5) c = 1 then 1 else 0) := by
  have h1 : 0 ≤ σ 4 c ∧ σ 4 c ≤ 15 := hp c c0 c1
  have h2 : 0 ≤ σ 5 c ∧ σ 5 c ≤ 15 := hd c c0 c1
  have hcc : 0 ≤ c ∧ c < 96 := ⟨c0, c1⟩
  unfold fX3_isAllDyed sh4
  simp only [if_pos hcc]
  show (if qI (σ 4 c) = 0 then some 0 else if qI (σ 5 c) = qI (σ 4 c) then some 1 else some 0) = _
  rw [iI_eq0 (by omega) (by omega), iI_eq (by omega) (by omega) (by omega) (by omega)]
  by_cases e1 : σ 4 c = 0
  · rw [if_pos e1, if_pos e1, if_neg (by omega)]
  · rw [if_neg e1, if_neg e1]
    by_cases e2 : σ 5 c = σ 4 c
    · rw [if_pos e2, if_pos e2, if_pos rfl]
    · rw [if_neg e2, if_neg e2]
      split <;> rw [if_neg (by omega)]
theorem m_allPlain {σ : qSt} {c : Int} (hp : PR (σ 4)) (hd : PR (σ 5)) (c0 : 0 ≤ c) (c1 : c < 96) : fX3_isAllPlain 1 σ c = some (if sh4 (σ 4) (σ 5) c = -1 then 1 else 0) := by
  have h1 : 0 ≤ σ 4 c ∧ σ 4 c ≤ 15 := hp c c0 c1
  have h2 : 0 ≤ σ 5 c ∧ σ 5 c ≤ 15 := hd c c0 c1
  have hcc : 0 ≤ c ∧ c < 96 := ⟨c0, c1⟩
  unfold fX3_isAllPlain sh4
  simp only [if_pos hcc]
  show (if qI (σ 4 c) = 0 then some 0 else if qI (σ 5 c) = 0 then some 1 else some 0) = _
  rw [iI_eq0 (by omega) (by omega), iI_eq0 (by omega) (by omega)]
  by_cases e1 : σ 4 c = 0
  · rw [if_pos e1, if_pos e1, if_neg (by omega)]
  · rw [if_neg e1, if_neg e1]
    by_cases e2 : σ 5 c = 0
    · rw [if_pos e2, if_neg (show ¬ σ 5 c = σ 4 c by omega), if_pos e2, if_pos rfl]
    · rw [if_neg e2, if_neg e2]
      split <;> rw [if_neg (by omega)]
theorem m_isEdge {σ : qSt} {c e : Int} (hp : PR (σ 4)) (hd : PR (σ 5)) (c0 : 0 ≤ c) (c1 : c < 96) (e0 : -1 ≤ e) (e1 : e < 96) : fX5_isEdgeOfInk σ c e = some (eg4 (σ 4) (σ 5) c e) := by
  unfold fX5_isEdgeOfInk fX5_isEdgeOfInk_c38
  rw [noCell0 c0 c1, Option.bind_some, iI_no]
  unfold eg4
  by_cases h : e = -1
  · rw [if_pos h, noCell1 (isI_of (by omega) (by omega)) (by omega), Option.bind_some, iI_yes]
  · rw [if_neg h, noCell0 (by omega) e1, Option.bind_some, iI_no, m_allDyed hp hd c0 c1, m_allPlain hp hd c0 c1, m_allDyed hp hd (by omega) e1, m_allPlain hp hd (by omega) e1]
    simp only [Option.bind_some]
    rcases sh4_r (σ 4) (σ 5) c with h1 | h1 | h1 <;> rcases sh4_r (σ 4) (σ 5) e with h2 | h2 | h2 <;> rw [h1, h2] <;> decide +kernel
theorem bs_0 {c : Int} (c0 : 0 ≤ c) (c1 : c < 96) : 0 ≤ bs c 0 := by
  unfold bs
  rw [if_pos rfl]
  split <;> omega
/-- pairs of cells -/
def pr4 (p d : Int → Int) (c : Int) : Int := eg4 p d c (bs c 0) + eg4 p d c (bs c 3)
theorem m_edges {σ : qSt} (hp : PR (σ 4)) (hd : PR (σ 5)) : fX5_edgesOfInk σ = some (sr (pr4 (σ 4) (σ 5)) 96) := by
  unfold fX5_edgesOfInk
  obtain ⟨s, e, q⟩ := mloop (P := fun i (n : Int) => n = sr (pr4 (σ 4) (σ 5)) i.toNat) (F := fun f i n => fX5_edgesOfInk_c4 σ f n i) (R := fun n => some n) 96 (by omega) (by omega) (fun f n _ => by
    show fX5_edgesOfInk_c4 σ (f + 1) n 96 = _
    rw [fX5_edgesOfInk_c4, if_pos (by rw [mI_le] <;> omega)]) (fun f i n i0 i1 hP => by
    have b0 := bs_r i0 i1 (w := 0)
    have b3 := bs_r i0 i1 (w := 3)
    have g0 := eg4_r (σ 4) (σ 5) i (bs i 0)
    have g3 := eg4_r (σ 4) (σ 5) i (bs i 3)
    show ∃ s1, fX5_edgesOfInk_c4 σ (f + 1) n i = fX5_edgesOfInk_c4 σ f s1 (i + 1) ∧ _
    rw [fX5_edgesOfInk_c4, if_neg (by rw [mI_le] <;> omega), m_beside i0 i1 (by omega) (by omega), Option.bind_some, m_isEdge hp hd i0 i1 b0.1 b0.2, Option.bind_some, sr_step i0]
    have last : ∀ y : Int, ∃ s1, fX5_edgesOfInk_c29 σ (fX5_edgesOfInk_c4 σ f) i y n = fX5_edgesOfInk_c4 σ f s1 (i + 1) ∧ s1 = n + y + eg4 (σ 4) (σ 5) i (bs i 3) := fun y => by
      unfold fX5_edgesOfInk_c29 fX5_edgesOfInk_c50
      rw [mqb, m_beside i0 i1 (by omega) (by omega), Option.bind_some, m_isEdge hp hd i0 i1 b3.1 b3.2, Option.bind_some, iI_eq0 (by omega) (by omega)]
      rcases (show eg4 (σ 4) (σ 5) i (bs i 3) = 0 ∨ eg4 (σ 4) (σ 5) i (bs i 3) = 1 by omega) with h | h
      · rw [if_pos h, mqb]; exact ⟨_, rfl, by rw [h]⟩
      · rw [if_neg (by omega), mqb]; exact ⟨_, rfl, by rw [h]⟩
    rw [iI_eq0 (by omega) (by omega)]
    rcases (show eg4 (σ 4) (σ 5) i (bs i 0) = 0 ∨ eg4 (σ 4) (σ 5) i (bs i 0) = 1 by omega) with h | h
    · rw [if_pos h]
      obtain ⟨s1, d1, d2⟩ := last 0
      refine ⟨s1, d1, ?_⟩
      rw [d2, hP]
      unfold pr4
      omega
    · rw [if_neg (by omega)]
      obtain ⟨s1, d1, d2⟩ := last 1
      refine ⟨s1, d1, ?_⟩
      rw [d2, hP]
      unfold pr4
      omega) (s := 0) rfl
  have e' : fX5_edgesOfInk_c4 σ qFU 0 0 = some s := e
  rw [e', q]
  rfl
/-- a block's bits -/
def bl4 (r : Int → Int) (c : Int) : Int := btc (r c) + btc (r (c + 1)) + btc (r (c + 12)) + btc (r (c + 13))
theorem bl4_r (r : Int → Int) (c : Int) : 0 ≤ bl4 r c ∧ bl4 r c ≤ 16 := by
  have a0 := btc_r (r c)
  have a1 := btc_r (r (c + 1))
  have a2 := btc_r (r (c + 12))
  have a3 := btc_r (r (c + 13))
  unfold bl4
  omega
theorem sr_block {f : Int → Int} {m j : Int} (m0 : 0 ≤ m) (m1 : m < 4) (j0 : 0 ≤ j) (j1 : j < 6) : sr (fun x => if INW (2 * m) (2 * j) 2 2 x then f x else 0) 96 = f (24 * m + 2 * j) + f (24 * m + 2 * j + 1) + f (24 * m + 2 * j + 12) + f (24 * m + 2 * j + 13) := by
  have hc : ∀ x : Int, 0 ≤ x → x < (96 : Nat) → (if INW (2 * m) (2 * j) 2 2 x then f x else 0) = ((if x = 24 * m + 2 * j then f (24 * m + 2 * j) else 0) + (if x = 24 * m + 2 * j + 1 then f (24 * m + 2 * j + 1) else 0)) + ((if x = 24 * m + 2 * j + 12 then f (24 * m + 2 * j + 12) else 0) + (if x = 24 * m + 2 * j + 13 then f (24 * m + 2 * j + 13) else 0)) := fun x x0 x1 => by
    by_cases h0 : x = 24 * m + 2 * j
    · rw [if_pos (show INW (2 * m) (2 * j) 2 2 x from ⟨by omega, by omega, by omega⟩), if_pos h0, if_neg (by omega), if_neg (by omega), if_neg (by omega), h0]; omega
    by_cases h1 : x = 24 * m + 2 * j + 1
    · rw [if_pos (show INW (2 * m) (2 * j) 2 2 x from ⟨by omega, by omega, by omega⟩), if_neg h0, if_pos h1, if_neg (by omega), if_neg (by omega), h1]; omega
    by_cases h2 : x = 24 * m + 2 * j + 12
    · rw [if_pos (show INW (2 * m) (2 * j) 2 2 x from ⟨by omega, by omega, by omega⟩), if_neg h0, if_neg h1, if_pos h2, if_neg (by omega), h2]; omega
    by_cases h3 : x = 24 * m + 2 * j + 13
    · rw [if_pos (show INW (2 * m) (2 * j) 2 2 x from ⟨by omega, by omega, by omega⟩), if_neg h0, if_neg h1, if_neg h2, if_pos h3, h3]; omega
    rw [if_neg (show ¬ INW (2 * m) (2 * j) 2 2 x from fun ⟨z1, z2, z3⟩ => by omega), if_neg h0, if_neg h1, if_neg h2, if_neg h3]; rfl
  rw [sr_congr hc, sr_add, sr_add, sr_add, sr_one (by omega) (by omega), sr_one (by omega) (by omega), sr_one (by omega) (by omega), sr_one (by omega) (by omega)]
  omega
theorem m_bitsWithin {σ : qSt} {p : Nat} {m j : Int} (hp : PR (σ p)) (m0 : 0 ≤ m) (m1 : m < 4) (j0 : 0 ≤ j) (j1 : j < 6) (hT : σ 66 0 = 2 * m) (hL : σ 66 1 = 2 * j) (hR : σ 66 2 = 2) (hK : σ 66 3 = 2) : fX5_bitsWithin p σ = some (bl4 (σ p) (24 * m + 2 * j)) := by
  have hw : WIN (2 * m) (2 * j) 2 2 := ⟨by omega, by omega, by omega, by omega⟩
  unfold fX5_bitsWithin
  obtain ⟨s, e, q⟩ := mloop (P := fun i (n : Int) => n = sr (fun x => if INW (2 * m) (2 * j) 2 2 x then btc (σ p x) else 0) i.toNat) (F := fun f i n => fX5_bitsWithin_c4 p σ f n i) (R := fun n => some n) 96 (by omega) (by omega) (fun f n _ => by
    show fX5_bitsWithin_c4 p σ (f + 1) n 96 = _
    rw [fX5_bitsWithin_c4, if_pos (by rw [mI_le] <;> omega)]) (fun f i n i0 i1 hP => by
    have hx := hp i i0 i1
    have hn : ¬ qI 96 ≤ qI i := by rw [mI_le] <;> omega
    show ∃ s1, fX5_bitsWithin_c4 p σ (f + 1) n i = fX5_bitsWithin_c4 p σ f s1 (i + 1) ∧ _
    rw [fX5_bitsWithin_c4, if_neg hn, if_neg hn, m_holds hT hL hR hK hw i0 i1, Option.bind_some, sr_step i0]
    unfold fX5_bitsWithin_c33
    by_cases h : INW (2 * m) (2 * j) 2 2 i
    · rw [if_pos h, iI_yes, if_pos ⟨i0, i1⟩, m_bitCount hx.1 hx.2, Option.bind_some, mqb]
      refine ⟨_, rfl, ?_⟩
      rw [hP]
      show _ = _ + (if INW (2 * m) (2 * j) 2 2 i then btc (σ p i) else 0)
      rw [if_pos h]
    · rw [if_neg h, iI_no]
      refine ⟨_, rfl, ?_⟩
      rw [hP]
      show _ = _ + (if INW (2 * m) (2 * j) 2 2 i then btc (σ p i) else 0)
      rw [if_neg h]; omega) (s := 0) rfl
  have e' : fX5_bitsWithin_c4 p σ qFU 0 0 = some s := e
  rw [e', q]
  exact congrArg some (sr_block m0 m1 j0 j1)
def ab4 (z : Int) : Int := if 0 ≤ z then z else -z
/-- what a block adds -/
def un4 (p d : Int → Int) (A I c : Int) : Int := if c / 12 % 2 = 0 ∧ c % 2 = 0 then ab4 (bl4 d c * A - I * bl4 p c) else 0
theorem mul_b {x y : Int} {X Y : Int} (x0 : 0 ≤ x) (x1 : x ≤ X) (y0 : 0 ≤ y) (y1 : y ≤ Y) : 0 ≤ x * y ∧ x * y ≤ X * Y :=
  ⟨Int.mul_nonneg x0 y0, Int.mul_le_mul x1 y1 y0 (by omega)⟩
theorem un_r (p d : Int → Int) {A I : Int} (A0 : 0 ≤ A) (A1 : A ≤ 384) (I0 : 0 ≤ I) (I1 : I ≤ 384) (c : Int) : -6144 ≤ bl4 d c * A - I * bl4 p c ∧ bl4 d c * A - I * bl4 p c ≤ 6144 := by
  have h1 := bl4_r d c
  have h2 := bl4_r p c
  have m1 := mul_b h1.1 h1.2 A0 A1
  have m2 := mul_b I0 I1 h2.1 h2.2
  omega
