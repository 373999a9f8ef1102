/-! ===== windows, tallies ===== -/
theorem f12 {x : Int} (h0 : 0 ≤ x) (h1 : x < 12) : ∃ n : Fin 12, x = (n.val : Int) := ⟨⟨x.toNat, by omega⟩, by show x = (x.toNat : Int); omega⟩
theorem m_fmod {σ : qSt} {x l : Int} (x0 : 0 ≤ x) (x1 : x < 96) (l0 : 0 ≤ l) (l1 : l < 12) : fJ9_floorMod_7cf53 σ (qrem x 12 - l) 12 = some ((x % 12 - l) % 12) := by
  obtain ⟨n, rfl⟩ := f96 x0 x1
  obtain ⟨k, rfl⟩ := f12 l0 l1
  exact (by decide +kernel : ∀ (n : Fin 96) (k : Fin 12), fJ9_floorMod_7cf53 (fun _ _ => 0) (qrem (n.val : Int) 12 - (k.val : Int)) 12 = some (((n.val : Int) % 12 - (k.val : Int)) % 12)) n k
theorem m_d12 {x : Int} (x0 : 0 ≤ x) (x1 : x < 96) : qdiv x 12 = x / 12 ∧ qrem x 12 = x % 12 := by
  obtain ⟨n, rfl⟩ := f96 x0 x1
  exact (by decide +kernel : ∀ (n : Fin 96), qdiv (n.val : Int) 12 = (n.val : Int) / 12 ∧ qrem (n.val : Int) 12 = (n.val : Int) % 12) n
abbrev INW (T L R K x : Int) : Prop := T ≤ x / 12 ∧ x / 12 < T + R ∧ (x % 12 - L) % 12 < K
abbrev WIN (T L R K : Int) : Prop := (0 ≤ T ∧ T ≤ 7) ∧ (0 ≤ L ∧ L ≤ 11) ∧ (1 ≤ R ∧ R ≤ 8 - T) ∧ (1 ≤ K ∧ K ≤ 12)
theorem m_holds {σ : qSt} {x T L R K : Int} (hT : σ 66 0 = T) (hL : σ 66 1 = L) (hR : σ 66 2 = R) (hK : σ 66 3 = K) (hw : WIN T L R K) (x0 : 0 ≤ x) (x1 : x < 96) : fX4_holds σ x = some (if INW T L R K x then 1 else 0) := by
  obtain ⟨w1, w2, w3, w4⟩ := hw
  unfold fX4_holds
  rw [hT, hL, hR, hK, mqb, (m_d12 x0 x1).1, m_fmod x0 x1 w2.1 (by omega), Option.bind_some, iI_lt0 (by omega) (by omega), iI_le (by omega) (by omega) (by omega) (by omega), iI_le (by omega) (by omega) (by omega) (by omega)]
  by_cases h1 : x / 12 - T < 0
  · rw [if_pos h1, if_neg (show ¬ INW T L R K x from fun z => by have := z.1; omega)]
  · rw [if_neg h1]
    by_cases h2 : R ≤ x / 12 - T
    · rw [if_pos h2, if_neg (show ¬ INW T L R K x from fun z => by have := z.2.1; omega)]
    · rw [if_neg h2]
      by_cases h3 : K ≤ (x % 12 - L) % 12
      · rw [if_pos h3, if_neg (show ¬ INW T L R K x from fun z => by have := z.2.2; omega)]
      · rw [if_neg h3, if_pos (show INW T L R K x from ⟨by omega, by omega, by omega⟩)]
theorem m_noWin {σ : qSt} {T L R K : Int} (hT : isI T) (hL : isI L) (hR : isI R) (hK : isI K) : fX5_isNoWindow σ T L R K = some (if WIN T L R K then 0 else 1) := by
  unfold fX5_isNoWindow
  by_cases h1 : 0 ≤ T ∧ T ≤ 7
  · rw [outs0 (by omega) (by omega) h1.1 h1.2, Option.bind_some, iI_no]
    by_cases h2 : 0 ≤ L ∧ L ≤ 11
    · rw [outs0 (by omega) (by omega) h2.1 h2.2, Option.bind_some, iI_no]
      by_cases h3 : 1 ≤ R ∧ R ≤ 8 - T
      · rw [outs0 (by omega) (by omega) h3.1 h3.2, Option.bind_some, iI_no]
        by_cases h4 : 1 ≤ K ∧ K ≤ 12
        · rw [outs0 (by omega) (by omega) h4.1 h4.2, Option.bind_some, iI_no, if_pos ⟨h1, h2, h3, h4⟩]
        · rw [outs1 hK (isI_of (by omega) (by omega)) (isI_of (by omega) (by omega)) h4, Option.bind_some, iI_yes, if_neg (fun z => h4 z.2.2.2)]
      · rw [outs1 hR (isI_of (by omega) (by omega)) (isI_of (by omega) (by omega)) h3, Option.bind_some, iI_yes, if_neg (fun z => h3 z.2.2.1)]
    · rw [outs1 hL (isI_of (by omega) (by omega)) (isI_of (by omega) (by omega)) h2, Option.bind_some, iI_yes, if_neg (fun z => h2 z.2.1)]
  · rw [outs1 hT (isI_of (by omega) (by omega)) (isI_of (by omega) (by omega)) h1, Option.bind_some, iI_yes, if_neg (fun z => h1 z.1)]
/-- the number that is looked at, of the class and of the reference -/
def nv (a : qSt) (C k c : Int) : Int := if C = 0 then (if k = 0 then btc (a 4 c) else if k = 1 then bt (a 4 c) 0 - bt (a 4 c) 2 else bt (a 4 c) 1 - bt (a 4 c) 3) else (if k = 0 then (a 30 c + a 32 c) + (a 31 c + a 33 c) else if k = 1 then a 30 c - a 32 c else a 31 c - a 33 c)
def tf (kd : Int → Int) (T L R K : Int) (f : Int → Int) (x : Int) : Int := if INW T L R K x ∧ kd x ≠ 1 then f x else 0
theorem sr_mem {f : Int → Int} : ∀ {n : Nat}, (∀ x : Int, 0 ≤ x → x < n → 0 ≤ f x) → 0 ≤ sr f n ∧ ∀ x : Int, 0 ≤ x → x < n → f x ≤ sr f n := by
  intro n
  induction n with
  | zero => intro _; exact ⟨Int.le_refl _, fun x h0 h1 => by omega⟩
  | succ n ih =>
    intro h
    obtain ⟨i1, i2⟩ := ih (fun x h0 h1 => h x h0 (by omega))
    have h9 := h n (by omega) (by omega)
    show 0 ≤ sr f n + f n ∧ ∀ x : Int, 0 ≤ x → x < ((n + 1 : Nat) : Int) → f x ≤ sr f n + f n
    refine ⟨by omega, fun x h0 h1 => ?_⟩
    by_cases e : x = n
    · rw [e]; omega
    · have := i2 x h0 (by omega)
      omega
theorem m_numW {σ : qSt} {k x : Int} (hp : PR (σ 4)) (k0 : 0 ≤ k) (k1 : k ≤ 2) (x0 : 0 ≤ x) (x1 : x < 96) : fX3_numberAt 1 σ x k = some (nv σ 0 k x) := by
  have hx := hp x x0 x1
  unfold fX3_numberAt fX3_numberAt_c28 nv
  rw [iI_eq0 (by omega) (by omega), iI_eq (by omega) (by omega) (by omega) (by omega), if_pos (show (0 : Int) = 0 from rfl)]
  by_cases e : k = 0
  · rw [if_pos e, if_pos e, if_pos (show 0 ≤ x ∧ x < 96 from ⟨x0, x1⟩), m_bitCount hx.1 hx.2, Option.bind_some]
  · rw [if_neg e, if_neg e]
    by_cases e1 : k = 1
    · rw [if_pos e1, if_pos e1, m_moreAt (B := 1) hp x0 x1 (Or.inl rfl), Option.bind_some]
      rfl
    · rw [if_neg e1, if_neg e1, m_moreAt (B := 1) hp x0 x1 (Or.inr rfl), Option.bind_some]
      rfl
theorem m_numC {σ : qSt} {C k x : Int} (hC : C ≠ 0) (k0 : 0 ≤ k) (k1 : k ≤ 2) (x0 : 0 ≤ x) (x1 : x < 96) : fX0_numberAt σ x k = some (nv σ C k x) := by
  have hxx : 0 ≤ x ∧ x < 96 := ⟨x0, x1⟩
  unfold fX0_numberAt nv
  simp only [if_pos hxx, mqb]
  rw [iI_eq0 (by omega) (by omega), iI_eq (by omega) (by omega) (by omega) (by omega), if_neg hC]
  by_cases e : k = 0
  · rw [if_pos e, if_pos e]
  · rw [if_neg e, if_neg e]
    by_cases e1 : k = 1
    · rw [if_pos e1, if_pos e1]
    · rw [if_neg e1, if_neg e1]
theorem nv_congr {a b : qSt} (h4 : a 4 = b 4) (h30 : a 30 = b 30) (h31 : a 31 = b 31) (h32 : a 32 = b 32) (h33 : a 33 = b 33) : nv a = nv b := by
  funext C k c
  unfold nv
  rw [h4, h30, h31, h32, h33]
theorem m_take {σ : qSt} {K9 : Nat} {v : Int} : ∃ σ', fX2_take K9 v σ = some (0, σ') ∧ (∀ j, j ≠ K9 → σ' j = σ j) ∧ σ' K9 0 = σ K9 0 + 1 ∧ σ' K9 1 = σ K9 1 + v ∧ σ' K9 2 = σ K9 2 + v * v := by
  unfold fX2_take
  simp only [mqb, mset_same]
  refine ⟨_, rfl, fun j hj => by rw [mset_ne hj, mset_ne hj, mset_ne hj], ?_, ?_, ?_⟩
  · simp only [mset_same]
    simp
  · simp only [mset_same]
    simp
  · simp only [mset_same]
    simp
theorem m_tallyOf {σ : qSt} {K9 : Nat} (h9 : K9 = 67 ∨ K9 = 68) {C k T L R K : Int} (hC : isI C) (k0 : 0 ≤ k) (k1 : k ≤ 2) (hw : WIN T L R K) (hT : σ 66 0 = T) (hL : σ 66 1 = L) (hR : σ 66 2 = R) (hK : σ 66 3 = K) (hk : KR (σ 2)) (hp : PR (σ 4)) (hv : ∀ x, 0 ≤ x → x < 96 → -1000000 ≤ nv σ C k x ∧ nv σ C k x ≤ 1000000) : ∃ σ', fX5_tallyOf K9 C k σ = some (0, σ') ∧ (∀ j, j ≠ K9 → σ' j = σ j) ∧ σ' K9 0 = sr (tf (σ 2) T L R K (fun _ => 1)) 96 ∧ σ' K9 1 = sr (tf (σ 2) T L R K (nv σ C k)) 96 ∧ σ' K9 2 = sr (tf (σ 2) T L R K (fun x => nv σ C k x * nv σ C k x)) 96 := by
  unfold fX5_tallyOf fX2_init
  rw [mqb, mqbd]
  have r0 : ∀ j, qrow σ K9 (fun _ => 0) K9 j = 0 := fun j => by unfold qrow; rw [if_pos rfl]
  have rf : ∀ j, j ≠ K9 → qrow σ K9 (fun _ => 0) j = σ j := fun j hj => mrow_ne hj
  generalize qrow σ K9 (fun _ => 0) = s0 at r0 rf ⊢
  obtain ⟨s, e, q1, q2, q3, q4⟩ := mloop (P := fun i t => (∀ j, j ≠ K9 → t j = σ j) ∧ t K9 0 = sr (tf (σ 2) T L R K (fun _ => 1)) i.toNat ∧ t K9 1 = sr (tf (σ 2) T L R K (nv σ C k)) i.toNat ∧ t K9 2 = sr (tf (σ 2) T L R K (fun x => nv σ C k x * nv σ C k x)) i.toNat) (F := fun f i t => fX5_tallyOf_c12 K9 f C k i t) (R := fun t => some (0, t)) 96 (by omega) (by omega) (fun f t _ => by
    show fX5_tallyOf_c12 K9 (f + 1) C k 96 t = _
    rw [fX5_tallyOf_c12, if_pos (by rw [mI_le] <;> omega)]) (fun f i t i0 i1 hP => by
    obtain ⟨fr, p1, p2, p3⟩ := hP
    have hki := hk i i0 i1
    have hvi := hv i i0 i1
    have t2 : t 2 = σ 2 := fr 2 (by omega)
    have t66 : t 66 = σ 66 := fr 66 (by omega)
    have t4 : t 4 = σ 4 := fr 4 (by omega)
    have tnv : nv t = nv σ := nv_congr t4 (fr 30 (by omega)) (fr 31 (by omega)) (fr 32 (by omega)) (fr 33 (by omega))
    show ∃ s1, fX5_tallyOf_c12 K9 (f + 1) C k i t = fX5_tallyOf_c12 K9 f C k (i + 1) s1 ∧ _
    rw [fX5_tallyOf_c12, if_neg (by rw [mI_le] <;> omega), if_pos (show 0 ≤ i ∧ i < 96 from ⟨i0, i1⟩), t2, iI_eq (by omega) (by omega) (by omega) (by omega), m_holds (by rw [t66]; exact hT) (by rw [t66]; exact hL) (by rw [t66]; exact hR) (by rw [t66]; exact hK) hw i0 i1, Option.bind_some, sr_step i0, sr_step i0, sr_step i0]
    have skip : ¬ (INW T L R K i ∧ σ 2 i ≠ 1) → ∃ s1, fX5_tallyOf_c76 K9 (fX5_tallyOf_c12 K9 f) C k i t = fX5_tallyOf_c12 K9 f C k (i + 1) s1 ∧ (∀ j, j ≠ K9 → s1 j = σ j) ∧ s1 K9 0 = sr (tf (σ 2) T L R K (fun _ => 1)) i.toNat + tf (σ 2) T L R K (fun _ => 1) i ∧ s1 K9 1 = sr (tf (σ 2) T L R K (nv σ C k)) i.toNat + tf (σ 2) T L R K (nv σ C k) i ∧ s1 K9 2 = sr (tf (σ 2) T L R K (fun x => nv σ C k x * nv σ C k x)) i.toNat + tf (σ 2) T L R K (fun x => nv σ C k x * nv σ C k x) i := fun hn => by
      unfold tf
      rw [if_neg hn, if_neg hn, if_neg hn]
      exact ⟨t, rfl, fr, by rw [p1]; unfold tf; omega, by rw [p2]; unfold tf; omega, by rw [p3]; unfold tf; omega⟩
    by_cases e1 : σ 2 i = 1
    · rw [if_pos e1]; exact skip (fun z => z.2 e1)
    · rw [if_neg e1]
      by_cases e2 : INW T L R K i
      · rw [if_pos e2, iI_yes, iI_eq0 hC.1 hC.2]
        have fin : ∀ v, v = nv σ C k i → ∃ s1, fX5_tallyOf_c73 K9 (fX5_tallyOf_c12 K9 f) C k i (qi2l v) t = fX5_tallyOf_c12 K9 f C k (i + 1) s1 ∧ (∀ j, j ≠ K9 → s1 j = σ j) ∧ s1 K9 0 = sr (tf (σ 2) T L R K (fun _ => 1)) i.toNat + tf (σ 2) T L R K (fun _ => 1) i ∧ s1 K9 1 = sr (tf (σ 2) T L R K (nv σ C k)) i.toNat + tf (σ 2) T L R K (nv σ C k) i ∧ s1 K9 2 = sr (tf (σ 2) T L R K (fun x => nv σ C k x * nv σ C k x)) i.toNat + tf (σ 2) T L R K (fun x => nv σ C k x * nv σ C k x) i := fun v hvv => by
          obtain ⟨t', d1, d2, d3, d4, d5⟩ := m_take (σ := t) (K9 := K9) (v := v)
          unfold fX5_tallyOf_c73
          rw [m_i2l (by omega) (by omega), d1, mqbd]
          refine ⟨t', rfl, fun j hj => by rw [d2 j hj]; exact fr j hj, ?_, ?_, ?_⟩
          · rw [d3, p1, show tf (σ 2) T L R K (fun _ => 1) i = 1 from if_pos ⟨e2, e1⟩]
          · rw [d4, p2, show tf (σ 2) T L R K (nv σ C k) i = nv σ C k i from if_pos ⟨e2, e1⟩, hvv]
          · rw [d5, p3, show tf (σ 2) T L R K (fun x => nv σ C k x * nv σ C k x) i = nv σ C k i * nv σ C k i from if_pos ⟨e2, e1⟩, hvv]
        by_cases eC : C = 0
        · rw [if_pos eC, m_numW (by rw [t4]; exact hp) k0 k1 i0 i1, Option.bind_some, tnv]
          exact fin _ (by rw [eC])
        · rw [if_neg eC, m_numC eC k0 k1 i0 i1, Option.bind_some, tnv]
          exact fin _ rfl
      · rw [if_neg e2, iI_no]; exact skip (fun z => e2 z.1)) (s := s0) ⟨rf, by rw [r0]; rfl, by rw [r0]; rfl, by rw [r0]; rfl⟩
  exact ⟨s, e, q1, q2, q3, q4⟩
