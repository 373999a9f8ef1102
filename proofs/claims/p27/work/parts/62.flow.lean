/-! ===== counts: meeting, moving ===== -/
theorem m_qdiv {x c : Int} (x0 : -2147483648 ≤ x) (x1 : x ≤ 2147483647) (c0 : 0 < c) (c1 : c ≤ 2147483647) : qdiv x c = x.tdiv c := by
  unfold qdiv
  rw [Int32.toInt_div_of_ne_right _ _ (fun e => by have h1 := congrArg Int32.toInt e; rw [qI_of (by omega) (by omega)] at h1; have h2 : (-1 : Int32).toInt = -1 := rfl; omega), qI_of x0 (by omega), qI_of (by omega) (by omega)]
def mn2 (x y : Int) : Int := if y < x then y else x
theorem m_min {σ : qSt} {x y : Int} (x0 : -2147483648 ≤ x) (x1 : x ≤ 2147483647) (y0 : -2147483648 ≤ y) (y1 : y ≤ 2147483647) : fJ9_min_7cf53 σ x y = some (mn2 x y) := by
  unfold fJ9_min_7cf53 mn2
  rw [iI_lt y0 y1 x0 x1]
  split <;> rfl
/-- how much goes from the level pair to the upright one -/
def evx (r u l d : Int) : Int := if qdiv (r + l - (u + d)) 4 ≤ 0 then (if 0 ≤ qdiv (r + l - (u + d)) 4 then 0 else -(mn2 (-(qdiv (r + l - (u + d)) 4)) (mn2 u d))) else mn2 (qdiv (r + l - (u + d)) 4) (mn2 r l)
theorem ev_e {r u l d : Int} (r0 : 0 ≤ r) (r1 : r ≤ 1000000) (u0 : 0 ≤ u) (u1 : u ≤ 1000000) (l0 : 0 ≤ l) (l1 : l ≤ 1000000) (d0 : 0 ≤ d) (d1 : d ≤ 1000000) : -2000000 ≤ qdiv (r + l - (u + d)) 4 ∧ qdiv (r + l - (u + d)) 4 ≤ 2000000 := by
  rw [m_qdiv (by omega) (by omega) (by omega) (by omega)]
  have h := Int.natAbs_tdiv_le_natAbs (r + l - (u + d)) 4
  omega
theorem evx_r {r u l d : Int} (r0 : 0 ≤ r) (u0 : 0 ≤ u) (l0 : 0 ≤ l) (d0 : 0 ≤ d) : evx r u l d ≤ r ∧ evx r u l d ≤ l ∧ -u ≤ evx r u l d ∧ -d ≤ evx r u l d := by
  unfold evx mn2
  generalize qdiv (r + l - (u + d)) 4 = e
  repeat' split
  all_goals omega
def evs (q : Int → Int → Int) (c : Int) : Int := evx (q c 0) (q c 1) (q c 2) (q c 3)
def ev (q : Int → Int → Int) (c w : Int) : Int := if w = 0 ∨ w = 2 then q c w - evs q c else q c w + evs q c
theorem evs_congr {q q' : Int → Int → Int} {c : Int} (h : ∀ w, 0 ≤ w → w < 4 → q c w = q' c w) : evs q c = evs q' c := by
  unfold evs
  rw [h 0 (by omega) (by omega), h 1 (by omega) (by omega), h 2 (by omega) (by omega), h 3 (by omega) (by omega)]
theorem ev_congr {q q' : Int → Int → Int} {c w : Int} (h : ∀ w, 0 ≤ w → w < 4 → q c w = q' c w) (w0 : 0 ≤ w) (w1 : w < 4) : ev q c w = ev q' c w := by
  unfold ev
  rw [evs_congr h, h w w0 w1]
theorem ev_0 {q : Int → Int → Int} {c w : Int} (h : ∀ w, 0 ≤ w → w < 4 → 0 ≤ q c w) (w0 : 0 ≤ w) (w1 : w < 4) : 0 ≤ ev q c w := by
  have e := evx_r (h 0 (by omega) (by omega)) (h 1 (by omega) (by omega)) (h 2 (by omega) (by omega)) (h 3 (by omega) (by omega))
  have e : evs q c ≤ q c 0 ∧ evs q c ≤ q c 2 ∧ -q c 1 ≤ evs q c ∧ -q c 3 ≤ evs q c := e
  unfold ev
  rcases (show w = 0 ∨ w = 1 ∨ w = 2 ∨ w = 3 by omega) with rfl | rfl | rfl | rfl
  · rw [if_pos (Or.inl rfl)]; omega
  · rw [if_neg (by omega)]; omega
  · rw [if_pos (Or.inr rfl)]; omega
  · rw [if_neg (by omega)]; omega
theorem ev_wall {q : Int → Int → Int} {c w : Int} (h : ∀ w, 0 ≤ w → w < 4 → q c w = 0) (w0 : 0 ≤ w) (w1 : w < 4) : ev q c w = 0 := by
  have a0 := h 0 (by omega) (by omega)
  have a1 := h 1 (by omega) (by omega)
  have a2 := h 2 (by omega) (by omega)
  have a3 := h 3 (by omega) (by omega)
  have e := evx_r (r := q c 0) (u := q c 1) (l := q c 2) (d := q c 3) (by omega) (by omega) (by omega) (by omega)
  have e : evs q c ≤ q c 0 ∧ evs q c ≤ q c 2 ∧ -q c 1 ≤ evs q c ∧ -q c 3 ≤ evs q c := e
  have := h w w0 w1
  unfold ev
  split <;> omega
theorem sm_ev {q : Int → Int → Int} : sm (ev q) 384 = sm q 384 := by
  rw [show 384 = 4 * 96 from rfl, sm_sr, sm_sr]
  refine sr_congr fun x _ _ => ?_
  show ev q x 0 + ev q x 1 + ev q x 2 + ev q x 3 = _
  unfold ev
  rw [if_pos (Or.inl rfl), if_neg (by omega), if_pos (Or.inr rfl), if_neg (by omega)]
  omega
theorem gq_congr {kd : Int → Int} {q q' : Int → Int → Int} {x v : Int} (h : ∀ c w, 0 ≤ c → c < 96 → 0 ≤ w → w < 4 → q c w = q' c w) (x0 : 0 ≤ x) (x1 : x < 96) (v0 : 0 ≤ v) (v1 : v < 4) : gq kd q x v = gq kd q' x v := by
  have hc := sC_r x0 x1 (kd := kd) (w := v)
  have hw := sW_r v0 v1 (kd := kd) (c := x)
  unfold gq
  rw [h _ _ hc.1 hc.2 hw.1 hw.2]
theorem sm_gq {kd : Int → Int} {q : Int → Int → Int} (hk : ∀ c w, 0 ≤ c → c < 96 → 0 ≤ w → w < 4 → kd c = 1 → q c w = 0) : sm (gq kd q) 384 = sm q 384 := by
  have key : ∀ n : Nat, n ≤ 384 → sm (gv kd q ix1 n) 384 = sm q n := by
    intro n
    induction n with
    | zero =>
      intro _
      rw [show sm (gv kd q ix1 ((0 : Nat) : Int)) 384 = sm (fun _ _ => 0) 384 from sm_congr' (fun c w c0 c1 w0 w1 => gv_0 ix1_ok c0 c1 w0 w1)]
      have : ∀ m : Nat, sm (fun _ _ => 0) m = 0 := fun m => by
        induction m with
        | zero => rfl
        | succ m ih => show sm _ m + 0 = 0; rw [ih]; rfl
      rw [this]; rfl
    | succ n ih =>
      intro hn
      have h0 : 0 ≤ ((n / 4 : Nat) : Int) := by omega
      have h1 : ((n / 4 : Nat) : Int) < 96 := by omega
      have h2 : 0 ≤ ((n % 4 : Nat) : Int) := by omega
      have h3 : ((n % 4 : Nat) : Int) < 4 := by omega
      have hi : ix1 ((n / 4 : Nat) : Int) ((n % 4 : Nat) : Int) = (n : Int) := by unfold ix1; omega
      show sm (gv kd q ix1 ((n : Int) + 1)) 384 = sm q n + q ((n / 4 : Nat) : Int) ((n % 4 : Nat) : Int)
      generalize ((n / 4 : Nat) : Int) = c at h0 h1 hi ⊢
      generalize ((n % 4 : Nat) : Int) = w at h2 h3 hi ⊢
      have hd := dC_r h0 h1 (kd := kd) (w := w)
      have hw := dW_r h2 h3 (kd := kd) (c := c)
      rw [sm_upd (f := gv kd q ix1 n) (c0 := dC kd c w) (w0 := dW kd c w) (d := q c w) hd.1 hw.1 hw.2 (fun x v x0 x1 v0 v1 => gv_step ix1_ok h0 h1 h2 h3 hi (fun z => hk c w h0 h1 h2 h3 z) x0 x1 v0 v1) 384 (Nat.le_refl _), if_pos (by omega), ih (by omega)]
  have := key 384 (Nat.le_refl _)
  rw [← this]
  exact sm_congr' fun c w c0 c1 w0 w1 => (gv_N ix1_ok c0 c1 w0 w1).symm
/-- the class's counts by (cell, way) -/
def rq (a : qSt) (c w : Int) : Int := a (30 + w.toNat) c
def CR (q : Int → Int → Int) : Prop := ∀ c w, 0 ≤ c → c < 96 → 0 ≤ w → w < 4 → 0 ≤ q c w ∧ q c w ≤ 1000000
theorem m_shift {a : qSt} {c n : Int} (c0 : 0 ≤ c) (c1 : c < 96) : ∃ a', fX0_shiftToUpright c n a = some (0, a') ∧ (∀ k, (k < 30 ∨ 33 < k) → a' k = a k) ∧ ∀ w x : Int, 0 ≤ w → w < 4 → a' (30 + w.toNat) x = if x = c then (if w = 0 ∨ w = 2 then a (30 + w.toNat) c - n else a (30 + w.toNat) c + n) else a (30 + w.toNat) x := by
  have hcc : 0 ≤ c ∧ c < 96 := ⟨c0, c1⟩
  unfold fX0_shiftToUpright
  simp only [if_pos hcc, mqb]
  refine ⟨_, rfl, fun k hk => by rw [mset_ne (by omega), mset_ne (by omega), mset_ne (by omega), mset_ne (by omega)], fun w x w0 w1 => ?_⟩
  rcases (show w = 0 ∨ w = 1 ∨ w = 2 ∨ w = 3 by omega) with rfl | rfl | rfl | rfl
  · show qset (qset (qset (qset a 30 c (a 30 c - n)) 32 c (qset a 30 c (a 30 c - n) 32 c - n)) 31 c (qset (qset a 30 c (a 30 c - n)) 32 c (qset a 30 c (a 30 c - n) 32 c - n) 31 c + n)) 33 c (qset (qset (qset a 30 c (a 30 c - n)) 32 c (qset a 30 c (a 30 c - n) 32 c - n)) 31 c (qset (qset a 30 c (a 30 c - n)) 32 c (qset a 30 c (a 30 c - n) 32 c - n) 31 c + n) 33 c + n) 30 x = if x = c then (if (0 : Int) = 0 ∨ (0 : Int) = 2 then a 30 c - n else a 30 c + n) else a 30 x
    rw [mset_ne (by omega), mset_ne (by omega), mset_ne (by omega), mset_same, if_pos (Or.inl rfl)]
  · show qset (qset (qset (qset a 30 c (a 30 c - n)) 32 c (qset a 30 c (a 30 c - n) 32 c - n)) 31 c (qset (qset a 30 c (a 30 c - n)) 32 c (qset a 30 c (a 30 c - n) 32 c - n) 31 c + n)) 33 c (qset (qset (qset a 30 c (a 30 c - n)) 32 c (qset a 30 c (a 30 c - n) 32 c - n)) 31 c (qset (qset a 30 c (a 30 c - n)) 32 c (qset a 30 c (a 30 c - n) 32 c - n) 31 c + n) 33 c + n) 31 x = if x = c then (if (1 : Int) = 0 ∨ (1 : Int) = 2 then a 31 c - n else a 31 c + n) else a 31 x
    have e31 : qset (qset a 30 c (a 30 c - n)) 32 c (qset a 30 c (a 30 c - n) 32 c - n) 31 = a 31 := by rw [mset_ne (by omega), mset_ne (by omega)]
    rw [mset_ne (by omega), mset_same, if_neg (show ¬ ((1 : Int) = 0 ∨ (1 : Int) = 2) by omega), e31]
  · show qset (qset (qset (qset a 30 c (a 30 c - n)) 32 c (qset a 30 c (a 30 c - n) 32 c - n)) 31 c (qset (qset a 30 c (a 30 c - n)) 32 c (qset a 30 c (a 30 c - n) 32 c - n) 31 c + n)) 33 c (qset (qset (qset a 30 c (a 30 c - n)) 32 c (qset a 30 c (a 30 c - n) 32 c - n)) 31 c (qset (qset a 30 c (a 30 c - n)) 32 c (qset a 30 c (a 30 c - n) 32 c - n) 31 c + n) 33 c + n) 32 x = if x = c then (if (2 : Int) = 0 ∨ (2 : Int) = 2 then a 32 c - n else a 32 c + n) else a 32 x
    have e32 : qset a 30 c (a 30 c - n) 32 = a 32 := mset_ne (by omega)
    rw [mset_ne (by omega), mset_ne (by omega), mset_same, if_pos (Or.inr rfl), e32]
  · show qset (qset (qset (qset a 30 c (a 30 c - n)) 32 c (qset a 30 c (a 30 c - n) 32 c - n)) 31 c (qset (qset a 30 c (a 30 c - n)) 32 c (qset a 30 c (a 30 c - n) 32 c - n) 31 c + n)) 33 c (qset (qset (qset a 30 c (a 30 c - n)) 32 c (qset a 30 c (a 30 c - n) 32 c - n)) 31 c (qset (qset a 30 c (a 30 c - n)) 32 c (qset a 30 c (a 30 c - n) 32 c - n) 31 c + n) 33 c + n) 33 x = if x = c then (if (3 : Int) = 0 ∨ (3 : Int) = 2 then a 33 c - n else a 33 c + n) else a 33 x
    have e33 : qset (qset (qset a 30 c (a 30 c - n)) 32 c (qset a 30 c (a 30 c - n) 32 c - n)) 31 c (qset (qset a 30 c (a 30 c - n)) 32 c (qset a 30 c (a 30 c - n) 32 c - n) 31 c + n) 33 = a 33 := by rw [mset_ne (by omega), mset_ne (by omega), mset_ne (by omega)]
    rw [mset_same, if_neg (show ¬ ((3 : Int) = 0 ∨ (3 : Int) = 2) by omega), e33]
theorem m_evenOut {a : qSt} {c : Int} (c0 : 0 ≤ c) (c1 : c < 96) (hr : ∀ w, 0 ≤ w → w < 4 → 0 ≤ rq a c w ∧ rq a c w ≤ 1000000) : ∃ a', fX0_evenOut c a = some (0, a') ∧ (∀ k, (k < 30 ∨ 33 < k) → a' k = a k) ∧ ∀ w x : Int, 0 ≤ w → w < 4 → a' (30 + w.toNat) x = if x = c then ev (rq a) c w else a (30 + w.toNat) x := by
  have hcc : 0 ≤ c ∧ c < 96 := ⟨c0, c1⟩
  have a0 : 0 ≤ a 30 c ∧ a 30 c ≤ 1000000 := hr 0 (by omega) (by omega)
  have a1 : 0 ≤ a 31 c ∧ a 31 c ≤ 1000000 := hr 1 (by omega) (by omega)
  have a2 : 0 ≤ a 32 c ∧ a 32 c ≤ 1000000 := hr 2 (by omega) (by omega)
  have a3 : 0 ≤ a 33 c ∧ a 33 c ≤ 1000000 := hr 3 (by omega) (by omega)
  have he := ev_e a0.1 a0.2 a1.1 a1.2 a2.1 a2.2 a3.1 a3.2
  have hs : evs (rq a) c = evx (a 30 c) (a 31 c) (a 32 c) (a 33 c) := rfl
  have sh : ∀ n, n = evs (rq a) c → ∃ a', fX0_shiftToUpright c n a = some (0, a') ∧ (∀ k, (k < 30 ∨ 33 < k) → a' k = a k) ∧ ∀ w x : Int, 0 ≤ w → w < 4 → a' (30 + w.toNat) x = if x = c then ev (rq a) c w else a (30 + w.toNat) x := fun n hn => by
    obtain ⟨a', e1, e2, e3⟩ := m_shift (a := a) (n := n) c0 c1
    refine ⟨a', e1, e2, fun w x w0 w1 => ?_⟩
    rw [e3 w x w0 w1, hn]
    rfl
  unfold fX0_evenOut
  simp only [if_pos hcc, mqb]
  unfold evx at hs
  generalize hee : qdiv (a 30 c + a 32 c - (a 31 c + a 33 c)) 4 = e at he hs ⊢
  rw [iI_le0 (by omega) (by omega), iI_0le (by omega) (by omega)]
  by_cases h1 : e ≤ 0
  · rw [if_pos h1] at hs ⊢
    by_cases h2 : 0 ≤ e
    · rw [if_pos h2] at hs ⊢
      refine ⟨a, rfl, fun _ _ => rfl, fun w x w0 w1 => ?_⟩
      by_cases ex : x = c
      · rw [if_pos ex, ex]
        unfold ev rq
        have hs : evs (fun c w => a (30 + w.toNat) c) c = 0 := hs
        rw [hs]
        split <;> omega
      · rw [if_neg ex]
    · rw [if_neg h2] at hs ⊢
      rw [m_min (by omega) (by omega) (by omega) (by omega), Option.bind_some, m_min (by omega) (by omega) (by unfold mn2; split <;> omega) (by unfold mn2; split <;> omega), Option.bind_some]
      obtain ⟨a', e1, e2⟩ := sh _ hs.symm
      rw [e1]
      exact ⟨a', rfl, e2⟩
  · rw [if_neg h1] at hs ⊢
    rw [m_min (by omega) (by omega) (by omega) (by omega), Option.bind_some, m_min (by omega) (by omega) (by unfold mn2; split <;> omega) (by unfold mn2; split <;> omega), Option.bind_some]
    obtain ⟨a', e1, e2⟩ := sh _ hs.symm
    rw [e1]
    exact ⟨a', rfl, e2⟩
theorem add_mv {t : qSt} {v0 x0 d v x : Int} (h0 : 0 ≤ v0) (h1 : 0 ≤ v) : qset t (34 + v0.toNat) x0 (t (34 + v0.toNat) x0 + d) (34 + v.toNat) x = t (34 + v.toNat) x + if x = x0 ∧ v = v0 then d else 0 := by
  by_cases e : v = v0
  · rw [e, mset_same]
    show (if x = x0 then _ else _) = _
    by_cases e2 : x = x0
    · rw [if_pos e2, if_pos ⟨e2, rfl⟩, e2]
    · rw [if_neg e2, if_neg (fun z => e2 z.1)]; omega
  · rw [mset_ne (by omega), if_neg (fun z => e z.2)]; omega
theorem m_moveAll {σ : qSt} {q : Int → Int → Int} {w : Int} (w0 : 0 ≤ w) (w1 : w < 4) (hk : KR (σ 2)) (hq : ∀ c v : Int, 0 ≤ c → c < 96 → 0 ≤ v → v < 4 → σ (30 + v.toNat) c = q c v) (hz : ∀ c v : Int, 0 ≤ c → c < 96 → 0 ≤ v → v < 4 → σ 2 c = 1 → q c v = 0) (h : ∀ x v : Int, 0 ≤ x → x < 96 → 0 ≤ v → v < 4 → σ (34 + v.toNat) x = gv (σ 2) q ix3 (96 * w) x v) : ∃ σ', fX0_moveAll w σ = some (0, σ') ∧ (∀ k, (k < 34 ∨ 37 < k) → σ' k = σ k) ∧ ∀ x v : Int, 0 ≤ x → x < 96 → 0 ≤ v → v < 4 → σ' (34 + v.toNat) x = gv (σ 2) q ix3 (96 * w + 96) x v := by
  have hww : 0 ≤ w ∧ w < 4 := ⟨w0, w1⟩
  unfold fX0_moveAll
  exact mloop (P := fun i t => (∀ k, (k < 34 ∨ 37 < k) → t k = σ k) ∧ ∀ x v : Int, 0 ≤ x → x < 96 → 0 ≤ v → v < 4 → t (34 + v.toNat) x = gv (σ 2) q ix3 (96 * w + i) x v) (F := fun f i t => fX0_moveAll_c2 f w i t) (R := fun t => some (0, t)) 96 (by omega) (by omega) (fun f t _ => by
    show fX0_moveAll_c2 (f + 1) w 96 t = _
    rw [fX0_moveAll_c2, if_pos (by rw [mI_le] <;> omega)]) (fun f i t i0 i1 hP => by
    obtain ⟨fr, hv⟩ := hP
    have hii : 0 ≤ i ∧ i < 96 := ⟨i0, i1⟩
    have hbr := bs_r i0 i1 (w := w)
    have ho := op_r w0 w1
    have e2 : t 2 = σ 2 := fr 2 (by omega)
    have e30 : t (30 + w.toNat) i = q i w := by rw [fr (30 + w.toNat) (by omega)]; exact hq i w i0 i1 w0 w1
    show ∃ s1, fX0_moveAll_c2 (f + 1) w i t = fX0_moveAll_c2 f w (i + 1) s1 ∧ _
    have fin : ∀ x0 v0 : Int, x0 = dC (σ 2) i w → v0 = dW (σ 2) i w → 0 ≤ v0 → v0 < 4 → ∃ s1, fX0_moveAll_c2 f w (i + 1) (qset t (34 + v0.toNat) x0 (t (34 + v0.toNat) x0 + t (30 + w.toNat) i)) = fX0_moveAll_c2 f w (i + 1) s1 ∧ (∀ k, (k < 34 ∨ 37 < k) → s1 k = σ k) ∧ ∀ x v : Int, 0 ≤ x → x < 96 → 0 ≤ v → v < 4 → s1 (34 + v.toNat) x = gv (σ 2) q ix3 (96 * w + (i + 1)) x v := fun x0 v0 hx0 hv0 v00 v01 => by
      refine ⟨_, rfl, fun k hk => by rw [mset_ne (by omega)]; exact fr k hk, fun x v xx0 xx1 vv0 vv1 => ?_⟩
      rw [add_mv v00 vv0, hv x v xx0 xx1 vv0 vv1, e30, show 96 * w + (i + 1) = 96 * w + i + 1 by omega, gv_step ix3_ok i0 i1 w0 w1 (by unfold ix3; rfl) (fun z => hz i w i0 i1 w0 w1 z) xx0 xx1 vv0 vv1, hx0, hv0]
    rw [fX0_moveAll_c2, if_neg (by rw [mI_le] <;> omega), m_beside i0 i1 w0 w1, Option.bind_some, m_isShut (B := 1) (by omega) (by omega) (show KR (t 2) by rw [e2]; exact hk), Option.bind_some]
    show ∃ s1, (if qI (if shut (t 2) (bs i w) then 1 else 0) = 0 then _ else _) = _ ∧ _
    rw [e2]
    by_cases hsh : shut (σ 2) (bs i w)
    · rw [if_pos hsh, iI_yes]
      unfold fX5_opposite
      rw [Option.bind_some, m_opp w0 w1]
      simp only [if_pos hww, if_pos hii, if_pos ho, mqb]
      exact fin i (op w) (by unfold dC; rw [if_pos hsh]) (by unfold dW; rw [if_pos hsh]) ho.1 ho.2
    · rw [if_neg hsh, iI_no]
      have hb9 : 0 ≤ bs i w ∧ bs i w < 96 := by
        have : bs i w ≠ -1 := fun z => hsh (Or.inl z)
        omega
      simp only [if_pos hww, if_pos hii, if_pos hb9, mqb]
      exact fin (bs i w) w (by unfold dC; rw [if_neg hsh]) (by unfold dW; rw [if_neg hsh]) w0 w1) (s := σ) ⟨fun _ _ => rfl, fun x v x0 x1 v0 v1 => by rw [h x v x0 x1 v0 v1, show 96 * w + 0 = 96 * w by omega]⟩
theorem m_passRound {a : qSt} (hk : KR (a 2)) (hr : CR (rq a)) (hz : ∀ c v : Int, 0 ≤ c → c < 96 → 0 ≤ v → v < 4 → a 2 c = 1 → rq a c v = 0) (hm : ∀ c v : Int, 0 ≤ c → c < 96 → 0 ≤ v → v < 4 → a (34 + v.toNat) c = 0) : ∃ a', fX0_passRound a = some (0, a') ∧ (∀ k, k ≠ 27 → (k < 30 ∨ 37 < k) → a' k = a k) ∧ (∀ j, a' 27 j = if j = 3 then a 27 3 + 1 else a 27 j) ∧ ∀ x v : Int, 0 ≤ x → x < 96 → 0 ≤ v → v < 4 → a' (30 + v.toNat) x = gq (a 2) (ev (rq a)) x v ∧ a' (34 + v.toNat) x = 0 := by
  unfold fX0_passRound
  -- meeting
  obtain ⟨s1, e1, f1, g1⟩ := mloop (P := fun i t => (∀ k, (k < 30 ∨ 33 < k) → t k = a k) ∧ ∀ w x : Int, 0 ≤ w → w < 4 → t (30 + w.toNat) x = if 0 ≤ x ∧ x < i then ev (rq a) x w else a (30 + w.toNat) x) (F := fun f i t => fX0_passRound_c2 f i t) (R := fun t => fX0_passRound_c21 qFU 0 t) 96 (by omega) (by omega) (fun f t _ => by
    show fX0_passRound_c2 (f + 1) 96 t = _
    rw [fX0_passRound_c2, if_pos (by rw [mI_le] <;> omega)]) (fun f i t i0 i1 hP => by
    obtain ⟨fr, hv⟩ := hP
    have hsame : ∀ w, 0 ≤ w → w < 4 → rq t i w = rq a i w := fun w w0 w1 => by
      show t (30 + w.toNat) i = _
      rw [hv w i w0 w1, if_neg (by omega)]; rfl
    obtain ⟨t', d1, d2, d3⟩ := m_evenOut (a := t) i0 i1 (fun w w0 w1 => by rw [hsame w w0 w1]; exact hr i w i0 i1 w0 w1)
    show ∃ s1, fX0_passRound_c2 (f + 1) i t = fX0_passRound_c2 f (i + 1) s1 ∧ _
    rw [fX0_passRound_c2, if_neg (by rw [mI_le] <;> omega), d1, mqbd]
    refine ⟨t', rfl, fun k hk => by rw [d2 k hk]; exact fr k hk, fun w x w0 w1 => ?_⟩
    rw [d3 w x w0 w1, hv w x w0 w1]
    by_cases ex : x = i
    · rw [if_pos ex, if_pos (by omega), ex]
      exact ev_congr hsame w0 w1
    · rw [if_neg ex]
      by_cases e2 : 0 ≤ x ∧ x < i
      · rw [if_pos e2, if_pos (by omega)]
      · rw [if_neg e2, if_neg (by omega)]) (s := a) ⟨fun _ _ => rfl, fun w x _ _ => by rw [if_neg (by omega)]⟩
  have e1 : fX0_passRound_c2 qFU 0 a = fX0_passRound_c21 qFU 0 s1 := e1
  rw [e1]
  have s12 : s1 2 = a 2 := f1 2 (by omega)
  have hzq : ∀ c v : Int, 0 ≤ c → c < 96 → 0 ≤ v → v < 4 → a 2 c = 1 → ev (rq a) c v = 0 := fun c v c0 c1 v0 v1 z => ev_wall (fun w w0 w1 => hz c w c0 c1 w0 w1 z) v0 v1
  -- moving
  obtain ⟨s2, e2, f2, g2⟩ := mloop (P := fun i t => (∀ k, (k < 34 ∨ 37 < k) → t k = s1 k) ∧ ∀ x v : Int, 0 ≤ x → x < 96 → 0 ≤ v → v < 4 → t (34 + v.toNat) x = gv (a 2) (ev (rq a)) ix3 (96 * i) x v) (F := fun f i t => fX0_passRound_c21 f i t) (R := fun t => fX0_passRound_c40 qFU 0 t) 4 (by omega) (by omega) (fun f t _ => by
    show fX0_passRound_c21 (f + 1) 4 t = _
    rw [fX0_passRound_c21, if_pos (by rw [mI_le] <;> omega)]) (fun f i t i0 i1 hP => by
    obtain ⟨fr, hv⟩ := hP
    have t2 : t 2 = a 2 := by rw [fr 2 (by omega), s12]
    obtain ⟨t', d1, d2, d3⟩ := m_moveAll (σ := t) (q := ev (rq a)) i0 i1 (by rw [t2]; exact hk) (fun c v c0 c1 v0 v1 => by rw [fr (30 + v.toNat) (by omega), g1 v c v0 v1, if_pos ⟨c0, c1⟩]) (by rw [t2]; exact hzq) (by rw [t2]; exact hv)
    show ∃ s1, fX0_passRound_c21 (f + 1) i t = fX0_passRound_c21 f (i + 1) s1 ∧ _
    rw [fX0_passRound_c21, if_neg (by rw [mI_le] <;> omega), d1, mqbd]
    refine ⟨t', rfl, fun k hk => by rw [d2 k hk]; exact fr k hk, fun x v x0 x1 v0 v1 => ?_⟩
    rw [d3 x v x0 x1 v0 v1, t2, show 96 * i + 96 = 96 * (i + 1) by omega]) (s := s1) ⟨fun _ _ => rfl, fun x v x0 x1 v0 v1 => by
      rw [f1 (34 + v.toNat) (by omega), hm x v x0 x1 v0 v1, show (96 : Int) * 0 = 0 by omega, gv_0 ix3_ok x0 x1 v0 v1]⟩
  have e2 : fX0_passRound_c21 qFU 0 s1 = fX0_passRound_c40 qFU 0 s2 := e2
  rw [e2]
  -- back into the rows
  obtain ⟨s3, e3, f3, g3⟩ := mloop (P := fun i t => (∀ k, (k < 30 ∨ 37 < k) → t k = s2 k) ∧ ∀ x v : Int, 0 ≤ x → x < 96 → 0 ≤ v → v < 4 → (v < i → t (30 + v.toNat) x = s2 (34 + v.toNat) x ∧ t (34 + v.toNat) x = 0) ∧ (i ≤ v → t (34 + v.toNat) x = s2 (34 + v.toNat) x)) (F := fun f i t => fX0_passRound_c40 f i t) (R := fun t => some (0, qset t 27 3 (t 27 3 + 1))) 4 (by omega) (by omega) (fun f t _ => by
    show fX0_passRound_c40 (f + 1) 4 t = _
    rw [fX0_passRound_c40, if_pos (by rw [mI_le] <;> omega), mqb]) (fun f i t i0 i1 hP => by
    obtain ⟨fr, hv⟩ := hP
    have hii : 0 ≤ i ∧ i < 4 := ⟨i0, i1⟩
    show ∃ s1, fX0_passRound_c40 (f + 1) i t = fX0_passRound_c40 f (i + 1) s1 ∧ _
    rw [fX0_passRound_c40, if_neg (by rw [mI_le] <;> omega)]
    simp only [if_pos hii, mqb]
    obtain ⟨t', d1, d2, d3⟩ := mfill (34 + i.toNat) 0 (qrow t (30 + i.toNat) (fun i' => if 0 ≤ i' ∧ i' < 96 then t (34 + i.toNat) i' else t (30 + i.toNat) i'))
    rw [d1, mqbd]
    have hrow : ∀ x, 0 ≤ x → x < 96 → qrow t (30 + i.toNat) (fun i' => if 0 ≤ i' ∧ i' < 96 then t (34 + i.toNat) i' else t (30 + i.toNat) i') (30 + i.toNat) x = t (34 + i.toNat) x := fun x x0 x1 => by
      unfold qrow
      rw [if_pos rfl]
      show (if 0 ≤ x ∧ x < 96 then _ else _) = _
      rw [if_pos ⟨x0, x1⟩]
    refine ⟨t', rfl, fun k hk => by rw [d2 k (by omega), mrow_ne (by omega)]; exact fr k hk, fun x v x0 x1 v0 v1 => ⟨fun hvi => ?_, fun hvi => ?_⟩⟩
    · by_cases ev : v = i
      · subst ev
        rw [d2 (30 + v.toNat) (by omega), hrow x x0 x1, d3 x, if_pos ⟨x0, x1⟩]
        exact ⟨(hv x v x0 x1 v0 v1).2 (by omega), rfl⟩
      · rw [d2 (30 + v.toNat) (by omega), d2 (34 + v.toNat) (by omega), mrow_ne (by omega), mrow_ne (by omega)]
        exact (hv x v x0 x1 v0 v1).1 (by omega)
    · rw [d2 (34 + v.toNat) (by omega), mrow_ne (by omega)]
      exact (hv x v x0 x1 v0 v1).2 (by omega)) (s := s2) ⟨fun _ _ => rfl, fun x v x0 x1 v0 v1 => ⟨fun z => by omega, fun _ => rfl⟩⟩
  have e3 : fX0_passRound_c40 qFU 0 s2 = some (0, qset s3 27 3 (s3 27 3 + 1)) := e3
  rw [e3]
  have s27 : s3 27 = a 27 := by rw [f3 27 (by omega), f2 27 (by omega), f1 27 (by omega)]
  refine ⟨_, rfl, fun k k0 k1 => by rw [mset_ne k0, f3 k k1, f2 k (by omega), f1 k (by omega)], fun j => by rw [mset_same, s27], fun x v x0 x1 v0 v1 => ?_⟩
  obtain ⟨y1, y2⟩ := (g3 x v x0 x1 v0 v1).1 v1
  rw [mset_ne (by omega), mset_ne (by omega), y1, y2, g2 x v x0 x1 v0 v1]
  exact ⟨gv_N ix3_ok x0 x1 v0 v1, rfl⟩
