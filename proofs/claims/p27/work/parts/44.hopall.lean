theorem m_hopOne {B : Nat} {σ : qSt} {c w s : Int} (h0 : 0 ≤ c) (h1 : c < 96) (h3 : 0 ≤ w) (h4 : w < 4) (hk : KR (σ (B + 1))) (hb : BR (σ (B + 2))) (hd : PR (σ (B + 4))) : ∃ σ', fX3_hopOne B c w s σ = some (0, σ') ∧ (∀ k, k ≠ B + 5 → k ≠ B + 6 → k ≠ B + 7 → k ≠ B + 8 → k ≠ B + 9 → k ≠ B + 12 → σ' k = σ k) ∧ (∀ x, σ' (B + 5) x = (if x = dC (σ (B + 1)) c w then qor (σ (B + 5) (dC (σ (B + 1)) c w)) (qshl 1 (dW (σ (B + 1)) c w)) else σ (B + 5) x) ∧ σ' (B + 6) x = (if x = dC (σ (B + 1)) c w then qor (σ (B + 6) (dC (σ (B + 1)) c w)) (qshl (bt (σ (B + 4) c) w) (dW (σ (B + 1)) c w)) else σ (B + 6) x)) ∧ (∀ j, σ' (B + 12) j = σ (B + 12) j + if shut (σ (B + 1)) (bs c w) ∧ w = j then s else 0) ∧ ∀ b, 0 ≤ b → σ' (B + 7) b = σ (B + 7) b + (if hB (σ (B + 1)) (σ (B + 2)) c w = b then s else 0) ∧ σ' (B + 8) b = σ (B + 8) b + (if hB (σ (B + 1)) (σ (B + 2)) c w = b then s * rgt w else 0) ∧ σ' (B + 9) b = σ (B + 9) b + (if hB (σ (B + 1)) (σ (B + 2)) c w = b then s * upw w else 0) := by
  have c40 : ∀ (σ1 : qSt) (t v : Int), 0 ≤ t → t < 96 → σ1 (B + 4) = σ (B + 4) → σ1 (B + 5) = σ (B + 5) → σ1 (B + 6) = σ (B + 6) → ∃ σ', fX3_hopOne_c40 B c w t v σ1 = some (0, σ') ∧ (∀ k, k ≠ B + 5 → k ≠ B + 6 → σ' k = σ1 k) ∧ ∀ x, σ' (B + 5) x = (if x = t then qor (σ (B + 5) t) (qshl 1 v) else σ (B + 5) x) ∧ σ' (B + 6) x = (if x = t then qor (σ (B + 6) t) (qshl (bt (σ (B + 4) c) w) v) else σ (B + 6) x) := by
    intro σ1 t v t0 t1 e4 e5 e6
    unfold fX3_hopOne_c40
    have ht : 0 ≤ t ∧ t < 96 := ⟨t0, t1⟩
    have hr := hd c h0 h1
    rw [if_pos ht, if_pos ht, mqb, if_pos ht, if_pos (show 0 ≤ c ∧ c < 96 from ⟨h0, h1⟩), if_pos ht, mqb]
    rw [mset_ne (k := B + 5) (k' := B + 6) (by omega), mset_ne (k := B + 5) (k' := B + 4) (by omega), e4, e5, e6, m_bit hr.1 hr.2 h3 h4]
    refine ⟨_, rfl, fun k e7 e8 => by rw [mset_ne e8, mset_ne e7], fun x => ⟨?_, ?_⟩⟩
    · rw [mset_ne (by omega), mset_same]
      show (if x = t then _ else σ1 (B + 5) x) = _
      rw [e5]
    · rw [mset_same]
      show (if x = t then _ else qset σ1 (B + 5) t _ (B + 6) x) = _
      rw [mset_ne (by omega), e6]
  have hbr := bs_r h0 h1 (w := w)
  unfold fX3_hopOne
  rw [m_beside h0 h1 h3 h4, Option.bind_some, m_isShut hbr.1 hbr.2 hk, Option.bind_some]
  by_cases hs : shut (σ (B + 1)) (bs c w)
  · rw [if_pos hs, iI_yes]
    obtain ⟨σ1, e1, f1, g1, u1⟩ := m_countHit (s := s) hbr.1 hbr.2 h3 h4 hb
    rw [e1, mqbd]
    unfold fX5_opposite
    rw [Option.bind_some, m_opp h3 h4]
    obtain ⟨σ2, e2, f2, r2⟩ := c40 σ1 c (op w) h0 h1 (f1 _ (by omega) (by omega) (by omega) (by omega)) (f1 _ (by omega) (by omega) (by omega) (by omega)) (f1 _ (by omega) (by omega) (by omega) (by omega))
    have eC : dC (σ (B + 1)) c w = c := if_pos hs
    have eW : dW (σ (B + 1)) c w = op w := if_pos hs
    have eH : hB (σ (B + 1)) (σ (B + 2)) c w = (if bs c w = -1 then -1 else σ (B + 2) (bs c w)) := by
      unfold hB
      by_cases e : bs c w = -1
      · rw [if_pos e, if_pos e]
      · rw [if_neg e, if_neg e, if_pos (hs.resolve_left e)]
    rw [eC, eW, eH]
    refine ⟨σ2, e2, fun k a5 a6 a7 a8 a9 a12 => (f2 k a5 a6).trans (f1 k a7 a8 a9 a12), r2, fun j => ?_, fun b hb0 => ?_⟩
    · rw [f2 _ (by omega) (by omega), g1 j]
      congr 1
      by_cases e : j = w
      · rw [if_pos e, if_pos ⟨hs, e.symm⟩]
      · rw [if_neg e, if_neg (fun h => e h.2.symm)]
    · obtain ⟨v1, v2, v3⟩ := u1 b hb0
      rw [f2 _ (by omega) (by omega), f2 _ (by omega) (by omega), f2 _ (by omega) (by omega), v1, v2, v3]
      simp only [eq_comm (a := b), and_self]
  · rw [if_neg hs, iI_no]
    have eC : dC (σ (B + 1)) c w = bs c w := if_neg hs
    have eW : dW (σ (B + 1)) c w = w := if_neg hs
    have n1 : bs c w ≠ -1 := fun e => hs (Or.inl e)
    have eH : hB (σ (B + 1)) (σ (B + 2)) c w = -1 := by
      unfold hB
      rw [if_neg n1, if_neg (fun e => hs (Or.inr e))]
    rw [eC, eW, eH]
    obtain ⟨σ2, e2, f2, r2⟩ := c40 σ (bs c w) w (by omega) hbr.2 rfl rfl rfl
    refine ⟨σ2, e2, fun k a5 a6 a7 a8 a9 a12 => f2 k a5 a6, r2, fun j => ?_, fun b hb0 => ?_⟩
    · rw [f2 _ (by omega) (by omega), if_neg (fun h => hs h.1)]; omega
    · rw [f2 _ (by omega) (by omega), f2 _ (by omega) (by omega), f2 _ (by omega) (by omega), if_neg (by omega), if_neg (by omega), if_neg (by omega)]
      omega
def qbt (r : Int → Int) (c w : Int) : Int := bt (r c) w
theorem qbt_r (r : Int → Int) (c w : Int) : 0 ≤ qbt r c w ∧ qbt r c w ≤ 1 := bt_r _ _
/-- nothing in walls; dye in particles only -/
def WF (kd pt : Int → Int) : Prop := ∀ c, 0 ≤ c → c < 96 → kd c = 1 → pt c = 0
def DS (dy pt : Int → Int) : Prop := ∀ c w, 0 ≤ c → c < 96 → 0 ≤ w → w < 4 → qbt dy c w ≤ qbt pt c w
theorem bt_0 (w : Int) : bt 0 w = 0 := by unfold bt; simp
def HI (B : Nat) (s : Int) (σ0 : qSt) (i : Int) (σ : qSt) : Prop :=
  (∀ k, k ≠ B + 5 → k ≠ B + 6 → k ≠ B + 7 → k ≠ B + 8 → k ≠ B + 9 → k ≠ B + 12 → σ k = σ0 k) ∧
  (∀ x, 0 ≤ x → x < 96 → σ (B + 5) x = mk (gv (σ0 (B + 1)) (qbt (σ0 (B + 3))) ix1 i x) ∧ σ (B + 6) x = mk (gv (σ0 (B + 1)) (qbt (σ0 (B + 4))) ix1 i x)) ∧
  (∀ j, σ (B + 12) j = σ0 (B + 12) j + s * sm (hS (σ0 (B + 1)) (qbt (σ0 (B + 3))) j) i.toNat) ∧
  ∀ b, 0 ≤ b → σ (B + 7) b = σ0 (B + 7) b + s * sm (hN (σ0 (B + 1)) (σ0 (B + 2)) (qbt (σ0 (B + 3))) b) i.toNat ∧ σ (B + 8) b = σ0 (B + 8) b + s * sm (hR (σ0 (B + 1)) (σ0 (B + 2)) (qbt (σ0 (B + 3))) b) i.toNat ∧ σ (B + 9) b = σ0 (B + 9) b + s * sm (hU (σ0 (B + 1)) (σ0 (B + 2)) (qbt (σ0 (B + 3))) b) i.toNat
theorem HI_skip {B : Nat} {s : Int} {σ0 σ : qSt} {c w i : Int} (h0 : 0 ≤ c) (h1 : c < 96) (h3 : 0 ≤ w) (h4 : w < 4) (hi : i = 4 * c + w) (hq : qbt (σ0 (B + 3)) c w = 0) (hq2 : qbt (σ0 (B + 4)) c w = 0) (h : HI B s σ0 i σ) : HI B s σ0 (i + 1) σ := by
  obtain ⟨f, r, a, u⟩ := h
  have hi' : ix1 c w = i := hi.symm
  refine ⟨f, fun x x0 x1 => ?_, fun j => ?_, fun b hb => ?_⟩
  · rw [row_step ix1_ok (qbt_r _) h0 h1 h3 h4 hi' (fun _ => hq) x0 x1, row_step ix1_ok (qbt_r _) h0 h1 h3 h4 hi' (fun _ => hq2) x0 x1, hq, hq2]
    obtain ⟨r1, r2⟩ := r x x0 x1
    rw [r1, r2]
    constructor
    · split <;> omega
    · split <;> omega
  · rw [sm_step h0 h3 h4 hi, show hS (σ0 (B + 1)) (qbt (σ0 (B + 3))) j c w = 0 by unfold hS; rw [hq]; split <;> rfl, Int.add_zero]
    exact a j
  · obtain ⟨u1, u2, u3⟩ := u b hb
    rw [sm_step h0 h3 h4 hi, sm_step h0 h3 h4 hi, sm_step h0 h3 h4 hi, show hN (σ0 (B + 1)) (σ0 (B + 2)) (qbt (σ0 (B + 3))) b c w = 0 by unfold hN; rw [hq]; split <;> rfl, show hR (σ0 (B + 1)) (σ0 (B + 2)) (qbt (σ0 (B + 3))) b c w = 0 by unfold hR; rw [hq]; split <;> omega, show hU (σ0 (B + 1)) (σ0 (B + 2)) (qbt (σ0 (B + 3))) b c w = 0 by unfold hU; rw [hq]; split <;> omega, Int.add_zero, Int.add_zero, Int.add_zero]
    exact ⟨u1, u2, u3⟩
theorem HI_hop {B : Nat} {s : Int} {σ0 σ : qSt} {c w i : Int} (hk : KR (σ0 (B + 1))) (hb : BR (σ0 (B + 2))) (hd : PR (σ0 (B + 4))) (h0 : 0 ≤ c) (h1 : c < 96) (h3 : 0 ≤ w) (h4 : w < 4) (hi : i = 4 * c + w) (hkc : σ0 (B + 1) c ≠ 1) (hq : qbt (σ0 (B + 3)) c w = 1) (h : HI B s σ0 i σ) : ∃ σ', fX3_hopOne B c w s σ = some (0, σ') ∧ HI B s σ0 (i + 1) σ' := by
  obtain ⟨f, r, a, u⟩ := h
  have hi' : ix1 c w = i := hi.symm
  have e1 : σ (B + 1) = σ0 (B + 1) := f _ (by omega) (by omega) (by omega) (by omega) (by omega) (by omega)
  have e2 : σ (B + 2) = σ0 (B + 2) := f _ (by omega) (by omega) (by omega) (by omega) (by omega) (by omega)
  have e4 : σ (B + 4) = σ0 (B + 4) := f _ (by omega) (by omega) (by omega) (by omega) (by omega) (by omega)
  obtain ⟨σ', g1, g2, g3, g4, g5⟩ := m_hopOne (B := B) (σ := σ) (s := s) h0 h1 h3 h4 (by rw [e1]; exact hk) (by rw [e2]; exact hb) (by rw [e4]; exact hd)
  rw [e1] at g3 g4 g5
  rw [e2] at g5
  rw [e4] at g3
  have hdC := dC_r h0 h1 (kd := σ0 (B + 1)) (w := w)
  refine ⟨σ', g1, fun k k5 k6 k7 k8 k9 k12 => (g2 k k5 k6 k7 k8 k9 k12).trans (f k k5 k6 k7 k8 k9 k12), fun x x0 x1 => ?_, fun j => ?_, fun b hb0 => ?_⟩
  · obtain ⟨g3a, g3b⟩ := g3 x
    obtain ⟨r1, r2⟩ := r x x0 x1
    rw [g3a, g3b]
    by_cases e : x = dC (σ0 (B + 1)) c w
    · rw [if_pos e, if_pos e, (r _ hdC.1 hdC.2).1, (r _ hdC.1 hdC.2).2]
      rw [row_or (qq := fun _ _ => 0) ix1_ok (qbt_r _) h0 h1 h3 h4 hi' hkc hq.symm, row_or (q := qbt (σ0 (B + 4))) (b := bt (σ0 (B + 4) c) w) (qq := fun _ _ => 0) ix1_ok (qbt_r _) h0 h1 h3 h4 hi' hkc rfl, e]
      exact ⟨rfl, rfl⟩
    · rw [if_neg e, if_neg e, r1, r2, row_step ix1_ok (qbt_r _) h0 h1 h3 h4 hi' (fun z => absurd z hkc) x0 x1, if_neg e, row_step ix1_ok (qbt_r _) h0 h1 h3 h4 hi' (fun z => absurd z hkc) x0 x1, if_neg e]
      exact ⟨rfl, rfl⟩
  · rw [g4 j, a j, sm_step h0 h3 h4 hi, show hS (σ0 (B + 1)) (qbt (σ0 (B + 3))) j c w = (if shut (σ0 (B + 1)) (bs c w) ∧ w = j then 1 else 0) by unfold hS; rw [hq], Int.mul_add]
    split <;> omega
  · obtain ⟨u1, u2, u3⟩ := u b hb0
    obtain ⟨v1, v2, v3⟩ := g5 b hb0
    rw [v1, v2, v3, u1, u2, u3, sm_step h0 h3 h4 hi, sm_step h0 h3 h4 hi, sm_step h0 h3 h4 hi]
    unfold hN hR hU
    rw [hq]
    by_cases e : hB (σ0 (B + 1)) (σ0 (B + 2)) c w = b
    · simp only [if_pos e, Int.mul_add, Int.one_mul, Int.mul_one]
      refine ⟨by omega, by omega, by omega⟩
    · simp only [if_neg e, Int.mul_add, Int.mul_zero]
      refine ⟨by omega, by omega, by omega⟩
theorem m_has {σ : qSt} {x w : Int} (h0 : 0 ≤ x) (h1 : x ≤ 15) (h3 : 0 ≤ w) (h4 : w < 4) : fX5_has σ x w = some (bt x w) := by
  unfold fX5_has
  rw [m_bit h0 h1 h3 h4]
  have := bt_r x w
  rcases (show bt x w = 0 ∨ bt x w = 1 by omega) with e | e
  · rw [e, iI_no]
  · rw [e, iI_yes]
/-- all particles hop -/
theorem m_hopAll {B : Nat} {σ : qSt} (s : Int) (hk : KR (σ (B + 1))) (hb : BR (σ (B + 2))) (hp : PR (σ (B + 3))) (hd : PR (σ (B + 4))) (hw : WF (σ (B + 1)) (σ (B + 3))) (hds : DS (σ (B + 4)) (σ (B + 3))) : ∃ σ', fX3_hopAll B s σ = some (0, σ') ∧ (∀ k, k ≠ B + 3 → k ≠ B + 4 → k ≠ B + 5 → k ≠ B + 6 → k ≠ B + 7 → k ≠ B + 8 → k ≠ B + 9 → k ≠ B + 12 → σ' k = σ k) ∧ (∀ x, σ' (B + 3) x = (if 0 ≤ x ∧ x < 96 then mk (gq (σ (B + 1)) (qbt (σ (B + 3))) x) else σ (B + 3) x) ∧ σ' (B + 4) x = (if 0 ≤ x ∧ x < 96 then mk (gq (σ (B + 1)) (qbt (σ (B + 4))) x) else σ (B + 4) x)) ∧ (∀ j, σ' (B + 12) j = σ (B + 12) j + s * sm (hS (σ (B + 1)) (qbt (σ (B + 3))) j) 384) ∧ ∀ b, 0 ≤ b → σ' (B + 7) b = σ (B + 7) b + s * sm (hN (σ (B + 1)) (σ (B + 2)) (qbt (σ (B + 3))) b) 384 ∧ σ' (B + 8) b = σ (B + 8) b + s * sm (hR (σ (B + 1)) (σ (B + 2)) (qbt (σ (B + 3))) b) 384 ∧ σ' (B + 9) b = σ (B + 9) b + s * sm (hU (σ (B + 1)) (σ (B + 2)) (qbt (σ (B + 3))) b) 384 := by
  unfold fX3_hopAll
  obtain ⟨σ1, e1, f1, r1⟩ := mfill (B + 5) 0 σ
  rw [e1, mqbd]
  obtain ⟨σ2, e2, f2, r2⟩ := mfill (B + 6) 0 σ1
  rw [e2, mqbd]
  have z : ∀ q : Int → Int → Int, (∀ c w, 0 ≤ q c w ∧ q c w ≤ 1) → ∀ x, 0 ≤ x → x < 96 → mk (gv (σ (B + 1)) q ix1 0 x) = 0 := fun q hq x x0 x1 => by
    unfold mk
    rw [gv_0 ix1_ok x0 x1 (by omega) (by omega), gv_0 ix1_ok x0 x1 (by omega) (by omega), gv_0 ix1_ok x0 x1 (by omega) (by omega), gv_0 ix1_ok x0 x1 (by omega) (by omega)]
    rfl
  have start : HI B s σ (4 * 0) σ2 := by
    refine ⟨fun k k5 k6 _ _ _ _ => (f2 k k6).trans (f1 k k5), fun x x0 x1 => ?_, fun j => ?_, fun b hb0 => ?_⟩
    · show σ2 (B + 5) x = mk (gv (σ (B + 1)) (qbt (σ (B + 3))) ix1 0 x) ∧ σ2 (B + 6) x = mk (gv (σ (B + 1)) (qbt (σ (B + 4))) ix1 0 x)
      rw [z _ (qbt_r _) x x0 x1, z _ (qbt_r _) x x0 x1, f2 _ (by omega), r1 x, r2 x, if_pos ⟨x0, x1⟩, if_pos ⟨x0, x1⟩]
      exact ⟨rfl, rfl⟩
    · rw [f2 _ (by omega), f1 _ (by omega)]
      show _ = _ + s * 0
      omega
    · rw [f2 _ (by omega), f1 _ (by omega), f2 _ (by omega), f1 _ (by omega), f2 _ (by omega), f1 _ (by omega)]
      show _ = _ + s * 0 ∧ _ = _ + s * 0 ∧ _ = _ + s * 0
      omega
  obtain ⟨σ3, e3, h3⟩ := mloop (P := fun c t => HI B s σ (4 * c) t) (F := fun f c t => fX3_hopAll_c18 B f s c t) (R := fun t => fX3_hopAll_c18 B 1 s 96 t) 96 (by omega) (by omega) (fun f t _ => by
    show fX3_hopAll_c18 B (f + 1) s 96 t = fX3_hopAll_c18 B (0 + 1) s 96 t
    rw [fX3_hopAll_c18, fX3_hopAll_c18, if_pos (by rw [mI_le] <;> omega), if_pos (by rw [mI_le] <;> omega)]) (fun f c t c0 c1 hP => by
    show ∃ s1, fX3_hopAll_c18 B (f + 1) s c t = fX3_hopAll_c18 B f s (c + 1) s1 ∧ HI B s σ (4 * (c + 1)) s1
    rw [fX3_hopAll_c18, if_neg (by rw [mI_le] <;> omega)]
    have ep : ∀ t i, HI B s σ i t → t (B + 3) = σ (B + 3) := fun t i h => h.1 _ (by omega) (by omega) (by omega) (by omega) (by omega) (by omega)
    have hr := hp c c0 c1
    by_cases hz : σ (B + 3) c = 0
    · refine ⟨t, ?_, ?_⟩
      · show fX3_hopAll_c26 B (fX3_hopAll_c18 B f) (99999 + 1) s c 0 t = _
        rw [fX3_hopAll_c26, if_neg (by rw [mI_le] <;> omega), if_pos ⟨c0, c1⟩, ep _ _ hP, hz, iI_no]
        rfl
      · have q0 : ∀ w, 0 ≤ w → w < 4 → qbt (σ (B + 3)) c w = 0 ∧ qbt (σ (B + 4)) c w = 0 := fun w w0 w1 => by
          have a : qbt (σ (B + 3)) c w = 0 := by unfold qbt; rw [hz]; exact bt_0 w
          have b1 := hds c w c0 c1 w0 w1
          have b2 := qbt_r (σ (B + 4)) c w
          exact ⟨a, by omega⟩
        have a0 := q0 0 (by omega) (by omega)
        have a1 := q0 1 (by omega) (by omega)
        have a2 := q0 2 (by omega) (by omega)
        have a3 := q0 3 (by omega) (by omega)
        rw [show 4 * (c + 1) = 4 * c + 1 + 1 + 1 + 1 by omega]
        exact HI_skip c0 c1 (by omega : (0 : Int) ≤ 3) (by omega) (by omega) a3.1 a3.2 (HI_skip c0 c1 (by omega : (0 : Int) ≤ 2) (by omega) (by omega) a2.1 a2.2 (HI_skip c0 c1 (by omega : (0 : Int) ≤ 1) (by omega) (by omega) a1.1 a1.2 (HI_skip c0 c1 (by omega : (0 : Int) ≤ 0) (by omega) (by omega) a0.1 a0.2 hP)))
    · have hkc : σ (B + 1) c ≠ 1 := fun e => hz (hw c c0 c1 e)
      obtain ⟨t1, e4, h4⟩ := mloop (P := fun w t => HI B s σ (4 * c + w) t) (F := fun f1 w t => fX3_hopAll_c26 B (fX3_hopAll_c18 B f) f1 s c w t) (R := fun t => fX3_hopAll_c18 B f s (c + 1) t) 4 (by omega) (by omega) (fun f1 t _ => by
        show fX3_hopAll_c26 B (fX3_hopAll_c18 B f) (f1 + 1) s c 4 t = _
        rw [fX3_hopAll_c26, if_pos (by rw [mI_le] <;> omega)]
        rfl) (fun f1 w t w0 w1 hP => by
        show ∃ s1, fX3_hopAll_c26 B (fX3_hopAll_c18 B f) (f1 + 1) s c w t = fX3_hopAll_c26 B (fX3_hopAll_c18 B f) f1 s c (w + 1) s1 ∧ HI B s σ (4 * c + (w + 1)) s1
        rw [fX3_hopAll_c26, if_neg (by rw [mI_le] <;> omega), if_pos ⟨c0, c1⟩, ep _ _ hP, if_neg (by rw [mI_eq0] <;> omega), if_pos ⟨c0, c1⟩, m_has hr.1 hr.2 w0 w1, Option.bind_some, show 4 * c + (w + 1) = 4 * c + w + 1 by omega]
        have hbr := bt_r (σ (B + 3) c) w
        rcases (show bt (σ (B + 3) c) w = 0 ∨ bt (σ (B + 3) c) w = 1 by omega) with e | e
        · rw [e, iI_no]
          refine ⟨t, rfl, HI_skip c0 c1 w0 w1 rfl e ?_ hP⟩
          have b1 := hds c w c0 c1 w0 w1
          have b2 := qbt_r (σ (B + 4)) c w
          have b3 : qbt (σ (B + 3)) c w = 0 := e
          omega
        · rw [e, iI_yes]
          obtain ⟨t2, e5, h5⟩ := HI_hop hk hb hd c0 c1 w0 w1 rfl hkc e hP
          rw [e5, mqbd]
          exact ⟨t2, rfl, h5⟩) (s := t) (by rw [Int.add_zero]; exact hP)
      exact ⟨t1, e4, by rw [show 4 * (c + 1) = 4 * c + 4 by omega]; exact h4⟩) start
  have e3' : fX3_hopAll_c18 B qFU s 0 σ2 = fX3_hopAll_c18 B 1 s 96 σ3 := e3
  rw [e3']
  show ∃ σ', fX3_hopAll_c18 B (0 + 1) s 96 σ3 = some (0, σ') ∧ _
  rw [fX3_hopAll_c18, if_pos (by rw [mI_le] <;> omega), mqb, mqb]
  obtain ⟨f, r, a, u⟩ := h3
  refine ⟨_, rfl, fun k k3 k4 k5 k6 k7 k8 k9 k12 => by rw [mrow_ne k4, mrow_ne k3]; exact f k k5 k6 k7 k8 k9 k12, fun x => ⟨?_, ?_⟩, fun j => ?_, fun b hb0 => ?_⟩
  · rw [mrow_ne (by omega), qrow_self]
    show (if 0 ≤ x ∧ x < 96 then σ3 (B + 5) x else σ3 (B + 3) x) = _
    by_cases hx : 0 ≤ x ∧ x < 96
    · rw [if_pos hx, if_pos hx, (r x hx.1 hx.2).1]
      exact mk_congr fun v v0 v1 => gv_N ix1_ok hx.1 hx.2 v0 v1
    · rw [if_neg hx, if_neg hx, f _ (by omega) (by omega) (by omega) (by omega) (by omega) (by omega)]
  · rw [qrow_self]
    show (if 0 ≤ x ∧ x < 96 then qrow σ3 (B + 3) _ (B + 6) x else qrow σ3 (B + 3) _ (B + 4) x) = _
    rw [mrow_ne (by omega), mrow_ne (by omega)]
    by_cases hx : 0 ≤ x ∧ x < 96
    · rw [if_pos hx, if_pos hx, (r x hx.1 hx.2).2]
      exact mk_congr fun v v0 v1 => gv_N ix1_ok hx.1 hx.2 v0 v1
    · rw [if_neg hx, if_neg hx, f _ (by omega) (by omega) (by omega) (by omega) (by omega) (by omega)]
  · rw [mrow_ne (by omega), mrow_ne (by omega)]
    exact a j
  · rw [mrow_ne (by omega), mrow_ne (by omega), mrow_ne (by omega), mrow_ne (by omega), mrow_ne (by omega), mrow_ne (by omega)]
    exact u b hb0
