/-! ===== the reference's step ===== -/
theorem m_blocks {σ : qSt} {t : Int} (h1 : -1 ≤ t) (h2 : t < 96) (hk : KR (σ 48)) : fX6_blocks σ t = some (if shut (σ 48) t then 1 else 0) := by
  unfold fX6_blocks
  rw [iI_eq (by omega) (by omega) (by omega) (by omega)]
  by_cases h : t = -1
  · rw [if_pos h, if_pos (Or.inl h)]
  · have h3 : 0 ≤ t ∧ t < 96 := by omega
    have hr := hk t h3.1 h3.2
    rw [if_neg h, if_pos h3, iI_eq (by omega) (by omega) (by omega) (by omega)]
    by_cases h4 : σ 48 t = 1
    · rw [if_pos h4, if_pos (Or.inr h4)]
    · rw [if_neg h4, if_neg (fun e => e.elim h h4)]
theorem m_hit {σ : qSt} {t w : Int} (h1 : -1 ≤ t) (h2 : t < 96) (h3 : 0 ≤ w) (h4 : w < 4) (hk : KR (σ 48)) (hb : BR (σ 49)) : ∃ σ', fX6_hit t w σ = some (0, σ') ∧ (∀ k, k ≠ 60 → σ' k = σ k) ∧ ∀ b, 0 ≤ b → b < 4 → σ' 60 (3 * b) = σ 60 (3 * b) + (if (if t = -1 then -1 else if σ 48 t = 1 then σ 49 t else -1) = b then 1 else 0) ∧ σ' 60 (3 * b + 1) = σ 60 (3 * b + 1) + (if (if t = -1 then -1 else if σ 48 t = 1 then σ 49 t else -1) = b then rgt w else 0) ∧ σ' 60 (3 * b + 2) = σ 60 (3 * b + 2) + (if (if t = -1 then -1 else if σ 48 t = 1 then σ 49 t else -1) = b then upw w else 0) := by
  have no : ∀ y : Int, y = -1 → ∃ σ', (some ((0 : Int), σ) : Option (Int × qSt)) = some (0, σ') ∧ (∀ k, k ≠ 60 → σ' k = σ k) ∧ ∀ b, 0 ≤ b → b < 4 → σ' 60 (3 * b) = σ 60 (3 * b) + (if y = b then 1 else 0) ∧ σ' 60 (3 * b + 1) = σ 60 (3 * b + 1) + (if y = b then rgt w else 0) ∧ σ' 60 (3 * b + 2) = σ 60 (3 * b + 2) + (if y = b then upw w else 0) := fun y hy =>
    ⟨σ, rfl, fun _ _ => rfl, fun b b0 b1 => by rw [if_neg (by omega), if_neg (by omega), if_neg (by omega)]; omega⟩
  unfold fX6_hit
  rw [iI_eq (by omega) (by omega) (by omega) (by omega)]
  by_cases ht : t = -1
  · rw [if_pos ht]
    exact no _ (if_pos ht)
  · have h5 : 0 ≤ t ∧ t < 96 := by omega
    have hr := hk t h5.1 h5.2
    have hr2 := hb t h5.1 h5.2
    rw [if_neg ht, if_pos h5, iI_eq (by omega) (by omega) (by omega) (by omega)]
    by_cases hw : σ 48 t = 1
    · rw [if_pos hw, if_pos h5, iI_eq (by omega) (by omega) (by omega) (by omega)]
      by_cases hy : σ 49 t = -1
      · rw [if_pos hy]
        exact no _ (by rw [if_neg ht, if_pos hw]; exact hy)
      · have e : (if t = -1 then -1 else if σ 48 t = 1 then σ 49 t else -1) = σ 49 t := by rw [if_neg ht, if_pos hw]
        rw [e, if_neg hy, if_pos h5, mqb]
        generalize σ 49 t = y at hr2 hy ⊢
        have a0 : 0 ≤ 3 * y ∧ 3 * y < 12 := by omega
        have a1 : 0 ≤ 3 * y + 1 ∧ 3 * y + 1 < 12 := by omega
        have a2 : 0 ≤ 3 * y + 2 ∧ 3 * y + 2 < 12 := by omega
        rw [if_pos a0, if_pos a0, mqb, if_pos a1]
        have g1 : ∀ j, qset σ 60 (3 * y) (σ 60 (3 * y) + 1) 60 j = σ 60 j + if j = 3 * y then 1 else 0 := fun j => by
          rw [mset_same]
          show (if j = 3 * y then _ else _) = _
          by_cases e : j = 3 * y
          · rw [if_pos e, if_pos e, e]
          · rw [if_neg e, if_neg e]; omega
        have f1 : ∀ k, k ≠ 60 → qset σ 60 (3 * y) (σ 60 (3 * y) + 1) k = σ k := fun k hk => mset_ne hk
        generalize qset σ 60 (3 * y) (σ 60 (3 * y) + 1) = σ2 at g1 f1 ⊢
        have c72 : ∀ r : Int, r = rgt w → ∃ σ', fX6_hit_c72 w (3 * y) r (σ2 60 (3 * y + 1)) (3 * y + 1) σ2 = some (0, σ') ∧ (∀ k, k ≠ 60 → σ' k = σ k) ∧ ∀ b, 0 ≤ b → b < 4 → σ' 60 (3 * b) = σ 60 (3 * b) + (if y = b then 1 else 0) ∧ σ' 60 (3 * b + 1) = σ 60 (3 * b + 1) + (if y = b then rgt w else 0) ∧ σ' 60 (3 * b + 2) = σ 60 (3 * b + 2) + (if y = b then upw w else 0) := fun r hr9 => by
          unfold fX6_hit_c72
          rw [if_pos a1, mqb, if_pos a2]
          have fin : ∀ v : Int, v = upw w → ∃ σ', (some ((0 : Int), qset (qset σ2 60 (3 * y + 1) (σ2 60 (3 * y + 1) + r)) 60 (3 * y + 2) (qset σ2 60 (3 * y + 1) (σ2 60 (3 * y + 1) + r) 60 (3 * y + 2) + v)) : Option (Int × qSt)) = some (0, σ') ∧ (∀ k, k ≠ 60 → σ' k = σ k) ∧ ∀ b, 0 ≤ b → b < 4 → σ' 60 (3 * b) = σ 60 (3 * b) + (if y = b then 1 else 0) ∧ σ' 60 (3 * b + 1) = σ 60 (3 * b + 1) + (if y = b then rgt w else 0) ∧ σ' 60 (3 * b + 2) = σ 60 (3 * b + 2) + (if y = b then upw w else 0) := fun v hv => by
            refine ⟨_, rfl, fun k hk => by rw [mset_ne hk, mset_ne hk]; exact f1 k hk, fun b b0 b1 => ?_⟩
            simp only [mset_same]
            rw [hr9, hv]
            by_cases e : y = b
            · subst e
              refine ⟨?_, ?_, ?_⟩
              · rw [if_neg (by omega), if_neg (by omega), g1, if_pos rfl, if_pos rfl]
              · rw [if_neg (by omega), if_pos rfl, g1, if_neg (by omega), if_pos rfl]; omega
              · rw [if_pos rfl, if_neg (by omega), g1, if_neg (by omega), if_pos rfl]; omega
            · refine ⟨?_, ?_, ?_⟩
              · rw [if_neg (by omega), if_neg (by omega), g1, if_neg (by omega), if_neg e]
              · rw [if_neg (by omega), if_neg (by omega), g1, if_neg (by omega), if_neg e]
              · rw [if_neg (by omega), if_neg (by omega), g1, if_neg (by omega), if_neg e]
          rw [iI_eq (by omega) (by omega) (by omega) (by omega), iI_eq (by omega) (by omega) (by omega) (by omega)]
          rcases (show w = 0 ∨ w = 1 ∨ w = 2 ∨ w = 3 by omega) with rfl | rfl | rfl | rfl
          · rw [if_neg (show ¬ (0 : Int) = 1 by omega), if_neg (show ¬ (0 : Int) = 3 by omega), if_pos a2, mqb]; exact fin 0 rfl
          · rw [if_pos rfl, if_pos a2, mqb]; exact fin 2 rfl
          · rw [if_neg (show ¬ (2 : Int) = 1 by omega), if_neg (show ¬ (2 : Int) = 3 by omega), if_pos a2, mqb]; exact fin 0 rfl
          · rw [if_neg (show ¬ (3 : Int) = 1 by omega), if_pos rfl, if_pos a2, mqb]; exact fin (-2) rfl
        rw [iI_eq0 (by omega) (by omega), iI_eq (by omega) (by omega) (by omega) (by omega)]
        rcases (show w = 0 ∨ w = 1 ∨ w = 2 ∨ w = 3 by omega) with rfl | rfl | rfl | rfl
        · rw [if_pos rfl]; exact c72 2 rfl
        · rw [if_neg (show ¬ (1 : Int) = 0 by omega), if_neg (show ¬ (1 : Int) = 2 by omega)]; exact c72 0 rfl
        · rw [if_neg (show ¬ (2 : Int) = 0 by omega), if_pos rfl]; exact c72 (-2) rfl
        · rw [if_neg (show ¬ (3 : Int) = 0 by omega), if_neg (show ¬ (3 : Int) = 2 by omega)]; exact c72 0 rfl
    · rw [if_neg hw]
      exact no _ (by rw [if_neg ht, if_neg hw])
theorem m_meets {σ : qSt} {x : Int} (h0 : 0 ≤ x) (h1 : x ≤ 15) : fX6_meets σ x = some (if meetP x then 1 else 0) := m_isMeeting (σ := σ) h0 h1
theorem m_turnedR {σ : qSt} {x : Int} (h0 : 0 ≤ x) (h1 : x ≤ 15) : fX6_turned σ x = some (t1 x) := by
  unfold fX6_turned
  rw [m_turnM h0 h1]
theorem m_or1 {x : Int} (h0 : 0 ≤ x) (h1 : x ≤ 15) : qor x 1 = if bt x 0 = 0 then x + 1 else x := by
  obtain ⟨n, rfl⟩ := f16 h0 h1
  exact (by decide +kernel : ∀ (n : Fin 16), qor (n.val : Int) 1 = if bt (n.val : Int) 0 = 0 then (n.val : Int) + 1 else (n.val : Int)) n
def HM (σ0 : qSt) (kd bd : Int → Int) (qp qd : Int → Int → Int) (i : Int) (σ : qSt) : Prop :=
  (∀ k, k ≠ 52 → k ≠ 53 → k ≠ 60 → σ k = σ0 k) ∧
  (∀ x, 0 ≤ x → x < 96 → σ 52 x = mk (gv kd qp ix1 i x) ∧ σ 53 x = mk (gv kd qd ix1 i x)) ∧
  ∀ b, 0 ≤ b → b < 4 → σ 60 (3 * b) = sm (hN kd bd qp b) i.toNat ∧ σ 60 (3 * b + 1) = sm (hR kd bd qp b) i.toNat ∧ σ 60 (3 * b + 2) = sm (hU kd bd qp b) i.toNat
theorem HM_skip {σ0 σ : qSt} {kd bd : Int → Int} {qp qd : Int → Int → Int} (rp : ∀ c w, 0 ≤ qp c w ∧ qp c w ≤ 1) (rd : ∀ c w, 0 ≤ qd c w ∧ qd c w ≤ 1) {c w i : Int} (h0 : 0 ≤ c) (h1 : c < 96) (h3 : 0 ≤ w) (h4 : w < 4) (hi : i = 4 * c + w) (hq : qp c w = 0) (hq2 : qd c w = 0) (h : HM σ0 kd bd qp qd i σ) : HM σ0 kd bd qp qd (i + 1) σ := by
  obtain ⟨f, r, u⟩ := h
  have hi' : ix1 c w = i := hi.symm
  refine ⟨f, fun x x0 x1 => ?_, fun b hb hb4 => ?_⟩
  · rw [row_step ix1_ok rp h0 h1 h3 h4 hi' (fun _ => hq) x0 x1, row_step ix1_ok rd h0 h1 h3 h4 hi' (fun _ => hq2) x0 x1, hq, hq2]
    obtain ⟨r1, r2⟩ := r x x0 x1
    rw [r1, r2]
    constructor
    · split <;> omega
    · split <;> omega
  · obtain ⟨u1, u2, u3⟩ := u b hb hb4
    rw [sm_step h0 h3 h4 hi, sm_step h0 h3 h4 hi, sm_step h0 h3 h4 hi, show hN kd bd qp b c w = 0 by unfold hN; rw [hq]; split <;> rfl, show hR kd bd qp b c w = 0 by unfold hR; rw [hq]; split <;> omega, show hU kd bd qp b c w = 0 by unfold hU; rw [hq]; split <;> omega, Int.add_zero, Int.add_zero, Int.add_zero]
    exact ⟨u1, u2, u3⟩
/-- one particle put down by the reference -/
theorem HM_hop {σ0 σ : qSt} {B : Nat} (hB9 : B = 47 ∨ B = 51) (hk : KR (σ0 48)) (hb : BR (σ0 49)) (hd : PR (σ0 (B + 4))) {c w i : Int} (h0 : 0 ≤ c) (h1 : c < 96) (h3 : 0 ≤ w) (h4 : w < 4) (hi : i = 4 * c + w) (hkc : σ0 48 c ≠ 1) (hq : qbt (σ0 (B + 3)) c w = 1) (h : HM σ0 (σ0 48) (σ0 49) (qbt (σ0 (B + 3))) (qbt (σ0 (B + 4))) i σ) (k93 : Int → qSt → Option (Int × qSt)) (k102 : Int → Int → qSt → Option (Int × qSt)) : ∃ σ', ((fX6_blocks σ (bs c w)).bind fun (r131 : Int) => (if qI r131 = 0 then (fX6_advance_c143 (B + 3) (B + 4) k93 k102 c w (bs c w) (bs c w) σ) else (fX6_advance_c143 (B + 3) (B + 4) k93 k102 c w (bs c w) c σ))) = k102 c (w + 1) σ' ∧ HM σ0 (σ0 48) (σ0 49) (qbt (σ0 (B + 3))) (qbt (σ0 (B + 4))) (i + 1) σ' := by
  obtain ⟨f, r, u⟩ := h
  have hi' : ix1 c w = i := hi.symm
  have e48 : σ 48 = σ0 48 := f _ (by omega) (by omega) (by omega)
  have e49 : σ 49 = σ0 49 := f _ (by omega) (by omega) (by omega)
  have e4 : σ (B + 4) = σ0 (B + 4) := f _ (by omega) (by omega) (by omega)
  have hbr := bs_r h0 h1 (w := w)
  have hr2 := hd c h0 h1
  have hdC := dC_r h0 h1 (kd := σ0 48) (w := w)
  have hdW := dW_r h3 h4 (kd := σ0 48) (c := c)
  have go : ((fX6_blocks σ (bs c w)).bind fun (r131 : Int) => (if qI r131 = 0 then (fX6_advance_c143 (B + 3) (B + 4) k93 k102 c w (bs c w) (bs c w) σ) else (fX6_advance_c143 (B + 3) (B + 4) k93 k102 c w (bs c w) c σ))) = fX6_advance_c164 (B + 3) (B + 4) k93 k102 c w (bs c w) (dC (σ0 48) c w) (dW (σ0 48) c w) σ := by
    unfold fX6_advance_c143 fX6_opposite
    rw [m_blocks hbr.1 hbr.2 (by rw [e48]; exact hk), e48]
    by_cases hs : shut (σ0 48) (bs c w)
    · simp only [if_pos hs, iI_yes, Option.bind_some, m_oppM h3 h4]
      rw [show dC (σ0 48) c w = c from if_pos hs, show dW (σ0 48) c w = op w from if_pos hs]
    · simp only [if_neg hs, iI_no, Option.bind_some]
      rw [show dC (σ0 48) c w = bs c w from if_neg hs, show dW (σ0 48) c w = w from if_neg hs]
  rw [go]
  unfold fX6_advance_c164
  rw [if_pos hdC, if_pos hdC, mqb, if_pos hdC, if_pos (show 0 ≤ c ∧ c < 96 from ⟨h0, h1⟩), if_pos hdC, mqb]
  rw [mset_ne (k := 52) (k' := 53) (by omega), mset_ne (k := 52) (k' := B + 4) (by omega), e4, m_bit hr2.1 hr2.2 h3 h4]
  have g1 : ∀ k, k ≠ 52 → k ≠ 53 → qset (qset σ 52 (dC (σ0 48) c w) (qor (σ 52 (dC (σ0 48) c w)) (qshl 1 (dW (σ0 48) c w)))) 53 (dC (σ0 48) c w) (qor (σ 53 (dC (σ0 48) c w)) (qshl (bt (σ0 (B + 4) c) w) (dW (σ0 48) c w))) k = σ k := fun k k2 k3 => by rw [mset_ne k3, mset_ne k2]
  have g2 : ∀ x, qset (qset σ 52 (dC (σ0 48) c w) (qor (σ 52 (dC (σ0 48) c w)) (qshl 1 (dW (σ0 48) c w)))) 53 (dC (σ0 48) c w) (qor (σ 53 (dC (σ0 48) c w)) (qshl (bt (σ0 (B + 4) c) w) (dW (σ0 48) c w))) 52 x = if x = dC (σ0 48) c w then qor (σ 52 (dC (σ0 48) c w)) (qshl 1 (dW (σ0 48) c w)) else σ 52 x := fun x => by rw [mset_ne (by omega), mset_same]
  have g3 : ∀ x, qset (qset σ 52 (dC (σ0 48) c w) (qor (σ 52 (dC (σ0 48) c w)) (qshl 1 (dW (σ0 48) c w)))) 53 (dC (σ0 48) c w) (qor (σ 53 (dC (σ0 48) c w)) (qshl (bt (σ0 (B + 4) c) w) (dW (σ0 48) c w))) 53 x = if x = dC (σ0 48) c w then qor (σ 53 (dC (σ0 48) c w)) (qshl (bt (σ0 (B + 4) c) w) (dW (σ0 48) c w)) else σ 53 x := fun x => by rw [mset_same, mset_ne (by omega)]
  generalize qset (qset σ 52 (dC (σ0 48) c w) (qor (σ 52 (dC (σ0 48) c w)) (qshl 1 (dW (σ0 48) c w)))) 53 (dC (σ0 48) c w) (qor (σ 53 (dC (σ0 48) c w)) (qshl (bt (σ0 (B + 4) c) w) (dW (σ0 48) c w))) = σ1 at g1 g2 g3 ⊢
  obtain ⟨σ2, h2, h5, h6⟩ := m_hit (σ := σ1) hbr.1 hbr.2 h3 h4 (by rw [g1 _ (by omega) (by omega), e48]; exact hk) (by rw [g1 _ (by omega) (by omega), e49]; exact hb)
  rw [h2, mqbd]
  rw [g1 48 (by omega) (by omega), g1 49 (by omega) (by omega), e48, e49] at h6
  refine ⟨σ2, rfl, fun k k2 k3 k6 => (h5 k k6).trans ((g1 k k2 k3).trans (f k k2 k3 k6)), fun x x0 x1 => ?_, fun b b0 b1 => ?_⟩
  · obtain ⟨r1, r2⟩ := r x x0 x1
    rw [h5 _ (by omega), h5 _ (by omega), g2 x, g3 x]
    by_cases e : x = dC (σ0 48) c w
    · rw [if_pos e, if_pos e, (r _ hdC.1 hdC.2).1, (r _ hdC.1 hdC.2).2]
      rw [row_or (qq := fun _ _ => 0) ix1_ok (qbt_r _) h0 h1 h3 h4 hi' hkc hq.symm, row_or (q := qbt (σ0 (B + 4))) (b := bt (σ0 (B + 4) c) w) (qq := fun _ _ => 0) ix1_ok (qbt_r _) h0 h1 h3 h4 hi' hkc rfl, e]
      exact ⟨rfl, rfl⟩
    · rw [if_neg e, if_neg e, r1, r2, row_step ix1_ok (qbt_r _) h0 h1 h3 h4 hi' (fun z => absurd z hkc) x0 x1, if_neg e, row_step ix1_ok (qbt_r _) h0 h1 h3 h4 hi' (fun z => absurd z hkc) x0 x1, if_neg e]
      exact ⟨rfl, rfl⟩
  · obtain ⟨u1, u2, u3⟩ := u b b0 b1
    obtain ⟨v1, v2, v3⟩ := h6 b b0 b1
    rw [v1, v2, v3, g1 _ (by omega) (by omega), u1, u2, u3, sm_step h0 h3 h4 hi, sm_step h0 h3 h4 hi, sm_step h0 h3 h4 hi]
    unfold hN hR hU
    rw [hq, Int.one_mul, Int.one_mul]
    exact ⟨rfl, rfl, rfl⟩
