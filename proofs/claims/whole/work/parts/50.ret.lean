/-! ===== the reference's way back ===== -/
theorem m_or2 {x b w : Int} (h0 : 0 ≤ x) (h1 : x ≤ 15) (h2 : 0 ≤ w) (h3 : w < 4) (hb : b = 0 ∨ b = 1) (hx : bt x w = 0) : qor (t2 x) (qshl b (op w)) = t2 (x + b * pw w) := by
  obtain ⟨n, rfl⟩ := f16 h0 h1
  obtain ⟨k, rfl⟩ := f4 h2 h3
  rcases hb with rfl | rfl
  · exact (by decide +kernel : ∀ (n : Fin 16) (k : Fin 4), bt (n.val : Int) (k.val : Int) = 0 → qor (t2 (n.val : Int)) (qshl 0 (op (k.val : Int))) = t2 ((n.val : Int) + 0 * pw (k.val : Int))) n k hx
  · exact (by decide +kernel : ∀ (n : Fin 16) (k : Fin 4), bt (n.val : Int) (k.val : Int) = 0 → qor (t2 (n.val : Int)) (qshl 1 (op (k.val : Int))) = t2 ((n.val : Int) + 1 * pw (k.val : Int))) n k hx
theorem m_t111 {x : Int} (h0 : 0 ≤ x) (h1 : x ≤ 15) : t1 (t1 (t1 x)) = t3 x := by
  obtain ⟨n, rfl⟩ := f16 h0 h1
  exact (by decide +kernel : ∀ (n : Fin 16), t1 (t1 (t1 (n.val : Int))) = t3 (n.val : Int)) n
theorem m_t13 {x : Int} (h : meetP x) : t1 x = t3 x := by rcases h with rfl | rfl <;> rfl
theorem row_or2 {kd : Int → Int} {q ix : Int → Int → Int} (ho : ordI ix) (hq : ∀ c w, 0 ≤ q c w ∧ q c w ≤ 1) {c w i b : Int} (h0 : 0 ≤ c) (h1 : c < 96) (h2 : 0 ≤ w) (h3 : w < 4) (hi : ix c w = i) (hk : kd c ≠ 1) (hb : b = q c w) : qor (t2 (mk (gv kd q ix i (dC kd c w)))) (qshl b (op (dW kd c w))) = t2 (mk (gv kd q ix (i + 1) (dC kd c w))) := by
  have hd := dC_r h0 h1 (kd := kd) (w := w)
  have hw := dW_r h2 h3 (kd := kd) (c := c)
  have hr := mk_r (f := gv kd q ix i (dC kd c w)) (fun v _ _ => gv_r hq)
  rw [row_step ho hq h0 h1 h2 h3 hi (fun e => absurd e hk) hd.1 hd.2, if_pos rfl, hb]
  refine m_or2 hr.1 hr.2 hw.1 hw.2 (by have := hq c w; omega) ?_
  rw [bt_mk (fun v _ _ => gv_r hq) hw.1 hw.2]
  exact gv_new h0 h1 h2 h3 hi hk
def HW (σ0 : qSt) (kd bd : Int → Int) (qp qd : Int → Int → Int) (i : Int) (σ : qSt) : Prop :=
  (∀ k, k ≠ 52 → k ≠ 53 → k ≠ 60 → σ k = σ0 k) ∧
  (∀ x, 0 ≤ x → x < 96 → σ 52 x = t2 (mk (gv kd qp ix2 i x)) ∧ σ 53 x = t2 (mk (gv kd qd ix2 i x))) ∧
  ∀ b, 0 ≤ b → b < 4 → σ 60 (3 * b) = sm (fun c w => hN kd bd qp b c (op w)) i.toNat ∧ σ 60 (3 * b + 1) = sm (fun c w => hR kd bd qp b c (op w)) i.toNat ∧ σ 60 (3 * b + 2) = sm (fun c w => hU kd bd qp b c (op w)) i.toNat
theorem HW_skip {σ0 σ : qSt} {kd bd : Int → Int} {qp qd : Int → Int → Int} (rp : ∀ c w, 0 ≤ qp c w ∧ qp c w ≤ 1) (rd : ∀ c w, 0 ≤ qd c w ∧ qd c w ≤ 1) {c w i : Int} (h0 : 0 ≤ c) (h1 : c < 96) (h3 : 0 ≤ w) (h4 : w < 4) (hi : i = 4 * c + w) (hq : qp c (op w) = 0) (hq2 : qd c (op w) = 0) (h : HW σ0 kd bd qp qd i σ) : HW σ0 kd bd qp qd (i + 1) σ := by
  obtain ⟨f, r, u⟩ := h
  have ho := op_r h3 h4
  have hi' : ix2 c (op w) = i := by unfold ix2; rw [op_op h3 h4]; exact hi.symm
  refine ⟨f, fun x x0 x1 => ?_, fun b hb hb4 => ?_⟩
  · rw [row_step ix2_ok rp h0 h1 ho.1 ho.2 hi' (fun _ => hq) x0 x1, row_step ix2_ok rd h0 h1 ho.1 ho.2 hi' (fun _ => hq2) x0 x1, hq, hq2]
    obtain ⟨r1, r2⟩ := r x x0 x1
    rw [r1, r2]
    simp only [Int.zero_mul, Int.add_zero, ite_self, and_self]
  · obtain ⟨u1, u2, u3⟩ := u b hb hb4
    rw [sm_step h0 h3 h4 hi, sm_step h0 h3 h4 hi, sm_step h0 h3 h4 hi, show hN kd bd qp b c (op w) = 0 by unfold hN; rw [hq]; split <;> rfl, show hR kd bd qp b c (op w) = 0 by unfold hR; rw [hq]; split <;> omega, show hU kd bd qp b c (op w) = 0 by unfold hU; rw [hq]; split <;> omega, Int.add_zero, Int.add_zero, Int.add_zero]
    exact ⟨u1, u2, u3⟩
theorem HW_hop {σ0 σ : qSt} (hk : KR (σ0 48)) (hb : BR (σ0 49)) (hp : PR (σ0 50)) (hd : PR (σ0 51)) {c w i : Int} (h0 : 0 ≤ c) (h1 : c < 96) (h3 : 0 ≤ w) (h4 : w < 4) (hi : i = 4 * c + w) (hkc : σ0 48 c ≠ 1) (hq : qbt (t2r (σ0 50)) c (op w) = 1) (h : HW σ0 (σ0 48) (σ0 49) (qbt (t2r (σ0 50))) (qbt (t2r (σ0 51))) i σ) : ∃ σ', fX6_unhop c w σ = some (0, σ') ∧ HW σ0 (σ0 48) (σ0 49) (qbt (t2r (σ0 50))) (qbt (t2r (σ0 51))) (i + 1) σ' := by
  obtain ⟨f, r, u⟩ := h
  have ho := op_r h3 h4
  have hi' : ix2 c (op w) = i := by unfold ix2; rw [op_op h3 h4]; exact hi.symm
  have e48 : σ 48 = σ0 48 := f _ (by omega) (by omega) (by omega)
  have e49 : σ 49 = σ0 49 := f _ (by omega) (by omega) (by omega)
  have e51 : σ 51 = σ0 51 := f _ (by omega) (by omega) (by omega)
  have hbr := bs_r h0 h1 (w := op w)
  have hr2 := hd c h0 h1
  have hdC := dC_r h0 h1 (kd := σ0 48) (w := op w)
  have ebd : bt (σ0 51 c) w = qbt (t2r (σ0 51)) c (op w) := by
    unfold qbt t2r
    rw [bt_t2 hr2.1 hr2.2 ho.1 ho.2, op_op h3 h4]
  have go : fX6_unhop c w σ = fX6_unhop_c40 c w (bs c (op w)) (dC (σ0 48) c (op w)) (op (dW (σ0 48) c (op w))) σ := by
    unfold fX6_unhop fX6_unhop_c22 fX6_opposite
    rw [m_oppM h3 h4, Option.bind_some, m_besideM h0 h1 ho.1 ho.2, Option.bind_some, m_blocks hbr.1 hbr.2 (by rw [e48]; exact hk), e48]
    by_cases hs : shut (σ0 48) (bs c (op w))
    · simp only [if_pos hs, iI_yes, Option.bind_some]
      rw [show dC (σ0 48) c (op w) = c from if_pos hs, show dW (σ0 48) c (op w) = op (op w) from if_pos hs, op_op ho.1 ho.2]
    · simp only [if_neg hs, iI_no, Option.bind_some]
      rw [show dC (σ0 48) c (op w) = bs c (op w) from if_neg hs, show dW (σ0 48) c (op w) = op w from if_neg hs, op_op h3 h4]
  rw [go]
  unfold fX6_unhop_c40 fX6_opposite
  rw [if_pos hdC, if_pos hdC, mqb, if_pos hdC, if_pos (show 0 ≤ c ∧ c < 96 from ⟨h0, h1⟩), if_pos hdC, mqb, m_oppM h3 h4, Option.bind_some]
  rw [mset_ne (k := 52) (k' := 53) (by omega), mset_ne (k := 52) (k' := 51) (by omega), e51, m_bit hr2.1 hr2.2 h3 h4, ebd]
  generalize hA : (qor (σ 52 (dC (σ0 48) c (op w))) (qshl 1 (op (dW (σ0 48) c (op w))))) = A
  generalize hA2 : (qor (σ 53 (dC (σ0 48) c (op w))) (qshl (qbt (t2r (σ0 51)) c (op w)) (op (dW (σ0 48) c (op w))))) = A2
  have g1 : ∀ k, k ≠ 52 → k ≠ 53 → qset (qset σ 52 (dC (σ0 48) c (op w)) A) 53 (dC (σ0 48) c (op w)) A2 k = σ k := fun k k2 k3 => by rw [mset_ne k3, mset_ne k2]
  have g2 : ∀ x, qset (qset σ 52 (dC (σ0 48) c (op w)) A) 53 (dC (σ0 48) c (op w)) A2 52 x = if x = dC (σ0 48) c (op w) then A else σ 52 x := fun x => by rw [mset_ne (by omega), mset_same]
  have g3 : ∀ x, qset (qset σ 52 (dC (σ0 48) c (op w)) A) 53 (dC (σ0 48) c (op w)) A2 53 x = if x = dC (σ0 48) c (op w) then A2 else σ 53 x := fun x => by rw [mset_same, mset_ne (by omega)]
  generalize qset (qset σ 52 (dC (σ0 48) c (op w)) A) 53 (dC (σ0 48) c (op w)) A2 = σ1 at g1 g2 g3 ⊢
  obtain ⟨σ2, h2, h5, h6⟩ := m_hit (σ := σ1) hbr.1 hbr.2 ho.1 ho.2 (by rw [g1 _ (by omega) (by omega), e48]; exact hk) (by rw [g1 _ (by omega) (by omega), e49]; exact hb)
  rw [h2, mqbd]
  rw [g1 48 (by omega) (by omega), g1 49 (by omega) (by omega), e48, e49] at h6
  refine ⟨σ2, rfl, fun k k2 k3 k6 => (h5 k k6).trans ((g1 k k2 k3).trans (f k k2 k3 k6)), fun x x0 x1 => ?_, fun b b0 b1 => ?_⟩
  · obtain ⟨r1, r2⟩ := r x x0 x1
    rw [h5 _ (by omega), h5 _ (by omega), g2 x, g3 x]
    by_cases e : x = dC (σ0 48) c (op w)
    · rw [if_pos e, if_pos e, ← hA, ← hA2, (r _ hdC.1 hdC.2).1, (r _ hdC.1 hdC.2).2]
      rw [row_or2 ix2_ok (qbt_r _) h0 h1 ho.1 ho.2 hi' hkc hq.symm, row_or2 ix2_ok (qbt_r _) h0 h1 ho.1 ho.2 hi' hkc rfl, e]
      exact ⟨rfl, rfl⟩
    · rw [if_neg e, if_neg e, r1, r2, row_step ix2_ok (qbt_r _) h0 h1 ho.1 ho.2 hi' (fun z => absurd z hkc) x0 x1, if_neg e, row_step ix2_ok (qbt_r _) h0 h1 ho.1 ho.2 hi' (fun z => absurd z hkc) x0 x1, if_neg e]
      exact ⟨rfl, rfl⟩
  · obtain ⟨u1, u2, u3⟩ := u b b0 b1
    obtain ⟨v1, v2, v3⟩ := h6 b b0 b1
    rw [v1, v2, v3, g1 _ (by omega) (by omega), u1, u2, u3, sm_step h0 h3 h4 hi, sm_step h0 h3 h4 hi, sm_step h0 h3 h4 hi]
    unfold hN hR hU
    rw [hq, Int.one_mul, Int.one_mul]
    exact ⟨rfl, rfl, rfl⟩
theorem m_retreat {σ : qSt} (hk : KR (σ 48)) (hb : BR (σ 49)) (hp : PR (σ 50)) (hd : PR (σ 51)) (hw : WF (σ 48) (σ 50)) (hds : DS (σ 51) (σ 50)) : ∃ σ', fX6_retreat σ = some (0, σ') ∧ (∀ k, k ≠ 47 → k ≠ 50 → k ≠ 51 → k ≠ 52 → k ≠ 53 → k ≠ 60 → σ' k = σ k) ∧ (∀ j, σ' 47 j = if j = 14 then mn (upP (σ 48) (σ 50)) else σ 47 j) ∧ (∀ x, σ' 50 x = (if 0 ≤ x ∧ x < 96 then backP (σ 48) (σ 50) x else σ 50 x) ∧ σ' 51 x = (if 0 ≤ x ∧ x < 96 then backD (σ 48) (σ 50) (σ 51) x else σ 51 x)) ∧ ∀ b, 0 ≤ b → b < 4 → σ' 60 (3 * b) = sm (hN (σ 48) (σ 49) (qbt (t2r (σ 50))) b) 384 ∧ σ' 60 (3 * b + 1) = sm (hR (σ 48) (σ 49) (qbt (t2r (σ 50))) b) 384 ∧ σ' 60 (3 * b + 2) = sm (hU (σ 48) (σ 49) (qbt (t2r (σ 50))) b) 384 := by
  unfold fX6_retreat
  obtain ⟨σ1, e1, f1, g1⟩ := mloop (P := fun i t => (∀ k, k ≠ 60 → t k = σ k) ∧ ∀ j, 0 ≤ j → j < i → t 60 j = 0) (F := fun f i t => fX6_retreat_c2 f i t) (R := fun t => fX6_retreat_c23 qFU 0 t) 12 (by omega) (by omega) (fun f t _ => by
    show fX6_retreat_c2 (f + 1) 12 t = _
    rw [fX6_retreat_c2, if_pos (by rw [mI_le] <;> omega)]) (fun f i t i0 i1 hP => by
    show ∃ s1, fX6_retreat_c2 (f + 1) i t = fX6_retreat_c2 f (i + 1) s1 ∧ _
    rw [fX6_retreat_c2, if_neg (by rw [mI_le] <;> omega), if_pos ⟨i0, i1⟩, mqb]
    refine ⟨_, rfl, fun k hk => by rw [mset_ne hk]; exact hP.1 k hk, fun j j0 j1 => ?_⟩
    rw [mset_same]
    show (if j = i then 0 else t 60 j) = 0
    split
    · rfl
    · exact hP.2 j j0 (by omega)) (s := σ) ⟨fun _ _ => rfl, fun j _ _ => by omega⟩
  have e1' : fX6_retreat_c2 qFU 0 σ = fX6_retreat_c23 qFU 0 σ1 := e1
  rw [e1']
  obtain ⟨σ2, e2, f2, z2⟩ := mloop (P := fun i t => (∀ k, k ≠ 52 → k ≠ 53 → t k = σ1 k) ∧ ∀ x, 0 ≤ x → x < i → t 52 x = 0 ∧ t 53 x = 0) (F := fun f i t => fX6_retreat_c23 f i t) (R := fun t => fX6_retreat_c51 qFU 0 t) 96 (by omega) (by omega) (fun f t _ => by
    show fX6_retreat_c23 (f + 1) 96 t = _
    rw [fX6_retreat_c23, if_pos (by rw [mI_le] <;> omega)]) (fun f i t i0 i1 hP => by
    have hii : 0 ≤ i ∧ i < 96 := ⟨i0, i1⟩
    show ∃ s1, fX6_retreat_c23 (f + 1) i t = fX6_retreat_c23 f (i + 1) s1 ∧ _
    rw [fX6_retreat_c23, if_neg (by rw [mI_le] <;> omega), if_pos hii, mqb, if_pos hii, mqb]
    refine ⟨_, rfl, fun k k2 k3 => by rw [mset_ne k3, mset_ne k2]; exact hP.1 k k2 k3, fun x x0 x1 => ⟨?_, ?_⟩⟩
    · rw [mset_ne (by omega), mset_same]
      show (if x = i then 0 else t 52 x) = 0
      split
      · rfl
      · exact (hP.2 x x0 (by omega)).1
    · rw [mset_same]
      show (if x = i then 0 else qset t 52 i 0 53 x) = 0
      rw [mset_ne (by omega)]
      split
      · rfl
      · exact (hP.2 x x0 (by omega)).2) (s := σ1) ⟨fun _ _ _ => rfl, fun x _ _ => by omega⟩
  have e2' : fX6_retreat_c23 qFU 0 σ1 = fX6_retreat_c51 qFU 0 σ2 := e2
  rw [e2']
  have fr2 : ∀ k, k ≠ 52 → k ≠ 53 → k ≠ 60 → σ2 k = σ k := fun k a b c => (f2 k a b).trans (f1 k c)
  have k2 : σ2 48 = σ 48 := fr2 _ (by omega) (by omega) (by omega)
  have b2 : σ2 49 = σ 49 := fr2 _ (by omega) (by omega) (by omega)
  have p2 : σ2 50 = σ 50 := fr2 _ (by omega) (by omega) (by omega)
  have d2 : σ2 51 = σ 51 := fr2 _ (by omega) (by omega) (by omega)
  have start : HW σ2 (σ2 48) (σ2 49) (qbt (t2r (σ2 50))) (qbt (t2r (σ2 51))) (4 * 0) σ2 := by
    refine ⟨fun _ _ _ _ => rfl, fun x x0 x1 => ?_, fun b b0 b1 => ?_⟩
    · show σ2 52 x = t2 (mk (gv _ _ ix2 0 x)) ∧ σ2 53 x = t2 (mk (gv _ _ ix2 0 x))
      rw [mk_gv0 ix2_ok x0 x1, mk_gv0 ix2_ok x0 x1]
      exact z2 x x0 x1
    · rw [f2 60 (by omega) (by omega), g1 _ (by omega) (by omega), g1 _ (by omega) (by omega), g1 _ (by omega) (by omega)]
      exact ⟨rfl, rfl, rfl⟩
  obtain ⟨σ3, e3, h3⟩ := mloop (P := fun c t => HW σ2 (σ2 48) (σ2 49) (qbt (t2r (σ2 50))) (qbt (t2r (σ2 51))) (4 * c) t) (F := fun f c t => fX6_retreat_c51 f c t) (R := fun t => fX6_retreat_c103 qFU 0 (qset t 47 14 0)) 96 (by omega) (by omega) (fun f t _ => by
    show fX6_retreat_c51 (f + 1) 96 t = _
    rw [fX6_retreat_c51, if_pos (by rw [mI_le] <;> omega), mqb]) (fun f c t c0 c1 hP => by
    show ∃ s1, fX6_retreat_c51 (f + 1) c t = fX6_retreat_c51 f (c + 1) s1 ∧ _
    rw [fX6_retreat_c51, if_neg (by rw [mI_le] <;> omega)]
    have hr := hp c c0 c1
    have hr2 := hd c c0 c1
    obtain ⟨t1, e4, h4⟩ := mloop (P := fun w t => HW σ2 (σ2 48) (σ2 49) (qbt (t2r (σ2 50))) (qbt (t2r (σ2 51))) (4 * c + w) t) (F := fun f1 w t => fX6_retreat_c59 (fX6_retreat_c51 f) f1 c w t) (R := fun t => fX6_retreat_c51 f (c + 1) t) 4 (by omega) (by omega) (fun f1 t _ => by
      show fX6_retreat_c59 (fX6_retreat_c51 f) (f1 + 1) c 4 t = _
      rw [fX6_retreat_c59, if_pos (by rw [mI_le] <;> omega)]) (fun f1 w t w0 w1 hP => by
      have ep : t 50 = σ 50 := (hP.1 _ (by omega) (by omega) (by omega)).trans p2
      have ho := op_r w0 w1
      show ∃ s1, fX6_retreat_c59 (fX6_retreat_c51 f) (f1 + 1) c w t = fX6_retreat_c59 (fX6_retreat_c51 f) f1 c (w + 1) s1 ∧ HW σ2 (σ2 48) (σ2 49) (qbt (t2r (σ2 50))) (qbt (t2r (σ2 51))) (4 * c + (w + 1)) s1
      have hbr := bt_r (σ 50 c) w
      have eq1 : qbt (t2r (σ2 50)) c (op w) = bt (σ 50 c) w := by unfold qbt t2r; rw [p2, bt_t2 hr.1 hr.2 ho.1 ho.2, op_op w0 w1]
      have eq2 : qbt (t2r (σ2 51)) c (op w) = bt (σ 51 c) w := by unfold qbt t2r; rw [d2, bt_t2 hr2.1 hr2.2 ho.1 ho.2, op_op w0 w1]
      rw [fX6_retreat_c59, if_neg (by rw [mI_le] <;> omega), if_pos ⟨c0, c1⟩, ep, m_bit hr.1 hr.2 w0 w1, iI_eq (by omega) (by omega) (by omega) (by omega), show 4 * c + (w + 1) = 4 * c + w + 1 by omega]
      rcases (show bt (σ 50 c) w = 0 ∨ bt (σ 50 c) w = 1 by omega) with e | e
      · rw [if_neg (by omega)]
        refine ⟨t, rfl, HW_skip (qbt_r _) (qbt_r _) c0 c1 w0 w1 rfl (eq1.trans e) ?_ hP⟩
        have b1 := hds c w c0 c1 w0 w1
        have b2 := bt_r (σ 51 c) w
        unfold qbt at b1
        omega
      · rw [if_pos e]
        have hkc : σ2 48 c ≠ 1 := fun z => by
          rw [hw c c0 c1 (by rw [← k2]; exact z), bt_0] at e
          omega
        obtain ⟨t2', e5, h5⟩ := HW_hop (by rw [k2]; exact hk) (by rw [b2]; exact hb) (by rw [p2]; exact hp) (by rw [d2]; exact hd) c0 c1 w0 w1 rfl hkc (eq1.trans e) hP
        rw [e5, mqbd]
        exact ⟨t2', rfl, h5⟩) (s := t) (by rw [Int.add_zero]; exact hP)
    exact ⟨t1, e4, by rw [show 4 * (c + 1) = 4 * c + 4 by omega]; exact h4⟩) start
  have e3' : fX6_retreat_c51 qFU 0 σ2 = fX6_retreat_c103 qFU 0 (qset σ3 47 14 0) := e3
  rw [e3']
  rw [k2, b2, p2, d2] at h3
  obtain ⟨f3, r3, u3⟩ := h3
  have n3 : ∀ x, 0 ≤ x → x < 96 → σ3 52 x = upP (σ 48) (σ 50) x ∧ σ3 53 x = upP (σ 48) (σ 51) x := fun x x0 x1 => by
    obtain ⟨a, b⟩ := r3 x x0 x1
    rw [a, b]
    show t2 (mk (gv _ _ ix2 384 x)) = _ ∧ t2 (mk (gv _ _ ix2 384 x)) = _
    rw [mk_gvN ix2_ok x0 x1, mk_gvN ix2_ok x0 x1]
    exact ⟨rfl, rfl⟩
  have fr3 : ∀ k, k ≠ 52 → k ≠ 53 → k ≠ 60 → σ3 k = σ k := fun k a b c => (f3 k a b c).trans (fr2 k a b c)
  obtain ⟨σ4, e4, f4, g4, r4⟩ := mloop (P := fun i t => (∀ k, k ≠ 47 → k ≠ 50 → k ≠ 51 → t k = σ3 k) ∧ (∀ j, t 47 j = if j = 14 then sr (mc1 (upP (σ 48) (σ 50))) i.toNat else σ 47 j) ∧ RI 47 σ (backP (σ 48) (σ 50)) (backD (σ 48) (σ 50) (σ 51)) i t) (F := fun f i t => fX6_retreat_c103 f i t) (R := fun t => some (0, t)) 96 (by omega) (by omega) (fun f t _ => by
    show fX6_retreat_c103 (f + 1) 96 t = _
    rw [fX6_retreat_c103, if_pos (by rw [mI_le] <;> omega)]) (fun f i t i0 i1 hP => by
    obtain ⟨f4, g4, r4⟩ := hP
    have hii : 0 ≤ i ∧ i < 96 := ⟨i0, i1⟩
    obtain ⟨n1, n2⟩ := n3 i i0 i1
    have h1 := upP_PR (σ 48) (σ 50) i i0 i1
    have h2 := upP_PR (σ 48) (σ 51) i i0 i1
    have e52 : t 52 i = upP (σ 48) (σ 50) i := by rw [f4 _ (by omega) (by omega) (by omega)]; exact n1
    have e53 : t 53 i = upP (σ 48) (σ 51) i := by rw [f4 _ (by omega) (by omega) (by omega)]; exact n2
    have last : ∀ (v z m : Int), v = backP (σ 48) (σ 50) i → z = backD (σ 48) (σ 50) (σ 51) i → m = mc1 (upP (σ 48) (σ 50)) i → ∃ s1, fX6_retreat_c103 f (i + 1) (qset (qset (qset t 50 i v) 51 i z) 47 14 (t 47 14 + m)) = fX6_retreat_c103 f (i + 1) s1 ∧ (∀ k, k ≠ 47 → k ≠ 50 → k ≠ 51 → s1 k = σ3 k) ∧ (∀ j, s1 47 j = if j = 14 then sr (mc1 (upP (σ 48) (σ 50))) (i + 1).toNat else σ 47 j) ∧ RI 47 σ (backP (σ 48) (σ 50)) (backD (σ 48) (σ 50) (σ 51)) (i + 1) s1 := fun v z m hv hz hm => by
      refine ⟨_, rfl, fun k k0 k3 k4 => by rw [mset_ne k0, mset_ne k4, mset_ne k3]; exact f4 k k0 k3 k4, fun j => ?_, RI_set i0 r4 (fun x => ?_) (fun x => ?_)⟩
      · rw [mset_same, mset_ne (by omega), mset_ne (by omega)]
        show (if j = 14 then t 47 14 + m else t 47 j) = _
        rw [g4 j, g4 14, if_pos rfl, sr_step i0, hm]
        split <;> omega
      · rw [mset_ne (by omega), mset_ne (by omega), mset_same, hv]
      · rw [mset_ne (by omega), mset_same, mset_ne (by omega), hz]
    show ∃ s1, fX6_retreat_c103 (f + 1) i t = fX6_retreat_c103 f (i + 1) s1 ∧ _
    rw [fX6_retreat_c103, if_neg (by rw [mI_le] <;> omega), if_pos hii, e52, m_meets h1.1 h1.2, Option.bind_some]
    unfold fX6_retreat_c146 fX6_retreat_c180 fX6_retreat_c195
    by_cases hm : meetP (upP (σ 48) (σ 50) i)
    · have b1 := t1_r h2.1 h2.2
      have b2 := t1_r b1.1 b1.2
      rw [if_pos hm, iI_yes, if_pos hii, m_turnedR h1.1 h1.2, Option.bind_some, if_pos hii, mqb, iI_yes, if_pos hii, mset_ne (k := 50) (k' := 53) (by omega), e53, m_turnedR h2.1 h2.2, Option.bind_some, m_turnedR b1.1 b1.2, Option.bind_some, m_turnedR b2.1 b2.2, Option.bind_some, if_pos hii, mqb, iI_yes, mqb, mset_ne (k := 51) (k' := 47) (by omega), mset_ne (k := 50) (k' := 47) (by omega)]
      exact last _ _ 1 (by unfold backP; rw [if_pos hm, m_t13 hm]) (by unfold backD; rw [if_pos hm, m_t111 h2.1 h2.2]) (if_pos hm).symm
    · simp only [if_neg hm, iI_no, if_pos hii, mqb]
      rw [mset_ne (k := 50) (k' := 53) (by omega), e53, mset_ne (k := 51) (k' := 47) (by omega), mset_ne (k := 50) (k' := 47) (by omega)]
      exact last _ _ 0 (by unfold backP; rw [if_neg hm]) (by unfold backD; rw [if_neg hm]) (if_neg hm).symm) (s := qset σ3 47 14 0) ⟨fun k k0 _ _ => mset_ne k0, fun j => by
      rw [mset_same, fr3 _ (by omega) (by omega) (by omega)]
      rfl, fun x => by
      rw [if_neg (by omega), if_neg (by omega), mset_ne (by omega), mset_ne (by omega), fr3 _ (by omega) (by omega) (by omega), fr3 _ (by omega) (by omega) (by omega)]
      exact ⟨rfl, rfl⟩⟩
  have e4' : fX6_retreat_c103 qFU 0 (qset σ3 47 14 0) = some (0, σ4) := e4
  rw [e4']
  refine ⟨σ4, rfl, fun k k47 k3 k4 k52 k53 k60 => by rw [f4 k k47 k3 k4, fr3 k k52 k53 k60], fun j => g4 j, fun x => r4 x, fun b b0 b1 => ?_⟩
  obtain ⟨v1, v2, v3⟩ := u3 b b0 b1
  have e384 : ((4 : Int) * 96).toNat = 384 := rfl
  rw [f4 _ (by omega) (by omega) (by omega), v1, v2, v3, e384]
  exact ⟨sm_op (f := hN (σ 48) (σ 49) (qbt (t2r (σ 50))) b), sm_op (f := hR (σ 48) (σ 49) (qbt (t2r (σ 50))) b), sm_op (f := hU (σ 48) (σ 49) (qbt (t2r (σ 50))) b)⟩
