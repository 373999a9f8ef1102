theorem mk_gv0 {kd : Int → Int} {q ix : Int → Int → Int} (ho : ordI ix) {x : Int} (x0 : 0 ≤ x) (x1 : x < 96) : mk (gv kd q ix 0 x) = 0 := by
  unfold mk
  rw [gv_0 ho x0 x1 (by omega) (by omega), gv_0 ho x0 x1 (by omega) (by omega), gv_0 ho x0 x1 (by omega) (by omega), gv_0 ho x0 x1 (by omega) (by omega)]
  rfl
theorem mk_gvN {kd : Int → Int} {q ix : Int → Int → Int} (ho : ordI ix) {x : Int} (x0 : 0 ≤ x) (x1 : x < 96) : mk (gv kd q ix 384 x) = mk (gq kd q x) := mk_congr fun v v0 v1 => gv_N ho x0 x1 v0 v1
theorem m_advance {B : Nat} (hB9 : B = 47 ∨ B = 51) {σ : qSt} (hk : KR (σ 48)) (hb : BR (σ 49)) (hp : PR (σ (B + 3))) (hd : PR (σ (B + 4))) (hw : WF (σ 48) (σ (B + 3))) (hds : DS (σ (B + 4)) (σ (B + 3))) : ∃ σ', fX6_advance (B + 3) (B + 4) σ = some (0, σ') ∧ (∀ k, k ≠ 47 → k ≠ B + 3 → k ≠ B + 4 → k ≠ 52 → k ≠ 53 → k ≠ 60 → σ' k = σ k) ∧ (∀ j, σ' 47 j = if j = 14 then mn (σ (B + 3)) else σ 47 j) ∧ (∀ x, σ' (B + 3) x = (if 0 ≤ x ∧ x < 96 then stepP (σ 48) (σ (B + 3)) x else σ (B + 3) x) ∧ σ' (B + 4) x = (if 0 ≤ x ∧ x < 96 then stepD (σ 48) (σ (B + 3)) (σ (B + 4)) x else σ (B + 4) x)) ∧ ∀ b, 0 ≤ b → b < 4 → σ' 60 (3 * b) = sm (hN (σ 48) (σ 49) (qbt (mt (σ (B + 3)))) b) 384 ∧ σ' 60 (3 * b + 1) = sm (hR (σ 48) (σ 49) (qbt (mt (σ (B + 3)))) b) 384 ∧ σ' 60 (3 * b + 2) = sm (hU (σ 48) (σ 49) (qbt (mt (σ (B + 3)))) b) 384 := by
  unfold fX6_advance
  rw [mqb]
  -- the tally
  obtain ⟨σ1, e1, f1, g1⟩ := mloop (P := fun i t => (∀ k, k ≠ 60 → t k = qset σ 47 14 0 k) ∧ ∀ j, 0 ≤ j → j < i → t 60 j = 0) (F := fun f i t => fX6_advance_c7 (B + 3) (B + 4) f i t) (R := fun t => fX6_advance_c28 (B + 3) (B + 4) qFU 0 t) 12 (by omega) (by omega) (fun f t _ => by
    show fX6_advance_c7 (B + 3) (B + 4) (f + 1) 12 t = _
    rw [fX6_advance_c7, if_pos (by rw [mI_le] <;> omega)]) (fun f i t i0 i1 hP => by
    show ∃ s1, fX6_advance_c7 (B + 3) (B + 4) (f + 1) i t = fX6_advance_c7 (B + 3) (B + 4) f (i + 1) s1 ∧ _
    rw [fX6_advance_c7, if_neg (by rw [mI_le] <;> omega), if_pos ⟨i0, i1⟩, mqb]
    refine ⟨_, rfl, fun k hk => by rw [mset_ne hk]; exact hP.1 k hk, fun j j0 j1 => ?_⟩
    rw [mset_same]
    show (if j = i then 0 else t 60 j) = 0
    split
    · rfl
    · exact hP.2 j j0 (by omega)) (s := qset σ 47 14 0) ⟨fun _ _ => rfl, fun j _ _ => by omega⟩
  have e1' : fX6_advance_c7 (B + 3) (B + 4) qFU 0 (qset σ 47 14 0) = fX6_advance_c28 (B + 3) (B + 4) qFU 0 σ1 := e1
  rw [e1']
  have fr1 : ∀ k, k ≠ 47 → k ≠ 60 → σ1 k = σ k := fun k a b => by rw [f1 k b, mset_ne a]
  have h47 : ∀ j, σ1 47 j = if j = 14 then 0 else σ 47 j := fun j => by rw [f1 _ (by omega), mset_same]
  have p1 : σ1 (B + 3) = σ (B + 3) := fr1 _ (by omega) (by omega)
  have d1 : σ1 (B + 4) = σ (B + 4) := fr1 _ (by omega) (by omega)
  -- the meetings
  obtain ⟨σ2, e2, f2, g2, r2, z2⟩ := mloop (P := fun i t => (∀ k, k ≠ 47 → k ≠ B + 3 → k ≠ B + 4 → k ≠ 52 → k ≠ 53 → t k = σ1 k) ∧ (∀ j, t 47 j = if j = 14 then sr (mc1 (σ (B + 3))) i.toNat else σ 47 j) ∧ RI B σ1 (mt (σ (B + 3))) (md (σ (B + 3)) (σ (B + 4))) i t ∧ ∀ x, 0 ≤ x → x < i → t 52 x = 0 ∧ t 53 x = 0) (F := fun f i t => fX6_advance_c28 (B + 3) (B + 4) f i t) (R := fun t => fX6_advance_c93 (B + 3) (B + 4) qFU 0 t) 96 (by omega) (by omega) (fun f t _ => by
    show fX6_advance_c28 (B + 3) (B + 4) (f + 1) 96 t = _
    rw [fX6_advance_c28, if_pos (by rw [mI_le] <;> omega)]) (fun f i t i0 i1 hP => by
    obtain ⟨f2, g2, r2, z2⟩ := hP
    have hii : 0 ≤ i ∧ i < 96 := ⟨i0, i1⟩
    have hr := hp i i0 i1
    have hr2 := hd i i0 i1
    obtain ⟨a1, a2⟩ := RI_at r2
    have c71 : ∀ u : qSt, (∀ k, k ≠ 47 → k ≠ B + 3 → k ≠ B + 4 → k ≠ 52 → k ≠ 53 → u k = σ1 k) → (∀ j, u 47 j = if j = 14 then sr (mc1 (σ (B + 3))) (i + 1).toNat else σ 47 j) → RI B σ1 (mt (σ (B + 3))) (md (σ (B + 3)) (σ (B + 4))) (i + 1) u → (∀ x, 0 ≤ x → x < i → u 52 x = 0 ∧ u 53 x = 0) → ∃ s1, fX6_advance_c71 (B + 3) (B + 4) (fX6_advance_c28 (B + 3) (B + 4) f) i u = fX6_advance_c28 (B + 3) (B + 4) f (i + 1) s1 ∧ (∀ k, k ≠ 47 → k ≠ B + 3 → k ≠ B + 4 → k ≠ 52 → k ≠ 53 → s1 k = σ1 k) ∧ (∀ j, s1 47 j = if j = 14 then sr (mc1 (σ (B + 3))) (i + 1).toNat else σ 47 j) ∧ RI B σ1 (mt (σ (B + 3))) (md (σ (B + 3)) (σ (B + 4))) (i + 1) s1 ∧ ∀ x, 0 ≤ x → x < i + 1 → s1 52 x = 0 ∧ s1 53 x = 0 := fun u u1 u2 u3 u4 => by
      unfold fX6_advance_c71
      rw [if_pos hii, mqb, if_pos hii, mqb]
      refine ⟨_, rfl, fun k k0 k3 k4 k2 k5 => by rw [mset_ne k5, mset_ne k2]; exact u1 k k0 k3 k4 k2 k5, fun j => by rw [mset_ne (by omega), mset_ne (by omega)]; exact u2 j, fun x => by rw [mset_ne (by omega), mset_ne (by omega), mset_ne (by omega), mset_ne (by omega)]; exact u3 x, fun x x0 x1 => ⟨?_, ?_⟩⟩
      · rw [mset_ne (by omega), mset_same]
        show (if x = i then 0 else u 52 x) = 0
        split
        · rfl
        · exact (u4 x x0 (by omega)).1
      · rw [mset_same]
        show (if x = i then 0 else qset u 52 i 0 53 x) = 0
        rw [mset_ne (by omega)]
        split
        · rfl
        · exact (u4 x x0 (by omega)).2
    show ∃ s1, fX6_advance_c28 (B + 3) (B + 4) (f + 1) i t = fX6_advance_c28 (B + 3) (B + 4) f (i + 1) s1 ∧ _
    rw [fX6_advance_c28, if_neg (by rw [mI_le] <;> omega), if_pos hii, a1, p1, m_meets hr.1 hr.2, Option.bind_some]
    by_cases hm : meetP (σ (B + 3) i)
    · rw [if_pos hm, iI_yes, if_pos hii, m_turnedR hr.1 hr.2, Option.bind_some, if_pos hii, mqb, if_pos hii, mset_ne (by omega), a2, d1, m_turnedR hr2.1 hr2.2, Option.bind_some, if_pos hii, mqb, mqb, mset_ne (by omega), mset_ne (by omega)]
      refine c71 _ (fun k k0 k3 k4 k2 k5 => by rw [mset_ne k0, mset_ne k4, mset_ne k3]; exact f2 k k0 k3 k4 k2 k5) (fun j => ?_) (RI_set i0 r2 (fun x => ?_) (fun x => ?_)) (fun x x0 x1 => by rw [mset_ne (by omega), mset_ne (by omega), mset_ne (by omega), mset_ne (by omega), mset_ne (by omega), mset_ne (by omega)]; exact z2 x x0 x1)
      · rw [mset_same, mset_ne (by omega), mset_ne (by omega)]
        show (if j = 14 then t 47 14 + 1 else t 47 j) = _
        rw [g2 j, g2 14, if_pos rfl, sr_step i0, show mc1 (σ (B + 3)) i = 1 from if_pos hm]
        split <;> omega
      · rw [mset_ne (by omega), mset_ne (by omega), mset_same, show mt (σ (B + 3)) i = t1 (σ (B + 3) i) from if_pos hm]
      · rw [mset_ne (by omega), mset_same, mset_ne (by omega), show md (σ (B + 3)) (σ (B + 4)) i = t1 (σ (B + 4) i) from if_pos hm]
    · rw [if_neg hm, iI_no]
      refine c71 t f2 (fun j => ?_) (RI_same i0 r2 (by rw [p1]; exact if_neg hm) (by rw [d1]; exact if_neg hm)) z2
      rw [g2 j, sr_step i0, show mc1 (σ (B + 3)) i = 0 from if_neg hm, Int.add_zero]) (s := σ1) ⟨fun _ _ _ _ _ _ => rfl, fun j => h47 j, RI_0, fun x _ _ => by omega⟩
  have e2' : fX6_advance_c28 (B + 3) (B + 4) qFU 0 σ1 = fX6_advance_c93 (B + 3) (B + 4) qFU 0 σ2 := e2
  rw [e2']
  have k2 : σ2 48 = σ 48 := (f2 _ (by omega) (by omega) (by omega) (by omega) (by omega)).trans (fr1 _ (by omega) (by omega))
  have b2 : σ2 49 = σ 49 := (f2 _ (by omega) (by omega) (by omega) (by omega) (by omega)).trans (fr1 _ (by omega) (by omega))
  have p2 : ∀ c, 0 ≤ c → c < 96 → σ2 (B + 3) c = mt (σ (B + 3)) c := fun c c0 c1 => by rw [(r2 c).1, if_pos ⟨c0, c1⟩]
  have d2 : ∀ c, 0 ≤ c → c < 96 → σ2 (B + 4) c = md (σ (B + 3)) (σ (B + 4)) c := fun c c0 c1 => by rw [(r2 c).2, if_pos ⟨c0, c1⟩]
  have hp2 : PR (σ2 (B + 3)) := fun c c0 c1 => by rw [p2 c c0 c1]; exact mt_PR hp c c0 c1
  have hd2 : PR (σ2 (B + 4)) := fun c c0 c1 => by rw [d2 c c0 c1]; exact md_PR hd c c0 c1
  have hw2 : WF (σ2 48) (σ2 (B + 3)) := fun c c0 c1 z => by rw [p2 c c0 c1]; exact mt_WF hw c c0 c1 (by rw [← k2]; exact z)
  have hds2 : DS (σ2 (B + 4)) (σ2 (B + 3)) := fun c w c0 c1 w0 w1 => by
    have := md_DS hp hd hds c w c0 c1 w0 w1
    unfold qbt at this ⊢
    rw [p2 c c0 c1, d2 c c0 c1]
    exact this
  -- the hops
  have start : HM σ2 (σ2 48) (σ2 49) (qbt (σ2 (B + 3))) (qbt (σ2 (B + 4))) (4 * 0) σ2 := by
    refine ⟨fun _ _ _ _ => rfl, fun x x0 x1 => ?_, fun b b0 b1 => ?_⟩
    · show σ2 52 x = mk (gv _ _ ix1 0 x) ∧ σ2 53 x = mk (gv _ _ ix1 0 x)
      rw [mk_gv0 ix1_ok x0 x1, mk_gv0 ix1_ok x0 x1]
      exact z2 x x0 x1
    · rw [f2 60 (by omega) (by omega) (by omega) (by omega) (by omega), g1 _ (by omega) (by omega), g1 _ (by omega) (by omega), g1 _ (by omega) (by omega)]
      exact ⟨rfl, rfl, rfl⟩
  obtain ⟨σ3, e3, h3⟩ := mloop (P := fun c t => HM σ2 (σ2 48) (σ2 49) (qbt (σ2 (B + 3))) (qbt (σ2 (B + 4))) (4 * c) t) (F := fun f c t => fX6_advance_c93 (B + 3) (B + 4) f c t) (R := fun t => fX6_advance_c223 (B + 3) (B + 4) qFU 0 t) 96 (by omega) (by omega) (fun f t _ => by
    show fX6_advance_c93 (B + 3) (B + 4) (f + 1) 96 t = _
    rw [fX6_advance_c93, if_pos (by rw [mI_le] <;> omega)]) (fun f c t c0 c1 hP => by
    show ∃ s1, fX6_advance_c93 (B + 3) (B + 4) (f + 1) c t = fX6_advance_c93 (B + 3) (B + 4) f (c + 1) s1 ∧ _
    rw [fX6_advance_c93, if_neg (by rw [mI_le] <;> omega)]
    have hr := hp2 c c0 c1
    obtain ⟨t1, e4, h4⟩ := mloop (P := fun w t => HM σ2 (σ2 48) (σ2 49) (qbt (σ2 (B + 3))) (qbt (σ2 (B + 4))) (4 * c + w) t) (F := fun f1 w t => fX6_advance_c102 (B + 3) (B + 4) (fX6_advance_c93 (B + 3) (B + 4) f) f1 c w t) (R := fun t => fX6_advance_c93 (B + 3) (B + 4) f (c + 1) t) 4 (by omega) (by omega) (fun f1 t _ => by
      show fX6_advance_c102 (B + 3) (B + 4) (fX6_advance_c93 (B + 3) (B + 4) f) (f1 + 1) c 4 t = _
      rw [fX6_advance_c102, if_pos (by rw [mI_le] <;> omega)]) (fun f1 w t w0 w1 hP => by
      have ep : t (B + 3) = σ2 (B + 3) := hP.1 _ (by omega) (by omega) (by omega)
      show ∃ s1, fX6_advance_c102 (B + 3) (B + 4) (fX6_advance_c93 (B + 3) (B + 4) f) (f1 + 1) c w t = fX6_advance_c102 (B + 3) (B + 4) (fX6_advance_c93 (B + 3) (B + 4) f) f1 c (w + 1) s1 ∧ HM σ2 (σ2 48) (σ2 49) (qbt (σ2 (B + 3))) (qbt (σ2 (B + 4))) (4 * c + (w + 1)) s1
      have hbr := bt_r (σ2 (B + 3) c) w
      rw [fX6_advance_c102, if_neg (by rw [mI_le] <;> omega), if_pos ⟨c0, c1⟩, ep, m_bit hr.1 hr.2 w0 w1, iI_eq (by omega) (by omega) (by omega) (by omega), show 4 * c + (w + 1) = 4 * c + w + 1 by omega]
      rcases (show bt (σ2 (B + 3) c) w = 0 ∨ bt (σ2 (B + 3) c) w = 1 by omega) with e | e
      · rw [if_neg (by omega)]
        refine ⟨t, rfl, HM_skip (qbt_r _) (qbt_r _) c0 c1 w0 w1 rfl e ?_ hP⟩
        have b1 := hds2 c w c0 c1 w0 w1
        have b2 := qbt_r (σ2 (B + 4)) c w
        have b3 : qbt (σ2 (B + 3)) c w = 0 := e
        omega
      · rw [if_pos e, m_besideM (σ := t) c0 c1 w0 w1, Option.bind_some]
        have hkc : σ2 48 c ≠ 1 := fun z => by
          rw [hw2 c c0 c1 z, bt_0] at e
          omega
        exact HM_hop hB9 (by rw [k2]; exact hk) (by rw [b2]; exact hb) hd2 c0 c1 w0 w1 rfl hkc e hP (fX6_advance_c93 (B + 3) (B + 4) f) (fX6_advance_c102 (B + 3) (B + 4) (fX6_advance_c93 (B + 3) (B + 4) f) f1)) (s := t) (by rw [Int.add_zero]; exact hP)
    exact ⟨t1, e4, by rw [show 4 * (c + 1) = 4 * c + 4 by omega]; exact h4⟩) start
  have e3' : fX6_advance_c93 (B + 3) (B + 4) qFU 0 σ2 = fX6_advance_c223 (B + 3) (B + 4) qFU 0 σ3 := e3
  rw [e3']
  rw [k2, b2] at h3
  obtain ⟨f3, r3, u3⟩ := h3
  have k3 : σ3 48 = σ 48 := (f3 _ (by omega) (by omega) (by omega)).trans k2
  have n3 : ∀ x, 0 ≤ x → x < 96 → σ3 52 x = hop (σ 48) (mt (σ (B + 3))) x ∧ σ3 53 x = hop (σ 48) (md (σ (B + 3)) (σ (B + 4))) x := fun x x0 x1 => by
    obtain ⟨a, b⟩ := r3 x x0 x1
    rw [a, b]
    show mk (gv _ _ ix1 384 x) = _ ∧ mk (gv _ _ ix1 384 x) = _
    rw [mk_gvN ix1_ok x0 x1, mk_gvN ix1_ok x0 x1]
    exact ⟨hop_congr p2 x0 x1, hop_congr d2 x0 x1⟩
  -- the rows anew
  obtain ⟨σ4, e4, f4, r4⟩ := mloop (P := fun i t => (∀ k, k ≠ B + 3 → k ≠ B + 4 → t k = σ3 k) ∧ RI B σ3 (stepP (σ 48) (σ (B + 3))) (stepD (σ 48) (σ (B + 3)) (σ (B + 4))) i t) (F := fun f i t => fX6_advance_c223 (B + 3) (B + 4) f i t) (R := fun t => some (0, t)) 96 (by omega) (by omega) (fun f t _ => by
    show fX6_advance_c223 (B + 3) (B + 4) (f + 1) 96 t = _
    rw [fX6_advance_c223, if_pos (by rw [mI_le] <;> omega)]) (fun f i t i0 i1 hP => by
    obtain ⟨f4, r4⟩ := hP
    have hii : 0 ≤ i ∧ i < 96 := ⟨i0, i1⟩
    have hkr := hk i i0 i1
    obtain ⟨n1, n2⟩ := n3 i i0 i1
    have hh := hop_r (σ 48) (mt (σ (B + 3))) i
    have ek : t 48 = σ 48 := (f4 _ (by omega) (by omega)).trans k3
    have e52 : t 52 i = hop (σ 48) (mt (σ (B + 3))) i := by rw [f4 _ (by omega) (by omega)]; exact n1
    have e53 : t 53 i = hop (σ 48) (md (σ (B + 3)) (σ (B + 4))) i := by rw [f4 _ (by omega) (by omega)]; exact n2
    have c272 : ∀ v : Int, v = stepP (σ 48) (σ (B + 3)) i → ∃ s1, fX6_advance_c272 (B + 3) (B + 4) (fX6_advance_c223 (B + 3) (B + 4) f) i v i t = fX6_advance_c223 (B + 3) (B + 4) f (i + 1) s1 ∧ (∀ k, k ≠ B + 3 → k ≠ B + 4 → s1 k = σ3 k) ∧ RI B σ3 (stepP (σ 48) (σ (B + 3))) (stepD (σ 48) (σ (B + 3)) (σ (B + 4))) (i + 1) s1 := fun v hv => by
      unfold fX6_advance_c272 fX6_advance_c295
      rw [if_pos hii, mqb, if_pos hii, mset_ne (by omega), mset_ne (by omega), ek, e53, iI_eq (by omega) (by omega) (by omega) (by omega)]
      have last : ∀ z : Int, z = stepD (σ 48) (σ (B + 3)) (σ (B + 4)) i → ∃ s1, fX6_advance_c223 (B + 3) (B + 4) f (i + 1) (qset (qset t (B + 3) i v) (B + 4) i z) = fX6_advance_c223 (B + 3) (B + 4) f (i + 1) s1 ∧ (∀ k, k ≠ B + 3 → k ≠ B + 4 → s1 k = σ3 k) ∧ RI B σ3 (stepP (σ 48) (σ (B + 3))) (stepD (σ 48) (σ (B + 3)) (σ (B + 4))) (i + 1) s1 := fun z hz =>
        ⟨_, rfl, fun k a b => by rw [mset_ne b, mset_ne a]; exact f4 k a b, RI_set i0 r4 (fun x => by rw [mset_ne (by omega), mset_same, hv]) (fun x => by rw [mset_same, mset_ne (by omega), hz])⟩
      by_cases h3 : σ 48 i = 3
      · rw [if_pos h3, if_pos hii, mqb]
        exact last 0 (by unfold stepD outP; rw [if_pos h3])
      · rw [if_neg h3, if_pos hii, if_pos hii, mqb]
        exact last _ (by unfold stepD outP; rw [if_neg h3])
    show ∃ s1, fX6_advance_c223 (B + 3) (B + 4) (f + 1) i t = fX6_advance_c223 (B + 3) (B + 4) f (i + 1) s1 ∧ _
    rw [fX6_advance_c223, if_neg (by rw [mI_le] <;> omega), if_pos hii, ek, e52, iI_eq (by omega) (by omega) (by omega) (by omega)]
    by_cases h3 : σ 48 i = 3
    · rw [if_pos h3]
      exact c272 0 (by unfold stepP inP outP; rw [if_neg (by omega), if_pos h3])
    · rw [if_neg h3, if_pos hii, iI_eq (by omega) (by omega) (by omega) (by omega)]
      by_cases h2 : σ 48 i = 2
      · rw [if_pos h2, if_pos hii]
        exact c272 _ (by unfold stepP inP outP; rw [if_pos h2, if_neg h3]; exact m_or1 hh.1 hh.2)
      · rw [if_neg h2, if_pos hii]
        exact c272 _ (by unfold stepP inP outP; rw [if_neg h2, if_neg h3])) (s := σ3) ⟨fun _ _ _ => rfl, RI_0⟩
  have e4' : fX6_advance_c223 (B + 3) (B + 4) qFU 0 σ3 = some (0, σ4) := e4
  rw [e4']
  refine ⟨σ4, rfl, fun k k47 k3 k4 k52 k53 k60 => by rw [f4 k k3 k4, f3 k k52 k53 k60, f2 k k47 k3 k4 k52 k53, fr1 k k47 k60], fun j => ?_, fun x => ⟨?_, ?_⟩, fun b b0 b1 => ?_⟩
  · rw [f4 _ (by omega) (by omega), f3 _ (by omega) (by omega) (by omega), g2 j]
    rfl
  · by_cases hx : 0 ≤ x ∧ x < 96
    · rw [(r4 x).1, if_pos hx, if_pos hx]
    · rw [(r4 x).1, if_neg hx, if_neg hx, f3 _ (by omega) (by omega) (by omega), (r2 x).1, if_neg hx, p1]
  · by_cases hx : 0 ≤ x ∧ x < 96
    · rw [(r4 x).2, if_pos hx, if_pos hx]
    · rw [(r4 x).2, if_neg hx, if_neg hx, f3 _ (by omega) (by omega) (by omega), (r2 x).2, if_neg hx, d1]
  · obtain ⟨v1, v2, v3⟩ := u3 b b0 b1
    rw [f4 _ (by omega) (by omega), v1, v2, v3, ← hN_congr p2, ← hR_congr p2, ← hU_congr p2]
    exact ⟨rfl, rfl, rfl⟩
