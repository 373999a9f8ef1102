/-! ===== what STEPS did is undone by going back ===== -/
def CLO (kd : Int → Int) : Prop := ∀ c, 0 ≤ c → c < 96 → kd c ≠ 2 ∧ kd c ≠ 3
theorem stepP_hop {kd pt : Int → Int} (hc : CLO kd) {x : Int} (x0 : 0 ≤ x) (x1 : x < 96) : stepP kd pt x = hop kd (mt pt) x := by
  have h := hc x x0 x1
  unfold stepP inP outP
  rw [if_neg h.1, if_neg h.2]
theorem stepD_hop {kd pt dy : Int → Int} (hc : CLO kd) {x : Int} (x0 : 0 ≤ x) (x1 : x < 96) : stepD kd pt dy x = hop kd (md pt dy) x := by
  have h := hc x x0 x1
  unfold stepD outP
  rw [if_neg h.2]
theorem sC_op {kd : Int → Int} {x v : Int} (v0 : 0 ≤ v) (v1 : v < 4) : sC kd x (op v) = dC kd x v := by
  unfold sC dC
  rw [op_op v0 v1]
theorem sW_op {kd : Int → Int} {x v : Int} (v0 : 0 ≤ v) (v1 : v < 4) : op (sW kd x (op v)) = dW kd x v := by
  unfold sW dW
  rw [op_op v0 v1]
  split
  · rfl
  · exact op_op v0 v1
/-- all turned round, hopped, and turned round again: back -/
theorem upP_hop {kd p q : Int → Int} (hq : PR q) (hw : WF kd q) (h : ∀ c, 0 ≤ c → c < 96 → p c = hop kd q c) {x : Int} (x0 : 0 ≤ x) (x1 : x < 96) : upP kd p x = q x := by
  have hr := hop_r kd (t2r p) x
  have ht := t2_r hr.1 hr.2
  have hqx : 0 ≤ q x ∧ q x ≤ 15 := hq x x0 x1
  refine eq_bits ht.1 ht.2 hqx.1 hqx.2 fun v v0 v1 => ?_
  have hv := op_r v0 v1
  show bt (t2 (hop kd (t2r p) x)) v = bt (q x) v
  rw [bt_t2 hr.1 hr.2 v0 v1, bt_hop hv.1 hv.2]
  unfold gq
  by_cases hk : kd x = 1
  · rw [if_pos hk, hw x x0 x1 hk, bt_0]
  · rw [if_neg hk]
    have hX := sC_r x0 x1 (kd := kd) (w := op v)
    have hV := sW_r hv.1 hv.2 (kd := kd) (c := x)
    have hkX := sC_free (w := op v) hk
    have e1 := sC_op (kd := kd) (x := x) v0 v1
    have e2 := sW_op (kd := kd) (x := x) v0 v1
    generalize sC kd x (op v) = X at hX hkX e1 ⊢
    generalize sW kd x (op v) = V at hV e2 ⊢
    have hp := hop_r kd q X
    have hVo := op_r hV.1 hV.2
    show bt (t2 (p X)) V = _
    rw [h X hX.1 hX.2, bt_t2 hp.1 hp.2 hV.1 hV.2, bt_hop hVo.1 hVo.2]
    unfold gq
    rw [if_neg hkX, e1, e2]
    have hs := sd x0 x1 v0 v1 hk
    rw [hs.1, hs.2]
    rfl
/-- who is sent back hits the same way again -/
theorem hit_back {kd p q : Int → Int} (hw : WF kd q) (h : ∀ c, 0 ≤ c → c < 96 → p c = hop kd q c) {c w : Int} (c0 : 0 ≤ c) (c1 : c < 96) (w0 : 0 ≤ w) (w1 : w < 4) (hs : shut kd (bs c w)) : qbt (t2r p) c w = qbt q c w := by
  have hp := hop_r kd q c
  have hwo := op_r w0 w1
  show bt (t2 (p c)) w = bt (q c) w
  rw [h c c0 c1, bt_t2 hp.1 hp.2 w0 w1, bt_hop hwo.1 hwo.2]
  unfold gq
  by_cases hk : kd c = 1
  · rw [if_pos hk, hw c c0 c1 hk, bt_0]
  · rw [if_neg hk]
    unfold sC sW
    rw [op_op w0 w1, if_pos hs, if_pos hs]
    rfl
theorem hN_back {kd bd p q : Int → Int} (hw : WF kd q) (h : ∀ c, 0 ≤ c → c < 96 → p c = hop kd q c) {b : Int} (b0 : 0 ≤ b) : sm (hN kd bd (qbt (t2r p)) b) 384 = sm (hN kd bd (qbt q) b) 384 ∧ sm (hR kd bd (qbt (t2r p)) b) 384 = sm (hR kd bd (qbt q) b) 384 ∧ sm (hU kd bd (qbt (t2r p)) b) 384 = sm (hU kd bd (qbt q) b) 384 := by
  have key : ∀ c w : Int, 0 ≤ c → c < 96 → 0 ≤ w → w < 4 → hB kd bd c w = b → qbt (t2r p) c w = qbt q c w := fun c w c0 c1 w0 w1 hb => by
    refine hit_back hw h c0 c1 w0 w1 ?_
    unfold hB at hb
    by_cases e : bs c w = -1
    · exact Or.inl e
    · rw [if_neg e] at hb
      by_cases e2 : kd (bs c w) = 1
      · exact Or.inr e2
      · rw [if_neg e2] at hb; omega
  refine ⟨sm_congr' fun c w c0 c1 w0 w1 => ?_, sm_congr' fun c w c0 c1 w0 w1 => ?_, sm_congr' fun c w c0 c1 w0 w1 => ?_⟩
  · unfold hN
    by_cases e : hB kd bd c w = b
    · rw [if_pos e, if_pos e, key c w c0 c1 w0 w1 e]
    · rw [if_neg e, if_neg e]
  · unfold hR
    by_cases e : hB kd bd c w = b
    · rw [if_pos e, if_pos e, key c w c0 c1 w0 w1 e]
    · rw [if_neg e, if_neg e]
  · unfold hU
    by_cases e : hB kd bd c w = b
    · rw [if_pos e, if_pos e, key c w c0 c1 w0 w1 e]
    · rw [if_neg e, if_neg e]
theorem meet_t1 {x : Int} (h : meetP x) : meetP (t1 x) := by
  rcases h with rfl | rfl
  · exact Or.inr rfl
  · exact Or.inl rfl
theorem t3_t1 {x : Int} (h0 : 0 ≤ x) (h1 : x ≤ 15) : t3 (t1 x) = x := by
  obtain ⟨n, rfl⟩ := f16 h0 h1
  exact (by decide +kernel : ∀ (n : Fin 16), t3 (t1 (n.val : Int)) = (n.val : Int)) n
theorem meet_mt (pt : Int → Int) (c : Int) : meetP (mt pt c) ↔ meetP (pt c) := by
  unfold mt
  by_cases e : meetP (pt c)
  · rw [if_pos e]; exact ⟨fun _ => e, fun _ => meet_t1 e⟩
  · rw [if_neg e]
theorem mn_mt (pt : Int → Int) : mn (mt pt) = mn pt := sr_congr fun c _ _ => by
  unfold mc1
  by_cases e : meetP (pt c)
  · rw [if_pos e, if_pos ((meet_mt pt c).mpr e)]
  · rw [if_neg e, if_neg (fun z => e ((meet_mt pt c).mp z))]
theorem WF_dy {kd pt dy : Int → Int} (hd : PR dy) (hw : WF kd pt) (h : DS dy pt) : WF kd dy := fun c c0 c1 hk => by
  have hc : 0 ≤ dy c ∧ dy c ≤ 15 := hd c c0 c1
  refine eq_bits hc.1 hc.2 (by omega) (by omega) fun v v0 v1 => ?_
  have h1 : bt (dy c) v ≤ bt (pt c) v := h c v c0 c1 v0 v1
  rw [hw c c0 c1 hk, bt_0] at h1
  have h2 := bt_r (dy c) v
  rw [bt_0]
  omega
theorem md_WF {kd pt dy : Int → Int} (hw : WF kd pt) (hd : WF kd dy) : WF kd (md pt dy) := fun c c0 c1 hk => by
  unfold md
  rw [if_neg (by rw [hw c c0 c1 hk]; intro z; rcases z with z | z <;> omega)]
  exact hd c c0 c1 hk
/-- a STEP in closed water, undone -/
theorem undo_pure {kd bd pt dy p d : Int → Int} (hc : CLO kd) (hp : PR pt) (hd : PR dy) (hw : WF kd pt) (hds : DS dy pt) (h1 : ∀ c, 0 ≤ c → c < 96 → p c = stepP kd pt c) (h2 : ∀ c, 0 ≤ c → c < 96 → d c = stepD kd pt dy c) : (∀ x, 0 ≤ x → x < 96 → backP kd p x = pt x ∧ backD kd p d x = dy x) ∧ mn (upP kd p) = mn pt ∧ ∀ b, 0 ≤ b → sm (hN kd bd (qbt (t2r p)) b) 384 = sm (hN kd bd (qbt (mt pt)) b) 384 ∧ sm (hR kd bd (qbt (t2r p)) b) 384 = sm (hR kd bd (qbt (mt pt)) b) 384 ∧ sm (hU kd bd (qbt (t2r p)) b) 384 = sm (hU kd bd (qbt (mt pt)) b) 384 := by
  have g1 : ∀ c, 0 ≤ c → c < 96 → p c = hop kd (mt pt) c := fun c c0 c1 => by rw [h1 c c0 c1, stepP_hop hc c0 c1]
  have g2 : ∀ c, 0 ≤ c → c < 96 → d c = hop kd (md pt dy) c := fun c c0 c1 => by rw [h2 c c0 c1, stepD_hop hc c0 c1]
  have wd := WF_dy hd hw hds
  have u1 : ∀ x, 0 ≤ x → x < 96 → upP kd p x = mt pt x := fun x x0 x1 => upP_hop (mt_PR hp) (mt_WF hw) g1 x0 x1
  have u2 : ∀ x, 0 ≤ x → x < 96 → upP kd d x = md pt dy x := fun x x0 x1 => upP_hop (md_PR hd) (md_WF hw wd) g2 x0 x1
  refine ⟨fun x x0 x1 => ?_, ?_, fun b b0 => hN_back (mt_WF hw) g1 b0⟩
  · have hx : 0 ≤ pt x ∧ pt x ≤ 15 := hp x x0 x1
    have hy : 0 ≤ dy x ∧ dy x ≤ 15 := hd x x0 x1
    unfold backP backD
    rw [u1 x x0 x1, u2 x x0 x1]
    have hm := meet_mt pt x
    by_cases e : meetP (pt x)
    · rw [if_pos (hm.mpr e), if_pos (hm.mpr e)]
      unfold mt md
      rw [if_pos e, if_pos e]
      exact ⟨t3_t1 hx.1 hx.2, t3_t1 hy.1 hy.2⟩
    · rw [if_neg (fun z => e (hm.mp z)), if_neg (fun z => e (hm.mp z))]
      unfold mt md
      rw [if_neg e, if_neg e]
      exact ⟨rfl, rfl⟩
  · rw [mn_congr u1]
    exact mn_mt pt
/-- how many particles -/
def cnt (r : Int → Int) : Int := sr (fun c => btc (r c)) 96
theorem cnt_sm (r : Int → Int) : cnt r = sm (qbt r) 384 := by
  unfold cnt
  rw [show (384 : Nat) = 4 * 96 from rfl, sm_sr]
  rfl
theorem cnt_congr {r r' : Int → Int} (h : ∀ c, 0 ≤ c → c < 96 → r c = r' c) : cnt r = cnt r' := sr_congr fun c c0 c1 => by rw [h c c0 c1]
theorem cnt_hop {kd r : Int → Int} (hw : WF kd r) : cnt (hop kd r) = cnt r := by
  rw [cnt_sm r, ← sm_gq (kd := kd) (q := qbt r) (fun c w c0 c1 _ _ hk => by unfold qbt; rw [hw c c0 c1 hk, bt_0]), cnt_sm]
  exact sm_congr' fun c w _ _ w0 w1 => by unfold qbt; exact bt_hop w0 w1
theorem cnt_mt (pt : Int → Int) : cnt (mt pt) = cnt pt := sr_congr fun c _ _ => by
  unfold mt
  by_cases e : meetP (pt c)
  · rw [if_pos e]
    rcases e with e | e <;> rw [e] <;> rfl
  · rw [if_neg e]
theorem cnt_step {kd pt p : Int → Int} (hc : CLO kd) (hw : WF kd pt) (h1 : ∀ c, 0 ≤ c → c < 96 → p c = stepP kd pt c) : cnt p = cnt pt := by
  rw [cnt_congr (r' := hop kd (mt pt)) (fun c c0 c1 => by rw [h1 c c0 c1, stepP_hop hc c0 c1]), cnt_hop (mt_WF hw), cnt_mt]
theorem hR_192 (kd bd r : Int → Int) (j : Int) : -192 ≤ sm (hR kd bd (qbt r) j) 384 ∧ sm (hR kd bd (qbt r) j) 384 ≤ 192 := by
  have h := sr_bound (f := fun c => hR kd bd (qbt r) j c 0 + hR kd bd (qbt r) j c 1 + hR kd bd (qbt r) j c 2 + hR kd bd (qbt r) j c 3) (B := 2) (by omega) (n := 96) (fun c _ _ => by
    have q0 := qbt_r r c 0
    have q2 := qbt_r r c 2
    show -2 ≤ hR kd bd (qbt r) j c 0 + hR kd bd (qbt r) j c 1 + hR kd bd (qbt r) j c 2 + hR kd bd (qbt r) j c 3 ∧ hR kd bd (qbt r) j c 0 + hR kd bd (qbt r) j c 1 + hR kd bd (qbt r) j c 2 + hR kd bd (qbt r) j c 3 ≤ 2
    have e0 : 0 ≤ hR kd bd (qbt r) j c 0 ∧ hR kd bd (qbt r) j c 0 ≤ 2 := by
      unfold hR
      rw [show rgt 0 = 2 from rfl]
      split <;> omega
    have e1 : hR kd bd (qbt r) j c 1 = 0 := by
      unfold hR
      rw [show rgt 1 = 0 from rfl]
      split <;> omega
    have e2 : -2 ≤ hR kd bd (qbt r) j c 2 ∧ hR kd bd (qbt r) j c 2 ≤ 0 := by
      unfold hR
      rw [show rgt 2 = -2 from rfl]
      split <;> omega
    have e3 : hR kd bd (qbt r) j c 3 = 0 := by
      unfold hR
      rw [show rgt 3 = 0 from rfl]
      split <;> omega
    omega)
  rw [show (384 : Nat) = 4 * 96 from rfl, sm_sr]
  omega
theorem hN_384 (kd bd r : Int → Int) (j : Int) : -384 ≤ sm (hN kd bd (qbt r) j) 384 ∧ sm (hN kd bd (qbt r) j) 384 ≤ 384 := by
  have h := sm_bound (f := hN kd bd (qbt r) j) (B := 1) (by omega) (n := 384) (fun c w _ _ _ _ => by
    have q0 := qbt_r r c w
    unfold hN
    split <;> omega)
  omega
theorem hU_768 (kd bd r : Int → Int) (j : Int) : -768 ≤ sm (hU kd bd (qbt r) j) 384 ∧ sm (hU kd bd (qbt r) j) 384 ≤ 768 := by
  have h := sm_bound (f := hU kd bd (qbt r) j) (B := 2) (by omega) (n := 384) (fun c w _ _ w0 w1 => by
    have q0 := qbt_r r c w
    unfold hU
    rcases (show w = 0 ∨ w = 1 ∨ w = 2 ∨ w = 3 by omega) with rfl | rfl | rfl | rfl
    · rw [show upw 0 = 0 from rfl]; split <;> omega
    · rw [show upw 1 = 2 from rfl]; split <;> omega
    · rw [show upw 2 = 0 from rfl]; split <;> omega
    · rw [show upw 3 = -2 from rfl]; split <;> omega)
  omega
