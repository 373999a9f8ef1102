/-! ===== a step and its undoing, as rows ===== -/
theorem bt_t1 {x v : Int} (h0 : 0 ≤ x) (h1 : x ≤ 15) (v0 : 0 ≤ v) (v1 : v < 4) : bt (t1 x) v = bt x (if v = 0 then 3 else v - 1) := by
  obtain ⟨n, rfl⟩ := f16 h0 h1
  obtain ⟨k, rfl⟩ := f4 v0 v1
  exact (by decide +kernel : ∀ (n : Fin 16) (k : Fin 4), bt (t1 (n.val : Int)) (k.val : Int) = bt (n.val : Int) (if (k.val : Int) = 0 then 3 else (k.val : Int) - 1)) n k
theorem bt_t2 {x v : Int} (h0 : 0 ≤ x) (h1 : x ≤ 15) (v0 : 0 ≤ v) (v1 : v < 4) : bt (t2 x) v = bt x (op v) := by
  obtain ⟨n, rfl⟩ := f16 h0 h1
  obtain ⟨k, rfl⟩ := f4 v0 v1
  exact (by decide +kernel : ∀ (n : Fin 16) (k : Fin 4), bt (t2 (n.val : Int)) (k.val : Int) = bt (n.val : Int) (op (k.val : Int))) n k
theorem bt_t3 {x v : Int} (h0 : 0 ≤ x) (h1 : x ≤ 15) (v0 : 0 ≤ v) (v1 : v < 4) : bt (t3 x) v = bt x (if v = 3 then 0 else v + 1) := by
  obtain ⟨n, rfl⟩ := f16 h0 h1
  obtain ⟨k, rfl⟩ := f4 v0 v1
  exact (by decide +kernel : ∀ (n : Fin 16) (k : Fin 4), bt (t3 (n.val : Int)) (k.val : Int) = bt (n.val : Int) (if (k.val : Int) = 3 then 0 else (k.val : Int) + 1)) n k
def hop (kd r : Int → Int) (x : Int) : Int := mk (gq kd (qbt r) x)
theorem hop_r (kd r : Int → Int) (x : Int) : 0 ≤ hop kd r x ∧ hop kd r x ≤ 15 := mk_r fun _ _ _ => gq_r (qbt_r r)
theorem bt_hop {kd r : Int → Int} {x v : Int} (v0 : 0 ≤ v) (v1 : v < 4) : bt (hop kd r x) v = gq kd (qbt r) x v := bt_mk (fun _ _ _ => gq_r (qbt_r r)) v0 v1
theorem hop_congr {kd r r' : Int → Int} (h : ∀ c, 0 ≤ c → c < 96 → r c = r' c) {x : Int} (x0 : 0 ≤ x) (x1 : x < 96) : hop kd r x = hop kd r' x := mk_congr fun v v0 v1 => by
  unfold gq qbt
  have hc := sC_r x0 x1 (kd := kd) (w := v)
  rw [h _ hc.1 hc.2]
theorem hop_wall {kd r : Int → Int} {x : Int} (h : kd x = 1) : hop kd r x = 0 := by
  unfold hop mk gq
  simp only [if_pos h]
  rfl
theorem hop_DS {kd r d : Int → Int} (h : DS d r) : DS (hop kd d) (hop kd r) := fun c w c0 c1 w0 w1 => by
  unfold qbt
  rw [bt_hop w0 w1, bt_hop w0 w1]
  unfold gq
  have hc := sC_r c0 c1 (kd := kd) (w := w)
  have hw := sW_r w0 w1 (kd := kd) (c := c)
  have := h _ _ hc.1 hc.2 hw.1 hw.2
  split <;> omega
def gs (u : Int) (r : Int → Int) : Int := sr (fun c => bt (r c) u - bt (r c) (u + 2)) 96
theorem gs_congr {u : Int} {r r' : Int → Int} (h : ∀ c, 0 ≤ c → c < 96 → r c = r' c) : gs u r = gs u r' := sr_congr fun x h0 h1 => by rw [h x h0 h1]
theorem gs_hop {kd r : Int → Int} (hw : WF kd r) {u : Int} (hu : u = 0 ∨ u = 1) : gs u (hop kd r) + 2 * (sm (hS kd (qbt r) u) 384 - sm (hS kd (qbt r) (u + 2)) 384) = gs u r := by
  have h := acc_all (kd := kd) (q := qbt r) (fun c w c0 c1 hk => by unfold qbt; rw [hw c c0 c1 hk]; exact bt_0 w) hu
  rw [← show gs u r = sr (fun c => qbt r c u - qbt r c (u + 2)) 96 from rfl] at h
  rw [← h, show gs u (hop kd r) = sr (fun x => gq kd (qbt r) x u - gq kd (qbt r) x (u + 2)) 96 from sr_congr fun x h0 h1 => by rw [bt_hop (by omega) (by omega), bt_hop (by omega) (by omega)]]
theorem sr_sub {f g : Int → Int} {n : Nat} : sr (fun x => f x - g x) n = sr f n - sr g n := by
  induction n with
  | zero => rfl
  | succ n ih =>
    show sr (fun x => f x - g x) n + (f n - g n) = sr f n + f n - (sr g n + g n)
    rw [ih]; omega
theorem gs_mt {p : Int → Int} {k : Int} (hp : PR p) {u : Int} (hu : u = 0 ∨ u = 1) : gs u (fun c => if meetP (p c) then tb k (p c) else p c) = gs u p := sr_congr fun c c0 c1 => by
  by_cases h : meetP (p c)
  · simp only [if_pos h]
    unfold tb t1 t3
    rcases h with h | h <;> rw [h] <;> rcases hu with rfl | rfl <;> split <;> rfl
  · simp only [if_neg h]
theorem gs_t2 {p : Int → Int} (hp : PR p) {u : Int} (hu : u = 0 ∨ u = 1) : gs u (fun c => t2 (p c)) = -gs u p := by
  have : -gs u p = sr (fun c => (-1) * (bt (p c) u - bt (p c) (u + 2))) 96 := by rw [sr_mul]; unfold gs; omega
  rw [this]
  refine sr_congr fun c c0 c1 => ?_
  have := hp c (by omega) (by omega)
  rw [bt_t2 this.1 this.2 (by omega) (by omega), bt_t2 this.1 this.2 (by omega) (by omega)]
  rcases hu with rfl | rfl
  · show bt (p c) 2 - bt (p c) 0 = (-1) * (bt (p c) 0 - bt (p c) 2); omega
  · show bt (p c) 3 - bt (p c) 1 = (-1) * (bt (p c) 1 - bt (p c) 3); omega
theorem gs_out {kd p : Int → Int} {u : Int} : gs u (outP kd p) + (sr (gn kd p u) 96 - sr (gn kd p (u + 2)) 96) = gs u p := by
  rw [← sr_sub]
  unfold gs
  rw [← sr_add]
  refine sr_congr fun c c0 c1 => ?_
  unfold outP gn
  by_cases h : kd c = 3
  · simp only [if_pos h, bt_0]; omega
  · simp only [if_neg h]; omega
theorem gs_in {kd p : Int → Int} (hp : PR p) {u : Int} (hu : u = 0 ∨ u = 1) : gs u (inP kd p) = gs u p + (if u = 0 then sr (cm kd p) 96 else 0) := by
  rcases hu with rfl | rfl
  · rw [if_pos rfl]
    unfold gs
    rw [← sr_add]
    refine sr_congr fun c c0 c1 => ?_
    have := hp c c0 (by omega)
    unfold inP cm
    by_cases h : kd c = 2
    · simp only [if_pos h]
      by_cases h2 : bt (p c) 0 = 0
      · simp only [if_pos h2]
        have h3 : p c % 2 = 0 := h2
        show (p c + 1) % 2 - (p c + 1) / 4 % 2 = p c % 2 - p c / 4 % 2 + 1
        omega
      · simp only [if_neg h2]; omega
    · simp only [if_neg h]; omega
  · rw [if_neg (by omega), Int.add_zero]
    refine sr_congr fun c c0 c1 => ?_
    have := hp c c0 (by omega)
    unfold inP
    by_cases h : kd c = 2
    · simp only [if_pos h]
      by_cases h2 : bt (p c) 0 = 0
      · simp only [if_pos h2]
        have h3 : p c % 2 = 0 := h2
        show (p c + 1) / 2 % 2 - (p c + 1) / 8 % 2 = p c / 2 % 2 - p c / 8 % 2
        omega
      · simp only [if_neg h2]
    · simp only [if_neg h]
/-- the account: what is left of it -/
def LA (B : Nat) (σ : qSt) (u : Int) : Int := (σ (B + 10) u - σ (B + 10) (u + 2)) - gs u (σ (B + 3)) - (σ (B + 11) u - σ (B + 11) (u + 2)) - 2 * (σ (B + 12) u - σ (B + 12) (u + 2))
def LB (B : Nat) (d : Int) (σ σ' : qSt) : Prop := (-d ≤ σ' B 12 - σ B 12 ∧ σ' B 12 - σ B 12 ≤ d) ∧ ∀ w, 0 ≤ w → w < 4 → (-d ≤ σ' (B + 10) w - σ (B + 10) w ∧ σ' (B + 10) w - σ (B + 10) w ≤ d) ∧ (-d ≤ σ' (B + 11) w - σ (B + 11) w ∧ σ' (B + 11) w - σ (B + 11) w ≤ d) ∧ (-d ≤ σ' (B + 12) w - σ (B + 12) w ∧ σ' (B + 12) w - σ (B + 12) w ≤ d)
def stepP (kd pt : Int → Int) : Int → Int := inP kd (outP kd (hop kd (mt pt)))
def stepD (kd pt dy : Int → Int) : Int → Int := outP kd (hop kd (md pt dy))
theorem mt_PR {pt : Int → Int} (h : PR pt) : PR (mt pt) := fun c c0 c1 => by
  have := h c c0 c1
  have := t1_r this.1 this.2
  unfold mt
  split <;> omega
theorem md_PR {pt dy : Int → Int} (h : PR dy) : PR (md pt dy) := fun c c0 c1 => by
  have := h c c0 c1
  have := t1_r this.1 this.2
  unfold md
  split <;> omega
theorem mt_WF {kd pt : Int → Int} (h : WF kd pt) : WF kd (mt pt) := fun c c0 c1 hk => by
  have e := h c c0 c1 hk
  unfold mt meetP
  rw [e, if_neg (by omega)]
theorem md_DS {pt dy : Int → Int} (h1 : PR pt) (h2 : PR dy) (h : DS dy pt) : DS (md pt dy) (mt pt) := fun c w c0 c1 w0 w1 => by
  unfold qbt md mt
  by_cases hm : meetP (pt c)
  · have a := h1 c c0 c1
    have b := h2 c c0 c1
    rw [if_pos hm, if_pos hm, bt_t1 a.1 a.2 w0 w1, bt_t1 b.1 b.2 w0 w1]
    exact h c _ c0 c1 (by split <;> omega) (by split <;> omega)
  · rw [if_neg hm, if_neg hm]
    exact h c w c0 c1 w0 w1
theorem out_PR {kd p : Int → Int} (h : PR p) : PR (outP kd p) := fun c c0 c1 => by
  have := h c c0 c1
  unfold outP
  split <;> omega
theorem hop_PR (kd r : Int → Int) : PR (hop kd r) := fun c _ _ => hop_r kd r c
theorem in_PR {kd p : Int → Int} (h : PR p) : PR (inP kd p) := fun c c0 c1 => by
  have := h c c0 c1
  unfold inP
  split
  · split
    · rename_i e
      have h3 : p c % 2 = 0 := e
      omega
    · omega
  · omega
theorem stepP_PR (kd pt : Int → Int) : PR (stepP kd pt) := in_PR (out_PR (hop_PR _ _))
theorem stepD_PR (kd pt dy : Int → Int) : PR (stepD kd pt dy) := out_PR (hop_PR _ _)
theorem stepP_WF (kd pt : Int → Int) : WF kd (stepP kd pt) := fun c c0 c1 hk => by
  unfold stepP inP outP
  rw [if_neg (by omega), if_neg (by omega)]
  exact hop_wall hk
theorem step_DS {kd pt dy : Int → Int} (h1 : PR pt) (h2 : PR dy) (h : DS dy pt) : DS (stepD kd pt dy) (stepP kd pt) := fun c w c0 c1 w0 w1 => by
  have a := hop_DS (kd := kd) (md_DS h1 h2 h) c w c0 c1 w0 w1
  have hr := hop_r kd (mt pt) c
  unfold qbt at a ⊢
  unfold stepD stepP inP outP
  by_cases h3 : kd c = 3
  · simp only [if_pos h3, if_neg (show ¬ kd c = 2 by omega), bt_0]
    exact Int.le_refl _
  · simp only [if_neg h3]
    by_cases h4 : kd c = 2
    · simp only [if_pos h4]
      by_cases h5 : bt (hop kd (mt pt) c) 0 = 0
      · simp only [if_pos h5]
        have h6 : hop kd (mt pt) c % 2 = 0 := h5
        refine Int.le_trans a ?_
        rcases (show w = 0 ∨ w = 1 ∨ w = 2 ∨ w = 3 by omega) with rfl | rfl | rfl | rfl
        · show hop kd (mt pt) c % 2 ≤ (hop kd (mt pt) c + 1) % 2; omega
        · show hop kd (mt pt) c / 2 % 2 ≤ (hop kd (mt pt) c + 1) / 2 % 2; omega
        · show hop kd (mt pt) c / 4 % 2 ≤ (hop kd (mt pt) c + 1) / 4 % 2; omega
        · show hop kd (mt pt) c / 8 % 2 ≤ (hop kd (mt pt) c + 1) / 8 % 2; omega
      · simp only [if_neg h5]; exact a
    · simp only [if_neg h4]; exact a
theorem sm_congr' {f g : Int → Int → Int} (h : ∀ c w : Int, 0 ≤ c → c < 96 → 0 ≤ w → w < 4 → f c w = g c w) : sm f 384 = sm g 384 := sm_congr fun c w c0 c1 w0 w1 => h c w c0 (by omega) w0 w1
theorem hS_congr {kd r r' : Int → Int} {j : Int} (h : ∀ c, 0 ≤ c → c < 96 → r c = r' c) : sm (hS kd (qbt r) j) 384 = sm (hS kd (qbt r') j) 384 := sm_congr' fun c w c0 c1 w0 w1 => by unfold hS qbt; rw [h c c0 c1]
theorem hN_congr {kd bd r r' : Int → Int} {j : Int} (h : ∀ c, 0 ≤ c → c < 96 → r c = r' c) : sm (hN kd bd (qbt r) j) 384 = sm (hN kd bd (qbt r') j) 384 := sm_congr' fun c w c0 c1 w0 w1 => by unfold hN qbt; rw [h c c0 c1]
theorem hR_congr {kd bd r r' : Int → Int} {j : Int} (h : ∀ c, 0 ≤ c → c < 96 → r c = r' c) : sm (hR kd bd (qbt r) j) 384 = sm (hR kd bd (qbt r') j) 384 := sm_congr' fun c w c0 c1 w0 w1 => by unfold hR qbt; rw [h c c0 c1]
theorem hU_congr {kd bd r r' : Int → Int} {j : Int} (h : ∀ c, 0 ≤ c → c < 96 → r c = r' c) : sm (hU kd bd (qbt r) j) 384 = sm (hU kd bd (qbt r') j) 384 := sm_congr' fun c w c0 c1 w0 w1 => by unfold hU qbt; rw [h c c0 c1]
theorem hS_r (kd r : Int → Int) (j : Int) : 0 ≤ sm (hS kd (qbt r) j) 384 ∧ sm (hS kd (qbt r) j) 384 ≤ 384 := by
  have h2 : ∀ n : Nat, 0 ≤ sm (hS kd (qbt r) j) n ∧ sm (hS kd (qbt r) j) n ≤ n := by
    intro n
    induction n with
    | zero => exact ⟨Int.le_refl _, Int.le_refl _⟩
    | succ n ih =>
      show 0 ≤ sm _ n + hS kd (qbt r) j _ _ ∧ sm _ n + hS kd (qbt r) j _ _ ≤ ((n + 1 : Nat) : Int)
      have := qbt_r r ((n / 4 : Nat) : Int) ((n % 4 : Nat) : Int)
      have h3 : 0 ≤ hS kd (qbt r) j ((n / 4 : Nat) : Int) ((n % 4 : Nat) : Int) ∧ hS kd (qbt r) j ((n / 4 : Nat) : Int) ((n % 4 : Nat) : Int) ≤ 1 := by
        unfold hS
        split <;> omega
      omega
  exact h2 384
theorem sr_01 {f : Int → Int} (h : ∀ x, 0 ≤ f x ∧ f x ≤ 1) : 0 ≤ sr f 96 ∧ sr f 96 ≤ 96 := by
  have h2 : ∀ n : Nat, 0 ≤ sr f n ∧ sr f n ≤ n := by
    intro n
    induction n with
    | zero => exact ⟨Int.le_refl _, Int.le_refl _⟩
    | succ n ih =>
      show 0 ≤ sr f n + f n ∧ sr f n + f n ≤ ((n + 1 : Nat) : Int)
      have := h n
      omega
  exact h2 96
theorem mn_r (r : Int → Int) : 0 ≤ mn r ∧ mn r ≤ 96 := sr_01 fun x => by unfold mc1; split <;> omega
theorem gn_r (kd r : Int → Int) (w : Int) : 0 ≤ sr (gn kd r w) 96 ∧ sr (gn kd r w) 96 ≤ 96 := sr_01 fun x => by
  have := bt_r (r x) w
  unfold gn; split <;> omega
theorem cm_r (kd r : Int → Int) : 0 ≤ sr (cm kd r) 96 ∧ sr (cm kd r) 96 ≤ 96 := sr_01 fun x => by unfold cm; repeat' split <;> omega
theorem cm_congr {kd r r' : Int → Int} (h : ∀ c, 0 ≤ c → c < 96 → r c = r' c) : sr (cm kd r) 96 = sr (cm kd r') 96 := sr_congr fun x h0 h1 => by unfold cm; rw [h x h0 h1]
theorem gn_congr {kd r r' : Int → Int} {w : Int} (h : ∀ c, 0 ≤ c → c < 96 → r c = r' c) : sr (gn kd r w) 96 = sr (gn kd r' w) 96 := sr_congr fun x h0 h1 => by unfold gn; rw [h x h0 h1]
/-- what the water must be -/
def WOK (B : Nat) (σ : qSt) : Prop := KR (σ (B + 1)) ∧ BR (σ (B + 2)) ∧ PR (σ (B + 3)) ∧ PR (σ (B + 4)) ∧ WF (σ (B + 1)) (σ (B + 3)) ∧ DS (σ (B + 4)) (σ (B + 3))
theorem m_passStep {B : Nat} {σ : qSt} (h : WOK B σ) : ∃ σ', fX3_passStep B σ = some (0, σ') ∧ (∀ k, k ≠ B → (k < B + 3 ∨ B + 12 < k) → σ' k = σ k) ∧ (∀ x, σ' (B + 3) x = (if 0 ≤ x ∧ x < 96 then stepP (σ (B + 1)) (σ (B + 3)) x else σ (B + 3) x) ∧ σ' (B + 4) x = (if 0 ≤ x ∧ x < 96 then stepD (σ (B + 1)) (σ (B + 3)) (σ (B + 4)) x else σ (B + 4) x)) ∧ (∀ j, σ' B j = if j = 12 then σ B 12 + mn (σ (B + 3)) else σ B j) ∧ (∀ b, 0 ≤ b → σ' (B + 7) b = σ (B + 7) b + sm (hN (σ (B + 1)) (σ (B + 2)) (qbt (mt (σ (B + 3)))) b) 384 ∧ σ' (B + 8) b = σ (B + 8) b + sm (hR (σ (B + 1)) (σ (B + 2)) (qbt (mt (σ (B + 3)))) b) 384 ∧ σ' (B + 9) b = σ (B + 9) b + sm (hU (σ (B + 1)) (σ (B + 2)) (qbt (mt (σ (B + 3)))) b) 384) ∧ (∀ u, u = 0 ∨ u = 1 → LA B σ' u = LA B σ u) ∧ LB B 400 σ σ' := by
  obtain ⟨hk, hb, hp, hd, hw, hds⟩ := h
  unfold fX3_passStep
  obtain ⟨σ1, e1, f1, g1, r1⟩ := m_turnMeetings (B := B) (σ := σ) (s := 1) (k := 1) (Or.inl ⟨rfl, rfl⟩) hp hd
  have p1 : ∀ c, 0 ≤ c → c < 96 → σ1 (B + 3) c = mt (σ (B + 3)) c := fun c c0 c1 => by rw [(r1 c).1, if_pos ⟨c0, c1⟩]; rfl
  have d1 : ∀ c, 0 ≤ c → c < 96 → σ1 (B + 4) c = md (σ (B + 3)) (σ (B + 4)) c := fun c c0 c1 => by rw [(r1 c).2, if_pos ⟨c0, c1⟩]; rfl
  have k1 : σ1 (B + 1) = σ (B + 1) := f1 _ (by omega) (by omega) (by omega)
  have b1 : σ1 (B + 2) = σ (B + 2) := f1 _ (by omega) (by omega) (by omega)
  have hp1 : PR (σ1 (B + 3)) := fun c c0 c1 => by rw [p1 c c0 c1]; exact mt_PR hp c c0 c1
  have hd1 : PR (σ1 (B + 4)) := fun c c0 c1 => by rw [d1 c c0 c1]; exact md_PR hd c c0 c1
  have hw1 : WF (σ (B + 1)) (σ1 (B + 3)) := fun c c0 c1 z => by rw [p1 c c0 c1]; exact mt_WF hw c c0 c1 z
  have hds1 : DS (σ1 (B + 4)) (σ1 (B + 3)) := fun c w c0 c1 w0 w1 => by
    have := md_DS hp hd hds c w c0 c1 w0 w1
    unfold qbt at this ⊢
    rw [p1 c c0 c1, d1 c c0 c1]
    exact this
  obtain ⟨σ2, e2, f2, r2, s2, u2⟩ := m_hopAll (B := B) (σ := σ1) 1 (by rw [k1]; exact hk) (by rw [b1]; exact hb) hp1 hd1 (by rw [k1]; exact hw1) hds1
  rw [k1] at r2 s2 u2
  rw [b1] at u2
  have p2 : ∀ c, 0 ≤ c → c < 96 → σ2 (B + 3) c = hop (σ (B + 1)) (mt (σ (B + 3))) c := fun c c0 c1 => by
    rw [(r2 c).1, if_pos ⟨c0, c1⟩]
    exact hop_congr p1 c0 c1
  have d2 : ∀ c, 0 ≤ c → c < 96 → σ2 (B + 4) c = hop (σ (B + 1)) (md (σ (B + 3)) (σ (B + 4))) c := fun c c0 c1 => by
    rw [(r2 c).2, if_pos ⟨c0, c1⟩]
    exact hop_congr d1 c0 c1
  have k2 : σ2 (B + 1) = σ (B + 1) := (f2 _ (by omega) (by omega) (by omega) (by omega) (by omega) (by omega) (by omega) (by omega)).trans k1
  have hp2 : PR (σ2 (B + 3)) := fun c c0 c1 => by rw [p2 c c0 c1]; exact hop_r _ _ _
  obtain ⟨σ3, e3, f3, g3, r3⟩ := m_emptyOutlets (B := B) (σ := σ2) (by rw [k2]; exact hk) hp2
  rw [k2] at g3 r3
  have p3 : ∀ c, 0 ≤ c → c < 96 → σ3 (B + 3) c = outP (σ (B + 1)) (hop (σ (B + 1)) (mt (σ (B + 3)))) c := fun c c0 c1 => by
    rw [(r3 c).1, if_pos ⟨c0, c1⟩]
    unfold outP
    rw [p2 c c0 c1]
  have d3 : ∀ c, 0 ≤ c → c < 96 → σ3 (B + 4) c = stepD (σ (B + 1)) (σ (B + 3)) (σ (B + 4)) c := fun c c0 c1 => by
    rw [(r3 c).2, if_pos ⟨c0, c1⟩]
    unfold stepD outP
    rw [d2 c c0 c1]
  have k3 : σ3 (B + 1) = σ (B + 1) := (f3 _ (by omega) (by omega) (by omega)).trans k2
  have hp3 : PR (σ3 (B + 3)) := fun c c0 c1 => by rw [p3 c c0 c1]; exact out_PR (hop_PR _ _) c c0 c1
  obtain ⟨σ4, e4, f4, g4, r4⟩ := m_fillInlets (B := B) (σ := σ3) (by rw [k3]; exact hk) hp3
  rw [k3] at g4 r4
  have p4 : ∀ c, 0 ≤ c → c < 96 → σ4 (B + 3) c = stepP (σ (B + 1)) (σ (B + 3)) c := fun c c0 c1 => by
    rw [r4 c, if_pos ⟨c0, c1⟩]
    unfold stepP inP
    rw [p3 c c0 c1]
  rw [e1, mqbd, e2, mqbd, e3, mqbd, e4, mqbd]
  have q10 : ∀ j, σ4 (B + 10) j = σ (B + 10) j + if j = 0 then sr (cm (σ (B + 1)) (σ3 (B + 3))) 96 else 0 := fun j => by
    rw [g4 j, f3 _ (by omega) (by omega) (by omega), f2 _ (by omega) (by omega) (by omega) (by omega) (by omega) (by omega) (by omega) (by omega), f1 _ (by omega) (by omega) (by omega)]
  have q11 : ∀ w, 0 ≤ w → w < 4 → σ4 (B + 11) w = σ (B + 11) w + sr (gn (σ (B + 1)) (σ2 (B + 3)) w) 96 := fun w w0 w1 => by
    rw [f4 _ (by omega) (by omega), g3 w w0 w1, f2 _ (by omega) (by omega) (by omega) (by omega) (by omega) (by omega) (by omega) (by omega), f1 _ (by omega) (by omega) (by omega)]
  have q12 : ∀ j, σ4 (B + 12) j = σ (B + 12) j + sm (hS (σ (B + 1)) (qbt (σ1 (B + 3))) j) 384 := fun j => by
    rw [f4 _ (by omega) (by omega), f3 _ (by omega) (by omega) (by omega), s2 j, f1 _ (by omega) (by omega) (by omega), Int.one_mul]
  have q0 : ∀ j, σ4 B j = if j = 12 then σ B 12 + mn (σ (B + 3)) else σ B j := fun j => by
    rw [f4 _ (by omega) (by omega), f3 _ (by omega) (by omega) (by omega), f2 _ (by omega) (by omega) (by omega) (by omega) (by omega) (by omega) (by omega) (by omega), g1 j, Int.one_mul]
  refine ⟨σ4, rfl, fun k hkB hk2 => by rw [f4 _ (by omega) (by omega), f3 _ (by omega) (by omega) (by omega), f2 _ (by omega) (by omega) (by omega) (by omega) (by omega) (by omega) (by omega) (by omega), f1 _ (by omega) (by omega) (by omega)], fun x => ⟨?_, ?_⟩, q0, fun b hb0 => ?_, fun u hu => ?_, ?_⟩
  · by_cases hx : 0 ≤ x ∧ x < 96
    · rw [if_pos hx]; exact p4 x hx.1 hx.2
    · rw [if_neg hx, r4 x, if_neg hx, (r3 x).1, if_neg hx, (r2 x).1, if_neg hx, (r1 x).1, if_neg hx]
  · rw [f4 _ (by omega) (by omega)]
    by_cases hx : 0 ≤ x ∧ x < 96
    · rw [if_pos hx]; exact d3 x hx.1 hx.2
    · rw [if_neg hx, (r3 x).2, if_neg hx, (r2 x).2, if_neg hx, (r1 x).2, if_neg hx]
  · obtain ⟨v1, v2, v3⟩ := u2 b hb0
    rw [f4 _ (by omega) (by omega), f3 _ (by omega) (by omega) (by omega), f4 _ (by omega) (by omega), f3 _ (by omega) (by omega) (by omega), f4 _ (by omega) (by omega), f3 _ (by omega) (by omega) (by omega), v1, v2, v3, f1 (B + 7) (by omega) (by omega) (by omega), f1 (B + 8) (by omega) (by omega) (by omega), f1 (B + 9) (by omega) (by omega) (by omega), Int.one_mul, Int.one_mul, Int.one_mul, hN_congr p1, hR_congr p1, hU_congr p1]
    exact ⟨rfl, rfl, rfl⟩
  · unfold LA
    rw [q10 u, q10 (u + 2), q11 u (by omega) (by omega), q11 (u + 2) (by omega) (by omega), q12 u, q12 (u + 2), if_neg (show ¬ u + 2 = 0 by omega)]
    have a1 : gs u (σ1 (B + 3)) = gs u (σ (B + 3)) := by
      rw [← gs_mt (k := 1) hp hu]
      exact gs_congr fun c c0 c1 => by rw [p1 c c0 c1]; rfl
    have a2 := gs_hop (kd := σ (B + 1)) hw1 hu
    have a2' : gs u (σ2 (B + 3)) = gs u (hop (σ (B + 1)) (σ1 (B + 3))) := gs_congr fun c c0 c1 => by rw [(r2 c).1, if_pos ⟨c0, c1⟩]; rfl
    have a3 := gs_out (kd := σ (B + 1)) (p := σ2 (B + 3)) (u := u)
    have a3' : gs u (σ3 (B + 3)) = gs u (outP (σ (B + 1)) (σ2 (B + 3))) := gs_congr fun c c0 c1 => by rw [(r3 c).1, if_pos ⟨c0, c1⟩]
    have a4 := gs_in (kd := σ (B + 1)) hp3 hu
    have a4' : gs u (σ4 (B + 3)) = gs u (inP (σ (B + 1)) (σ3 (B + 3))) := gs_congr fun c c0 c1 => by rw [r4 c, if_pos ⟨c0, c1⟩]
    rw [← a2'] at a2
    rw [← a3'] at a3
    rw [← a4'] at a4
    generalize (if u = 0 then sr (cm (σ (B + 1)) (σ3 (B + 3))) 96 else 0) = C at *
    omega
  · refine ⟨?_, fun w w0 w1 => ⟨?_, ?_, ?_⟩⟩
    · rw [q0, if_pos rfl]
      have := mn_r (σ (B + 3))
      omega
    · rw [q10]
      have := cm_r (σ (B + 1)) (σ3 (B + 3))
      split <;> omega
    · rw [q11 w w0 w1]
      have := gn_r (σ (B + 1)) (σ2 (B + 3)) w
      omega
    · rw [q12]
      have := hS_r (σ (B + 1)) (σ1 (B + 3)) w
      omega
