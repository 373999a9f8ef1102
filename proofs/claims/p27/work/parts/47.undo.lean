def t2r (r : Int → Int) (c : Int) : Int := t2 (r c)
def upP (kd r : Int → Int) : Int → Int := t2r (hop kd (t2r r))
def backP (kd pt : Int → Int) (x : Int) : Int := if meetP (upP kd pt x) then t3 (upP kd pt x) else upP kd pt x
def backD (kd pt dy : Int → Int) (x : Int) : Int := if meetP (upP kd pt x) then t3 (upP kd dy x) else upP kd dy x
theorem t2r_PR {r : Int → Int} (h : PR r) : PR (t2r r) := fun c c0 c1 => t2_r (h c c0 c1).1 (h c c0 c1).2
theorem t2r_WF {kd r : Int → Int} (h : WF kd r) : WF kd (t2r r) := fun c c0 c1 hk => by unfold t2r; rw [h c c0 c1 hk]; rfl
theorem t2r_DS {d r : Int → Int} (h1 : PR r) (h2 : PR d) (h : DS d r) : DS (t2r d) (t2r r) := fun c w c0 c1 w0 w1 => by
  have a := h1 c c0 c1
  have b := h2 c c0 c1
  have ho := op_r w0 w1
  unfold qbt t2r
  rw [bt_t2 a.1 a.2 w0 w1, bt_t2 b.1 b.2 w0 w1]
  exact h c _ c0 c1 ho.1 ho.2
theorem upP_PR (kd r : Int → Int) : PR (upP kd r) := t2r_PR (hop_PR _ _)
theorem upP_WF (kd r : Int → Int) : WF kd (upP kd r) := t2r_WF fun c _ _ hk => hop_wall hk
theorem upP_DS {kd d r : Int → Int} (h1 : PR r) (h2 : PR d) (h : DS d r) : DS (upP kd d) (upP kd r) := t2r_DS (hop_PR _ _) (hop_PR _ _) (hop_DS (t2r_DS h1 h2 h))
theorem backP_PR (kd r : Int → Int) : PR (backP kd r) := fun c c0 c1 => by
  have a := upP_PR kd r c c0 c1
  have b := t3_r a.1 a.2
  unfold backP
  split <;> omega
theorem backD_PR (kd r d : Int → Int) : PR (backD kd r d) := fun c c0 c1 => by
  have a := upP_PR kd d c c0 c1
  have b := t3_r a.1 a.2
  unfold backD
  split <;> omega
theorem backP_WF (kd r : Int → Int) : WF kd (backP kd r) := fun c c0 c1 hk => by
  have e := upP_WF kd r c c0 c1 hk
  unfold backP meetP
  rw [e, if_neg (by omega)]
theorem back_DS {kd d r : Int → Int} (h1 : PR r) (h2 : PR d) (h : DS d r) : DS (backD kd r d) (backP kd r) := fun c w c0 c1 w0 w1 => by
  have a := upP_PR kd r c c0 c1
  have b := upP_PR kd d c c0 c1
  have hu := upP_DS (kd := kd) h1 h2 h
  unfold qbt backD backP
  by_cases hm : meetP (upP kd r c)
  · rw [if_pos hm, if_pos hm, bt_t3 a.1 a.2 w0 w1, bt_t3 b.1 b.2 w0 w1]
    exact hu c _ c0 c1 (by split <;> omega) (by split <;> omega)
  · rw [if_neg hm, if_neg hm]
    exact hu c w c0 c1 w0 w1
theorem mn_congr {r r' : Int → Int} (h : ∀ c, 0 ≤ c → c < 96 → r c = r' c) : mn r = mn r' := sr_congr fun x h0 h1 => by unfold mc1; rw [h x h0 h1]
theorem m_undoStep {B : Nat} {σ : qSt} (h : WOK B σ) : ∃ σ', fX3_undoStep B σ = some (0, σ') ∧ (∀ k, k ≠ B → (k < B + 3 ∨ B + 12 < k) → σ' k = σ k) ∧ (∀ x, σ' (B + 3) x = (if 0 ≤ x ∧ x < 96 then backP (σ (B + 1)) (σ (B + 3)) x else σ (B + 3) x) ∧ σ' (B + 4) x = (if 0 ≤ x ∧ x < 96 then backD (σ (B + 1)) (σ (B + 3)) (σ (B + 4)) x else σ (B + 4) x)) ∧ (∀ j, σ' B j = if j = 12 then σ B 12 - mn (upP (σ (B + 1)) (σ (B + 3))) else σ B j) ∧ (∀ b, 0 ≤ b → σ' (B + 7) b = σ (B + 7) b - sm (hN (σ (B + 1)) (σ (B + 2)) (qbt (t2r (σ (B + 3)))) b) 384 ∧ σ' (B + 8) b = σ (B + 8) b - sm (hR (σ (B + 1)) (σ (B + 2)) (qbt (t2r (σ (B + 3)))) b) 384 ∧ σ' (B + 9) b = σ (B + 9) b - sm (hU (σ (B + 1)) (σ (B + 2)) (qbt (t2r (σ (B + 3)))) b) 384) ∧ (∀ u, u = 0 ∨ u = 1 → LA B σ' u = LA B σ u) ∧ LB B 400 σ σ' := by
  obtain ⟨hk, hb, hp, hd, hw, hds⟩ := h
  unfold fX3_undoStep
  obtain ⟨σ1, e1, f1, r1⟩ := m_turnRound (B := B) (σ := σ) hp hd
  have p1 : ∀ c, 0 ≤ c → c < 96 → σ1 (B + 3) c = t2r (σ (B + 3)) c := fun c c0 c1 => by rw [(r1 c).1, if_pos ⟨c0, c1⟩]; rfl
  have d1 : ∀ c, 0 ≤ c → c < 96 → σ1 (B + 4) c = t2r (σ (B + 4)) c := fun c c0 c1 => by rw [(r1 c).2, if_pos ⟨c0, c1⟩]; rfl
  have k1 : σ1 (B + 1) = σ (B + 1) := f1 _ (by omega) (by omega)
  have b1 : σ1 (B + 2) = σ (B + 2) := f1 _ (by omega) (by omega)
  have hp1 : PR (σ1 (B + 3)) := fun c c0 c1 => by rw [p1 c c0 c1]; exact t2r_PR hp c c0 c1
  have hd1 : PR (σ1 (B + 4)) := fun c c0 c1 => by rw [d1 c c0 c1]; exact t2r_PR hd c c0 c1
  have hw1 : WF (σ (B + 1)) (σ1 (B + 3)) := fun c c0 c1 z => by rw [p1 c c0 c1]; exact t2r_WF hw c c0 c1 z
  have hds1 : DS (σ1 (B + 4)) (σ1 (B + 3)) := fun c w c0 c1 w0 w1 => by
    have := t2r_DS hp hd hds c w c0 c1 w0 w1
    unfold qbt at this ⊢
    rw [p1 c c0 c1, d1 c c0 c1]
    exact this
  obtain ⟨σ2, e2, f2, r2, s2, u2⟩ := m_hopAll (B := B) (σ := σ1) (-1) (by rw [k1]; exact hk) (by rw [b1]; exact hb) hp1 hd1 (by rw [k1]; exact hw1) hds1
  rw [k1] at r2 s2 u2
  rw [b1] at u2
  have p2 : ∀ c, 0 ≤ c → c < 96 → σ2 (B + 3) c = hop (σ (B + 1)) (t2r (σ (B + 3))) c := fun c c0 c1 => by
    rw [(r2 c).1, if_pos ⟨c0, c1⟩]
    exact hop_congr p1 c0 c1
  have d2 : ∀ c, 0 ≤ c → c < 96 → σ2 (B + 4) c = hop (σ (B + 1)) (t2r (σ (B + 4))) c := fun c c0 c1 => by
    rw [(r2 c).2, if_pos ⟨c0, c1⟩]
    exact hop_congr d1 c0 c1
  have hp2 : PR (σ2 (B + 3)) := fun c c0 c1 => by rw [p2 c c0 c1]; exact hop_r _ _ _
  have hd2 : PR (σ2 (B + 4)) := fun c c0 c1 => by rw [d2 c c0 c1]; exact hop_r _ _ _
  obtain ⟨σ3, e3, f3, r3⟩ := m_turnRound (B := B) (σ := σ2) hp2 hd2
  have p3 : ∀ c, 0 ≤ c → c < 96 → σ3 (B + 3) c = upP (σ (B + 1)) (σ (B + 3)) c := fun c c0 c1 => by
    rw [(r3 c).1, if_pos ⟨c0, c1⟩]
    show t2 (σ2 (B + 3) c) = t2 (hop (σ (B + 1)) (t2r (σ (B + 3))) c)
    rw [p2 c c0 c1]
  have d3 : ∀ c, 0 ≤ c → c < 96 → σ3 (B + 4) c = upP (σ (B + 1)) (σ (B + 4)) c := fun c c0 c1 => by
    rw [(r3 c).2, if_pos ⟨c0, c1⟩]
    show t2 (σ2 (B + 4) c) = t2 (hop (σ (B + 1)) (t2r (σ (B + 4))) c)
    rw [d2 c c0 c1]
  have hp3 : PR (σ3 (B + 3)) := fun c c0 c1 => by rw [p3 c c0 c1]; exact upP_PR _ _ c c0 c1
  have hd3 : PR (σ3 (B + 4)) := fun c c0 c1 => by rw [d3 c c0 c1]; exact upP_PR _ _ c c0 c1
  obtain ⟨σ4, e4, f4, g4, r4⟩ := m_turnMeetings (B := B) (σ := σ3) (s := -1) (k := 3) (Or.inr ⟨rfl, rfl⟩) hp3 hd3
  rw [e1, mqbd, e2, mqbd, e3, mqbd, e4, mqbd]
  have q12 : ∀ j, σ4 (B + 12) j = σ (B + 12) j - sm (hS (σ (B + 1)) (qbt (σ1 (B + 3))) j) 384 := fun j => by
    rw [f4 _ (by omega) (by omega) (by omega), f3 _ (by omega) (by omega), s2 j, f1 _ (by omega) (by omega)]
    omega
  have q0 : ∀ j, σ4 B j = if j = 12 then σ B 12 - mn (upP (σ (B + 1)) (σ (B + 3))) else σ B j := fun j => by
    have e9 : σ3 B = σ B := by rw [f3 _ (by omega) (by omega), f2 _ (by omega) (by omega) (by omega) (by omega) (by omega) (by omega) (by omega) (by omega), f1 _ (by omega) (by omega)]
    rw [g4 j, e9, mn_congr p3]
    split <;> omega
  have qfr : ∀ k, k ≠ B → (k < B + 3 ∨ B + 12 < k ∨ k = B + 10 ∨ k = B + 11) → σ4 k = σ k := fun k hkB hk2 => by rw [f4 _ (by omega) (by omega) (by omega), f3 _ (by omega) (by omega), f2 _ (by omega) (by omega) (by omega) (by omega) (by omega) (by omega) (by omega) (by omega), f1 _ (by omega) (by omega)]
  refine ⟨σ4, rfl, fun k hkB hk2 => qfr k hkB (by omega), fun x => ⟨?_, ?_⟩, q0, fun b hb0 => ?_, fun u hu => ?_, ?_⟩
  · by_cases hx : 0 ≤ x ∧ x < 96
    · rw [if_pos hx, (r4 x).1, if_pos hx]; show (if meetP (σ3 (B + 3) x) then tb 3 (σ3 (B + 3) x) else σ3 (B + 3) x) = _; rw [p3 x hx.1 hx.2]; rfl
    · rw [if_neg hx, (r4 x).1, if_neg hx, (r3 x).1, if_neg hx, (r2 x).1, if_neg hx, (r1 x).1, if_neg hx]
  · by_cases hx : 0 ≤ x ∧ x < 96
    · rw [if_pos hx, (r4 x).2, if_pos hx]; show (if meetP (σ3 (B + 3) x) then tb 3 (σ3 (B + 4) x) else σ3 (B + 4) x) = _; rw [p3 x hx.1 hx.2, d3 x hx.1 hx.2]; rfl
    · rw [if_neg hx, (r4 x).2, if_neg hx, (r3 x).2, if_neg hx, (r2 x).2, if_neg hx, (r1 x).2, if_neg hx]
  · obtain ⟨v1, v2, v3⟩ := u2 b hb0
    rw [f4 _ (by omega) (by omega) (by omega), f3 _ (by omega) (by omega), f4 _ (by omega) (by omega) (by omega), f3 _ (by omega) (by omega), f4 _ (by omega) (by omega) (by omega), f3 _ (by omega) (by omega), v1, v2, v3, f1 (B + 7) (by omega) (by omega), f1 (B + 8) (by omega) (by omega), f1 (B + 9) (by omega) (by omega), hN_congr p1, hR_congr p1, hU_congr p1]
    omega
  · unfold LA
    rw [qfr (B + 10) (by omega) (by omega), qfr (B + 11) (by omega) (by omega), q12 u, q12 (u + 2)]
    have a1 : gs u (σ1 (B + 3)) = -gs u (σ (B + 3)) := by
      rw [← gs_t2 hp hu]
      exact gs_congr fun c c0 c1 => by rw [p1 c c0 c1]; rfl
    have a2 := gs_hop (kd := σ (B + 1)) hw1 hu
    have a2' : gs u (σ2 (B + 3)) = gs u (hop (σ (B + 1)) (σ1 (B + 3))) := gs_congr fun c c0 c1 => by rw [(r2 c).1, if_pos ⟨c0, c1⟩]; rfl
    have a3 : gs u (σ3 (B + 3)) = -gs u (σ2 (B + 3)) := by
      rw [← gs_t2 hp2 hu]
      exact gs_congr fun c c0 c1 => by rw [(r3 c).1, if_pos ⟨c0, c1⟩]
    have a4 : gs u (σ4 (B + 3)) = gs u (σ3 (B + 3)) := by
      rw [← gs_mt (k := 3) hp3 hu]
      exact gs_congr fun c c0 c1 => by rw [(r4 c).1, if_pos ⟨c0, c1⟩]
    rw [← a2'] at a2
    omega
  · refine ⟨?_, fun w w0 w1 => ⟨?_, ?_, ?_⟩⟩
    · rw [q0, if_pos rfl]
      have := mn_r (upP (σ (B + 1)) (σ (B + 3)))
      omega
    · rw [qfr (B + 10) (by omega) (by omega)]; omega
    · rw [qfr (B + 11) (by omega) (by omega)]; omega
    · rw [q12]
      have := hS_r (σ (B + 1)) (σ1 (B + 3)) w
      omega
