/-! ===== ahead anew ===== -/
def itP (kd : Int → Int) (p : Int → Int) : Nat → Int → Int
  | 0 => p
  | n + 1 => stepP kd (itP kd p n)
theorem itP_PR {kd p : Int → Int} (h : PR p) : ∀ n, PR (itP kd p n)
  | 0 => h
  | n + 1 => stepP_PR _ _
theorem itP_front {kd p : Int → Int} : ∀ n, itP kd (stepP kd p) n = itP kd p (n + 1)
  | 0 => rfl
  | n + 1 => by show stepP kd (itP kd (stepP kd p) n) = stepP kd (itP kd p (n + 1)); rw [itP_front n]
theorem itP_RE {kd kd' p p' : Int → Int} (h : RE kd kd') (hp : RE p p') : ∀ n, RE (itP kd p n) (itP kd' p' n)
  | 0 => hp
  | n + 1 => stepP_RE h (itP_RE h hp n)
theorem m_orb {x v w : Int} (h0 : 0 ≤ x) (h1 : x ≤ 15) (v0 : 0 ≤ v) (v1 : v < 4) (w0 : 0 ≤ w) (w1 : w < 4) : (0 ≤ qor x (qshl 1 v) ∧ qor x (qshl 1 v) ≤ 15) ∧ bt (qor x (qshl 1 v)) w = if w = v then 1 else bt x w := by
  obtain ⟨n, rfl⟩ := f16 h0 h1
  obtain ⟨k, rfl⟩ := f4 v0 v1
  obtain ⟨j, rfl⟩ := f4 w0 w1
  exact (by decide +kernel : ∀ (n : Fin 16) (k j : Fin 4), (0 ≤ qor (n.val : Int) (qshl 1 (k.val : Int)) ∧ qor (n.val : Int) (qshl 1 (k.val : Int)) ≤ 15) ∧ bt (qor (n.val : Int) (qshl 1 (k.val : Int))) (j.val : Int) = if (j.val : Int) = (k.val : Int) then 1 else bt (n.val : Int) (j.val : Int)) n k j
theorem eq_bits {x y : Int} (x0 : 0 ≤ x) (x1 : x ≤ 15) (y0 : 0 ≤ y) (y1 : y ≤ 15) (h : ∀ v, 0 ≤ v → v < 4 → bt x v = bt y v) : x = y := by
  rw [← mk_bt x0 x1, ← mk_bt y0 y1]
  exact mk_congr h
theorem m_ways {σ : qSt} {rec : Int → Int → Option Int} {P : Int → Int} {c n s0 : Int} (hk : KR (σ 2)) (hP : PR P) (c0 : 0 ≤ c) (c1 : c < 96) (hrec : ∀ x, 0 ≤ x → x < 96 → rec x (n - 1) = some (P x)) (hs : s0 = 0 ∨ s0 = 1) : ∃ r, fX5_arrived_c57 σ rec qFU c n s0 0 = some r ∧ (0 ≤ r ∧ r ≤ 15) ∧ ∀ v, 0 ≤ v → v < 4 → bt r v = if v = 0 ∧ s0 = 1 then 1 else bt (mt P (sC (σ 2) c v)) (sW (σ 2) c v) := by
  obtain ⟨r, e, r0, hr⟩ := mloop (P := fun i (r : Int) => (0 ≤ r ∧ r ≤ 15) ∧ ∀ v, 0 ≤ v → v < 4 → bt r v = if v = 0 ∧ s0 = 1 then 1 else if v < i then bt (mt P (sC (σ 2) c v)) (sW (σ 2) c v) else 0) (F := fun f i r => fX5_arrived_c57 σ rec f c n r i) (R := fun r => some r) 4 (by omega) (by omega) (fun f r _ => by
    show fX5_arrived_c57 σ rec (f + 1) c n r 4 = _
    rw [fX5_arrived_c57, if_pos (by rw [mI_le] <;> omega)]) (fun f i r i0 i1 hP' => by
    obtain ⟨r0, hr⟩ := hP'
    have ho := op_r i0 i1
    have hb := bs_r c0 c1 (w := op i)
    have hc := sC_r c0 c1 (kd := σ 2) (w := i)
    have hw := sW_r i0 i1 (kd := σ 2) (c := c)
    have hPc := hP _ hc.1 hc.2
    have hm := mt_PR hP _ hc.1 hc.2
    have hbt := bt_r (mt P (sC (σ 2) c i)) (sW (σ 2) c i)
    -- once the set that came is known
    have fin : ∀ g : Int, g = mt P (sC (σ 2) c i) → ∃ s1, fX5_arrived_c140 σ rec (fX5_arrived_c57 σ rec f) c n r i (sW (σ 2) c i) g = fX5_arrived_c57 σ rec f c n s1 (i + 1) ∧ (0 ≤ s1 ∧ s1 ≤ 15) ∧ ∀ v, 0 ≤ v → v < 4 → bt s1 v = if v = 0 ∧ s0 = 1 then 1 else if v < i + 1 then bt (mt P (sC (σ 2) c v)) (sW (σ 2) c v) else 0 := fun g hg => by
      unfold fX5_arrived_c140 fX5_arrived_c153
      rw [hg, m_has hm.1 hm.2 hw.1 hw.2, Option.bind_some, iI_eq0 (by omega) (by omega)]
      by_cases e0 : bt (mt P (sC (σ 2) c i)) (sW (σ 2) c i) = 0
      · rw [if_pos e0]
        refine ⟨r, rfl, r0, fun v v0 v1 => ?_⟩
        rw [hr v v0 v1]
        by_cases e1 : v = 0 ∧ s0 = 1
        · rw [if_pos e1, if_pos e1]
        · rw [if_neg e1, if_neg e1]
          by_cases e2 : v = i
          · rw [if_neg (by omega), if_pos (by omega), e2, e0]
          · by_cases e3 : v < i
            · rw [if_pos e3, if_pos (by omega)]
            · rw [if_neg e3, if_neg (by omega)]
      · rw [if_neg e0, mqb]
        refine ⟨_, rfl, (m_orb r0.1 r0.2 i0 i1 i0 i1).1, fun v v0 v1 => ?_⟩
        rw [(m_orb r0.1 r0.2 i0 i1 v0 v1).2, hr v v0 v1]
        by_cases e1 : v = 0 ∧ s0 = 1
        · rw [if_pos e1, if_pos e1]; split <;> rfl
        · rw [if_neg e1, if_neg e1]
          by_cases e2 : v = i
          · rw [if_pos e2, if_pos (by omega), e2]; omega
          · rw [if_neg e2]
            by_cases e3 : v < i
            · rw [if_pos e3, if_pos (by omega)]
            · rw [if_neg e3, if_neg (by omega)]
    have mid : ∀ q : Int, (q = 0 ∧ sW (σ 2) c i = i) ∨ (q = 1 ∧ sW (σ 2) c i = op i) → ∃ s1, fX5_arrived_c94 σ rec (fX5_arrived_c57 σ rec f) c n r i q (sC (σ 2) c i) = fX5_arrived_c57 σ rec f c n s1 (i + 1) ∧ (0 ≤ s1 ∧ s1 ≤ 15) ∧ ∀ v, 0 ≤ v → v < 4 → bt s1 v = if v = 0 ∧ s0 = 1 then 1 else if v < i + 1 then bt (mt P (sC (σ 2) c v)) (sW (σ 2) c v) else 0 := fun q hq => by
      have c121 : ∀ g : Int, g = mt P (sC (σ 2) c i) → ∃ s1, fX5_arrived_c121 σ rec (fX5_arrived_c57 σ rec f) c n r i q g = fX5_arrived_c57 σ rec f c n s1 (i + 1) ∧ (0 ≤ s1 ∧ s1 ≤ 15) ∧ ∀ v, 0 ≤ v → v < 4 → bt s1 v = if v = 0 ∧ s0 = 1 then 1 else if v < i + 1 then bt (mt P (sC (σ 2) c v)) (sW (σ 2) c v) else 0 := fun g hg => by
        unfold fX5_arrived_c121
        rcases hq with ⟨rfl, hq⟩ | ⟨rfl, hq⟩
        · rw [iI_no]
          have := fin g hg
          rw [hq] at this
          exact this
        · rw [iI_yes]
          unfold fX5_opposite
          rw [Option.bind_some, m_opp i0 i1]
          have := fin g hg
          rw [hq] at this
          exact this
      unfold fX5_arrived_c94
      rw [hrec _ hc.1 hc.2, Option.bind_some, m_isMeeting hPc.1 hPc.2, Option.bind_some]
      by_cases em : meetP (P (sC (σ 2) c i))
      · rw [if_pos em, iI_yes, m_turned hPc.1 hPc.2 (Or.inl rfl), Option.bind_some]
        refine c121 _ ?_
        unfold mt tb
        rw [if_pos em, if_pos rfl]
      · rw [if_neg em, iI_no]
        refine c121 _ ?_
        unfold mt
        rw [if_neg em]
    show ∃ s1, fX5_arrived_c57 σ rec (f + 1) c n r i = fX5_arrived_c57 σ rec f c n s1 (i + 1) ∧ _
    rw [fX5_arrived_c57, if_neg (by rw [mI_le] <;> omega)]
    unfold fX5_opposite
    rw [Option.bind_some, m_opp i0 i1, m_beside c0 c1 ho.1 ho.2, Option.bind_some, m_isShut (B := 1) hb.1 hb.2 hk, Option.bind_some]
    show ∃ s1, (if qI (if shut (σ 2) (bs c (op i)) then 1 else 0) = 0 then _ else _) = _ ∧ _
    by_cases hsh : shut (σ 2) (bs c (op i))
    · have d1 : sC (σ 2) c i = c := by unfold sC; rw [if_pos hsh]
      have d2 : sW (σ 2) c i = op i := by unfold sW; rw [if_pos hsh]
      rw [if_pos hsh, iI_yes]
      have := mid 1 (Or.inr ⟨rfl, d2⟩)
      rw [d1] at this
      exact this
    · have d1 : sC (σ 2) c i = bs c (op i) := by unfold sC; rw [if_neg hsh]
      have d2 : sW (σ 2) c i = i := by unfold sW; rw [if_neg hsh]
      rw [if_neg hsh, iI_no]
      have := mid 0 (Or.inl ⟨rfl, d2⟩)
      rw [d1] at this
      exact this) (s := s0) ⟨by omega, fun v v0 v1 => by
      rcases hs with rfl | rfl
      · rw [if_neg (by omega), if_neg (by omega)]; exact bt_0 v
      · by_cases e : v = 0
        · rw [if_pos ⟨e, rfl⟩, e]; rfl
        · rw [if_neg (fun z => e z.1), if_neg (by omega)]
          rcases (show v = 1 ∨ v = 2 ∨ v = 3 by omega) with rfl | rfl | rfl <;> rfl⟩
  have e' : fX5_arrived_c57 σ rec qFU c n s0 0 = some r := e
  refine ⟨r, e', r0, fun v v0 v1 => ?_⟩
  rw [hr v v0 v1, if_pos v1]
theorem m_arrived {σ : qSt} (hk : KR (σ 2)) (hp : PR (σ 4)) (hw : WF (σ 2) (σ 4)) : ∀ (n f : Nat), n < f → n ≤ 5 → ∀ c : Int, 0 ≤ c → c < 96 → fX5_arrivedN f σ c n = some (itP (σ 2) (σ 4) n c) := by
  intro n
  induction n with
  | zero =>
    intro f hf h5 c c0 c1
    obtain ⟨f, rfl⟩ : ∃ f', f = f' + 1 := ⟨f - 1, by omega⟩
    show fX5_arrived_b σ (fX5_arrivedN f σ) c ((0 : Nat) : Int) = some (σ 4 c)
    unfold fX5_arrived_b
    rw [m_isShut (B := 1) (by omega) (by omega) hk, Option.bind_some]
    show (if qI (if shut (σ 2) c then 1 else 0) = 0 then _ else _) = _
    by_cases hsh : shut (σ 2) c
    · rw [if_pos hsh, iI_yes]
      have : σ 2 c = 1 := hsh.resolve_left (by omega)
      rw [hw c c0 c1 this]
    · rw [if_neg hsh, iI_no, if_pos (by rw [mI_le] <;> omega), if_neg (by rw [mI_0lt] <;> omega), if_pos ⟨c0, c1⟩]
  | succ n ih =>
    intro f hf h5 c c0 c1
    obtain ⟨f, rfl⟩ : ∃ f', f = f' + 1 := ⟨f - 1, by omega⟩
    have hrec : ∀ x, 0 ≤ x → x < 96 → fX5_arrivedN f σ x (((n + 1 : Nat) : Int) - 1) = some (itP (σ 2) (σ 4) n x) := fun x x0 x1 => by
      rw [show (((n + 1 : Nat) : Int) - 1) = (n : Int) by omega]
      exact ih f (by omega) (by omega) x x0 x1
    have hPR := itP_PR (kd := σ 2) hp n
    show fX5_arrived_b σ (fX5_arrivedN f σ) c ((n + 1 : Nat) : Int) = some (stepP (σ 2) (itP (σ 2) (σ 4) n) c)
    generalize itP (σ 2) (σ 4) n = P at hrec hPR
    have hkc := hk c c0 c1
    have hh := hop_r (σ 2) (mt P) c
    have hbits : σ 2 c ≠ 1 → ∀ v, 0 ≤ v → v < 4 → bt (hop (σ 2) (mt P) c) v = bt (mt P (sC (σ 2) c v)) (sW (σ 2) c v) := fun hne v v0 v1 => by
      rw [bt_hop v0 v1]
      unfold gq
      rw [if_neg hne]
      rfl
    unfold fX5_arrived_b fX5_arrived_c53
    rw [m_isShut (B := 1) (by omega) (by omega) hk, Option.bind_some]
    show (if qI (if shut (σ 2) c then 1 else 0) = 0 then _ else _) = _
    by_cases hsh : shut (σ 2) c
    · rw [if_pos hsh, iI_yes]
      have h1 : σ 2 c = 1 := hsh.resolve_left (by omega)
      unfold stepP inP outP
      rw [h1, if_neg (by omega), if_neg (by omega), hop_wall h1]
    · have h1 : σ 2 c ≠ 1 := fun z => hsh (Or.inr z)
      have hcc : 0 ≤ c ∧ c < 96 := ⟨c0, c1⟩
      rw [if_neg hsh, iI_no, if_pos (by rw [mI_le] <;> omega), if_pos (by rw [mI_0lt] <;> omega)]
      simp only [if_pos hcc]
      rw [iI_eq (by omega) (by omega) (by omega) (by omega), iI_eq (by omega) (by omega) (by omega) (by omega)]
      by_cases h3 : σ 2 c = 3
      · rw [if_pos h3]
        unfold stepP inP outP
        rw [h3, if_neg (by omega), if_pos rfl]
      · rw [if_neg h3]
        by_cases h2 : σ 2 c = 2
        · obtain ⟨r, e, r0, hr⟩ := m_ways (s0 := 1) hk hPR c0 c1 hrec (Or.inr rfl)
          rw [if_pos h2, e]
          congr 1
          have hs := stepP_PR (σ 2) P c c0 c1
          refine eq_bits r0.1 r0.2 hs.1 hs.2 fun v v0 v1 => ?_
          have hstep : stepP (σ 2) P c = if bt (hop (σ 2) (mt P) c) 0 = 0 then hop (σ 2) (mt P) c + 1 else hop (σ 2) (mt P) c := by
            have ho : outP (σ 2) (hop (σ 2) (mt P)) c = hop (σ 2) (mt P) c := by unfold outP; rw [if_neg h3]
            show inP (σ 2) (outP (σ 2) (hop (σ 2) (mt P))) c = _
            unfold inP
            rw [if_pos h2, ho]
          rw [hr v v0 v1, ← hbits h1 v v0 v1, hstep]
          by_cases e0 : bt (hop (σ 2) (mt P) c) 0 = 0
          · have hba := bt_add (v := v) hh.1 hh.2 (show (0 : Int) ≤ 0 by omega) (by omega) v0 v1 e0
            have hba : bt (hop (σ 2) (mt P) c + 1) v = bt (hop (σ 2) (mt P) c) v + if v = 0 then 1 else 0 := hba
            rw [if_pos e0, hba]
            by_cases ev : v = 0
            · rw [if_pos ⟨ev, rfl⟩, if_pos ev, ev, e0]; rfl
            · rw [if_neg (fun z => ev z.1), if_neg ev]; omega
          · rw [if_neg e0]
            have hb := bt_r (hop (σ 2) (mt P) c) 0
            by_cases ev : v = 0
            · rw [if_pos ⟨ev, rfl⟩, ev]; omega
            · rw [if_neg (fun z => ev z.1)]
        · obtain ⟨r, e, r0, hr⟩ := m_ways (s0 := 0) hk hPR c0 c1 hrec (Or.inl rfl)
          rw [if_neg h2, e]
          congr 1
          have hs := stepP_PR (σ 2) P c c0 c1
          refine eq_bits r0.1 r0.2 hs.1 hs.2 fun v v0 v1 => ?_
          rw [hr v v0 v1, if_neg (by omega), ← hbits h1 v v0 v1]
          unfold stepP inP outP
          rw [if_neg h2, if_neg h3]
