def mt (pt : Int → Int) (c : Int) : Int := if meetP (pt c) then t1 (pt c) else pt c
def md (pt dy : Int → Int) (c : Int) : Int := if meetP (pt c) then t1 (dy c) else dy c
def mc1 (pt : Int → Int) (c : Int) : Int := if meetP (pt c) then 1 else 0
def mn (pt : Int → Int) : Int := sr (mc1 pt) 96
def tb (k x : Int) : Int := if k = 1 then t1 x else t3 x
theorem t1_r {x : Int} (h0 : 0 ≤ x) (h1 : x ≤ 15) : 0 ≤ t1 x ∧ t1 x ≤ 15 := by unfold t1; omega
theorem t2_r {x : Int} (h0 : 0 ≤ x) (h1 : x ≤ 15) : 0 ≤ t2 x ∧ t2 x ≤ 15 := by unfold t2; omega
theorem t3_r {x : Int} (h0 : 0 ≤ x) (h1 : x ≤ 15) : 0 ≤ t3 x ∧ t3 x ≤ 15 := by unfold t3; omega
theorem tb_r {k x : Int} (h0 : 0 ≤ x) (h1 : x ≤ 15) : 0 ≤ tb k x ∧ tb k x ≤ 15 := by
  unfold tb
  split
  · exact t1_r h0 h1
  · exact t3_r h0 h1
theorem m_turned {σ : qSt} {x k : Int} (h0 : 0 ≤ x) (h1 : x ≤ 15) (hk : k = 1 ∨ k = 3) : fX5_turned σ x k = some (tb k x) := by
  unfold fX5_turned tb
  rcases hk with rfl | rfl
  · rw [if_pos rfl, show (4 : Int) - 1 = 3 from rfl, m_turn1 h0 h1]
  · rw [if_neg (by omega), show (4 : Int) - 3 = 1 from rfl, m_turn3 h0 h1]
theorem m_turned2 {σ : qSt} {x : Int} (h0 : 0 ≤ x) (h1 : x ≤ 15) : fX5_turned σ x 2 = some (t2 x) := by
  unfold fX5_turned
  rw [show (4 : Int) - 2 = 2 from rfl, m_turn2 h0 h1]
theorem m_isMeeting {σ : qSt} {x : Int} (h0 : 0 ≤ x) (h1 : x ≤ 15) : fX5_isMeeting σ x = some (if meetP x then 1 else 0) := by
  unfold fX5_isMeeting
  rw [iI_eq (by omega) (by omega) (by omega) (by omega), iI_eq (by omega) (by omega) (by omega) (by omega)]
  by_cases h : x = 5
  · rw [if_pos h, if_pos (Or.inl h)]
  · rw [if_neg h]
    by_cases h2 : x = 10
    · rw [if_pos h2, if_pos (Or.inr h2)]
    · rw [if_neg h2, if_neg (fun e => e.elim h h2)]
/-- the state after a loop over the cells that rewrites the rows of particles and of dye -/
def RI (B : Nat) (σ0 : qSt) (fp fd : Int → Int) (i : Int) (σ : qSt) : Prop := ∀ x, σ (B + 3) x = (if 0 ≤ x ∧ x < i then fp x else σ0 (B + 3) x) ∧ σ (B + 4) x = (if 0 ≤ x ∧ x < i then fd x else σ0 (B + 4) x)
theorem RI_same {B : Nat} {σ0 σ : qSt} {fp fd : Int → Int} {i : Int} (h0 : 0 ≤ i) (h : RI B σ0 fp fd i σ) (e1 : fp i = σ0 (B + 3) i) (e2 : fd i = σ0 (B + 4) i) : RI B σ0 fp fd (i + 1) σ := fun x => by
  obtain ⟨a, b⟩ := h x
  by_cases e : x = i
  · subst e
    rw [a, b]
    constructor
    · rw [if_neg (by omega), if_pos (by omega)]; exact e1.symm
    · rw [if_neg (by omega), if_pos (by omega)]; exact e2.symm
  · rw [a, b]
    by_cases e3 : 0 ≤ x ∧ x < i
    · rw [if_pos e3, if_pos e3, if_pos (by omega), if_pos (by omega)]; exact ⟨rfl, rfl⟩
    · rw [if_neg e3, if_neg e3, if_neg (by omega), if_neg (by omega)]; exact ⟨rfl, rfl⟩
theorem RI_set {B : Nat} {σ0 σ : qSt} {fp fd : Int → Int} {i : Int} (h0 : 0 ≤ i) (h : RI B σ0 fp fd i σ) {σ' : qSt} (e1 : ∀ x, σ' (B + 3) x = if x = i then fp i else σ (B + 3) x) (e2 : ∀ x, σ' (B + 4) x = if x = i then fd i else σ (B + 4) x) : RI B σ0 fp fd (i + 1) σ' := fun x => by
  obtain ⟨a, b⟩ := h x
  rw [e1 x, e2 x]
  by_cases e : x = i
  · subst e
    rw [if_pos rfl, if_pos rfl, if_pos (by omega), if_pos (by omega)]
    exact ⟨rfl, rfl⟩
  · rw [if_neg e, if_neg e, a, b]
    by_cases e3 : 0 ≤ x ∧ x < i
    · rw [if_pos e3, if_pos e3, if_pos (by omega), if_pos (by omega)]; exact ⟨rfl, rfl⟩
    · rw [if_neg e3, if_neg e3, if_neg (by omega), if_neg (by omega)]; exact ⟨rfl, rfl⟩
theorem RI_at {B : Nat} {σ0 σ : qSt} {fp fd : Int → Int} {i : Int} (h : RI B σ0 fp fd i σ) : σ (B + 3) i = σ0 (B + 3) i ∧ σ (B + 4) i = σ0 (B + 4) i := by
  obtain ⟨a, b⟩ := h i
  rw [a, b, if_neg (by omega), if_neg (by omega)]
  exact ⟨rfl, rfl⟩
theorem RI_0 {B : Nat} {σ : qSt} {fp fd : Int → Int} : RI B σ fp fd 0 σ := fun x => by
  rw [if_neg (by omega), if_neg (by omega)]
  exact ⟨rfl, rfl⟩
theorem m_turnMeetings {B : Nat} {σ : qSt} {s k : Int} (hs : (s = 1 ∧ k = 1) ∨ (s = -1 ∧ k = 3)) (hp : PR (σ (B + 3))) (hd : PR (σ (B + 4))) : ∃ σ', fX3_turnMeetings B s σ = some (0, σ') ∧ (∀ j, j ≠ B → j ≠ B + 3 → j ≠ B + 4 → σ' j = σ j) ∧ (∀ j, σ' B j = if j = 12 then σ B 12 + s * mn (σ (B + 3)) else σ B j) ∧ RI B σ (fun c => if meetP (σ (B + 3) c) then tb k (σ (B + 3) c) else σ (B + 3) c) (fun c => if meetP (σ (B + 3) c) then tb k (σ (B + 4) c) else σ (B + 4) c) 96 σ' := by
  have hk : k = 1 ∨ k = 3 := by omega
  have e0 : fX3_turnMeetings B s σ = fX3_turnMeetings_c12 B qFU s k 0 σ := by
    unfold fX3_turnMeetings fX3_turnMeetings_c9
    rw [iI_le0 (by omega) (by omega)]
    rcases hs with ⟨rfl, rfl⟩ | ⟨rfl, rfl⟩
    · rw [if_neg (by omega)]
    · rw [if_pos (by omega)]
  rw [e0]
  have key := mloop (P := fun i t => (∀ j, j ≠ B → j ≠ B + 3 → j ≠ B + 4 → t j = σ j) ∧ (∀ j, t B j = if j = 12 then σ B 12 + s * sr (mc1 (σ (B + 3))) i.toNat else σ B j) ∧ RI B σ (fun c => if meetP (σ (B + 3) c) then tb k (σ (B + 3) c) else σ (B + 3) c) (fun c => if meetP (σ (B + 3) c) then tb k (σ (B + 4) c) else σ (B + 4) c) i t) (F := fun f i t => fX3_turnMeetings_c12 B f s k i t) (R := fun t => some (0, t)) 96 (by omega) (by omega) (fun f t _ => by
    show fX3_turnMeetings_c12 B (f + 1) s k 96 t = _
    rw [fX3_turnMeetings_c12, if_pos (by rw [mI_le] <;> omega)]) (fun f i t i0 i1 hP => by
    obtain ⟨f1, g1, r1⟩ := hP
    have hii : 0 ≤ i ∧ i < 96 := ⟨i0, i1⟩
    have hr := hp i i0 i1
    have hr2 := hd i i0 i1
    obtain ⟨a1, a2⟩ := RI_at r1
    show ∃ s1, fX3_turnMeetings_c12 B (f + 1) s k i t = fX3_turnMeetings_c12 B f s k (i + 1) s1 ∧ _
    rw [fX3_turnMeetings_c12, if_neg (by rw [mI_le] <;> omega), if_pos hii, a1, m_isMeeting hr.1 hr.2, Option.bind_some]
    by_cases hm : meetP (σ (B + 3) i)
    · rw [if_pos hm, iI_yes, if_pos hii, m_turned hr.1 hr.2 hk, Option.bind_some, if_pos hii, mqb, if_pos hii, mset_ne (by omega), a2, m_turned hr2.1 hr2.2 hk, Option.bind_some, if_pos hii, mqb, mqb, mset_ne (by omega), mset_ne (by omega)]
      refine ⟨_, rfl, fun j j0 j3 j4 => by rw [mset_ne j0, mset_ne j4, mset_ne j3]; exact f1 j j0 j3 j4, fun j => ?_, RI_set i0 r1 (fun x => ?_) (fun x => ?_)⟩
      · rw [mset_same, mset_ne (by omega), mset_ne (by omega)]
        show (if j = 12 then t B 12 + s else t B j) = _
        rw [g1 j, g1 12, if_pos rfl, sr_step i0, show mc1 (σ (B + 3)) i = 1 from if_pos hm, Int.mul_add]
        split <;> omega
      · rw [mset_ne (by omega), mset_ne (by omega), mset_same, if_pos hm]
      · rw [mset_ne (by omega), mset_same, mset_ne (by omega), if_pos hm]
    · rw [if_neg hm, iI_no]
      refine ⟨t, rfl, f1, fun j => ?_, RI_same i0 r1 (if_neg hm) (if_neg hm)⟩
      rw [g1 j, sr_step i0, show mc1 (σ (B + 3)) i = 0 from if_neg hm, Int.add_zero]) (s := σ) ⟨fun _ _ _ _ => rfl, fun j => by
    show _ = if j = 12 then σ B 12 + s * 0 else _
    split
    · rename_i e; rw [e]; omega
    · rfl, RI_0⟩
  exact key
theorem m_turnRound {B : Nat} {σ : qSt} (hp : PR (σ (B + 3))) (hd : PR (σ (B + 4))) : ∃ σ', fX3_turnRound B σ = some (0, σ') ∧ (∀ j, j ≠ B + 3 → j ≠ B + 4 → σ' j = σ j) ∧ RI B σ (fun c => t2 (σ (B + 3) c)) (fun c => t2 (σ (B + 4) c)) 96 σ' := by
  unfold fX3_turnRound
  exact mloop (P := fun i t => (∀ j, j ≠ B + 3 → j ≠ B + 4 → t j = σ j) ∧ RI B σ (fun c => t2 (σ (B + 3) c)) (fun c => t2 (σ (B + 4) c)) i t) (F := fun f i t => fX3_turnRound_c2 B f i t) (R := fun t => some (0, t)) 96 (by omega) (by omega) (fun f t _ => by
    show fX3_turnRound_c2 B (f + 1) 96 t = _
    rw [fX3_turnRound_c2, if_pos (by rw [mI_le] <;> omega)]) (fun f i t i0 i1 hP => by
    obtain ⟨f1, r1⟩ := hP
    have hii : 0 ≤ i ∧ i < 96 := ⟨i0, i1⟩
    have hr := hp i i0 i1
    have hr2 := hd i i0 i1
    obtain ⟨a1, a2⟩ := RI_at r1
    show ∃ s1, fX3_turnRound_c2 B (f + 1) i t = fX3_turnRound_c2 B f (i + 1) s1 ∧ _
    rw [fX3_turnRound_c2, if_neg (by rw [mI_le] <;> omega), if_pos hii, a1, m_turned2 hr.1 hr.2, Option.bind_some, if_pos hii, mqb, if_pos hii, mset_ne (by omega), a2, m_turned2 hr2.1 hr2.2, Option.bind_some, if_pos hii, mqb]
    refine ⟨_, rfl, fun j j3 j4 => by rw [mset_ne j4, mset_ne j3]; exact f1 j j3 j4, RI_set i0 r1 (fun x => ?_) (fun x => ?_)⟩
    · rw [mset_ne (by omega), mset_same]
    · rw [mset_same, mset_ne (by omega)]) (s := σ) ⟨fun _ _ _ => rfl, RI_0⟩
def outP (kd pt : Int → Int) (c : Int) : Int := if kd c = 3 then 0 else pt c
def gn (kd pt : Int → Int) (w c : Int) : Int := if kd c = 3 then bt (pt c) w else 0
theorem m_emptyOutlets {B : Nat} {σ : qSt} (hk : KR (σ (B + 1))) (hp : PR (σ (B + 3))) : ∃ σ', fX3_emptyOutlets B σ = some (0, σ') ∧ (∀ j, j ≠ B + 3 → j ≠ B + 4 → j ≠ B + 11 → σ' j = σ j) ∧ (∀ w, 0 ≤ w → w < 4 → σ' (B + 11) w = σ (B + 11) w + sr (gn (σ (B + 1)) (σ (B + 3)) w) 96) ∧ RI B σ (outP (σ (B + 1)) (σ (B + 3))) (outP (σ (B + 1)) (σ (B + 4))) 96 σ' := by
  unfold fX3_emptyOutlets
  have key := mloop (P := fun i t => (∀ j, j ≠ B + 3 → j ≠ B + 4 → j ≠ B + 11 → t j = σ j) ∧ (∀ w, 0 ≤ w → w < 4 → t (B + 11) w = σ (B + 11) w + sr (gn (σ (B + 1)) (σ (B + 3)) w) i.toNat) ∧ RI B σ (outP (σ (B + 1)) (σ (B + 3))) (outP (σ (B + 1)) (σ (B + 4))) i t) (F := fun f i t => fX3_emptyOutlets_c2 B f i t) (R := fun t => some (0, t)) 96 (by omega) (by omega) (fun f t _ => by
    show fX3_emptyOutlets_c2 B (f + 1) 96 t = _
    rw [fX3_emptyOutlets_c2, if_pos (by rw [mI_le] <;> omega)]) (fun f i t i0 i1 hP => by
    obtain ⟨f1, g1, r1⟩ := hP
    have hii : 0 ≤ i ∧ i < 96 := ⟨i0, i1⟩
    have hr := hp i i0 i1
    have hkr := hk i i0 i1
    obtain ⟨a1, a2⟩ := RI_at r1
    have ek : t (B + 1) = σ (B + 1) := f1 _ (by omega) (by omega) (by omega)
    show ∃ s1, fX3_emptyOutlets_c2 B (f + 1) i t = fX3_emptyOutlets_c2 B f (i + 1) s1 ∧ _
    rw [fX3_emptyOutlets_c2, if_neg (by rw [mI_le] <;> omega), if_pos hii, ek, iI_eq (by omega) (by omega) (by omega) (by omega)]
    by_cases h3 : σ (B + 1) i = 3
    · rw [if_pos h3]
      obtain ⟨t1, e1, p1⟩ := mloop (P := fun w u => (∀ j, j ≠ B + 11 → u j = t j) ∧ ∀ v, 0 ≤ v → v < 4 → u (B + 11) v = t (B + 11) v + if v < w then bt (σ (B + 3) i) v else 0) (F := fun f1 w u => fX3_emptyOutlets_c20 B (fX3_emptyOutlets_c2 B f) f1 i w u) (R := fun u => fX3_emptyOutlets_c20 B (fX3_emptyOutlets_c2 B f) 1 i 4 u) 4 (by omega) (by omega) (fun f1 u _ => by
        show fX3_emptyOutlets_c20 B (fX3_emptyOutlets_c2 B f) (f1 + 1) i 4 u = fX3_emptyOutlets_c20 B (fX3_emptyOutlets_c2 B f) (0 + 1) i 4 u
        have e44 : qI 4 ≤ qI 4 := by rw [mI_le] <;> omega
        rw [fX3_emptyOutlets_c20, fX3_emptyOutlets_c20, if_pos e44, if_pos e44]) (fun f1 w u w0 w1 hP => by
        obtain ⟨f2, g2⟩ := hP
        have hww : 0 ≤ w ∧ w < 4 := ⟨w0, w1⟩
        show ∃ s1, fX3_emptyOutlets_c20 B (fX3_emptyOutlets_c2 B f) (f1 + 1) i w u = fX3_emptyOutlets_c20 B (fX3_emptyOutlets_c2 B f) f1 i (w + 1) s1 ∧ _
        rw [fX3_emptyOutlets_c20, if_neg (by rw [mI_le] <;> omega), if_pos hww, if_pos hii, if_pos hww, mqb, f2 (B + 3) (by omega), a1, m_bit hr.1 hr.2 w0 w1]
        refine ⟨_, rfl, fun j j11 => by rw [mset_ne j11]; exact f2 j j11, fun v v0 v1 => ?_⟩
        rw [mset_same]
        show (if v = w then _ else _) = _
        rw [g2 v v0 v1, g2 w w0 w1]
        by_cases e : v = w
        · rw [if_pos e, if_neg (by omega), if_pos (by omega), e]; omega
        · rw [if_neg e]
          by_cases e2 : v < w
          · rw [if_pos e2, if_pos (by omega)]
          · rw [if_neg e2, if_neg (by omega)]) (s := t) ⟨fun _ _ => rfl, fun v v0 v1 => by rw [if_neg (by omega)]; omega⟩
      have e1' : fX3_emptyOutlets_c20 B (fX3_emptyOutlets_c2 B f) qFU i 0 t = fX3_emptyOutlets_c20 B (fX3_emptyOutlets_c2 B f) (0 + 1) i 4 t1 := e1
      obtain ⟨f2, g2⟩ := p1
      rw [e1', fX3_emptyOutlets_c20, if_pos (by rw [mI_le] <;> omega), if_pos hii, mqb, if_pos hii, mqb]
      refine ⟨_, rfl, fun j j3 j4 j11 => by rw [mset_ne j4, mset_ne j3, f2 j j11]; exact f1 j j3 j4 j11, fun w w0 w1 => ?_, RI_set i0 r1 (fun x => ?_) (fun x => ?_)⟩
      · rw [mset_ne (by omega), mset_ne (by omega), g2 w w0 w1, g1 w w0 w1, if_pos (by omega), sr_step i0, show gn (σ (B + 1)) (σ (B + 3)) w i = bt (σ (B + 3) i) w from if_pos h3]
        omega
      · rw [mset_ne (by omega), mset_same, f2 _ (by omega), show outP (σ (B + 1)) (σ (B + 3)) i = 0 from if_pos h3]
      · rw [mset_same, mset_ne (by omega), f2 _ (by omega), show outP (σ (B + 1)) (σ (B + 4)) i = 0 from if_pos h3]
    · rw [if_neg h3]
      refine ⟨t, rfl, f1, fun w w0 w1 => ?_, RI_same i0 r1 (if_neg h3) (if_neg h3)⟩
      rw [g1 w w0 w1, sr_step i0, show gn (σ (B + 1)) (σ (B + 3)) w i = 0 from if_neg h3, Int.add_zero]) (s := σ) ⟨fun _ _ _ _ => rfl, fun w _ _ => (Int.add_zero _).symm, RI_0⟩
  exact key
def inP (kd pt : Int → Int) (c : Int) : Int := if kd c = 2 then (if bt (pt c) 0 = 0 then pt c + 1 else pt c) else pt c
def cm (kd pt : Int → Int) (c : Int) : Int := if kd c = 2 then (if bt (pt c) 0 = 0 then 1 else 0) else 0
theorem m_letIn {B : Nat} {σ : qSt} {c w : Int} (c0 : 0 ≤ c) (c1 : c < 96) (w0 : 0 ≤ w) (w1 : w < 4) (h0 : 0 ≤ σ (B + 3) c) (h1 : σ (B + 3) c ≤ 15) (hb : bt (σ (B + 3) c) w = 0) : ∃ σ', fX3_letIn B c w σ = some (0, σ') ∧ (∀ j, j ≠ B + 3 → j ≠ B + 10 → σ' j = σ j) ∧ (∀ x, σ' (B + 3) x = if x = c then σ (B + 3) c + pw w else σ (B + 3) x) ∧ ∀ j, σ' (B + 10) j = σ (B + 10) j + if j = w then 1 else 0 := by
  unfold fX3_letIn
  have hc : 0 ≤ c ∧ c < 96 := ⟨c0, c1⟩
  have hw : 0 ≤ w ∧ w < 4 := ⟨w0, w1⟩
  rw [if_pos hc, if_pos hc, mqb, if_pos hw, if_pos hw, mqb, m_or h0 h1 w0 w1 (Or.inr rfl) hb, Int.one_mul, mset_ne (by omega)]
  refine ⟨_, rfl, fun j j3 j10 => by rw [mset_ne j10, mset_ne j3], fun x => by rw [mset_ne (by omega), mset_same], fun j => ?_⟩
  rw [mset_same]
  show (if j = w then _ else qset σ (B + 3) c _ (B + 10) j) = _
  rw [mset_ne (by omega)]
  by_cases e : j = w
  · rw [if_pos e, if_pos e, e]
  · rw [if_neg e, if_neg e]; omega
theorem m_fillInlets {B : Nat} {σ : qSt} (hk : KR (σ (B + 1))) (hp : PR (σ (B + 3))) : ∃ σ', fX3_fillInlets B σ = some (0, σ') ∧ (∀ j, j ≠ B + 3 → j ≠ B + 10 → σ' j = σ j) ∧ (∀ j, σ' (B + 10) j = σ (B + 10) j + if j = 0 then sr (cm (σ (B + 1)) (σ (B + 3))) 96 else 0) ∧ ∀ x, σ' (B + 3) x = if 0 ≤ x ∧ x < 96 then inP (σ (B + 1)) (σ (B + 3)) x else σ (B + 3) x := by
  unfold fX3_fillInlets
  exact mloop (P := fun i t => (∀ j, j ≠ B + 3 → j ≠ B + 10 → t j = σ j) ∧ (∀ j, t (B + 10) j = σ (B + 10) j + if j = 0 then sr (cm (σ (B + 1)) (σ (B + 3))) i.toNat else 0) ∧ ∀ x, t (B + 3) x = if 0 ≤ x ∧ x < i then inP (σ (B + 1)) (σ (B + 3)) x else σ (B + 3) x) (F := fun f i t => fX3_fillInlets_c2 B f i t) (R := fun t => some (0, t)) 96 (by omega) (by omega) (fun f t _ => by
    show fX3_fillInlets_c2 B (f + 1) 96 t = _
    rw [fX3_fillInlets_c2, if_pos (by rw [mI_le] <;> omega)]) (fun f i t i0 i1 hP => by
    obtain ⟨f1, g1, r1⟩ := hP
    have hii : 0 ≤ i ∧ i < 96 := ⟨i0, i1⟩
    have hr := hp i i0 i1
    have hkr := hk i i0 i1
    have a1 : t (B + 3) i = σ (B + 3) i := by rw [r1 i, if_neg (by omega)]
    have ek : t (B + 1) = σ (B + 1) := f1 _ (by omega) (by omega)
    have skip : inP (σ (B + 1)) (σ (B + 3)) i = σ (B + 3) i → cm (σ (B + 1)) (σ (B + 3)) i = 0 → (∀ j, j ≠ B + 3 → j ≠ B + 10 → t j = σ j) ∧ (∀ j, t (B + 10) j = σ (B + 10) j + if j = 0 then sr (cm (σ (B + 1)) (σ (B + 3))) (i + 1).toNat else 0) ∧ ∀ x, t (B + 3) x = if 0 ≤ x ∧ x < i + 1 then inP (σ (B + 1)) (σ (B + 3)) x else σ (B + 3) x := fun e1 e2 => by
      refine ⟨f1, fun j => by rw [sr_step i0, e2, Int.add_zero]; exact g1 j, fun x => ?_⟩
      rw [r1 x]
      by_cases e : x = i
      · subst e
        rw [if_neg (by omega), if_pos (by omega), e1]
      · by_cases e3 : 0 ≤ x ∧ x < i
        · rw [if_pos e3, if_pos (by omega)]
        · rw [if_neg e3, if_neg (by omega)]
    show ∃ s1, fX3_fillInlets_c2 B (f + 1) i t = fX3_fillInlets_c2 B f (i + 1) s1 ∧ _
    rw [fX3_fillInlets_c2, if_neg (by rw [mI_le] <;> omega), if_pos hii, ek, iI_eq (by omega) (by omega) (by omega) (by omega)]
    by_cases h2 : σ (B + 1) i = 2
    · rw [if_pos h2, if_pos hii, a1, m_has hr.1 hr.2 (by omega) (by omega), Option.bind_some]
      have hbr := bt_r (σ (B + 3) i) 0
      rcases (show bt (σ (B + 3) i) 0 = 0 ∨ bt (σ (B + 3) i) 0 = 1 by omega) with e | e
      · rw [e, iI_no]
        obtain ⟨t1, e1, f2, r2, g2⟩ := m_letIn (B := B) (σ := t) (c := i) (w := 0) i0 i1 (by omega) (by omega) (by rw [a1]; exact hr.1) (by rw [a1]; exact hr.2) (by rw [a1]; exact e)
        rw [e1, mqbd]
        refine ⟨t1, rfl, fun j j3 j10 => (f2 j j3 j10).trans (f1 j j3 j10), fun j => ?_, fun x => ?_⟩
        · rw [g2 j, g1 j, sr_step i0, show cm (σ (B + 1)) (σ (B + 3)) i = 1 by unfold cm; rw [if_pos h2, if_pos e]]
          split <;> omega
        · rw [r2 x, r1 x, a1]
          by_cases e3 : x = i
          · subst e3
            rw [if_pos rfl, if_pos (by omega), show inP (σ (B + 1)) (σ (B + 3)) x = σ (B + 3) x + 1 by unfold inP; rw [if_pos h2, if_pos e]]
            rfl
          · rw [if_neg e3]
            by_cases e4 : 0 ≤ x ∧ x < i
            · rw [if_pos e4, if_pos (by omega)]
            · rw [if_neg e4, if_neg (by omega)]
      · rw [e, iI_yes]
        exact ⟨t, rfl, skip (by unfold inP; rw [if_pos h2, if_neg (by omega)]) (by unfold cm; rw [if_pos h2, if_neg (by omega)])⟩
    · rw [if_neg h2]
      exact ⟨t, rfl, skip (if_neg h2) (if_neg h2)⟩) (s := σ) ⟨fun _ _ _ => rfl, fun j => by
    show _ = _ + if j = 0 then 0 else 0
    split <;> omega, fun x => by rw [if_neg (by omega)]⟩
