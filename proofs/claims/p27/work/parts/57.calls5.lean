theorem btc_r (x : Int) : 0 ≤ btc x ∧ btc x ≤ 4 := by
  have a := bt_r x 0
  have b := bt_r x 1
  have c := bt_r x 2
  have d := bt_r x 3
  unfold btc
  omega
theorem m_bitsOf {p : Nat} {σ : qSt} (h : PR (σ p)) : fX5_bitsOf p σ = some (sr (fun c => btc (σ p c)) 96) := by
  unfold fX5_bitsOf
  obtain ⟨s, e, q⟩ := mloop (P := fun i (n : Int) => n = sr (fun c => btc (σ p c)) i.toNat) (F := fun f i n => fX5_bitsOf_c10 p σ f n 96 i) (R := fun n => some n) 96 (by omega) (by omega) (fun f n _ => by
    show fX5_bitsOf_c10 p σ (f + 1) n 96 96 = _
    rw [fX5_bitsOf_c10, if_pos (by rw [mI_le] <;> omega)]) (fun f i n i0 i1 hP => by
    have hr := h i i0 i1
    show ∃ s1, fX5_bitsOf_c10 p σ (f + 1) n 96 i = fX5_bitsOf_c10 p σ f s1 96 (i + 1) ∧ _
    rw [fX5_bitsOf_c10, if_neg (by rw [mI_le] <;> omega), if_pos ⟨i0, i1⟩, mqb, m_bitCount hr.1 hr.2, Option.bind_some, mqb]
    exact ⟨_, rfl, by rw [hP, sr_step i0]⟩) (s := 0) rfl
  have e' : fX5_bitsOf_c10 p σ qFU 0 96 0 = some s := e
  rw [e', q]
  rfl
theorem m_moreAt {B : Nat} {σ : qSt} {c u : Int} (h : PR (σ (B + 3))) (c0 : 0 ≤ c) (c1 : c < 96) (hu : u = 0 ∨ u = 1) : fX3_moreAt B σ c u = some (bt (σ (B + 3) c) u - bt (σ (B + 3) c) (u + 2)) := by
  have hr := h c c0 c1
  unfold fX3_moreAt fX5_opposite
  rw [if_pos ⟨c0, c1⟩, if_pos ⟨c0, c1⟩, Option.bind_some, m_opp (by omega) (by omega), m_bit hr.1 hr.2 (by omega) (by omega), show op u = u + 2 by unfold op; rw [if_pos (by omega)], m_bit hr.1 hr.2 (by omega) (by omega)]
theorem m_goingMore {σ : qSt} {u : Int} (h : PR (σ 4)) (hu : u = 0 ∨ u = 1) : fX3_goingMore 1 σ u = some (gs u (σ 4)) := by
  unfold fX3_goingMore
  obtain ⟨s, e, q⟩ := mloop (P := fun i (n : Int) => n = sr (fun c => bt (σ 4 c) u - bt (σ 4 c) (u + 2)) i.toNat) (F := fun f i n => fX3_goingMore_c4 1 σ f u n i) (R := fun n => some n) 96 (by omega) (by omega) (fun f n _ => by
    show fX3_goingMore_c4 1 σ (f + 1) u n 96 = _
    rw [fX3_goingMore_c4, if_pos (by rw [mI_le] <;> omega)]) (fun f i n i0 i1 hP => by
    show ∃ s1, fX3_goingMore_c4 1 σ (f + 1) u n i = fX3_goingMore_c4 1 σ f u s1 (i + 1) ∧ _
    rw [fX3_goingMore_c4, if_neg (by rw [mI_le] <;> omega), m_moreAt (B := 1) h i0 i1 hu, Option.bind_some, mqb]
    exact ⟨_, rfl, by rw [hP, sr_step i0]⟩) (s := 0) rfl
  have e' : fX3_goingMore_c4 1 σ qFU u 0 0 = some s := e
  rw [e', q]
  rfl
theorem gs_r (u : Int) (r : Int → Int) : -96 ≤ gs u r ∧ gs u r ≤ 96 := by
  have := sr_bound (f := fun c => bt (r c) u - bt (r c) (u + 2)) (B := 1) (by omega) (n := 96) (fun x _ _ => by have := bt_r (r x) u; have := bt_r (r x) (u + 2); omega)
  unfold gs
  omega
theorem sbtc_r (r : Int → Int) : 0 ≤ sr (fun c => btc (r c)) 96 ∧ sr (fun c => btc (r c)) 96 ≤ 384 := by
  have h := sr_bound (f := fun c => btc (r c)) (B := 4) (by omega) (n := 96) (fun x _ _ => by have := btc_r (r x); omega)
  have key : ∀ n : Nat, 0 ≤ sr (fun c => btc (r c)) n := by
    intro n
    induction n with
    | zero => exact Int.le_refl _
    | succ n ih =>
      have := btc_r (r n)
      show 0 ≤ sr _ n + btc (r n)
      omega
  have := key 96
  omega
