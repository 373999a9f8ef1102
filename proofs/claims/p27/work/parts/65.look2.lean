/-- the cells seen ahead of (row r, column k) -/
abbrev VW (T L K r k x : Int) : Prop := T ≤ x / 12 ∧ ((x / 12 < r ∧ (x % 12 - L) % 12 < K) ∨ (x / 12 = r ∧ (x % 12 - L) % 12 < k - L))
def vf (kd : Int → Int) (T L K r k : Int) (f : Int → Int) (x : Int) : Int := if VW T L K r k x ∧ kd x ≠ 1 then f x else 0
theorem V_step {T L K r k x : Int} (hL : 0 ≤ L) (hL1 : L ≤ 11) (hT : T ≤ r) (hk : L ≤ k) (hk1 : k < L + K) (hK : K ≤ 12) (x0 : 0 ≤ x) : VW T L K r (k + 1) x ↔ (VW T L K r k x ∨ x = 12 * r + k % 12) := by
  constructor
  · rintro ⟨h1, h2⟩
    rcases h2 with h2 | h2
    · exact Or.inl ⟨h1, Or.inl h2⟩
    · by_cases e : (x % 12 - L) % 12 < k - L
      · exact Or.inl ⟨h1, Or.inr ⟨h2.1, e⟩⟩
      · right
        have := h2.1
        have := h2.2
        omega
  · rintro (⟨h1, h2⟩ | h)
    · rcases h2 with h2 | h2
      · exact ⟨h1, Or.inl h2⟩
      · exact ⟨h1, Or.inr ⟨h2.1, by omega⟩⟩
    · exact ⟨by omega, Or.inr ⟨by omega, by omega⟩⟩
theorem V_new {T L K r k : Int} (hL : 0 ≤ L) (hL1 : L ≤ 11) (hk : L ≤ k) (hk1 : k < L + K) (hK : K ≤ 12) : ¬ VW T L K r k (12 * r + k % 12) := by
  rintro ⟨h1, h2 | h2⟩
  · omega
  · omega
theorem V_row {T L K r x : Int} : VW T L K (r + 1) L x ↔ VW T L K r (L + K) x := by
  constructor
  · rintro ⟨h1, h2 | h2⟩
    · by_cases e : x / 12 < r
      · exact ⟨h1, Or.inl ⟨e, h2.2⟩⟩
      · exact ⟨h1, Or.inr ⟨by omega, by omega⟩⟩
    · omega
  · rintro ⟨h1, h2 | h2⟩
    · exact ⟨h1, Or.inl ⟨by omega, h2.2⟩⟩
    · exact ⟨h1, Or.inl ⟨by omega, by omega⟩⟩
theorem V_0 {T L K x : Int} : ¬ VW T L K T L x := by
  rintro ⟨h1, h2 | h2⟩ <;> omega
theorem V_N {T L R K x : Int} : VW T L K (T + R) L x ↔ INW T L R K x := by
  constructor
  · rintro ⟨h1, h2 | h2⟩
    · exact ⟨h1, h2⟩
    · omega
  · rintro ⟨h1, h2, h3⟩
    exact ⟨h1, Or.inl ⟨h2, h3⟩⟩
theorem sr_zero {f : Int → Int} {n : Nat} (h : ∀ x : Int, 0 ≤ x → x < n → f x = 0) : sr f n = 0 := by
  rw [sr_congr (g := fun _ => 0) h]
  have : ∀ m : Nat, sr (fun _ => 0) m = 0 := fun m => by
    induction m with
    | zero => rfl
    | succ m ih => show sr _ m + 0 = 0; rw [ih]; rfl
  exact this n
theorem vf_0 {kd : Int → Int} {T L K : Int} {f : Int → Int} : sr (vf kd T L K T L f) 96 = 0 := sr_zero fun x _ _ => if_neg fun z => V_0 z.1
theorem vf_row {kd : Int → Int} {T L K r : Int} {f : Int → Int} : sr (vf kd T L K (r + 1) L f) 96 = sr (vf kd T L K r (L + K) f) 96 := sr_congr fun x _ _ => by
  unfold vf
  by_cases e : VW T L K r (L + K) x ∧ kd x ≠ 1
  · rw [if_pos e, if_pos ⟨V_row.mpr e.1, e.2⟩]
  · rw [if_neg e, if_neg fun z => e ⟨V_row.mp z.1, z.2⟩]
theorem vf_N {kd : Int → Int} {T L R K : Int} {f : Int → Int} : sr (vf kd T L K (T + R) L f) 96 = sr (tf kd T L R K f) 96 := sr_congr fun x _ _ => by
  unfold vf tf
  by_cases e : INW T L R K x ∧ kd x ≠ 1
  · rw [if_pos e, if_pos ⟨V_N.mpr e.1, e.2⟩]
  · rw [if_neg e, if_neg fun z => e ⟨V_N.mp z.1, z.2⟩]
theorem vf_step {kd : Int → Int} {T L K r k : Int} {f : Int → Int} (hL : 0 ≤ L) (hL1 : L ≤ 11) (hT0 : 0 ≤ T) (hT : T ≤ r) (hr : r ≤ 7) (hk : L ≤ k) (hk1 : k < L + K) (hK : K ≤ 12) : sr (vf kd T L K r (k + 1) f) 96 = sr (vf kd T L K r k f) 96 + (if kd (12 * r + k % 12) = 1 then 0 else f (12 * r + k % 12)) :=
  sr_upd (a := 12 * r + k % 12) (by omega) (by omega) fun x x0 x1 => by
    have hs := V_step (x := x) hL hL1 hT hk hk1 hK x0
    have hn := V_new (T := T) (r := r) hL hL1 hk hk1 hK
    unfold vf
    by_cases e : x = 12 * r + k % 12
    · rw [if_pos e, ← e]
      rw [← e] at hn
      rw [if_neg (show ¬ (VW T L K r k x ∧ kd x ≠ 1) from fun z => hn z.1)]
      by_cases e2 : kd x = 1
      · rw [if_neg (fun z => z.2 e2), if_pos e2]; rfl
      · rw [if_pos ⟨hs.mpr (Or.inr e), e2⟩, if_neg e2]; omega
    · rw [if_neg e]
      by_cases e2 : VW T L K r k x ∧ kd x ≠ 1
      · rw [if_pos e2, if_pos ⟨hs.mpr (Or.inl e2.1), e2.2⟩]; omega
      · rw [if_neg e2, if_neg (fun z => e2 ⟨(hs.mp z.1).resolve_right e, z.2⟩)]; rfl
