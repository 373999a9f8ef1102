/-! ===== the class's water ===== -/
def KR (kd : Int → Int) : Prop := ∀ c, 0 ≤ c → c < 96 → 0 ≤ kd c ∧ kd c ≤ 3
def BR (bd : Int → Int) : Prop := ∀ c, 0 ≤ c → c < 96 → -1 ≤ bd c ∧ bd c ≤ 3
def PR (pt : Int → Int) : Prop := ∀ c, 0 ≤ c → c < 96 → 0 ≤ pt c ∧ pt c ≤ 15
theorem m_isNoCell {σ : qSt} {x : Int} (h1 : -2147483648 ≤ x) (h2 : x ≤ 2147483647) : fX5_isNoCell σ x = some (if 0 ≤ x ∧ x < 96 then 0 else 1) := by
  unfold fX5_isNoCell
  rw [iI_lt0 h1 h2, iI_lt h1 h2 (by omega) (by omega)]
  by_cases h : x < 0
  · rw [if_pos h, if_neg (by omega)]
  · rw [if_neg h]
    by_cases h3 : x < 96
    · rw [if_pos h3, if_pos (by omega)]
    · rw [if_neg h3, if_neg (by omega)]
theorem m_isNoBody {σ : qSt} {x : Int} (h1 : -2147483648 ≤ x) (h2 : x ≤ 2147483647) : fX5_isNoBody σ x = some (if 0 ≤ x ∧ x < 4 then 0 else 1) := by
  unfold fX5_isNoBody
  rw [iI_lt0 h1 h2, iI_lt h1 h2 (by omega) (by omega)]
  by_cases h : x < 0
  · rw [if_pos h, if_neg (by omega)]
  · rw [if_neg h]
    by_cases h3 : x < 4
    · rw [if_pos h3, if_pos (by omega)]
    · rw [if_neg h3, if_neg (by omega)]
theorem m_isShut {B : Nat} {σ : qSt} {t : Int} (h1 : -1 ≤ t) (h2 : t < 96) (hk : KR (σ (B + 1))) : fX3_isShut B σ t = some (if shut (σ (B + 1)) t then 1 else 0) := by
  unfold fX3_isShut
  rw [m_isNoCell (by omega) (by omega), Option.bind_some]
  by_cases h : t = -1
  · subst h
    rw [if_neg (c := (0 : Int) ≤ -1 ∧ (-1 : Int) < 96) (by omega), iI_yes, if_pos (Or.inl rfl)]
  · have h3 : 0 ≤ t ∧ t < 96 := by omega
    have hr := hk t h3.1 h3.2
    rw [if_pos h3, iI_no, if_pos h3, iI_eq (by omega) (by omega) (by omega) (by omega)]
    by_cases h4 : σ (B + 1) t = 1
    · rw [if_pos h4, if_pos (Or.inr h4)]
    · rw [if_neg h4, if_neg (fun e => e.elim h h4)]
theorem m_countHit {B : Nat} {σ : qSt} {t w s : Int} (h1 : -1 ≤ t) (h2 : t < 96) (h3 : 0 ≤ w) (h4 : w < 4) (hb : BR (σ (B + 2))) : ∃ σ', fX3_countHit B t w s σ = some (0, σ') ∧ (∀ k, k ≠ B + 7 → k ≠ B + 8 → k ≠ B + 9 → k ≠ B + 12 → σ' k = σ k) ∧ (∀ j, σ' (B + 12) j = σ (B + 12) j + if j = w then s else 0) ∧ ∀ b, 0 ≤ b → σ' (B + 7) b = σ (B + 7) b + (if b = (if t = -1 then -1 else σ (B + 2) t) then s else 0) ∧ σ' (B + 8) b = σ (B + 8) b + (if b = (if t = -1 then -1 else σ (B + 2) t) then s * rgt w else 0) ∧ σ' (B + 9) b = σ (B + 9) b + (if b = (if t = -1 then -1 else σ (B + 2) t) then s * upw w else 0) := by
  have hw : 0 ≤ w ∧ w < 4 := ⟨h3, h4⟩
  unfold fX3_countHit fX3_countHit_c58 fX3_countHit_c68 fX3_countHit_c79
  rw [if_pos hw, if_pos hw, mqb, m_isNoCell (by omega) (by omega), Option.bind_some]
  have hst : ∀ j, qset σ (B + 12) w (σ (B + 12) w + s) (B + 12) j = σ (B + 12) j + if j = w then s else 0 := fun j => by
    rw [mset_same]
    show (if j = w then _ else _) = _
    by_cases e : j = w
    · rw [if_pos e, if_pos e, e]
    · rw [if_neg e, if_neg e]; omega
  have hfr : ∀ k, k ≠ B + 12 → qset σ (B + 12) w (σ (B + 12) w + s) k = σ k := fun k hk => mset_ne hk
  generalize qset σ (B + 12) w (σ (B + 12) w + s) = σ1 at hst hfr ⊢
  have no : ∀ y : Int, y = -1 → ∃ σ', (some ((0 : Int), σ1) : Option (Int × qSt)) = some (0, σ') ∧ (∀ k, k ≠ B + 7 → k ≠ B + 8 → k ≠ B + 9 → k ≠ B + 12 → σ' k = σ k) ∧ (∀ j, σ' (B + 12) j = σ (B + 12) j + if j = w then s else 0) ∧ ∀ b, 0 ≤ b → σ' (B + 7) b = σ (B + 7) b + (if b = y then s else 0) ∧ σ' (B + 8) b = σ (B + 8) b + (if b = y then s * rgt w else 0) ∧ σ' (B + 9) b = σ (B + 9) b + (if b = y then s * upw w else 0) := fun y hy =>
    ⟨σ1, rfl, fun k _ _ _ h => hfr k h, hst, fun b hb0 => by
      rw [hfr _ (by omega), hfr _ (by omega), hfr _ (by omega), if_neg (by omega), if_neg (by omega), if_neg (by omega)]
      omega⟩
  by_cases ht : t = -1
  · subst ht
    rw [if_neg (c := (0 : Int) ≤ -1 ∧ (-1 : Int) < 96) (by omega), iI_yes]
    exact no _ (if_pos rfl)
  · have h5 : 0 ≤ t ∧ t < 96 := by omega
    have hr := hb t h5.1 h5.2
    rw [if_pos h5, iI_no, if_pos h5, hfr _ (by omega), m_isNoBody (by omega) (by omega), Option.bind_some]
    by_cases hy : σ (B + 2) t = -1
    · rw [if_neg (c := 0 ≤ σ (B + 2) t ∧ σ (B + 2) t < 4) (by omega), iI_yes]
      exact no _ (by rw [if_neg ht]; exact hy)
    · have h6 : 0 ≤ σ (B + 2) t ∧ σ (B + 2) t < 4 := by omega
      rw [if_neg ht]
      generalize hyy : σ (B + 2) t = y at h6 ⊢
      rw [if_pos h6, iI_no, if_pos h5, mqb, if_pos h6, if_pos h6, mqb]
      have a7 : ∀ b, qset σ1 (B + 7) y (σ1 (B + 7) y + s) (B + 7) b = σ (B + 7) b + if b = y then s else 0 := fun b => by
        rw [mset_same]
        show (if b = y then σ1 (B + 7) y + s else σ1 (B + 7) b) = _
        rw [hfr _ (by omega)]
        by_cases e : b = y
        · rw [if_pos e, if_pos e, e]
        · rw [if_neg e, if_neg e]; omega
      have afr : ∀ k, k ≠ B + 7 → qset σ1 (B + 7) y (σ1 (B + 7) y + s) k = σ1 k := fun k hk => mset_ne hk
      generalize qset σ1 (B + 7) y (σ1 (B + 7) y + s) = σ3 at a7 afr ⊢
      have last : ∀ (K : Nat) (d : Int), K = B + 8 ∨ K = B + 9 → (∀ k, k ≠ B + 7 → k ≠ B + 12 → k ≠ K → qset σ3 K y (σ3 K y + d) k = σ k) ∧ (∀ j, qset σ3 K y (σ3 K y + d) (B + 12) j = σ (B + 12) j + if j = w then s else 0) ∧ (∀ b, qset σ3 K y (σ3 K y + d) (B + 7) b = σ (B + 7) b + if b = y then s else 0) ∧ (∀ b, qset σ3 K y (σ3 K y + d) K b = σ K b + if b = y then d else 0) := fun K d hK => by
        refine ⟨fun k e1 e2 e3 => by rw [mset_ne e3, afr k e1, hfr k e2], fun j => by rw [mset_ne (by omega), afr _ (by omega)]; exact hst j, fun b => by rw [mset_ne (by omega)]; exact a7 b, fun b => ?_⟩
        rw [mset_same]
        show (if b = y then σ3 K y + d else σ3 K b) = _
        rw [afr _ (by omega), hfr _ (by omega)]
        by_cases e : b = y
        · rw [if_pos e, if_pos e, e]
        · rw [if_neg e, if_neg e]; omega
      rcases (show w = 0 ∨ w = 1 ∨ w = 2 ∨ w = 3 by omega) with rfl | rfl | rfl | rfl
      · rw [iI_no, iI_no, if_pos h6, if_pos h6, mqb]
        obtain ⟨b1, b2, b3, b4⟩ := last (B + 8) (2 * s) (Or.inl rfl)
        refine ⟨_, rfl, fun k e1 e2 e3 e4 => b1 k e1 e4 e2, b2, fun b hb0 => ⟨b3 b, ?_, ?_⟩⟩
        · rw [b4 b, show rgt 0 = 2 from rfl, Int.mul_comm]
        · rw [b1 _ (by omega) (by omega) (by omega), show upw 0 = 0 from rfl]; split <;> omega
      · rw [if_neg (by rw [mI_eq0] <;> omega), if_pos rfl, if_neg (by rw [mI_eq0] <;> omega), if_neg (by rw [mI_eq] <;> omega), if_pos h6, if_pos h6, mqb]
        obtain ⟨b1, b2, b3, b4⟩ := last (B + 9) (2 * s) (Or.inr rfl)
        refine ⟨_, rfl, fun k e1 e2 e3 e4 => b1 k e1 e4 e3, b2, fun b hb0 => ⟨b3 b, ?_, ?_⟩⟩
        · rw [b1 _ (by omega) (by omega) (by omega), show rgt 1 = 0 from rfl]; split <;> omega
        · rw [b4 b, show upw 1 = 2 from rfl, Int.mul_comm]
      · rw [if_neg (by rw [mI_eq0] <;> omega), if_neg (by rw [mI_eq] <;> omega), if_neg (by rw [mI_eq0] <;> omega), if_pos rfl, if_pos h6, if_pos h6, mqb]
        obtain ⟨b1, b2, b3, b4⟩ := last (B + 8) ((-2) * s) (Or.inl rfl)
        refine ⟨_, rfl, fun k e1 e2 e3 e4 => b1 k e1 e4 e2, b2, fun b hb0 => ⟨b3 b, ?_, ?_⟩⟩
        · rw [b4 b, show rgt 2 = -2 from rfl, Int.mul_comm]
        · rw [b1 _ (by omega) (by omega) (by omega), show upw 2 = 0 from rfl]; split <;> omega
      · rw [if_neg (by rw [mI_eq0] <;> omega), if_neg (by rw [mI_eq] <;> omega), if_neg (by rw [mI_eq0] <;> omega), if_neg (by rw [mI_eq] <;> omega), if_pos h6, if_pos h6, mqb]
        obtain ⟨b1, b2, b3, b4⟩ := last (B + 9) ((-2) * s) (Or.inr rfl)
        refine ⟨_, rfl, fun k e1 e2 e3 e4 => b1 k e1 e4 e3, b2, fun b hb0 => ⟨b3 b, ?_, ?_⟩⟩
        · rw [b1 _ (by omega) (by omega) (by omega), show rgt 3 = 0 from rfl]; split <;> omega
        · rw [b4 b, show upw 3 = -2 from rfl, Int.mul_comm]
