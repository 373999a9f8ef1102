theorem sm_upd {f g : Int → Int → Int} {c0 w0 d : Int} (h0 : 0 ≤ c0) (h2 : 0 ≤ w0) (h3 : w0 < 4) (h : ∀ c w, 0 ≤ c → c < 96 → 0 ≤ w → w < 4 → g c w = f c w + (if c = c0 ∧ w = w0 then d else 0)) : ∀ n : Nat, n ≤ 384 → sm g n = sm f n + if 4 * c0 + w0 < n then d else 0 := by
  intro n
  induction n with
  | zero => intro _; rw [if_neg (by omega)]; rfl
  | succ n ih =>
    intro hn
    show sm g n + g ((n / 4 : Nat) : Int) ((n % 4 : Nat) : Int) = sm f n + f ((n / 4 : Nat) : Int) ((n % 4 : Nat) : Int) + _
    rw [ih (by omega), h _ _ (by omega) (by omega) (by omega) (by omega)]
    by_cases e : 4 * c0 + w0 = n
    · rw [if_pos (show ((n / 4 : Nat) : Int) = c0 ∧ ((n % 4 : Nat) : Int) = w0 by omega), if_neg (by omega), if_pos (by omega)]; omega
    · rw [if_neg (show ¬ (((n / 4 : Nat) : Int) = c0 ∧ ((n % 4 : Nat) : Int) = w0) by omega)]
      by_cases e2 : 4 * c0 + w0 < n
      · rw [if_pos e2, if_pos (by omega)]; omega
      · rw [if_neg e2, if_neg (by omega)]; omega
