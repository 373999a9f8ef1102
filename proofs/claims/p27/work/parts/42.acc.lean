/-! ===== the account of all that goes in a way ===== -/
def dsg (u w : Int) : Int := if w = u then 1 else if w = u + 2 then -1 else 0
def hS (kd : Int → Int) (q : Int → Int → Int) (w' c w : Int) : Int := if shut kd (bs c w) ∧ w = w' then q c w else 0
theorem acc_i {kd : Int → Int} {q : Int → Int → Int} (hk : ∀ c w, 0 ≤ c → c < 96 → kd c = 1 → q c w = 0) {u : Int} (hu : u = 0 ∨ u = 1) : ∀ n : Nat, n ≤ 384 → sr (fun x => gv kd q ix1 n x u - gv kd q ix1 n x (u + 2)) 96 + 2 * (sm (hS kd q u) n - sm (hS kd q (u + 2)) n) = sm (fun c w => q c w * dsg u w) n := by
  intro n
  induction n with
  | zero =>
    intro _
    rw [sr_congr (g := fun _ => 0) (fun x h0 h1 => by rw [show ((0 : Nat) : Int) = 0 from rfl, gv_0 ix1_ok h0 h1 (by omega) (by omega), gv_0 ix1_ok h0 h1 (by omega) (by omega)]; rfl)]
    have : ∀ m : Nat, sr (fun _ => 0) m = 0 := fun m => by
      induction m with
      | zero => rfl
      | succ m ih => show sr _ m + 0 = 0; rw [ih]; rfl
    rw [this]; rfl
  | succ n ih =>
    intro hn
    have ih := ih (by omega)
    have h0 : 0 ≤ ((n / 4 : Nat) : Int) := by omega
    have h1 : ((n / 4 : Nat) : Int) < 96 := by omega
    have h2 : 0 ≤ ((n % 4 : Nat) : Int) := by omega
    have h3 : ((n % 4 : Nat) : Int) < 4 := by omega
    have hi : ix1 ((n / 4 : Nat) : Int) ((n % 4 : Nat) : Int) = (n : Int) := by unfold ix1; omega
    show sr (fun x => gv kd q ix1 ((n : Int) + 1) x u - gv kd q ix1 ((n : Int) + 1) x (u + 2)) 96 + 2 * (sm (hS kd q u) n + hS kd q u ((n / 4 : Nat) : Int) ((n % 4 : Nat) : Int) - (sm (hS kd q (u + 2)) n + hS kd q (u + 2) ((n / 4 : Nat) : Int) ((n % 4 : Nat) : Int))) = sm (fun c w => q c w * dsg u w) n + q ((n / 4 : Nat) : Int) ((n % 4 : Nat) : Int) * dsg u ((n % 4 : Nat) : Int)
    generalize ((n / 4 : Nat) : Int) = c at h0 h1 hi ⊢
    generalize ((n % 4 : Nat) : Int) = w at h2 h3 hi ⊢
    have hd := dC_r h0 h1 (kd := kd) (w := w)
    rw [sr_upd (f := fun x => gv kd q ix1 n x u - gv kd q ix1 n x (u + 2)) (a := dC kd c w) (d := (if dW kd c w = u then q c w else 0) - (if dW kd c w = u + 2 then q c w else 0)) hd.1 hd.2 (fun x h4 h5 => by
      show gv kd q ix1 ((n : Int) + 1) x u - gv kd q ix1 ((n : Int) + 1) x (u + 2) = _
      rw [gv_step ix1_ok h0 h1 h2 h3 hi (hk c w h0 h1) h4 h5 (by omega) (by omega), gv_step ix1_ok h0 h1 h2 h3 hi (hk c w h0 h1) h4 h5 (by omega) (by omega)]
      by_cases e : x = dC kd c w
      · simp only [e, true_and, if_true, eq_comm (a := u), eq_comm (a := u + 2)]
        omega
      · simp only [e, false_and, if_false]
        omega)]
    have hx : (if dW kd c w = u then q c w else 0) - (if dW kd c w = u + 2 then q c w else 0) + 2 * (hS kd q u c w - hS kd q (u + 2) c w) = q c w * dsg u w := by
      unfold dW hS dsg op
      by_cases hs : shut kd (bs c w)
      · simp only [if_pos hs, hs, true_and]
        rcases hu with rfl | rfl <;> rcases (show w = 0 ∨ w = 1 ∨ w = 2 ∨ w = 3 by omega) with rfl | rfl | rfl | rfl <;> simp <;> omega
      · simp only [if_neg hs, hs, false_and, if_false]
        rcases hu with rfl | rfl <;> rcases (show w = 0 ∨ w = 1 ∨ w = 2 ∨ w = 3 by omega) with rfl | rfl | rfl | rfl <;> simp
    generalize (if dW kd c w = u then q c w else 0) = A1 at hx ⊢
    generalize (if dW kd c w = u + 2 then q c w else 0) = A2 at hx ⊢
    generalize q c w * dsg u w = D at hx ⊢
    generalize hS kd q u c w = D2 at hx ⊢
    generalize hS kd q (u + 2) c w = D3 at hx ⊢
    generalize sr (fun x => gv kd q ix1 (n : Int) x u - gv kd q ix1 (n : Int) x (u + 2)) 96 = D4 at ih ⊢
    omega
theorem acc_all {kd : Int → Int} {q : Int → Int → Int} (hk : ∀ c w, 0 ≤ c → c < 96 → kd c = 1 → q c w = 0) {u : Int} (hu : u = 0 ∨ u = 1) : sr (fun x => gq kd q x u - gq kd q x (u + 2)) 96 + 2 * (sm (hS kd q u) 384 - sm (hS kd q (u + 2)) 384) = sr (fun c => q c u - q c (u + 2)) 96 := by
  have h := acc_i hk hu 384 (Nat.le_refl _)
  rw [sr_congr (g := fun x => gq kd q x u - gq kd q x (u + 2)) (fun x h0 h1 => by
    show gv kd q ix1 384 x u - gv kd q ix1 384 x (u + 2) = _
    rw [gv_N ix1_ok h0 h1 (by omega) (by omega), gv_N ix1_ok h0 h1 (by omega) (by omega)])] at h
  rw [h, show 384 = 4 * 96 from rfl, sm_sr]
  refine sr_congr fun x h0 h1 => ?_
  unfold dsg
  rcases hu with rfl | rfl <;> simp <;> omega
/-- what a hop does to a body -/
def hB (kd bd : Int → Int) (c w : Int) : Int := if bs c w = -1 then -1 else if kd (bs c w) = 1 then bd (bs c w) else -1
def rgt (w : Int) : Int := if w = 0 then 2 else if w = 2 then -2 else 0
def upw (w : Int) : Int := if w = 1 then 2 else if w = 3 then -2 else 0
def hN (kd bd : Int → Int) (q : Int → Int → Int) (b c w : Int) : Int := if hB kd bd c w = b then q c w else 0
def hR (kd bd : Int → Int) (q : Int → Int → Int) (b c w : Int) : Int := if hB kd bd c w = b then q c w * rgt w else 0
def hU (kd bd : Int → Int) (q : Int → Int → Int) (b c w : Int) : Int := if hB kd bd c w = b then q c w * upw w else 0
/-- a loop over an array -/
theorem mfill (p : Nat) (v : Int) (σ : qSt) : ∃ σ', fJ7_fill_53178 p v σ = some (0, σ') ∧ (∀ k, k ≠ p → σ' k = σ k) ∧ ∀ x, σ' p x = if 0 ≤ x ∧ x < 96 then v else σ p x := by
  unfold fJ7_fill_53178
  refine mloop (P := fun i s => (∀ k, k ≠ p → s k = σ k) ∧ ∀ x, s p x = if 0 ≤ x ∧ x < i then v else σ p x) (F := fun f i s => fJ7_fill_53178_c5 p f v i 96 s) (R := fun s => some (0, s)) 96 (by omega) (by omega) (fun f s _ => ?_) (fun f i s h0 h1 hP => ?_) ⟨fun _ _ => rfl, fun x => by rw [if_neg (by omega)]⟩
  · show fJ7_fill_53178_c5 p (f + 1) v 96 96 s = _
    rw [fJ7_fill_53178_c5, if_pos (by rw [mI_le] <;> omega)]
  · refine ⟨qset s p i v, ?_, fun k hk => ?_, fun x => ?_⟩
    · show fJ7_fill_53178_c5 p (f + 1) v i 96 s = _
      rw [fJ7_fill_53178_c5, if_neg (by rw [mI_le] <;> omega), if_pos ⟨h0, h1⟩, mqb]
    · rw [mset_ne hk]; exact hP.1 k hk
    · rw [mset_same]
      show (if x = i then v else s p x) = _
      rw [hP.2 x]
      by_cases e : x = i
      · rw [if_pos e, if_pos (by omega)]
      · rw [if_neg e]
        by_cases e2 : 0 ≤ x ∧ x < i
        · rw [if_pos e2, if_pos (by omega)]
        · rw [if_neg e2, if_neg (by omega)]
