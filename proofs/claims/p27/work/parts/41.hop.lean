/-! ===== where a hop leads and whence it came ===== -/
abbrev shut (kd : Int → Int) (x : Int) : Prop := x = -1 ∨ kd x = 1
def dC (kd : Int → Int) (c w : Int) : Int := if shut kd (bs c w) then c else bs c w
def dW (kd : Int → Int) (c w : Int) : Int := if shut kd (bs c w) then op w else w
def sC (kd : Int → Int) (x v : Int) : Int := if shut kd (bs x (op v)) then x else bs x (op v)
def sW (kd : Int → Int) (x v : Int) : Int := if shut kd (bs x (op v)) then op v else v
theorem dC_r {kd : Int → Int} {c w : Int} (h0 : 0 ≤ c) (h1 : c < 96) : 0 ≤ dC kd c w ∧ dC kd c w < 96 := by
  unfold dC
  have := bs_r h0 h1 (w := w)
  split
  · omega
  · rename_i h
    have h3 : bs c w ≠ -1 := fun e => h (Or.inl e)
    omega
theorem dW_r {kd : Int → Int} {c w : Int} (h2 : 0 ≤ w) (h3 : w < 4) : 0 ≤ dW kd c w ∧ dW kd c w < 4 := by
  unfold dW
  have := op_r h2 h3
  split <;> omega
theorem sC_r {kd : Int → Int} {c w : Int} (h0 : 0 ≤ c) (h1 : c < 96) : 0 ≤ sC kd c w ∧ sC kd c w < 96 := by
  unfold sC
  have := bs_r h0 h1 (w := op w)
  split
  · omega
  · rename_i h
    have h3 : bs c (op w) ≠ -1 := fun e => h (Or.inl e)
    omega
theorem sW_r {kd : Int → Int} {c w : Int} (h2 : 0 ≤ w) (h3 : w < 4) : 0 ≤ sW kd c w ∧ sW kd c w < 4 := by
  unfold sW
  have := op_r h2 h3
  split <;> omega
theorem dC_free {kd : Int → Int} {c w : Int} (hk : kd c ≠ 1) : kd (dC kd c w) ≠ 1 := by
  unfold dC
  split
  · exact hk
  · rename_i h
    exact fun e => h (Or.inr e)
theorem sC_free {kd : Int → Int} {c w : Int} (hk : kd c ≠ 1) : kd (sC kd c w) ≠ 1 := by
  unfold sC
  split
  · exact hk
  · rename_i h
    exact fun e => h (Or.inr e)
theorem sd {kd : Int → Int} {c w : Int} (h0 : 0 ≤ c) (h1 : c < 96) (h2 : 0 ≤ w) (h3 : w < 4) (hk : kd c ≠ 1) : sC kd (dC kd c w) (dW kd c w) = c ∧ sW kd (dC kd c w) (dW kd c w) = w := by
  unfold dC dW sC sW
  by_cases h : shut kd (bs c w)
  · simp only [if_pos h, op_op h2 h3, and_self]
  · simp only [if_neg h]
    have h4 : bs c w ≠ -1 := fun e => h (Or.inl e)
    rw [bs_op h0 h1 h2 h3 h4]
    have h5 : ¬ shut kd c := fun e => e.elim (fun e => by omega) hk
    simp only [if_neg h5, and_self]
theorem ds {kd : Int → Int} {x v : Int} (h0 : 0 ≤ x) (h1 : x < 96) (h2 : 0 ≤ v) (h3 : v < 4) (hk : kd x ≠ 1) : dC kd (sC kd x v) (sW kd x v) = x ∧ dW kd (sC kd x v) (sW kd x v) = v := by
  unfold sC sW dC dW
  have ho := op_r h2 h3
  by_cases h : shut kd (bs x (op v))
  · simp only [if_pos h, op_op h2 h3, and_self]
  · simp only [if_neg h]
    have h4 : bs x (op v) ≠ -1 := fun e => h (Or.inl e)
    have h6 := bs_op h0 h1 ho.1 ho.2 h4
    rw [op_op h2 h3] at h6
    rw [h6]
    have h5 : ¬ shut kd x := fun e => e.elim (fun e => by omega) hk
    simp only [if_neg h5, and_self]
/-- an order of all (cell, way) -/
def ordI (ix : Int → Int → Int) : Prop := ∀ c w, 0 ≤ c → c < 96 → 0 ≤ w → w < 4 → 0 ≤ ix c w ∧ ix c w < 384 ∧ ∀ c' w', 0 ≤ c' → c' < 96 → 0 ≤ w' → w' < 4 → ix c w = ix c' w' → c = c' ∧ w = w'
def ix1 (c w : Int) : Int := 4 * c + w
def ix2 (c w : Int) : Int := 4 * c + op w
/-- by way, then by cell -/
def ix3 (c w : Int) : Int := 96 * w + c
theorem ix1_ok : ordI ix1 := fun c w h0 h1 h2 h3 => ⟨by unfold ix1; omega, by unfold ix1; omega, fun c' w' h4 h5 h6 h7 h => by unfold ix1 at h; omega⟩
theorem ix3_ok : ordI ix3 := fun c w h0 h1 h2 h3 => ⟨by unfold ix3; omega, by unfold ix3; omega, fun c' w' h4 h5 h6 h7 h => by unfold ix3 at h; omega⟩
theorem ix2_ok : ordI ix2 := fun c w h0 h1 h2 h3 => by
  have h8 := op_r h2 h3
  refine ⟨by unfold ix2; omega, by unfold ix2; omega, fun c' w' h4 h5 h6 h7 h => ?_⟩
  have h9 := op_r h6 h7
  unfold ix2 at h
  have e1 : c = c' := by omega
  have e2 : op w = op w' := by omega
  have e3 := congrArg op e2
  rw [op_op h2 h3, op_op h6 h7] at e3
  exact ⟨e1, e3⟩
/-- what lies at (x, v) when all before i have hopped -/
def gv (kd : Int → Int) (q : Int → Int → Int) (ix : Int → Int → Int) (i x v : Int) : Int := if kd x = 1 then 0 else if ix (sC kd x v) (sW kd x v) < i then q (sC kd x v) (sW kd x v) else 0
/-- when all have -/
def gq (kd : Int → Int) (q : Int → Int → Int) (x v : Int) : Int := if kd x = 1 then 0 else q (sC kd x v) (sW kd x v)
theorem gv_0 {kd : Int → Int} {q ix : Int → Int → Int} (ho : ordI ix) {x v : Int} (h0 : 0 ≤ x) (h1 : x < 96) (h2 : 0 ≤ v) (h3 : v < 4) : gv kd q ix 0 x v = 0 := by
  unfold gv
  have hc := sC_r h0 h1 (kd := kd) (w := v)
  have hw := sW_r h2 h3 (kd := kd) (c := x)
  have := (ho _ _ hc.1 hc.2 hw.1 hw.2).1
  split
  · rfl
  · rw [if_neg (by omega)]
theorem gv_N {kd : Int → Int} {q ix : Int → Int → Int} (ho : ordI ix) {x v : Int} (h0 : 0 ≤ x) (h1 : x < 96) (h2 : 0 ≤ v) (h3 : v < 4) : gv kd q ix 384 x v = gq kd q x v := by
  unfold gv gq
  have hc := sC_r h0 h1 (kd := kd) (w := v)
  have hw := sW_r h2 h3 (kd := kd) (c := x)
  have := (ho _ _ hc.1 hc.2 hw.1 hw.2).2.1
  rw [if_pos (show ix (sC kd x v) (sW kd x v) < 384 from this)]
theorem gv_new {kd : Int → Int} {q ix : Int → Int → Int} {c w i : Int} (h0 : 0 ≤ c) (h1 : c < 96) (h2 : 0 ≤ w) (h3 : w < 4) (hi : ix c w = i) (hk : kd c ≠ 1) : gv kd q ix i (dC kd c w) (dW kd c w) = 0 := by
  unfold gv
  obtain ⟨e1, e2⟩ := sd h0 h1 h2 h3 hk
  rw [e1, e2, hi, if_neg (Int.lt_irrefl i)]
  split <;> rfl
theorem gv_step {kd : Int → Int} {q ix : Int → Int → Int} (ho : ordI ix) {c w i : Int} (h0 : 0 ≤ c) (h1 : c < 96) (h2 : 0 ≤ w) (h3 : w < 4) (hi : ix c w = i) (hk : kd c = 1 → q c w = 0) {x v : Int} (h4 : 0 ≤ x) (h5 : x < 96) (h6 : 0 ≤ v) (h7 : v < 4) : gv kd q ix (i + 1) x v = gv kd q ix i x v + (if x = dC kd c w ∧ v = dW kd c w then q c w else 0) := by
  have hc := sC_r h4 h5 (kd := kd) (w := v)
  have hw := sW_r h6 h7 (kd := kd) (c := x)
  unfold gv
  by_cases hx : kd x = 1
  · rw [if_pos hx, if_pos hx]
    split
    · rename_i h
      by_cases hkc : kd c = 1
      · rw [hk hkc]; rfl
      · exact absurd (h.1 ▸ hx) (dC_free hkc)
    · rfl
  · rw [if_neg hx, if_neg hx]
    by_cases he : sC kd x v = c ∧ sW kd x v = w
    · obtain ⟨e1, e2⟩ := he
      obtain ⟨d1, d2⟩ := ds h4 h5 h6 h7 hx
      rw [e1, e2] at d1 d2
      rw [e1, e2, hi, if_pos (by omega), if_neg (by omega), if_pos ⟨d1.symm, d2.symm⟩]
      omega
    · have hne : ix (sC kd x v) (sW kd x v) ≠ i := fun e => by
        obtain ⟨e1, e2⟩ := (ho _ _ hc.1 hc.2 hw.1 hw.2).2.2 c w h0 h1 h2 h3 (e.trans hi.symm)
        exact he ⟨e1, e2⟩
      have hz : (if x = dC kd c w ∧ v = dW kd c w then q c w else 0) = 0 := by
        split
        · rename_i h
          by_cases hkc : kd c = 1
          · exact hk hkc
          · obtain ⟨e1, e2⟩ := sd h0 h1 h2 h3 hkc
            rw [← h.1, ← h.2] at e1 e2
            exact absurd ⟨e1, e2⟩ he
        · rfl
      rw [hz]
      by_cases hl : ix (sC kd x v) (sW kd x v) < i
      · rw [if_pos (by omega), if_pos hl]; omega
      · rw [if_neg (by omega), if_neg hl]; omega
/-- sums over all (cell, way), and over all cells -/
def sm (f : Int → Int → Int) : Nat → Int
  | 0 => 0
  | n + 1 => sm f n + f ((n / 4 : Nat) : Int) ((n % 4 : Nat) : Int)
def sr (f : Int → Int) : Nat → Int
  | 0 => 0
  | n + 1 => sr f n + f (n : Int)
theorem sm_step {f : Int → Int → Int} {i c w : Int} (h0 : 0 ≤ c) (h2 : 0 ≤ w) (h3 : w < 4) (hi : i = 4 * c + w) : sm f (i + 1).toNat = sm f i.toNat + f c w := by
  have e : (i + 1).toNat = i.toNat + 1 := by omega
  rw [e]
  show sm f i.toNat + f ((i.toNat / 4 : Nat) : Int) ((i.toNat % 4 : Nat) : Int) = _
  rw [show ((i.toNat / 4 : Nat) : Int) = c by omega, show ((i.toNat % 4 : Nat) : Int) = w by omega]
theorem sr_step {f : Int → Int} {i : Int} (h0 : 0 ≤ i) : sr f (i + 1).toNat = sr f i.toNat + f i := by
  have e : (i + 1).toNat = i.toNat + 1 := by omega
  rw [e]
  show sr f i.toNat + f (i.toNat : Int) = _
  rw [show (i.toNat : Int) = i by omega]
theorem sr_congr {f g : Int → Int} : ∀ {n : Nat}, (∀ x : Int, 0 ≤ x → x < n → f x = g x) → sr f n = sr g n := by
  intro n
  induction n with
  | zero => intro _; rfl
  | succ n ih =>
    intro h
    show sr f n + f n = sr g n + g n
    rw [ih (fun x h0 h1 => h x h0 (by omega)), h n (by omega) (by omega)]
theorem sm_congr {f g : Int → Int → Int} : ∀ {n : Nat}, (∀ c w : Int, 0 ≤ c → 4 * c + w < n → 0 ≤ w → w < 4 → f c w = g c w) → sm f n = sm g n := by
  intro n
  induction n with
  | zero => intro _; rfl
  | succ n ih =>
    intro h
    show sm f n + f _ _ = sm g n + g _ _
    rw [ih (fun c w h0 h1 h2 h3 => h c w h0 (by omega) h2 h3), h _ _ (by omega) (by omega) (by omega) (by omega)]
theorem sr_add {f g : Int → Int} : ∀ {n : Nat}, sr (fun x => f x + g x) n = sr f n + sr g n := by
  intro n
  induction n with
  | zero => rfl
  | succ n ih =>
    show sr (fun x => f x + g x) n + (f n + g n) = sr f n + f n + (sr g n + g n)
    rw [ih]; omega
theorem sr_mul {f : Int → Int} {a : Int} : ∀ {n : Nat}, sr (fun x => a * f x) n = a * sr f n := by
  intro n
  induction n with
  | zero => exact (Int.mul_zero a).symm
  | succ n ih =>
    show sr (fun x => a * f x) n + a * f n = a * (sr f n + f n)
    rw [ih, Int.mul_add]
theorem sr_one {a d : Int} : ∀ {n : Nat}, 0 ≤ a → a < n → sr (fun x => if x = a then d else 0) n = d := by
  have z : ∀ n : Nat, (n : Int) ≤ a → sr (fun x => if x = a then d else 0) n = 0 := by
    intro n
    induction n with
    | zero => intro _; rfl
    | succ n ih =>
      intro h
      show sr _ n + (if (n : Int) = a then d else 0) = 0
      rw [ih (by omega), if_neg (by omega)]; rfl
  intro n
  induction n with
  | zero => intro h0 h1; omega
  | succ n ih =>
    intro h0 h1
    show sr _ n + (if (n : Int) = a then d else 0) = d
    by_cases e : (n : Int) = a
    · rw [z n (by omega), if_pos e]; omega
    · rw [ih h0 (by omega), if_neg e]; omega
theorem sr_upd {f g : Int → Int} {a d : Int} {n : Nat} (h0 : 0 ≤ a) (h1 : a < n) (h : ∀ x : Int, 0 ≤ x → x < n → g x = f x + (if x = a then d else 0)) : sr g n = sr f n + d := by
  rw [sr_congr h, sr_add, sr_one h0 h1]
theorem sr_bound {f : Int → Int} {B : Int} (hB : 0 ≤ B) : ∀ {n : Nat}, (∀ x : Int, 0 ≤ x → x < n → -B ≤ f x ∧ f x ≤ B) → -(B * n) ≤ sr f n ∧ sr f n ≤ B * n := by
  intro n
  induction n with
  | zero => intro _; exact ⟨by show -(B * 0) ≤ 0; omega, by show 0 ≤ B * 0; omega⟩
  | succ n ih =>
    intro h
    obtain ⟨a, b⟩ := ih (fun x h0 h1 => h x h0 (by omega))
    obtain ⟨c, d⟩ := h n (by omega) (by omega)
    have e : B * ((n + 1 : Nat) : Int) = B * n + B := by rw [show ((n + 1 : Nat) : Int) = (n : Int) + 1 from rfl, Int.mul_add, Int.mul_one]
    show _ ≤ sr f n + f n ∧ sr f n + f n ≤ _
    omega
theorem sm_bound {f : Int → Int → Int} {B : Int} (hB : 0 ≤ B) : ∀ {n : Nat}, (∀ c w : Int, 0 ≤ c → 4 * c + w < n → 0 ≤ w → w < 4 → -B ≤ f c w ∧ f c w ≤ B) → -(B * n) ≤ sm f n ∧ sm f n ≤ B * n := by
  intro n
  induction n with
  | zero => intro _; exact ⟨by show -(B * 0) ≤ 0; omega, by show 0 ≤ B * 0; omega⟩
  | succ n ih =>
    intro h
    obtain ⟨a, b⟩ := ih (fun c w h0 h1 h2 h3 => h c w h0 (by omega) h2 h3)
    obtain ⟨c, d⟩ := h ((n / 4 : Nat) : Int) ((n % 4 : Nat) : Int) (by omega) (by omega) (by omega) (by omega)
    have e : B * ((n + 1 : Nat) : Int) = B * n + B := by rw [show ((n + 1 : Nat) : Int) = (n : Int) + 1 from rfl, Int.mul_add, Int.mul_one]
    show _ ≤ sm f n + f _ _ ∧ sm f n + f _ _ ≤ _
    omega
/-- a sum over (cell, way) is a sum over cells -/
theorem sm_sr {f : Int → Int → Int} : ∀ n : Nat, sm f (4 * n) = sr (fun c => f c 0 + f c 1 + f c 2 + f c 3) n := by
  intro n
  induction n with
  | zero => rfl
  | succ n ih =>
    show sm f (4 * n + 1 + 1 + 1 + 1) = sr _ n + _
    rw [← ih]
    show sm f (4 * n) + f (((4 * n) / 4 : Nat) : Int) (((4 * n) % 4 : Nat) : Int) + f (((4 * n + 1) / 4 : Nat) : Int) (((4 * n + 1) % 4 : Nat) : Int) + f (((4 * n + 2) / 4 : Nat) : Int) (((4 * n + 2) % 4 : Nat) : Int) + f (((4 * n + 3) / 4 : Nat) : Int) (((4 * n + 3) % 4 : Nat) : Int) = _
    rw [show (4 * n) / 4 = n by omega, show (4 * n) % 4 = 0 by omega, show (4 * n + 1) / 4 = n by omega, show (4 * n + 1) % 4 = 1 by omega, show (4 * n + 2) / 4 = n by omega, show (4 * n + 2) % 4 = 2 by omega, show (4 * n + 3) / 4 = n by omega, show (4 * n + 3) % 4 = 3 by omega]
    show _ + f n 0 + f n 1 + f n 2 + f n 3 = _ + (f n 0 + f n 1 + f n 2 + f n 3)
    omega
/-- the ways of each cell in the other order -/
theorem sm_op {f : Int → Int → Int} : sm (fun c w => f c (op w)) 384 = sm f 384 := by
  rw [show 384 = 4 * 96 from rfl, sm_sr, sm_sr]
  refine sr_congr fun x h0 h1 => ?_
  show f x (op 0) + f x (op 1) + f x (op 2) + f x (op 3) = _
  rw [show op 0 = 2 from rfl, show op 1 = 3 from rfl, show op 2 = 0 from rfl, show op 3 = 1 from rfl]
  omega
-- sets of ways out of their bits
theorem mk_bt {x : Int} (h0 : 0 ≤ x) (h1 : x ≤ 15) : mk (bt x) = x := by
  unfold mk
  show x % 2 + 2 * (x / 2 % 2) + 4 * (x / 4 % 2) + 8 * (x / 8 % 2) = x
  omega
theorem bt_mk {f : Int → Int} (h : ∀ v, 0 ≤ v → v < 4 → 0 ≤ f v ∧ f v ≤ 1) {v : Int} (h2 : 0 ≤ v) (h3 : v < 4) : bt (mk f) v = f v := by
  have a0 := h 0 (by omega) (by omega)
  have a1 := h 1 (by omega) (by omega)
  have a2 := h 2 (by omega) (by omega)
  have a3 := h 3 (by omega) (by omega)
  rcases (show v = 0 ∨ v = 1 ∨ v = 2 ∨ v = 3 by omega) with rfl | rfl | rfl | rfl
  · show mk f % 2 = _; unfold mk; omega
  · show mk f / 2 % 2 = _; unfold mk; omega
  · show mk f / 4 % 2 = _; unfold mk; omega
  · show mk f / 8 % 2 = _; unfold mk; omega
theorem mk_r {f : Int → Int} (h : ∀ v, 0 ≤ v → v < 4 → 0 ≤ f v ∧ f v ≤ 1) : 0 ≤ mk f ∧ mk f ≤ 15 := by
  have a0 := h 0 (by omega) (by omega)
  have a1 := h 1 (by omega) (by omega)
  have a2 := h 2 (by omega) (by omega)
  have a3 := h 3 (by omega) (by omega)
  unfold mk
  omega
theorem mk_upd {f g : Int → Int} {v0 d : Int} (h2 : 0 ≤ v0) (h3 : v0 < 4) (h : ∀ v, 0 ≤ v → v < 4 → g v = f v + (if v = v0 then d else 0)) : mk g = mk f + d * pw v0 := by
  have a0 := h 0 (by omega) (by omega)
  have a1 := h 1 (by omega) (by omega)
  have a2 := h 2 (by omega) (by omega)
  have a3 := h 3 (by omega) (by omega)
  unfold mk
  rcases (show v0 = 0 ∨ v0 = 1 ∨ v0 = 2 ∨ v0 = 3 by omega) with rfl | rfl | rfl | rfl
  · rw [a0, a1, a2, a3]; simp [pw]; omega
  · rw [a0, a1, a2, a3]; simp [pw]; omega
  · rw [a0, a1, a2, a3]; simp [pw]; omega
  · rw [a0, a1, a2, a3]; simp [pw]; omega
theorem mk_congr {f g : Int → Int} (h : ∀ v, 0 ≤ v → v < 4 → f v = g v) : mk f = mk g := by
  unfold mk
  rw [h 0 (by omega) (by omega), h 1 (by omega) (by omega), h 2 (by omega) (by omega), h 3 (by omega) (by omega)]
theorem gv_r {kd : Int → Int} {q ix : Int → Int → Int} {i x v : Int} (hq : ∀ c w, 0 ≤ q c w ∧ q c w ≤ 1) : 0 ≤ gv kd q ix i x v ∧ gv kd q ix i x v ≤ 1 := by
  unfold gv
  have := hq (sC kd x v) (sW kd x v)
  repeat' split <;> omega
theorem gq_r {kd : Int → Int} {q : Int → Int → Int} {x v : Int} (hq : ∀ c w, 0 ≤ q c w ∧ q c w ≤ 1) : 0 ≤ gq kd q x v ∧ gq kd q x v ≤ 1 := by
  unfold gq
  have := hq (sC kd x v) (sW kd x v)
  split <;> omega
/-- a row of sets, one hop on -/
theorem row_step {kd : Int → Int} {q ix : Int → Int → Int} (ho : ordI ix) (hq : ∀ c w, 0 ≤ q c w ∧ q c w ≤ 1) {c w i : Int} (h0 : 0 ≤ c) (h1 : c < 96) (h2 : 0 ≤ w) (h3 : w < 4) (hi : ix c w = i) (hk : kd c = 1 → q c w = 0) {x : Int} (h4 : 0 ≤ x) (h5 : x < 96) : mk (gv kd q ix (i + 1) x) = if x = dC kd c w then mk (gv kd q ix i x) + q c w * pw (dW kd c w) else mk (gv kd q ix i x) := by
  have hd := dW_r h2 h3 (kd := kd) (c := c)
  by_cases e : x = dC kd c w
  · rw [if_pos e]
    refine mk_upd hd.1 hd.2 fun v h6 h7 => ?_
    rw [gv_step ho h0 h1 h2 h3 hi hk h4 h5 h6 h7]
    congr 1
    by_cases e2 : v = dW kd c w
    · rw [if_pos ⟨e, e2⟩, if_pos e2]
    · rw [if_neg (fun h => e2 h.2), if_neg e2]
  · rw [if_neg e]
    refine mk_congr fun v h6 h7 => ?_
    rw [gv_step ho h0 h1 h2 h3 hi hk h4 h5 h6 h7, if_neg (fun h => e h.1)]
    omega
/-- the machine's own way to put a way into a set -/
theorem row_or {kd : Int → Int} {q qq ix : Int → Int → Int} (ho : ordI ix) (hq : ∀ c w, 0 ≤ q c w ∧ q c w ≤ 1) {c w i b : Int} (h0 : 0 ≤ c) (h1 : c < 96) (h2 : 0 ≤ w) (h3 : w < 4) (hi : ix c w = i) (hk : kd c ≠ 1) (hb : b = q c w) : qor (mk (gv kd q ix i (dC kd c w))) (qshl b (dW kd c w)) = mk (gv kd q ix (i + 1) (dC kd c w)) := by
  have hd := dC_r h0 h1 (kd := kd) (w := w)
  have hw := dW_r h2 h3 (kd := kd) (c := c)
  have hr := mk_r (f := gv kd q ix i (dC kd c w)) (fun v _ _ => gv_r hq)
  rw [row_step ho hq h0 h1 h2 h3 hi (fun e => absurd e hk) hd.1 hd.2, if_pos rfl, hb]
  refine m_or hr.1 hr.2 hw.1 hw.2 (by have := hq c w; omega) ?_
  rw [bt_mk (fun v _ _ => gv_r hq) hw.1 hw.2]
  exact gv_new h0 h1 h2 h3 hi hk
