theorem bt_add {x w v : Int} (h0 : 0 ≤ x) (h1 : x ≤ 15) (w0 : 0 ≤ w) (w1 : w < 4) (v0 : 0 ≤ v) (v1 : v < 4) (hb : bt x w = 0) : bt (x + pw w) v = bt x v + if v = w then 1 else 0 := by
  obtain ⟨n, rfl⟩ := f16 h0 h1
  obtain ⟨k, rfl⟩ := f4 w0 w1
  obtain ⟨j, rfl⟩ := f4 v0 v1
  exact (by decide +kernel : ∀ (n : Fin 16) (k j : Fin 4), bt (n.val : Int) (k.val : Int) = 0 → bt ((n.val : Int) + pw (k.val : Int)) (j.val : Int) = bt (n.val : Int) (j.val : Int) + if (j.val : Int) = (k.val : Int) then 1 else 0) n k j hb
theorem add_r {x w : Int} (h0 : 0 ≤ x) (h1 : x ≤ 15) (w0 : 0 ≤ w) (w1 : w < 4) (hb : bt x w = 0) : 0 ≤ x + pw w ∧ x + pw w ≤ 15 := by
  obtain ⟨n, rfl⟩ := f16 h0 h1
  obtain ⟨k, rfl⟩ := f4 w0 w1
  exact (by decide +kernel : ∀ (n : Fin 16) (k : Fin 4), bt (n.val : Int) (k.val : Int) = 0 → 0 ≤ (n.val : Int) + pw (k.val : Int) ∧ (n.val : Int) + pw (k.val : Int) ≤ 15) n k hb
theorem gs_add {r r' : Int → Int} {c w u : Int} (hr : PR r) (c0 : 0 ≤ c) (c1 : c < 96) (w0 : 0 ≤ w) (w1 : w < 4) (hb : bt (r c) w = 0) (h : ∀ x, r' x = if x = c then r c + pw w else r x) (hu : u = 0 ∨ u = 1) : gs u r' = gs u r + dsg u w := by
  have hc := hr c c0 c1
  refine sr_upd (a := c) c0 c1 fun x x0 x1 => ?_
  rw [h x]
  by_cases e : x = c
  · rw [if_pos e, if_pos e, e, bt_add hc.1 hc.2 w0 w1 (by omega) (by omega) hb, bt_add hc.1 hc.2 w0 w1 (by omega) (by omega) hb]
    unfold dsg
    rcases hu with rfl | rfl <;> rcases (show w = 0 ∨ w = 1 ∨ w = 2 ∨ w = 3 by omega) with rfl | rfl | rfl | rfl <;> simp <;> omega
  · rw [if_neg e, if_neg e]; omega
