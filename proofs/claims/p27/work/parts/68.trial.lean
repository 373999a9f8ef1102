/-! ===== the water tried ===== -/
def RE (r r' : Int → Int) : Prop := ∀ c, 0 ≤ c → c < 96 → r c = r' c
theorem shut_congr {kd kd' : Int → Int} (h : RE kd kd') {x : Int} (x0 : -1 ≤ x) (x1 : x < 96) : shut kd x ↔ shut kd' x := by
  by_cases e : x = -1
  · exact ⟨fun _ => Or.inl e, fun _ => Or.inl e⟩
  · have := h x (by omega) x1
    constructor
    · rintro (z | z)
      · exact Or.inl z
      · exact Or.inr (by rw [← this]; exact z)
    · rintro (z | z)
      · exact Or.inl z
      · exact Or.inr (by rw [this]; exact z)
theorem sC_congr {kd kd' : Int → Int} (h : RE kd kd') {x v : Int} (x0 : 0 ≤ x) (x1 : x < 96) : sC kd x v = sC kd' x v := by
  have hb := bs_r x0 x1 (w := op v)
  have hs := shut_congr h (x := bs x (op v)) hb.1 hb.2
  unfold sC
  by_cases e : shut kd (bs x (op v))
  · rw [if_pos e, if_pos (hs.mp e)]
  · rw [if_neg e, if_neg (fun z => e (hs.mpr z))]
theorem sW_congr {kd kd' : Int → Int} (h : RE kd kd') {x v : Int} (x0 : 0 ≤ x) (x1 : x < 96) : sW kd x v = sW kd' x v := by
  have hb := bs_r x0 x1 (w := op v)
  have hs := shut_congr h (x := bs x (op v)) hb.1 hb.2
  unfold sW
  by_cases e : shut kd (bs x (op v))
  · rw [if_pos e, if_pos (hs.mp e)]
  · rw [if_neg e, if_neg (fun z => e (hs.mpr z))]
theorem hop_RE {kd kd' r r' : Int → Int} (h : RE kd kd') (hr : RE r r') : RE (hop kd r) (hop kd' r') := fun x x0 x1 => mk_congr fun v v0 v1 => by
  have hc := sC_r x0 x1 (kd := kd') (w := v)
  unfold gq
  rw [sC_congr h x0 x1, sW_congr h x0 x1, h x x0 x1]
  split
  · rfl
  · unfold qbt; rw [hr _ hc.1 hc.2]
theorem mt_RE {p p' : Int → Int} (h : RE p p') : RE (mt p) (mt p') := fun x x0 x1 => by
  unfold mt; rw [h x x0 x1]
theorem md_RE {p p' d d' : Int → Int} (h : RE p p') (hd : RE d d') : RE (md p d) (md p' d') := fun x x0 x1 => by
  unfold md; rw [h x x0 x1, hd x x0 x1]
theorem out_RE {kd kd' r r' : Int → Int} (h : RE kd kd') (hr : RE r r') : RE (outP kd r) (outP kd' r') := fun x x0 x1 => by
  unfold outP; rw [h x x0 x1, hr x x0 x1]
theorem in_RE {kd kd' r r' : Int → Int} (h : RE kd kd') (hr : RE r r') : RE (inP kd r) (inP kd' r') := fun x x0 x1 => by
  unfold inP; rw [h x x0 x1, hr x x0 x1]
theorem stepP_RE {kd kd' p p' : Int → Int} (h : RE kd kd') (hp : RE p p') : RE (stepP kd p) (stepP kd' p') := in_RE h (out_RE h (hop_RE h (mt_RE hp)))
theorem stepD_RE {kd kd' p p' d d' : Int → Int} (h : RE kd kd') (hp : RE p p') (hd : RE d d') : RE (stepD kd p d) (stepD kd' p' d') := out_RE h (hop_RE h (md_RE hp hd))
theorem hB_RE {kd kd' bd bd' : Int → Int} (h : RE kd kd') (hb : RE bd bd') {c w : Int} (c0 : 0 ≤ c) (c1 : c < 96) : hB kd bd c w = hB kd' bd' c w := by
  have hr := bs_r c0 c1 (w := w)
  unfold hB
  by_cases e : bs c w = -1
  · rw [if_pos e, if_pos e]
  · rw [if_neg e, if_neg e, h _ (by omega) hr.2, hb _ (by omega) hr.2]
theorem hR_RE {kd kd' bd bd' r r' : Int → Int} (h : RE kd kd') (hb : RE bd bd') (hr : RE r r') {j : Int} : sm (hR kd bd (qbt r) j) 384 = sm (hR kd' bd' (qbt r') j) 384 := sm_congr' fun c w c0 c1 w0 w1 => by
  unfold hR
  rw [hB_RE h hb c0 c1]
  unfold qbt
  rw [hr c c0 c1]
theorem hR_r (kd bd r : Int → Int) (j : Int) : -768 ≤ sm (hR kd bd (qbt r) j) 384 ∧ sm (hR kd bd (qbt r) j) 384 ≤ 768 := by
  have := sm_bound (f := hR kd bd (qbt r) j) (B := 2) (by omega) (n := 384) (fun c w _ _ _ _ => by
    have hq := qbt_r r c w
    have hg : -2 ≤ rgt w ∧ rgt w ≤ 2 := by unfold rgt; repeat' split <;> omega
    unfold hR
    split
    · rcases (show qbt r c w = 0 ∨ qbt r c w = 1 by omega) with e | e
      · rw [e, Int.zero_mul]; omega
      · rw [e, Int.one_mul]; omega
    · omega)
  omega
theorem m_becomeLike {σ : qSt} : ∃ σ', fX3_becomeLike σ = some (0, σ') ∧ (∀ k, (k < 14 ∨ 26 < k) → σ' k = σ k) ∧ RE (σ' 15) (σ 2) ∧ RE (σ' 16) (σ 3) ∧ RE (σ' 17) (σ 4) ∧ RE (σ' 18) (σ 5) ∧ ∀ k, 0 ≤ k → k < 4 → σ' 22 k = σ 9 k := by
  unfold fX3_becomeLike
  simp only [mqb]
  refine ⟨_, rfl, fun k hk => ?_, fun c c0 c1 => ?_, fun c c0 c1 => ?_, fun c c0 c1 => ?_, fun c c0 c1 => ?_, fun k k0 k1 => ?_⟩
  · rw [mset_ne (by omega)]
    simp only [qrow]
    rw [if_neg (by omega), if_neg (by omega), if_neg (by omega), if_neg (by omega), if_neg (by omega), if_neg (by omega), if_neg (by omega), if_neg (by omega), if_neg (by omega), if_neg (by omega)]
  · rw [mset_ne (by omega)]
    simp [qrow, c0, c1]
  · rw [mset_ne (by omega)]
    simp [qrow, c0, c1]
  · rw [mset_ne (by omega)]
    simp [qrow, c0, c1]
  · rw [mset_ne (by omega)]
    simp [qrow, c0, c1]
  · rw [mset_ne (by omega)]
    simp [qrow, k0, k1]
theorem WOK_RE {a a' : qSt} {B B' : Nat} (h : WOK B a) (h1 : RE (a' (B' + 1)) (a (B + 1))) (h2 : RE (a' (B' + 2)) (a (B + 2))) (h3 : RE (a' (B' + 3)) (a (B + 3))) (h4 : RE (a' (B' + 4)) (a (B + 4))) : WOK B' a' := by
  obtain ⟨v1, v2, v3, v4, v5, v6⟩ := h
  refine ⟨fun c c0 c1 => ?_, fun c c0 c1 => ?_, fun c c0 c1 => ?_, fun c c0 c1 => ?_, fun c c0 c1 hk => ?_, fun c w c0 c1 w0 w1 => ?_⟩
  · rw [h1 c c0 c1]; exact v1 c c0 c1
  · rw [h2 c c0 c1]; exact v2 c c0 c1
  · rw [h3 c c0 c1]; exact v3 c c0 c1
  · rw [h4 c c0 c1]; exact v4 c c0 c1
  · rw [h3 c c0 c1]; exact v5 c c0 c1 (by rw [← h1 c c0 c1]; exact hk)
  · have := v6 c w c0 c1 w0 w1
    unfold qbt at this ⊢
    rw [h3 c c0 c1, h4 c c0 c1]; exact this
/-- what trying changes -/
def triedA (a a' : qSt) : Prop := ∀ k, (k < 14 ∨ 26 < k) → a' k = a k
theorem triedA.tr {a b c : qSt} (h : triedA a b) (g : triedA b c) : triedA a c := fun k hk => (g k hk).trans (h k hk)
theorem triedA.keep {a a' : qSt} (h : triedA a a') : keepA a a' := ⟨by rw [h 0 (by omega)], by rw [h 0 (by omega)], by rw [h 1 (by omega)], by rw [h 27 (by omega)], by rw [h 27 (by omega)], fun k hk => h k (by omega)⟩
