/-! ===== the cases of the law: each goes on ===== -/
theorem J.next {t t' : Int} {a b a' : qSt} (h : J t a b) (ht : t ≤ t') (fa : ∀ k, k < 47 → a' k = a k) (fb : ∀ k, 47 ≤ k → k < 64 → a' k = b k) : J t' a' a' :=
  h.keep ht ⟨by rw [fa 0 (by omega)], by rw [fa 0 (by omega)], by rw [fa 1 (by omega)], by rw [fa 27 (by omega)], by rw [fa 27 (by omega)], fun k hk => fa k (by omega)⟩ ⟨fun j _ _ _ _ _ => by rw [fb 47 (by omega) (by omega)], fun k hk => fb k (by omega) (by omega)⟩
theorem law1 {codes : List (Int × Int)} {t : Int} {σ : qSt} (hJ : J t σ σ) {X : Option (Int × Int × qSt)} {V : qSt → Option (Int × qSt)} (H : ∀ b, J t σ b → PQ codes t σ b X (V b)) (hz : ∀ e k, (e, k) ∈ codes → (0 ≤ k ∧ k ≤ 3) ∧ (k = 0 → e = 0)) {W : Option (Int × qSt)} {st : Int → qSt → qSt} (hst : ∀ r s k, k ≠ 64 → st r s k = s k) (hW : ∀ e k r a', (e, k) ∈ codes → X = some (e, r, a') → W = some (k, if e = 0 then st r a' else a')) : ∃ k2 σ1 r σ4, W = some (k2, σ1) ∧ V σ1 = some (r, σ4) ∧ fX6_thrown σ4 = some k2 ∧ J (t + 1) σ4 σ4 ∧ (0 ≤ k2 ∧ k2 ≤ 3) ∧ (k2 = 0 → ∃ a', σ4 64 = st r a' 64) := by
  obtain ⟨e, r, a', r', b', hX, hV, hc, hr, hJ', fa, fb⟩ := H σ hJ
  have f1 : ∀ k, k ≠ 64 → (if e = 0 then st r a' else a') k = a' k := fun k hk => by
    split
    · exact hst r a' k hk
    · rfl
  have s64 : e = 0 → (if e = 0 then st r a' else a') = st r a' := fun h => if_pos h
  generalize hσ1 : (if e = 0 then st r a' else a') = σ1 at f1 s64
  have hJ1 : J t σ σ1 := hJ.keep (by omega) (keepA.rf σ) ⟨fun j _ _ _ _ _ => by rw [f1 47 (by omega), fa 47 (by omega) (by omega)], fun k hk => by rw [f1 k (by omega), fa k (by omega) (by omega)]⟩
  obtain ⟨e2, r2, a2, r3, b2, hX2, hV2, hc2, hr2, hJ2, fa2, fb2⟩ := H σ1 hJ1
  have hee := Prod.mk.inj (Option.some.inj (hX.symm.trans hX2))
  obtain ⟨g1, g2⟩ := hee
  obtain ⟨g2, g3⟩ := Prod.mk.inj g2
  subst g1 g2 g3
  have hz2 := hz _ _ hc2
  refine ⟨b2 47 0, σ1, r3, b2, ?_, hV2, rfl, hJ2.next (by omega) (fun k hk => ?_) (fun k _ _ => rfl), hz2.1, fun h0 => ?_⟩
  · rw [hW _ _ r a' hc2 hX, hσ1]
  · rw [fb2 k (by omega), f1 k (by omega)]
  · have he := hz2.2 h0
    refine ⟨a', ?_⟩
    rw [fb2 64 (by omega), s64 he, hr2 he]
theorem m64 (s : qSt) (v : Int) : qset s 64 0 v 64 0 = v := by rw [mset_same]; exact if_pos rfl
theorem h0_1 : (0 : Int) ≤ 0 ∧ (0 : Int) < 1 := by omega
theorem w_wall {p1 p2 : Int} {σ : qSt} {e k r : Int} {a' : qSt} (hc : (e, k) ∈ ([(0, 0), (1, 1), (3, 2)] : List (Int × Int))) (hX : fX5_wall p1 p2 σ = some (e, r, a')) : fL_wall p1 p2 σ = some (k, if e = 0 then (fun _ s => s : Int → qSt → qSt) r a' else a') := by
  unfold fL_wall
  rw [hX]
  simp only [List.mem_cons, Prod.mk.injEq, List.not_mem_nil, or_false] at hc
  rcases hc with ⟨rfl, rfl⟩ | ⟨rfl, rfl⟩ | ⟨rfl, rfl⟩ <;> rfl
theorem q_c0 {L : Nat} {xs : Nat → Int32} {nx : Int → qSt → Option Unit} {i t : Int} {σ : qSt} (i0 : 0 ≤ i) (i1 : i + 7 ≤ L) (hnx : ∀ s, J (t + 1) s s → nx (i + 7) s = some ()) (hJ : J t σ σ) : fL_c0 L xs nx i σ = some () := by
  have h1 : 0 ≤ i + 1 ∧ i + 1 < (L : Int) := by omega
  have h2 : 0 ≤ i + 2 ∧ i + 2 < (L : Int) := by omega
  unfold fL_c0
  obtain ⟨k2, σ1, r, σ4, w1, w2, w3, w4, w5, w6⟩ := law1 (codes := [(0, 0), (1, 1), (3, 2)]) (X := fX5_wall (qXs xs (i + 1)) (qXs xs (i + 2)) σ) (V := fX6_wall (qXs xs (i + 1)) (qXs xs (i + 2))) (W := fL_wall (qXs xs (i + 1)) (qXs xs (i + 2)) σ) (st := fun _ s => s) hJ (fun b hb => p_wall hb (isI_xs xs _) (isI_xs xs _)) (fun e k h => by simp at h; omega) (fun _ _ _ _ => rfl) (fun e k r a' hc hX => w_wall hc hX)
  simp only [qif, if_pos h1, if_pos h2, if_pos h0_1]
  rw [w1, mqbd, w2, mqbd, w3, Option.bind_some, if_pos rfl]
  exact hnx σ4 w4
theorem w_clear {p1 : Int} {σ : qSt} {e k r : Int} {a' : qSt} (hc : (e, k) ∈ ([(0, 0), (1, 1)] : List (Int × Int))) (hX : fX5_clear p1 σ = some (e, r, a')) : fL_clear p1 σ = some (k, if e = 0 then (fun r s => qset s 64 0 (qi2l r) : Int → qSt → qSt) r a' else a') := by
  unfold fL_clear
  rw [hX]
  simp only [List.mem_cons, Prod.mk.injEq, List.not_mem_nil, or_false] at hc
  rcases hc with ⟨rfl, rfl⟩ | ⟨rfl, rfl⟩ <;> rfl
theorem q_c1 {L : Nat} {xs : Nat → Int32} {nx : Int → qSt → Option Unit} {i t : Int} {σ : qSt} (i0 : 0 ≤ i) (i1 : i + 7 ≤ L) (hnx : ∀ s, J (t + 1) s s → nx (i + 7) s = some ()) (hJ : J t σ σ) : fL_c1 L xs nx i σ = some () := by
  have h1 : 0 ≤ i + 1 ∧ i + 1 < (L : Int) := by omega
  unfold fL_c1
  obtain ⟨k2, σ1, r, σ4, w1, w2, w3, w4, w5, w6⟩ := law1 (codes := [(0, 0), (1, 1)]) (X := fX5_clear (qXs xs (i + 1)) σ) (V := fX6_clear (qXs xs (i + 1))) (W := fL_clear (qXs xs (i + 1)) σ) (st := fun r s => qset s 64 0 (qi2l r)) hJ (fun b hb => p_clear hb (isI_xs xs _)) (fun e k h => by simp at h; omega) (fun _ _ _ hk => mset_ne hk) (fun e k r a' hc hX => w_clear hc hX)
  simp only [qif, if_pos h1, if_pos h0_1]
  rw [w1, mqbd, w2, mqbd, w3, Option.bind_some, if_pos rfl, iI_eq0 (by omega) (by omega)]
  by_cases hk : k2 = 0
  · obtain ⟨a', hs⟩ := w6 hk
    have hv : σ4 64 0 = qi2l r := by rw [hs]; exact m64 _ _
    rw [if_pos hk, hv, lcmp_self, iI_no]
    exact hnx σ4 w4
  · rw [if_neg hk]
    exact hnx σ4 w4
theorem w_open {p1 p2 : Int} {σ : qSt} {e k r : Int} {a' : qSt} (hc : (e, k) ∈ ([(0, 0), (1, 1), (2, 2), (3, 3)] : List (Int × Int))) (hX : fX5_open p1 p2 σ = some (e, r, a')) : fL_open p1 p2 σ = some (k, if e = 0 then (fun _ s => s : Int → qSt → qSt) r a' else a') := by
  unfold fL_open
  rw [hX]
  simp only [List.mem_cons, Prod.mk.injEq, List.not_mem_nil, or_false] at hc
  rcases hc with ⟨rfl, rfl⟩ | ⟨rfl, rfl⟩ | ⟨rfl, rfl⟩ | ⟨rfl, rfl⟩ <;> rfl
theorem q_c2 {L : Nat} {xs : Nat → Int32} {nx : Int → qSt → Option Unit} {i t : Int} {σ : qSt} (i0 : 0 ≤ i) (i1 : i + 7 ≤ L) (hnx : ∀ s, J (t + 1) s s → nx (i + 7) s = some ()) (hJ : J t σ σ) : fL_c2 L xs nx i σ = some () := by
  have h1 : 0 ≤ i + 1 ∧ i + 1 < (L : Int) := by omega
  have h2 : 0 ≤ i + 2 ∧ i + 2 < (L : Int) := by omega
  unfold fL_c2
  obtain ⟨k2, σ1, r, σ4, w1, w2, w3, w4, w5, w6⟩ := law1 (codes := [(0, 0), (1, 1), (2, 2), (3, 3)]) (X := fX5_open (qXs xs (i + 1)) (qXs xs (i + 2)) σ) (V := fX6_open (qXs xs (i + 1)) (qXs xs (i + 2))) (W := fL_open (qXs xs (i + 1)) (qXs xs (i + 2)) σ) (st := fun _ s => s) hJ (fun b hb => p_open hb (isI_xs xs _) (isI_xs xs _)) (fun e k h => by simp at h; omega) (fun _ _ _ _ => rfl) (fun e k r a' hc hX => w_open hc hX)
  simp only [qif, if_pos h1, if_pos h2, if_pos h0_1]
  rw [w1, mqbd, w2, mqbd, w3, Option.bind_some, if_pos rfl]
  exact hnx σ4 w4
theorem w_particle {p1 p2 : Int} {σ : qSt} {e k r : Int} {a' : qSt} (hc : (e, k) ∈ ([(0, 0), (1, 1), (2, 2), (3, 3)] : List (Int × Int))) (hX : fX5_particle p1 p2 σ = some (e, r, a')) : fL_particle p1 p2 σ = some (k, if e = 0 then (fun r s => qset s 64 0 (qi2l r) : Int → qSt → qSt) r a' else a') := by
  unfold fL_particle
  rw [hX]
  simp only [List.mem_cons, Prod.mk.injEq, List.not_mem_nil, or_false] at hc
  rcases hc with ⟨rfl, rfl⟩ | ⟨rfl, rfl⟩ | ⟨rfl, rfl⟩ | ⟨rfl, rfl⟩ <;> rfl
theorem q_c3 {L : Nat} {xs : Nat → Int32} {nx : Int → qSt → Option Unit} {i t : Int} {σ : qSt} (i0 : 0 ≤ i) (i1 : i + 7 ≤ L) (hnx : ∀ s, J (t + 1) s s → nx (i + 7) s = some ()) (hJ : J t σ σ) : fL_c3 L xs nx i σ = some () := by
  have h1 : 0 ≤ i + 1 ∧ i + 1 < (L : Int) := by omega
  have h2 : 0 ≤ i + 2 ∧ i + 2 < (L : Int) := by omega
  unfold fL_c3
  obtain ⟨k2, σ1, r, σ4, w1, w2, w3, w4, w5, w6⟩ := law1 (codes := [(0, 0), (1, 1), (2, 2), (3, 3)]) (X := fX5_particle (qXs xs (i + 1)) (qXs xs (i + 2)) σ) (V := fX6_particle (qXs xs (i + 1)) (qXs xs (i + 2))) (W := fL_particle (qXs xs (i + 1)) (qXs xs (i + 2)) σ) (st := fun r s => qset s 64 0 (qi2l r)) hJ (fun b hb => p_particle hb (isI_xs xs _) (isI_xs xs _)) (fun e k h => by simp at h; omega) (fun _ _ _ hk => mset_ne hk) (fun e k r a' hc hX => w_particle hc hX)
  simp only [qif, if_pos h1, if_pos h2, if_pos h0_1]
  rw [w1, mqbd, w2, mqbd, w3, Option.bind_some, if_pos rfl, iI_eq0 (by omega) (by omega)]
  by_cases hk : k2 = 0
  · obtain ⟨a', hs⟩ := w6 hk
    have hv : σ4 64 0 = qi2l r := by rw [hs]; exact m64 _ _
    rw [if_pos hk, hv, lcmp_self, iI_no]
    exact hnx σ4 w4
  · rw [if_neg hk]
    exact hnx σ4 w4
theorem w_ink {p1 : Int} {σ : qSt} {e k r : Int} {a' : qSt} (hc : (e, k) ∈ ([(0, 0), (1, 1)] : List (Int × Int))) (hX : fX5_ink p1 σ = some (e, r, a')) : fL_ink p1 σ = some (k, if e = 0 then (fun r s => qset s 64 0 (qi2l r) : Int → qSt → qSt) r a' else a') := by
  unfold fL_ink
  rw [hX]
  simp only [List.mem_cons, Prod.mk.injEq, List.not_mem_nil, or_false] at hc
  rcases hc with ⟨rfl, rfl⟩ | ⟨rfl, rfl⟩ <;> rfl
theorem q_c4 {L : Nat} {xs : Nat → Int32} {nx : Int → qSt → Option Unit} {i t : Int} {σ : qSt} (i0 : 0 ≤ i) (i1 : i + 7 ≤ L) (hnx : ∀ s, J (t + 1) s s → nx (i + 7) s = some ()) (hJ : J t σ σ) : fL_c4 L xs nx i σ = some () := by
  have h1 : 0 ≤ i + 1 ∧ i + 1 < (L : Int) := by omega
  unfold fL_c4
  obtain ⟨k2, σ1, r, σ4, w1, w2, w3, w4, w5, w6⟩ := law1 (codes := [(0, 0), (1, 1)]) (X := fX5_ink (qXs xs (i + 1)) σ) (V := fX6_ink (qXs xs (i + 1))) (W := fL_ink (qXs xs (i + 1)) σ) (st := fun r s => qset s 64 0 (qi2l r)) hJ (fun b hb => p_ink hb (isI_xs xs _)) (fun e k h => by simp at h; omega) (fun _ _ _ hk => mset_ne hk) (fun e k r a' hc hX => w_ink hc hX)
  simp only [qif, if_pos h1, if_pos h0_1]
  rw [w1, mqbd, w2, mqbd, w3, Option.bind_some, if_pos rfl, iI_eq0 (by omega) (by omega)]
  by_cases hk : k2 = 0
  · obtain ⟨a', hs⟩ := w6 hk
    have hv : σ4 64 0 = qi2l r := by rw [hs]; exact m64 _ _
    rw [if_pos hk, hv, lcmp_self, iI_no]
    exact hnx σ4 w4
  · rw [if_neg hk]
    exact hnx σ4 w4
theorem w_probe {p1 : Int} {σ : qSt} {e k r : Int} {a' : qSt} (hc : (e, k) ∈ ([(0, 0), (1, 1), (3, 2)] : List (Int × Int))) (hX : fX5_probe p1 σ = some (e, r, a')) : fL_probe p1 σ = some (k, if e = 0 then (fun r s => qset s 64 0 (qi2l r) : Int → qSt → qSt) r a' else a') := by
  unfold fL_probe
  rw [hX]
  simp only [List.mem_cons, Prod.mk.injEq, List.not_mem_nil, or_false] at hc
  rcases hc with ⟨rfl, rfl⟩ | ⟨rfl, rfl⟩ | ⟨rfl, rfl⟩ <;> rfl
theorem q_c5 {L : Nat} {xs : Nat → Int32} {nx : Int → qSt → Option Unit} {i t : Int} {σ : qSt} (i0 : 0 ≤ i) (i1 : i + 7 ≤ L) (hnx : ∀ s, J (t + 1) s s → nx (i + 7) s = some ()) (hJ : J t σ σ) : fL_c5 L xs nx i σ = some () := by
  have h1 : 0 ≤ i + 1 ∧ i + 1 < (L : Int) := by omega
  unfold fL_c5
  obtain ⟨k2, σ1, r, σ4, w1, w2, w3, w4, w5, w6⟩ := law1 (codes := [(0, 0), (1, 1), (3, 2)]) (X := fX5_probe (qXs xs (i + 1)) σ) (V := fX6_probe (qXs xs (i + 1))) (W := fL_probe (qXs xs (i + 1)) σ) (st := fun r s => qset s 64 0 (qi2l r)) hJ (fun b hb => p_probe hb (isI_xs xs _)) (fun e k h => by simp at h; omega) (fun _ _ _ hk => mset_ne hk) (fun e k r a' hc hX => w_probe hc hX)
  simp only [qif, if_pos h1, if_pos h0_1]
  rw [w1, mqbd, w2, mqbd, w3, Option.bind_some, if_pos rfl, iI_eq0 (by omega) (by omega)]
  by_cases hk : k2 = 0
  · obtain ⟨a', hs⟩ := w6 hk
    have hv : σ4 64 0 = qi2l r := by rw [hs]; exact m64 _ _
    rw [if_pos hk, hv, lcmp_self, iI_no]
    exact hnx σ4 w4
  · rw [if_neg hk]
    exact hnx σ4 w4
theorem w_fault {p1 p2 : Int} {σ : qSt} {e k r : Int} {a' : qSt} (hc : (e, k) ∈ ([(0, 0), (1, 1), (2, 2)] : List (Int × Int))) (hX : fX5_fault p1 p2 σ = some (e, r, a')) : fL_fault p1 p2 σ = some (k, if e = 0 then (fun r s => qset s 64 0 (qi2l r) : Int → qSt → qSt) r a' else a') := by
  unfold fL_fault
  rw [hX]
  simp only [List.mem_cons, Prod.mk.injEq, List.not_mem_nil, or_false] at hc
  rcases hc with ⟨rfl, rfl⟩ | ⟨rfl, rfl⟩ | ⟨rfl, rfl⟩ <;> rfl
theorem q_c6 {L : Nat} {xs : Nat → Int32} {nx : Int → qSt → Option Unit} {i t : Int} {σ : qSt} (i0 : 0 ≤ i) (i1 : i + 7 ≤ L) (hnx : ∀ s, J (t + 1) s s → nx (i + 7) s = some ()) (hJ : J t σ σ) : fL_c6 L xs nx i σ = some () := by
  have h1 : 0 ≤ i + 1 ∧ i + 1 < (L : Int) := by omega
  have h2 : 0 ≤ i + 2 ∧ i + 2 < (L : Int) := by omega
  unfold fL_c6
  obtain ⟨k2, σ1, r, σ4, w1, w2, w3, w4, w5, w6⟩ := law1 (codes := [(0, 0), (1, 1), (2, 2)]) (X := fX5_fault (qXs xs (i + 1)) (qXs xs (i + 2)) σ) (V := fX6_fault (qXs xs (i + 1)) (qXs xs (i + 2))) (W := fL_fault (qXs xs (i + 1)) (qXs xs (i + 2)) σ) (st := fun r s => qset s 64 0 (qi2l r)) hJ (fun b hb => p_fault hb (isI_xs xs _) (isI_xs xs _)) (fun e k h => by simp at h; omega) (fun _ _ _ hk => mset_ne hk) (fun e k r a' hc hX => w_fault hc hX)
  simp only [qif, if_pos h1, if_pos h2, if_pos h0_1]
  rw [w1, mqbd, w2, mqbd, w3, Option.bind_some, if_pos rfl, iI_eq0 (by omega) (by omega)]
  by_cases hk : k2 = 0
  · obtain ⟨a', hs⟩ := w6 hk
    have hv : σ4 64 0 = qi2l r := by rw [hs]; exact m64 _ _
    rw [if_pos hk, hv, lcmp_self, iI_no]
    exact hnx σ4 w4
  · rw [if_neg hk]
    exact hnx σ4 w4
theorem w_bring {p1 p2 p3 : Int} {σ : qSt} {e k r : Int} {a' : qSt} (hc : (e, k) ∈ ([(0, 0), (1, 1), (2, 2), (3, 3)] : List (Int × Int))) (hX : fX5_bring p1 p2 p3 σ = some (e, r, a')) : fL_bring p1 p2 p3 σ = some (k, if e = 0 then (fun r s => qset s 64 0 (qi2l r) : Int → qSt → qSt) r a' else a') := by
  unfold fL_bring
  rw [hX]
  simp only [List.mem_cons, Prod.mk.injEq, List.not_mem_nil, or_false] at hc
  rcases hc with ⟨rfl, rfl⟩ | ⟨rfl, rfl⟩ | ⟨rfl, rfl⟩ | ⟨rfl, rfl⟩ <;> rfl
theorem q_c7 {L : Nat} {xs : Nat → Int32} {nx : Int → qSt → Option Unit} {i t : Int} {σ : qSt} (i0 : 0 ≤ i) (i1 : i + 7 ≤ L) (hnx : ∀ s, J (t + 1) s s → nx (i + 7) s = some ()) (hJ : J t σ σ) : fL_c7 L xs nx i σ = some () := by
  have h1 : 0 ≤ i + 1 ∧ i + 1 < (L : Int) := by omega
  have h2 : 0 ≤ i + 2 ∧ i + 2 < (L : Int) := by omega
  have h3 : 0 ≤ i + 3 ∧ i + 3 < (L : Int) := by omega
  unfold fL_c7
  obtain ⟨k2, σ1, r, σ4, w1, w2, w3, w4, w5, w6⟩ := law1 (codes := [(0, 0), (1, 1), (2, 2), (3, 3)]) (X := fX5_bring (qXs xs (i + 1)) (qXs xs (i + 2)) (qXs xs (i + 3)) σ) (V := fX6_bring (qXs xs (i + 1)) (qXs xs (i + 2)) (qXs xs (i + 3))) (W := fL_bring (qXs xs (i + 1)) (qXs xs (i + 2)) (qXs xs (i + 3)) σ) (st := fun r s => qset s 64 0 (qi2l r)) hJ (fun b hb => p_bring hb (isI_xs xs _) (isI_xs xs _) (isI_xs xs _)) (fun e k h => by simp at h; omega) (fun _ _ _ hk => mset_ne hk) (fun e k r a' hc hX => w_bring hc hX)
  simp only [qif, if_pos h1, if_pos h2, if_pos h3, if_pos h0_1]
  rw [w1, mqbd, w2, mqbd, w3, Option.bind_some, if_pos rfl, iI_eq0 (by omega) (by omega)]
  by_cases hk : k2 = 0
  · obtain ⟨a', hs⟩ := w6 hk
    have hv : σ4 64 0 = qi2l r := by rw [hs]; exact m64 _ _
    rw [if_pos hk, hv, lcmp_self, iI_no]
    exact hnx σ4 w4
  · rw [if_neg hk]
    exact hnx σ4 w4
theorem w_step {p1 : Int} {σ : qSt} {e k r : Int} {a' : qSt} (hc : (e, k) ∈ ([(0, 0), (2, 1), (3, 2)] : List (Int × Int))) (hX : fX5_step p1 σ = some (e, r, a')) : fL_step p1 σ = some (k, if e = 0 then (fun r s => qset s 64 0 (qi2l r) : Int → qSt → qSt) r a' else a') := by
  unfold fL_step
  rw [hX]
  simp only [List.mem_cons, Prod.mk.injEq, List.not_mem_nil, or_false] at hc
  rcases hc with ⟨rfl, rfl⟩ | ⟨rfl, rfl⟩ | ⟨rfl, rfl⟩ <;> rfl
theorem q_c8 {L : Nat} {xs : Nat → Int32} {nx : Int → qSt → Option Unit} {i t : Int} {σ : qSt} (i0 : 0 ≤ i) (i1 : i + 7 ≤ L) (hnx : ∀ s, J (t + 1) s s → nx (i + 7) s = some ()) (hJ : J t σ σ) : fL_c8 L xs nx i σ = some () := by
  have h1 : 0 ≤ i + 1 ∧ i + 1 < (L : Int) := by omega
  unfold fL_c8
  obtain ⟨k2, σ1, r, σ4, w1, w2, w3, w4, w5, w6⟩ := law1 (codes := [(0, 0), (2, 1), (3, 2)]) (X := fX5_step (qXs xs (i + 1)) σ) (V := fX6_step (qXs xs (i + 1))) (W := fL_step (qXs xs (i + 1)) σ) (st := fun r s => qset s 64 0 (qi2l r)) hJ (fun b hb => p_step hb (isI_xs xs _)) (fun e k h => by simp at h; omega) (fun _ _ _ hk => mset_ne hk) (fun e k r a' hc hX => w_step hc hX)
  simp only [qif, if_pos h1, if_pos h0_1]
  rw [w1, mqbd, w2, mqbd, w3, Option.bind_some, if_pos rfl, iI_eq0 (by omega) (by omega)]
  by_cases hk : k2 = 0
  · obtain ⟨a', hs⟩ := w6 hk
    have hv : σ4 64 0 = qi2l r := by rw [hs]; exact m64 _ _
    rw [if_pos hk, hv, lcmp_self, iI_no]
    exact hnx σ4 w4
  · rw [if_neg hk]
    exact hnx σ4 w4
theorem w_back {p1 : Int} {σ : qSt} {e k r : Int} {a' : qSt} (hc : (e, k) ∈ ([(0, 0), (2, 1), (3, 2)] : List (Int × Int))) (hX : fX5_back p1 σ = some (e, r, a')) : fL_back p1 σ = some (k, if e = 0 then (fun r s => qset s 64 0 (qi2l r) : Int → qSt → qSt) r a' else a') := by
  unfold fL_back
  rw [hX]
  simp only [List.mem_cons, Prod.mk.injEq, List.not_mem_nil, or_false] at hc
  rcases hc with ⟨rfl, rfl⟩ | ⟨rfl, rfl⟩ | ⟨rfl, rfl⟩ <;> rfl
theorem q_c9 {L : Nat} {xs : Nat → Int32} {nx : Int → qSt → Option Unit} {i t : Int} {σ : qSt} (i0 : 0 ≤ i) (i1 : i + 7 ≤ L) (hnx : ∀ s, J (t + 1) s s → nx (i + 7) s = some ()) (hJ : J t σ σ) : fL_c9 L xs nx i σ = some () := by
  have h1 : 0 ≤ i + 1 ∧ i + 1 < (L : Int) := by omega
  unfold fL_c9
  obtain ⟨k2, σ1, r, σ4, w1, w2, w3, w4, w5, w6⟩ := law1 (codes := [(0, 0), (2, 1), (3, 2)]) (X := fX5_back (qXs xs (i + 1)) σ) (V := fX6_back (qXs xs (i + 1))) (W := fL_back (qXs xs (i + 1)) σ) (st := fun r s => qset s 64 0 (qi2l r)) hJ (fun b hb => p_back hb (isI_xs xs _)) (fun e k h => by simp at h; omega) (fun _ _ _ hk => mset_ne hk) (fun e k r a' hc hX => w_back hc hX)
  simp only [qif, if_pos h1, if_pos h0_1]
  rw [w1, mqbd, w2, mqbd, w3, Option.bind_some, if_pos rfl, iI_eq0 (by omega) (by omega)]
  by_cases hk : k2 = 0
  · obtain ⟨a', hs⟩ := w6 hk
    have hv : σ4 64 0 = qi2l r := by rw [hs]; exact m64 _ _
    rw [if_pos hk, hv, lcmp_self, iI_no]
    exact hnx σ4 w4
  · rw [if_neg hk]
    exact hnx σ4 w4
theorem w_flow {p1 : Int} {σ : qSt} {e k r : Int} {a' : qSt} (hc : (e, k) ∈ ([(0, 0), (2, 1)] : List (Int × Int))) (hX : fX5_flow p1 σ = some (e, r, a')) : fL_flow p1 σ = some (k, if e = 0 then (fun r s => qset s 64 0 r : Int → qSt → qSt) r a' else a') := by
  unfold fL_flow
  rw [hX]
  simp only [List.mem_cons, Prod.mk.injEq, List.not_mem_nil, or_false] at hc
  rcases hc with ⟨rfl, rfl⟩ | ⟨rfl, rfl⟩ <;> rfl
theorem q_c10 {L : Nat} {xs : Nat → Int32} {nx : Int → qSt → Option Unit} {i t : Int} {σ : qSt} (i0 : 0 ≤ i) (i1 : i + 7 ≤ L) (hnx : ∀ s, J (t + 1) s s → nx (i + 7) s = some ()) (hJ : J t σ σ) : fL_c10 L xs nx i σ = some () := by
  have h1 : 0 ≤ i + 1 ∧ i + 1 < (L : Int) := by omega
  unfold fL_c10
  obtain ⟨k2, σ1, r, σ4, w1, w2, w3, w4, w5, w6⟩ := law1 (codes := [(0, 0), (2, 1)]) (X := fX5_flow (qXs xs (i + 1)) σ) (V := fX6_flow (qXs xs (i + 1))) (W := fL_flow (qXs xs (i + 1)) σ) (st := fun r s => qset s 64 0 r) hJ (fun b hb => p_flow hb (isI_xs xs _)) (fun e k h => by simp at h; omega) (fun _ _ _ hk => mset_ne hk) (fun e k r a' hc hX => w_flow hc hX)
  simp only [qif, if_pos h1, if_pos h0_1]
  rw [w1, mqbd, w2, mqbd, w3, Option.bind_some, if_pos rfl, iI_eq0 (by omega) (by omega)]
  by_cases hk : k2 = 0
  · obtain ⟨a', hs⟩ := w6 hk
    have hv : σ4 64 0 = r := by rw [hs]; exact m64 _ _
    rw [if_pos hk, hv, lcmp_self, iI_no]
    exact hnx σ4 w4
  · rw [if_neg hk]
    exact hnx σ4 w4
theorem w_cellOf {p1 p2 : Int} {σ : qSt} {e k r : Int} {a' : qSt} (hc : (e, k) ∈ ([(0, 0), (1, 1), (2, 2)] : List (Int × Int))) (hX : fX5_cellOf p1 p2 σ = some (e, r, a')) : fL_cellOf p1 p2 σ = some (k, if e = 0 then (fun r s => qset s 64 0 (qi2l r) : Int → qSt → qSt) r a' else a') := by
  unfold fL_cellOf
  rw [hX]
  simp only [List.mem_cons, Prod.mk.injEq, List.not_mem_nil, or_false] at hc
  rcases hc with ⟨rfl, rfl⟩ | ⟨rfl, rfl⟩ | ⟨rfl, rfl⟩ <;> rfl
theorem q_c11 {L : Nat} {xs : Nat → Int32} {nx : Int → qSt → Option Unit} {i t : Int} {σ : qSt} (i0 : 0 ≤ i) (i1 : i + 7 ≤ L) (hnx : ∀ s, J (t + 1) s s → nx (i + 7) s = some ()) (hJ : J t σ σ) : fL_c11 L xs nx i σ = some () := by
  have h1 : 0 ≤ i + 1 ∧ i + 1 < (L : Int) := by omega
  have h2 : 0 ≤ i + 2 ∧ i + 2 < (L : Int) := by omega
  unfold fL_c11
  obtain ⟨k2, σ1, r, σ4, w1, w2, w3, w4, w5, w6⟩ := law1 (codes := [(0, 0), (1, 1), (2, 2)]) (X := fX5_cellOf (qXs xs (i + 1)) (qXs xs (i + 2)) σ) (V := fX6_cellOf (qXs xs (i + 1)) (qXs xs (i + 2))) (W := fL_cellOf (qXs xs (i + 1)) (qXs xs (i + 2)) σ) (st := fun r s => qset s 64 0 (qi2l r)) hJ (fun b hb => p_cellOf hb (isI_xs xs _) (isI_xs xs _)) (fun e k h => by simp at h; omega) (fun _ _ _ hk => mset_ne hk) (fun e k r a' hc hX => w_cellOf hc hX)
  simp only [qif, if_pos h1, if_pos h2, if_pos h0_1]
  rw [w1, mqbd, w2, mqbd, w3, Option.bind_some, if_pos rfl, iI_eq0 (by omega) (by omega)]
  by_cases hk : k2 = 0
  · obtain ⟨a', hs⟩ := w6 hk
    have hv : σ4 64 0 = qi2l r := by rw [hs]; exact m64 _ _
    rw [if_pos hk, hv, lcmp_self, iI_no]
    exact hnx σ4 w4
  · rw [if_neg hk]
    exact hnx σ4 w4
theorem w_bodyOf {p1 p2 : Int} {σ : qSt} {e k r : Int} {a' : qSt} (hc : (e, k) ∈ ([(0, 0), (1, 1), (2, 2)] : List (Int × Int))) (hX : fX5_bodyOf p1 p2 σ = some (e, r, a')) : fL_bodyOf p1 p2 σ = some (k, if e = 0 then (fun r s => qset s 64 0 (qi2l r) : Int → qSt → qSt) r a' else a') := by
  unfold fL_bodyOf
  rw [hX]
  simp only [List.mem_cons, Prod.mk.injEq, List.not_mem_nil, or_false] at hc
  rcases hc with ⟨rfl, rfl⟩ | ⟨rfl, rfl⟩ | ⟨rfl, rfl⟩ <;> rfl
theorem q_c12 {L : Nat} {xs : Nat → Int32} {nx : Int → qSt → Option Unit} {i t : Int} {σ : qSt} (i0 : 0 ≤ i) (i1 : i + 7 ≤ L) (hnx : ∀ s, J (t + 1) s s → nx (i + 7) s = some ()) (hJ : J t σ σ) : fL_c12 L xs nx i σ = some () := by
  have h1 : 0 ≤ i + 1 ∧ i + 1 < (L : Int) := by omega
  have h2 : 0 ≤ i + 2 ∧ i + 2 < (L : Int) := by omega
  unfold fL_c12
  obtain ⟨k2, σ1, r, σ4, w1, w2, w3, w4, w5, w6⟩ := law1 (codes := [(0, 0), (1, 1), (2, 2)]) (X := fX5_bodyOf (qXs xs (i + 1)) (qXs xs (i + 2)) σ) (V := fX6_bodyOf (qXs xs (i + 1)) (qXs xs (i + 2))) (W := fL_bodyOf (qXs xs (i + 1)) (qXs xs (i + 2)) σ) (st := fun r s => qset s 64 0 (qi2l r)) hJ (fun b hb => p_bodyOf hb (isI_xs xs _) (isI_xs xs _)) (fun e k h => by simp at h; omega) (fun _ _ _ hk => mset_ne hk) (fun e k r a' hc hX => w_bodyOf hc hX)
  simp only [qif, if_pos h1, if_pos h2, if_pos h0_1]
  rw [w1, mqbd, w2, mqbd, w3, Option.bind_some, if_pos rfl, iI_eq0 (by omega) (by omega)]
  by_cases hk : k2 = 0
  · obtain ⟨a', hs⟩ := w6 hk
    have hv : σ4 64 0 = qi2l r := by rw [hs]; exact m64 _ _
    rw [if_pos hk, hv, lcmp_self, iI_no]
    exact hnx σ4 w4
  · rw [if_neg hk]
    exact hnx σ4 w4
theorem w_sum {p1 : Int} {σ : qSt} {e k r : Int} {a' : qSt} (hc : (e, k) ∈ ([(0, 0), (2, 1)] : List (Int × Int))) (hX : fX5_sum p1 σ = some (e, r, a')) : fL_sum p1 σ = some (k, if e = 0 then (fun r s => qset s 64 0 r : Int → qSt → qSt) r a' else a') := by
  unfold fL_sum
  rw [hX]
  simp only [List.mem_cons, Prod.mk.injEq, List.not_mem_nil, or_false] at hc
  rcases hc with ⟨rfl, rfl⟩ | ⟨rfl, rfl⟩ <;> rfl
theorem q_c13 {L : Nat} {xs : Nat → Int32} {nx : Int → qSt → Option Unit} {i t : Int} {σ : qSt} (t0 : 0 ≤ t) (t1 : t ≤ 600) (i0 : 0 ≤ i) (i1 : i + 7 ≤ L) (hnx : ∀ s, J (t + 1) s s → nx (i + 7) s = some ()) (hJ : J t σ σ) : fL_c13 L xs nx i σ = some () := by
  have h1 : 0 ≤ i + 1 ∧ i + 1 < (L : Int) := by omega
  unfold fL_c13
  obtain ⟨k2, σ1, r, σ4, w1, w2, w3, w4, w5, w6⟩ := law1 (codes := [(0, 0), (2, 1)]) (X := fX5_sum (qXs xs (i + 1)) σ) (V := fX6_sum (qXs xs (i + 1))) (W := fL_sum (qXs xs (i + 1)) σ) (st := fun r s => qset s 64 0 r) hJ (fun b hb => p_sum t0 t1 hb (isI_xs xs _)) (fun e k h => by simp at h; omega) (fun _ _ _ hk => mset_ne hk) (fun e k r a' hc hX => w_sum hc hX)
  simp only [qif, if_pos h1, if_pos h0_1]
  rw [w1, mqbd, w2, mqbd, w3, Option.bind_some, if_pos rfl, iI_eq0 (by omega) (by omega)]
  by_cases hk : k2 = 0
  · obtain ⟨a', hs⟩ := w6 hk
    have hv : σ4 64 0 = r := by rw [hs]; exact m64 _ _
    rw [if_pos hk, hv, lcmp_self, iI_no]
    exact hnx σ4 w4
  · rw [if_neg hk]
    exact hnx σ4 w4
theorem w_average {p1 p2 p3 p4 p5 p6 : Int} {σ : qSt} {e k r : Int} {a' : qSt} (hc : (e, k) ∈ ([(0, 0), (2, 1)] : List (Int × Int))) (hX : fX5_average p1 p2 p3 p4 p5 p6 σ = some (e, r, a')) : fL_average p1 p2 p3 p4 p5 p6 σ = some (k, if e = 0 then (fun r s => qset s 64 0 r : Int → qSt → qSt) r a' else a') := by
  unfold fL_average
  rw [hX]
  simp only [List.mem_cons, Prod.mk.injEq, List.not_mem_nil, or_false] at hc
  rcases hc with ⟨rfl, rfl⟩ | ⟨rfl, rfl⟩ <;> rfl
theorem q_c15 {L : Nat} {xs : Nat → Int32} {nx : Int → qSt → Option Unit} {i t : Int} {σ : qSt} (i0 : 0 ≤ i) (i1 : i + 7 ≤ L) (hnx : ∀ s, J (t + 1) s s → nx (i + 7) s = some ()) (hJ : J t σ σ) : fL_c15 L xs nx i σ = some () := by
  have h1 : 0 ≤ i + 1 ∧ i + 1 < (L : Int) := by omega
  have h2 : 0 ≤ i + 2 ∧ i + 2 < (L : Int) := by omega
  have h3 : 0 ≤ i + 3 ∧ i + 3 < (L : Int) := by omega
  have h4 : 0 ≤ i + 4 ∧ i + 4 < (L : Int) := by omega
  have h5 : 0 ≤ i + 5 ∧ i + 5 < (L : Int) := by omega
  have h6 : 0 ≤ i + 6 ∧ i + 6 < (L : Int) := by omega
  unfold fL_c15
  by_cases hC : qI (qXs xs (i + 1)) = 0
  · obtain ⟨k2, σ1, r, σ4, w1, w2, w3, w4, w5, w6⟩ := law1 (codes := [(0, 0), (2, 1)]) (X := fX5_average 0 (qXs xs (i + 2)) (qXs xs (i + 3)) (qXs xs (i + 4)) (qXs xs (i + 5)) (qXs xs (i + 6)) σ) (V := fX6_average 0 (qXs xs (i + 2)) (qXs xs (i + 3)) (qXs xs (i + 4)) (qXs xs (i + 5)) (qXs xs (i + 6))) (W := fL_average 0 (qXs xs (i + 2)) (qXs xs (i + 3)) (qXs xs (i + 4)) (qXs xs (i + 5)) (qXs xs (i + 6)) σ) (st := fun r s => qset s 64 0 r) hJ (fun b hb => p_average hb (isI_of (by omega) (by omega)) (isI_xs xs _) (isI_xs xs _) (isI_xs xs _) (isI_xs xs _) (isI_xs xs _)) (fun e k h => by simp at h; omega) (fun _ _ _ hk => mset_ne hk) (fun e k r a' hc hX => w_average hc hX)
    simp only [qif, if_pos h1, if_pos h2, if_pos h3, if_pos h4, if_pos h5, if_pos h6, if_pos h0_1, if_pos hC]
    rw [w1, mqbd, w2, mqbd, w3, Option.bind_some, if_pos rfl, iI_eq0 (by omega) (by omega)]
    by_cases hk : k2 = 0
    · obtain ⟨a', hs⟩ := w6 hk
      have hv : σ4 64 0 = r := by rw [hs]; exact m64 _ _
      rw [if_pos hk, hv, lcmp_self, iI_no]
      exact hnx σ4 w4
    · rw [if_neg hk]
      exact hnx σ4 w4
  · obtain ⟨k2, σ1, r, σ4, w1, w2, w3, w4, w5, w6⟩ := law1 (codes := [(0, 0), (2, 1)]) (X := fX5_average 1 (qXs xs (i + 2)) (qXs xs (i + 3)) (qXs xs (i + 4)) (qXs xs (i + 5)) (qXs xs (i + 6)) σ) (V := fX6_average 1 (qXs xs (i + 2)) (qXs xs (i + 3)) (qXs xs (i + 4)) (qXs xs (i + 5)) (qXs xs (i + 6))) (W := fL_average 1 (qXs xs (i + 2)) (qXs xs (i + 3)) (qXs xs (i + 4)) (qXs xs (i + 5)) (qXs xs (i + 6)) σ) (st := fun r s => qset s 64 0 r) hJ (fun b hb => p_average hb (isI_of (by omega) (by omega)) (isI_xs xs _) (isI_xs xs _) (isI_xs xs _) (isI_xs xs _) (isI_xs xs _)) (fun e k h => by simp at h; omega) (fun _ _ _ hk => mset_ne hk) (fun e k r a' hc hX => w_average hc hX)
    simp only [qif, if_pos h1, if_pos h2, if_pos h3, if_pos h4, if_pos h5, if_pos h6, if_pos h0_1, if_neg hC]
    rw [w1, mqbd, w2, mqbd, w3, Option.bind_some, if_pos rfl, iI_eq0 (by omega) (by omega)]
    by_cases hk : k2 = 0
    · obtain ⟨a', hs⟩ := w6 hk
      have hv : σ4 64 0 = r := by rw [hs]; exact m64 _ _
      rw [if_pos hk, hv, lcmp_self, iI_no]
      exact hnx σ4 w4
    · rw [if_neg hk]
      exact hnx σ4 w4
theorem w_scatter {p1 p2 p3 p4 p5 p6 : Int} {σ : qSt} {e k r : Int} {a' : qSt} (hc : (e, k) ∈ ([(0, 0), (2, 1)] : List (Int × Int))) (hX : fX5_scatter p1 p2 p3 p4 p5 p6 σ = some (e, r, a')) : fL_scatter p1 p2 p3 p4 p5 p6 σ = some (k, if e = 0 then (fun r s => qset s 64 0 r : Int → qSt → qSt) r a' else a') := by
  unfold fL_scatter
  rw [hX]
  simp only [List.mem_cons, Prod.mk.injEq, List.not_mem_nil, or_false] at hc
  rcases hc with ⟨rfl, rfl⟩ | ⟨rfl, rfl⟩ <;> rfl
theorem q_c16 {L : Nat} {xs : Nat → Int32} {nx : Int → qSt → Option Unit} {i t : Int} {σ : qSt} (i0 : 0 ≤ i) (i1 : i + 7 ≤ L) (hnx : ∀ s, J (t + 1) s s → nx (i + 7) s = some ()) (hJ : J t σ σ) : fL_c16 L xs nx i σ = some () := by
  have h1 : 0 ≤ i + 1 ∧ i + 1 < (L : Int) := by omega
  have h2 : 0 ≤ i + 2 ∧ i + 2 < (L : Int) := by omega
  have h3 : 0 ≤ i + 3 ∧ i + 3 < (L : Int) := by omega
  have h4 : 0 ≤ i + 4 ∧ i + 4 < (L : Int) := by omega
  have h5 : 0 ≤ i + 5 ∧ i + 5 < (L : Int) := by omega
  have h6 : 0 ≤ i + 6 ∧ i + 6 < (L : Int) := by omega
  unfold fL_c16
  by_cases hC : qI (qXs xs (i + 1)) = 0
  · obtain ⟨k2, σ1, r, σ4, w1, w2, w3, w4, w5, w6⟩ := law1 (codes := [(0, 0), (2, 1)]) (X := fX5_scatter 0 (qXs xs (i + 2)) (qXs xs (i + 3)) (qXs xs (i + 4)) (qXs xs (i + 5)) (qXs xs (i + 6)) σ) (V := fX6_scatter 0 (qXs xs (i + 2)) (qXs xs (i + 3)) (qXs xs (i + 4)) (qXs xs (i + 5)) (qXs xs (i + 6))) (W := fL_scatter 0 (qXs xs (i + 2)) (qXs xs (i + 3)) (qXs xs (i + 4)) (qXs xs (i + 5)) (qXs xs (i + 6)) σ) (st := fun r s => qset s 64 0 r) hJ (fun b hb => p_scatter hb (isI_of (by omega) (by omega)) (isI_xs xs _) (isI_xs xs _) (isI_xs xs _) (isI_xs xs _) (isI_xs xs _)) (fun e k h => by simp at h; omega) (fun _ _ _ hk => mset_ne hk) (fun e k r a' hc hX => w_scatter hc hX)
    simp only [qif, if_pos h1, if_pos h2, if_pos h3, if_pos h4, if_pos h5, if_pos h6, if_pos h0_1, if_pos hC]
    rw [w1, mqbd, w2, mqbd, w3, Option.bind_some, if_pos rfl, iI_eq0 (by omega) (by omega)]
    by_cases hk : k2 = 0
    · obtain ⟨a', hs⟩ := w6 hk
      have hv : σ4 64 0 = r := by rw [hs]; exact m64 _ _
      rw [if_pos hk, hv, lcmp_self, iI_no]
      exact hnx σ4 w4
    · rw [if_neg hk]
      exact hnx σ4 w4
  · obtain ⟨k2, σ1, r, σ4, w1, w2, w3, w4, w5, w6⟩ := law1 (codes := [(0, 0), (2, 1)]) (X := fX5_scatter 1 (qXs xs (i + 2)) (qXs xs (i + 3)) (qXs xs (i + 4)) (qXs xs (i + 5)) (qXs xs (i + 6)) σ) (V := fX6_scatter 1 (qXs xs (i + 2)) (qXs xs (i + 3)) (qXs xs (i + 4)) (qXs xs (i + 5)) (qXs xs (i + 6))) (W := fL_scatter 1 (qXs xs (i + 2)) (qXs xs (i + 3)) (qXs xs (i + 4)) (qXs xs (i + 5)) (qXs xs (i + 6)) σ) (st := fun r s => qset s 64 0 r) hJ (fun b hb => p_scatter hb (isI_of (by omega) (by omega)) (isI_xs xs _) (isI_xs xs _) (isI_xs xs _) (isI_xs xs _) (isI_xs xs _)) (fun e k h => by simp at h; omega) (fun _ _ _ hk => mset_ne hk) (fun e k r a' hc hX => w_scatter hc hX)
    simp only [qif, if_pos h1, if_pos h2, if_pos h3, if_pos h4, if_pos h5, if_pos h6, if_pos h0_1, if_neg hC]
    rw [w1, mqbd, w2, mqbd, w3, Option.bind_some, if_pos rfl, iI_eq0 (by omega) (by omega)]
    by_cases hk : k2 = 0
    · obtain ⟨a', hs⟩ := w6 hk
      have hv : σ4 64 0 = r := by rw [hs]; exact m64 _ _
      rw [if_pos hk, hv, lcmp_self, iI_no]
      exact hnx σ4 w4
    · rw [if_neg hk]
      exact hnx σ4 w4
theorem w_ahead {p1 p2 : Int} {σ : qSt} {e k r : Int} {a' : qSt} (hc : (e, k) ∈ ([(0, 0), (1, 1), (2, 2)] : List (Int × Int))) (hX : fX5_ahead p1 p2 σ = some (e, r, a')) : fL_ahead p1 p2 σ = some (k, if e = 0 then (fun r s => qset s 64 0 (qi2l r) : Int → qSt → qSt) r a' else a') := by
  unfold fL_ahead
  rw [hX]
  simp only [List.mem_cons, Prod.mk.injEq, List.not_mem_nil, or_false] at hc
  rcases hc with ⟨rfl, rfl⟩ | ⟨rfl, rfl⟩ | ⟨rfl, rfl⟩ <;> rfl
theorem q_c18 {L : Nat} {xs : Nat → Int32} {nx : Int → qSt → Option Unit} {i t : Int} {σ : qSt} (i0 : 0 ≤ i) (i1 : i + 7 ≤ L) (hnx : ∀ s, J (t + 1) s s → nx (i + 7) s = some ()) (hJ : J t σ σ) : fL_c18 L xs nx i σ = some () := by
  have h1 : 0 ≤ i + 1 ∧ i + 1 < (L : Int) := by omega
  have h2 : 0 ≤ i + 2 ∧ i + 2 < (L : Int) := by omega
  unfold fL_c18
  obtain ⟨k2, σ1, r, σ4, w1, w2, w3, w4, w5, w6⟩ := law1 (codes := [(0, 0), (1, 1), (2, 2)]) (X := fX5_ahead (qXs xs (i + 1)) (qXs xs (i + 2)) σ) (V := fX6_ahead (qXs xs (i + 1)) (qXs xs (i + 2))) (W := fL_ahead (qXs xs (i + 1)) (qXs xs (i + 2)) σ) (st := fun r s => qset s 64 0 (qi2l r)) hJ (fun b hb => p_ahead hb (isI_xs xs _) (isI_xs xs _)) (fun e k h => by simp at h; omega) (fun _ _ _ hk => mset_ne hk) (fun e k r a' hc hX => w_ahead hc hX)
  simp only [qif, if_pos h1, if_pos h2, if_pos h0_1]
  rw [w1, mqbd, w2, mqbd, w3, Option.bind_some, if_pos rfl, iI_eq0 (by omega) (by omega)]
  by_cases hk : k2 = 0
  · obtain ⟨a', hs⟩ := w6 hk
    have hv : σ4 64 0 = qi2l r := by rw [hs]; exact m64 _ _
    rw [if_pos hk, hv, lcmp_self, iI_no]
    exact hnx σ4 w4
  · rw [if_neg hk]
    exact hnx σ4 w4
theorem w_aheadAnew {p1 p2 : Int} {σ : qSt} {e k r : Int} {a' : qSt} (hc : (e, k) ∈ ([(0, 0), (1, 1), (2, 2)] : List (Int × Int))) (hX : fX5_aheadAnew p1 p2 σ = some (e, r, a')) : fL_aheadAnew p1 p2 σ = some (k, if e = 0 then (fun r s => qset s 64 0 (qi2l r) : Int → qSt → qSt) r a' else a') := by
  unfold fL_aheadAnew
  rw [hX]
  simp only [List.mem_cons, Prod.mk.injEq, List.not_mem_nil, or_false] at hc
  rcases hc with ⟨rfl, rfl⟩ | ⟨rfl, rfl⟩ | ⟨rfl, rfl⟩ <;> rfl
theorem q_c19 {L : Nat} {xs : Nat → Int32} {nx : Int → qSt → Option Unit} {i t : Int} {σ : qSt} (i0 : 0 ≤ i) (i1 : i + 7 ≤ L) (hnx : ∀ s, J (t + 1) s s → nx (i + 7) s = some ()) (hJ : J t σ σ) : fL_c19 L xs nx i σ = some () := by
  have h1 : 0 ≤ i + 1 ∧ i + 1 < (L : Int) := by omega
  have h2 : 0 ≤ i + 2 ∧ i + 2 < (L : Int) := by omega
  unfold fL_c19
  obtain ⟨k2, σ1, r, σ4, w1, w2, w3, w4, w5, w6⟩ := law1 (codes := [(0, 0), (1, 1), (2, 2)]) (X := fX5_aheadAnew (qXs xs (i + 1)) (qXs xs (i + 2)) σ) (V := fX6_aheadAnew (qXs xs (i + 1)) (qXs xs (i + 2))) (W := fL_aheadAnew (qXs xs (i + 1)) (qXs xs (i + 2)) σ) (st := fun r s => qset s 64 0 (qi2l r)) hJ (fun b hb => p_aheadAnew hb (isI_xs xs _) (isI_xs xs _)) (fun e k h => by simp at h; omega) (fun _ _ _ hk => mset_ne hk) (fun e k r a' hc hX => w_aheadAnew hc hX)
  simp only [qif, if_pos h1, if_pos h2, if_pos h0_1]
  rw [w1, mqbd, w2, mqbd, w3, Option.bind_some, if_pos rfl, iI_eq0 (by omega) (by omega)]
  by_cases hk : k2 = 0
  · obtain ⟨a', hs⟩ := w6 hk
    have hv : σ4 64 0 = qi2l r := by rw [hs]; exact m64 _ _
    rw [if_pos hk, hv, lcmp_self, iI_no]
    exact hnx σ4 w4
  · rw [if_neg hk]
    exact hnx σ4 w4
theorem w_mixed {p1 : Int} {σ : qSt} {e k r : Int} {a' : qSt} (hc : (e, k) ∈ ([(0, 0), (2, 1)] : List (Int × Int))) (hX : fX5_mixed p1 σ = some (e, r, a')) : fL_mixed p1 σ = some (k, if e = 0 then (fun r s => qset s 64 0 r : Int → qSt → qSt) r a' else a') := by
  unfold fL_mixed
  rw [hX]
  simp only [List.mem_cons, Prod.mk.injEq, List.not_mem_nil, or_false] at hc
  rcases hc with ⟨rfl, rfl⟩ | ⟨rfl, rfl⟩ <;> rfl
theorem q_c20 {L : Nat} {xs : Nat → Int32} {nx : Int → qSt → Option Unit} {i t : Int} {σ : qSt} (i0 : 0 ≤ i) (i1 : i + 7 ≤ L) (hnx : ∀ s, J (t + 1) s s → nx (i + 7) s = some ()) (hJ : J t σ σ) : fL_c20 L xs nx i σ = some () := by
  have h1 : 0 ≤ i + 1 ∧ i + 1 < (L : Int) := by omega
  unfold fL_c20
  obtain ⟨k2, σ1, r, σ4, w1, w2, w3, w4, w5, w6⟩ := law1 (codes := [(0, 0), (2, 1)]) (X := fX5_mixed (qXs xs (i + 1)) σ) (V := fX6_mixed (qXs xs (i + 1))) (W := fL_mixed (qXs xs (i + 1)) σ) (st := fun r s => qset s 64 0 r) hJ (fun b hb => p_mixed hb (isI_xs xs _)) (fun e k h => by simp at h; omega) (fun _ _ _ hk => mset_ne hk) (fun e k r a' hc hX => w_mixed hc hX)
  simp only [qif, if_pos h1, if_pos h0_1]
  rw [w1, mqbd, w2, mqbd, w3, Option.bind_some, if_pos rfl, iI_eq0 (by omega) (by omega)]
  by_cases hk : k2 = 0
  · obtain ⟨a', hs⟩ := w6 hk
    have hv : σ4 64 0 = r := by rw [hs]; exact m64 _ _
    rw [if_pos hk, hv, lcmp_self, iI_no]
    exact hnx σ4 w4
  · rw [if_neg hk]
    exact hnx σ4 w4
theorem w_record {p1 p2 : Int} {σ : qSt} {e k r : Int} {a' : qSt} (hc : (e, k) ∈ ([(0, 0), (1, 1)] : List (Int × Int))) (hX : fX5_record p1 p2 σ = some (e, r, a')) : fL_record p1 p2 σ = some (k, if e = 0 then (fun r s => qset s 64 0 (qi2l r) : Int → qSt → qSt) r a' else a') := by
  unfold fL_record
  rw [hX]
  simp only [List.mem_cons, Prod.mk.injEq, List.not_mem_nil, or_false] at hc
  rcases hc with ⟨rfl, rfl⟩ | ⟨rfl, rfl⟩ <;> rfl
theorem q_c21 {L : Nat} {xs : Nat → Int32} {nx : Int → qSt → Option Unit} {i t : Int} {σ : qSt} (i0 : 0 ≤ i) (i1 : i + 7 ≤ L) (hnx : ∀ s, J (t + 1) s s → nx (i + 7) s = some ()) (hJ : J t σ σ) : fL_c21 L xs nx i σ = some () := by
  have h1 : 0 ≤ i + 1 ∧ i + 1 < (L : Int) := by omega
  have h2 : 0 ≤ i + 2 ∧ i + 2 < (L : Int) := by omega
  unfold fL_c21
  obtain ⟨k2, σ1, r, σ4, w1, w2, w3, w4, w5, w6⟩ := law1 (codes := [(0, 0), (1, 1)]) (X := fX5_record (qXs xs (i + 1)) (qXs xs (i + 2)) σ) (V := fX6_record (qXs xs (i + 1)) (qXs xs (i + 2))) (W := fL_record (qXs xs (i + 1)) (qXs xs (i + 2)) σ) (st := fun r s => qset s 64 0 (qi2l r)) hJ (fun b hb => p_record hb (isI_xs xs _) (isI_xs xs _)) (fun e k h => by simp at h; omega) (fun _ _ _ hk => mset_ne hk) (fun e k r a' hc hX => w_record hc hX)
  simp only [qif, if_pos h1, if_pos h2, if_pos h0_1]
  rw [w1, mqbd, w2, mqbd, w3, Option.bind_some, if_pos rfl, iI_eq0 (by omega) (by omega)]
  by_cases hk : k2 = 0
  · obtain ⟨a', hs⟩ := w6 hk
    have hv : σ4 64 0 = qi2l r := by rw [hs]; exact m64 _ _
    rw [if_pos hk, hv, lcmp_self, iI_no]
    exact hnx σ4 w4
  · rw [if_neg hk]
    exact hnx σ4 w4
theorem w_beat {p1 : Int} {σ : qSt} {e k r : Int} {a' : qSt} (hc : (e, k) ∈ ([(0, 0), (1, 1)] : List (Int × Int))) (hX : fX5_beat p1 σ = some (e, r, a')) : fL_beat p1 σ = some (k, if e = 0 then (fun r s => qset s 64 0 (qi2l r) : Int → qSt → qSt) r a' else a') := by
  unfold fL_beat
  rw [hX]
  simp only [List.mem_cons, Prod.mk.injEq, List.not_mem_nil, or_false] at hc
  rcases hc with ⟨rfl, rfl⟩ | ⟨rfl, rfl⟩ <;> rfl
theorem q_c22 {L : Nat} {xs : Nat → Int32} {nx : Int → qSt → Option Unit} {i t : Int} {σ : qSt} (i0 : 0 ≤ i) (i1 : i + 7 ≤ L) (hnx : ∀ s, J (t + 1) s s → nx (i + 7) s = some ()) (hJ : J t σ σ) : fL_c22 L xs nx i σ = some () := by
  have h1 : 0 ≤ i + 1 ∧ i + 1 < (L : Int) := by omega
  unfold fL_c22
  obtain ⟨k2, σ1, r, σ4, w1, w2, w3, w4, w5, w6⟩ := law1 (codes := [(0, 0), (1, 1)]) (X := fX5_beat (qXs xs (i + 1)) σ) (V := fX6_beat (qXs xs (i + 1))) (W := fL_beat (qXs xs (i + 1)) σ) (st := fun r s => qset s 64 0 (qi2l r)) hJ (fun b hb => p_beat hb (isI_xs xs _)) (fun e k h => by simp at h; omega) (fun _ _ _ hk => mset_ne hk) (fun e k r a' hc hX => w_beat hc hX)
  simp only [qif, if_pos h1, if_pos h0_1]
  rw [w1, mqbd, w2, mqbd, w3, Option.bind_some, if_pos rfl, iI_eq0 (by omega) (by omega)]
  by_cases hk : k2 = 0
  · obtain ⟨a', hs⟩ := w6 hk
    have hv : σ4 64 0 = qi2l r := by rw [hs]; exact m64 _ _
    rw [if_pos hk, hv, lcmp_self, iI_no]
    exact hnx σ4 w4
  · rw [if_neg hk]
    exact hnx σ4 w4
theorem w_better {p1 p2 : Int} {σ : qSt} {e k r : Int} {a' : qSt} (hc : (e, k) ∈ ([(0, 0), (1, 1), (2, 2)] : List (Int × Int))) (hX : fX5_better p1 p2 σ = some (e, r, a')) : fL_better p1 p2 σ = some (k, if e = 0 then (fun r s => qset s 64 0 (qi2l r) : Int → qSt → qSt) r a' else a') := by
  unfold fL_better
  rw [hX]
  simp only [List.mem_cons, Prod.mk.injEq, List.not_mem_nil, or_false] at hc
  rcases hc with ⟨rfl, rfl⟩ | ⟨rfl, rfl⟩ | ⟨rfl, rfl⟩ <;> rfl
theorem q_c23 {L : Nat} {xs : Nat → Int32} {nx : Int → qSt → Option Unit} {i t : Int} {σ : qSt} (i0 : 0 ≤ i) (i1 : i + 7 ≤ L) (hnx : ∀ s, J (t + 1) s s → nx (i + 7) s = some ()) (hJ : J t σ σ) : fL_c23 L xs nx i σ = some () := by
  have h1 : 0 ≤ i + 1 ∧ i + 1 < (L : Int) := by omega
  have h2 : 0 ≤ i + 2 ∧ i + 2 < (L : Int) := by omega
  unfold fL_c23
  obtain ⟨k2, σ1, r, σ4, w1, w2, w3, w4, w5, w6⟩ := law1 (codes := [(0, 0), (1, 1), (2, 2)]) (X := fX5_better (qXs xs (i + 1)) (qXs xs (i + 2)) σ) (V := fX6_better (qXs xs (i + 1)) (qXs xs (i + 2))) (W := fL_better (qXs xs (i + 1)) (qXs xs (i + 2)) σ) (st := fun r s => qset s 64 0 (qi2l r)) hJ (fun b hb => p_better hb (isI_xs xs _) (isI_xs xs _)) (fun e k h => by simp at h; omega) (fun _ _ _ hk => mset_ne hk) (fun e k r a' hc hX => w_better hc hX)
  simp only [qif, if_pos h1, if_pos h2, if_pos h0_1]
  rw [w1, mqbd, w2, mqbd, w3, Option.bind_some, if_pos rfl, iI_eq0 (by omega) (by omega)]
  by_cases hk : k2 = 0
  · obtain ⟨a', hs⟩ := w6 hk
    have hv : σ4 64 0 = qi2l r := by rw [hs]; exact m64 _ _
    rw [if_pos hk, hv, lcmp_self, iI_no]
    exact hnx σ4 w4
  · rw [if_neg hk]
    exact hnx σ4 w4
