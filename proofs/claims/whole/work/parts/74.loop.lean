theorem q_c14 {L : Nat} {xs : Nat → Int32} {nx : Int → qSt → Option Unit} {i t : Int} {σ : qSt} (t0 : 0 ≤ t) (t1 : t ≤ 600) (i0 : 0 ≤ i) (i1 : i + 7 ≤ L) (hnx : ∀ s, J (t + 1) s s → nx (i + 7) s = some ()) (hJ : J t σ σ) : fL_c14 L xs nx i σ = some () := by
  have h1 : 0 ≤ i + 1 ∧ i + 1 < (L : Int) := by omega
  have hJ2 : J (t + 1) (qset σ 47 0 0) (qset σ 47 0 0) := (hJ.keep (t' := t + 1) (by omega) (keepA.rf σ) (keepB.ref σ 0)).next (by omega) (fun k hk => mset_ne (by omega)) (fun k _ _ => rfl)
  have l0 := m_left t0 t1 hJ (k := 0) (isI_of (by omega) (by omega))
  have l1 := m_left t0 t1 hJ (k := 1) (isI_of (by omega) (by omega))
  unfold fL_c14 fX6_left
  rw [l0, l1]
  simp only [qif, if_pos h1, mqb, mqbd, Option.bind_some]
  by_cases hC : qI (qXs xs (i + 1)) = 0
  · rw [if_pos hC, if_pos hC, lcmp_self, iI_no]
    exact hnx _ hJ2
  · rw [if_neg hC, if_neg hC, lcmp_self, iI_no]
    exact hnx _ hJ2
theorem f2d_ok {x : UInt32} (h : x.toNat % 2147483648 ≤ 2139095040) : FP.f2d x &&& 0x7fffffffffffffff ≤ 0x7ff0000000000000 ∧ FP.dcmp (FP.f2d x) (FP.f2d x) = some .eq := by
  have hn : FP.Core.fIsNaN x = false := by
    rw [Bool.eq_false_iff]
    intro h2
    rw [FP.Core.isNaN_bits32] at h2
    omega
  have e2 : FP.f2d x = FP.Core.f2d x := by unfold FP.f2d; rw [hn]; rfl
  have hd : FP.Core.dIsNaN (FP.Core.f2d x) = false := FP.Core.f2d_out hn
  rw [e2]
  refine ⟨nn64 ?_, FP.Core.dcmp_self ((FP.Core.notNaN_iff _).mp hd)⟩
  have h3 : ¬ 9218868437227405312 < (FP.Core.f2d x).toNat % 2 ^ 63 := fun h4 => by
    rw [← FP.Core.isNaN_bits, hd] at h4
    cases h4
  omega
theorem u32_back (x : UInt32) : UInt32.ofNat ((x.toNat : Int)).toNat = x := by
  rw [Int.toNat_natCast, UInt32.ofNat_toNat]
theorem m65 (s : qSt) (x : UInt64) : qDb (qset s 65 0 (x.toNat : Int) 65 0) = x := by
  rw [mset_same]
  show qDb (if (0 : Int) = 0 then (x.toNat : Int) else s 65 0) = x
  rw [if_pos rfl]
  unfold qDb
  rw [Int.toNat_natCast, UInt64.ofNat_toNat]
theorem q_c17 {L : Nat} {xs : Nat → Int32} {nx : Int → qSt → Option Unit} {i t : Int} {σ : qSt} (i0 : 0 ≤ i) (i1 : i + 7 ≤ L) (hnx : ∀ s, J (t + 1) s s → nx (i + 7) s = some ()) (hJ : J t σ σ) : fL_c17 L xs nx i σ = some () := by
  have h1 : 0 ≤ i + 1 ∧ i + 1 < (L : Int) := by omega
  have h2 : 0 ≤ i + 2 ∧ i + 2 < (L : Int) := by omega
  have h3 : 0 ≤ i + 3 ∧ i + 3 < (L : Int) := by omega
  have h4 : 0 ≤ i + 4 ∧ i + 4 < (L : Int) := by omega
  have H : ∀ b, J t σ b → PF [(0, 0), (2, 1)] t σ b (fX5_likeness (qXs xs (i + 1)) (qXs xs (i + 2)) (qXs xs (i + 3)) (qXs xs (i + 4)) σ) (fX6_likeness (qXs xs (i + 1)) (qXs xs (i + 2)) (qXs xs (i + 3)) (qXs xs (i + 4)) b) := fun b hb => p_likeness hb (isI_xs xs _) (isI_xs xs _) (isI_xs xs _) (isI_xs xs _)
  obtain ⟨e, r, a', r', b', hX, hV, hc, hr, hJ', fa, fb⟩ := H σ hJ
  have go : ∀ σ1 : qSt, (∀ k, k ≠ 65 → σ1 k = a' k) → ∃ r2 b2, fX6_likeness (qXs xs (i + 1)) (qXs xs (i + 2)) (qXs xs (i + 3)) (qXs xs (i + 4)) σ1 = some (r2, b2) ∧ (e, b2 47 0) ∈ ([(0, 0), (2, 1)] : List (Int × Int)) ∧ (e = 0 → r2 = r) ∧ J (t + 1) b2 b2 ∧ b2 65 = σ1 65 := fun σ1 f1 => by
    have hJ1 : J t σ σ1 := hJ.keep (by omega) (keepA.rf σ) ⟨fun j _ _ _ _ _ => by rw [f1 47 (by omega), fa 47 (by omega) (by omega)], fun k hk => by rw [f1 k (by omega), fa k (by omega) (by omega)]⟩
    obtain ⟨e2, r2, a2, r3, b2, hX2, hV2, hc2, hr2, hJ2, fa2, fb2⟩ := H σ1 hJ1
    obtain ⟨g1, g2⟩ := Prod.mk.inj (Option.some.inj (hX.symm.trans hX2))
    obtain ⟨g2, g3⟩ := Prod.mk.inj g2
    subst g1 g2 g3
    exact ⟨r3, b2, hV2, hc2, fun h0 => (hr2 h0).1.symm, hJ2.next (by omega) (fun k hk => by rw [fb2 k (by omega), f1 k (by omega)]) (fun k _ _ => rfl), fb2 65 (by omega)⟩
  unfold fL_c17 fL_likeness
  rw [hX]
  simp only [qif, if_pos h1, if_pos h2, if_pos h3, if_pos h4, if_pos h0_1, mqbx]
  simp only [List.mem_cons, Prod.mk.injEq, List.not_mem_nil, or_false] at hc
  rcases hc with ⟨rfl, hc⟩ | ⟨rfl, hc⟩
  · obtain ⟨hrr, x, hx, hxo⟩ := hr rfl
    obtain ⟨o1, o2⟩ := f2d_ok hxo
    obtain ⟨r2, b2, g1, g2, g3, g4, g5⟩ := go (qset a' 65 0 ((FP.f2d x).toNat : Int)) (fun k hk => mset_ne hk)
    have hk : b2 47 0 = 0 := by simp at g2; omega
    rw [hx, u32_back, if_pos (show (0 : Int) = 0 from rfl), if_pos o1, mqb, mqbd, g1, mqbd]
    unfold fX6_thrown
    rw [Option.bind_some, hk, if_pos rfl, if_pos (show qI 0 = 0 from rfl), g3 rfl, hx, u32_back, if_pos o1, g5, m65, o2]
    rw [if_pos (show qI ((Op.cmpValue (some .eq) .l).toInt) = 0 from by decide +kernel)]
    exact hnx _ g4
  · obtain ⟨r2, b2, g1, g2, g3, g4, g5⟩ := go a' (fun k hk => rfl)
    have hk : b2 47 0 = 1 := by simp at g2; omega
    rw [if_neg (show ¬ (2 : Int) = 0 by omega), if_neg (show ¬ (2 : Int) = 1 by omega), if_pos (show (2 : Int) = 2 from rfl), mqbd, g1, mqbd]
    unfold fX6_thrown
    rw [Option.bind_some, hk, if_pos rfl, if_neg (show ¬ qI 1 = 0 by rw [mI_eq0] <;> omega)]
    exact hnx _ g4
theorem ite_ok {c : Prop} [Decidable c] {X Y z : Option Unit} (h1 : c → X = z) (h2 : ¬ c → Y = z) : (if c then X else Y) = z := by
  by_cases h : c
  · rw [if_pos h]; exact h1 h
  · rw [if_neg h]; exact h2 h
theorem q_loop {L : Nat} {xs : Nat → Int32} (hL : L ≤ 3584) : ∀ (f : Nat) (t i : Int) (σ : qSt), t + f = 600 → i = 7 * t → 0 ≤ t → i ≤ 3584 → J t σ σ → fL_loop L xs f i σ = some () := by
  intro f
  induction f with
  | zero => intro t i σ h1 h2 h3 h4 _; omega
  | succ f ih =>
    intro t i σ h1 h2 h3 h4 hJ
    rw [fL_loop, iI_lt (by omega) (by omega) (by omega) (by omega)]
    by_cases hi : (L : Int) - 7 < i
    · rw [if_pos hi]
    · rw [if_neg hi, mqif _ ⟨by omega, by omega⟩]
      have i0 : 0 ≤ i := by omega
      have i1 : i + 7 ≤ L := by omega
      have hnx : ∀ s, J (t + 1) s s → fL_loop L xs f (i + 7) s = some () := fun s hs => ih (t + 1) (i + 7) s (by omega) (by omega) (by omega) (by omega) hs
      refine ite_ok (fun _ => q_c0 i0 i1 hnx hJ) (fun _ => ?_)
      refine ite_ok (fun _ => q_c1 i0 i1 hnx hJ) (fun _ => ?_)
      refine ite_ok (fun _ => q_c2 i0 i1 hnx hJ) (fun _ => ?_)
      refine ite_ok (fun _ => q_c3 i0 i1 hnx hJ) (fun _ => ?_)
      refine ite_ok (fun _ => q_c4 i0 i1 hnx hJ) (fun _ => ?_)
      refine ite_ok (fun _ => q_c5 i0 i1 hnx hJ) (fun _ => ?_)
      refine ite_ok (fun _ => q_c6 i0 i1 hnx hJ) (fun _ => ?_)
      refine ite_ok (fun _ => q_c7 i0 i1 hnx hJ) (fun _ => ?_)
      refine ite_ok (fun _ => q_c8 i0 i1 hnx hJ) (fun _ => ?_)
      refine ite_ok (fun _ => q_c9 i0 i1 hnx hJ) (fun _ => ?_)
      refine ite_ok (fun _ => q_c10 i0 i1 hnx hJ) (fun _ => ?_)
      refine ite_ok (fun _ => q_c11 i0 i1 hnx hJ) (fun _ => ?_)
      refine ite_ok (fun _ => q_c12 i0 i1 hnx hJ) (fun _ => ?_)
      refine ite_ok (fun _ => q_c13 h3 (by omega) i0 i1 hnx hJ) (fun _ => ?_)
      refine ite_ok (fun _ => q_c14 h3 (by omega) i0 i1 hnx hJ) (fun _ => ?_)
      refine ite_ok (fun _ => q_c15 i0 i1 hnx hJ) (fun _ => ?_)
      refine ite_ok (fun _ => q_c16 i0 i1 hnx hJ) (fun _ => ?_)
      refine ite_ok (fun _ => q_c17 i0 i1 hnx hJ) (fun _ => ?_)
      refine ite_ok (fun _ => q_c18 i0 i1 hnx hJ) (fun _ => ?_)
      refine ite_ok (fun _ => q_c19 i0 i1 hnx hJ) (fun _ => ?_)
      refine ite_ok (fun _ => q_c20 i0 i1 hnx hJ) (fun _ => ?_)
      refine ite_ok (fun _ => q_c21 i0 i1 hnx hJ) (fun _ => ?_)
      refine ite_ok (fun _ => q_c22 i0 i1 hnx hJ) (fun _ => ?_)
      refine ite_ok (fun _ => q_c23 i0 i1 hnx hJ) (fun _ => ?_)
      exact hnx σ (hJ.keep (by omega) (keepA.rf σ) (keepB.rf σ))
