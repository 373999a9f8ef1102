theorem m_plain {σ : qSt} {x y : Int} (h0 : 0 ≤ x) (h1 : x ≤ 15) (g0 : 0 ≤ y) (g1 : y ≤ 15) (hs : ∀ w, 0 ≤ w → w < 4 → bt y w ≤ bt x w) : fJ6_bitCount_0f7a4 σ (qand x (qxor y (-1))) = some (btc x - btc y) := by
  obtain ⟨n, rfl⟩ := f16 h0 h1
  obtain ⟨m, rfl⟩ := f16 g0 g1
  exact (by decide +kernel : ∀ (n m : Fin 16), (bt (m.val : Int) 0 ≤ bt (n.val : Int) 0 ∧ bt (m.val : Int) 1 ≤ bt (n.val : Int) 1 ∧ bt (m.val : Int) 2 ≤ bt (n.val : Int) 2 ∧ bt (m.val : Int) 3 ≤ bt (n.val : Int) 3) → fJ6_bitCount_0f7a4 (fun _ _ => 0) (qand (n.val : Int) (qxor (m.val : Int) (-1))) = some (btc (n.val : Int) - btc (m.val : Int))) n m ⟨hs 0 (by omega) (by omega), hs 1 (by omega) (by omega), hs 2 (by omega) (by omega), hs 3 (by omega) (by omega)⟩
