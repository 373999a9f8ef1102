/-! ===== the mathematics: numbers in range, bits, loops ===== -/
theorem mI_lt {a b : Int} (h1 : -2147483648 ≤ a) (h2 : a ≤ 2147483647) (h3 : -2147483648 ≤ b) (h4 : b ≤ 2147483647) : (qI a < qI b) = (a < b) := by
  rw [Int32.lt_iff_toInt_lt, qI_of h1 (by omega), qI_of h3 (by omega)]
theorem mI_le {a b : Int} (h1 : -2147483648 ≤ a) (h2 : a ≤ 2147483647) (h3 : -2147483648 ≤ b) (h4 : b ≤ 2147483647) : (qI a ≤ qI b) = (a ≤ b) := by
  rw [Int32.le_iff_toInt_le, qI_of h1 (by omega), qI_of h3 (by omega)]
theorem mI_eq {a b : Int} (h1 : -2147483648 ≤ a) (h2 : a ≤ 2147483647) (h3 : -2147483648 ≤ b) (h4 : b ≤ 2147483647) : (qI a = qI b) = (a = b) :=
  propext ⟨fun h => by
    have h5 := congrArg Int32.toInt h
    rw [qI_of h1 (by omega), qI_of h3 (by omega)] at h5
    exact h5, fun h => by rw [h]⟩
theorem mI_eq0 {a : Int} (h1 : -2147483648 ≤ a) (h2 : a ≤ 2147483647) : (qI a = 0) = (a = 0) := mI_eq (b := 0) h1 h2 (by omega) (by omega)
theorem mI_lt0 {a : Int} (h1 : -2147483648 ≤ a) (h2 : a ≤ 2147483647) : (qI a < 0) = (a < 0) := mI_lt (b := 0) h1 h2 (by omega) (by omega)
theorem mI_le0 {a : Int} (h1 : -2147483648 ≤ a) (h2 : a ≤ 2147483647) : (qI a ≤ 0) = (a ≤ 0) := mI_le (b := 0) h1 h2 (by omega) (by omega)
theorem mI_0lt {a : Int} (h1 : -2147483648 ≤ a) (h2 : a ≤ 2147483647) : (0 < qI a) = (0 < a) := mI_lt (a := 0) (by omega) (by omega) h1 h2
theorem mI_0le {a : Int} (h1 : -2147483648 ≤ a) (h2 : a ≤ 2147483647) : (0 ≤ qI a) = (0 ≤ a) := mI_le (a := 0) (by omega) (by omega) h1 h2
theorem iI_c {α : Type} {c d : Prop} [Decidable c] [Decidable d] (h : c = d) (x y : α) : (if c then x else y) = if d then x else y := by
  subst h
  congr
theorem iI_lt {α : Type} {a b : Int} (h1 : -2147483648 ≤ a) (h2 : a ≤ 2147483647) (h3 : -2147483648 ≤ b) (h4 : b ≤ 2147483647) (x y : α) : (if qI a < qI b then x else y) = if a < b then x else y := iI_c (mI_lt h1 h2 h3 h4) x y
theorem iI_le {α : Type} {a b : Int} (h1 : -2147483648 ≤ a) (h2 : a ≤ 2147483647) (h3 : -2147483648 ≤ b) (h4 : b ≤ 2147483647) (x y : α) : (if qI a ≤ qI b then x else y) = if a ≤ b then x else y := iI_c (mI_le h1 h2 h3 h4) x y
theorem iI_eq {α : Type} {a b : Int} (h1 : -2147483648 ≤ a) (h2 : a ≤ 2147483647) (h3 : -2147483648 ≤ b) (h4 : b ≤ 2147483647) (x y : α) : (if qI a = qI b then x else y) = if a = b then x else y := iI_c (mI_eq h1 h2 h3 h4) x y
theorem iI_eq0 {α : Type} {a : Int} (h1 : -2147483648 ≤ a) (h2 : a ≤ 2147483647) (x y : α) : (if qI a = 0 then x else y) = if a = 0 then x else y := iI_c (mI_eq0 h1 h2) x y
theorem iI_lt0 {α : Type} {a : Int} (h1 : -2147483648 ≤ a) (h2 : a ≤ 2147483647) (x y : α) : (if qI a < 0 then x else y) = if a < 0 then x else y := iI_c (mI_lt0 h1 h2) x y
theorem iI_le0 {α : Type} {a : Int} (h1 : -2147483648 ≤ a) (h2 : a ≤ 2147483647) (x y : α) : (if qI a ≤ 0 then x else y) = if a ≤ 0 then x else y := iI_c (mI_le0 h1 h2) x y
theorem iI_0lt {α : Type} {a : Int} (h1 : -2147483648 ≤ a) (h2 : a ≤ 2147483647) (x y : α) : (if 0 < qI a then x else y) = if 0 < a then x else y := iI_c (mI_0lt h1 h2) x y
theorem iI_0le {α : Type} {a : Int} (h1 : -2147483648 ≤ a) (h2 : a ≤ 2147483647) (x y : α) : (if 0 ≤ qI a then x else y) = if 0 ≤ a then x else y := iI_c (mI_0le h1 h2) x y
theorem iI_no {α : Type} (x y : α) : (if qI 0 = 0 then x else y) = x := if_pos rfl
theorem iI_yes {α : Type} (x y : α) : (if qI 1 = 0 then x else y) = y := if_neg (by rw [mI_eq0] <;> omega)
theorem mJ_eq {a b : Int} (h1 : -9223372036854775808 ≤ a) (h2 : a ≤ 9223372036854775807) (h3 : -9223372036854775808 ≤ b) (h4 : b ≤ 9223372036854775807) : (qJ a = qJ b) = (a = b) :=
  propext ⟨fun h => by
    have h5 := congrArg Int64.toInt h
    rw [qJ_of h1 (by omega), qJ_of h3 (by omega)] at h5
    exact h5, fun h => by rw [h]⟩
theorem mJ_eq0 {a : Int} (h1 : -9223372036854775808 ≤ a) (h2 : a ≤ 9223372036854775807) : (qJ a = 0) = (a = 0) := mJ_eq (b := 0) h1 h2 (by omega) (by omega)
theorem m_i2l {a : Int} (h1 : -2147483648 ≤ a) (h2 : a ≤ 2147483647) : qi2l a = a := by
  unfold qi2l
  rw [Int32.toInt_toInt64]
  exact qI_of h1 (by omega)
theorem m_i2l_range (a : Int) : -2147483648 ≤ qi2l a ∧ qi2l a ≤ 2147483647 := by
  unfold qi2l
  rw [Int32.toInt_toInt64]
  have h1 := Int32.le_toInt (qI a)
  have h2 := Int32.toInt_lt (qI a)
  exact ⟨by omega, by omega⟩
theorem mqb {A B : Type} (x : A) (f : A → B) : qb x f = f x := rfl
theorem mqbd {Y : Type} (r : Int) (σ : qSt) (f : Int → qSt → Option Y) : qbd (some (r, σ)) f = f r σ := rfl
theorem mqbx {Y : Type} (e r : Int) (σ : qSt) (f : Int → Int → qSt → Option Y) : qbx (some (e, r, σ)) f = f e r σ := rfl
theorem mqif {Y : Type} {c : Prop} [Decidable c] (F : Option Y) (h : c) : qif c F = F := if_pos h
theorem mset_same (σ : qSt) (k : Nat) (j v : Int) : qset σ k j v k = fun j' => if j' = j then v else σ k j' := by unfold qset; rw [if_pos rfl]
theorem mset_ne {σ : qSt} {k k' : Nat} {j v : Int} (h : k' ≠ k) : qset σ k j v k' = σ k' := by unfold qset; rw [if_neg h]
theorem mrow_ne {σ : qSt} {k k' : Nat} {r : Int → Int} (h : k' ≠ k) : qrow σ k r k' = σ k' := by unfold qrow; rw [if_neg h]
/-- a loop, by what holds at its head -/
theorem mloopG {S Z : Type} (P : Int → S → Prop) (F : Nat → Int → S → Option Z) (R : S → Option Z) (N : Int) (h0 : ∀ f s, P N s → F (f + 1) N s = R s) (hs : ∀ f i s, 0 ≤ i → i < N → P i s → ∃ s1, F (f + 1) i s = F f (i + 1) s1 ∧ P (i + 1) s1) : ∀ (n f : Nat) (i : Int) (s : S), i + n = N → n < f → 0 ≤ i → P i s → ∃ s', F f i s = R s' ∧ P N s' := by
  intro n
  induction n with
  | zero =>
    intro f i s h1 h2 h3 h4
    obtain ⟨f, rfl⟩ : ∃ f', f = f' + 1 := ⟨f - 1, by omega⟩
    have e : i = N := by omega
    subst e
    exact ⟨s, h0 f s h4, h4⟩
  | succ n ih =>
    intro f i s h1 h2 h3 h4
    obtain ⟨f, rfl⟩ : ∃ f', f = f' + 1 := ⟨f - 1, by omega⟩
    obtain ⟨s1, e1, p1⟩ := hs f i s h3 (by omega) h4
    obtain ⟨s2, e2, p2⟩ := ih f (i + 1) s1 (by omega) (by omega) (by omega) p1
    exact ⟨s2, e1.trans e2, p2⟩
theorem mloop {S Z : Type} (P : Int → S → Prop) (F : Nat → Int → S → Option Z) (R : S → Option Z) (N : Int) (hN : 0 ≤ N) (hN9 : N < 100000) (h0 : ∀ f s, P N s → F (f + 1) N s = R s) (hs : ∀ f i s, 0 ≤ i → i < N → P i s → ∃ s1, F (f + 1) i s = F f (i + 1) s1 ∧ P (i + 1) s1) {s : S} (hP : P 0 s) : ∃ s', F qFU 0 s = R s' ∧ P N s' :=
  mloopG P F R N h0 hs N.toNat qFU 0 s (by omega) (by unfold qFU; omega) (by omega) hP
/-- a loop that may end early -/
theorem mloopX {S Z : Type} (P : Int → S → Prop) (F : Nat → Int → S → Option Z) (R : S → Option Z) (Q : Z → Prop) (N : Int) (hN : 0 ≤ N) (hN9 : N < 100000) (h0 : ∀ f s, P N s → F (f + 1) N s = R s) (hs : ∀ f i s, 0 ≤ i → i < N → P i s → (∃ s1, F (f + 1) i s = F f (i + 1) s1 ∧ P (i + 1) s1) ∨ ∃ z, F (f + 1) i s = some z ∧ Q z) {s : S} (hP : P 0 s) : (∃ s', F qFU 0 s = R s' ∧ P N s') ∨ ∃ z, F qFU 0 s = some z ∧ Q z := by
  have key : ∀ (n f : Nat) (i : Int) (s : S), i + n = N → n < f → 0 ≤ i → P i s → (∃ s', F f i s = R s' ∧ P N s') ∨ ∃ z, F f i s = some z ∧ Q z := by
    intro n
    induction n with
    | zero =>
      intro f i s h1 h2 h3 h4
      obtain ⟨f, rfl⟩ : ∃ f', f = f' + 1 := ⟨f - 1, by omega⟩
      have e : i = N := by omega
      subst e
      exact Or.inl ⟨s, h0 f s h4, h4⟩
    | succ n ih =>
      intro f i s h1 h2 h3 h4
      obtain ⟨f, rfl⟩ : ∃ f', f = f' + 1 := ⟨f - 1, by omega⟩
      rcases hs f i s h3 (by omega) h4 with ⟨s1, e1, p1⟩ | ⟨z, e1, q1⟩
      · rcases ih f (i + 1) s1 (by omega) (by omega) (by omega) p1 with ⟨s2, e2, p2⟩ | ⟨z, e2, q2⟩
        · exact Or.inl ⟨s2, e1.trans e2, p2⟩
        · exact Or.inr ⟨z, e1.trans e2, q2⟩
      · exact Or.inr ⟨z, e1, q1⟩
  exact key N.toNat qFU 0 s (by omega) (by unfold qFU; omega) (by omega) hP
/-- bits of a set of ways -/
def bt (x w : Int) : Int := if w = 0 then x % 2 else if w = 1 then x / 2 % 2 else if w = 2 then x / 4 % 2 else x / 8 % 2
def pw (w : Int) : Int := if w = 0 then 1 else if w = 1 then 2 else if w = 2 then 4 else 8
def op (w : Int) : Int := if w < 2 then w + 2 else w - 2
def bs (c w : Int) : Int := if w = 0 then (if c % 12 = 11 then c - 11 else c + 1) else if w = 1 then (if c < 12 then -1 else c - 12) else if w = 2 then (if c % 12 = 0 then c + 11 else c - 1) else (if c < 84 then c + 12 else -1)
def mk (f : Int → Int) : Int := f 0 + 2 * f 1 + 4 * f 2 + 8 * f 3
abbrev meetP (x : Int) : Prop := x = 5 ∨ x = 10
/-- turned by one, by two, by three ways -/
def t1 (x : Int) : Int := 2 * (x % 8) + x / 8
def t2 (x : Int) : Int := 4 * (x % 4) + x / 4
def t3 (x : Int) : Int := 8 * (x % 2) + x / 2
theorem f16 {x : Int} (h0 : 0 ≤ x) (h1 : x ≤ 15) : ∃ n : Fin 16, x = (n.val : Int) := ⟨⟨x.toNat, by omega⟩, by show x = (x.toNat : Int); omega⟩
theorem f4 {x : Int} (h0 : 0 ≤ x) (h1 : x < 4) : ∃ n : Fin 4, x = (n.val : Int) := ⟨⟨x.toNat, by omega⟩, by show x = (x.toNat : Int); omega⟩
theorem f96 {x : Int} (h0 : 0 ≤ x) (h1 : x < 96) : ∃ n : Fin 96, x = (n.val : Int) := ⟨⟨x.toNat, by omega⟩, by show x = (x.toNat : Int); omega⟩
theorem m_bit {x w : Int} (h0 : 0 ≤ x) (h1 : x ≤ 15) (h2 : 0 ≤ w) (h3 : w < 4) : qand (qshr x w) 1 = bt x w := by
  obtain ⟨n, rfl⟩ := f16 h0 h1
  obtain ⟨k, rfl⟩ := f4 h2 h3
  exact (by decide +kernel : ∀ (n : Fin 16) (k : Fin 4), qand (qshr (n.val : Int) (k.val : Int)) 1 = bt (n.val : Int) (k.val : Int)) n k
theorem m_and1 {x : Int} (h0 : 0 ≤ x) (h1 : x ≤ 15) : qand x 1 = bt x 0 := by
  obtain ⟨n, rfl⟩ := f16 h0 h1
  exact (by decide +kernel : ∀ (n : Fin 16), qand (n.val : Int) 1 = bt (n.val : Int) 0) n
theorem m_or {x b w : Int} (h0 : 0 ≤ x) (h1 : x ≤ 15) (h2 : 0 ≤ w) (h3 : w < 4) (hb : b = 0 ∨ b = 1) (hx : bt x w = 0) : qor x (qshl b w) = x + b * pw w := by
  obtain ⟨n, rfl⟩ := f16 h0 h1
  obtain ⟨k, rfl⟩ := f4 h2 h3
  rcases hb with rfl | rfl
  · exact (by decide +kernel : ∀ (n : Fin 16) (k : Fin 4), bt (n.val : Int) (k.val : Int) = 0 → qor (n.val : Int) (qshl 0 (k.val : Int)) = (n.val : Int) + 0 * pw (k.val : Int)) n k hx
  · exact (by decide +kernel : ∀ (n : Fin 16) (k : Fin 4), bt (n.val : Int) (k.val : Int) = 0 → qor (n.val : Int) (qshl 1 (k.val : Int)) = (n.val : Int) + 1 * pw (k.val : Int)) n k hx
theorem m_turn1 {x : Int} (h0 : 0 ≤ x) (h1 : x ≤ 15) : qand (qor (qshl x 1) (qshr x 3)) 15 = t1 x := by
  obtain ⟨n, rfl⟩ := f16 h0 h1
  exact (by decide +kernel : ∀ (n : Fin 16), qand (qor (qshl (n.val : Int) 1) (qshr (n.val : Int) 3)) 15 = t1 (n.val : Int)) n
theorem m_turn2 {x : Int} (h0 : 0 ≤ x) (h1 : x ≤ 15) : qand (qor (qshl x 2) (qshr x 2)) 15 = t2 x := by
  obtain ⟨n, rfl⟩ := f16 h0 h1
  exact (by decide +kernel : ∀ (n : Fin 16), qand (qor (qshl (n.val : Int) 2) (qshr (n.val : Int) 2)) 15 = t2 (n.val : Int)) n
theorem m_turn3 {x : Int} (h0 : 0 ≤ x) (h1 : x ≤ 15) : qand (qor (qshl x 3) (qshr x 1)) 15 = t3 x := by
  obtain ⟨n, rfl⟩ := f16 h0 h1
  exact (by decide +kernel : ∀ (n : Fin 16), qand (qor (qshl (n.val : Int) 3) (qshr (n.val : Int) 1)) 15 = t3 (n.val : Int)) n
theorem m_turnM {x : Int} (h0 : 0 ≤ x) (h1 : x ≤ 15) : qand 15 (qor (qshl x 1) (qshr x 3)) = t1 x := by
  obtain ⟨n, rfl⟩ := f16 h0 h1
  exact (by decide +kernel : ∀ (n : Fin 16), qand 15 (qor (qshl (n.val : Int) 1) (qshr (n.val : Int) 3)) = t1 (n.val : Int)) n
theorem m_opp {w : Int} (h2 : 0 ≤ w) (h3 : w < 4) : qxor w 2 = op w := by
  obtain ⟨k, rfl⟩ := f4 h2 h3
  exact (by decide +kernel : ∀ (k : Fin 4), qxor (k.val : Int) 2 = op (k.val : Int)) k
theorem m_oppM {w : Int} (h2 : 0 ≤ w) (h3 : w < 4) : qrem (w + 2) 4 = op w := by
  obtain ⟨k, rfl⟩ := f4 h2 h3
  exact (by decide +kernel : ∀ (k : Fin 4), qrem ((k.val : Int) + 2) 4 = op (k.val : Int)) k
theorem m_beside {σ : qSt} {c w : Int} (h0 : 0 ≤ c) (h1 : c < 96) (h2 : 0 ≤ w) (h3 : w < 4) : fX5_beside σ c w = some (bs c w) := by
  obtain ⟨n, rfl⟩ := f96 h0 h1
  obtain ⟨k, rfl⟩ := f4 h2 h3
  exact (by decide +kernel : ∀ (n : Fin 96) (k : Fin 4), fX5_beside (fun _ _ => 0) (n.val : Int) (k.val : Int) = some (bs (n.val : Int) (k.val : Int))) n k
def btc (x : Int) : Int := bt x 0 + bt x 1 + bt x 2 + bt x 3
theorem m_bitCount {σ : qSt} {x : Int} (h0 : 0 ≤ x) (h1 : x ≤ 15) : fJ6_bitCount_0f7a4 σ x = some (btc x) := by
  obtain ⟨n, rfl⟩ := f16 h0 h1
  exact (by decide +kernel : ∀ (n : Fin 16), fJ6_bitCount_0f7a4 (fun _ _ => 0) (n.val : Int) = some (btc (n.val : Int))) n
theorem op_r {w : Int} (h2 : 0 ≤ w) (h3 : w < 4) : 0 ≤ op w ∧ op w < 4 := by unfold op; split <;> omega
theorem op_op {w : Int} (h2 : 0 ≤ w) (h3 : w < 4) : op (op w) = w := by unfold op; split <;> split <;> omega
theorem bs_r {c w : Int} (h0 : 0 ≤ c) (h1 : c < 96) : -1 ≤ bs c w ∧ bs c w < 96 := by unfold bs; repeat' split <;> omega
theorem bs_op {c w : Int} (h0 : 0 ≤ c) (h1 : c < 96) (h2 : 0 ≤ w) (h3 : w < 4) (h : bs c w ≠ -1) : bs (bs c w) (op w) = c := by
  obtain ⟨n, rfl⟩ := f96 h0 h1
  obtain ⟨k, rfl⟩ := f4 h2 h3
  exact (by decide +kernel : ∀ (n : Fin 96) (k : Fin 4), bs (n.val : Int) (k.val : Int) ≠ -1 → bs (bs (n.val : Int) (k.val : Int)) (op (k.val : Int)) = (n.val : Int)) n k h
theorem bt_r (x w : Int) : 0 ≤ bt x w ∧ bt x w ≤ 1 := by unfold bt; repeat' split <;> omega
