-- words for numbers
theorem i_lt (a b : Int32) : a < b ↔ a.toInt < b.toInt := Int32.lt_iff_toInt_lt
theorem i_le (a b : Int32) : a ≤ b ↔ a.toInt ≤ b.toInt := Int32.le_iff_toInt_le
theorem i_eq (a b : Int32) : a = b ↔ a.toInt = b.toInt := Int32.toInt_inj.symm
theorem l_lt (a b : Int64) : a < b ↔ a.toInt < b.toInt := Int64.lt_iff_toInt_lt
theorem l_le (a b : Int64) : a ≤ b ↔ a.toInt ≤ b.toInt := Int64.le_iff_toInt_le
theorem l_eq (a b : Int64) : a = b ↔ a.toInt = b.toInt := Int64.toInt_inj.symm
theorem nt {n : Nat} (h : n < 2 ^ 31) : (nI n).toInt = (n : Int) := nI_toInt h
theorem of_rng {x : Int32} {m : Nat} (h : 0 ≤ x.toInt ∧ x.toInt ≤ m) (hm : m < 2 ^ 31) : ∃ k : Nat, k ≤ m ∧ x = nI k := by
  refine ⟨x.toInt.toNat, by omega, ?_⟩
  rw [i_eq, nt (by omega)]
  omega
theorem lg_lt (x y : Int64) : lg_cmp x y < 0 ↔ x.toInt < y.toInt := by
  unfold lg_cmp
  by_cases h1 : x > y
  · rw [if_pos h1]
    have := (l_lt y x).mp h1
    constructor
    · intro h; exact absurd h (by decide)
    · intro h; omega
  · rw [if_neg h1]
    have h1' : ¬ y.toInt < x.toInt := fun h => h1 ((l_lt y x).mpr h)
    by_cases h2 : x = y
    · rw [if_pos h2, h2]
      constructor
      · intro h; exact absurd h (by decide)
      · intro h; omega
    · rw [if_neg h2]
      have h2' : ¬ x.toInt = y.toInt := fun h => h2 ((l_eq x y).mpr h)
      constructor
      · intro _; omega
      · intro _; decide
theorem lg_gt (x y : Int64) : 0 < lg_cmp x y ↔ y.toInt < x.toInt := by
  unfold lg_cmp
  by_cases h1 : x > y
  · rw [if_pos h1]
    have := (l_lt y x).mp h1
    constructor
    · intro _; omega
    · intro _; decide
  · rw [if_neg h1]
    have h1' : ¬ y.toInt < x.toInt := fun h => h1 ((l_lt y x).mpr h)
    by_cases h2 : x = y
    · rw [if_pos h2, h2]
      constructor
      · intro h; exact absurd h (by decide)
      · intro h; omega
    · rw [if_neg h2]
      constructor
      · intro h; exact absurd h (by decide)
      · intro _; omega
-- a truth as a number
def tf (c : Prop) [Decidable c] : Int32 := if c then 1 else 0
theorem tf_0 (c : Prop) [Decidable c] : (tf c = 0) ↔ ¬ c := by
  unfold tf
  by_cases h : c
  · rw [if_pos h]; exact ⟨fun h => absurd h (by decide), fun h2 => absurd h h2⟩
  · rw [if_neg h]; exact ⟨fun _ => h, fun _ => rfl⟩
theorem tf_01 (c : Prop) [Decidable c] : tf c = 0 ∨ tf c = 1 := by
  unfold tf
  by_cases h : c
  · rw [if_pos h]; exact Or.inr rfl
  · rw [if_neg h]; exact Or.inl rfl
theorem tf_t {c : Prop} [Decidable c] (h : c) : tf c = 1 := if_pos h
theorem tf_f {c : Prop} [Decidable c] (h : ¬ c) : tf c = 0 := if_neg h
theorem tf_ret {c : Prop} [Decidable c] {S : ST} : (if tf c = 0 ∨ tf c = 1 then some (tf c, S) else none) = some (tf c, S) := if_pos (tf_01 c)
theorem tf_eq {c d : Prop} [Decidable c] [Decidable d] (h : c ↔ d) : tf c = tf d := by
  unfold tf
  by_cases hc : c
  · rw [if_pos hc, if_pos (h.mp hc)]
  · rw [if_neg hc, if_neg (fun hd => hc (h.mpr hd))]
-- the model's smallest
theorem m_in (N : Nat) (S : ST) (x lo hi : Int64) : f_X5_in N S x lo hi = some (tf (lo.toInt ≤ x.toInt ∧ x.toInt ≤ hi.toInt), S) := by
  unfold f_X5_in
  by_cases h1 : x.toInt < lo.toInt
  · rw [if_pos ((lg_lt x lo).mpr h1), tf_f (by omega)]
  · rw [if_neg (fun h => h1 ((lg_lt x lo).mp h))]
    by_cases h2 : hi.toInt < x.toInt
    · rw [if_pos ((lg_gt x hi).mpr h2), tf_f (by omega)]
    · rw [if_neg (fun h => h2 ((lg_gt x hi).mp h)), tf_t (by omega)]
theorem m_isShop (N : Nat) (S : ST) (x : Int32) {n : Nat} (hn : S 1 259 = nI n) (h6 : n ≤ 6) : f_X5_isShop N S x = some (tf (0 ≤ x.toInt ∧ x.toInt < n), S) := by
  have e : (nI n - 1).toInt = (n : Int) - 1 := by
    rw [show (1 : Int32) = nI 1 from rfl, pk_sub_toInt (by omega) (by decide)]; rfl
  unfold f_X5_isShop f_X5_shops
  rw [bd2_s, hn, m_in, bd2_s, tf_ret]
  congr 2
  refine tf_eq ?_
  rw [Int32.toInt_toInt64, Int32.toInt_toInt64, e]
  constructor
  · intro h; exact ⟨h.1, by omega⟩
  · intro h; exact ⟨h.1, by omega⟩
theorem m_isTold (N : Nat) (S : ST) (x0 x1 x2 x3 : Int32) : f_X5_isTold N S x0 x1 x2 x3 = some (tf ((0 ≤ x0.toInt ∧ x0.toInt ≤ 5) ∧ (0 ≤ x1.toInt ∧ x1.toInt ≤ 20) ∧ (1 ≤ x2.toInt ∧ x2.toInt ≤ 30) ∧ (0 ≤ x3.toInt ∧ x3.toInt ≤ 240)), S) := by
  unfold f_X5_isTold
  simp only [m_in, bd2_s, Int32.toInt_toInt64, tf_0]
  rw [show (0 : Int64).toInt = 0 from rfl, show (1 : Int64).toInt = 1 from rfl, show (5 : Int64).toInt = 5 from rfl, show (20 : Int64).toInt = 20 from rfl, show (30 : Int64).toInt = 30 from rfl, show (240 : Int64).toInt = 240 from rfl]
  by_cases h0 : 0 ≤ x0.toInt ∧ x0.toInt ≤ 5
  · rw [if_neg (not_not_intro h0)]
    by_cases h1 : 0 ≤ x1.toInt ∧ x1.toInt ≤ 20
    · rw [if_neg (not_not_intro h1)]
      by_cases h2 : 1 ≤ x2.toInt ∧ x2.toInt ≤ 30
      · rw [if_neg (not_not_intro h2)]
        by_cases h3 : 0 ≤ x3.toInt ∧ x3.toInt ≤ 240
        · rw [if_neg (not_not_intro h3), tf_t ⟨h0, h1, h2, h3⟩]
        · rw [if_pos h3, tf_f (fun h => h3 h.2.2.2)]
      · rw [if_pos h2, tf_f (fun h => h2 h.2.2.1)]
    · rw [if_pos h1, tf_f (fun h => h1 h.2.1)]
  · rw [if_pos h0, tf_f (fun h => h0 h.1)]
theorem c_isIn (N : Nat) (S : ST) (x lo hi : Int32) : f_X4_isIn N S x lo hi = some (tf (lo.toInt ≤ x.toInt ∧ x.toInt ≤ hi.toInt), S) := by
  unfold f_X4_isIn
  simp only [i_lt]
  by_cases h1 : x.toInt < lo.toInt
  · rw [if_pos h1, tf_f (by omega)]
  · rw [if_neg h1]
    by_cases h2 : hi.toInt < x.toInt
    · rw [if_pos h2, tf_f (by omega)]
    · rw [if_neg h2, tf_t (by omega)]
theorem c_hasShop (N : Nat) (S : ST) (x : Int32) {n : Nat} (hn : S 0 0 = nI n) (h6 : n ≤ 6) : f_X2_hasShop_0 N S x = some (tf (0 ≤ x.toInt ∧ x.toInt < n), S) := by
  unfold f_X2_hasShop_0
  simp only [i_lt, i_le, hn, nt (show n < 2 ^ 31 by omega)]
  rw [show (0 : Int32).toInt = 0 from rfl]
  by_cases h1 : x.toInt < 0
  · rw [if_pos h1, tf_f (by omega)]
  · rw [if_neg h1]
    by_cases h2 : (n : Int) ≤ x.toInt
    · rw [if_pos h2, tf_f (by omega)]
    · rw [if_neg h2, tf_t (by omega)]
