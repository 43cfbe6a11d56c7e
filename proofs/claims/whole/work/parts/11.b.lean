theorem tf_if {α : Type} {c : Prop} [Decidable c] (a b : α) : (if tf c = 0 then a else b) = if c then b else a := by
  by_cases h : c
  · rw [if_pos h, if_neg (fun e => (tf_0 c).mp e h)]
  · rw [if_neg h, if_pos ((tf_0 c).mpr h)]
theorem upd_e {f : Nat → Int32} {k j : Nat} {x : Int32} (h : j = k) : upd f k x j = x := by rw [h]; exact pk_us
theorem m_bad (N : Nat) (S : ST) (x : Int32) : f_X5_bad N S x = some (x, us S 4 0 (S 4 0 + 1)) := rfl
theorem m_no (N : Nat) (S : ST) (x : Int32) : f_X5_no N S x = some (x, us S 4 1 (S 4 1 + 1)) := rfl
theorem m_full (N : Nat) (S : ST) : f_X5_full N S = some (-4, us S 4 2 (S 4 2 + 1)) := rfl
theorem c_bad (N : Nat) (S : ST) (x : Int32) : f_X4_refuse N S (-2) x = some (x, us S 53 0 (S 53 0 + 1)) := by
  unfold f_X4_refuse
  rw [c_isIn, bd2_s, show ((-2 : Int32) - (-2)) = 0 by decide, if_neg (by decide), if_neg (by decide), if_neg (by decide), ix_0]
  rfl
theorem c_no (N : Nat) (S : ST) (x : Int32) : f_X4_refuse N S (-3) x = some (x, us S 53 1 (S 53 1 + 1)) := by
  unfold f_X4_refuse
  rw [c_isIn, bd2_s, show ((-2 : Int32) - (-3)) = 1 by decide, if_neg (by decide), if_neg (by decide), if_neg (by decide), ix_1]
  rfl
theorem c_full (N : Nat) (S : ST) (x : Int32) : f_X4_refuse N S (-4) x = some (x, us S 53 2 (S 53 2 + 1)) := by
  unfold f_X4_refuse
  rw [c_isIn, bd2_s, show ((-2 : Int32) - (-4)) = 2 by decide, if_neg (by decide), if_neg (by decide), if_neg (by decide), ix_2]
  rfl
-- both states hold the same
def RM (v v1 v2 : VW) (k0 k1 : Nat) (r : Nat → Int32) (S : ST) : Prop := rlM v (S 1) ∧ S 3 0 = nI k0 ∧ S 3 1 = nI k1 ∧ (k0 = 1 → rlM v1 (S 2)) ∧ (k1 = 1 → rlM v2 (fun j => S 2 (261 + j))) ∧ S 4 0 = r 0 ∧ S 4 1 = r 1 ∧ S 4 2 = r 2
def RC (v v1 v2 : VW) (k0 k1 : Nat) (r : Nat → Int32) (S : ST) : Prop := rlC v S 0 ∧ S 52 0 = nI k0 ∧ S 52 1 = nI k1 ∧ (k0 = 1 → rlC v1 S 20) ∧ (k1 = 1 → rlC v2 S 30) ∧ (S 53 0 = r 0 ∧ S 53 1 = r 1 ∧ S 53 2 = r 2) ∧ S 42 0 = 0 ∧ S 43 0 = 0 ∧ S 44 0 = 0 ∧ S 45 0 = 0
-- no neighbour that is no shop
def nbV (v : VW) : Prop := ∀ i j, i < v 0 0 → v 0 0 ≤ j → j < 6 → bitN (v 5 i) j = 0
def Rl (SC SM : ST) : Prop := ∃ (v v1 v2 : VW) (k0 k1 : Nat) (r : Nat → Int32), wfV v ∧ (k0 ≤ 1 ∧ nbV v) ∧ k1 ≤ 1 ∧ (k0 = 1 → wfV v1 ∧ nbV v1) ∧ (k1 = 1 → wfV v2 ∧ nbV v2) ∧ RC v v1 v2 k0 k1 r SC ∧ RM v v1 v2 k0 k1 r SM
theorem RM_ref {v v1 v2 : VW} {k0 k1 : Nat} {r : Nat → Int32} {S : ST} (h : RM v v1 v2 k0 k1 r S) {i : Nat} (hi : i < 3) : RM v v1 v2 k0 k1 (upd r i (r i + 1)) (us S 4 i (S 4 i + 1)) := by
  obtain ⟨a1, a2, a3, a4, a5, a6, a7, a8⟩ := h
  refine ⟨by rw [us_n _ _ _ _ (by decide)]; exact a1, by rw [us_n _ _ _ _ (by decide)]; exact a2, by rw [us_n _ _ _ _ (by decide)]; exact a3, by rw [us_n _ _ _ _ (by decide)]; exact a4, by rw [us_n _ _ _ _ (by decide)]; exact a5, ?_, ?_, ?_⟩
  all_goals rw [us_r]
  all_goals rcases (show i = 0 ∨ i = 1 ∨ i = 2 by omega) with rfl | rfl | rfl <;> simp [upd, a6, a7, a8]
theorem rlC_us {v : VW} {S : ST} {b : Nat} (h : rlC v S b) {n : Nat} (hn : ∀ k, k < 10 → b + k ≠ n) (k : Nat) (x : Int32) : rlC v (us S n k x) b := by
  have e : ∀ k', k' < 10 → us S n k x (b + k') = S (b + k') := fun k' h' => us_n _ _ _ _ (hn k' h')
  have e0 : us S n k x b = S b := e 0 (by decide)
  unfold rlC
  rw [e0, e 1 (by decide), e 2 (by decide), e 3 (by decide), e 4 (by decide), e 5 (by decide), e 6 (by decide), e 7 (by decide), e 8 (by decide), e 9 (by decide)]
  exact h
theorem RC_ref {v v1 v2 : VW} {k0 k1 : Nat} {r : Nat → Int32} {S : ST} (h : RC v v1 v2 k0 k1 r S) {i : Nat} (hi : i < 3) : RC v v1 v2 k0 k1 (upd r i (r i + 1)) (us S 53 i (S 53 i + 1)) := by
  obtain ⟨a1, a2, a3, a4, a5, ⟨a6, a7, a8⟩, b1, b2, b3, b4⟩ := h
  refine ⟨rlC_us a1 (fun k hk => by omega) _ _, by rw [us_n _ _ _ _ (by decide)]; exact a2, by rw [us_n _ _ _ _ (by decide)]; exact a3, fun h => rlC_us (a4 h) (fun k hk => by omega) _ _, fun h => rlC_us (a5 h) (fun k hk => by omega) _ _, ?_, by rw [us_n _ _ _ _ (by decide)]; exact b1, by rw [us_n _ _ _ _ (by decide)]; exact b2, by rw [us_n _ _ _ _ (by decide)]; exact b3, by rw [us_n _ _ _ _ (by decide)]; exact b4⟩
  rw [us_r]
  rcases (show i = 0 ∨ i = 1 ∨ i = 2 by omega) with rfl | rfl | rfl <;> simp [upd, a6, a7, a8]
-- status
theorem st_status (N : Nat) (x : Int32) : StI Rl (fun S => f_X4_status N S x) (fun S => f_X5_status N S x) := by
  rintro SC SM ⟨v, v1, v2, k0, k1, r, w0, w1, w2, w3, w4, hC, hM⟩
  simp only [f_X4_status, f_X5_status, c_isIn, m_in, bd2_s, tf_if, Int32.toInt_toInt64, c_bad, m_bad]
  rw [show (0 : Int64).toInt = 0 from rfl, show (2 : Int64).toInt = 2 from rfl, show (0 : Int32).toInt = 0 from rfl, show (2 : Int32).toInt = 2 from rfl]
  by_cases h : 0 ≤ x.toInt ∧ x.toInt ≤ 2
  · rw [if_pos h, if_pos h]
    obtain ⟨k, hk, rfl⟩ := of_rng (m := 2) h (by decide)
    rw [ck (by omega) (by decide), ck (by omega) (by decide), nI_clamp (by omega)]
    refine ⟨_, _, _, rfl, ?_, v, v1, v2, k0, k1, r, w0, w1, w2, w3, w4, hC, hM⟩
    obtain ⟨-, -, -, -, -, ⟨c1, c2, c3⟩, -⟩ := hC
    obtain ⟨-, -, -, -, -, m1, m2, m3⟩ := hM
    rcases (show k = 0 ∨ k = 1 ∨ k = 2 by omega) with rfl | rfl | rfl
    · rw [c1, m1]
    · rw [c2, m2]
    · rw [c3, m3]
  · rw [if_neg h, if_neg h]
    exact ⟨_, _, _, rfl, rfl, v, v1, v2, k0, k1, _, w0, w1, w2, w3, w4, RC_ref hC (by decide), RM_ref hM (by decide)⟩
-- count
theorem st_count (N : Nat) (x : Int32) : StI Rl (fun S => f_X4_count N S x) (fun S => f_X5_count N S x) := by
  rintro SC SM ⟨v, v1, v2, k0, k1, r, w0, w1, w2, w3, w4, hC, hM⟩
  simp only [f_X4_count, f_X5_count, c_isIn, m_in, bd2_s, tf_if, Int32.toInt_toInt64, c_bad, m_bad]
  rw [show (0 : Int64).toInt = 0 from rfl, show (3 : Int64).toInt = 3 from rfl, show (0 : Int32).toInt = 0 from rfl, show (3 : Int32).toInt = 3 from rfl]
  by_cases h : 0 ≤ x.toInt ∧ x.toInt ≤ 3
  · rw [if_pos h, if_pos h]
    have a := hC.1
    have b := hM.1
    simp only [f_X2_howMany_0, f_X5_counted, f_X5_shops, f_X5_textLong, bd2_s, a.1, a.2.2.2.2.1, a.2.2.2.2.2.1, a.2.2.2.2.2.2.1, b.1, b.2.2.2.2.1, b.2.2.2.2.2.1, b.2.2.2.2.2.2.1]
    by_cases h0 : x = 0
    · simp only [if_pos h0, bd2_s]
      exact ⟨_, _, _, rfl, rfl, v, v1, v2, k0, k1, r, w0, w1, w2, w3, w4, hC, hM⟩
    · simp only [if_neg h0]
      by_cases h1 : x = 1
      · simp only [if_pos h1, bd2_s]
        exact ⟨_, _, _, rfl, rfl, v, v1, v2, k0, k1, r, w0, w1, w2, w3, w4, hC, hM⟩
      · simp only [if_neg h1]
        by_cases h2 : x = 2
        · simp only [if_pos h2, bd2_s]
          exact ⟨_, _, _, rfl, rfl, v, v1, v2, k0, k1, r, w0, w1, w2, w3, w4, hC, hM⟩
        · simp only [if_neg h2, bd2_s]
          exact ⟨_, _, _, rfl, rfl, v, v1, v2, k0, k1, r, w0, w1, w2, w3, w4, hC, hM⟩
  · rw [if_neg h, if_neg h]
    exact ⟨_, _, _, rfl, rfl, v, v1, v2, k0, k1, _, w0, w1, w2, w3, w4, RC_ref hC (by decide), RM_ref hM (by decide)⟩
