-- which goods
theorem p2_le {n : Nat} (h : n ≤ 6) : 2 ^ n - 1 ≤ 63 := by
  have : 2 ^ n ≤ 2 ^ 6 := Nat.pow_le_pow_right (by decide) h
  omega
theorem shl_m1 {n : Nat} (h : n ≤ 6) : ((1 : Int32) <<< (nI n &&& 31)) - 1 = nI (2 ^ n - 1) := by
  rw [one_shl (by omega), nI_m1 (Nat.two_pow_pos n)]
theorem m_isWants (N : Nat) {S : ST} {n : Nat} (hn : S 1 259 = nI n) (h6 : n ≤ 6) (x : Int32) : f_X5_isWants N S x = some (tf (0 ≤ x.toInt ∧ x.toInt ≤ ((2 ^ n - 1 : Nat) : Int)), S) := by
  have := p2_le h6
  unfold f_X5_isWants f_X5_shops
  rw [bd2_s, hn, shl_m1 h6, m_in, bd2_s, tf_ret, Int32.toInt_toInt64, Int32.toInt_toInt64, nt (by omega)]
  rfl
theorem c_areGoods (N : Nat) {S : ST} {n : Nat} (hn : S 0 0 = nI n) (h6 : n ≤ 6) (x : Int32) : f_X4_areGoods N S x = some (tf (0 ≤ x.toInt ∧ x.toInt ≤ ((2 ^ n - 1 : Nat) : Int)), S) := by
  have := p2_le h6
  unfold f_X4_areGoods
  rw [hn, shl_m1 h6, c_isIn, bd2_s, tf_ret, nt (by omega)]
  rfl
theorem cl_none : ∀ s, s < 6 → (bitN 0 s = 1 ↔ s = 6) := fun s hs => ⟨fun h => absurd h (by unfold bitN; rw [Nat.zero_div]; decide), fun h => by omega⟩
theorem cl_noneM : ∀ s, s < 6 → (nI s = (-1 : Int32) ↔ s = 6) := fun s hs => ⟨fun h => absurd h (nI_ne_m1 (by omega)), fun h => by omega⟩
theorem cl_one : ∀ k, k < 6 → ∀ s, s < 6 → (bitN (2 ^ k) s = 1 ↔ s = k) := by decide +kernel
theorem cl_oneM {k : Nat} (hk : k < 6) : ∀ s, s < 6 → (nI s = nI k ↔ s = k) := fun s hs => nI_eq (by omega) (by omega)
-- the class's search, said by the reference's best
theorem c_find {N : Nat} (hN : 20 ≤ N) {v : VW} (hw : wfV v) {S : ST} (hr : rlC v S 0) (h0 : S 42 0 = 0 ∧ S 43 0 = 0 ∧ S 44 0 = 0 ∧ S 45 0 = 0) {w mo cb cl : Nat} (hw64 : w < 64) (hmo : mo ≤ 999) (hcb : cb < 64) (hcl : ∀ s, s < 6 → (bitN cb s = 1 ↔ s = cl)) :
    ∃ S', f_X1_findCheapest N S (nI w) (nI mo) (nI cb) = some (tf ((beS v cl w).1 ≤ mo), S') ∧ smF S S' ∧ (S' 42 0 = 0 ∧ S' 43 0 = 0 ∧ S' 44 0 = 0 ∧ S' 45 0 = 0) ∧ ((beS v cl w).1 ≤ mo → ∃ p, beS v cl w = ((walkS v p).2.2.2.2, p.length, (walkS v p).2.2.2.1, p) ∧ gdN v p ∧ S' 46 8 = nI (walkS v p).2.2.2.2 ∧ S' 46 7 = nI p.length ∧ S' 46 9 = nI (walkS v p).2.2.2.1 ∧ ∀ i, i < p.length → S' 47 i = nI (p.getD i 0) ∧ S' 48 i = nI (payS v p i)) := by
  obtain ⟨S1, e1, s1, f1, z1⟩ := c_findCheapest hN hw hr h0 hw64 hmo hcb hcl
  rcases fi_be hw (w := w) (cl := cl) hmo with ⟨a1, a2⟩ | ⟨p, a1, a2, a3, a4, a5⟩
  · refine ⟨S1, ?_, f1, z1, fun h => absurd h (by omega)⟩
    rw [e1, tf_f (show ¬ _ from not_not_intro a2), tf_f (by omega)]
  · rw [a2] at s1 e1
    obtain ⟨b1, b2, -, -, -, b3⟩ := s1
    obtain ⟨c1, c2, c3, c4, c5, c6⟩ := b3 p rfl
    refine ⟨S1, ?_, f1, z1, fun _ => ⟨p, a1, a3, c4, b2, c5, c6⟩⟩
    rw [e1, tf_t (show some p ≠ none by simp), tf_t (by rw [a1]; exact a5)]
theorem be_le {v : VW} (hw : wfV v) {w cl : Nat} : (beS v cl w).1 ≤ v 0 2 ↔ ¬ (beS v cl w).1 = 1000000 := by
  have := be_top hw (w := w) (cl := cl)
  have := hw.2.2.1
  omega
theorem nI_mil {n : Nat} (h : n ≤ 1000000) : (nI n = 1000000) ↔ n = 1000000 := nI_eq (b := 1000000) (by omega) (by decide)
theorem RM_k {v v1 v2 : VW} {k0 k1 : Nat} {r : Nat → Int32} {S S' : ST} (h : kM S S') (hM : RM v v1 v2 k0 k1 r S) : RM v v1 v2 k0 k1 r S' := RM_fr (fun i hi => h i (by omega)) hM
theorem RC_f {v v1 v2 : VW} {k0 k1 : Nat} {r : Nat → Int32} {S S' : ST} (h : smF S S') (h0 : S' 42 0 = 0 ∧ S' 43 0 = 0 ∧ S' 44 0 = 0 ∧ S' 45 0 = 0) (hC : RC v v1 v2 k0 k1 r S) : RC v v1 v2 k0 k1 r S' := RC_fr (fun i hi => h i (by omega)) h0 hC
-- cheapest
theorem st_cheapest {N : Nat} (hN : 400000 ≤ N) (x y : Int32) : StI Rl (fun S => f_X4_cheapest N S x y) (fun S => f_X5_cheapest N S x y) := by
  rintro SC SM ⟨v, v1, v2, k0, k1, r, w0, w1, w2, w3, w4, hC, hM⟩
  have n6 := w0.1
  have h63 := p2_le n6
  simp only [f_X4_cheapest, f_X5_cheapest, b_X4_cheapest_17, b_X5_cheapest_20, c_areGoods N hC.1.1 n6, m_isWants N hM.1.1 n6, c_isIn, m_in, bd2_s, tf_if, Int32.toInt_toInt64, c_bad, m_bad]
  rw [show (0 : Int64).toInt = 0 from rfl, show (2 : Int64).toInt = 2 from rfl, show (0 : Int32).toInt = 0 from rfl, show (2 : Int32).toInt = 2 from rfl]
  by_cases hx : 0 ≤ x.toInt ∧ x.toInt ≤ ((2 ^ v 0 0 - 1 : Nat) : Int)
  · rw [if_pos hx, if_pos hx]
    obtain ⟨w, hw, rfl⟩ := of_rng hx (by omega)
    by_cases h : 0 ≤ y.toInt ∧ y.toInt ≤ 2
    · rw [if_pos h, if_pos h]
      obtain ⟨S1, e1, f1, z1, g1⟩ := c_find (N := N) (by omega) w0 hC.1 hC.2.2.2.2.2.2 (w := w) (mo := v 0 2) (cb := 0) (cl := 6) (by omega) w0.2.2.1 (by decide) cl_none
      obtain ⟨S2, e2, t2, f2⟩ := m_goAll hN w0 (cl := 6) (ci := -1) cl_noneM hM.1
      have hRC := RC_f f1 z1 hC
      have hRM := RM_k f2 hM
      replace e1 : f_X1_findCheapest N SC (nI w) (nI (v 0 2)) 0 = _ := e1
      rw [hC.1.2.2.1, e1, bd2_s, e2, bd1_s]
      have i6 := ixo (k := w) (L := 64) (by omega) (by decide)
      obtain ⟨q1, q2, q3, q4, q5, q6, q7, q8⟩ := t2 w (by omega)
      simp only [if_neg i6]
      rw [nI_clamp (by omega), q1, q2, q3, tf_if]
      simp only [nI_mil q6]
      by_cases hb : (beS v 6 w).1 = 1000000
      · rw [if_neg (fun z => (be_le w0).mp z hb), if_pos hb]
        exact ⟨_, _, _, rfl, rfl, v, v1, v2, k0, k1, r, w0, w1, w2, w3, w4, hRC, hRM⟩
      · have hb' := (be_le w0).mpr hb
        rw [if_pos hb', if_neg hb]
        obtain ⟨p, a1, a2, a3, a4, a5, -⟩ := g1 hb'
        rw [a1, a3, a4, a5]
        by_cases h0 : y = 0
        · rw [if_pos h0, if_pos h0]
          exact ⟨_, _, _, rfl, rfl, v, v1, v2, k0, k1, r, w0, w1, w2, w3, w4, hRC, hRM⟩
        · rw [if_neg h0, if_neg h0]
          by_cases h1 : y = 1
          · rw [if_pos h1, if_pos h1]
            exact ⟨_, _, _, rfl, rfl, v, v1, v2, k0, k1, r, w0, w1, w2, w3, w4, hRC, hRM⟩
          · rw [if_neg h1, if_neg h1]
            exact ⟨_, _, _, rfl, rfl, v, v1, v2, k0, k1, r, w0, w1, w2, w3, w4, hRC, hRM⟩
    · rw [if_neg h, if_neg h]
      exact ⟨_, _, _, rfl, rfl, v, v1, v2, k0, k1, _, w0, w1, w2, w3, w4, RC_ref hC (by decide), RM_ref hM (by decide)⟩
  · rw [if_neg hx, if_neg hx]
    exact ⟨_, _, _, rfl, rfl, v, v1, v2, k0, k1, _, w0, w1, w2, w3, w4, RC_ref hC (by decide), RM_ref hM (by decide)⟩
-- row
theorem cd_at : ∀ (p : List Nat) (i : Nat), (∀ s ∈ p, s < 8) → i < p.length → cdS p / 8 ^ i % 8 = p.getD i 0 := by
  intro p
  induction p with
  | nil => intro i _ h; exact absurd h (Nat.not_lt_zero _)
  | cons s r ih =>
    intro i hs hi
    have h8 := hs s List.mem_cons_self
    cases i with
    | zero =>
      show (s + 8 * cdS r) / 8 ^ 0 % 8 = s
      rw [Nat.pow_zero, Nat.div_one]
      omega
    | succ i =>
      show (s + 8 * cdS r) / 8 ^ (i + 1) % 8 = r.getD i 0
      rw [← ih i (fun x hx => hs x (List.mem_cons_of_mem _ hx)) (Nat.lt_of_succ_lt_succ hi), Nat.pow_succ, Nat.mul_comm (8 ^ i) 8, ← Nat.div_div_eq_div_mul, show (s + 8 * cdS r) / 8 = cdS r by omega]
theorem m_shopIn (N : Nat) {v : VW} (hw : wfV v) {S : ST} {p : List Nat} (hp : gdN v p) {i : Nat} (hi : i < p.length) : f_X5_shopIn N S (nI (cdS p)) (nI i) = some (nI (p.getD i 0), S) := by
  have n6 := hw.1
  have l6 := gd_len hp
  have c := cd_small hw hp
  unfold f_X5_shopIn
  rw [show (3 : Int32) = nI 3 from rfl, pk_mul, nI_shr (by omega) (by omega), show (7 : Int32) = nI (2 ^ 3 - 1) from rfl, fa_mask, Nat.pow_mul, show (2 : Nat) ^ 3 = 8 from rfl, cd_at p i (fun s hs => by have := hp.2.2.2.2.2.2.2.2 s hs; omega) hi]
theorem st_row {N : Nat} (hN : 400000 ≤ N) (x y : Int32) : StI Rl (fun S => f_X4_row N S x y) (fun S => f_X5_row N S x y) := by
  rintro SC SM ⟨v, v1, v2, k0, k1, r, w0, w1, w2, w3, w4, hC, hM⟩
  have n6 := w0.1
  have h63 := p2_le n6
  simp only [f_X4_row, f_X5_row, b_X4_row_12, b_X5_row_12, c_areGoods N hC.1.1 n6, m_isWants N hM.1.1 n6, bd2_s, tf_if, c_bad, m_bad]
  by_cases hx : 0 ≤ x.toInt ∧ x.toInt ≤ ((2 ^ v 0 0 - 1 : Nat) : Int)
  · rw [if_pos hx, if_pos hx]
    obtain ⟨w, hw, rfl⟩ := of_rng hx (by omega)
    by_cases h : 0 ≤ y
    · rw [if_pos h, if_pos h]
      obtain ⟨S1, e1, f1, z1, g1⟩ := c_find (N := N) (by omega) w0 hC.1 hC.2.2.2.2.2.2 (w := w) (mo := v 0 2) (cb := 0) (cl := 6) (by omega) w0.2.2.1 (by decide) cl_none
      obtain ⟨S2, e2, t2, f2⟩ := m_goAll hN w0 (cl := 6) (ci := -1) cl_noneM hM.1
      have hRC := RC_f f1 z1 hC
      have hRM := RM_k f2 hM
      replace e1 : f_X1_findCheapest N SC (nI w) (nI (v 0 2)) 0 = _ := e1
      rw [hC.1.2.2.1, e1, bd2_s, e2, bd1_s]
      have i6 := ixo (k := w) (L := 64) (by omega) (by decide)
      obtain ⟨q1, q2, q3, q4, q5, q6, q7, q8⟩ := t2 w (by omega)
      simp only [if_neg i6]
      rw [nI_clamp (by omega), q1, q2, q4, tf_if]
      simp only [nI_mil q6]
      by_cases hb : (beS v 6 w).1 = 1000000
      · rw [if_neg (fun z => (be_le w0).mp z hb), if_pos hb]
        exact ⟨_, _, _, rfl, rfl, v, v1, v2, k0, k1, r, w0, w1, w2, w3, w4, hRC, hRM⟩
      · have hb' := (be_le w0).mpr hb
        rw [if_pos hb', if_neg hb]
        obtain ⟨p, a1, a2, a3, a4, a5, a6⟩ := g1 hb'
        have l6 := gd_len a2
        rw [a1, a4]
        dsimp only
        by_cases hl : y < nI p.length
        · have hl' := (i_lt _ _).mp hl
          have h' := (i_le _ _).mp h
          rw [nt (by omega)] at hl'
          rw [show (0 : Int32).toInt = 0 from rfl] at h'
          obtain ⟨i, hi, rfl⟩ := of_rng (x := y) (m := 5) (by omega) (by decide)
          rw [nt (by omega)] at hl'
          have hi2 : i < p.length := by omega
          rw [if_pos hl, if_pos hl, ck (by omega) (by decide), nI_clamp (by omega), m_shopIn N w0 a2 hi2, bd2_s, (a6 i hi2).1]
          exact ⟨_, _, _, rfl, rfl, v, v1, v2, k0, k1, r, w0, w1, w2, w3, w4, hRC, hRM⟩
        · rw [if_neg hl, if_neg hl]
          exact ⟨_, _, _, rfl, rfl, v, v1, v2, k0, k1, r, w0, w1, w2, w3, w4, hRC, hRM⟩
    · rw [if_neg h, if_neg h]
      exact ⟨_, _, _, rfl, rfl, v, v1, v2, k0, k1, _, w0, w1, w2, w3, w4, RC_ref hC (by decide), RM_ref hM (by decide)⟩
  · rw [if_neg hx, if_neg hx]
    exact ⟨_, _, _, rfl, rfl, v, v1, v2, k0, k1, _, w0, w1, w2, w3, w4, RC_ref hC (by decide), RM_ref hM (by decide)⟩
-- soonest
theorem st_soonest {N : Nat} (hN : 400000 ≤ N) (x : Int32) : StI Rl (fun S => f_X4_soonest N S x) (fun S => f_X5_soonest N S x) := by
  rintro SC SM ⟨v, v1, v2, k0, k1, r, w0, w1, w2, w3, w4, hC, hM⟩
  have n6 := w0.1
  have h63 := p2_le n6
  simp only [f_X4_soonest, f_X5_soonest, c_areGoods N hC.1.1 n6, m_isWants N hM.1.1 n6, bd2_s, tf_if, c_bad, m_bad]
  by_cases hx : 0 ≤ x.toInt ∧ x.toInt ≤ ((2 ^ v 0 0 - 1 : Nat) : Int)
  · rw [if_pos hx, if_pos hx]
    obtain ⟨w, hw, rfl⟩ := of_rng hx (by omega)
    obtain ⟨S1, e1, s1, f1, z1⟩ := c_findSoonest (N := N) (by omega) w0 hC.1 hC.2.2.2.2.2.2 (w := w) (by omega)
    obtain ⟨S2, e2, t2, f2⟩ := m_goAll hN w0 (cl := 6) (ci := -1) cl_noneM hM.1
    have hRC := RC_f f1 z1 hC
    have hRM := RM_k f2 hM
    rw [e1, bd2_s, e2, bd1_s]
    have i6 := ixo (k := w) (L := 64) (by omega) (by decide)
    obtain ⟨q1, q2, q3, q4, q5, q6, q7, q8⟩ := t2 w (by omega)
    simp only [if_neg i6]
    rw [nI_clamp (by omega), q5, tf_if]
    simp only [nI_mil q8]
    rcases fi_so w0 (w := w) with ⟨b1, b2⟩ | ⟨p, b1, b2, b3⟩
    · rw [if_neg (not_not_intro b2), if_pos b1]
      exact ⟨_, _, _, rfl, rfl, v, v1, v2, k0, k1, r, w0, w1, w2, w3, w4, hRC, hRM⟩
    · have hm := b3.2.2.2.1
      rw [b2] at s1
      have c5 := (s1.2.2.2.2.2 p rfl).2.2.2.2.1
      rw [b2, if_pos (show some p ≠ none by simp), b1, if_neg (by omega), c5]
      exact ⟨_, _, _, rfl, rfl, v, v1, v2, k0, k1, r, w0, w1, w2, w3, w4, hRC, hRM⟩
  · rw [if_neg hx, if_neg hx]
    exact ⟨_, _, _, rfl, rfl, v, v1, v2, k0, k1, _, w0, w1, w2, w3, w4, RC_ref hC (by decide), RM_ref hM (by decide)⟩
