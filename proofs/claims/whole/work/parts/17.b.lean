-- worth
theorem st_worth {N : Nat} (hN : 400000 ≤ N) (x y : Int32) : StI Rl (fun S => f_X4_worth N S x y) (fun S => f_X5_worth N S x y) := by
  rintro SC SM ⟨v, v1, v2, k0, k1, r, w0, w1, w2, w3, w4, hC, hM⟩
  have n6 := w0.1
  have nf := w0.2.1
  have h63 := p2_le n6
  simp only [f_X4_worth, f_X5_worth, b_X4_worth_30, b_X5_worth_24, b_X5_worth_92, c_areGoods N hC.1.1 n6, m_isWants N hM.1.1 n6, c_hasShop N SC y hC.1.1 n6, m_isShop N SM y hM.1.1 n6, bd2_s, tf_if, c_bad, m_bad, c_no, m_no]
  by_cases hx : 0 ≤ x.toInt ∧ x.toInt ≤ ((2 ^ v 0 0 - 1 : Nat) : Int)
  · rw [if_pos hx, if_pos hx]
    obtain ⟨w, hw, rfl⟩ := of_rng hx (by omega)
    by_cases h : 0 ≤ y.toInt ∧ y.toInt < (v 0 0 : Int)
    · rw [if_pos h, if_pos h]
      obtain ⟨s, hs, rfl⟩ := of_rng (x := y) (m := 5) (by omega) (by decide)
      rw [nt (by omega)] at h
      have hs2 : s < v 0 0 := by omega
      rw [c_isFree N w0 hC.1 hs2, m_isFree N w0 hM.1 hs2, bd2_s, bd2_s, tf_if, tf_if]
      by_cases hf : bitN (v 0 1) s = 1
      · rw [if_pos hf, if_pos hf]
        exact ⟨_, _, _, rfl, rfl, v, v1, v2, k0, k1, _, w0, w1, w2, w3, w4, RC_ref hC (by decide), RM_ref hM (by decide)⟩
      · rw [if_neg hf, if_neg hf]
        have hf0 : bitN (v 0 1) s = 0 := by have := bit_01 (v 0 1) s; omega
        obtain ⟨g1, g2, g3, g4⟩ := F16 (v 0 1) nf s (by omega) hf0
        obtain ⟨S1, e1, f1, z1, u1⟩ := c_find (N := N) (by omega) w0 hC.1 hC.2.2.2.2.2.2 (w := w) (mo := v 0 2) (cb := 0) (cl := 6) (by omega) w0.2.2.1 (by decide) cl_none
        obtain ⟨T1, d1, t1, m1⟩ := m_goAll hN w0 (cl := 6) (ci := -1) cl_noneM hM.1
        have hRC := RC_f f1 z1 hC
        have hRM := RM_k m1 hM
        replace e1 : f_X1_findCheapest N SC (nI w) (nI (v 0 2)) 0 = _ := e1
        have i6 := ixo (k := w) (L := 64) (by omega) (by decide)
        rw [hC.1.2.2.1, e1, bd2_s, d1, bd1_s]
        simp only [if_neg i6, nm_s]
        rw [nI_clamp (by omega), hRM.1.2.1, g1]
        obtain ⟨q1, q2, q3, q4, q5, q6, q7, q8⟩ := t1 w (by omega)
        have w0' : wfV (sv v 0 1 (v 0 1 ||| 2 ^ s)) := wf_free w0 (F1b _ nf s (by omega))
        have hr' : rlM (sv v 0 1 (v 0 1 ||| 2 ^ s)) (us T1 1 30 (nI (v 0 1 ||| 2 ^ s)) 1) := by
          rw [us_r]
          exact rlM_sv w0 hRM.1 (by decide) (by decide) _ (by decide) rfl rfl
        obtain ⟨T2, d2, t2, m2⟩ := m_goAll hN w0' (cl := 6) (ci := -1) cl_noneM hr'
        rw [d2, bd1_s]
        have e30 : T2 1 30 = nI (v 0 1 ||| 2 ^ s) := by rw [m2 1 (by omega), us_s]
        have e6 : ∀ z, us T2 1 30 z 6 = T2 6 := fun z => us_n _ _ _ _ (by decide)
        rw [e30, g2, e6, q1]
        obtain ⟨p1, p2, p3, p4, p5, p6, p7, p8⟩ := t2 w (by omega)
        rw [p1]
        simp only [nI_mil q6, nI_mil p6]
        have hRM2 : RM v v1 v2 k0 k1 r (us T2 1 30 (nI (v 0 1))) := by
          refine RM_v ?_ (fun i hi => ?_) hRM
          · rw [us_r]
            have := rlM_sv w0' (m2 1 (by omega) ▸ hr' : rlM _ (T2 1)) (a := 0) (b := 1) (by decide) (by decide) (v 0 1) (by decide) rfl rfl
            rw [sv_sv, sv_id v 0 1 rfl] at this
            exact this
          · rw [us_n _ _ _ _ (by omega), m2 i (by omega), us_n _ _ _ _ (by omega)]
        rw [tf_if]
        by_cases hb : (beS v 6 w).1 = 1000000
        · rw [if_neg (fun z => (be_le w0).mp z hb), if_pos hb]
          exact ⟨_, _, _, rfl, rfl, v, v1, v2, k0, k1, _, w0, w1, w2, w3, w4, RC_ref hRC (by decide), RM_ref hRM2 (by decide)⟩
        · have hb' := (be_le w0).mpr hb
          rw [if_pos hb', if_neg hb]
          obtain ⟨p, a1, a2, a3, -⟩ := u1 hb'
          unfold f_X2_setFree_0 b_X2_setFree_0_26
          simp only [nm_s, if_neg (show ¬ (1 : Int32) = 0 by decide), if_pos (show (0 : Int32) = 0 from rfl), if_true, ↓reduceIte]
          rw [hRC.1.2.1, g4, bd1_s]
          have hc' : rlC (sv v 0 1 (v 0 1 ||| 2 ^ s)) (us S1 0 6 (nI (v 0 1 ||| 2 ^ s))) 0 := rlC_sv w0 hRC.1 (by decide) (by decide) _ (by decide) rfl rfl rfl
          obtain ⟨S2, e2, f2, z2, u2⟩ := c_find (N := N) (by omega) w0' hc' (by rw [us_n _ _ _ _ (by decide), us_n _ _ _ _ (by decide), us_n _ _ _ _ (by decide), us_n _ _ _ _ (by decide)]; exact z1) (w := w) (mo := v 0 2) (cb := 0) (cl := 6) (by omega) w0.2.2.1 (by decide) cl_none
          replace e2 : f_X1_findCheapest N (us S1 0 6 (nI (v 0 1 ||| 2 ^ s))) (nI w) (nI (v 0 2)) 0 = _ := e2
          rw [us_k _ _ _ _ (show 7 ≠ 6 by decide), hRC.1.2.2.1, e2, bd2_s, show S2 0 6 = nI (v 0 1 ||| 2 ^ s) by rw [f2 0 (by omega), us_s], g3, bd1_s, tf_if]
          have hRC2 : RC v v1 v2 k0 k1 r (us S2 0 6 (nI (v 0 1))) := by
            refine RC_v ?_ (fun i hi => ?_) ?_ hRC
            · have := rlC_sv w0' (rlC_sm (fun k hk => f2 _ (by omega)) hc' : rlC _ S2 0) (a := 0) (b := 1) (by decide) (by decide) (v 0 1) (by decide) rfl rfl rfl
              rw [sv_sv, sv_id v 0 1 rfl] at this
              exact this
            · rw [us_n _ _ _ _ (by omega), f2 i (by omega), us_n _ _ _ _ (by omega)]
            · rw [us_n _ _ _ _ (by decide), us_n _ _ _ _ (by decide), us_n _ _ _ _ (by decide), us_n _ _ _ _ (by decide)]; exact z2
          by_cases hd : (beS (sv v 0 1 (v 0 1 ||| 2 ^ s)) 6 w).1 = 1000000
          · rw [if_neg (show ¬ (beS (sv v 0 1 (v 0 1 ||| 2 ^ s)) 6 w).1 ≤ v 0 2 from fun z => (be_le w0').mp z hd), if_pos hd]
            exact ⟨_, _, _, rfl, rfl, v, v1, v2, k0, k1, _, w0, w1, w2, w3, w4, RC_ref hRC2 (by decide), RM_ref hRM2 (by decide)⟩
          · have hd' : (beS (sv v 0 1 (v 0 1 ||| 2 ^ s)) 6 w).1 ≤ v 0 2 := (be_le w0').mpr hd
            rw [if_pos hd', if_neg hd]
            obtain ⟨p', b1, b2, b3, -⟩ := u2 hd'
            rw [us_n _ _ _ _ (show 46 ≠ 0 by decide), a3, b3, a1, b1]
            exact ⟨_, _, _, rfl, rfl, v, v1, v2, k0, k1, _, w0, w1, w2, w3, w4, hRC2, hRM2⟩
    · rw [if_neg h, if_neg h]
      exact ⟨_, _, _, rfl, rfl, v, v1, v2, k0, k1, _, w0, w1, w2, w3, w4, RC_ref hC (by decide), RM_ref hM (by decide)⟩
  · rw [if_neg hx, if_neg hx]
    exact ⟨_, _, _, rfl, rfl, v, v1, v2, k0, k1, _, w0, w1, w2, w3, w4, RC_ref hC (by decide), RM_ref hM (by decide)⟩
-- what can be had
def haU (v : VW) (cl : Nat) : Nat → Nat
  | 0 => 0
  | k + 1 => if (beS v cl (2 ^ k)).1 = 1000000 then haU v cl k else haU v cl k ||| 2 ^ k
def haS (v : VW) (cl : Nat) : Nat := haU v cl (v 0 0)
theorem haU_lt (v : VW) (cl : Nat) : ∀ k, k ≤ 6 → haU v cl k < 64 := by
  intro k
  induction k with
  | zero => intro _; exact Nat.le_of_ble_eq_true rfl
  | succ k ih =>
    intro hk
    have := ih (by omega)
    unfold haU
    split
    · exact this
    · exact F1b _ this k (by omega)
theorem F17 : ∀ x, x < 64 → ∀ k, k < 6 → ∀ s, s < 6 → (bitN (x ||| 2 ^ k) s = 1 ↔ bitN x s = 1 ∨ s = k) := by decide +kernel
theorem haU_bit (v : VW) (cl : Nat) : ∀ k, k ≤ 6 → ∀ s, s < 6 → (bitN (haU v cl k) s = 1 ↔ s < k ∧ ¬ (beS v cl (2 ^ s)).1 = 1000000) := by
  intro k
  induction k with
  | zero =>
    intro _ s hs
    have := (cl_none s hs)
    unfold haU
    constructor
    · intro h; have := this.mp h; omega
    · rintro ⟨h, -⟩; omega
  | succ k ih =>
    intro hk s hs
    have h1 := ih (by omega) s hs
    unfold haU
    by_cases hb : (beS v cl (2 ^ k)).1 = 1000000
    · rw [if_pos hb, h1]
      constructor
      · rintro ⟨a, b⟩; exact ⟨by omega, b⟩
      · rintro ⟨a, b⟩
        refine ⟨?_, b⟩
        by_cases e : s = k
        · rw [e] at b; exact absurd hb b
        · omega
    · rw [if_neg hb, F17 _ (haU_lt v cl k (by omega)) k (by omega) s hs, h1]
      constructor
      · rintro (⟨a, b⟩ | rfl)
        · exact ⟨by omega, b⟩
        · exact ⟨by omega, hb⟩
      · rintro ⟨a, b⟩
        by_cases e : s = k
        · exact Or.inr e
        · exact Or.inl ⟨by omega, b⟩
theorem p2_64 {k : Nat} (h : k < 6) : 2 ^ k < 64 := Nat.pow_lt_pow_right (by decide) h
theorem m_had_loop (N : Nat) {v : VW} (hw : wfV v) {cl : Nat} : ∀ (n : Nat) {S : ST} {k : Nat}, rlM v (S 1) → tbM (beS v cl) (soS v cl) S → k ≤ v 0 0 → v 0 0 < k + n → b_X5_hadWith_9 N n S (nI (haU v cl k)) (nI k) = some (nI (haS v cl), S) := by
  intro n
  induction n with
  | zero => intro S k _ _ _ h; omega
  | succ n ih =>
    intro S k hr ht hk hn
    have n6 := hw.1
    rw [b_X5_hadWith_9, f_X5_shops, bd2_s, hr.1]
    by_cases he : v 0 0 ≤ k
    · rw [if_pos ((nI_leI (by omega) (by omega)).mpr he), haS, show v 0 0 = k by omega]
    · have h2 := p2_64 (show k < 6 by omega)
      obtain ⟨q1, -, -, -, -, q6, -⟩ := ht (2 ^ k) h2
      have ih' := ih (k := k + 1) hr ht (by omega) (by omega)
      unfold b_X5_hadWith_38
      dsimp only
      rw [if_neg (fun q => he ((nI_leI (by omega) (by omega)).mp q)), one_shl (by omega), ck h2 (by decide), nI_clamp (by omega), q1, nI_1, nI_or]
      simp only [nI_mil q6]
      unfold haU at ih'
      by_cases hb : (beS v cl (2 ^ k)).1 = 1000000
      · rw [if_pos hb] at ih'
        rw [if_pos hb, show (nI (haU v cl k) ||| 0 : Int32) = nI (haU v cl k) by rw [show (0 : Int32) = nI 0 from rfl, nI_or, Nat.or_zero]]
        exact ih'
      · rw [if_neg hb] at ih'
        rw [if_neg hb]
        exact ih'
theorem m_hadWith {N : Nat} (hN : 400000 ≤ N) {v : VW} (hw : wfV v) {cl : Nat} {ci : Int32} (hcl : ∀ s, s < 6 → (nI s = ci ↔ s = cl)) {S : ST} (hr : rlM v (S 1)) : ∃ S', f_X5_hadWith N S ci = some (nI (haS v cl), S') ∧ kM S S' := by
  have n6 := hw.1
  obtain ⟨S1, e1, t1, f1⟩ := m_goAll hN hw hcl hr
  unfold f_X5_hadWith
  rw [e1, bd1_s]
  exact ⟨S1, m_had_loop N hw N (k := 0) (by rw [f1 1 (by omega)]; exact hr) t1 (Nat.zero_le _) (by omega), f1⟩
theorem smF_tr {S S1 S2 : ST} (h1 : smF S S1) (h2 : smF S1 S2) : smF S S2 := fun i hi => (h2 i hi).trans (h1 i hi)
theorem rlC_smF {v : VW} {S S' : ST} (h : smF S S') (hr : rlC v S 0) : rlC v S' 0 := rlC_sm (fun k hk => h _ (by omega)) hr
theorem c_had_loop {N : Nat} (hN : 20 ≤ N) {v : VW} (hw : wfV v) {cb cl : Nat} (hcb : cb < 64) (hcl : ∀ s, s < 6 → (bitN cb s = 1 ↔ s = cl)) : ∀ (n : Nat) {S : ST} {k : Nat}, rlC v S 0 → (S 42 0 = 0 ∧ S 43 0 = 0 ∧ S 44 0 = 0 ∧ S 45 0 = 0) → k ≤ v 0 0 → v 0 0 < k + n → ∃ S', b_X1_goodsToHave_4 N n S (nI cb) (nI (haU v cl k)) (nI k) = some (nI (haS v cl), S') ∧ smF S S' ∧ (S' 42 0 = 0 ∧ S' 43 0 = 0 ∧ S' 44 0 = 0 ∧ S' 45 0 = 0) := by
  intro n
  induction n with
  | zero => intro S k _ _ _ h; omega
  | succ n ih =>
    intro S k hr h0 hk hn
    have n6 := hw.1
    rw [b_X1_goodsToHave_4, hr.1]
    by_cases he : v 0 0 ≤ k
    · rw [if_pos ((nI_leI (by omega) (by omega)).mpr he), haS, show v 0 0 = k by omega]
      exact ⟨S, rfl, fun _ _ => rfl, h0⟩
    · have h2 := p2_64 (show k < 6 by omega)
      obtain ⟨S1, e1, f1, z1, -⟩ := c_find hN hw hr h0 (w := 2 ^ k) (mo := v 0 2) h2 hw.2.2.1 hcb hcl
      obtain ⟨S2, e2, f2, z2⟩ := ih (k := k + 1) (rlC_smF f1 hr) z1 (by omega) (by omega)
      unfold b_X1_goodsToHave_39
      dsimp only
      rw [if_neg (fun q => he ((nI_leI (by omega) (by omega)).mp q)), one_shl (by omega), hr.2.2.1, e1, bd2_s, tf_if, nI_1, nI_or]
      unfold haU at e2
      by_cases hb : (beS v cl (2 ^ k)).1 = 1000000
      · rw [if_pos hb] at e2
        rw [if_neg (fun z => (be_le hw).mp z hb)]
        exact ⟨S2, e2, smF_tr f1 f2, z2⟩
      · rw [if_neg hb] at e2
        rw [if_pos ((be_le hw).mpr hb)]
        exact ⟨S2, e2, smF_tr f1 f2, z2⟩
theorem c_goodsToHave {N : Nat} (hN : 20 ≤ N) {v : VW} (hw : wfV v) {cb cl : Nat} (hcb : cb < 64) (hcl : ∀ s, s < 6 → (bitN cb s = 1 ↔ s = cl)) {S : ST} (hr : rlC v S 0) (h0 : S 42 0 = 0 ∧ S 43 0 = 0 ∧ S 44 0 = 0 ∧ S 45 0 = 0) : ∃ S', f_X1_goodsToHave N S (nI cb) = some (nI (haS v cl), S') ∧ smF S S' ∧ (S' 42 0 = 0 ∧ S' 43 0 = 0 ∧ S' 44 0 = 0 ∧ S' 45 0 = 0) := by
  have n6 := hw.1
  exact c_had_loop hN hw hcb hcl N (k := 0) hr h0 (Nat.zero_le _) (by omega)
-- shutOut
theorem st_shutOut {N : Nat} (hN : 400000 ≤ N) (x : Int32) : StI Rl (fun S => f_X4_shutOut N S x) (fun S => f_X5_shutOut N S x) := by
  rintro SC SM ⟨v, v1, v2, k0, k1, r, w0, w1, w2, w3, w4, hC, hM⟩
  have n6 := w0.1
  simp only [f_X4_shutOut, f_X5_shutOut, c_hasShop N SC x hC.1.1 n6, m_isShop N SM x hM.1.1 n6, bd2_s, tf_if, c_bad, m_bad]
  by_cases h : 0 ≤ x.toInt ∧ x.toInt < (v 0 0 : Int)
  · rw [if_pos h, if_pos h]
    obtain ⟨s, hs, rfl⟩ := of_rng (x := x) (m := 5) (by omega) (by decide)
    obtain ⟨S1, e1, f1, z1⟩ := c_goodsToHave (N := N) (by omega) w0 (cb := 0) (cl := 6) (by decide) cl_none hC.1 hC.2.2.2.2.2.2
    have hRC := RC_f f1 z1 hC
    obtain ⟨S2, e2, f2, z2⟩ := c_goodsToHave (N := N) (by omega) w0 (cb := 2 ^ s) (cl := s) (p2_64 (by omega)) (cl_one s (by omega)) hRC.1 z1
    have hRC2 := RC_f f2 z2 hRC
    obtain ⟨T1, d1, m1⟩ := m_hadWith hN w0 (cl := 6) (ci := -1) cl_noneM hM.1
    have hRM := RM_k m1 hM
    obtain ⟨T2, d2, m2⟩ := m_hadWith hN w0 (cl := s) (ci := nI s) (cl_oneM (by omega)) hRM.1
    have hRM2 := RM_k m2 hRM
    replace e1 : f_X1_goodsToHave N SC 0 = _ := e1
    rw [e1, bd2_s, one_shl (by omega), e2, bd2_s, d1, bd2_s, d2, bd2_s]
    exact ⟨_, _, _, rfl, rfl, v, v1, v2, k0, k1, _, w0, w1, w2, w3, w4, hRC2, hRM2⟩
  · rw [if_neg h, if_neg h]
    exact ⟨_, _, _, rfl, rfl, v, v1, v2, k0, k1, _, w0, w1, w2, w3, w4, RC_ref hC (by decide), RM_ref hM (by decide)⟩
