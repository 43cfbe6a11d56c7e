-- what was read is taken
def mgV (v u : VW) : VW := fun i j => if i = 0 then (if j = 0 ∨ j = 1 ∨ j = 4 then u 0 j else v 0 j) else if i ≤ 6 then u i j else v i j
theorem mg_lim (v u : VW) (i : Nat) : lim (mgV v u) i = if i ≤ 6 then lim u i else lim v i := by
  unfold lim
  rw [show mgV v u 0 0 = u 0 0 from rfl, show mgV v u 0 4 = u 0 4 from rfl, show mgV v u 0 5 = v 0 5 from rfl, show mgV v u 0 6 = v 0 6 from rfl]
  by_cases h0 : i = 0
  · subst h0; rfl
  · rw [if_neg h0, if_neg h0, if_neg h0]
    by_cases h5 : i ≤ 5
    · rw [if_pos h5, if_pos h5, if_pos (show i ≤ 6 by omega)]
    · rw [if_neg h5, if_neg h5, if_neg h5]
      by_cases h6 : i = 6
      · rw [if_pos h6, if_pos h6, if_pos (show i ≤ 6 by omega)]
      · rw [if_neg h6, if_neg h6, if_neg h6, if_neg (show ¬ i ≤ 6 by omega)]
theorem wf_mg {v u : VW} (hw : wfV v) (wu : wfV u) (nu : nbV u) : wfV (mgV v u) ∧ nbV (mgV v u) := by
  obtain ⟨a1, a2, a3, a4, a5, a6, a7, a8, a9, b1, b2, b3⟩ := hw
  obtain ⟨c1, c2, c3, c4, c5, c6, c7, c8, c9, d1, d2, d3⟩ := wu
  exact ⟨⟨c1, c2, a3, a4, c5, a6, a7, c8, c9, d1, b2, b3⟩, nu⟩
theorem m_copy (N : Nat) (X : Int32) : ∀ (n : Nat) {S : ST} {k : Nat}, k ≤ 46 → 46 < k + n → ∃ S', b_X5_read_70 N n S X (nI k) = some (X, S') ∧ (∀ j, S' 1 j = if j = 259 then S 0 14 else if k ≤ j ∧ j < 46 ∧ j ≠ 31 ∧ j ≠ 32 then S 5 j else S 1 j) ∧ ∀ i, i ≠ 1 → S' i = S i := by
  intro n
  induction n with
  | zero => intro S k _ h; omega
  | succ n ih =>
    intro S k hk hn
    rw [b_X5_read_70, show (46 : Int32) = nI 46 from rfl]
    by_cases he : 46 ≤ k
    · rw [if_pos ((nI_leI (by omega) (by omega)).mpr he), nm_s]
      refine ⟨_, rfl, fun j => ?_, fun i hi => us_n _ _ _ _ hi⟩
      by_cases h : j = 259
      · rw [if_pos h, h, us_s]
      · rw [if_neg h, us_k _ _ _ _ h, if_neg (by omega)]
    · have i261 := ixo (k := k) (L := 261) (by omega) (by decide)
      have i46 := ixo (k := k) (L := 46) (by omega) (by decide)
      unfold b_X5_read_93 b_X5_read_108
      simp only [if_neg i261, if_neg i46, nm_s]
      rw [if_neg (fun z => he ((nI_leI (by omega) (by omega)).mp z)), nI_clamp (by omega), nI_1, show (31 : Int32) = nI 31 from rfl, show (32 : Int32) = nI 32 from rfl]
      have step : ∀ y : Int32, y = (if k = 31 ∨ k = 32 then S 1 k else S 5 k) → ∃ S', b_X5_read_70 N n (us S 1 k y) X (nI (k + 1)) = some (X, S') ∧ (∀ j, S' 1 j = if j = 259 then S 0 14 else if k ≤ j ∧ j < 46 ∧ j ≠ 31 ∧ j ≠ 32 then S 5 j else S 1 j) ∧ ∀ i, i ≠ 1 → S' i = S i := by
        intro y hy
        obtain ⟨S2, e2, a, b⟩ := ih (S := us S 1 k y) (k := k + 1) (by omega) (by omega)
        refine ⟨S2, e2, fun j => ?_, fun i hi => by rw [b i hi, us_n _ _ _ _ hi]⟩
        rw [a j, us_n _ _ _ _ (show 0 ≠ 1 by decide), us_n _ _ _ _ (show 5 ≠ 1 by decide)]
        by_cases h : j = 259
        · rw [if_pos h, if_pos h]
        · rw [if_neg h, if_neg h]
          by_cases e : j = k
          · subst e
            rw [if_neg (by omega), us_s, hy]
            by_cases h3 : j = 31 ∨ j = 32
            · rw [if_pos h3, if_neg (by omega)]
            · rw [if_neg h3, if_pos (by omega)]
          · rw [us_k _ _ _ _ e]
            by_cases h4 : k ≤ j ∧ j < 46 ∧ j ≠ 31 ∧ j ≠ 32
            · rw [if_pos h4, if_pos (by omega)]
            · rw [if_neg h4, if_neg (by omega)]
      by_cases h1 : k = 31
      · rw [if_pos (show nI k = nI 31 by rw [h1])]
        exact step _ (by rw [if_pos (Or.inl h1)])
      · rw [if_neg (fun z => h1 ((nI_eq (by omega) (by omega)).mp z))]
        by_cases h2 : k = 32
        · rw [if_pos (show nI k = nI 32 by rw [h2])]
          exact step _ (by rw [if_pos (Or.inr h2)])
        · rw [if_neg (fun z => h2 ((nI_eq (by omega) (by omega)).mp z))]
          exact step _ (by rw [if_neg (by omega)])
theorem mg_M {v u : VW} (hw : wfV v) (wu : wfV u) {S S' : ST} (rm : rlM v (S 1)) (hm : DM u S) (a : ∀ j, S' 1 j = if j = 259 then S 0 14 else if 0 ≤ j ∧ j < 46 ∧ j ≠ 31 ∧ j ≠ 32 then S 5 j else S 1 j) : rlM (mgV v u) (S' 1) := by
  have g5 : ∀ j, j < 46 → j ≠ 31 → j ≠ 32 → S' 1 j = gM S j := fun j h1 h2 h3 => by
    rw [a j, if_neg (by omega), if_pos (by omega)]
    unfold gM
    rw [if_neg (by omega), if_neg (by omega), if_neg h3]
  have g1 : ∀ j, (46 ≤ j ∨ j = 31 ∨ j = 32) → j ≠ 259 → S' 1 j = S 1 j := fun j h1 h2 => by
    rw [a j, if_neg h2, if_neg (by omega)]
  have ru := rM_of hm
  have rv := rM_of rm
  refine rM_to (fun i j hi hj => ?_)
  rw [mg_lim] at hj
  have cu := lim_cap wu i
  have cv := lim_cap hw i
  rcases ten hi with rfl | rfl | rfl | rfl | rfl | rfl | rfl | rfl | rfl | rfl
  · rcases seven (show j < 7 from hj) with rfl | rfl | rfl | rfl | rfl | rfl | rfl
    · show S' 1 259 = nI (u 0 0)
      rw [a 259, if_pos rfl]; exact hm.1
    · show S' 1 30 = nI (u 0 1)
      rw [g5 30 (by decide) (by decide) (by decide)]; exact hm.2.1
    · show S' 1 31 = nI (v 0 2)
      rw [g1 31 (by decide) (by decide)]; exact rm.2.2.1
    · show S' 1 32 = nI (v 0 3)
      rw [g1 32 (by decide) (by decide)]; exact rm.2.2.2.1
    · show S' 1 33 = nI (u 0 4)
      rw [g5 33 (by decide) (by decide) (by decide)]; exact hm.2.2.2.2.1
    · show S' 1 46 = nI (v 0 5)
      rw [g1 46 (by decide) (by decide)]; exact rm.2.2.2.2.2.1
    · show S' 1 260 = nI (v 0 6)
      rw [g1 260 (by decide) (by decide)]; exact rm.2.2.2.2.2.2.1
  · have hj' : j < lim u 1 := hj
    have hc : j < 6 := Nat.lt_of_lt_of_le hj' cu
    have e : slM 1 j = 4 * j + 0 := by simp [slM]
    rw [g5 _ (by omega) (by omega) (by omega)]
    exact ru 1 j (by decide) hj'
  · have hj' : j < lim u 2 := hj
    have hc : j < 6 := Nat.lt_of_lt_of_le hj' cu
    have e : slM 2 j = 4 * j + 1 := by simp [slM]
    rw [g5 _ (by omega) (by omega) (by omega)]
    exact ru 2 j (by decide) hj'
  · have hj' : j < lim u 3 := hj
    have hc : j < 6 := Nat.lt_of_lt_of_le hj' cu
    have e : slM 3 j = 4 * j + 2 := by simp [slM]
    rw [g5 _ (by omega) (by omega) (by omega)]
    exact ru 3 j (by decide) hj'
  · have hj' : j < lim u 4 := hj
    have hc : j < 6 := Nat.lt_of_lt_of_le hj' cu
    have e : slM 4 j = 4 * j + 3 := by simp [slM]
    rw [g5 _ (by omega) (by omega) (by omega)]
    exact ru 4 j (by decide) hj'
  · have hj' : j < lim u 5 := hj
    have hc : j < 6 := Nat.lt_of_lt_of_le hj' cu
    have e : slM 5 j = 24 + j := by simp [slM]
    rw [g5 _ (by omega) (by omega) (by omega)]
    exact ru 5 j (by decide) hj'
  · have hj' : j < lim u 6 := hj
    have hc : j < 12 := Nat.lt_of_lt_of_le hj' cu
    have e : slM 6 j = 34 + j := by simp [slM]
    rw [g5 _ (by omega) (by omega) (by omega)]
    exact ru 6 j (by decide) hj'
  · have hj' : j < lim v 7 := hj
    have hc : j < 200 := Nat.lt_of_lt_of_le hj' cv
    have e : slM 7 j = 47 + j := by simp [slM]
    rw [g1 _ (by omega) (by omega)]
    exact rv 7 j (by decide) hj'
  · have hj' : j < lim v 8 := hj
    have hc : j < 6 := Nat.lt_of_lt_of_le hj' cv
    have e : slM 8 j = 247 + 2 * j := by simp [slM]
    rw [g1 _ (by omega) (by omega)]
    exact rv 8 j (by decide) hj'
  · have hj' : j < lim v 9 := hj
    have hc : j < 6 := Nat.lt_of_lt_of_le hj' cv
    have e : slM 9 j = 247 + 2 * j + 1 := by simp [slM]
    rw [g1 _ (by omega) (by omega)]
    exact rv 9 j (by decide) hj'
theorem mg_C {v u : VW} (hw : wfV v) (wu : wfV u) {S : ST} (rc : rlC v S 0) (hc : DC u S) : rlC (mgV v u) (tkA S 0 10) 0 := by
  have ru := rC_of hc
  have rv := rC_of rc
  refine rC_to (fun i j hi hj => ?_)
  rw [mg_lim] at hj
  by_cases h0 : i = 0
  · subst h0
    show tkA S 0 10 0 (z0C j) = _
    rw [tkA_0 S 0 10 (by omega)]
    rcases seven (show j < 7 from hj) with rfl | rfl | rfl | rfl | rfl | rfl | rfl
    · rw [if_pos (by decide)]; exact (DC_n hc).1
    · rw [if_pos (by decide)]; exact (DC_n hc).2.1
    · rw [if_neg (by decide)]; exact rc.2.2.1
    · rw [if_neg (by decide)]; exact rc.2.2.2.1
    · rw [if_pos (by decide)]; exact (DC_n hc).2.2
    · rw [if_neg (by decide)]; exact rc.2.2.2.2.2.1
    · rw [if_neg (by decide)]; exact rc.2.2.2.2.2.2.1
  · have e : slC i j = j := by unfold slC; rw [if_neg h0]
    by_cases h6 : i ≤ 6
    · rw [if_pos h6] at hj
      have hcap := Nat.lt_of_lt_of_le hj (lim_cap wu i)
      have := ru i j hi hj
      rw [e, mkD_o (by omega)] at this
      rw [e, tkA_r S 0 10 (by omega) (by omega) hcap, this, show mgV v u i j = u i j by unfold mgV; rw [if_neg h0, if_pos h6]]
    · rw [if_neg h6] at hj
      have := rv i j hi hj
      rw [tkA_o _ _ _ (by omega), this, show mgV v u i j = v i j by unfold mgV; rw [if_neg h0, if_neg h6]]
-- read
def u0V : VW := fun i j => if i = 0 ∧ j = 3 then 1 else 0
theorem wf_u0 : wfV u0V ∧ nbV u0V := by
  refine ⟨⟨by decide, by decide, by decide, by decide, by decide, by decide, by decide, fun i hi => absurd hi (Nat.not_lt_zero i), fun i j hi => absurd hi (Nat.not_lt_zero i), fun i hi => absurd hi (Nat.not_lt_zero i), fun i hi => absurd hi (Nat.not_lt_zero i), fun i hi => absurd hi (Nat.not_lt_zero i)⟩, fun i j hi => absurd hi (Nat.not_lt_zero i)⟩
theorem st_read {N : Nat} (hN : 400000 ≤ N) : StI Rl (fun S => f_X4_read N S) (fun S => f_X5_read N S) := by
  rintro SC SM ⟨v, v1, v2, k0, k1, r, w0, w1, w2, w3, w4, hC, hM⟩
  have t200 := w0.2.2.2.2.2.1
  dsimp only
  unfold f_X4_read f_X0_readRoad f_X5_read f_X2_forgetShops_10
  simp only [nm_s, bd1_s]
  rw [hC.1.2.2.2.2.2.1, show (200 : Int32) = nI 200 from rfl, if_neg (show ¬ nI 200 < nI (v 0 5) from fun z => by have := (nI_ltI (by omega) (by omega)).mp z; omega)]
  have cA : ∀ i, i ≠ 49 ∧ i ≠ 10 → us (us (us (us (us (us SC 49 4 (nI (v 0 5))) 49 5 0) 49 1 (-1)) 10 0 0) 10 6 0) 10 9 0 i = SC i := fun i hi => by
    rw [us_n _ _ _ _ hi.2, us_n _ _ _ _ hi.2, us_n _ _ _ _ hi.2, us_n _ _ _ _ hi.1, us_n _ _ _ _ hi.1, us_n _ _ _ _ hi.1]
  have c10 : ∀ k, (k = 0 ∨ k = 6 ∨ k = 9) → us (us (us (us (us (us SC 49 4 (nI (v 0 5))) 49 5 0) 49 1 (-1)) 10 0 0) 10 6 0) 10 9 0 10 k = 0 := fun k hk => by
    rcases hk with rfl | rfl | rfl
    · rw [us_k _ _ _ _ (by decide), us_k _ _ _ _ (by decide), us_s]
    · rw [us_k _ _ _ _ (by decide), us_s]
    · rw [us_s]
  have c4 : us (us (us (us (us (us SC 49 4 (nI (v 0 5))) 49 5 0) 49 1 (-1)) 10 0 0) 10 6 0) 10 9 0 49 4 = nI (v 0 5) := by
    rw [us_n _ _ _ _ (by decide), us_n _ _ _ _ (by decide), us_n _ _ _ _ (by decide), us_k _ _ _ _ (by decide), us_k _ _ _ _ (by decide), us_s]
  have c5 : us (us (us (us (us (us SC 49 4 (nI (v 0 5))) 49 5 0) 49 1 (-1)) 10 0 0) 10 6 0) 10 9 0 49 5 = nI 0 := by
    rw [us_n _ _ _ _ (by decide), us_n _ _ _ _ (by decide), us_n _ _ _ _ (by decide), us_k _ _ _ _ (by decide), us_s]; rfl
  have c1 : us (us (us (us (us (us SC 49 4 (nI (v 0 5))) 49 5 0) 49 1 (-1)) 10 0 0) 10 6 0) 10 9 0 49 1 = -1 := by
    rw [us_n _ _ _ _ (by decide), us_n _ _ _ _ (by decide), us_n _ _ _ _ (by decide), us_s]
  generalize us (us (us (us (us (us SC 49 4 (nI (v 0 5))) 49 5 0) 49 1 (-1)) 10 0 0) 10 6 0) 10 9 0 = S0 at cA c10 c4 c5 c1 ⊢
  have mA : ∀ i, i ≠ 0 ∧ i ≠ 5 → us (us (us SM 0 14 0) 5 30 0) 5 33 0 i = SM i := fun i hi => by
    rw [us_n _ _ _ _ hi.2, us_n _ _ _ _ hi.2, us_n _ _ _ _ hi.1]
  have m14 : us (us (us SM 0 14 0) 5 30 0) 5 33 0 0 14 = 0 := by rw [us_n _ _ _ _ (by decide), us_n _ _ _ _ (by decide), us_s]
  have m30 : us (us (us SM 0 14 0) 5 30 0) 5 33 0 5 30 = 0 := by rw [us_k _ _ _ _ (by decide), us_s]
  have m33 : us (us (us SM 0 14 0) 5 30 0) 5 33 0 5 33 = 0 := us_s _ _ _ _
  generalize us (us (us SM 0 14 0) 5 30 0) 5 33 0 = T0 at mA m14 m30 m33 ⊢
  have rc0 : rlC v S0 0 := rlC_sm (fun k hk => cA _ (by omega)) hC.1
  have rm0 : rlM v (T0 1) := by rw [mA 1 (by decide)]; exact hM.1
  have dc0 : DC u0V S0 := by
    refine ⟨?_, ?_, rfl, rfl, ?_, rfl, rfl, fun i hi => absurd hi (Nat.not_lt_zero i), fun i hi => absurd hi (Nat.not_lt_zero i), fun i hi => absurd hi (Nat.not_lt_zero i), fun i hi => absurd hi (Nat.not_lt_zero i)⟩
    · rw [mkD_10 (by decide), c10 0 (by decide)]; rfl
    · rw [mkD_10 (by decide), c10 6 (by decide)]; rfl
    · rw [mkD_10 (by decide), c10 9 (by decide)]; rfl
  have dm0 : DM u0V T0 := by
    refine ⟨?_, ?_, rfl, rfl, ?_, rfl, rfl, fun i hi => absurd hi (Nat.not_lt_zero i), fun i hi => absurd hi (Nat.not_lt_zero i), fun i hi => absurd hi (Nat.not_lt_zero i), fun i hi => absurd hi (Nat.not_lt_zero i)⟩
    · show T0 0 14 = _
      rw [m14]; rfl
    · show T0 5 30 = _
      rw [m30]; rfl
    · show T0 5 33 = _
      rw [m33]; rfl
  obtain ⟨S1, T1, s, l, k, e1, d1, q1, -, f1, g1⟩ := tok_step hN w0 rc0 rm0 c4 c5 (Nat.zero_le _)
  replace d1 : f_X5_look N T0 0 = some T1 := d1
  rw [e1, bd1_s, d1, bd1_s]
  have hRD : RD v s l k S1 T1 := ⟨rlC_49 f1 rc0, rlM_0 g1 rm0, q1, by rw [f1.2 1 (by decide)]; exact c1⟩
  have dc1 : DC u0V S1 := DC_fr (fun i hi => f1.1 i (by omega)) dc0
  have dm1 : DM u0V T1 := by unfold DM; rw [gM_same (g1.1 5 (by decide)) (g1.2 14 (by decide))]; exact dm0
  have fC : ∀ {S' : ST}, (∀ i, (i < 10 ∨ (20 ≤ i ∧ i ≠ 49)) → S' i = S1 i) → ∀ i, (i < 10 ∨ (20 ≤ i ∧ i ≠ 49)) → S' i = SC i := fun hf i hi => by rw [hf i hi, f1.1 i (by omega), cA i (by omega)]
  have fM : ∀ {T' : ST}, (∀ i, i ≠ 0 ∧ i ≠ 5 → T' i = T1 i) → ∀ i, i ≠ 0 ∧ i ≠ 5 → T' i = SM i := fun hf i hi => by rw [hf i hi, g1.1 i hi.1, mA i hi]
  rcases rd_loop hN w0 N (x := 0) hRD dc1 dm1 wf_u0.1 wf_u0.2 (Nat.zero_le _) (by omega) with ⟨S2, T2, u, X, a1, a2, a3, a4, a5, a6, a7, a8⟩ | ⟨S2, T2, q, X, a1, a2, a3, a4, a5⟩
  · replace a1 : b_X0_readRoad_40 N N S1 0 = _ := a1
    replace a3 : b_X5_read_28 N N T1 0 = _ := a3
    obtain ⟨T3, d3, b1, b2⟩ := m_copy N (nI X) N (S := T2) (k := 0) (by decide) (by omega)
    replace d3 : b_X5_read_70 N N T2 (nI X) 0 = _ := d3
    have hcf := fC a8.1
    have hmf := fM a8.2
    rw [a1, bd2_s, if_pos a2, tk_0_10, bd1_s, a3, d3]
    obtain ⟨wf, wn⟩ := wf_mg w0 a6 a7
    have rc2 : rlC v S2 0 := rlC_sm (fun k hk => hcf _ (by omega)) hC.1
    have rm2 : rlM v (T2 1) := by rw [hmf 1 (by decide)]; exact hM.1
    refine ⟨_, _, _, rfl, rfl, mgV v u, v1, v2, k0, k1, r, wf, ⟨w1.1, wn⟩, w2, w3, w4, RC_v (mg_C w0 a6 rc2 a4) (fun i hi => ?_) ?_ hC, RM_v (mg_M w0 a6 rm2 a5 b1) (fun i hi => ?_) hM⟩
    · rw [tkA_o _ _ _ (by omega), hcf i (by omega)]
    · rw [tkA_o _ _ _ (by omega), tkA_o _ _ _ (by omega), tkA_o _ _ _ (by omega), tkA_o _ _ _ (by omega), hcf 42 (by omega), hcf 43 (by omega), hcf 44 (by omega), hcf 45 (by omega)]
      exact hC.2.2.2.2.2.2
    · rw [b2 i (by omega), hmf i (by omega)]
  · replace a1 : b_X0_readRoad_40 N N S1 0 = _ := a1
    replace a4 : b_X5_read_28 N N T1 0 = _ := a4
    have hcf := fC a5.1
    have hmf := fM a5.2
    rw [a1, bd2_s, if_neg (by rw [a3]; exact ft_n a2), a3, a4]
    refine ⟨_, _, _, rfl, rfl, v, v1, v2, k0, k1, r, w0, w1, w2, w3, w4, RC_v (rlC_sm (fun k hk => hcf _ (by omega)) hC.1) (fun i hi => hcf i (by omega)) ?_ hC, RM_v (by rw [hmf 1 (by decide)]; exact hM.1) (fun i hi => hmf i (by omega)) hM⟩
    rw [hcf 42 (by omega), hcf 43 (by omega), hcf 44 (by omega), hcf 45 (by omega)]
    exact hC.2.2.2.2.2.2
