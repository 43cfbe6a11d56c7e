-- rows that grow
def upL (L : Nat → Nat) (a m : Nat) : Nat → Nat := fun i => if i = a then m else L i
theorem rC_ap {L : Nat → Nat} {v : VW} {S : ST} {c : Nat} (h : rC L v S c) (hL : ∀ i, i ≤ 9 → L i ≤ capV i) {a b : Nat} (ha : 1 ≤ a ∧ a ≤ 9) (hb : b < capV a) (hbl : b ≤ L a) (x : Nat) {m : Nat} (hm : m = c + a) {y : Int32} (hy : y = nI x) : rC (upL L a (b + 1)) (sv v a b x) (us S m b y) c ∧ ∀ i, i ≤ 9 → upL L a (b + 1) i ≤ capV i := by
  have hL' : ∀ i, i ≤ 9 → upL L a (b + 1) i ≤ capV i := by
    intro i hi
    unfold upL
    by_cases e : i = a
    · rw [if_pos e, e]; exact hb
    · rw [if_neg e]; exact hL i hi
  refine ⟨rC_sv h ha.2 hb x hL' (fun i j hi hj => ?_) hm (by unfold slC; rw [if_neg (by omega)]) hy, hL'⟩
  unfold upL at hj
  by_cases e : i = a
  · rw [if_pos e] at hj
    by_cases e2 : j = b
    · exact Or.inr ⟨e, e2⟩
    · rw [e]; exact Or.inl (by omega)
  · rw [if_neg e] at hj
    exact Or.inl hj
theorem rM_ap {L : Nat → Nat} {v : VW} {f : Nat → Int32} (h : rM L v f) (hL : ∀ i, i ≤ 9 → L i ≤ capV i) {a b : Nat} (ha : 1 ≤ a ∧ a ≤ 9) (hb : b < capV a) (hbl : b ≤ L a) (x : Nat) {k : Nat} (hk : k = slM a b) {y : Int32} (hy : y = nI x) : rM (upL L a (b + 1)) (sv v a b x) (upd f k y) ∧ ∀ i, i ≤ 9 → upL L a (b + 1) i ≤ capV i := by
  have hL' : ∀ i, i ≤ 9 → upL L a (b + 1) i ≤ capV i := by
    intro i hi
    unfold upL
    by_cases e : i = a
    · rw [if_pos e, e]; exact hb
    · rw [if_neg e]; exact hL i hi
  refine ⟨rM_sv h ha.2 hb x hL' (fun i j hi hj => ?_) hk hy, hL'⟩
  unfold upL at hj
  by_cases e : i = a
  · rw [if_pos e] at hj
    by_cases e2 : j = b
    · exact Or.inr ⟨e, e2⟩
    · rw [e]; exact Or.inl (by omega)
  · rw [if_neg e] at hj
    exact Or.inl hj
theorem rC_ct {L L' : Nat → Nat} {v : VW} {S : ST} {c : Nat} (h : rC L v S c) (hL : ∀ i, i ≤ 9 → L i ≤ capV i) {b : Nat} (hb : b < 7) (x : Nat) (hx : ∀ i, i ≤ 9 → L' i ≤ L i) {k : Nat} (hk : k = z0C b) {y : Int32} (hy : y = nI x) : rC L' (sv v 0 b x) (us S c k y) c :=
  rC_sv h (Nat.zero_le _) hb x (fun i hi => Nat.le_trans (hx i hi) (hL i hi)) (fun i j hi hj => Or.inl (Nat.lt_of_lt_of_le hj (hx i hi))) rfl hk hy
theorem rM_ct {L L' : Nat → Nat} {v : VW} {f : Nat → Int32} (h : rM L v f) (hL : ∀ i, i ≤ 9 → L i ≤ capV i) {b : Nat} (hb : b < 7) (x : Nat) (hx : ∀ i, i ≤ 9 → L' i ≤ L i) {k : Nat} (hk : k = z0M b) {y : Int32} (hy : y = nI x) : rM L' (sv v 0 b x) (upd f k y) :=
  rM_sv h (Nat.zero_le _) hb x (fun i hi => Nat.le_trans (hx i hi) (hL i hi)) (fun i j hi hj => Or.inl (Nat.lt_of_lt_of_le hj (hx i hi))) hk hy
theorem lim_5 (v : VW) (x i : Nat) : lim (sv v 0 5 x) i = if i = 7 then x else lim v i := by
  unfold lim
  rw [sv_e, sv_j _ _ _ _ (show 0 ≠ 5 by decide), sv_j _ _ _ _ (show 4 ≠ 5 by decide), sv_j _ _ _ _ (show 6 ≠ 5 by decide)]
  by_cases h : i = 7
  · subst h; rfl
  · rw [if_neg h, if_neg h, if_neg h]
theorem lim_6 (v : VW) (x i : Nat) : lim (sv v 0 6 x) i = if 8 ≤ i then x else lim v i := by
  unfold lim
  rw [sv_e, sv_j _ _ _ _ (show 0 ≠ 6 by decide), sv_j _ _ _ _ (show 4 ≠ 6 by decide), sv_j _ _ _ _ (show 5 ≠ 6 by decide)]
  by_cases h : 8 ≤ i
  · rw [if_pos h, if_neg (by omega), if_neg (by omega), if_neg (by omega), if_neg (by omega)]
  · rw [if_neg h]
    split
    · rfl
    · split
      · rfl
      · split
        · rfl
        · split
          · rfl
          · omega
theorem lim_0 (v : VW) (x i : Nat) : lim (sv v 0 0 x) i = if 1 ≤ i ∧ i ≤ 5 then x else lim v i := by
  unfold lim
  rw [sv_e, sv_j _ _ _ _ (show 4 ≠ 0 by decide), sv_j _ _ _ _ (show 5 ≠ 0 by decide), sv_j _ _ _ _ (show 6 ≠ 0 by decide)]
  by_cases h0 : i = 0
  · rw [if_pos h0, if_neg (by omega), if_pos h0]
  · rw [if_neg h0, if_neg h0]
    by_cases h5 : i ≤ 5
    · rw [if_pos h5, if_pos (by omega)]
    · rw [if_neg h5, if_neg (show ¬ (1 ≤ i ∧ i ≤ 5) by omega), if_neg h5]
theorem lim_n {v : VW} {a b x : Nat} (h : 1 ≤ a) : lim (sv v a b x) = lim v := lim_sv (Or.inl (by omega))
-- clear
theorem wf_cut5 {v : VW} (hw : wfV v) : wfV (sv v 0 5 0) := by
  obtain ⟨a1, a2, a3, a4, a5, a6, a7, a8, a9, b1, b2, b3⟩ := hw
  exact ⟨a1, a2, a3, a4, a5, Nat.zero_le _, a7, a8, a9, b1, fun i hi => absurd hi (Nat.not_lt_zero i), b3⟩
theorem z4_us0 {S : ST} {k : Nat} {x : Int32} (h : z4 S) : z4 (us S 0 k x) := z4_n (by omega) h
theorem st_clear (N : Nat) : StI Rl (fun S => f_X4_clear N S) (fun S => f_X5_clear N S) := by
  rintro SC SM ⟨v, v1, v2, k0, k1, r, w0, w1, w2, w3, w4, hC, hM⟩
  simp only [f_X4_clear, f_X5_clear, f_X5_textLong, bd2_s, nm_s]
  rw [hC.1.2.2.2.2.2.1, hM.1.2.2.2.2.2.1]
  have hl : ∀ i, i ≤ 9 → lim (sv v 0 5 0) i ≤ lim v i := fun i _ => by rw [lim_5]; split <;> omega
  refine ⟨_, _, _, rfl, rfl, sv v 0 5 0, v1, v2, k0, k1, r, wf_cut5 w0, ⟨w1.1, w1.2⟩, w2, w3, w4, ?_, ?_⟩
  · exact RC_v (rC_to (rC_ct (rC_of hC.1) (fun i _ => lim_cap w0 i) (by decide) 0 hl rfl rfl)) (fun i hi => us_n _ _ _ _ (by omega)) (z4_us0 hC.2.2.2.2.2.2) hC
  · refine RM_v ?_ (fun i hi => us_n _ _ _ _ (by omega)) hM
    rw [us_r]
    exact rM_to (rM_ct (rM_of hM.1) (fun i _ => lim_cap w0 i) (by decide) 0 hl rfl rfl)
-- leave
theorem wf_cut6 {v : VW} (hw : wfV v) : wfV (sv v 0 6 0) := by
  obtain ⟨a1, a2, a3, a4, a5, a6, a7, a8, a9, b1, b2, b3⟩ := hw
  exact ⟨a1, a2, a3, a4, a5, a6, Nat.zero_le _, a8, a9, b1, b2, fun i hi => absurd hi (Nat.not_lt_zero i)⟩
theorem st_leave (N : Nat) : StI Rl (fun S => f_X4_leave N S) (fun S => f_X5_leave N S) := by
  rintro SC SM ⟨v, v1, v2, k0, k1, r, w0, w1, w2, w3, w4, hC, hM⟩
  simp only [f_X4_leave, f_X5_leave, nm_s]
  rw [hC.1.2.2.2.2.2.2.1, hM.1.2.2.2.2.2.2.1]
  have hl : ∀ i, i ≤ 9 → lim (sv v 0 6 0) i ≤ lim v i := fun i _ => by rw [lim_6]; split <;> omega
  refine ⟨_, _, _, rfl, rfl, sv v 0 6 0, v1, v2, k0, k1, r, wf_cut6 w0, ⟨w1.1, w1.2⟩, w2, w3, w4, ?_, ?_⟩
  · exact RC_v (rC_to (rC_ct (rC_of hC.1) (fun i _ => lim_cap w0 i) (by decide) 0 hl rfl rfl)) (fun i hi => us_n _ _ _ _ (by omega)) (z4_us0 hC.2.2.2.2.2.2) hC
  · refine RM_v ?_ (fun i hi => us_n _ _ _ _ (by omega)) hM
    rw [us_r]
    exact rM_to (rM_ct (rM_of hM.1) (fun i _ => lim_cap w0 i) (by decide) 0 hl rfl rfl)
-- put
theorem st_put (N : Nat) (x y : Int32) : StI Rl (fun S => f_X4_put N S x y) (fun S => f_X5_put N S x y) := by
  rintro SC SM ⟨v, v1, v2, k0, k1, r, w0, w1, w2, w3, w4, hC, hM⟩
  simp only [f_X4_put, f_X5_put, b_X4_put_33, b_X4_put_66, b_X5_put_27, b_X5_put_33, c_isIn, m_in, bd2_s, tf_if, Int32.toInt_toInt64, c_bad, m_bad, nm_s]
  rw [show (0 : Int64).toInt = 0 from rfl, show (1 : Int64).toInt = 1 from rfl, show (999 : Int64).toInt = 999 from rfl, show (6 : Int64).toInt = 6 from rfl, show (0 : Int32).toInt = 0 from rfl, show (1 : Int32).toInt = 1 from rfl, show (999 : Int32).toInt = 999 from rfl, show (6 : Int32).toInt = 6 from rfl]
  have bad : ∃ (r' : Int32) (SC' SM' : ST), some ((-2 : Int32), us SC 53 0 (SC 53 0 + 1)) = some (r', SC') ∧ some ((-2 : Int32), us SM 4 0 (SM 4 0 + 1)) = some (r', SM') ∧ Rl SC' SM' := ⟨_, _, _, rfl, rfl, v, v1, v2, k0, k1, _, w0, w1, w2, w3, w4, RC_ref hC (by decide), RM_ref hM (by decide)⟩
  by_cases h0 : x = 0
  · subst h0
    rw [if_pos rfl, if_neg (show ¬ (0 : Int32) = 1 by decide), show (0 : Int32).toInt = 0 from rfl, if_pos (show (0 : Int) ≤ 0 ∧ (0 : Int) ≤ 1 by decide), if_pos rfl]
    by_cases hy : 0 ≤ y.toInt ∧ y.toInt ≤ 999
    · rw [if_pos hy, if_pos hy]
      obtain ⟨q, hq, rfl⟩ := of_rng (m := 999) hy (by decide)
      rw [if_neg (show ¬ ((31 + 0 : Int32) < 0 ∨ 261 ≤ (31 + 0 : Int32).toNatClampNeg) by decide), if_neg (show ¬ ((31 + 0 : Int32) < 0 ∨ 261 ≤ (31 + 0 : Int32).toNatClampNeg) by decide), show (31 + 0 : Int32).toNatClampNeg = 31 by decide, hC.1.2.2.1, hM.1.2.2.1]
      have wf : wfV (sv v 0 2 q) := by
        obtain ⟨a1, a2, a3, a4, a5, a6, a7, a8, a9, b1, b2, b3⟩ := w0
        exact ⟨a1, a2, hq, a4, a5, a6, a7, a8, a9, b1, b2, b3⟩
      refine ⟨_, _, _, rfl, rfl, sv v 0 2 q, v1, v2, k0, k1, r, wf, ⟨w1.1, w1.2⟩, w2, w3, w4, ?_, ?_⟩
      · exact RC_v (rlC_sv w0 hC.1 (by decide) (by decide) q (by decide) rfl rfl rfl) (fun i hi => us_n _ _ _ _ (by omega)) (z4_us0 hC.2.2.2.2.2.2) hC
      · refine RM_v ?_ (fun i hi => us_n _ _ _ _ (by omega)) hM
        rw [us_r]
        exact rlM_sv w0 hM.1 (by decide) (by decide) q (by decide) rfl rfl
    · rw [if_neg hy, if_neg hy]
      exact bad
  · rw [if_neg h0, if_neg h0]
    by_cases h1 : x = 1
    · subst h1
      rw [if_pos rfl, show (1 : Int32).toInt = 1 from rfl, if_pos (show (0 : Int) ≤ 1 ∧ (1 : Int) ≤ 1 by decide)]
      by_cases hy : 1 ≤ y.toInt ∧ y.toInt ≤ 6
      · rw [if_pos hy, if_pos hy]
        obtain ⟨q, hq, rfl⟩ := of_rng (x := y) (m := 6) (by omega) (by decide)
        have hq1 := hy.1
        rw [nt (by omega)] at hq1
        rw [if_neg (show ¬ ((31 + 1 : Int32) < 0 ∨ 261 ≤ (31 + 1 : Int32).toNatClampNeg) by decide), if_neg (show ¬ ((31 + 1 : Int32) < 0 ∨ 261 ≤ (31 + 1 : Int32).toNatClampNeg) by decide), show (31 + 1 : Int32).toNatClampNeg = 32 by decide, hC.1.2.2.2.1, hM.1.2.2.2.1]
        have wf : wfV (sv v 0 3 q) := by
          obtain ⟨a1, a2, a3, a4, a5, a6, a7, a8, a9, b1, b2, b3⟩ := w0
          exact ⟨a1, a2, a3, ⟨by rw [sv_e]; omega, hq⟩, a5, a6, a7, a8, a9, b1, b2, b3⟩
        refine ⟨_, _, _, rfl, rfl, sv v 0 3 q, v1, v2, k0, k1, r, wf, ⟨w1.1, w1.2⟩, w2, w3, w4, ?_, ?_⟩
        · exact RC_v (rlC_sv w0 hC.1 (by decide) (by decide) q (by decide) rfl rfl rfl) (fun i hi => us_n _ _ _ _ (by omega)) (z4_us0 hC.2.2.2.2.2.2) hC
        · refine RM_v ?_ (fun i hi => us_n _ _ _ _ (by omega)) hM
          rw [us_r]
          exact rlM_sv w0 hM.1 (by decide) (by decide) q (by decide) rfl rfl
      · rw [if_neg hy, if_neg hy]
        exact bad
    · have h01 : ¬ (0 ≤ x.toInt ∧ x.toInt ≤ 1) := by
        intro z
        rcases (show x.toInt = 0 ∨ x.toInt = 1 by omega) with e | e
        · exact h0 ((i_eq x 0).mpr (by rw [e]; rfl))
        · exact h1 ((i_eq x 1).mpr (by rw [e]; rfl))
      rw [if_neg h1, if_neg h01]
      exact bad
-- price
theorem st_price (N : Nat) (x y : Int32) : StI Rl (fun S => f_X4_price N S x y) (fun S => f_X5_price N S x y) := by
  rintro SC SM ⟨v, v1, v2, k0, k1, r, w0, w1, w2, w3, w4, hC, hM⟩
  have n6 := w0.1
  simp only [f_X4_price, f_X5_price, b_X4_price_21, b_X5_price_20, c_hasShop N SC x hC.1.1 n6, m_isShop N SM x hM.1.1 n6, c_isIn, m_in, bd2_s, tf_if, Int32.toInt_toInt64, c_bad, m_bad, nm_s]
  rw [show (0 : Int64).toInt = 0 from rfl, show (20 : Int64).toInt = 20 from rfl, show (0 : Int32).toInt = 0 from rfl, show (20 : Int32).toInt = 20 from rfl]
  by_cases h : 0 ≤ x.toInt ∧ x.toInt < (v 0 0 : Int)
  · rw [if_pos h, if_pos h]
    obtain ⟨s, hs, rfl⟩ := of_rng (x := x) (m := 5) (by omega) (by decide)
    rw [nt (by omega)] at h
    by_cases hy : 0 ≤ y.toInt ∧ y.toInt ≤ 20
    · rw [if_pos hy, if_pos hy]
      obtain ⟨q, hq, rfl⟩ := of_rng (m := 20) hy (by decide)
      rw [m_price1 N w0 hM.1 (by omega), bd2_s, sl2, ck (by omega) (by decide), ck (by omega) (by decide), ck (by omega) (by decide), nI_clamp (by omega), nI_clamp (by omega), (c_kind hC.1 (by omega)).2.1]
      refine ⟨_, _, _, rfl, rfl, sv v 2 s q, v1, v2, k0, k1, r, wf_pr w0 hq, ⟨w1.1, w1.2⟩, w2, w3, w4, ?_, ?_⟩
      · exact RC_v (rlC_sv w0 hC.1 (a := 2) (b := s) (by decide) (by show s < 6; omega) q n20 rfl rfl rfl) (fun i hi => us_n _ _ _ _ (by omega)) (z4_n (by omega) hC.2.2.2.2.2.2) hC
      · refine RM_v ?_ (fun i hi => us_n _ _ _ _ (by omega)) hM
        rw [us_r]
        exact rlM_sv w0 hM.1 (a := 2) (b := s) (by decide) (by show s < 6; omega) q n20 s2M rfl
    · rw [if_neg hy, if_neg hy]
      exact ⟨_, _, _, rfl, rfl, v, v1, v2, k0, k1, _, w0, w1, w2, w3, w4, RC_ref hC (by decide), RM_ref hM (by decide)⟩
  · rw [if_neg h, if_neg h]
    exact ⟨_, _, _, rfl, rfl, v, v1, v2, k0, k1, _, w0, w1, w2, w3, w4, RC_ref hC (by decide), RM_ref hM (by decide)⟩
-- free
theorem F20 : ∀ x, x < 64 → ∀ k, k < 6 → bitN x k = 1 → nI x ^^^ ((1 : Int32) <<< (nI k &&& 31)) = nI (x - 2 ^ k) ∧ nI x &&& (((1 : Int32) <<< (nI k &&& 31)) ^^^ (-1)) = nI (x - 2 ^ k) ∧ x - 2 ^ k < 64 := by decide +kernel
theorem st_free (N : Nat) (x y : Int32) (hy : y = 0 ∨ y = 1) : StI Rl (fun S => f_X4_free N S x y) (fun S => f_X5_free N S x y) := by
  rintro SC SM ⟨v, v1, v2, k0, k1, r, w0, w1, w2, w3, w4, hC, hM⟩
  have n6 := w0.1
  have nf := w0.2.1
  simp only [f_X4_free, f_X5_free, c_hasShop N SC x hC.1.1 n6, m_isShop N SM x hM.1.1 n6, bd2_s, tf_if, c_bad, m_bad]
  by_cases h : 0 ≤ x.toInt ∧ x.toInt < (v 0 0 : Int)
  · rw [if_pos h, if_pos h]
    obtain ⟨s, hs, rfl⟩ := of_rng (x := x) (m := 5) (by omega) (by decide)
    rw [nt (by omega)] at h
    rw [c_isFree N w0 hC.1 (by omega), m_isFree N w0 hM.1 (by omega), bd2_s, bd2_s]
    unfold f_X2_setFree_0 b_X2_setFree_0_26
    simp only [nm_s, c_no, m_no, bd2_s]
    rw [hC.1.2.1, hM.1.2.1]
    have done : ∀ z : Nat, z < 64 → ∃ (r' : Int32) (SC' SM' : ST), some ((1 : Int32), us SC 0 6 (nI z)) = some (r', SC') ∧ some ((1 : Int32), us SM 1 30 (nI z)) = some (r', SM') ∧ Rl SC' SM' := by
      intro z hz
      refine ⟨_, _, _, rfl, rfl, sv v 0 1 z, v1, v2, k0, k1, r, wf_free w0 hz, ⟨w1.1, w1.2⟩, w2, w3, w4, ?_, ?_⟩
      · exact RC_v (rlC_sv w0 hC.1 (by decide) (by decide) z (by decide) rfl rfl rfl) (fun i hi => us_n _ _ _ _ (by omega)) (z4_us0 hC.2.2.2.2.2.2) hC
      · refine RM_v ?_ (fun i hi => us_n _ _ _ _ (by omega)) hM
        rw [us_r]
        exact rlM_sv w0 hM.1 (by decide) (by decide) z (by decide) rfl rfl
    have no : ∃ (r' : Int32) (SC' SM' : ST), some ((-3 : Int32), us SC 53 1 (SC 53 1 + 1)) = some (r', SC') ∧ some ((-3 : Int32), us SM 4 1 (SM 4 1 + 1)) = some (r', SM') ∧ Rl SC' SM' := ⟨_, _, _, rfl, rfl, v, v1, v2, k0, k1, _, w0, w1, w2, w3, w4, RC_ref hC (by decide), RM_ref hM (by decide)⟩
    by_cases hf : bitN (v 0 1) s = 1
    · obtain ⟨g1, g2, g3⟩ := F20 _ nf s (by omega) hf
      rw [tf_t hf]
      rcases hy with rfl | rfl
      · rw [if_neg (show ¬ (1 : Int32) = 0 by decide), if_neg (show ¬ (1 : Int32) = 0 by decide), if_pos (show (0 : Int32) = 0 from rfl), bd1_s, g1, g2]
        exact done _ g3
      · rw [if_pos (show (1 : Int32) = 1 from rfl), if_pos (show (1 : Int32) = 1 from rfl)]
        exact no
    · have hf0 : bitN (v 0 1) s = 0 := by have := bit_01 (v 0 1) s; omega
      obtain ⟨g1, g2, g3, g4⟩ := F16 _ nf s (by omega) hf0
      rw [tf_f hf]
      rcases hy with rfl | rfl
      · rw [if_pos (show (0 : Int32) = 0 from rfl), if_pos (show (0 : Int32) = 0 from rfl)]
        exact no
      · rw [if_neg (show ¬ (0 : Int32) = 1 by decide), if_neg (show ¬ (0 : Int32) = 1 by decide), if_neg (show ¬ (1 : Int32) = 0 by decide), bd1_s, g1, g4]
        exact done _ (F1b _ nf s (by omega))
  · rw [if_neg h, if_neg h]
    exact ⟨_, _, _, rfl, rfl, v, v1, v2, k0, k1, _, w0, w1, w2, w3, w4, RC_ref hC (by decide), RM_ref hM (by decide)⟩
