-- next
theorem F21a : ∀ x, x < 64 → ∀ k, k < 6 → bitN x k = 1 → ∀ s, s < 6 → bitN (x - 2 ^ k) s = if s = k then 0 else bitN x s := by decide +kernel
theorem F21b : ∀ x, x < 64 → ∀ k, k < 6 → bitN x k = 1 → (x - 2 ^ k) ||| 2 ^ k = x ∧ x - 2 ^ k < 64 := by decide +kernel
theorem F21 (x : Nat) (hx : x < 64) (k : Nat) (hk : k < 6) (hb : bitN x k = 1) : (∀ s, s < 6 → (bitN (x - 2 ^ k) s = 1 ↔ bitN x s = 1 ∧ s ≠ k)) ∧ (x - 2 ^ k) ||| 2 ^ k = x ∧ x - 2 ^ k < 64 := ⟨fun s hs => by
  rw [F21a x hx k hk hb s hs]
  by_cases e : s = k
  · rw [if_pos e]; constructor
    · intro z; omega
    · intro z; exact absurd e z.2
  · rw [if_neg e]; exact ⟨fun z => ⟨z, e⟩, fun z => z.1⟩, F21b x hx k hk hb⟩
def reN (v : VW) (a b : Nat) : VW := sv (sv v 5 a (v 5 a - 2 ^ b)) 5 b (v 5 b - 2 ^ a)
theorem re_o (v : VW) (a b : Nat) {i : Nat} (h : i ≠ 5) (j : Nat) : reN v a b i j = v i j := by
  unfold reN
  rw [sv_i _ _ _ _ h, sv_i _ _ _ _ h]
theorem re_5 (v : VW) {a b : Nat} (i : Nat) : reN v a b 5 i = if i = b then v 5 b - 2 ^ a else if i = a then v 5 a - 2 ^ b else v 5 i := by
  unfold reN
  by_cases h : i = b
  · rw [if_pos h, h, sv_e]
  · rw [if_neg h, sv_j _ _ _ _ h]
    by_cases h2 : i = a
    · rw [if_pos h2, h2, sv_e]
    · rw [if_neg h2, sv_j _ _ _ _ h2]
theorem re_bit {v : VW} (hw : wfV v) {a b : Nat} (ha : a < v 0 0) (hb : b < v 0 0) (hab : a ≠ b) (h1 : bitN (v 5 a) b = 1) {i j : Nat} (hi : i < v 0 0) (hj : j < 6) : bitN (reN v a b 5 i) j = 1 ↔ bitN (v 5 i) j = 1 ∧ ¬ (i = a ∧ j = b) ∧ ¬ (i = b ∧ j = a) := by
  have n6 := hw.1
  have h64 : ∀ i, i < v 0 0 → v 5 i < 64 := fun i hi => (hw.2.2.2.2.2.2.2.1 i hi).2.2.2.2
  have h1' : bitN (v 5 b) a = 1 := by rw [← hw.2.2.2.2.2.2.2.2.1 a b ha hb]; exact h1
  rw [re_5]
  by_cases h : i = b
  · subst h
    rw [if_pos rfl, (F21 _ (h64 i hi) a (by omega) h1').1 j hj]
    omega
  · rw [if_neg h]
    by_cases h2 : i = a
    · subst h2
      rw [if_pos rfl, (F21 _ (h64 i hi) b (by omega) h1).1 j hj]
      omega
    · rw [if_neg h2]
      omega
theorem wf_re {v : VW} (hw : wfV v) (hn : nbV v) {a b : Nat} (ha : a < v 0 0) (hb : b < v 0 0) (hab : a ≠ b) (h1 : bitN (v 5 a) b = 1) : wfV (reN v a b) ∧ nbV (reN v a b) ∧ bitN (reN v a b 5 a) b = 0 ∧ adN (reN v a b) a b = v := by
  have n6 := hw.1
  have h64 : ∀ i, i < v 0 0 → v 5 i < 64 := fun i hi => (hw.2.2.2.2.2.2.2.1 i hi).2.2.2.2
  have h1' : bitN (v 5 b) a = 1 := by rw [← hw.2.2.2.2.2.2.2.2.1 a b ha hb]; exact h1
  have hb1 := fun i j hi hj => re_bit hw ha hb hab h1 (i := i) (j := j) hi hj
  have e := fun i (h : i ≠ 5) j => re_o v a b h j
  have fa := F21 _ (h64 a ha) b (by omega) h1
  have fb := F21 _ (h64 b hb) a (by omega) h1'
  refine ⟨?_, ?_, ?_, ?_⟩
  · obtain ⟨a1, a2, a3, a4, a5, a6, a7, a8, a9, b1, b2, b3⟩ := hw
    unfold wfV
    rw [e 0 (by decide) 0, e 0 (by decide) 1, e 0 (by decide) 2, e 0 (by decide) 3, e 0 (by decide) 4, e 0 (by decide) 5, e 0 (by decide) 6]
    refine ⟨a1, a2, a3, a4, a5, a6, a7, fun i hi => ?_, fun i j hi hj => ?_, fun i hi => ?_, fun i hi => ?_, fun i hi => ?_⟩
    · rw [e 1 (by decide), e 2 (by decide), e 3 (by decide), e 4 (by decide)]
      obtain ⟨q1, q2, q3, q4, q5⟩ := a8 i hi
      refine ⟨q1, q2, q3, q4, ?_⟩
      rw [re_5]
      split
      · exact fb.2.2
      · split
        · exact fa.2.2
        · exact q5
    · refine bit_eq ?_
      rw [hb1 i j hi (by omega), hb1 j i hj (by omega), a9 i j hi hj]
      omega
    · rw [e 6 (by decide)]; exact b1 i hi
    · rw [e 7 (by decide)]; exact b2 i hi
    · rw [e 8 (by decide), e 9 (by decide)]; exact b3 i hi
  · intro i j hi hj hj6
    rw [e 0 (by decide) 0] at hi hj
    have := hn i j hi hj hj6
    have b01 := bit_01 (reN v a b 5 i) j
    by_cases q : bitN (reN v a b 5 i) j = 1
    · have := (hb1 i j hi hj6).mp q
      omega
    · omega
  · have b01 := bit_01 (reN v a b 5 a) b
    by_cases q : bitN (reN v a b 5 a) b = 1
    · have := (hb1 a b ha (by omega)).mp q
      omega
    · omega
  · funext i j
    by_cases h5 : i = 5
    · subst h5
      rw [ad_5, re_5, re_5, re_5, if_pos rfl, if_neg hab, if_pos rfl, fa.2.1, fb.2.1]
      by_cases hj : j = b
      · rw [if_pos hj, hj]
      · rw [if_neg hj]
        by_cases hj2 : j = a
        · rw [if_pos hj2, hj2]
        · rw [if_neg hj2, if_neg hj, if_neg hj2]
    · rw [ad_o _ _ _ h5, re_o _ _ _ h5]
theorem nb_ad {v : VW} (hw : wfV v) (hn : nbV v) {a b : Nat} (ha : a < v 0 0) (hb : b < v 0 0) : nbV (adN v a b) := by
  have n6 := hw.1
  have h64 : ∀ i, i < v 0 0 → v 5 i < 64 := fun i hi => (hw.2.2.2.2.2.2.2.1 i hi).2.2.2.2
  intro i j hi hj hj6
  rw [ad_o _ _ _ (by decide)] at hi hj
  have q := hn i j hi hj hj6
  have b01 := bit_01 (adN v a b 5 i) j
  by_cases z : bitN (adN v a b 5 i) j = 1
  · exfalso
    rw [ad_5] at z
    by_cases h : i = b
    · rw [if_pos h, F17 _ (h64 b hb) a (by omega) j hj6, ← h, q] at z
      omega
    · rw [if_neg h] at z
      by_cases h2 : i = a
      · rw [if_pos h2, F17 _ (h64 a ha) b (by omega) j hj6, ← h2, q] at z
        omega
      · rw [if_neg h2] at z
        omega
  · omega
theorem z4_5' {S S' : ST} (h : ∀ i, i ≠ 5 → S' i = S i) (h0 : z4 S) : z4 S' := z4_5 h h0
theorem st_next (N : Nat) (x y z : Int32) (hz : z = 0 ∨ z = 1) : StI Rl (fun S => f_X4_next N S x y z) (fun S => f_X5_next N S x y z) := by
  rintro SC SM ⟨v, v1, v2, k0, k1, r, w0, w1, w2, w3, w4, hC, hM⟩
  have n6 := w0.1
  simp only [f_X4_next, f_X5_next, b_X4_next_27, b_X5_next_21, c_hasShop N SC x hC.1.1 n6, m_isShop N SM x hM.1.1 n6, c_hasShop N SC y hC.1.1 n6, m_isShop N SM y hM.1.1 n6, bd2_s, tf_if, c_bad, m_bad]
  have bad : ∃ (r' : Int32) (SC' SM' : ST), some ((-2 : Int32), us SC 53 0 (SC 53 0 + 1)) = some (r', SC') ∧ some ((-2 : Int32), us SM 4 0 (SM 4 0 + 1)) = some (r', SM') ∧ Rl SC' SM' := ⟨_, _, _, rfl, rfl, v, v1, v2, k0, k1, _, w0, w1, w2, w3, w4, RC_ref hC (by decide), RM_ref hM (by decide)⟩
  by_cases h : 0 ≤ x.toInt ∧ x.toInt < (v 0 0 : Int)
  · rw [if_pos h, if_pos h]
    by_cases h' : 0 ≤ y.toInt ∧ y.toInt < (v 0 0 : Int)
    · rw [if_pos h', if_pos h']
      obtain ⟨a, ha, rfl⟩ := of_rng (x := x) (m := 5) (by omega) (by decide)
      obtain ⟨b, hb, rfl⟩ := of_rng (x := y) (m := 5) (by omega) (by decide)
      rw [nt (by omega)] at h h'
      by_cases hab : a = b
      · rw [if_pos (show nI a = nI b by rw [hab]), if_pos (show nI a = nI b by rw [hab])]
        exact bad
      · have hne : ¬ nI a = nI b := fun q => hab ((nI_eq (by omega) (by omega)).mp q)
        rw [if_neg hne, if_neg hne, c_areNear N w0 hC.1 (by omega) (by omega), m_areNear N w0 hM.1 (by omega) (by omega), bd2_s, bd2_s, c_no, m_no, bd2_s, bd2_s]
        have no : ∃ (r' : Int32) (SC' SM' : ST), some ((-3 : Int32), us SC 53 1 (SC 53 1 + 1)) = some (r', SC') ∧ some ((-3 : Int32), us SM 4 1 (SM 4 1 + 1)) = some (r', SM') ∧ Rl SC' SM' := ⟨_, _, _, rfl, rfl, v, v1, v2, k0, k1, _, w0, w1, w2, w3, w4, RC_ref hC (by decide), RM_ref hM (by decide)⟩
        by_cases hf : bitN (v 5 a) b = 1
        · rw [tf_t hf]
          rcases hz with rfl | rfl
          · rw [if_neg (show ¬ (1 : Int32) = 0 by decide), if_neg (show ¬ (1 : Int32) = 0 by decide)]
            obtain ⟨g1, g2, g3, g4⟩ := wf_re w0 w1.2 (a := a) (b := b) (by omega) (by omega) hab hf
            have e00 : reN v a b 0 0 = v 0 0 := re_o v a b (by decide) 0
            obtain ⟨T1, d1, q1, f1⟩ := m_turnOff N g1 (S := SM) (a := a) (b := b) (by omega) (by omega) hab (by rw [g4]; exact hM.1) g3
            obtain ⟨S1, e1, q2, f2⟩ := c_setOff N g1 (S := SC) (a := a) (b := b) (by omega) (by omega) hab (by rw [g4]; exact hC.1) g3
            rw [d1, bd1_s, e1, bd1_s]
            exact ⟨_, _, _, rfl, rfl, reN v a b, v1, v2, k0, k1, r, g1, ⟨w1.1, g2⟩, w2, w3, w4, RC_v q2 (fun i hi => f2 i (by omega)) (z4_5 f2 hC.2.2.2.2.2.2) hC, RM_v q1 (fun i hi => f1 i (by omega)) hM⟩
          · rw [if_pos (show (1 : Int32) = 1 from rfl), if_pos (show (1 : Int32) = 1 from rfl)]
            exact no
        · have hf0 : bitN (v 5 a) b = 0 := by have := bit_01 (v 5 a) b; omega
          rw [tf_f hf]
          rcases hz with rfl | rfl
          · rw [if_pos (show (0 : Int32) = 0 from rfl), if_pos (show (0 : Int32) = 0 from rfl)]
            exact no
          · rw [if_neg (show ¬ (0 : Int32) = 1 by decide), if_neg (show ¬ (0 : Int32) = 1 by decide)]
            obtain ⟨T1, d1, q1, f1⟩ := m_turnOn N w0 hM.1 (a := a) (b := b) (by omega) (by omega) hab hf0
            obtain ⟨S1, e1, q2, f2⟩ := c_setOn N w0 hC.1 (a := a) (b := b) (by omega) (by omega) hab hf0
            rw [d1, bd1_s, e1, bd1_s]
            exact ⟨_, _, _, rfl, rfl, adN v a b, v1, v2, k0, k1, r, wf_ad w0 (by omega) (by omega) hab, ⟨w1.1, nb_ad w0 w1.2 (by omega) (by omega)⟩, w2, w3, w4, RC_v q2 (fun i hi => f2 i (by omega)) (z4_5 f2 hC.2.2.2.2.2.2) hC, RM_v q1 (fun i hi => f1 i (by omega)) hM⟩
    · rw [if_neg h', if_neg h']; exact bad
  · rw [if_neg h, if_neg h]; exact bad
-- type
theorem any_nI (z : Int32) : ∃ n, z = nI n := ⟨z.toBitVec.toNat, Int32.toBitVec_inj.mp (by simp [nI])⟩
theorem byte_of (z : Int32) : ∃ b, b < 256 ∧ z &&& 255 = nI b := by
  obtain ⟨n, rfl⟩ := any_nI z
  refine ⟨n % 2 ^ 8, Nat.mod_lt _ (by decide), ?_⟩
  rw [show (255 : Int32) = nI (2 ^ 8 - 1) from rfl, fa_mask]
theorem byte_32 (y : Int64) : (y &&& 255).toInt32 = y.toInt32 &&& 255 := by
  rw [Int64.toInt32_and]
  rfl
theorem wf_ty {v : VW} (hw : wfV v) (h : v 0 5 < 200) {b : Nat} (hb : b < 256) : wfV (sv (sv v 7 (v 0 5) b) 0 5 (v 0 5 + 1)) := by
  obtain ⟨a1, a2, a3, a4, a5, a6, a7, a8, a9, b1, b2, b3⟩ := hw
  refine ⟨a1, a2, a3, a4, a5, h, a7, a8, a9, b1, fun i hi => ?_, b3⟩
  rw [sv_e] at hi
  show sv v 7 (v 0 5) b 7 i < 256
  by_cases e : i = v 0 5
  · rw [e, sv_e]; exact hb
  · rw [sv_j _ _ _ _ e]; exact b2 i (by omega)
theorem ty_lim (v : VW) (b : Nat) : ∀ i, i ≤ 9 → lim (sv (sv v 7 (v 0 5) b) 0 5 (v 0 5 + 1)) i ≤ upL (lim v) 7 (v 0 5 + 1) i := by
  intro i _
  rw [lim_5, lim_n (by decide)]
  exact Nat.le_refl _
theorem ty_loop (N : Nat) (x : Int64) : ∀ (j n : Nat) {v : VW} {SC SM : ST}, wfV v → nbV v → rlC v SC 0 → rlM v (SM 1) → v 0 5 + j ≤ 200 → j < n →
    ∃ r v' SC' SM', b_X4_type_48 N n SC x (nI j - 1) = some (r, SC') ∧ b_X5_type_41 N n SM x (nI j - 1) = some (r, SM') ∧ wfV v' ∧ nbV v' ∧ rlC v' SC' 0 ∧ rlM v' (SM' 1) ∧ (∀ i, i ≠ 0 ∧ i ≠ 7 → SC' i = SC i) ∧ ∀ i, i ≠ 1 → SM' i = SM i := by
  intro j
  induction j with
  | zero =>
    intro n v SC SM hw hn rc rm _ hj
    obtain ⟨m, rfl⟩ : ∃ m, n = m + 1 := ⟨n - 1, by omega⟩
    rw [b_X4_type_48, b_X5_type_41, if_pos (show nI 0 - 1 < 0 by decide), if_pos (show nI 0 - 1 < 0 by decide), f_X5_textLong, bd2_s, rc.2.2.2.2.2.1, rm.2.2.2.2.2.1]
    exact ⟨_, v, SC, SM, rfl, rfl, hw, hn, rc, rm, fun _ _ => rfl, fun _ _ => rfl⟩
  | succ j ih =>
    intro n v SC SM hw hn rc rm ht hj
    obtain ⟨m, rfl⟩ : ∃ m, n = m + 1 := ⟨n - 1, by omega⟩
    rw [b_X4_type_48, b_X5_type_41, nI_m1 (by omega), Nat.add_sub_cancel, if_neg (nI_pos (by omega)), if_neg (nI_pos (by omega)), f_X5_textLong, bd2_s, rc.2.2.2.2.2.1, rm.2.2.2.2.2.1, byte_32]
    obtain ⟨b, hb, e⟩ := byte_of ((x.toUInt64 >>> (((8 * nI j : Int32)).toInt64.toUInt64 &&& Int64.toUInt64 63)).toInt64).toInt32
    rw [e, show (47 : Int32) = nI 47 from rfl, nI_add, ck (by omega) (by decide), ck (by omega) (by decide), nm_s, nm_s, nm_s, nm_s, nI_clamp (by omega), nI_clamp (by omega), us_n _ _ _ _ (show 0 ≠ 7 by decide), us_k _ _ _ _ (show 46 ≠ 47 + v 0 5 by omega), rc.2.2.2.2.2.1, rm.2.2.2.2.2.1, nI_1, show nI j + (-1) = nI j - 1 by rw [Int32.sub_eq_add_neg]]
    have l7 : lim v 7 = v 0 5 := rfl
    have rc' : rlC (sv (sv v 7 (v 0 5) b) 0 5 (v 0 5 + 1)) (us (us SC 7 (v 0 5) (nI b)) 0 11 (nI (v 0 5 + 1))) 0 := by
      obtain ⟨r1, L1⟩ := rC_ap (rC_of rc) (fun i _ => lim_cap hw i) (a := 7) (b := v 0 5) (by decide) (show v 0 5 < 200 by omega) (Nat.le_refl _) b (m := 7) rfl rfl
      exact rC_to (rC_ct r1 L1 (b := 5) (by decide) (v 0 5 + 1) (ty_lim v b) rfl rfl)
    have rm' : rlM (sv (sv v 7 (v 0 5) b) 0 5 (v 0 5 + 1)) (us (us SM 1 (47 + v 0 5) (nI b)) 1 46 (nI (v 0 5 + 1)) 1) := by
      rw [us_r, us_r]
      obtain ⟨r1, L1⟩ := rM_ap (rM_of rm) (fun i _ => lim_cap hw i) (a := 7) (b := v 0 5) (by decide) (show v 0 5 < 200 by omega) (Nat.le_refl _) b (k := 47 + v 0 5) rfl rfl
      exact rM_to (rM_ct r1 L1 (b := 5) (by decide) (v 0 5 + 1) (ty_lim v b) rfl rfl)
    obtain ⟨r, v', S2, T2, e2, d2, a1, a2, a3, a4, a5, a6⟩ := ih m (v := sv (sv v 7 (v 0 5) b) 0 5 (v 0 5 + 1)) (wf_ty hw (by omega) hb) hn rc' rm' (by rw [sv_e]; omega) (by omega)
    exact ⟨r, v', S2, T2, e2, d2, a1, a2, a3, a4, fun i hi => by rw [a5 i hi, us_n _ _ _ _ hi.1, us_n _ _ _ _ hi.2], fun i hi => by rw [a6 i hi, us_n _ _ _ _ hi, us_n _ _ _ _ hi]⟩
theorem st_type {N : Nat} (hN : 20 ≤ N) (x : Int64) (y : Int32) : StI Rl (fun S => f_X4_type N S x y) (fun S => f_X5_type N S x y) := by
  rintro SC SM ⟨v, v1, v2, k0, k1, r, w0, w1, w2, w3, w4, hC, hM⟩
  have t200 := w0.2.2.2.2.2.1
  simp only [f_X4_type, f_X5_type, c_isIn, m_in, bd2_s, tf_if, Int32.toInt_toInt64, c_bad, m_bad, c_full, m_full, f_X5_textLong]
  rw [show (1 : Int64).toInt = 1 from rfl, show (8 : Int64).toInt = 8 from rfl, show (1 : Int32).toInt = 1 from rfl, show (8 : Int32).toInt = 8 from rfl]
  by_cases hy : 1 ≤ y.toInt ∧ y.toInt ≤ 8
  · rw [if_pos hy, if_pos hy]
    obtain ⟨q, hq, rfl⟩ := of_rng (x := y) (m := 8) (by omega) (by decide)
    rw [hC.1.2.2.2.2.2.1, hM.1.2.2.2.2.2.1, nI_add, show (200 : Int32) = nI 200 from rfl]
    by_cases hl : v 0 5 + q ≤ 200
    · rw [if_pos ((nI_leI (by omega) (by omega)).mpr hl), if_pos ((nI_leI (by omega) (by omega)).mpr hl)]
      obtain ⟨r', v', S2, T2, e2, d2, a1, a2, a3, a4, a5, a6⟩ := ty_loop N x q N w0 w1.2 hC.1 hM.1 hl (by omega)
      rw [e2, d2]
      refine ⟨_, _, _, rfl, rfl, v', v1, v2, k0, k1, r, a1, ⟨w1.1, a2⟩, w2, w3, w4, RC_v a3 (fun i hi => a5 i (by omega)) ?_ hC, RM_v a4 (fun i hi => a6 i (by omega)) hM⟩
      rw [a5 42 (by decide), a5 43 (by decide), a5 44 (by decide), a5 45 (by decide)]
      exact hC.2.2.2.2.2.2
    · rw [if_neg (fun z => hl ((nI_leI (by omega) (by omega)).mp z)), if_neg (fun z => hl ((nI_leI (by omega) (by omega)).mp z))]
      exact ⟨_, _, _, rfl, rfl, v, v1, v2, k0, k1, _, w0, w1, w2, w3, w4, RC_ref hC (by decide), RM_ref hM (by decide)⟩
  · rw [if_neg hy, if_neg hy]
    exact ⟨_, _, _, rfl, rfl, v, v1, v2, k0, k1, _, w0, w1, w2, w3, w4, RC_ref hC (by decide), RM_ref hM (by decide)⟩
