-- a shop more
def apS (v : VW) (a b c d : Nat) : VW := sv (sv (sv (sv (sv (sv v 1 (v 0 0) a) 2 (v 0 0) b) 3 (v 0 0) c) 4 (v 0 0) d) 5 (v 0 0) 0) 0 0 (v 0 0 + 1)
theorem ap_old (v : VW) (a b c d : Nat) {i j : Nat} (hi : 1 ≤ i) (hj : i ≤ 5 → j ≠ v 0 0) : apS v a b c d i j = v i j := by
  unfold apS
  rw [sv_i _ _ _ _ (by omega)]
  by_cases h : i ≤ 5
  · rw [sv_j _ _ _ _ (hj h), sv_j _ _ _ _ (hj h), sv_j _ _ _ _ (hj h), sv_j _ _ _ _ (hj h), sv_j _ _ _ _ (hj h)]
  · rw [sv_i _ _ _ _ (by omega), sv_i _ _ _ _ (by omega), sv_i _ _ _ _ (by omega), sv_i _ _ _ _ (by omega), sv_i _ _ _ _ (by omega)]
theorem ap_0 (v : VW) (a b c d : Nat) {j : Nat} (hj : j ≠ 0) : apS v a b c d 0 j = v 0 j := by
  unfold apS
  rw [sv_j _ _ _ _ hj, sv_i _ _ _ _ (by decide), sv_i _ _ _ _ (by decide), sv_i _ _ _ _ (by decide), sv_i _ _ _ _ (by decide), sv_i _ _ _ _ (by decide)]
theorem ap_00 (v : VW) (a b c d : Nat) : apS v a b c d 0 0 = v 0 0 + 1 := sv_e _ _ _ _
theorem ap_new (v : VW) (a b c d : Nat) : apS v a b c d 1 (v 0 0) = a ∧ apS v a b c d 2 (v 0 0) = b ∧ apS v a b c d 3 (v 0 0) = c ∧ apS v a b c d 4 (v 0 0) = d ∧ apS v a b c d 5 (v 0 0) = 0 := by
  unfold apS
  refine ⟨?_, ?_, ?_, ?_, ?_⟩
  · rw [sv_i _ _ _ _ (by decide), sv_i _ _ _ _ (by decide), sv_i _ _ _ _ (by decide), sv_i _ _ _ _ (by decide), sv_i _ _ _ _ (by decide), sv_e]
  · rw [sv_i _ _ _ _ (by decide), sv_i _ _ _ _ (by decide), sv_i _ _ _ _ (by decide), sv_i _ _ _ _ (by decide), sv_e]
  · rw [sv_i _ _ _ _ (by decide), sv_i _ _ _ _ (by decide), sv_i _ _ _ _ (by decide), sv_e]
  · rw [sv_i _ _ _ _ (by decide), sv_i _ _ _ _ (by decide), sv_e]
  · rw [sv_i _ _ _ _ (by decide), sv_e]
theorem bit_0 (s : Nat) : bitN 0 s = 0 := by unfold bitN; rw [Nat.zero_div]
theorem wf_ap {v : VW} (hw : wfV v) (hn : nbV v) (h6 : v 0 0 < 6) {a b c d : Nat} (ha : a ≤ 5) (hb : b ≤ 20) (hc : 1 ≤ c ∧ c ≤ 30) (hd : d ≤ 240) : wfV (apS v a b c d) ∧ nbV (apS v a b c d) := by
  obtain ⟨a1, a2, a3, a4, a5, a6, a7, a8, a9, b1, b2, b3⟩ := hw
  have e00 := ap_00 v a b c d
  have e0 : ∀ j, j ≠ 0 → apS v a b c d 0 j = v 0 j := fun j h => ap_0 v a b c d h
  obtain ⟨w1, w2, w3, w4, w5⟩ := ap_new v a b c d
  have eo : ∀ i j, 1 ≤ i → (i ≤ 5 → j ≠ v 0 0) → apS v a b c d i j = v i j := fun i j h1 h2 => ap_old v a b c d h1 h2
  refine ⟨⟨?_, ?_, ?_, ?_, ?_, ?_, ?_, fun i hi => ?_, fun i j hi hj => ?_, fun i hi => ?_, fun i hi => ?_, fun i hi => ?_⟩, fun i j hi hj hj6 => ?_⟩
  · rw [e00]; omega
  · rw [e0 1 (by decide)]; exact a2
  · rw [e0 2 (by decide)]; exact a3
  · rw [e0 3 (by decide)]; exact a4
  · rw [e0 4 (by decide)]; exact a5
  · rw [e0 5 (by decide)]; exact a6
  · rw [e0 6 (by decide)]; exact a7
  · rw [e00] at hi
    by_cases e : i = v 0 0
    · rw [e, w1, w2, w3, w4, w5]
      exact ⟨ha, hb, hc, hd, by decide⟩
    · rw [eo 1 i (by decide) (fun _ => e), eo 2 i (by decide) (fun _ => e), eo 3 i (by decide) (fun _ => e), eo 4 i (by decide) (fun _ => e), eo 5 i (by decide) (fun _ => e)]
      exact a8 i (by omega)
  · rw [e00] at hi hj
    by_cases e : i = v 0 0
    · by_cases f : j = v 0 0
      · rw [e, f]
      · rw [e, w5, eo 5 j (by decide) (fun _ => f), bit_0, hn j (v 0 0) (by omega) (Nat.le_refl _) h6]
    · by_cases f : j = v 0 0
      · rw [f, w5, eo 5 i (by decide) (fun _ => e), bit_0, hn i (v 0 0) (by omega) (Nat.le_refl _) h6]
      · rw [eo 5 i (by decide) (fun _ => e), eo 5 j (by decide) (fun _ => f)]
        exact a9 i j (by omega) (by omega)
  · rw [e0 4 (by decide)] at hi
    rw [e00, eo 6 i (by decide) (fun h => absurd h (by decide))]
    have := b1 i hi
    omega
  · rw [e0 5 (by decide)] at hi
    rw [eo 7 i (by decide) (fun h => absurd h (by decide))]
    exact b2 i hi
  · rw [e0 6 (by decide)] at hi
    rw [eo 8 i (by decide) (fun h => absurd h (by decide)), eo 9 i (by decide) (fun h => absurd h (by decide))]
    exact b3 i hi
  · rw [e00] at hi hj
    by_cases e : i = v 0 0
    · rw [e, w5, bit_0]
    · rw [eo 5 i (by decide) (fun _ => e)]
      exact hn i j (by omega) (by omega) hj6
theorem ap_lim (v : VW) (a b c d : Nat) : ∀ i, i ≤ 9 → lim (apS v a b c d) i ≤ upL (upL (upL (upL (upL (lim v) 1 (v 0 0 + 1)) 2 (v 0 0 + 1)) 3 (v 0 0 + 1)) 4 (v 0 0 + 1)) 5 (v 0 0 + 1) i := by
  intro i hi
  unfold apS
  rw [lim_0, lim_n (by decide), lim_n (by decide), lim_n (by decide), lim_n (by decide), lim_n (by decide)]
  unfold upL
  by_cases h : 1 ≤ i ∧ i ≤ 5
  · rw [if_pos h]
    rcases (show i = 1 ∨ i = 2 ∨ i = 3 ∨ i = 4 ∨ i = 5 by omega) with rfl | rfl | rfl | rfl | rfl <;> simp
  · rw [if_neg h, if_neg (by omega), if_neg (by omega), if_neg (by omega), if_neg (by omega), if_neg (by omega)]
    exact Nat.le_refl _
theorem lim_15 (v : VW) {i : Nat} (h : 1 ≤ i ∧ i ≤ 5) : lim v i = v 0 0 := by
  unfold lim
  rw [if_neg (by omega), if_pos h.2]
theorem upL_o (L : Nat → Nat) {a m i : Nat} (h : i ≠ a) : upL L a m i = L i := if_neg h
theorem rC_shop {v : VW} (hw : wfV v) (h6 : v 0 0 < 6) {S : ST} {k : Nat} (hr : rlC v S k) (a b c d : Nat) {xa xb xc xd : Int32} (ha : xa = nI a) (hb : xb = nI b) (hc : xc = nI c) (hd : xd = nI d) : rlC (apS v a b c d) (us (us (us (us (us (us S (k + 1) (v 0 0) xa) (k + 2) (v 0 0) xb) (k + 3) (v 0 0) xc) (k + 4) (v 0 0) xd) (k + 5) (v 0 0) 0) k 0 (nI (v 0 0 + 1))) k := by
  have l : ∀ i, 1 ≤ i ∧ i ≤ 5 → lim v i = v 0 0 := fun i h => lim_15 v h
  obtain ⟨r1, L1⟩ := rC_ap (rC_of hr) (fun i _ => lim_cap hw i) (a := 1) (b := v 0 0) (by decide) h6 (by rw [l 1 (by decide)]; exact Nat.le_refl _) a rfl ha
  obtain ⟨r2, L2⟩ := rC_ap r1 L1 (a := 2) (b := v 0 0) (by decide) h6 (by rw [upL_o _ (by decide), l 2 (by decide)]; exact Nat.le_refl _) b rfl hb
  obtain ⟨r3, L3⟩ := rC_ap r2 L2 (a := 3) (b := v 0 0) (by decide) h6 (by rw [upL_o _ (by decide), upL_o _ (by decide), l 3 (by decide)]; exact Nat.le_refl _) c rfl hc
  obtain ⟨r4, L4⟩ := rC_ap r3 L3 (a := 4) (b := v 0 0) (by decide) h6 (by rw [upL_o _ (by decide), upL_o _ (by decide), upL_o _ (by decide), l 4 (by decide)]; exact Nat.le_refl _) d rfl hd
  obtain ⟨r5, L5⟩ := rC_ap r4 L4 (a := 5) (b := v 0 0) (by decide) h6 (by rw [upL_o _ (by decide), upL_o _ (by decide), upL_o _ (by decide), upL_o _ (by decide), l 5 (by decide)]; exact Nat.le_refl _) 0 rfl rfl
  exact rC_to (rC_ct r5 L5 (b := 0) (by decide) (v 0 0 + 1) (ap_lim v a b c d) rfl rfl)
theorem rM_shop {v : VW} (hw : wfV v) (h6 : v 0 0 < 6) {f : Nat → Int32} (hr : rlM v f) (a b c d : Nat) {xa xb xc xd : Int32} (ha : xa = nI a) (hb : xb = nI b) (hc : xc = nI c) (hd : xd = nI d) : rlM (apS v a b c d) (upd (upd (upd (upd (upd (upd f (4 * v 0 0) xa) (4 * v 0 0 + 1) xb) (4 * v 0 0 + 2) xc) (4 * v 0 0 + 3) xd) (24 + v 0 0) 0) 259 (nI (v 0 0 + 1))) := by
  have l : ∀ i, 1 ≤ i ∧ i ≤ 5 → lim v i = v 0 0 := fun i h => lim_15 v h
  obtain ⟨r1, L1⟩ := rM_ap (rM_of hr) (fun i _ => lim_cap hw i) (a := 1) (b := v 0 0) (by decide) h6 (by rw [l 1 (by decide)]; exact Nat.le_refl _) a (k := 4 * v 0 0) rfl ha
  obtain ⟨r2, L2⟩ := rM_ap r1 L1 (a := 2) (b := v 0 0) (by decide) h6 (by rw [upL_o _ (by decide), l 2 (by decide)]; exact Nat.le_refl _) b (k := 4 * v 0 0 + 1) rfl hb
  obtain ⟨r3, L3⟩ := rM_ap r2 L2 (a := 3) (b := v 0 0) (by decide) h6 (by rw [upL_o _ (by decide), upL_o _ (by decide), l 3 (by decide)]; exact Nat.le_refl _) c (k := 4 * v 0 0 + 2) rfl hc
  obtain ⟨r4, L4⟩ := rM_ap r3 L3 (a := 4) (b := v 0 0) (by decide) h6 (by rw [upL_o _ (by decide), upL_o _ (by decide), upL_o _ (by decide), l 4 (by decide)]; exact Nat.le_refl _) d (k := 4 * v 0 0 + 3) rfl hd
  obtain ⟨r5, L5⟩ := rM_ap r4 L4 (a := 5) (b := v 0 0) (by decide) h6 (by rw [upL_o _ (by decide), upL_o _ (by decide), upL_o _ (by decide), upL_o _ (by decide), l 5 (by decide)]; exact Nat.le_refl _) 0 (k := 24 + v 0 0) rfl rfl
  exact rM_to (rM_ct r5 L5 (b := 0) (by decide) (v 0 0 + 1) (ap_lim v a b c d) rfl rfl)
theorem sl0 (s : Nat) : (0 + ((4 : Int32) * nI s)) = nI (4 * s) := by
  rw [show (0 : Int32) = nI 0 from rfl, show (4 : Int32) = nI 4 from rfl, pk_mul, nI_add, Nat.zero_add]
theorem c_addShop0 (N : Nat) {v : VW} {S : ST} (hr : rlC v S 0) (h6 : v 0 0 < 6) (x1 x2 x3 x4 : Int32) : f_X2_addShop_0 N S x1 x2 x3 x4 = some (us (us (us (us (us (us S 1 (v 0 0) x1) 2 (v 0 0) x2) 3 (v 0 0) x3) 4 (v 0 0) x4) 5 (v 0 0) 0) 0 0 (nI (v 0 0 + 1))) := by
  have i6 := ixo (k := v 0 0) (L := 6) h6 (by decide)
  have e := hr.1
  unfold f_X2_addShop_0
  simp only [nm_s]
  simp only [us_n _ _ _ _ (show 0 ≠ 1 by decide), us_n _ _ _ _ (show 0 ≠ 2 by decide), us_n _ _ _ _ (show 0 ≠ 3 by decide), us_n _ _ _ _ (show 0 ≠ 4 by decide), us_n _ _ _ _ (show 0 ≠ 5 by decide)]
  rw [e]
  simp only [if_neg i6]
  rw [show (6 : Int32) = nI 6 from rfl, if_neg (fun z => by have := (nI_leI (by omega) (by omega)).mp z; omega), nI_clamp (by omega), nI_1]
-- shop
theorem st_shop (N : Nat) (x1 x2 x3 x4 : Int32) : StI Rl (fun S => f_X4_shop N S x1 x2 x3 x4) (fun S => f_X5_shop N S x1 x2 x3 x4) := by
  rintro SC SM ⟨v, v1, v2, k0, k1, r, w0, w1, w2, w3, w4, hC, hM⟩
  have n6 := w0.1
  simp only [f_X4_shop, f_X5_shop, b_X4_shop_41, m_isTold, c_isIn, bd2_s, tf_if, c_bad, m_bad, c_full, m_full, f_X5_shops]
  rw [show (0 : Int32).toInt = 0 from rfl, show (1 : Int32).toInt = 1 from rfl, show (5 : Int32).toInt = 5 from rfl, show (20 : Int32).toInt = 20 from rfl, show (30 : Int32).toInt = 30 from rfl, show (240 : Int32).toInt = 240 from rfl]
  have bad : ∃ (r' : Int32) (SC' SM' : ST), some ((-2 : Int32), us SC 53 0 (SC 53 0 + 1)) = some (r', SC') ∧ some ((-2 : Int32), us SM 4 0 (SM 4 0 + 1)) = some (r', SM') ∧ Rl SC' SM' := ⟨_, _, _, rfl, rfl, v, v1, v2, k0, k1, _, w0, w1, w2, w3, w4, RC_ref hC (by decide), RM_ref hM (by decide)⟩
  by_cases h1 : 0 ≤ x1.toInt ∧ x1.toInt ≤ 5
  · rw [if_pos h1]
    by_cases h2 : 0 ≤ x2.toInt ∧ x2.toInt ≤ 20
    · rw [if_pos h2]
      by_cases h3 : 1 ≤ x3.toInt ∧ x3.toInt ≤ 30
      · rw [if_pos h3]
        by_cases h4 : 0 ≤ x4.toInt ∧ x4.toInt ≤ 240
        · rw [if_pos h4, if_pos (show (0 ≤ x1.toInt ∧ x1.toInt ≤ 5) ∧ (0 ≤ x2.toInt ∧ x2.toInt ≤ 20) ∧ (1 ≤ x3.toInt ∧ x3.toInt ≤ 30) ∧ (0 ≤ x4.toInt ∧ x4.toInt ≤ 240) from ⟨h1, h2, h3, h4⟩), hC.1.1, hM.1.1]
          by_cases hn : v 0 0 < 6
          · obtain ⟨a, ha, e1⟩ := of_rng (m := 5) h1 (by decide)
            obtain ⟨b, hb, e2⟩ := of_rng (m := 20) h2 (by decide)
            obtain ⟨c, hc, e3⟩ := of_rng (x := x3) (m := 30) (by omega) (by decide)
            obtain ⟨d, hd, e4⟩ := of_rng (m := 240) h4 (by decide)
            have hc1 : 1 ≤ c := by have := h3.1; rw [e3, nt (by omega)] at this; omega
            rw [show (6 : Int32) = nI 6 from rfl, if_pos ((nI_ltI (by omega) (by omega)).mpr hn), if_neg (fun z => by have := (nI_eq (by omega) (by omega)).mp z; omega), c_addShop0 N hC.1 hn, bd1_s, us_s, show nI (v 0 0 + 1) - 1 = nI (v 0 0) by rw [nI_m1 (by omega)]; rfl]
            have i0 := ixo (k := 4 * v 0 0) (L := 261) (by omega) (by decide)
            have i1 := ixo (k := 4 * v 0 0 + 1) (L := 261) (by omega) (by decide)
            have i2 := ixo (k := 4 * v 0 0 + 2) (L := 261) (by omega) (by decide)
            have i3 := ixo (k := 4 * v 0 0 + 3) (L := 261) (by omega) (by decide)
            have i5 := ixo (k := 24 + v 0 0) (L := 261) (by omega) (by decide)
            rw [sl0, nI_1, show (2 : Int32) = nI 2 from rfl, show (3 : Int32) = nI 3 from rfl, show (24 : Int32) = nI 24 from rfl, nI_add, nI_add, nI_add]
            simp only [if_neg i0, if_neg i1, if_neg i2, if_neg i3, if_neg i5, nm_s]
            rw [nI_clamp (show 4 * v 0 0 < 2 ^ 31 by omega), nI_clamp (show 4 * v 0 0 + 1 < 2 ^ 31 by omega), nI_clamp (show 4 * v 0 0 + 2 < 2 ^ 31 by omega), nI_clamp (show 4 * v 0 0 + 3 < 2 ^ 31 by omega), nI_clamp (show 24 + v 0 0 < 2 ^ 31 by omega)]
            rw [us_k _ _ _ _ (show 259 ≠ 24 + v 0 0 by omega), us_k _ _ _ _ (show 259 ≠ 4 * v 0 0 + 3 by omega), us_k _ _ _ _ (show 259 ≠ 4 * v 0 0 + 2 by omega), us_k _ _ _ _ (show 259 ≠ 4 * v 0 0 + 1 by omega), us_k _ _ _ _ (show 259 ≠ 4 * v 0 0 by omega), hM.1.1, nI_1]
            obtain ⟨wf, wn⟩ := wf_ap w0 w1.2 hn ha hb ⟨hc1, hc⟩ hd
            refine ⟨_, _, _, rfl, rfl, apS v a b c d, v1, v2, k0, k1, r, wf, ⟨w1.1, wn⟩, w2, w3, w4, ?_, ?_⟩
            · exact RC_v (rC_shop w0 hn hC.1 a b c d e1 e2 e3 e4) (fun i hi => by rw [us_n _ _ _ _ (by omega), us_n _ _ _ _ (by omega), us_n _ _ _ _ (by omega), us_n _ _ _ _ (by omega), us_n _ _ _ _ (by omega), us_n _ _ _ _ (by omega)]) (z4_n (by omega) (z4_n (by omega) (z4_n (by omega) (z4_n (by omega) (z4_n (by omega) (z4_n (by omega) hC.2.2.2.2.2.2)))))) hC
            · refine RM_v ?_ (fun i hi => by rw [us_n _ _ _ _ (by omega), us_n _ _ _ _ (by omega), us_n _ _ _ _ (by omega), us_n _ _ _ _ (by omega), us_n _ _ _ _ (by omega), us_n _ _ _ _ (by omega)]) hM
              rw [us_r, us_r, us_r, us_r, us_r, us_r]
              exact rM_shop w0 hn hM.1 a b c d e1 e2 e3 e4
          · rw [show (6 : Int32) = nI 6 from rfl, if_neg (fun z => by have := (nI_ltI (by omega) (by omega)).mp z; omega), if_pos (show nI (v 0 0) = nI 6 by rw [show v 0 0 = 6 by omega])]
            exact ⟨_, _, _, rfl, rfl, v, v1, v2, k0, k1, _, w0, w1, w2, w3, w4, RC_ref hC (by decide), RM_ref hM (by decide)⟩
        · rw [if_neg h4, if_neg (fun z => h4 z.2.2.2)]; exact bad
      · rw [if_neg h3, if_neg (fun z => h3 z.2.2.1)]; exact bad
    · rw [if_neg h2, if_neg (fun z => h2 z.2.1)]; exact bad
  · rw [if_neg h1, if_neg (fun z => h1 z.1)]; exact bad
-- buyer
theorem st_buyer (N : Nat) (x y : Int32) : StI Rl (fun S => f_X4_buyer N S x y) (fun S => f_X5_buyer N S x y) := by
  rintro SC SM ⟨v, v1, v2, k0, k1, r, w0, w1, w2, w3, w4, hC, hM⟩
  have n6 := w0.1
  have b6 := w0.2.2.2.2.2.2.1
  simp only [f_X4_buyer, f_X5_buyer, b_X4_buyer_21, b_X5_buyer_20, c_hasShop N SC x hC.1.1 n6, m_isShop N SM x hM.1.1 n6, c_isIn, m_in, bd2_s, tf_if, Int32.toInt_toInt64, c_bad, m_bad, c_full, m_full, nm_s]
  rw [show (0 : Int64).toInt = 0 from rfl, show (99 : Int64).toInt = 99 from rfl, show (0 : Int32).toInt = 0 from rfl, show (99 : Int32).toInt = 99 from rfl]
  have bad : ∃ (r' : Int32) (SC' SM' : ST), some ((-2 : Int32), us SC 53 0 (SC 53 0 + 1)) = some (r', SC') ∧ some ((-2 : Int32), us SM 4 0 (SM 4 0 + 1)) = some (r', SM') ∧ Rl SC' SM' := ⟨_, _, _, rfl, rfl, v, v1, v2, k0, k1, _, w0, w1, w2, w3, w4, RC_ref hC (by decide), RM_ref hM (by decide)⟩
  by_cases h : 0 ≤ x.toInt ∧ x.toInt < (v 0 0 : Int)
  · rw [if_pos h, if_pos h]
    obtain ⟨s, hs, rfl⟩ := of_rng (x := x) (m := 5) (by omega) (by decide)
    rw [nt (by omega)] at h
    by_cases hy : 0 ≤ y.toInt ∧ y.toInt ≤ 99
    · rw [if_pos hy, if_pos hy]
      obtain ⟨q, hq, rfl⟩ := of_rng (m := 99) hy (by decide)
      simp only [us_n _ _ _ _ (show 0 ≠ 8 by decide), us_n _ _ _ _ (show 0 ≠ 9 by decide)]
      rw [hC.1.2.2.2.2.2.2.1, hM.1.2.2.2.2.2.2.1, show (6 : Int32) = nI 6 from rfl]
      by_cases hn : v 0 6 < 6
      · have i6 := ixo (k := v 0 6) (L := 6) hn (by decide)
        have i7 := ixo (k := 247 + 2 * v 0 6) (L := 261) (by omega) (by decide)
        have i8 := ixo (k := 247 + 2 * v 0 6 + 1) (L := 261) (by omega) (by decide)
        rw [if_pos ((nI_ltI (by omega) (by omega)).mpr hn), if_neg (show ¬ nI (v 0 6) = nI 6 from fun z => by have := (nI_eq (by omega) (by omega)).mp z; omega), show (247 : Int32) = nI 247 from rfl, show (2 : Int32) = nI 2 from rfl, pk_mul, nI_add, nI_1, nI_1]
        simp only [if_neg i6, if_neg i7, if_neg i8]
        rw [nI_clamp (show v 0 6 < 2 ^ 31 by omega), nI_clamp (show 247 + 2 * v 0 6 < 2 ^ 31 by omega), nI_clamp (show 247 + 2 * v 0 6 + 1 < 2 ^ 31 by omega), us_s, us_k _ _ _ _ (show 260 ≠ 247 + 2 * v 0 6 + 1 by omega), us_k _ _ _ _ (show 260 ≠ 247 + 2 * v 0 6 by omega), hM.1.2.2.2.2.2.2.1, nI_1, show nI (v 0 6 + 1) - 1 = nI (v 0 6) by rw [nI_m1 (by omega)]; rfl]
        have hl : ∀ i, i ≤ 9 → lim (sv (sv (sv v 8 (v 0 6) s) 9 (v 0 6) q) 0 6 (v 0 6 + 1)) i ≤ upL (upL (lim v) 8 (v 0 6 + 1)) 9 (v 0 6 + 1) i := by
          intro i hi
          rw [lim_6, lim_n (by decide), lim_n (by decide)]
          unfold upL
          by_cases h8 : 8 ≤ i
          · rw [if_pos h8]
            rcases (show i = 8 ∨ i = 9 by omega) with rfl | rfl <;> simp
          · rw [if_neg h8, if_neg (by omega), if_neg (by omega)]
            exact Nat.le_refl _
        have l8 : lim v 8 = v 0 6 := rfl
        have l9 : lim v 9 = v 0 6 := rfl
        have wf : wfV (sv (sv (sv v 8 (v 0 6) s) 9 (v 0 6) q) 0 6 (v 0 6 + 1)) := by
          obtain ⟨a1, a2, a3, a4, a5, a6, a7, a8, a9, b1, b2, b3⟩ := w0
          refine ⟨a1, a2, a3, a4, a5, a6, hn, a8, a9, b1, b2, fun i hi => ?_⟩
          rw [sv_e] at hi
          show sv v 8 (v 0 6) s 8 i < 6 ∧ sv (sv v 8 (v 0 6) s) 9 (v 0 6) q 9 i ≤ 99
          by_cases e : i = v 0 6
          · rw [e, sv_e, sv_e]
            exact ⟨by omega, hq⟩
          · rw [sv_j v _ _ _ e, sv_j _ 9 _ _ e, sv_i _ _ _ _ (by decide)]
            exact b3 i (by omega)
        refine ⟨_, _, _, rfl, rfl, sv (sv (sv v 8 (v 0 6) s) 9 (v 0 6) q) 0 6 (v 0 6 + 1), v1, v2, k0, k1, r, wf, ⟨w1.1, w1.2⟩, w2, w3, w4, ?_, ?_⟩
        · obtain ⟨r1, L1⟩ := rC_ap (rC_of hC.1) (fun i _ => lim_cap w0 i) (a := 8) (b := v 0 6) (by decide) hn (Nat.le_refl _) s (m := 8) rfl rfl
          obtain ⟨r2, L2⟩ := rC_ap r1 L1 (a := 9) (b := v 0 6) (by decide) hn (by rw [upL_o _ (by decide)]; exact Nat.le_refl _) q (m := 9) rfl rfl
          exact RC_v (rC_to (rC_ct r2 L2 (b := 6) (by decide) (v 0 6 + 1) hl rfl rfl)) (fun i hi => by rw [us_n _ _ _ _ (by omega), us_n _ _ _ _ (by omega), us_n _ _ _ _ (by omega)]) (z4_n (by omega) (z4_n (by omega) (z4_n (by omega) hC.2.2.2.2.2.2))) hC
        · refine RM_v ?_ (fun i hi => by rw [us_n _ _ _ _ (by omega), us_n _ _ _ _ (by omega), us_n _ _ _ _ (by omega)]) hM
          rw [us_r, us_r, us_r]
          obtain ⟨r1, L1⟩ := rM_ap (rM_of hM.1) (fun i _ => lim_cap w0 i) (a := 8) (b := v 0 6) (by decide) hn (Nat.le_refl _) s (k := 247 + 2 * v 0 6) rfl rfl
          obtain ⟨r2, L2⟩ := rM_ap r1 L1 (a := 9) (b := v 0 6) (by decide) hn (by rw [upL_o _ (by decide)]; exact Nat.le_refl _) q (k := 247 + 2 * v 0 6 + 1) rfl rfl
          exact rM_to (rM_ct r2 L2 (b := 6) (by decide) (v 0 6 + 1) hl rfl rfl)
      · rw [if_neg (show ¬ nI (v 0 6) < nI 6 from fun z => by have := (nI_ltI (by omega) (by omega)).mp z; omega), if_pos (show nI (v 0 6) = nI 6 by rw [show v 0 6 = 6 by omega])]
        exact ⟨_, _, _, rfl, rfl, v, v1, v2, k0, k1, _, w0, w1, w2, w3, w4, RC_ref hC (by decide), RM_ref hM (by decide)⟩
    · rw [if_neg hy, if_neg hy]; exact bad
  · rw [if_neg h, if_neg h]; exact bad
