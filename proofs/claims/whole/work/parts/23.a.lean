-- images
theorem slM_lt {i j : Nat} (hi : i ≤ 9) (hj : j < capV i) : slM i j < 261 := by
  rcases ten hi with rfl | rfl | rfl | rfl | rfl | rfl | rfl | rfl | rfl | rfl
  · have := z0M_v hj
    show z0M j < 261
    omega
  all_goals simp [slM, capV] at hj ⊢ <;> omega
theorem rM_cp {v : VW} (hw : wfV v) {f g : Nat → Int32} (h : ∀ k, k < 261 → g k = f k) (hr : rlM v f) : rlM v g := rM_to (fun i j hi hj => by
  rw [h _ (slM_lt hi (Nat.lt_of_lt_of_le hj (lim_cap hw i)))]
  exact rM_of hr i j hi hj)
theorem rC_cp {v : VW} (hw : wfV v) {S S' : ST} {c d : Nat} (h : ∀ i j, i ≤ 9 → j < capV i → S' (d + i) (slC i j) = S (c + i) (slC i j)) (hr : rlC v S c) : rlC v S' d := rC_to (fun i j hi hj => by
  rw [h i j hi (Nat.lt_of_lt_of_le hj (lim_cap hw i))]
  exact rC_of hr i j hi hj)
-- the reference's copying
theorem m_img_loop (N : Nat) {t : Nat} (ht : t ≤ 1) : ∀ (n : Nat) {S : ST} {k : Nat}, k ≤ 261 → 261 < k + n → ∃ S', b_X5_image_19 N n S (nI t) (nI k) = some (1, us S' 3 t 1) ∧ (∀ j, k ≤ j → j < 261 → S' 2 (261 * t + j) = S 1 j) ∧ (∀ j, (j < 261 * t + k ∨ 261 * t + 261 ≤ j) → S' 2 j = S 2 j) ∧ ∀ i, i ≠ 2 → S' i = S i := by
  intro n
  induction n with
  | zero => intro S k _ h; omega
  | succ n ih =>
    intro S k hk hn
    rw [b_X5_image_19, show (261 : Int32) = nI 261 from rfl]
    by_cases he : 261 ≤ k
    · rw [if_pos ((nI_leI (by omega) (by omega)).mpr he), ck (by omega) (by decide), nm_s, nI_clamp (by omega)]
      exact ⟨S, rfl, fun j h1 h2 => by omega, fun _ _ => rfl, fun _ _ => rfl⟩
    · rw [if_neg (fun z => he ((nI_leI (by omega) (by omega)).mp z)), pk_mul, nI_add, ck (by omega) (by decide), ck (by omega) (by decide), nm_s, nI_clamp (by omega), nI_clamp (by omega), nI_1]
      obtain ⟨S2, e2, a, b, c⟩ := ih (S := us S 2 (261 * t + k) (S 1 k)) (k := k + 1) (by omega) (by omega)
      refine ⟨S2, e2, fun j h1 h2 => ?_, fun j hj => ?_, fun i hi => by rw [c i hi, us_n _ _ _ _ hi]⟩
      · by_cases e : j = k
        · rw [e, b _ (by omega), us_s]
        · rw [a j (by omega) h2, us_n _ _ _ _ (by decide)]
      · rw [b j (by omega), us_k _ _ _ _ (by omega)]
theorem m_from_loop (N : Nat) {t : Nat} (ht : t ≤ 1) : ∀ (n : Nat) {S : ST} {k : Nat}, k ≤ 261 → 261 < k + n → ∃ S', b_X5_from_35 N n S (nI t) (nI k) = some (1, S') ∧ (∀ j, k ≤ j → j < 261 → S' 1 j = S 2 (261 * t + j)) ∧ (∀ j, j < k → S' 1 j = S 1 j) ∧ ∀ i, i ≠ 1 → S' i = S i := by
  intro n
  induction n with
  | zero => intro S k _ h; omega
  | succ n ih =>
    intro S k hk hn
    rw [b_X5_from_35, show (261 : Int32) = nI 261 from rfl]
    by_cases he : 261 ≤ k
    · rw [if_pos ((nI_leI (by omega) (by omega)).mpr he)]
      exact ⟨S, rfl, fun j h1 h2 => by omega, fun _ _ => rfl, fun _ _ => rfl⟩
    · rw [if_neg (fun z => he ((nI_leI (by omega) (by omega)).mp z)), pk_mul, nI_add, ck (by omega) (by decide), ck (by omega) (by decide), nm_s, nI_clamp (by omega), nI_clamp (by omega), nI_1]
      obtain ⟨S2, e2, a, b, c⟩ := ih (S := us S 1 k (S 2 (261 * t + k))) (k := k + 1) (by omega) (by omega)
      refine ⟨S2, e2, fun j h1 h2 => ?_, fun j hj => ?_, fun i hi => by rw [c i hi, us_n _ _ _ _ hi]⟩
      · by_cases e : j = k
        · rw [e, b _ (by omega), us_s]
        · rw [a j (by omega) h2, us_n _ _ _ _ (by decide)]
      · rw [b j (by omega), us_k _ _ _ _ (by omega)]
-- the class's copying
def tkA (S : ST) (d s : Nat) : ST :=
  let S1 := us S d 0 (S s 0)
  let S2 := cpS S1 (s + 1) (d + 1) 0 0 6
  let S3 := cpS S2 (s + 2) (d + 2) 0 0 6
  let S4 := cpS S3 (s + 3) (d + 3) 0 0 6
  let S5 := cpS S4 (s + 4) (d + 4) 0 0 6
  let S6 := cpS S5 (s + 5) (d + 5) 0 0 6
  let S7 := us S6 d 6 (S6 s 6)
  let S8 := us S7 d 9 (S7 s 9)
  cpS S8 (s + 6) (d + 6) 0 0 12
def tkB (S : ST) (d s : Nat) : ST :=
  let S3 := us S d 7 (S s 7)
  let S4 := us S3 d 8 (S3 s 8)
  let S5 := us S4 d 11 (S4 s 11)
  let S6 := cpS S5 (s + 7) (d + 7) 0 0 200
  let S7 := us S6 d 13 (S6 s 13)
  let S8 := cpS S7 (s + 8) (d + 8) 0 0 6
  cpS S8 (s + 9) (d + 9) 0 0 6
theorem tk_20_0 (N : Nat) (S : ST) : f_X2_takeAllOf_20_0 N S = some (tkB (tkA S 20 0) 20 0) := rfl
theorem tk_30_0 (N : Nat) (S : ST) : f_X2_takeAllOf_30_0 N S = some (tkB (tkA S 30 0) 30 0) := rfl
theorem tk_0_20 (N : Nat) (S : ST) : f_X2_takeAllOf_0_20 N S = some (tkB (tkA S 0 20) 0 20) := rfl
theorem tk_0_30 (N : Nat) (S : ST) : f_X2_takeAllOf_0_30 N S = some (tkB (tkA S 0 30) 0 30) := rfl
theorem tk_0_10 (N : Nat) (S : ST) : f_X2_takeShopsOf_0_10 N S = some (tkA S 0 10) := rfl
theorem cp_e' (S : ST) {q0 q1 n : Nat} {j i : Nat} (hi : i = q1) (h : j < n) : cpS S q0 q1 0 0 n i j = S q0 j := by
  subst hi
  exact cp_e S q0 i n h
theorem tkA_o (S : ST) (d s : Nat) {i : Nat} (h : i < d ∨ d + 7 ≤ i) : tkA S d s i = S i := by
  unfold tkA
  rw [cp_o _ _ _ _ _ _ (by omega), us_n _ _ _ _ (by omega), us_n _ _ _ _ (by omega), cp_o _ _ _ _ _ _ (by omega), cp_o _ _ _ _ _ _ (by omega), cp_o _ _ _ _ _ _ (by omega), cp_o _ _ _ _ _ _ (by omega), cp_o _ _ _ _ _ _ (by omega), us_n _ _ _ _ (by omega)]
theorem tkB_o (S : ST) (d s : Nat) {i : Nat} (h : i ≠ d ∧ (i < d + 7 ∨ d + 10 ≤ i)) : tkB S d s i = S i := by
  unfold tkB
  rw [cp_o _ _ _ _ _ _ (by omega), cp_o _ _ _ _ _ _ (by omega), us_n _ _ _ _ (by omega), cp_o _ _ _ _ _ _ (by omega), us_n _ _ _ _ (by omega), us_n _ _ _ _ (by omega), us_n _ _ _ _ (by omega)]
-- rows of shops and errand
theorem tkA_r (S : ST) (d s : Nat) (hds : d + 10 ≤ s ∨ s + 10 ≤ d) {i j : Nat} (hi : 1 ≤ i ∧ i ≤ 6) (hj : j < capV i) : tkA S d s (d + i) j = S (s + i) j := by
  have hl : ∀ k, k < s + 7 → s ≤ k → tkA S d s k = S k := fun k h1 h2 => tkA_o S d s (by omega)
  unfold tkA
  rcases (show i = 1 ∨ i = 2 ∨ i = 3 ∨ i = 4 ∨ i = 5 ∨ i = 6 by omega) with rfl | rfl | rfl | rfl | rfl | rfl
  · rw [cp_o _ _ _ _ _ _ (by omega), us_n _ _ _ _ (by omega), us_n _ _ _ _ (by omega), cp_o _ _ _ _ _ _ (by omega), cp_o _ _ _ _ _ _ (by omega), cp_o _ _ _ _ _ _ (by omega), cp_o _ _ _ _ _ _ (by omega), cp_e _ _ _ _ (show j < 6 from hj), us_n _ _ _ _ (by omega)]
  · rw [cp_o _ _ _ _ _ _ (by omega), us_n _ _ _ _ (by omega), us_n _ _ _ _ (by omega), cp_o _ _ _ _ _ _ (by omega), cp_o _ _ _ _ _ _ (by omega), cp_o _ _ _ _ _ _ (by omega), cp_e _ _ _ _ (show j < 6 from hj), cp_o _ _ _ _ _ _ (by omega), us_n _ _ _ _ (by omega)]
  · rw [cp_o _ _ _ _ _ _ (by omega), us_n _ _ _ _ (by omega), us_n _ _ _ _ (by omega), cp_o _ _ _ _ _ _ (by omega), cp_o _ _ _ _ _ _ (by omega), cp_e _ _ _ _ (show j < 6 from hj), cp_o _ _ _ _ _ _ (by omega), cp_o _ _ _ _ _ _ (by omega), us_n _ _ _ _ (by omega)]
  · rw [cp_o _ _ _ _ _ _ (by omega), us_n _ _ _ _ (by omega), us_n _ _ _ _ (by omega), cp_o _ _ _ _ _ _ (by omega), cp_e _ _ _ _ (show j < 6 from hj), cp_o _ _ _ _ _ _ (by omega), cp_o _ _ _ _ _ _ (by omega), cp_o _ _ _ _ _ _ (by omega), us_n _ _ _ _ (by omega)]
  · rw [cp_o _ _ _ _ _ _ (by omega), us_n _ _ _ _ (by omega), us_n _ _ _ _ (by omega), cp_e _ _ _ _ (show j < 6 from hj), cp_o _ _ _ _ _ _ (by omega), cp_o _ _ _ _ _ _ (by omega), cp_o _ _ _ _ _ _ (by omega), cp_o _ _ _ _ _ _ (by omega), us_n _ _ _ _ (by omega)]
  · rw [cp_e _ _ _ _ (show j < 12 from hj), us_n _ _ _ _ (by omega), us_n _ _ _ _ (by omega), cp_o _ _ _ _ _ _ (by omega), cp_o _ _ _ _ _ _ (by omega), cp_o _ _ _ _ _ _ (by omega), cp_o _ _ _ _ _ _ (by omega), cp_o _ _ _ _ _ _ (by omega), us_n _ _ _ _ (by omega)]
def tkR (S : ST) (d s : Nat) : ST := cpS (cpS (cpS (cpS (cpS S (s + 1) (d + 1) 0 0 6) (s + 2) (d + 2) 0 0 6) (s + 3) (d + 3) 0 0 6) (s + 4) (d + 4) 0 0 6) (s + 5) (d + 5) 0 0 6
theorem tkR_o (S : ST) (d s : Nat) {i : Nat} (h : i ≤ d ∨ d + 6 ≤ i) : tkR S d s i = S i := by
  unfold tkR
  rw [cp_o _ _ _ _ _ _ (by omega), cp_o _ _ _ _ _ _ (by omega), cp_o _ _ _ _ _ _ (by omega), cp_o _ _ _ _ _ _ (by omega), cp_o _ _ _ _ _ _ (by omega)]
theorem tkA_0 (S : ST) (d s : Nat) (hds : d + 10 ≤ s ∨ s + 10 ≤ d) (k : Nat) : tkA S d s d k = if k = 0 ∨ k = 6 ∨ k = 9 then S s k else S d k := by
  have hs : tkR (us S d 0 (S s 0)) d s s = S s := by rw [tkR_o _ _ _ (by omega), us_n _ _ _ _ (by omega)]
  have hd : tkR (us S d 0 (S s 0)) d s d = upd (S d) 0 (S s 0) := by rw [tkR_o _ _ _ (by omega), us_r]
  show cpS (us (us (tkR (us S d 0 (S s 0)) d s) d 6 (tkR (us S d 0 (S s 0)) d s s 6)) d 9 ((us (tkR (us S d 0 (S s 0)) d s) d 6 (tkR (us S d 0 (S s 0)) d s s 6)) s 9)) (s + 6) (d + 6) 0 0 12 d k = _
  rw [cp_o _ _ _ _ _ _ (by omega), us_r, us_r, hd, hs, us_n _ _ _ _ (show s ≠ d by omega), hs]
  unfold upd
  by_cases h9 : k = 9
  · rw [if_pos h9, if_pos (by omega), h9]
  · rw [if_neg h9]
    by_cases h6 : k = 6
    · rw [if_pos h6, if_pos (by omega), h6]
    · rw [if_neg h6]
      by_cases h0 : k = 0
      · rw [if_pos h0, if_pos (by omega), h0]
      · rw [if_neg h0, if_neg (by omega)]
theorem tkB_r (S : ST) (d s : Nat) (hds : d + 10 ≤ s ∨ s + 10 ≤ d) {i j : Nat} (hi : 7 ≤ i ∧ i ≤ 9) (hj : j < capV i) : tkB S d s (d + i) j = S (s + i) j := by
  unfold tkB
  rcases (show i = 7 ∨ i = 8 ∨ i = 9 by omega) with rfl | rfl | rfl
  · rw [cp_o _ _ _ _ _ _ (by omega), cp_o _ _ _ _ _ _ (by omega), us_n _ _ _ _ (by omega), cp_e _ _ _ _ (show j < 200 from hj), us_n _ _ _ _ (by omega), us_n _ _ _ _ (by omega), us_n _ _ _ _ (by omega)]
  · rw [cp_o _ _ _ _ _ _ (by omega), cp_e _ _ _ _ (show j < 6 from hj), us_n _ _ _ _ (by omega), cp_o _ _ _ _ _ _ (by omega), us_n _ _ _ _ (by omega), us_n _ _ _ _ (by omega), us_n _ _ _ _ (by omega)]
  · rw [cp_e _ _ _ _ (show j < 6 from hj), cp_o _ _ _ _ _ _ (by omega), us_n _ _ _ _ (by omega), cp_o _ _ _ _ _ _ (by omega), us_n _ _ _ _ (by omega), us_n _ _ _ _ (by omega), us_n _ _ _ _ (by omega)]
theorem tkB_0 (S : ST) (d s : Nat) (hds : d + 10 ≤ s ∨ s + 10 ≤ d) (k : Nat) : tkB S d s d k = if k = 7 ∨ k = 8 ∨ k = 11 ∨ k = 13 then S s k else S d k := by
  have e1 : us S d 7 (S s 7) s = S s := us_n _ _ _ _ (by omega)
  have e2 : us (us S d 7 (S s 7)) d 8 (S s 8) s = S s := by rw [us_n _ _ _ _ (by omega), e1]
  have e3 : us (us (us S d 7 (S s 7)) d 8 (S s 8)) d 11 (S s 11) s = S s := by rw [us_n _ _ _ _ (by omega), e2]
  unfold tkB
  rw [cp_o _ _ _ _ _ _ (by omega), cp_o _ _ _ _ _ _ (by omega), us_r, e1, e2, cp_o _ _ _ _ _ _ (show s ≠ d + 7 by omega), e3, cp_o _ _ _ _ _ _ (show d ≠ d + 7 by omega), us_r, us_r, us_r]
  unfold upd
  by_cases h13 : k = 13
  · rw [if_pos h13, if_pos (by omega), h13]
  · rw [if_neg h13]
    by_cases h11 : k = 11
    · rw [if_pos h11, if_pos (by omega), h11]
    · rw [if_neg h11]
      by_cases h8 : k = 8
      · rw [if_pos h8, if_pos (by omega), h8]
      · rw [if_neg h8]
        by_cases h7 : k = 7
        · rw [if_pos h7, if_pos (by omega), h7]
        · rw [if_neg h7, if_neg (by omega)]
theorem tk_all (S : ST) (d s : Nat) (hds : d + 10 ≤ s ∨ s + 10 ≤ d) : (∀ i j, i ≤ 9 → j < capV i → tkB (tkA S d s) d s (d + i) (slC i j) = S (s + i) (slC i j)) ∧ ∀ i, (i < d ∨ d + 10 ≤ i) → tkB (tkA S d s) d s i = S i := by
  refine ⟨fun i j hi hj => ?_, fun i hi => by rw [tkB_o _ _ _ (by omega), tkA_o _ _ _ (by omega)]⟩
  by_cases h0 : i = 0
  · subst h0
    show tkB (tkA S d s) d s d (z0C j) = S s (z0C j)
    rw [tkB_0 _ _ _ hds]
    rcases seven hj with rfl | rfl | rfl | rfl | rfl | rfl | rfl
    · rw [if_neg (by decide), tkA_0 _ _ _ hds, if_pos (by decide)]
    · rw [if_neg (by decide), tkA_0 _ _ _ hds, if_pos (by decide)]
    · rw [if_pos (by decide), tkA_o _ _ _ (by omega)]
    · rw [if_pos (by decide), tkA_o _ _ _ (by omega)]
    · rw [if_neg (by decide), tkA_0 _ _ _ hds, if_pos (by decide)]
    · rw [if_pos (by decide), tkA_o _ _ _ (by omega)]
    · rw [if_pos (by decide), tkA_o _ _ _ (by omega)]
  · have e : slC i j = j := by unfold slC; rw [if_neg h0]
    rw [e]
    by_cases h6 : i ≤ 6
    · rw [tkB_o _ _ _ (by omega), tkA_r _ _ _ hds (by omega) hj]
    · rw [tkB_r _ _ _ hds (by omega) hj, tkA_o _ _ _ (by omega)]
-- image
theorem st_image {N : Nat} (hN : 400000 ≤ N) (x : Int32) : StI Rl (fun S => f_X4_image N S x) (fun S => f_X5_image N S x) := by
  rintro SC SM ⟨v, v1, v2, k0, k1, r, w0, w1, w2, w3, w4, hC, hM⟩
  simp only [f_X4_image, f_X5_image, c_isIn, m_in, bd2_s, tf_if, Int32.toInt_toInt64, c_bad, m_bad, tk_20_0, tk_30_0, bd1_s, nm_s]
  rw [show (0 : Int64).toInt = 0 from rfl, show (1 : Int64).toInt = 1 from rfl, show (0 : Int32).toInt = 0 from rfl, show (1 : Int32).toInt = 1 from rfl]
  by_cases h : 0 ≤ x.toInt ∧ x.toInt ≤ 1
  · rw [if_pos h, if_pos h]
    obtain ⟨t, ht, rfl⟩ := of_rng (m := 1) h (by decide)
    have i2 := ixo (k := t) (L := 2) (by omega) (by decide)
    simp only [if_neg i2]
    rw [nI_clamp (by omega)]
    obtain ⟨T, d, a, b, c⟩ := m_img_loop N ht N (S := SM) (k := 0) (by omega) (by omega)
    replace d : b_X5_image_19 N N SM (nI t) 0 = _ := d
    rw [d]
    have q := hM
    obtain ⟨m1, m2, m3, m4, m5, m6, m7, m8⟩ := q
    obtain ⟨c1, c2, c3, c4, c5, c6, c7⟩ := hC
    rcases (show t = 0 ∨ t = 1 by omega) with rfl | rfl
    · rw [if_pos rfl]
      obtain ⟨g1, g2⟩ := tk_all SC 20 0 (by omega)
      refine ⟨_, _, _, rfl, rfl, v, v, v2, 1, k1, r, w0, ⟨by decide, w1.2⟩, w2, fun _ => ⟨w0, w1.2⟩, w4, ⟨?_, ?_, ?_, fun _ => ?_, fun hk => ?_, ?_, ?_⟩, ⟨?_, ?_, ?_, fun _ => ?_, fun hk => ?_, ?_, ?_, ?_⟩⟩
      · exact rlC_us (rlC_sm (fun k hk => g2 _ (by omega)) c1) (fun k hk => by omega) _ _
      · rw [us_s]; rfl
      · rw [us_k _ _ _ _ (by decide), g2 52 (by omega)]; exact c3
      · exact rlC_us (rC_cp w0 g1 c1) (fun k hk => by omega) _ _
      · exact rlC_us (rlC_sm (fun k hk => g2 _ (by omega)) (c5 hk)) (fun k hk => by omega) _ _
      · rw [us_n _ _ _ _ (by decide), g2 53 (by omega)]; exact c6
      · rw [us_n _ _ _ _ (by decide), us_n _ _ _ _ (by decide), us_n _ _ _ _ (by decide), us_n _ _ _ _ (by decide), g2 42 (by omega), g2 43 (by omega), g2 44 (by omega), g2 45 (by omega)]; exact c7
      · rw [us_n _ _ _ _ (by decide), c 1 (by decide)]; exact m1
      · rw [us_s]; rfl
      · rw [us_k _ _ _ _ (by decide), c 3 (by decide)]; exact m3
      · rw [us_n _ _ _ _ (by decide)]
        refine rM_cp w0 (fun k hk => ?_) m1
        have := a k (Nat.zero_le _) hk
        rw [show 261 * 0 + k = k by omega] at this
        exact this
      · rw [us_n _ _ _ _ (by decide)]
        exact rM_cp (w4 hk).1 (fun k _ => b (261 + k) (by omega)) (m5 hk)
      · rw [us_n _ _ _ _ (by decide), c 4 (by decide)]; exact m6
      · rw [us_n _ _ _ _ (by decide), c 4 (by decide)]; exact m7
      · rw [us_n _ _ _ _ (by decide), c 4 (by decide)]; exact m8
    · rw [if_neg (by decide)]
      obtain ⟨g1, g2⟩ := tk_all SC 30 0 (by omega)
      refine ⟨_, _, _, rfl, rfl, v, v1, v, k0, 1, r, w0, w1, by decide, w3, fun _ => ⟨w0, w1.2⟩, ⟨?_, ?_, ?_, fun hk => ?_, fun _ => ?_, ?_, ?_⟩, ⟨?_, ?_, ?_, fun hk => ?_, fun _ => ?_, ?_, ?_, ?_⟩⟩
      · exact rlC_us (rlC_sm (fun k hk => g2 _ (by omega)) c1) (fun k hk => by omega) _ _
      · rw [us_k _ _ _ _ (by decide), g2 52 (by omega)]; exact c2
      · rw [us_s]; rfl
      · exact rlC_us (rlC_sm (fun k hk => g2 _ (by omega)) (c4 hk)) (fun k hk => by omega) _ _
      · exact rlC_us (rC_cp w0 g1 c1) (fun k hk => by omega) _ _
      · rw [us_n _ _ _ _ (by decide), g2 53 (by omega)]; exact c6
      · rw [us_n _ _ _ _ (by decide), us_n _ _ _ _ (by decide), us_n _ _ _ _ (by decide), us_n _ _ _ _ (by decide), g2 42 (by omega), g2 43 (by omega), g2 44 (by omega), g2 45 (by omega)]; exact c7
      · rw [us_n _ _ _ _ (by decide), c 1 (by decide)]; exact m1
      · rw [us_k _ _ _ _ (by decide), c 3 (by decide)]; exact m2
      · rw [us_s]; rfl
      · rw [us_n _ _ _ _ (by decide)]
        exact rM_cp (w3 hk).1 (fun k hk' => b k (by omega)) (m4 hk)
      · rw [us_n _ _ _ _ (by decide)]
        refine rM_cp w0 (fun k hk => ?_) m1
        have := a k (Nat.zero_le _) hk
        rw [show 261 * 1 + k = 261 + k by omega] at this
        exact this
      · rw [us_n _ _ _ _ (by decide), c 4 (by decide)]; exact m6
      · rw [us_n _ _ _ _ (by decide), c 4 (by decide)]; exact m7
      · rw [us_n _ _ _ _ (by decide), c 4 (by decide)]; exact m8
  · rw [if_neg h, if_neg h]
    exact ⟨_, _, _, rfl, rfl, v, v1, v2, k0, k1, _, w0, w1, w2, w3, w4, RC_ref hC (by decide), RM_ref hM (by decide)⟩
-- from
theorem st_from {N : Nat} (hN : 400000 ≤ N) (x : Int32) : StI Rl (fun S => f_X4_from N S x) (fun S => f_X5_from N S x) := by
  rintro SC SM ⟨v, v1, v2, k0, k1, r, w0, w1, w2, w3, w4, hC, hM⟩
  simp only [f_X4_from, f_X5_from, c_isIn, m_in, bd2_s, tf_if, Int32.toInt_toInt64, c_bad, m_bad, c_no, m_no, tk_0_20, tk_0_30, bd1_s]
  rw [show (0 : Int64).toInt = 0 from rfl, show (1 : Int64).toInt = 1 from rfl, show (0 : Int32).toInt = 0 from rfl, show (1 : Int32).toInt = 1 from rfl]
  by_cases h : 0 ≤ x.toInt ∧ x.toInt ≤ 1
  · rw [if_pos h, if_pos h]
    obtain ⟨t, ht, rfl⟩ := of_rng (m := 1) h (by decide)
    have i2 := ixo (k := t) (L := 2) (by omega) (by decide)
    simp only [if_neg i2]
    rw [nI_clamp (by omega)]
    obtain ⟨T, d, a, b, c⟩ := m_from_loop N ht N (S := SM) (k := 0) (by omega) (by omega)
    replace d : b_X5_from_35 N N SM (nI t) 0 = _ := d
    rw [d]
    have no : ∃ (r' : Int32) (SC' SM' : ST), some ((-3 : Int32), us SC 53 1 (SC 53 1 + 1)) = some (r', SC') ∧ some ((-3 : Int32), us SM 4 1 (SM 4 1 + 1)) = some (r', SM') ∧ Rl SC' SM' := ⟨_, _, _, rfl, rfl, v, v1, v2, k0, k1, _, w0, w1, w2, w3, w4, RC_ref hC (by decide), RM_ref hM (by decide)⟩
    rcases (show t = 0 ∨ t = 1 by omega) with rfl | rfl
    · rw [hC.2.1, hM.2.1]
      have w10 := w1.1
      by_cases hk : k0 = 0
      · rw [if_pos (show nI k0 = 0 by rw [hk]; rfl), if_pos (show nI k0 = 0 by rw [hk]; rfl)]
        exact no
      · have hk1 : k0 = 1 := by omega
        rw [if_neg (show ¬ nI k0 = 0 from fun z => hk ((nI_n0 (by omega)).mp z)), if_neg (show ¬ nI k0 = 0 from fun z => hk ((nI_n0 (by omega)).mp z)), if_pos rfl]
        obtain ⟨g1, g2⟩ := tk_all SC 0 20 (by omega)
        refine ⟨_, _, _, rfl, rfl, v1, v1, v2, k0, k1, r, (w3 hk1).1, ⟨w1.1, (w3 hk1).2⟩, w2, w3, w4, RC_v (rC_cp (w3 hk1).1 g1 (hC.2.2.2.1 hk1)) (fun i hi => g2 i (by omega)) ?_ hC, RM_v (rM_cp (w3 hk1).1 (fun k hk' => ?_) (hM.2.2.2.1 hk1)) (fun i hi => c i (by omega)) hM⟩
        · rw [g2 42 (by omega), g2 43 (by omega), g2 44 (by omega), g2 45 (by omega)]; exact hC.2.2.2.2.2.2
        · have := a k (Nat.zero_le _) hk'
          rw [show 261 * 0 + k = k by omega] at this
          exact this
    · rw [hC.2.2.1, hM.2.2.1]
      by_cases hk : k1 = 0
      · rw [if_pos (show nI k1 = 0 by rw [hk]; rfl), if_pos (show nI k1 = 0 by rw [hk]; rfl)]
        exact no
      · have hk1 : k1 = 1 := by omega
        rw [if_neg (show ¬ nI k1 = 0 from fun z => hk ((nI_n0 (by omega)).mp z)), if_neg (show ¬ nI k1 = 0 from fun z => hk ((nI_n0 (by omega)).mp z)), if_neg (by decide)]
        obtain ⟨g1, g2⟩ := tk_all SC 0 30 (by omega)
        refine ⟨_, _, _, rfl, rfl, v2, v1, v2, k0, k1, r, (w4 hk1).1, ⟨w1.1, (w4 hk1).2⟩, w2, w3, w4, RC_v (rC_cp (w4 hk1).1 g1 (hC.2.2.2.2.1 hk1)) (fun i hi => g2 i (by omega)) ?_ hC, RM_v (rM_cp (w4 hk1).1 (fun k hk' => ?_) (hM.2.2.2.2.1 hk1)) (fun i hi => c i (by omega)) hM⟩
        · rw [g2 42 (by omega), g2 43 (by omega), g2 44 (by omega), g2 45 (by omega)]; exact hC.2.2.2.2.2.2
        · have := a k (Nat.zero_le _) hk'
          rw [show 261 * 1 + k = 261 + k by omega] at this
          exact this
  · rw [if_neg h, if_neg h]
    exact ⟨_, _, _, rfl, rfl, v, v1, v2, k0, k1, _, w0, w1, w2, w3, w4, RC_ref hC (by decide), RM_ref hM (by decide)⟩
