-- the reference's reads
theorem m_of (N : Nat) (S : ST) {k j : Nat} (hk : k < 6) (hj : j < 4) : f_X5_of N S (nI k) (nI j) = some (S 1 (4 * k + j), S) := by
  unfold f_X5_of
  have e : ((0 : Int32) + 4 * nI k) + nI j = nI (4 * k + j) := by
    rw [show (4 : Int32) = nI 4 from rfl, show (0 : Int32) = nI 0 from rfl, pk_mul, nI_add, nI_add, Nat.zero_add]
  rw [e, ck (by omega) (by decide), nI_clamp (by omega)]
theorem M6 : ∀ h, h < 64 → ((((((0 + ((nI h >>> ((0 : Int32) &&& 31)) &&& 1)) + ((nI h >>> (((0 : Int32) + 1) &&& 31)) &&& 1)) + ((nI h >>> (((0 : Int32) + 1 + 1) &&& 31)) &&& 1)) + ((nI h >>> (((0 : Int32) + 1 + 1 + 1) &&& 31)) &&& 1)) + ((nI h >>> (((0 : Int32) + 1 + 1 + 1 + 1) &&& 31)) &&& 1)) + ((nI h >>> (((0 : Int32) + 1 + 1 + 1 + 1 + 1) &&& 31)) &&& 1)) = nI (pop6 h) := by decide +kernel
theorem m_manyIn {N : Nat} (hN : 7 ≤ N) (S : ST) {h : Nat} (hh : h < 64) : f_X5_manyIn N S (nI h) = some (nI (pop6 h), S) := by
  obtain ⟨m, rfl⟩ : ∃ m, N = m + 7 := ⟨N - 7, by omega⟩
  unfold f_X5_manyIn
  rw [b_X5_manyIn_4, if_neg (by decide), b_X5_manyIn_4, if_neg (by decide), b_X5_manyIn_4, if_neg (by decide), b_X5_manyIn_4, if_neg (by decide), b_X5_manyIn_4, if_neg (by decide), b_X5_manyIn_4, if_neg (by decide), b_X5_manyIn_4, if_pos (by decide), M6 h hh]
theorem pop_lt : ∀ h, h < 64 → pop6 h < 7 := by decide +kernel
theorem nI_m1 {n : Nat} (h : 1 ≤ n) : nI n - 1 = nI (n - 1) := pk_sub (b := 1) h
theorem m_goodBack (N : Nat) {v : VW} {S : ST} (hw : wfV v) (hr : rlM v (S 1)) {s : Nat} (hs : s < v 0 0) : f_X5_goodBack N S (nI s) = some (nI (backS v s), S) := by
  have n6 := hw.1
  unfold f_X5_goodBack f_X5_shops backS
  rw [bd2_s, hr.1]
  by_cases h : s = 0
  · rw [if_pos h, if_pos (by rw [h]; rfl), nI_m1 (by omega)]
  · rw [if_neg h, if_neg (by rw [nI_n0 (by omega)]; exact h), nI_m1 (by omega)]
theorem back_lt {v : VW} (hw : wfV v) {s : Nat} (hs : s < v 0 0) : backS v s < v 0 0 := by
  unfold backS
  split <;> omega
theorem m_kind (N : Nat) {v : VW} {S : ST} (hw : wfV v) (hr : rlM v (S 1)) {s : Nat} (hs : s < v 0 0) : f_X5_of N S (nI s) 0 = some (nI (v 1 s), S) := by
  have n6 := hw.1
  have h := m_of N S (k := s) (j := 0) (by omega) (by decide)
  rw [Nat.add_zero, (hr.2.2.2.2.2.2.2.1 s hs).1] at h
  exact h
theorem m_price1 (N : Nat) {v : VW} {S : ST} (hw : wfV v) (hr : rlM v (S 1)) {s : Nat} (hs : s < v 0 0) : f_X5_of N S (nI s) 1 = some (nI (v 2 s), S) := by
  have n6 := hw.1
  have h := m_of N S (k := s) (j := 1) (by omega) (by decide)
  rw [(hr.2.2.2.2.2.2.2.1 s hs).2.1] at h
  exact h
theorem m_mins2 (N : Nat) {v : VW} {S : ST} (hw : wfV v) (hr : rlM v (S 1)) {s : Nat} (hs : s < v 0 0) : f_X5_of N S (nI s) 2 = some (nI (v 3 s), S) := by
  have n6 := hw.1
  have h := m_of N S (k := s) (j := 2) (by omega) (by decide)
  rw [(hr.2.2.2.2.2.2.2.1 s hs).2.2.1] at h
  exact h
theorem m_shut3 (N : Nat) {v : VW} {S : ST} (hw : wfV v) (hr : rlM v (S 1)) {s : Nat} (hs : s < v 0 0) : f_X5_of N S (nI s) 3 = some (nI (v 4 s), S) := by
  have n6 := hw.1
  have h := m_of N S (k := s) (j := 3) (by omega) (by decide)
  rw [(hr.2.2.2.2.2.2.2.1 s hs).2.2.2.1] at h
  exact h
theorem nI_k {n : Nat} (h : n < 2 ^ 31) (k : Nat) (hk : k < 2 ^ 31) : (nI n = nI k) ↔ n = k := nI_eq h hk
theorem m_takesBack (N : Nat) {v : VW} {S : ST} (hw : wfV v) (hr : rlM v (S 1)) {s h : Nat} (hs : s < v 0 0) (hh : h < 64) : f_X5_takesBack N S (nI s) (nI h) = some (tf (takB v s h), S) := by
  have n6 := hw.1
  have hk := (hw.2.2.2.2.2.2.2.1 s hs).1
  have hb := back_lt hw hs
  have e17 : b_X5_takesBack_17 N S (nI s) (nI h) = some (tf (bitN h (backS v s) = 1), S) := by
    unfold b_X5_takesBack_17
    rw [m_goodBack N hw hr hs, bd2_s, nI_bit (by omega) (by omega)]
    have := bit_lt h (backS v s)
    by_cases hx : bitN h (backS v s) = 1
    · rw [if_pos ((nI_n1 (by omega)).mpr hx), tf_t hx]
    · rw [if_neg (fun q => hx ((nI_n1 (by omega)).mp q)), tf_f hx]
  unfold f_X5_takesBack
  rw [m_kind N hw hr hs, bd2_s, e17]
  have e2 : (nI (v 1 s) = 2) ↔ v 1 s = 2 := nI_k (by omega) 2 (by decide)
  have e4 : (nI (v 1 s) = 4) ↔ v 1 s = 4 := nI_k (by omega) 4 (by decide)
  simp only [e2, e4]
  by_cases h2 : v 1 s = 2
  · rw [if_pos h2]
    congr 2
    exact tf_eq ⟨fun q => ⟨Or.inl h2, q⟩, fun q => q.2⟩
  · rw [if_neg h2]
    by_cases h4 : v 1 s = 4
    · rw [if_pos h4]
      congr 2
      exact tf_eq ⟨fun q => ⟨Or.inr h4, q⟩, fun q => q.2⟩
    · rw [if_neg h4, tf_f (fun q => q.1.elim h2 h4)]
theorem m_minutesOf (N : Nat) {v : VW} {S : ST} (hw : wfV v) (hr : rlM v (S 1)) {s : Nat} (hs : s < v 0 0) : f_X5_minutesOf N S (nI s) = some (nI (minS v s), S) := by
  have hk := (hw.2.2.2.2.2.2.2.1 s hs)
  unfold f_X5_minutesOf minS
  rw [m_kind N hw hr hs, bd2_s, m_mins2 N hw hr hs, bd2_s, bd2_s]
  have e3 : (nI (v 1 s) = 3) ↔ v 1 s = 3 := nI_k (by omega) 3 (by decide)
  simp only [e3]
  by_cases h3 : v 1 s = 3
  · rw [if_pos h3, if_pos h3, show (2 : Int32) = nI 2 from rfl, pk_mul]
  · rw [if_neg h3, if_neg h3]
theorem m_priceOf {N : Nat} (hN : 7 ≤ N) {v : VW} {S : ST} (hw : wfV v) (hr : rlM v (S 1)) {s h : Nat} (hs : s < v 0 0) (hh : h < 64) : f_X5_priceOf N S (nI s) (nI h) = some (nI (priS v s h), S) := by
  have hk := (hw.2.2.2.2.2.2.2.1 s hs)
  have hp := pop_lt h hh
  have hb := back_lt hw hs
  have hkb := (hw.2.2.2.2.2.2.2.1 _ hb)
  have e41 : b_X5_priceOf_41 N S (nI h) (nI (v 2 s)) = some (nI (v 2 s + pop6 h), S) := by
    unfold b_X5_priceOf_41
    rw [m_manyIn hN S hh, bd2_s, nI_add]
  have e74 : ∀ l, l ≤ 20 → b_X5_priceOf_74 N S (nI (v 2 s)) (nI l) = some (nI (v 2 s - l), S) := by
    intro l hl
    unfold b_X5_priceOf_74
    by_cases hx : v 2 s ≤ l
    · rw [if_pos ((nI_leI (by omega) (by omega)).mpr hx), Nat.sub_eq_zero_of_le hx]; rfl
    · rw [if_neg (fun q => hx ((nI_leI (by omega) (by omega)).mp q)), pk_sub (by omega)]
  have e26 : b_X5_priceOf_26 N S (nI s) (nI h) (nI (v 1 s)) (nI (v 2 s)) = some (nI (if v 1 s = 1 ∨ v 1 s = 3 ∨ v 1 s = 5 then v 2 s + pop6 h else v 2 s - lesS v s h), S) := by
    unfold b_X5_priceOf_26
    have e1 : (nI (v 1 s) = 1) ↔ v 1 s = 1 := nI_k (by omega) 1 (by decide)
    have e3 : (nI (v 1 s) = 3) ↔ v 1 s = 3 := nI_k (by omega) 3 (by decide)
    have e5 : (nI (v 1 s) = 5) ↔ v 1 s = 5 := nI_k (by omega) 5 (by decide)
    simp only [e1, e3, e5]
    by_cases h1 : v 1 s = 1
    · rw [if_pos h1, if_pos (Or.inl h1), e41]
    · rw [if_neg h1]
      by_cases h3 : v 1 s = 3
      · rw [if_pos h3, if_pos (Or.inr (Or.inl h3)), e41]
      · rw [if_neg h3]
        by_cases h5 : v 1 s = 5
        · rw [if_pos h5, if_pos (Or.inr (Or.inr h5)), e41]
        · rw [if_neg h5, if_neg (by omega), m_takesBack N hw hr hs hh, bd2_s, tf_if]
          unfold lesS
          by_cases ht : takB v s h
          · rw [if_pos ht, if_pos ht, m_goodBack N hw hr hs, bd2_s, m_price1 N hw hr hb, bd2_s, show (2 : Int32) = nI 2 from rfl, pk_div (by omega) (by decide) (by decide)]
            exact e74 _ (by omega)
          · rw [if_neg ht, if_neg ht]
            exact e74 0 (by decide)
  unfold f_X5_priceOf priS
  rw [m_kind N hw hr hs, bd2_s, m_price1 N hw hr hs, bd2_s, e26]
  have e4 : (nI (v 1 s) = 4) ↔ v 1 s = 4 := nI_k (by omega) 4 (by decide)
  have eh : (nI h = 0) ↔ h = 0 := nI_n0 (by omega)
  simp only [e4, eh]
  by_cases h4 : v 1 s = 4
  · rw [if_pos h4]
    by_cases h0 : h = 0
    · rw [if_pos h0, if_pos (show v 1 s = 4 ∧ h = 0 from ⟨h4, h0⟩)]; rfl
    · rw [if_neg h0, if_neg (show ¬ (v 1 s = 4 ∧ h = 0) from fun q => h0 q.2)]
  · rw [if_neg h4, if_neg (show ¬ (v 1 s = 4 ∧ h = 0) from fun q => h4 q.1)]
theorem F9 : ∀ h, h < 64 → ∀ k, k < 6 → bitN h k = 1 → nI h &&& (((1 : Int32) <<< (nI k &&& 31)) ^^^ (-1)) = nI (h - 2 ^ k) := by decide +kernel
theorem m_heldBehind (N : Nat) {v : VW} {S : ST} (hw : wfV v) (hr : rlM v (S 1)) {s h : Nat} (hs : s < v 0 0) (hh : h < 64) : f_X5_heldBehind N S (nI s) (nI h) = some (nI (helS v s h), S) := by
  have n6 := hw.1
  have hb := back_lt hw hs
  have e24 : ∀ l, b_X5_heldBehind_24 N S (nI s) (nI l) = some (nI (l ||| 2 ^ s), S) := by
    intro l
    unfold b_X5_heldBehind_24
    rw [one_shl (by omega), nI_or]
  unfold f_X5_heldBehind helS lefS
  rw [m_takesBack N hw hr hs hh, bd2_s, tf_if]
  by_cases ht : takB v s h
  · rw [if_pos ht, if_pos ht, m_goodBack N hw hr hs, bd2_s, F9 h hh _ (by omega) ht.2]
    exact e24 _
  · rw [if_neg ht, if_neg ht]
    exact e24 _
-- where one is, in the reference's own numbers
def wM (w : ND) (S : ST) : Prop := S 0 4 = (if w.1 = 0 then -1 else nI (w.1 - 1)) ∧ S 0 5 = nI w.2.1 ∧ S 0 8 = nI w.2.2.1 ∧ S 0 7 = nI w.2.2.2.1 ∧ S 0 6 = nI w.2.2.2.2
theorem m_isFree (N : Nat) {v : VW} {S : ST} (hw : wfV v) (hr : rlM v (S 1)) {s : Nat} (hs : s < v 0 0) : f_X5_isFree N S (nI s) = some (tf (bitN (v 0 1) s = 1), S) := by
  have n6 := hw.1
  have hf := hw.2.1
  unfold f_X5_isFree
  rw [hr.2.1, nI_bit (by omega) (by omega)]
  have := bit_lt (v 0 1) s
  by_cases hx : bitN (v 0 1) s = 1
  · rw [if_pos ((nI_n1 (by omega)).mpr hx), tf_t hx]
  · rw [if_neg (fun q => hx ((nI_n1 (by omega)).mp q)), tf_f hx]
theorem m_areNear (N : Nat) {v : VW} {S : ST} (hw : wfV v) (hr : rlM v (S 1)) {a b : Nat} (ha : a < v 0 0) (hb : b < v 0 0) : f_X5_areNear N S (nI a) (nI b) = some (tf (bitN (v 5 a) b = 1), S) := by
  have n6 := hw.1
  have hf := (hw.2.2.2.2.2.2.2.1 a ha).2.2.2.2
  unfold f_X5_areNear
  rw [show (24 : Int32) = nI 24 from rfl, nI_add, ck (by omega) (by decide), nI_clamp (by omega), (hr.2.2.2.2.2.2.2.1 a ha).2.2.2.2, nI_bit (by omega) (by omega)]
  have := bit_lt (v 5 a) b
  by_cases hx : bitN (v 5 a) b = 1
  · rw [if_pos ((nI_n1 (by omega)).mpr hx), tf_t hx]
  · rw [if_neg (fun q => hx ((nI_n1 (by omega)).mp q)), tf_f hx]
theorem m_whyNot {N : Nat} (hN : 7 ≤ N) {v : VW} {S : ST} (hw : wfV v) (hr : rlM v (S 1)) {p : List Nat} (hp : gdN v p) (hm : wM (walkS v p) S) {s : Nat} (hs : s < v 0 0) (cl : Int32) : f_X5_whyNot N S (nI s) cl = some (if nI s = cl then 1 else nI (whyS v (walkS v p) s), S) := by
  obtain ⟨m1, m2, m3, m4, m5⟩ := hm
  obtain ⟨g1, g2, g3, g4, g5, g6, g7, g8, g9⟩ := hp
  have n6 := hw.1
  have hk := (hw.2.2.2.2.2.2.2.1 s hs)
  have hpu := hw.2.2.1
  have har := hw.2.2.2.1
  generalize walkS v p = w at *
  have hpo := pop_lt _ g2
  have hl := lef_facts hw hs g2
  have hhe : helS v s w.2.1 < 64 := F1b _ hl.1 s (by omega)
  have hph := pop_lt _ hhe
  have hmi : minS v s ≤ 60 := by unfold minS; split <;> omega
  have hpr : priS v s w.2.1 ≤ 40 := by
    unfold priS
    split
    · omega
    · split <;> omega
  have e85 : b_X5_whyNot_85 N S (nI s) = some (nI (if v 4 s < w.2.2.2.1 + minS v s then 4 else if v 0 3 < pop6 (helS v s w.2.1) then 5 else if v 0 2 < w.2.2.2.2 + priS v s w.2.1 then 6 else 0), S) := by
    unfold b_X5_whyNot_85
    rw [m_minutesOf N hw hr hs, bd2_s, m_shut3 N hw hr hs, bd2_s, m4, nI_add, m2, m_heldBehind N hw hr hs g2, bd2_s, m_manyIn hN S hhe, bd2_s, hr.2.2.2.1, m2, m_priceOf hN hw hr hs g2, bd2_s, m5, nI_add, hr.2.2.1]
    by_cases h1 : v 4 s < w.2.2.2.1 + minS v s
    · rw [if_pos h1, if_neg (fun q => by have := (nI_leI (by omega) (by omega)).mp q; omega)]; rfl
    · rw [if_neg h1, if_pos ((nI_leI (by omega) (by omega)).mpr (by omega))]
      by_cases h2 : v 0 3 < pop6 (helS v s w.2.1)
      · rw [if_pos h2, if_neg (fun q => by have := (nI_leI (by omega) (by omega)).mp q; omega)]; rfl
      · rw [if_neg h2, if_pos ((nI_leI (by omega) (by omega)).mpr (by omega))]
        by_cases h3 : v 0 2 < w.2.2.2.2 + priS v s w.2.1
        · rw [if_pos h3, if_neg (fun q => by have := (nI_leI (by omega) (by omega)).mp q; omega)]; rfl
        · rw [if_neg h3, if_pos ((nI_leI (by omega) (by omega)).mpr (by omega))]; rfl
  have e36 : b_X5_whyNot_36 N S (nI s) = some (nI (if bitN w.2.2.1 s = 1 then 2 else if v 1 s = 5 ∧ pop6 w.2.1 < 2 then 3 else if v 4 s < w.2.2.2.1 + minS v s then 4 else if v 0 3 < pop6 (helS v s w.2.1) then 5 else if v 0 2 < w.2.2.2.2 + priS v s w.2.1 then 6 else 0), S) := by
    unfold b_X5_whyNot_36 b_X5_whyNot_41
    rw [if_neg (by decide), m3, nI_bit (by omega) (by omega), m_kind N hw hr hs, bd2_s, m2, m_manyIn hN S g2, bd2_s, e85]
    have := bit_lt w.2.2.1 s
    by_cases h1 : bitN w.2.2.1 s = 1
    · rw [if_pos h1, if_pos ((nI_n1 (by omega)).mpr h1)]; rfl
    · rw [if_neg h1, if_neg (fun q => h1 ((nI_n1 (by omega)).mp q))]
      have e5 : (nI (v 1 s) = 5) ↔ v 1 s = 5 := nI_k (by omega) 5 (by decide)
      simp only [e5]
      by_cases h5 : v 1 s = 5
      · rw [if_pos h5]
        by_cases h2 : pop6 w.2.1 < 2
        · rw [if_pos (show v 1 s = 5 ∧ pop6 w.2.1 < 2 from ⟨h5, h2⟩), if_neg (show ¬ (2 : Int32) ≤ nI (pop6 w.2.1) from fun q => by have := (nI_leI (a := 2) (by omega) (by omega)).mp q; omega)]; rfl
        · rw [if_neg (show ¬ (v 1 s = 5 ∧ pop6 w.2.1 < 2) from fun q => h2 q.2), if_pos (show (2 : Int32) ≤ nI (pop6 w.2.1) from (nI_leI (a := 2) (by omega) (by omega)).mpr (by omega))]
      · rw [if_neg h5, if_neg (show ¬ (v 1 s = 5 ∧ pop6 w.2.1 < 2) from fun q => h5 q.1)]
  have e40 : b_X5_whyNot_40 N S (nI s) = some (1, S) := by
    unfold b_X5_whyNot_40 b_X5_whyNot_41
    rw [if_pos rfl]
  unfold f_X5_whyNot
  by_cases hc : nI s = cl
  · rw [if_pos hc, if_pos hc, e40]
  · rw [if_neg hc, if_neg hc, m1]
    unfold whyS wayS
    by_cases h0 : w.1 = 0
    · simp only [if_pos h0]
      rw [if_pos trivial, m_isFree N hw hr hs, bd2_s, tf_if, e40, e36]
      have := bit_01 (v 0 1) s
      by_cases hb : bitN (v 0 1) s = 1
      · rw [if_pos hb, if_neg (show ¬ bitN (v 0 1) s = 0 by omega)]
      · rw [if_neg hb, if_pos (show bitN (v 0 1) s = 0 by omega)]; rfl
    · have hne : ¬ nI (w.1 - 1) = -1 := by
        intro q
        have := nI_pos (n := w.1 - 1) (by omega)
        rw [q] at this
        exact this (by decide)
      simp only [if_neg h0]
      rw [if_neg hne, m_areNear N hw hr (by omega) hs, bd2_s, tf_if, e40, e36]
      have := bit_01 (v 5 (w.1 - 1)) s
      by_cases hb : bitN (v 5 (w.1 - 1)) s = 1
      · rw [if_pos hb, if_neg (show ¬ bitN (v 5 (w.1 - 1)) s = 0 by omega)]
      · rw [if_neg hb, if_pos (show bitN (v 5 (w.1 - 1)) s = 0 by omega)]; rfl
