-- the class's reads
theorem B6 : ∀ h, h < 64 → (f_J6_bitCount_0f7a4 0 (fun _ _ => 0) (nI h)).map Prod.fst = some (nI (pop6 h)) := by decide +kernel
theorem c_bitCount (N : Nat) (S : ST) {h : Nat} (hh : h < 64) : f_J6_bitCount_0f7a4 N S (nI h) = some (nI (pop6 h), S) := by
  have e := B6 h hh
  unfold f_J6_bitCount_0f7a4 at e ⊢
  exact congrArg (fun z => some (z, S)) (Option.some.inj e)
theorem F10 : ∀ h, h < 64 → ∀ k, k < 6 → ((nI h &&& ((1 : Int32) <<< (nI k &&& 31)) = 0) ↔ bitN h k = 0) := by decide +kernel
theorem c_kind {v : VW} {S : ST} (hr : rlC v S 0) {s : Nat} (hs : s < v 0 0) : S 1 s = nI (v 1 s) ∧ S 2 s = nI (v 2 s) ∧ S 3 s = nI (v 3 s) ∧ S 4 s = nI (v 4 s) ∧ S 5 s = nI (v 5 s) := hr.2.2.2.2.2.2.2.1 s hs
theorem c_minutes (N : Nat) {v : VW} {S : ST} (hw : wfV v) (hr : rlC v S 0) {s : Nat} (hs : s < v 0 0) : f_X2_minutesTaken_0 N S (nI s) = some (nI (minS v s), S) := by
  have hk := (hw.2.2.2.2.2.2.2.1 s hs)
  have n6 := hw.1
  have hc := c_kind hr hs
  have i6 := ixo (k := s) (L := 6) (by omega) (by decide)
  unfold f_X2_minutesTaken_0 minS
  simp only [if_neg i6]
  rw [nI_clamp (by omega), hc.1, hc.2.2.1]
  have e3 : (nI (v 1 s) = 3) ↔ v 1 s = 3 := nI_k (by omega) 3 (by decide)
  simp only [e3]
  by_cases h3 : v 1 s = 3
  · rw [if_pos h3, if_pos h3, show (2 : Int32) = nI 2 from rfl, pk_mul]
  · rw [if_neg h3, if_neg h3]
theorem c_sells (N : Nat) {v : VW} {S : ST} (hw : wfV v) (hr : rlC v S 0) {s m : Nat} (hs : s < v 0 0) (hm : m < 7) : f_X2_sellsTo_0 N S (nI s) (nI m) = some (tf (¬ (v 1 s = 5 ∧ m < 2)), S) := by
  have hk := (hw.2.2.2.2.2.2.2.1 s hs)
  have n6 := hw.1
  have hc := c_kind hr hs
  unfold f_X2_sellsTo_0
  rw [ck (by omega) (by decide), nI_clamp (by omega), hc.1]
  have e5 : (nI (v 1 s) = 5) ↔ v 1 s = 5 := nI_k (by omega) 5 (by decide)
  have e2 : (nI m < 2) ↔ m < 2 := nI_ltI (b := 2) (by omega) (by decide)
  simp only [e5, e2]
  by_cases h5 : v 1 s = 5
  · rw [if_pos h5]
    by_cases h2 : m < 2
    · rw [if_pos h2, tf_f (not_not_intro ⟨h5, h2⟩)]
    · rw [if_neg h2, tf_t (show ¬ (v 1 s = 5 ∧ m < 2) from fun q => h2 q.2)]
  · rw [if_neg h5, tf_t (show ¬ (v 1 s = 5 ∧ m < 2) from fun q => h5 q.1)]
theorem c_goodTaken (N : Nat) {v : VW} {S : ST} (hw : wfV v) (hr : rlC v S 0) {s h : Nat} (hs : s < v 0 0) (hh : h < 64) : f_X2_goodTaken_0 N S (nI s) (nI h) = some (if takB v s h then nI (backS v s) else -1, S) := by
  have hk := (hw.2.2.2.2.2.2.2.1 s hs)
  have n6 := hw.1
  have hc := c_kind hr hs
  have hb := back_lt hw hs
  have e22 : b_X2_goodTaken_0_22 N S (nI s) (nI h) = some (if bitN h (backS v s) = 1 then nI (backS v s) else -1, S) := by
    have e38 : b_X2_goodTaken_0_38 N S (nI h) (nI (backS v s)) = some (if bitN h (backS v s) = 1 then nI (backS v s) else -1, S) := by
      unfold b_X2_goodTaken_0_38
      have h01 := bit_01 h (backS v s)
      by_cases hx : bitN h (backS v s) = 1
      · rw [if_pos hx, if_neg (fun q => by have := (F10 h hh _ (by omega)).mp q; omega)]
      · rw [if_neg hx, if_pos ((F10 h hh _ (by omega)).mpr (by omega))]
    unfold b_X2_goodTaken_0_22
    rw [hr.1, ← e38]
    unfold backS
    by_cases h0 : s = 0
    · rw [if_pos h0, if_pos (by rw [h0]; decide), nI_m1 (by omega)]
    · rw [if_neg h0, if_neg (fun q => h0 (by have := (nI_leI (b := 0) (by omega) (by decide)).mp q; omega)), nI_m1 (by omega)]
  have i6 := ixo (k := s) (L := 6) (by omega) (by decide)
  unfold f_X2_goodTaken_0
  simp only [if_neg i6]
  rw [nI_clamp (by omega), hc.1, e22]
  have e2 : (nI (v 1 s) = 2) ↔ v 1 s = 2 := nI_k (by omega) 2 (by decide)
  have e4 : (nI (v 1 s) = 4) ↔ v 1 s = 4 := nI_k (by omega) 4 (by decide)
  simp only [e2, e4]
  by_cases h2 : v 1 s = 2
  · rw [if_pos h2]
    by_cases hx : bitN h (backS v s) = 1
    · rw [if_pos hx, if_pos ⟨Or.inl h2, hx⟩]
    · rw [if_neg hx, if_neg (fun q => hx q.2)]
  · rw [if_neg h2]
    by_cases h4 : v 1 s = 4
    · rw [if_pos h4]
      by_cases hx : bitN h (backS v s) = 1
      · rw [if_pos hx, if_pos ⟨Or.inr h4, hx⟩]
      · rw [if_neg hx, if_neg (fun q => hx q.2)]
    · rw [if_neg h4, if_neg (fun q => q.1.elim h2 h4)]
theorem nI_ne_m1 {n : Nat} (h : n < 2 ^ 31) : ¬ nI n = -1 := by
  intro q
  have := nI_pos h
  rw [q] at this
  exact this (by decide)
theorem c_asked (N : Nat) {v : VW} {S : ST} (hw : wfV v) (hr : rlC v S 0) {s h : Nat} (hs : s < v 0 0) (hh : h < 64) : f_X2_asked_0 N S (nI s) (nI (pop6 h)) (if takB v s h then nI (backS v s) else -1) = some (nI (priS v s h), S) := by
  have hk := (hw.2.2.2.2.2.2.2.1 s hs)
  have n6 := hw.1
  have hc := c_kind hr hs
  have hb := back_lt hw hs
  have hkb := (hw.2.2.2.2.2.2.2.1 _ hb)
  have hcb := c_kind hr hb
  have hp := pop_lt h hh
  have e78 : ∀ a, a < 100 → b_X2_asked_0_78 N S (nI a) = some (nI a, S) := by
    intro a ha
    unfold b_X2_asked_0_78
    rw [if_pos (nI_pos' (by omega))]
  have e60n : ∀ a, a < 100 → b_X2_asked_0_60 N S (-1) (nI a) = some (nI a, S) := by
    intro a ha
    unfold b_X2_asked_0_60
    rw [if_pos rfl, e78 a ha]
  have e60y : b_X2_asked_0_60 N S (nI (backS v s)) (nI (v 2 s)) = some (nI (v 2 s - v 2 (backS v s) / 2), S) := by
    unfold b_X2_asked_0_60
    rw [if_neg (nI_ne_m1 (by omega)), ck (by omega) (by decide), nI_clamp (by omega), hcb.2.1, show (2 : Int32) = nI 2 from rfl, pk_div (by omega) (by decide) (by decide)]
    by_cases hx : v 2 (backS v s) / 2 ≤ v 2 s
    · rw [pk_sub hx, e78 _ (by omega)]
    · unfold b_X2_asked_0_78
      rw [if_neg (fun q => by
        have h1 := pk_sneg (a := v 2 s) (b := v 2 (backS v s) / 2) (by omega) (by omega)
        rw [i_lt] at h1
        rw [i_le] at q
        exact absurd q (by have : (0 : Int32).toInt = 0 := rfl; omega)), Nat.sub_eq_zero_of_le (by omega)]
      rfl
  have e16 : ¬ (v 1 s = 4 ∧ h = 0) → b_X2_asked_0_16 N S (nI s) (nI (pop6 h)) (if takB v s h then nI (backS v s) else -1) = some (nI (if v 1 s = 1 ∨ v 1 s = 3 ∨ v 1 s = 5 then v 2 s + pop6 h else v 2 s - lesS v s h), S) := by
    intro hn
    have i6 := ixo (k := s) (L := 6) (by omega) (by decide)
    unfold b_X2_asked_0_16 b_X2_asked_0_54
    simp only [if_neg i6]
    rw [nI_clamp (by omega), hc.1, hc.2.1, nI_add]
    have e1 : (nI (v 1 s) = 1) ↔ v 1 s = 1 := nI_k (by omega) 1 (by decide)
    have e3 : (nI (v 1 s) = 3) ↔ v 1 s = 3 := nI_k (by omega) 3 (by decide)
    have e5 : (nI (v 1 s) = 5) ↔ v 1 s = 5 := nI_k (by omega) 5 (by decide)
    simp only [e1, e3, e5]
    by_cases h1 : v 1 s = 1
    · rw [if_pos h1, if_pos (show v 1 s = 1 ∨ v 1 s = 3 ∨ v 1 s = 5 from Or.inl h1), if_neg (show ¬ takB v s h from fun q => by have := q.1; omega), e60n _ (by omega)]
    · rw [if_neg h1]
      by_cases h3 : v 1 s = 3
      · rw [if_pos h3, if_pos (show v 1 s = 1 ∨ v 1 s = 3 ∨ v 1 s = 5 from Or.inr (Or.inl h3)), if_neg (show ¬ takB v s h from fun q => by have := q.1; omega), e60n _ (by omega)]
      · rw [if_neg h3]
        by_cases h5 : v 1 s = 5
        · rw [if_pos h5, if_pos (show v 1 s = 1 ∨ v 1 s = 3 ∨ v 1 s = 5 from Or.inr (Or.inr h5)), if_neg (show ¬ takB v s h from fun q => by have := q.1; omega), e60n _ (by omega)]
        · rw [if_neg h5, if_neg (show ¬ (v 1 s = 1 ∨ v 1 s = 3 ∨ v 1 s = 5) by omega)]
          unfold lesS
          by_cases ht : takB v s h
          · rw [if_pos ht, if_pos ht, e60y]
          · rw [if_neg ht, if_neg ht, e60n _ (by omega)]
            rfl
  unfold f_X2_asked_0 priS
  rw [ck (by omega) (by decide), nI_clamp (by omega), hc.1]
  have e4 : (nI (v 1 s) = 4) ↔ v 1 s = 4 := nI_k (by omega) 4 (by decide)
  have ep : (nI (pop6 h) = 0) ↔ h = 0 := by
    rw [nI_n0 (by omega)]
    exact ⟨F8 h hh, fun q => by rw [q]; rfl⟩
  simp only [e4, ep]
  by_cases h4 : v 1 s = 4
  · rw [if_pos h4]
    by_cases h0 : h = 0
    · rw [if_pos h0, if_pos (show v 1 s = 4 ∧ h = 0 from ⟨h4, h0⟩)]; rfl
    · rw [if_neg h0, if_neg (show ¬ (v 1 s = 4 ∧ h = 0) from fun q => h0 q.2), e16 (fun q => h0 q.2)]
  · rw [if_neg h4, if_neg (show ¬ (v 1 s = 4 ∧ h = 0) from fun q => h4 q.1), e16 (fun q => h4 q.1)]
