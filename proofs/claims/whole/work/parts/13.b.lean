theorem snoc_of {p : List Nat} (h : p ≠ []) : ∃ q s, p = q ++ [s] := by
  refine ⟨p.dropLast, p.getLast h, ?_⟩
  exact (List.dropLast_concat_getLast h).symm
theorem getD_last (q : List Nat) (s : Nat) : (q ++ [s]).getD q.length 0 = s := by simp
theorem getD_pre {q : List Nat} {i : Nat} (h : i < q.length) (s : Nat) : (q ++ [s]).getD i 0 = q.getD i 0 := by
  simp [List.getD_eq_getElem?_getD, List.getElem?_append_left h]
theorem take_pre {q : List Nat} {i : Nat} (h : i ≤ q.length) (s : Nat) : (q ++ [s]).take i = q.take i := List.take_append_of_le_length h
-- a row that is gone in the class's walk, level by level
def lvC (v : VW) (p : List Nat) (S : ST) : Prop := (∀ i, i ≤ p.length → S 42 i = nI (walkS v (p.take i)).2.2.1 ∧ S 43 i = nI (walkS v (p.take i)).2.1 ∧ S 44 i = nI (walkS v (p.take i)).2.2.2.1 ∧ S 45 i = nI (walkS v (p.take i)).2.2.2.2) ∧ ∀ i, i < p.length → S 41 i = nI (p.getD i 0)
def smW (S S' : ST) : Prop := ∀ i, (i < 41 ∨ 45 < i) → S' i = S i
theorem smW_rf (S : ST) : smW S S := fun _ _ => rfl
theorem smW_tr {S S1 S2 : ST} (h1 : smW S S1) (h2 : smW S1 S2) : smW S S2 := fun i hi => (h2 i hi).trans (h1 i hi)
theorem smW_us (S : ST) {n : Nat} (hn : 41 ≤ n ∧ n ≤ 45) (k : Nat) (x : Int32) : smW S (us S n k x) := fun i hi => us_n _ _ _ _ (by omega)
theorem rlC_sm {v : VW} {S S' : ST} {b : Nat} (h : ∀ k, k < 10 → S' (b + k) = S (b + k)) (hr : rlC v S b) : rlC v S' b := by
  have e0 : S' b = S b := h 0 (by decide)
  unfold rlC
  rw [e0, h 1 (by decide), h 2 (by decide), h 3 (by decide), h 4 (by decide), h 5 (by decide), h 6 (by decide), h 7 (by decide), h 8 (by decide), h 9 (by decide)]
  exact hr
theorem rlC_smW {v : VW} {S S' : ST} (h : smW S S') (hr : rlC v S 0) : rlC v S' 0 := rlC_sm (fun k hk => h _ (by omega)) hr
theorem lvC_pre {v : VW} {p : List Nat} {s : Nat} {S : ST} (h : lvC v (p ++ [s]) S) : lvC v p S := by
  have hl : (p ++ [s]).length = p.length + 1 := by simp
  refine ⟨fun i hi => ?_, fun i hi => ?_⟩
  · have := h.1 i (by omega)
    rw [take_pre hi] at this
    exact this
  · rw [h.2 i (by omega), getD_pre hi]
theorem lvC_top {v : VW} {p : List Nat} {S : ST} (h : lvC v p S) : S 42 p.length = nI (walkS v p).2.2.1 ∧ S 43 p.length = nI (walkS v p).2.1 ∧ S 44 p.length = nI (walkS v p).2.2.2.1 ∧ S 45 p.length = nI (walkS v p).2.2.2.2 := by
  have := h.1 p.length (Nat.le_refl _)
  rw [List.take_length] at this
  exact this
theorem lvC_nil {v : VW} {S : ST} (h : S 42 0 = 0 ∧ S 43 0 = 0 ∧ S 44 0 = 0 ∧ S 45 0 = 0) : lvC v [] S := by
  refine ⟨fun i hi => ?_, fun i hi => absurd hi (Nat.not_lt_zero i)⟩
  have : i = 0 := by simpa using hi
  subst this
  exact h
theorem c_waysOn (N : Nat) {v : VW} {S : ST} (hw : wfV v) (hr : rlC v S 0) {p : List Nat} (hp : gdN v p) (hl : lvC v p S) : f_X3_waysOn N S (nI p.length) = some (nI (wayS v (walkS v p).1), S) := by
  have h6 := gd_len hp
  have n6 := hw.1
  unfold f_X3_waysOn
  by_cases h0 : p = []
  · subst h0
    rw [if_neg (show ¬ (0 : Int32) < nI ([] : List Nat).length by decide), hr.2.1]
    rfl
  · obtain ⟨q, s, rfl⟩ := snoc_of h0
    have hlen : (q ++ [s]).length = q.length + 1 := by simp
    have hs : s < v 0 0 := hp.2.2.2.2.2.2.2.2 s (by simp)
    rw [hlen] at h6 ⊢
    have hz : (0 : Int32) < nI (q.length + 1) := nI_lt (a := 0) (by omega) (by omega)
    have e41 : S 41 q.length = nI s := by rw [hl.2 q.length (by omega), getD_last]
    rw [if_pos hz, nI_m1 (by omega), Nat.add_sub_cancel, ck (by omega) (by decide), nI_clamp (by omega), e41, ck (by omega) (by decide), nI_clamp (by omega), (c_kind hr hs).2.2.2.2, walkS_snoc]
    rfl
theorem way_lt {v : VW} (hw : wfV v) {p : List Nat} (hp : gdN v p) : wayS v (walkS v p).1 < 64 := by
  unfold wayS
  by_cases h : (walkS v p).1 = 0
  · rw [if_pos h]; exact hw.2.1
  · rw [if_neg h]; exact (hw.2.2.2.2.2.2.2.1 _ (by have := hp.1; omega)).2.2.2.2
-- the state behind a step that sells
def stC (v : VW) (p : List Nat) (s : Nat) (S : ST) : ST := us (us (us (us (us S 41 p.length (nI s)) 42 (p.length + 1) (nI ((walkS v p).2.2.1 ||| 2 ^ s))) 43 (p.length + 1) (nI (helS v s (walkS v p).2.1))) 44 (p.length + 1) (nI ((walkS v p).2.2.2.1 + minS v s))) 45 (p.length + 1) (nI ((walkS v p).2.2.2.2 + priS v s (walkS v p).2.1))
theorem stC_sm (v : VW) (p : List Nat) (s : Nat) (S : ST) : smW S (stC v p s S) := smW_tr (smW_us _ (by decide) _ _) (smW_tr (smW_us _ (by decide) _ _) (smW_tr (smW_us _ (by decide) _ _) (smW_tr (smW_us _ (by decide) _ _) (smW_us _ (by decide) _ _))))
theorem stC_lv {v : VW} {p : List Nat} {s : Nat} {S : ST} (hl : lvC v p S) : lvC v (p ++ [s]) (stC v p s S) := by
  have hlen : (p ++ [s]).length = p.length + 1 := by simp
  have e41 : stC v p s S 41 = upd (S 41) p.length (nI s) := by
    unfold stC
    rw [us_n _ _ _ _ (by decide), us_n _ _ _ _ (by decide), us_n _ _ _ _ (by decide), us_n _ _ _ _ (by decide), us_r]
  have e42 : stC v p s S 42 = upd (S 42) (p.length + 1) (nI ((walkS v p).2.2.1 ||| 2 ^ s)) := by
    unfold stC
    rw [us_n _ _ _ _ (by decide), us_n _ _ _ _ (by decide), us_n _ _ _ _ (by decide), us_r, us_n _ _ _ _ (by decide)]
  have e43 : stC v p s S 43 = upd (S 43) (p.length + 1) (nI (helS v s (walkS v p).2.1)) := by
    unfold stC
    rw [us_n _ _ _ _ (by decide), us_n _ _ _ _ (by decide), us_r, us_n _ _ _ _ (by decide), us_n _ _ _ _ (by decide)]
  have e44 : stC v p s S 44 = upd (S 44) (p.length + 1) (nI ((walkS v p).2.2.2.1 + minS v s)) := by
    unfold stC
    rw [us_n _ _ _ _ (by decide), us_r, us_n _ _ _ _ (by decide), us_n _ _ _ _ (by decide), us_n _ _ _ _ (by decide)]
  have e45 : stC v p s S 45 = upd (S 45) (p.length + 1) (nI ((walkS v p).2.2.2.2 + priS v s (walkS v p).2.1)) := by
    unfold stC
    rw [us_r, us_n _ _ _ _ (by decide), us_n _ _ _ _ (by decide), us_n _ _ _ _ (by decide), us_n _ _ _ _ (by decide)]
  refine ⟨fun i hi => ?_, fun i hi => ?_⟩
  · rw [e42, e43, e44, e45]
    by_cases h : i = p.length + 1
    · subst h
      rw [← hlen, List.take_length, hlen, walkS_snoc, pk_us, pk_us, pk_us, pk_us]
      exact ⟨rfl, rfl, rfl, rfl⟩
    · rw [pk_un h, pk_un h, pk_un h, pk_un h, take_pre (by omega)]
      exact hl.1 i (by omega)
  · rw [e41]
    by_cases h : i = p.length
    · subst h
      rw [pk_us, getD_last]
    · rw [pk_un h, getD_pre (by omega)]
      exact hl.2 i (by omega)
theorem c_step (N : Nat) {v : VW} {S : ST} (hw : wfV v) (hr : rlC v S 0) {p : List Nat} (hp : gdN v p) (hl : lvC v p S) {s : Nat} (hs : s < v 0 0) : f_X3_step N S (nI p.length) (nI s) = some (nI (whyS v (walkS v p) s), if whyS v (walkS v p) s = 0 then stC v p s S else S) := by
  have h6 := gd_len hp
  have n6 := hw.1
  have hk := (hw.2.2.2.2.2.2.2.1 s hs)
  have hpu := hw.2.2.1
  have har := hw.2.2.2.1
  have hwy := way_lt hw hp
  obtain ⟨t1, t2, t3, t4⟩ := lvC_top hl
  obtain ⟨g1, g2, g3, g4, g5, g6, g7, g8, g9⟩ := id hp
  have hpo := pop_lt _ g2
  have hlf := lef_facts hw hs g2
  have hmi : minS v s ≤ 60 := by unfold minS; split <;> omega
  have hpr : priS v s (walkS v p).2.1 ≤ 40 := by
    unfold priS
    split
    · omega
    · split <;> omega
  have hc := c_kind hr hs
  have e125 : p.length < 6 → bitN (walkS v p).2.2.1 s = 0 → b_X3_step_125 N S (nI p.length) (nI s) (nI (pop6 (walkS v p).2.1)) (nI ((walkS v p).2.2.2.1 + minS v s)) (if takB v s (walkS v p).2.1 then nI (backS v s) else -1) (nI (lefS v s (walkS v p).2.1)) = some (nI (if v 0 3 < pop6 (helS v s (walkS v p).2.1) then 5 else if v 0 2 < (walkS v p).2.2.2.2 + priS v s (walkS v p).2.1 then 6 else 0), if (if v 0 3 < pop6 (helS v s (walkS v p).2.1) then 5 else if v 0 2 < (walkS v p).2.2.2.2 + priS v s (walkS v p).2.1 then 6 else 0) = 0 then stC v p s S else S) := by
    intro hL hb
    have hpl := pop_lt _ hlf.1
    have hlb : bitN (lefS v s (walkS v p).2.1) s = 0 := sub_bit (sub_tr hlf.2.1 g6) hb
    have hph : pop6 (helS v s (walkS v p).2.1) = pop6 (lefS v s (walkS v p).2.1) + 1 := (F1 _ hlf.1 s (by omega) hlb).1
    have i7 := ixo (k := p.length) (L := 7) (by omega) (by decide)
    have i6 := ixo (k := p.length) (L := 6) (by omega) (by decide)
    have j7 := ixo (k := p.length + 1) (L := 7) (by omega) (by decide)
    unfold b_X3_step_125
    rw [c_bitCount N S hlf.1, bd2_s, hr.2.2.2.1, c_asked N hw hr hs g2, bd2_s, nI_1]
    simp only [if_neg i7, if_neg i6, if_neg j7]
    rw [nI_clamp (n := p.length) (by omega), nI_clamp (n := p.length + 1) (by omega), t4, nI_add, hr.2.2.1, hph]
    by_cases h5 : v 0 3 < pop6 (lefS v s (walkS v p).2.1) + 1
    · rw [if_neg (show ¬ nI (pop6 (lefS v s (walkS v p).2.1)) < nI (v 0 3) from fun q => by have := (nI_ltI (by omega) (by omega)).mp q; omega), if_pos h5]
      rfl
    · rw [if_pos (show nI (pop6 (lefS v s (walkS v p).2.1)) < nI (v 0 3) from (nI_ltI (by omega) (by omega)).mpr (by omega)), if_neg h5]
      by_cases h7 : v 0 2 < (walkS v p).2.2.2.2 + priS v s (walkS v p).2.1
      · rw [if_neg (show ¬ nI ((walkS v p).2.2.2.2 + priS v s (walkS v p).2.1) ≤ nI (v 0 2) from fun q => by have := (nI_leI (by omega) (by omega)).mp q; omega), if_pos h7]
        rfl
      · rw [if_pos (show nI ((walkS v p).2.2.2.2 + priS v s (walkS v p).2.1) ≤ nI (v 0 2) from (nI_leI (by omega) (by omega)).mpr (by omega)), if_neg h7, if_pos rfl]
        simp only [nm_s]
        rw [us_n _ _ _ _ (show 42 ≠ 41 by decide), t1, one_shl (by omega), nI_or, nI_or]
        rfl
  unfold f_X3_step
  rw [c_waysOn N hw hr hp hl, bd2_s, nI_bit (by omega) (by omega)]
  unfold whyS
  have b01 := bit_01 (wayS v (walkS v p).1) s
  by_cases hb : bitN (wayS v (walkS v p).1) s = 0
  · rw [if_pos (show nI (bitN (wayS v (walkS v p).1) s) = 0 by rw [hb]; rfl), if_pos hb]
    rfl
  · rw [if_neg (show ¬ nI (bitN (wayS v (walkS v p).1) s) = 0 from fun q => hb ((nI_n0 (by omega)).mp q)), if_neg hb]
    by_cases hL : p.length = 6
    · rw [if_pos (show (6 : Int32) ≤ nI p.length by rw [hL]; decide), if_pos (gd_full hw hp hL hs)]
      rfl
    · have i7 := ixo (k := p.length) (L := 7) (by omega) (by decide)
      have s6 := ixo (k := s) (L := 6) (by omega) (by decide)
      rw [if_neg (show ¬ (6 : Int32) ≤ nI p.length from fun q => by have := (nI_leI (a := 6) (by decide) (by omega)).mp q; omega)]
      simp only [if_neg i7, if_neg s6]
      rw [nI_clamp (n := p.length) (by omega), t1, nI_bit (by omega) (by omega), t2, c_bitCount N S g2, bd2_s, c_sells N hw hr hs hpo, bd2_s, tf_if]
      have b02 := bit_01 (walkS v p).2.2.1 s
      by_cases hb2 : bitN (walkS v p).2.2.1 s = 1
      · rw [if_neg (show ¬ nI (bitN (walkS v p).2.2.1 s) = 0 from fun q => by have := (nI_n0 (by omega)).mp q; omega), if_pos hb2]
        rfl
      · rw [if_pos (show nI (bitN (walkS v p).2.2.1 s) = 0 from (nI_n0 (by omega)).mpr (by omega)), if_neg hb2]
        by_cases h3 : v 1 s = 5 ∧ pop6 (walkS v p).2.1 < 2
        · rw [if_neg (not_not_intro h3), if_pos h3]
          rfl
        · rw [if_pos h3, if_neg h3, c_minutes N hw hr hs, bd2_s, t3, nI_add, nI_clamp (n := s) (by omega), hc.2.2.2.1, c_goodTaken N hw hr hs g2, bd2_s]
          by_cases h4 : v 4 s < (walkS v p).2.2.2.1 + minS v s
          · rw [if_neg (show ¬ nI ((walkS v p).2.2.2.1 + minS v s) ≤ nI (v 4 s) from fun q => by have := (nI_leI (by omega) (by omega)).mp q; omega), if_pos h4]
            rfl
          · rw [if_pos (show nI ((walkS v p).2.2.2.1 + minS v s) ≤ nI (v 4 s) from (nI_leI (by omega) (by omega)).mpr (by omega)), if_neg h4]
            have e := e125 (by omega) (by omega)
            unfold lefS at e
            by_cases ht : takB v s (walkS v p).2.1
            · simp only [if_pos ht] at e ⊢
              rw [if_neg (nI_ne_m1 (by omega)), F9 _ g2 _ hlf.2.2 ht.2]
              exact e
            · simp only [if_neg ht] at e ⊢
              rw [if_pos trivial]
              exact e
