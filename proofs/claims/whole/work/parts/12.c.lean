-- what stays when only the object's own numbers 4 .. 8 change
def sm0 (S S' : ST) : Prop := (∀ i, i ≠ 0 → S' i = S i) ∧ ∀ k, (k < 4 ∨ 8 < k) → S' 0 k = S 0 k
theorem sm0_rf (S : ST) : sm0 S S := ⟨fun _ _ => rfl, fun _ _ => rfl⟩
theorem sm0_tr {S S1 S2 : ST} (h1 : sm0 S S1) (h2 : sm0 S1 S2) : sm0 S S2 := ⟨fun i hi => (h2.1 i hi).trans (h1.1 i hi), fun k hk => (h2.2 k hk).trans (h1.2 k hk)⟩
theorem sm0_us (S : ST) {k : Nat} (hk : 4 ≤ k ∧ k ≤ 8) (x : Int32) : sm0 S (us S 0 k x) := ⟨fun i hi => us_n _ _ _ _ hi, fun j hj => us_k _ _ _ _ (by omega)⟩
theorem m_begin (N : Nat) (S : ST) : ∃ S', f_X5_begin N S = some S' ∧ sm0 S S' ∧ wM nd0 S' := by
  refine ⟨_, rfl, ?_, ?_⟩
  · exact sm0_tr (sm0_us _ (by decide) _) (sm0_tr (sm0_us _ (by decide) _) (sm0_tr (sm0_us _ (by decide) _) (sm0_tr (sm0_us _ (by decide) _) (sm0_us _ (by decide) _))))
  · refine ⟨?_, ?_, ?_, ?_, ?_⟩
    · rw [us_k _ _ _ _ (by decide), us_k _ _ _ _ (by decide), us_k _ _ _ _ (by decide), us_k _ _ _ _ (by decide), us_s]; rfl
    · rw [us_k _ _ _ _ (by decide), us_k _ _ _ _ (by decide), us_k _ _ _ _ (by decide), us_s]; rfl
    · rw [us_s]; rfl
    · rw [us_k _ _ _ _ (by decide), us_s]; rfl
    · rw [us_k _ _ _ _ (by decide), us_k _ _ _ _ (by decide), us_s]; rfl
theorem rlM_sm0 {v : VW} {S S' : ST} (h : sm0 S S') (hr : rlM v (S 1)) : rlM v (S' 1) := by rw [h.1 1 (by decide)]; exact hr
theorem m_buy {N : Nat} (hN : 7 ≤ N) {v : VW} {S : ST} (hw : wfV v) (hr : rlM v (S 1)) {w : ND} (g2 : w.2.1 < 64) (hm : wM w S) {s : Nat} (hs : s < v 0 0) : ∃ S', f_X5_buy N S (nI s) = some S' ∧ sm0 S S' ∧ wM (buyS v w s) S' := by
  have n6 := hw.1
  obtain ⟨m1, m2, m3, m4, m5⟩ := hm
  have k1 : sm0 S (us S 0 6 (nI (w.2.2.2.2 + priS v s w.2.1))) := sm0_us _ (by decide) _
  have k2 : sm0 S (us (us S 0 6 (nI (w.2.2.2.2 + priS v s w.2.1))) 0 5 (nI (helS v s w.2.1))) := sm0_tr k1 (sm0_us _ (by decide) _)
  have e : f_X5_buy N S (nI s) = some (us (us (us (us (us S 0 6 (nI (w.2.2.2.2 + priS v s w.2.1))) 0 5 (nI (helS v s w.2.1))) 0 7 (nI (w.2.2.2.1 + minS v s))) 0 8 (nI (w.2.2.1 ||| 2 ^ s))) 0 4 (nI s)) := by
    unfold f_X5_buy
    rw [m2, m_priceOf hN hw hr hs g2, bd2_s, m5, nI_add, nm_s, us_k _ _ _ _ (show 5 ≠ 6 by decide), m2, m_heldBehind N hw (rlM_sm0 k1 hr) hs g2, bd2_s, nm_s, m_minutesOf N hw (rlM_sm0 k2 hr) hs, bd2_s, us_k _ _ _ _ (show 7 ≠ 5 by decide), us_k _ _ _ _ (show 7 ≠ 6 by decide), m4, nI_add, nm_s, us_k _ _ _ _ (show 8 ≠ 7 by decide), us_k _ _ _ _ (show 8 ≠ 5 by decide), us_k _ _ _ _ (show 8 ≠ 6 by decide), m3, one_shl (by omega), nI_or, nm_s, nm_s]
  refine ⟨_, e, sm0_tr k2 (sm0_tr (sm0_us _ (by decide) _) (sm0_tr (sm0_us _ (by decide) _) (sm0_us _ (by decide) _))), ?_, ?_, ?_, ?_, ?_⟩
  · rw [us_s]; rfl
  · rw [us_k _ _ _ _ (by decide), us_k _ _ _ _ (by decide), us_k _ _ _ _ (by decide), us_s]; rfl
  · rw [us_k _ _ _ _ (by decide), us_s]; rfl
  · rw [us_k _ _ _ _ (by decide), us_k _ _ _ _ (by decide), us_s]; rfl
  · rw [us_k _ _ _ _ (by decide), us_k _ _ _ _ (by decide), us_k _ _ _ _ (by decide), us_k _ _ _ _ (by decide), us_s]; rfl
-- THE ERRAND as a list
def erS (v : VW) : List Nat := (List.range' 0 (v 0 4)).map (v 6)
def erF (v : VW) (k : Nat) : List Nat := (List.range' k (v 0 4 - k)).map (v 6)
theorem erF_end (v : VW) {k : Nat} (h : v 0 4 ≤ k) : erF v k = [] := by
  unfold erF
  rw [Nat.sub_eq_zero_of_le h]
  rfl
theorem erF_step (v : VW) {k : Nat} (h : k < v 0 4) : erF v k = v 6 k :: erF v (k + 1) := by
  unfold erF
  rw [show v 0 4 - k = (v 0 4 - (k + 1)) + 1 by omega, List.range'_succ, List.map_cons]
theorem why_le (v : VW) (w : ND) (s : Nat) : whyS v w s ≤ 6 := by
  unfold whyS
  split
  · decide
  · split
    · decide
    · split
      · decide
      · split
        · decide
        · split
          · decide
          · split <;> decide
-- the reference's errand from place k on; where nothing was wrong so far
theorem m_errand_end (N : Nat) {S : ST} {w : ND} (hm : wM w S) (x : Int32) (wr : Int32) : b_X5_errand_97 N S x wr = some (if x = 0 then wr else if x = 1 then nI w.2.2.2.2 else if x = 2 then nI w.2.2.2.1 else nI w.2.1, S) := by
  obtain ⟨m1, m2, m3, m4, m5⟩ := hm
  unfold b_X5_errand_97
  rw [m2, m4, m5]
  by_cases h0 : x = 0
  · rw [if_pos h0, if_pos h0]
  · rw [if_neg h0, if_neg h0]
    by_cases h1 : x = 1
    · rw [if_pos h1, if_pos h1]
    · rw [if_neg h1, if_neg h1]
      by_cases h2 : x = 2
      · rw [if_pos h2, if_pos h2]
      · rw [if_neg h2, if_neg h2]
theorem m_errand_loop {N : Nat} (hN : 7 ≤ N) {v : VW} (hw : wfV v) (x : Int32) : ∀ (n : Nat) {S : ST} {k : Nat} {p : List Nat}, rlM v (S 1) → gdN v p → wM (walkS v p) S → p.length = k → k ≤ v 0 4 → v 0 4 + 1 < k + n →
    ∃ S', b_X5_errand_27 N n S x (-1) (nI k) = some (if x = 0 then (if (goS v (erF v k) p).1 = 0 then -1 else nI (10 * (goS v (erF v k) p).2.length + (goS v (erF v k) p).1)) else if x = 1 then nI (walkS v (goS v (erF v k) p).2).2.2.2.2 else if x = 2 then nI (walkS v (goS v (erF v k) p).2).2.2.2.1 else nI (walkS v (goS v (erF v k) p).2).2.1, S') ∧ sm0 S S' := by
  intro n
  induction n with
  | zero => intro S k p _ _ _ _ _ h; omega
  | succ n ih =>
    intro S k p hr hp hm hl hk hn
    have n12 := hw.2.2.2.2.1
    have n6 := hw.1
    rw [b_X5_errand_27, hr.2.2.2.2.1]
    by_cases hke : v 0 4 ≤ k
    · rw [if_pos ((nI_leI (by omega) (by omega)).mpr hke), m_errand_end N hm, erF_end v hke]
      exact ⟨S, rfl, sm0_rf S⟩
    · have hs : v 6 k < v 0 0 := hw.2.2.2.2.2.2.2.2.2.1 k (by omega)
      rw [if_neg (fun q => hke ((nI_leI (by omega) (by omega)).mp q)), if_pos rfl, show (34 : Int32) = nI 34 from rfl, nI_add, ck (by omega) (by decide), nI_clamp (by omega), hr.2.2.2.2.2.2.2.2.1 k (by omega), m_whyNot hN hw hr hp hm hs, bd2_s]
      have hc : ¬ nI (v 6 k) = -1 := by
        intro q
        have := nI_pos (n := v 6 k) (by omega)
        rw [q] at this
        exact this (by decide)
      rw [if_neg hc, erF_step v (by omega)]
      have hwl := why_le v (walkS v p) (v 6 k)
      unfold goS b_X5_errand_79 b_X5_errand_91
      dsimp only
      by_cases h0 : whyS v (walkS v p) (v 6 k) = 0
      · obtain ⟨S1, e1, k1, w1⟩ := m_buy hN hw hr hp.2.1 hm hs
        have g1 := gd_step hw hp hs h0
        rw [← walkS_snoc] at w1
        rw [h0, if_pos (by decide), if_pos rfl, e1, bd1_s, show nI k + 1 = nI (k + 1) from nI_1 k, if_pos (show nI 0 = 0 from rfl)]
        obtain ⟨S2, e2, k2⟩ := ih (k := k + 1) (rlM_sm0 k1 hr) g1 w1 (by rw [List.length_append, hl]; rfl) (by omega) (by omega)
        exact ⟨S2, e2, sm0_tr k1 k2⟩
      · rw [if_neg (fun q => h0 (by have := (nI_leI (b := 0) (by omega) (by decide)).mp q; omega)), if_neg (fun q => h0 ((nI_n0 (by omega)).mp q)), if_neg h0]
        obtain ⟨n', rfl⟩ : ∃ n', n = n' + 1 := ⟨n - 1, by omega⟩
        have hne : ¬ (10 * nI k + nI (whyS v (walkS v p) (v 6 k)) : Int32) = -1 := by
          rw [show (10 : Int32) = nI 10 from rfl, pk_mul, nI_add]
          intro q
          have := nI_pos (n := 10 * k + whyS v (walkS v p) (v 6 k)) (by omega)
          rw [q] at this
          exact this (by decide)
        rw [b_X5_errand_27, if_neg hne, m_errand_end N hm, ite_self]
        refine ⟨S, ?_, sm0_rf S⟩
        rw [if_neg h0, hl, show (10 : Int32) = nI 10 from rfl, pk_mul, nI_add]
