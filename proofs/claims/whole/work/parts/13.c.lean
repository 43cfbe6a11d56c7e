theorem RM_fr {v v1 v2 : VW} {k0 k1 : Nat} {r : Nat → Int32} {S S' : ST} (h : ∀ i, 1 ≤ i ∧ i ≤ 4 → S' i = S i) (hM : RM v v1 v2 k0 k1 r S) : RM v v1 v2 k0 k1 r S' := by
  unfold RM
  rw [h 1 (by decide), h 2 (by decide), h 3 (by decide), h 4 (by decide)]
  exact hM
theorem RC_fr {v v1 v2 : VW} {k0 k1 : Nat} {r : Nat → Int32} {S S' : ST} (h : ∀ i, i < 40 ∨ (52 ≤ i ∧ i ≤ 53) → S' i = S i) (h0 : S' 42 0 = 0 ∧ S' 43 0 = 0 ∧ S' 44 0 = 0 ∧ S' 45 0 = 0) (hC : RC v v1 v2 k0 k1 r S) : RC v v1 v2 k0 k1 r S' := by
  obtain ⟨a1, a2, a3, a4, a5, a6, -⟩ := hC
  refine ⟨rlC_sm (fun k hk => h _ (by omega)) a1, by rw [h 52 (by omega)]; exact a2, by rw [h 52 (by omega)]; exact a3, fun q => rlC_sm (fun k hk => h _ (by omega)) (a4 q), fun q => rlC_sm (fun k hk => h _ (by omega)) (a5 q), by rw [h 53 (by omega)]; exact a6, h0⟩
theorem lvC_0 {v : VW} {p : List Nat} {S : ST} (h : lvC v p S) : S 42 0 = 0 ∧ S 43 0 = 0 ∧ S 44 0 = 0 ∧ S 45 0 = 0 := by
  have := h.1 0 (Nat.zero_le _)
  rw [List.take_zero] at this
  exact this
def smG (S S' : ST) : Prop := ∀ i, (i < 40 ∨ 45 < i) → S' i = S i
theorem lvC_us {v : VW} {p : List Nat} {S : ST} (h : lvC v p S) {n : Nat} (hn : n < 41 ∨ 45 < n) (k : Nat) (x : Int32) : lvC v p (us S n k x) := by
  unfold lvC
  rw [us_n _ _ _ _ (show 41 ≠ n by omega), us_n _ _ _ _ (show 42 ≠ n by omega), us_n _ _ _ _ (show 43 ≠ n by omega), us_n _ _ _ _ (show 44 ≠ n by omega), us_n _ _ _ _ (show 45 ≠ n by omega)]
  exact h
theorem c_goErrand_loop (N : Nat) {v : VW} (hw : wfV v) : ∀ (n : Nat) {S : ST} {k : Nat} {p : List Nat}, rlC v S 0 → gdN v p → lvC v p S → S 40 6 = nI p.length → p.length = k → k ≤ v 0 4 → v 0 4 < k + n →
    ∃ S', b_X3_goErrand_7 N n S (nI k) = some (nI (goS v (erF v k) p).1, S') ∧ smG S S' ∧ lvC v (goS v (erF v k) p).2 S' ∧ gdN v (goS v (erF v k) p).2 ∧ S' 40 6 = nI (goS v (erF v k) p).2.length := by
  intro n
  induction n with
  | zero => intro S k p _ _ _ _ _ _ h; omega
  | succ n ih =>
    intro S k p hr hp hl hg hk hke hn
    have n12 := hw.2.2.2.2.1
    have n6 := hw.1
    rw [b_X3_goErrand_7, hr.2.2.2.2.1]
    by_cases he : v 0 4 ≤ k
    · rw [if_pos ((nI_leI (by omega) (by omega)).mpr he), erF_end v he]
      exact ⟨S, rfl, fun _ _ => rfl, hl, hp, hg⟩
    · have hs : v 6 k < v 0 0 := hw.2.2.2.2.2.2.2.2.2.1 k (by omega)
      rw [if_neg (fun q => he ((nI_leI (by omega) (by omega)).mp q)), ck (by omega) (by decide), nI_clamp (by omega), hg, hr.2.2.2.2.2.2.2.2.1 k (by omega), c_step N hw hr hp hl hs, bd2_s, erF_step v (by omega)]
      unfold goS
      have hwl := why_le v (walkS v p) (v 6 k)
      by_cases h0 : whyS v (walkS v p) (v 6 k) = 0
      · have g1 := gd_step hw hp hs h0
        rw [if_pos (show nI (whyS v (walkS v p) (v 6 k)) = 0 by rw [h0]; rfl), if_pos h0, if_pos h0, nm_s]
        have sm := stC_sm v p (v 6 k) S
        have e40 : stC v p (v 6 k) S 40 6 = nI p.length := by rw [sm 40 (by omega)]; exact hg
        rw [e40, nI_1, nI_1]
        obtain ⟨S2, e2, k2, k3, k4, k5⟩ := ih (S := us (stC v p (v 6 k) S) 40 6 (nI (p.length + 1))) (k := k + 1) (rlC_us (rlC_smW sm hr) (fun k hk => by omega) _ _) g1 (lvC_us (stC_lv hl) (by omega) _ _) (by rw [us_s]; simp) (by simp; omega) (by omega) (by omega)
        exact ⟨S2, e2, fun i hi => by rw [k2 i hi, us_n _ _ _ _ (by omega), sm i (by omega)], k3, k4, k5⟩
      · rw [if_neg (show ¬ nI (whyS v (walkS v p) (v 6 k)) = 0 from fun q => h0 ((nI_n0 (by omega)).mp q)), if_neg h0, if_neg h0]
        exact ⟨S, rfl, fun _ _ => rfl, hl, hp, hg⟩
theorem c_goErrand {N : Nat} (hN : 20 ≤ N) {v : VW} (hw : wfV v) {S : ST} (hr : rlC v S 0) (h0 : S 42 0 = 0 ∧ S 43 0 = 0 ∧ S 44 0 = 0 ∧ S 45 0 = 0) :
    ∃ S', f_X3_goErrand N S = some (nI (goS v (erF v 0) []).1, S') ∧ smG S S' ∧ lvC v (goS v (erF v 0) []).2 S' ∧ gdN v (goS v (erF v 0) []).2 ∧ S' 40 6 = nI (goS v (erF v 0) []).2.length := by
  have n12 := hw.2.2.2.2.1
  unfold f_X3_goErrand
  rw [nm_s]
  obtain ⟨S2, e2, k2, k3, k4, k5⟩ := c_goErrand_loop N hw N (S := us S 40 6 0) (k := 0) (p := []) (rlC_us hr (fun k hk => by omega) _ _) (gd_nil v) (lvC_us (lvC_nil h0) (by omega) _ _) (by rw [us_s]; rfl) rfl (Nat.zero_le _) (by omega)
  exact ⟨S2, e2, fun i hi => by rw [k2 i hi, us_n _ _ _ _ (by omega)], k3, k4, k5⟩
theorem go_why (v : VW) : ∀ (r p : List Nat), (goS v r p).1 ≤ 6 := by
  intro r
  induction r with
  | nil => intro p; exact Nat.zero_le _
  | cons s r ih =>
    intro p
    unfold goS
    split
    · exact ih _
    · exact why_le _ _ _
-- errand
theorem st_errand {N : Nat} (hN : 20 ≤ N) (x : Int32) : StI Rl (fun S => f_X4_errand N S x) (fun S => f_X5_errand N S x) := by
  rintro SC SM ⟨v, v1, v2, k0, k1, r, w0, w1, w2, w3, w4, hC, hM⟩
  simp only [f_X4_errand, f_X5_errand, c_isIn, m_in, bd2_s, tf_if, Int32.toInt_toInt64, c_bad, m_bad]
  rw [show (0 : Int64).toInt = 0 from rfl, show (3 : Int64).toInt = 3 from rfl, show (0 : Int32).toInt = 0 from rfl, show (3 : Int32).toInt = 3 from rfl]
  by_cases h : 0 ≤ x.toInt ∧ x.toInt ≤ 3
  · rw [if_pos h, if_pos h]
    have n12 := w0.2.2.2.2.1
    obtain ⟨S1, e1, q1, q2, q3, q4⟩ := c_goErrand hN w0 hC.1 hC.2.2.2.2.2.2
    obtain ⟨S2, e2, t1, t2⟩ := m_begin N SM
    obtain ⟨S3, e3, t3⟩ := m_errand_loop (N := N) (by omega) w0 x N (S := S2) (k := 0) (p := []) (rlM_sm0 t1 hM.1) (gd_nil v) t2 rfl (Nat.zero_le _) (by omega)
    have hRM : RM v v1 v2 k0 k1 r S3 := RM_fr (fun i hi => by rw [t3.1 i (by omega), t1.1 i (by omega)]) hM
    have hRC : RC v v1 v2 k0 k1 r S1 := RC_fr (fun i hi => q1 i (by omega)) (lvC_0 q2) hC
    replace e3 : b_X5_errand_27 N N S2 x (-1) 0 = _ := e3
    rw [e1, bd2_s, e2, bd1_s, e3, q4]
    have hwy := go_why v (erF v 0) []
    have hg := gd_len q3
    obtain ⟨p1, p2, p3, p4⟩ := lvC_top q2
    generalize goS v (erF v 0) [] = g at *
    have i7 := ixo (k := g.2.length) (L := 7) (by omega) (by decide)
    simp only [if_neg i7]
    rw [nI_clamp (by omega), p2, p3, p4, show (10 : Int32) = nI 10 from rfl, pk_mul, nI_add]
    have ew : (nI g.1 = 0) ↔ g.1 = 0 := nI_n0 (by omega)
    simp only [ew]
    by_cases h0 : x = 0
    · simp only [if_pos h0]
      by_cases hg0 : g.1 = 0
      · simp only [if_pos hg0]
        exact ⟨_, _, _, rfl, rfl, v, v1, v2, k0, k1, r, w0, w1, w2, w3, w4, hRC, hRM⟩
      · simp only [if_neg hg0]
        exact ⟨_, _, _, rfl, rfl, v, v1, v2, k0, k1, r, w0, w1, w2, w3, w4, hRC, hRM⟩
    · simp only [if_neg h0]
      by_cases h1 : x = 1
      · simp only [if_pos h1]
        exact ⟨_, _, _, rfl, rfl, v, v1, v2, k0, k1, r, w0, w1, w2, w3, w4, hRC, hRM⟩
      · simp only [if_neg h1]
        by_cases h2 : x = 2
        · simp only [if_pos h2]
          exact ⟨_, _, _, rfl, rfl, v, v1, v2, k0, k1, r, w0, w1, w2, w3, w4, hRC, hRM⟩
        · simp only [if_neg h2]
          exact ⟨_, _, _, rfl, rfl, v, v1, v2, k0, k1, r, w0, w1, w2, w3, w4, hRC, hRM⟩
  · rw [if_neg h, if_neg h]
    exact ⟨_, _, _, rfl, rfl, v, v1, v2, k0, k1, _, w0, w1, w2, w3, w4, RC_ref hC (by decide), RM_ref hM (by decide)⟩
