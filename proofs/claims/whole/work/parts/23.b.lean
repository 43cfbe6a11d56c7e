-- digest
def sF (g : Nat → Nat) : Nat → Nat → Int64 → Int64
  | 0, _, x => x
  | d + 1, k, x => sF g d (k + 1) (31 * x + (nI (g k)).toInt64)
theorem m_sums_loop (N : Nat) {S : ST} {off L : Nat} {g : Nat → Nat} (hg : ∀ k, k < L → S 1 (off + k) = nI (g k)) (ho : off + L ≤ 261) : ∀ (n : Nat) {k d : Nat} (x : Int64), k + d = L → d < n → b_X5_sums_6 N n S (nI off) (nI L) x (nI k) = some (sF g d k x, S) := by
  intro n
  induction n with
  | zero => intro k d x _ h; omega
  | succ n ih =>
    intro k d x hk hn
    rw [b_X5_sums_6]
    cases d with
    | zero =>
      rw [if_pos ((nI_leI (by omega) (by omega)).mpr (by omega))]
      rfl
    | succ d =>
      rw [if_neg (fun z => by have := (nI_leI (by omega) (by omega)).mp z; omega), nI_add, ck (by omega) (by decide), nI_clamp (by omega), hg k (by omega), nI_1]
      exact ih _ (by omega) (by omega)
theorem m_sums {N : Nat} (hN : 400000 ≤ N) {S : ST} {off L : Nat} {g : Nat → Nat} (hg : ∀ k, k < L → S 1 (off + k) = nI (g k)) (ho : off + L ≤ 261) (x : Int64) : f_X5_sums N S x (nI off) (nI L) = some (sF g L 0 x, S) := m_sums_loop N hg ho N (k := 0) (d := L) x (Nat.zero_add L) (by omega)
-- what all shops give
def dS1 (v : VW) : Nat → Nat → Int64 → Int64
  | 0, _, x => x
  | d + 1, k, x => dS1 v d (k + 1) (31 * (31 * (31 * (31 * (31 * x + (nI (v 1 k)).toInt64) + (nI (v 2 k)).toInt64) + (nI (v 3 k)).toInt64) + (nI (v 4 k)).toInt64) + (nI (v 5 k)).toInt64)
def dS2 (v : VW) : Nat → Nat → Int64 → Int64
  | 0, _, x => x
  | d + 1, k, x => dS2 v d (k + 1) (31 * (31 * x + (nI (v 8 k)).toInt64) + (nI (v 9 k)).toInt64)
def g4 (v : VW) (s k : Nat) : Nat := v (k + 1) s
def g2 (v : VW) (k : Nat) : Nat := if k % 2 = 0 then v 8 (k / 2) else v 9 (k / 2)
theorem sF_2 (v : VW) : ∀ (d k : Nat) (x : Int64), sF (g2 v) (2 * d) (2 * k) x = dS2 v d k x := by
  intro d
  induction d with
  | zero => intro k x; rfl
  | succ d ih =>
    intro k x
    rw [show 2 * (d + 1) = 2 * d + 1 + 1 by omega]
    show sF (g2 v) (2 * d) (2 * k + 1 + 1) (31 * (31 * x + (nI (g2 v (2 * k))).toInt64) + (nI (g2 v (2 * k + 1))).toInt64) = dS2 v d (k + 1) _
    rw [show 2 * k + 1 + 1 = 2 * (k + 1) by omega, ih (k + 1), show g2 v (2 * k) = v 8 k by unfold g2; rw [if_pos (by omega), show 2 * k / 2 = k by omega], show g2 v (2 * k + 1) = v 9 k by unfold g2; rw [if_neg (by omega), show (2 * k + 1) / 2 = k by omega]]
def dT (v : VW) (x : Int64) : Int64 := dS2 v (v 0 6) 0 (sF (v 7) (v 0 5) 0 (sF (v 6) (v 0 4) 0 (31 * (31 * (31 * x + (nI (v 0 1)).toInt64) + (nI (v 0 2)).toInt64) + (nI (v 0 3)).toInt64)))
theorem m_dig_loop {N : Nat} (hN : 400000 ≤ N) {v : VW} (hw : wfV v) {S : ST} (hr : rlM v (S 1)) : ∀ (n : Nat) {k d : Nat} (x : Int64), k + d = v 0 0 → d < n → b_X5_digest_32 N n S x (nI k) = some (dT v (dS1 v d k x), S) := by
  have n6 := hw.1
  have n12 := hw.2.2.2.2.1
  have n200 := hw.2.2.2.2.2.1
  have nb6 := hw.2.2.2.2.2.2.1
  intro n
  induction n with
  | zero => intro k d x _ h; omega
  | succ n ih =>
    intro k d x hk hn
    rw [b_X5_digest_32, f_X5_shops, bd2_s, hr.1]
    cases d with
    | zero =>
      rw [if_pos ((nI_leI (by omega) (by omega)).mpr (by omega))]
      have e1 : f_X5_sums N S x 30 3 = some (sF (fun k => v 0 (k + 1)) 3 0 x, S) := m_sums hN (off := 30) (L := 3) (g := fun k => v 0 (k + 1)) (fun k hk => by
        rcases (show k = 0 ∨ k = 1 ∨ k = 2 by omega) with rfl | rfl | rfl
        · exact hr.2.1
        · exact hr.2.2.1
        · exact hr.2.2.2.1) (by decide) x
      rw [e1, bd2_s, hr.2.2.2.2.1]
      have e2 := m_sums hN (off := 34) (L := v 0 4) (g := v 6) (fun k hk => hr.2.2.2.2.2.2.2.2.1 k hk) (by omega) (sF (fun k => v 0 (k + 1)) 3 0 x)
      replace e2 : f_X5_sums N S (sF (fun k => v 0 (k + 1)) 3 0 x) 34 (nI (v 0 4)) = _ := e2
      rw [e2, bd2_s, f_X5_textLong, bd2_s, hr.2.2.2.2.2.1]
      have e3 := m_sums hN (off := 47) (L := v 0 5) (g := v 7) (fun k hk => hr.2.2.2.2.2.2.2.2.2.1 k hk) (by omega) (sF (v 6) (v 0 4) 0 (sF (fun k => v 0 (k + 1)) 3 0 x))
      replace e3 : f_X5_sums N S (sF (v 6) (v 0 4) 0 (sF (fun k => v 0 (k + 1)) 3 0 x)) 47 (nI (v 0 5)) = _ := e3
      rw [e3, bd2_s, hr.2.2.2.2.2.2.1, show (2 : Int32) = nI 2 from rfl, pk_mul]
      have e4 := m_sums hN (off := 247) (L := 2 * v 0 6) (g := g2 v) (fun k hk => by
        have hq := hr.2.2.2.2.2.2.2.2.2.2 (k / 2) (by omega)
        unfold g2
        by_cases h2 : k % 2 = 0
        · rw [if_pos h2, show 247 + k = 247 + 2 * (k / 2) by omega]; exact hq.1
        · rw [if_neg h2, show 247 + k = 247 + 2 * (k / 2) + 1 by omega]; exact hq.2) (by omega) (sF (v 7) (v 0 5) 0 (sF (v 6) (v 0 4) 0 (sF (fun k => v 0 (k + 1)) 3 0 x)))
      replace e4 : f_X5_sums N S (sF (v 7) (v 0 5) 0 (sF (v 6) (v 0 4) 0 (sF (fun k => v 0 (k + 1)) 3 0 x))) 247 (nI (2 * v 0 6)) = _ := e4
      have e5 := sF_2 v (v 0 6) 0 (sF (v 7) (v 0 5) 0 (sF (v 6) (v 0 4) 0 (sF (fun k => v 0 (k + 1)) 3 0 x)))
      rw [Nat.mul_zero] at e5
      rw [e4, bd2_s, e5]
      rfl
    | succ d =>
      have hkn : k < v 0 0 := by omega
      obtain ⟨q1, q2, q3, q4, q5⟩ := hr.2.2.2.2.2.2.2.1 k hkn
      have e1 := m_sums hN (off := 4 * k) (L := 4) (g := g4 v k) (fun j hj => by
        rcases (show j = 0 ∨ j = 1 ∨ j = 2 ∨ j = 3 by omega) with rfl | rfl | rfl | rfl
        · exact q1
        · exact q2
        · exact q3
        · exact q4) (by omega) x
      replace e1 : f_X5_sums N S x (nI (4 * k)) 4 = _ := e1
      rw [if_neg (fun z => by have := (nI_leI (by omega) (by omega)).mp z; omega), sl0, e1, bd2_s, show (24 : Int32) = nI 24 from rfl, nI_add, ck (by omega) (by decide), nI_clamp (by omega), q5, nI_1]
      exact ih _ (by omega) (by omega)
theorem c_d256 (N : Nat) {v : VW} (hw : wfV v) {S : ST} (hr : rlC v S 0) : ∀ (n : Nat) {k d : Nat} (x : Int64), k + d = v 0 6 → d < n → b_X4_digest_256 N n S x (nI k) = some (dS2 v d k x, S) := by
  have nb6 := hw.2.2.2.2.2.2.1
  intro n
  induction n with
  | zero => intro k d x _ h; omega
  | succ n ih =>
    intro k d x hk hn
    rw [b_X4_digest_256, hr.2.2.2.2.2.2.1]
    cases d with
    | zero =>
      rw [if_pos ((nI_leI (by omega) (by omega)).mpr (by omega))]
      rfl
    | succ d =>
      obtain ⟨q8, q9⟩ := hr.2.2.2.2.2.2.2.2.2.2 k (by omega)
      replace q8 : S 8 k = nI (v 8 k) := q8
      replace q9 : S 9 k = nI (v 9 k) := q9
      rw [if_neg (fun z => by have := (nI_leI (by omega) (by omega)).mp z; omega), ck (by omega) (by decide), ck (by omega) (by decide), nI_clamp (by omega), q8, q9, nI_1]
      exact ih _ (by omega) (by omega)
theorem c_d220 {N : Nat} (hN : 400000 ≤ N) {v : VW} (hw : wfV v) {S : ST} (hr : rlC v S 0) : ∀ (n : Nat) {k d : Nat} (x : Int64), k + d = v 0 5 → d < n → b_X4_digest_220 N n S x (nI k) = some (dS2 v (v 0 6) 0 (sF (v 7) d k x), S) := by
  have n200 := hw.2.2.2.2.2.1
  have nb6 := hw.2.2.2.2.2.2.1
  intro n
  induction n with
  | zero => intro k d x _ h; omega
  | succ n ih =>
    intro k d x hk hn
    rw [b_X4_digest_220, hr.2.2.2.2.2.1]
    cases d with
    | zero =>
      rw [if_pos ((nI_leI (by omega) (by omega)).mpr (by omega))]
      exact c_d256 N hw hr N (k := 0) (d := v 0 6) x (by omega) (by omega)
    | succ d =>
      have q : S 7 k = nI (v 7 k) := hr.2.2.2.2.2.2.2.2.2.1 k (by omega)
      rw [if_neg (fun z => by have := (nI_leI (by omega) (by omega)).mp z; omega), ck (by omega) (by decide), nI_clamp (by omega), q, nI_1]
      exact ih _ (by omega) (by omega)
theorem c_d184 {N : Nat} (hN : 400000 ≤ N) {v : VW} (hw : wfV v) {S : ST} (hr : rlC v S 0) : ∀ (n : Nat) {k d : Nat} (x : Int64), k + d = v 0 4 → d < n → b_X4_digest_184 N n S x (nI k) = some (dS2 v (v 0 6) 0 (sF (v 7) (v 0 5) 0 (sF (v 6) d k x)), S) := by
  have n12 := hw.2.2.2.2.1
  have n200 := hw.2.2.2.2.2.1
  intro n
  induction n with
  | zero => intro k d x _ h; omega
  | succ n ih =>
    intro k d x hk hn
    rw [b_X4_digest_184, hr.2.2.2.2.1]
    cases d with
    | zero =>
      rw [if_pos ((nI_leI (by omega) (by omega)).mpr (by omega))]
      exact c_d220 hN hw hr N (k := 0) (d := v 0 5) x (by omega) (by omega)
    | succ d =>
      have q : S 6 k = nI (v 6 k) := hr.2.2.2.2.2.2.2.2.1 k (by omega)
      rw [if_neg (fun z => by have := (nI_leI (by omega) (by omega)).mp z; omega), ck (by omega) (by decide), nI_clamp (by omega), q, nI_1]
      exact ih _ (by omega) (by omega)
theorem c_d35 {N : Nat} (hN : 400000 ≤ N) {v : VW} (hw : wfV v) {S : ST} (hr : rlC v S 0) : ∀ (n : Nat) {k d : Nat} (x : Int64), k + d = v 0 0 → d < n → b_X4_digest_35 N n S x (nI k) = some (dT v (dS1 v d k x), S) := by
  have n6 := hw.1
  have n12 := hw.2.2.2.2.1
  intro n
  induction n with
  | zero => intro k d x _ h; omega
  | succ n ih =>
    intro k d x hk hn
    rw [b_X4_digest_35, hr.1]
    cases d with
    | zero =>
      rw [if_pos ((nI_leI (by omega) (by omega)).mpr (by omega)), hr.2.1, hr.2.2.1, hr.2.2.2.1]
      exact c_d184 hN hw hr N (k := 0) (d := v 0 4) _ (by omega) (by omega)
    | succ d =>
      obtain ⟨q1, q2, q3, q4, q5⟩ := c_kind hr (s := k) (by omega)
      rw [if_neg (fun z => by have := (nI_leI (by omega) (by omega)).mp z; omega), ck (by omega) (by decide), ck (by omega) (by decide), ck (by omega) (by decide), ck (by omega) (by decide), ck (by omega) (by decide), nI_clamp (by omega), q1, q2, q3, q4, q5, nI_1]
      exact ih _ (by omega) (by omega)
theorem st_digest {N : Nat} (hN : 400000 ≤ N) : StL Rl (fun S => f_X4_digest N S) (fun S => f_X5_digest N S) := by
  rintro SC SM ⟨v, v1, v2, k0, k1, r, w0, w1, w2, w3, w4, hC, hM⟩
  have a := hC.1
  have b := hM.1
  have n6 := w0.1
  obtain ⟨N', hN'⟩ : ∃ N', N = N' + 1 + 1 + 1 + 1 + 1 := ⟨N - 5, by omega⟩
  have eC : f_X4_digest N SC = some (dT v (dS1 v (v 0 0) 0 (31 * (31 * (31 * (31 * 647 + (nI (v 0 0)).toInt64) + (nI (v 0 4)).toInt64) + (nI (v 0 5)).toInt64) + (nI (v 0 6)).toInt64)), SC) := by
    unfold f_X4_digest
    conv => lhs; rw [show b_X4_digest_6 N N = b_X4_digest_6 N (N' + 1 + 1 + 1 + 1 + 1) by rw [← hN']]
    rw [b_X4_digest_6, if_neg (by decide), f_X2_howMany_0, if_pos rfl, bd2_s, b_X4_digest_6, if_neg (by decide), f_X2_howMany_0, if_neg (by decide), if_pos (by decide), bd2_s, b_X4_digest_6, if_neg (by decide), f_X2_howMany_0, if_neg (by decide), if_neg (by decide), if_pos (by decide), bd2_s, b_X4_digest_6, if_neg (by decide), f_X2_howMany_0, if_neg (by decide), if_neg (by decide), if_neg (by decide), bd2_s, b_X4_digest_6, if_pos (by decide), a.1, a.2.2.2.2.1, a.2.2.2.2.2.1, a.2.2.2.2.2.2.1]
    exact c_d35 hN w0 a N (k := 0) (d := v 0 0) _ (by omega) (by omega)
  have eM : f_X5_digest N SM = some (dT v (dS1 v (v 0 0) 0 (31 * (31 * (31 * (31 * 647 + (nI (v 0 0)).toInt64) + (nI (v 0 4)).toInt64) + (nI (v 0 5)).toInt64) + (nI (v 0 6)).toInt64)), SM) := by
    unfold f_X5_digest
    conv => lhs; rw [show b_X5_digest_6 N N = b_X5_digest_6 N (N' + 1 + 1 + 1 + 1 + 1) by rw [← hN']]
    rw [b_X5_digest_6, if_neg (by decide), f_X5_counted, if_pos rfl, f_X5_shops, bd2_s, bd2_s, b_X5_digest_6, if_neg (by decide), f_X5_counted, if_neg (by decide), if_pos (by decide), bd2_s, b_X5_digest_6, if_neg (by decide), f_X5_counted, if_neg (by decide), if_neg (by decide), if_pos (by decide), f_X5_textLong, bd2_s, bd2_s, b_X5_digest_6, if_neg (by decide), f_X5_counted, if_neg (by decide), if_neg (by decide), if_neg (by decide), bd2_s, b_X5_digest_6, if_pos (by decide), b.1, b.2.2.2.2.1, b.2.2.2.2.2.1, b.2.2.2.2.2.2.1]
    exact m_dig_loop hN w0 b N (k := 0) (d := v 0 0) _ (by omega) (by omega)
  dsimp only
  rw [eC, eM]
  exact ⟨_, _, _, rfl, rfl, v, v1, v2, k0, k1, r, w0, w1, w2, w3, w4, hC, hM⟩
