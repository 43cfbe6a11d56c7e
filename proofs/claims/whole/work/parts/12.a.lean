-- bits of small sets
theorem F1 : ∀ b, b < 64 → ∀ s, s < 6 → bitN b s = 0 → pop6 (b ||| 2 ^ s) = pop6 b + 1 ∧ b ||| 2 ^ s < 64 := by decide +kernel
theorem F1b : ∀ b, b < 64 → ∀ s, s < 6 → b ||| 2 ^ s < 64 := by decide +kernel
theorem F2 : ∀ h, h < 64 → ∀ k, k < 6 → bitN h k = 1 → h - 2 ^ k < 64 ∧ (h - 2 ^ k) &&& h = h - 2 ^ k := by decide +kernel
theorem F6 : ∀ b, b < 64 → pop6 b = 6 → ∀ s, s < 6 → bitN b s = 1 := by decide +kernel
theorem F7 : ∀ b, b < 64 → pop6 b ≤ 6 := by decide +kernel
theorem F8 : ∀ b, b < 64 → pop6 b = 0 → b = 0 := by decide +kernel
theorem sub_tr {a b c : Nat} (h1 : a &&& b = a) (h2 : b &&& c = b) : a &&& c = a := by
  rw [← h1, Nat.and_assoc, h2]
theorem sub_or {a b : Nat} (h : a &&& b = a) (x : Nat) : (a ||| x) &&& (b ||| x) = a ||| x := by
  apply Nat.eq_of_testBit_eq
  intro i
  have hi : (a.testBit i && b.testBit i) = a.testBit i := by rw [← Nat.testBit_and, h]
  rw [Nat.testBit_and, Nat.testBit_or, Nat.testBit_or]
  revert hi
  cases a.testBit i <;> cases b.testBit i <;> cases x.testBit i <;> simp
theorem bit_tb (a i : Nat) : bitN a i = if a.testBit i then 1 else 0 := by
  unfold bitN
  rw [Nat.testBit_eq_decide_div_mod_eq]
  have := Nat.mod_lt (a / 2 ^ i) (show 0 < 2 by decide)
  by_cases h : a / 2 ^ i % 2 = 1
  · simp [h]
  · simp [h]; omega
theorem bit_01 (a i : Nat) : bitN a i = 0 ∨ bitN a i = 1 := by
  have := bit_lt a i
  omega
theorem sub_bit {a b : Nat} (h : a &&& b = a) {s : Nat} (hb : bitN b s = 0) : bitN a s = 0 := by
  have hi : (a.testBit s && b.testBit s) = a.testBit s := by rw [← Nat.testBit_and, h]
  rw [bit_tb] at hb ⊢
  revert hi hb
  cases a.testBit s <;> cases b.testBit s <;> simp
-- what is so of every row that may be
def gdN (v : VW) (p : List Nat) : Prop := (walkS v p).1 ≤ v 0 0 ∧ (walkS v p).2.1 < 64 ∧ (walkS v p).2.2.1 < 64 ∧ (walkS v p).2.2.2.1 ≤ 240 ∧ (walkS v p).2.2.2.2 ≤ v 0 2 ∧ (walkS v p).2.1 &&& (walkS v p).2.2.1 = (walkS v p).2.1 ∧ pop6 (walkS v p).2.2.1 = p.length ∧ ((walkS v p).1 = 0 → p = []) ∧ ∀ s ∈ p, s < v 0 0
theorem gd_nil (v : VW) : gdN v [] := ⟨Nat.zero_le _, Nat.le_of_ble_eq_true rfl, Nat.le_of_ble_eq_true rfl, Nat.zero_le _, Nat.zero_le _, Nat.zero_and _, show pop6 0 = 0 by decide, fun _ => rfl, fun _ h => absurd h List.not_mem_nil⟩
theorem lef_facts {v : VW} (hw : wfV v) {s h : Nat} (hs : s < v 0 0) (hh : h < 64) : lefS v s h < 64 ∧ lefS v s h &&& h = lefS v s h ∧ backS v s < 6 := by
  have n6 := hw.1
  have hb : backS v s < 6 := by unfold backS; split <;> omega
  unfold lefS
  by_cases ht : takB v s h
  · rw [if_pos ht]
    obtain ⟨h1, h2⟩ := F2 h hh _ hb ht.2
    exact ⟨h1, h2, hb⟩
  · rw [if_neg ht]
    exact ⟨hh, Nat.and_self h, hb⟩
theorem why_0 {v : VW} {w : ND} {s : Nat} (h : whyS v w s = 0) : bitN (wayS v w.1) s = 1 ∧ bitN w.2.2.1 s = 0 ∧ ¬ (v 1 s = 5 ∧ pop6 w.2.1 < 2) ∧ w.2.2.2.1 + minS v s ≤ v 4 s ∧ pop6 (helS v s w.2.1) ≤ v 0 3 ∧ w.2.2.2.2 + priS v s w.2.1 ≤ v 0 2 := by
  unfold whyS at h
  split at h
  · cases h
  · split at h
    · cases h
    · split at h
      · cases h
      · split at h
        · cases h
        · split at h
          · cases h
          · split at h
            · cases h
            · have h1 := bit_01 (wayS v w.1) s
              have h2 := bit_01 w.2.2.1 s
              exact ⟨by omega, by omega, by assumption, by omega, by omega, by omega⟩
theorem gd_step {v : VW} (hw : wfV v) {p : List Nat} (hp : gdN v p) {s : Nat} (hs : s < v 0 0) (h0 : whyS v (walkS v p) s = 0) : gdN v (p ++ [s]) := by
  obtain ⟨a1, a2, a3, a4, a5, a6, a7, a8, a9⟩ := hp
  obtain ⟨b1, b2, b3, b4, b5, b6⟩ := why_0 h0
  have n6 := hw.1
  have hsh := (hw.2.2.2.2.2.2.2.1 s hs).2.2.2.1
  obtain ⟨c1, c2, c3⟩ := lef_facts hw hs a2
  obtain ⟨d1, d2⟩ := F1 _ a3 s (by omega) b2
  unfold gdN
  rw [walkS_snoc]
  refine ⟨hs, F1b _ c1 s (by omega), d2, Nat.le_trans b4 hsh, b6, sub_or (sub_tr c2 a6) _, ?_, fun h => absurd h (Nat.succ_ne_zero s), ?_⟩
  · show pop6 (_ ||| _) = _
    rw [d1, a7, List.length_append]
    rfl
  · intro x hx
    rcases List.mem_append.mp hx with h | h
    · exact a9 x h
    · rw [List.mem_singleton.mp h]; exact hs
theorem gd_len {v : VW} {p : List Nat} (hp : gdN v p) : p.length ≤ 6 := by
  rw [← hp.2.2.2.2.2.2.1]
  exact F7 _ hp.2.2.1
theorem gd_full {v : VW} (hw : wfV v) {p : List Nat} (hp : gdN v p) (h6 : p.length = 6) {s : Nat} (hs : s < v 0 0) : bitN (walkS v p).2.2.1 s = 1 := F6 _ hp.2.2.1 (by rw [hp.2.2.2.2.2.2.1, h6]) s (by have := hw.1; omega)
theorem gd_full_why {v : VW} (hw : wfV v) {p : List Nat} (hp : gdN v p) (h6 : p.length = 6) {s : Nat} (hs : s < v 0 0) : ¬ whyS v (walkS v p) s = 0 := by
  intro h
  have h1 := (why_0 h).2.1
  rw [gd_full hw hp h6 hs] at h1
  cases h1
-- more of a row never lowers what is paid, nor the minute
theorem pay_up (v : VW) (w : ND) (s : Nat) : w.2.2.2.2 ≤ (buyS v w s).2.2.2.2 ∧ w.2.2.2.1 ≤ (buyS v w s).2.2.2.1 := ⟨Nat.le_add_right _ _, Nat.le_add_right _ _⟩
theorem tr_mem {v : VW} (hw : wfV v) {cl : Nat} : ∀ (d : Nat) {p q : List Nat}, gdN v p → q ∈ trS v cl d p → gdN v q ∧ p.length < q.length ∧ (walkS v p).2.2.2.2 ≤ (walkS v q).2.2.2.2 ∧ (walkS v p).2.2.2.1 ≤ (walkS v q).2.2.2.1 := by
  intro d
  induction d with
  | zero => intro p q _ h; exact absurd h List.not_mem_nil
  | succ d ih =>
    intro p q hp h
    unfold trS at h
    obtain ⟨s, hs, hq⟩ := List.mem_flatMap.mp h
    have hs' : s < v 0 0 := by have := List.mem_range'_1.mp hs; omega
    by_cases ho : okS v cl (walkS v p) s
    · rw [if_pos ho] at hq
      have g1 := gd_step hw hp hs' ho.2
      have l1 : (p ++ [s]).length = p.length + 1 := by rw [List.length_append]; rfl
      have u1 := pay_up v (walkS v p) s
      rw [← walkS_snoc] at u1
      rcases List.mem_cons.mp hq with h1 | h1
      · subst h1
        exact ⟨g1, by omega, u1.1, u1.2⟩
      · obtain ⟨g2, l2, p2, m2⟩ := ih g1 h1
        exact ⟨g2, by omega, Nat.le_trans u1.1 p2, Nat.le_trans u1.2 m2⟩
    · rw [if_neg ho] at hq
      exact absurd hq List.not_mem_nil
