-- mends: the reference
abbrev okG (g sh : Nat) (v : VW) : Prop := subN g (haS v sh)
abbrev newP (v : VW) (a b : Nat) : Prop := a < b ∧ b < v 0 0 ∧ bitN (v 5 a) b = 0
theorem new_ad {v : VW} {a b : Nat} (h : newP v a b) : wfV v → wfV (adN v a b) := fun hw => wf_ad hw (by have := h.1; have := h.2.1; omega) h.2.1 (by have := h.1; omega)
theorem m_newPair (N : Nat) {v : VW} (hw : wfV v) {S : ST} (hr : rlM v (S 1)) {n i : Nat} (hn : v 0 0 = n) (hi : i < n * n) : f_X5_isNewPair N S (nI i) = some (tf (newP v (i / n) (i % n)), S) := by
  subst hn
  have n6 := hw.1
  have np : 0 < v 0 0 := by
    rcases Nat.eq_zero_or_pos (v 0 0) with h | h
    · rw [h] at hi; omega
    · exact h
  have h36 : v 0 0 * v 0 0 ≤ 6 * 6 := Nat.mul_le_mul n6 n6
  have hd : i / v 0 0 < v 0 0 := Nat.div_lt_of_lt_mul hi
  have hm : i % v 0 0 < v 0 0 := Nat.mod_lt _ np
  unfold f_X5_isNewPair f_X5_shops
  simp only [bd2_s]
  rw [hr.1, if_neg (fun q => by have := (nI_n0 (by omega)).mp q; omega), if_neg (fun q => by have := (nI_n0 (by omega)).mp q; omega), pk_rem (by omega) np (by omega), pk_div (by omega) np (by omega), m_areNear N hw hr hd hm, bd2_s, tf_if]
  by_cases h1 : i % v 0 0 ≤ i / v 0 0
  · rw [if_pos ((nI_leI (by omega) (by omega)).mpr h1), tf_f (fun z => by have := z.1; omega)]
  · rw [if_neg (fun q => h1 ((nI_leI (by omega) (by omega)).mp q))]
    have := bit_01 (v 5 (i / v 0 0)) (i % v 0 0)
    by_cases h2 : bitN (v 5 (i / v 0 0)) (i % v 0 0) = 1
    · rw [if_pos h2, tf_f (fun z => by have := z.2.2; omega)]
    · rw [if_neg h2, tf_t ⟨by omega, hm, by omega⟩]
def frM (S S' : ST) : Prop := ∀ i, 2 ≤ i ∧ i ≤ 4 → S' i = S i
theorem frM_tr {S S1 S2 : ST} (h1 : frM S S1) (h2 : frM S1 S2) : frM S S2 := fun i hi => (h2 i hi).trans (h1 i hi)
theorem ha_lt {v : VW} (hw : wfV v) (cl : Nat) : haS v cl < 64 := haU_lt v cl _ hw.1
-- one pair made near, what can be had, and the pair taken off again
theorem m_inner {N : Nat} (hN : 400000 ≤ N) {v : VW} (hw : wfV v) {n : Nat} (hn : v 0 0 = n) (np : 0 < n) {g sh : Nat} (hg : g < 64) (hsh : sh < 6) (k57 : ST → Int32 → Int32 → Int32 → Int32 → Int32 → Option (Int32 × ST)) (i : Int32) : ∀ (f : Nat) {S : ST} {j : Nat}, rlM v (S 1) → j ≤ n * n → n * n < j + f →
    ∃ S' x4, b_X5_mends_115 N k57 f S (nI sh) (nI g) (nI (n * n)) (-1) i 0 (nI j) = b_X5_mends_202 N k57 S' (nI sh) (nI g) (nI (n * n)) x4 i 0 ∧ rlM v (S' 1) ∧ frM S S' ∧ ((x4 = 2 ∧ ∃ j', j ≤ j' ∧ j' < n * n ∧ newP v (j' / n) (j' % n) ∧ okG g sh (adN v (j' / n) (j' % n))) ∨ (x4 = -1 ∧ ∀ j', j ≤ j' → j' < n * n → newP v (j' / n) (j' % n) → ¬ okG g sh (adN v (j' / n) (j' % n)))) := by
  have n6 : n ≤ 6 := by rw [← hn]; exact hw.1
  have h36 : n * n ≤ 6 * 6 := Nat.mul_le_mul n6 n6
  intro f
  induction f with
  | zero => intro S j _ h1 h2; omega
  | succ f ih =>
    intro S j hr hj hf
    rw [b_X5_mends_115]
    by_cases he : n * n ≤ j
    · rw [if_pos ((nI_leI (by omega) (by omega)).mpr he)]
      exact ⟨S, -1, rfl, hr, fun _ _ => rfl, Or.inr ⟨rfl, fun j' h1 h2 => by omega⟩⟩
    · have hjn : j < n * n := by omega
      have hd : j / n < n := Nat.div_lt_of_lt_mul hjn
      have hm : j % n < n := Nat.mod_lt _ np
      rw [if_neg (fun q => he ((nI_leI (by omega) (by omega)).mp q)), if_pos (show (0 : Int32) = 0 from rfl), if_pos (show (-1 : Int32) = -1 from rfl), m_newPair N hw hr hn hjn, bd2_s, tf_if]
      by_cases hp : newP v (j / n) (j % n)
      · have hab : j / n ≠ j % n := by have := hp.1; omega
        have w' := new_ad hp hw
        rw [if_pos hp]
        simp only [f_X5_shops, bd2_s, b_X5_mends_176, b_X5_mends_196]
        obtain ⟨S1, e1, r1, f1⟩ := m_turnOn N hw hr (a := j / n) (b := j % n) (by omega) (by omega) hab hp.2.2
        have nz : ¬ nI n = 0 := fun q => by have := (nI_n0 (by omega)).mp q; omega
        have s259 : S 1 259 = nI n := by rw [hr.1, hn]
        obtain ⟨S2, e2, f2⟩ := m_hadWith hN w' (cl := sh) (ci := nI sh) (cl_oneM hsh) r1
        have r2 : rlM (adN v (j / n) (j % n)) (S2 1) := by rw [f2 1 (by omega)]; exact r1
        obtain ⟨S3, e3, r3, f3⟩ := m_turnOff N hw (a := j / n) (b := j % n) (by omega) (by omega) hab r2 hp.2.2
        have s259' : S2 1 259 = nI n := by rw [r2.1, ad_o _ _ _ (by decide), hn]
        have fr : frM S S3 := fun i hi => by rw [f3 i (by omega), f2 i (by omega), f1 i (by omega)]
        rw [s259, if_neg nz, if_neg nz, pk_rem (by omega) np (by omega), pk_div (by omega) np (by omega), e1, bd1_s, e2, bd2_s]
        simp only [F14 g hg _ (ha_lt w' sh)]
        rw [s259', if_neg nz, if_neg nz, if_neg nz, if_neg nz, pk_rem (by omega) np (by omega), pk_div (by omega) np (by omega), e3, bd1_s, bd1_s, nI_1]
        by_cases hk : okG g sh (adN v (j / n) (j % n))
        · rw [if_pos hk]
          refine ⟨S3, 2, ?_, r3, fr, Or.inl ⟨rfl, j, Nat.le_refl _, hjn, hp, hk⟩⟩
          obtain ⟨f', rfl⟩ : ∃ f', f = f' + 1 := ⟨f - 1, by omega⟩
          rw [b_X5_mends_115]
          by_cases he2 : n * n ≤ j + 1
          · rw [if_pos ((nI_leI (by omega) (by omega)).mpr he2)]
          · rw [if_neg (fun q => he2 ((nI_leI (by omega) (by omega)).mp q)), if_pos (show (0 : Int32) = 0 from rfl), if_neg (show ¬ (2 : Int32) = -1 by decide)]
        · rw [if_neg hk]
          obtain ⟨S4, x4, e4, r4, f4, c4⟩ := ih (j := j + 1) r3 (by omega) (by omega)
          refine ⟨S4, x4, e4, r4, frM_tr fr f4, ?_⟩
          rcases c4 with ⟨a, j', b1, b2, b3, b4⟩ | ⟨a, b⟩
          · exact Or.inl ⟨a, j', by omega, b2, b3, b4⟩
          · refine Or.inr ⟨a, fun j' h1 h2 h3 => ?_⟩
            by_cases hjj : j' = j
            · rw [hjj]; exact hk
            · exact b j' (by omega) h2 h3
      · rw [if_neg hp, b_X5_mends_196, nI_1]
        obtain ⟨S4, x4, e4, r4, f4, c4⟩ := ih (j := j + 1) hr (by omega) (by omega)
        refine ⟨S4, x4, e4, r4, f4, ?_⟩
        rcases c4 with ⟨a, j', b1, b2, b3, b4⟩ | ⟨a, b⟩
        · exact Or.inl ⟨a, j', by omega, b2, b3, b4⟩
        · refine Or.inr ⟨a, fun j' h1 h2 h3 => ?_⟩
          by_cases hjj : j' = j
          · rw [hjj] at h3; exact absurd h3 hp
          · exact b j' (by omega) h2 h3
def secM (v : VW) (n g sh i : Nat) : Prop := newP v (i / n) (i % n) ∧ ∃ j, i < j ∧ j < n * n ∧ newP (adN v (i / n) (i % n)) (j / n) (j % n) ∧ okG g sh (adN (adN v (i / n) (i % n)) (j / n) (j % n))
def fstM (v : VW) (n g sh i : Nat) : Prop := newP v (i / n) (i % n) ∧ okG g sh (adN v (i / n) (i % n))
theorem m_outer {N : Nat} (hN : 400000 ≤ N) {v : VW} (hw : wfV v) {n : Nat} (hn : v 0 0 = n) (np : 0 < n) {g sh : Nat} (hg : g < 64) (hsh : sh < 6) : ∀ (f : Nat) {S : ST} {i : Nat} {x4 : Int32}, rlM v (S 1) → i ≤ n * n → n * n < i + f → (∀ i', i' < i → ¬ fstM v n g sh i') → ((x4 = 2 ∧ ∃ i', i' < n * n ∧ secM v n g sh i') ∨ (x4 = -1 ∧ ∀ i', i' < i → ¬ secM v n g sh i')) →
    ∃ S' r, b_X5_mends_57 N f S (nI sh) (nI g) (nI (n * n)) x4 (nI i) = some (r, S') ∧ rlM v (S' 1) ∧ frM S S' ∧ ((r = 1 ∧ ∃ i', i' < n * n ∧ fstM v n g sh i') ∨ (r = 2 ∧ (∀ i', i' < n * n → ¬ fstM v n g sh i') ∧ ∃ i', i' < n * n ∧ secM v n g sh i') ∨ (r = -1 ∧ (∀ i', i' < n * n → ¬ fstM v n g sh i') ∧ ∀ i', i' < n * n → ¬ secM v n g sh i')) := by
  have n6 : n ≤ 6 := by rw [← hn]; exact hw.1
  have h36 : n * n ≤ 6 * 6 := Nat.mul_le_mul n6 n6
  intro f
  induction f with
  | zero => intro S i x4 _ h1 h2; omega
  | succ f ih =>
    intro S i x4 hr hi hf hF hS
    rw [b_X5_mends_57]
    by_cases he : n * n ≤ i
    · rw [if_pos ((nI_leI (by omega) (by omega)).mpr he)]
      refine ⟨S, x4, rfl, hr, fun _ _ => rfl, Or.inr ?_⟩
      rcases hS with ⟨a, b⟩ | ⟨a, b⟩
      · exact Or.inl ⟨a, fun i' h => hF i' (by omega), b⟩
      · exact Or.inr ⟨a, fun i' h => hF i' (by omega), fun i' h => b i' (by omega)⟩
    · have hin : i < n * n := by omega
      have hd : i / n < n := Nat.div_lt_of_lt_mul hin
      have hm : i % n < n := Nat.mod_lt _ np
      rw [if_neg (fun q => he ((nI_leI (by omega) (by omega)).mp q)), m_newPair N hw hr hn hin, bd2_s, tf_if]
      by_cases hp : newP v (i / n) (i % n)
      · have hab : i / n ≠ i % n := by have := hp.1; omega
        have w' := new_ad hp hw
        have hn' : adN v (i / n) (i % n) 0 0 = n := by rw [ad_o _ _ _ (by decide), hn]
        rw [if_pos hp]
        obtain ⟨S1, e1, r1, f1⟩ := m_turnOn N hw hr (a := i / n) (b := i % n) (by omega) (by omega) hab hp.2.2
        have nz : ¬ nI n = 0 := fun q => by have := (nI_n0 (by omega)).mp q; omega
        have s259 : S 1 259 = nI n := by rw [hr.1, hn]
        obtain ⟨S2, e2, f2⟩ := m_hadWith hN w' (cl := sh) (ci := nI sh) (cl_oneM hsh) r1
        have r2 : rlM (adN v (i / n) (i % n)) (S2 1) := by rw [f2 1 (by omega)]; exact r1
        have fr2 : frM S S2 := fun i hi => by rw [f2 i (by omega), f1 i (by omega)]
        simp only [f_X5_shops, bd2_s, b_X5_mends_107]
        rw [s259, if_neg nz, if_neg nz, pk_rem (by omega) np (by omega), pk_div (by omega) np (by omega), e1, bd1_s, e2, bd2_s]
        simp only [F14 g hg _ (ha_lt w' sh)]
        rw [nI_1]
        by_cases hk : okG g sh (adN v (i / n) (i % n))
        · rw [if_pos hk]
          obtain ⟨S3, e3, r3, f3⟩ := m_turnOff N hw (a := i / n) (b := i % n) (by omega) (by omega) hab r2 hp.2.2
          refine ⟨S3, 1, ?_, r3, fun i hi => by rw [f3 i (by omega), fr2 i hi], Or.inl ⟨rfl, i, hin, hp, hk⟩⟩
          obtain ⟨N', rfl⟩ : ∃ N', N = N' + 1 := ⟨N - 1, by omega⟩
          rw [b_X5_mends_115]
          have s259' : S2 1 259 = nI n := by rw [r2.1, hn']
          have e202 : ∀ k57, b_X5_mends_202 (N' + 1) k57 S2 (nI sh) (nI g) (nI (n * n)) x4 (nI i) 1 = some (1, S3) := by
            intro k57
            unfold b_X5_mends_202
            simp only [f_X5_shops, bd2_s]
            rw [s259', if_neg nz, if_neg nz, pk_rem (by omega) np (by omega), pk_div (by omega) np (by omega), e3, bd1_s, if_neg (show ¬ (1 : Int32) = 0 by decide)]
          by_cases he2 : n * n ≤ i + 1
          · rw [if_pos ((nI_leI (by omega) (by omega)).mpr he2), e202]
          · rw [if_neg (fun q => he2 ((nI_leI (by omega) (by omega)).mp q)), if_neg (show ¬ (1 : Int32) = 0 by decide), e202]
        · rw [if_neg hk]
          have fin : ∀ {S3 : ST} {y4 : Int32}, rlM (adN v (i / n) (i % n)) (S3 1) → frM S S3 → ((y4 = 2 ∧ ∃ i', i' < n * n ∧ secM v n g sh i') ∨ (y4 = -1 ∧ ∀ i', i' < i + 1 → ¬ secM v n g sh i')) →
              ∃ S' r, b_X5_mends_202 N (fun S x1 x2 x3 x4 x5 => b_X5_mends_57 N f S x1 x2 x3 x4 x5) S3 (nI sh) (nI g) (nI (n * n)) y4 (nI i) 0 = some (r, S') ∧ rlM v (S' 1) ∧ frM S S' ∧ ((r = 1 ∧ ∃ i', i' < n * n ∧ fstM v n g sh i') ∨ (r = 2 ∧ (∀ i', i' < n * n → ¬ fstM v n g sh i') ∧ ∃ i', i' < n * n ∧ secM v n g sh i') ∨ (r = -1 ∧ (∀ i', i' < n * n → ¬ fstM v n g sh i') ∧ ∀ i', i' < n * n → ¬ secM v n g sh i')) := by
            intro S3 y4 r3 fr3 c3
            obtain ⟨S4, e4, r4, f4⟩ := m_turnOff N hw (a := i / n) (b := i % n) (by omega) (by omega) hab r3 hp.2.2
            have s259' : S3 1 259 = nI n := by rw [r3.1, hn']
            obtain ⟨S5, r5, e5, q5, fr5, c5⟩ := ih (S := S4) (i := i + 1) (x4 := y4) r4 (by omega) (by omega) (fun i' h => by
              by_cases hii : i' = i
              · rw [hii]; exact fun z => hk z.2
              · exact hF i' (by omega)) c3
            refine ⟨S5, r5, ?_, q5, frM_tr fr3 (frM_tr (fun i hi => f4 i (by omega)) fr5), c5⟩
            unfold b_X5_mends_202 b_X5_mends_227
            simp only [f_X5_shops, bd2_s]
            rw [s259', if_neg nz, if_neg nz, pk_rem (by omega) np (by omega), pk_div (by omega) np (by omega), e4, bd1_s, if_pos trivial, nI_1]
            exact e5
          rcases hS with ⟨rfl, hS⟩ | ⟨rfl, hS⟩
          · obtain ⟨S5, r5, e5, q5⟩ := fin (y4 := 2) r2 fr2 (Or.inl ⟨rfl, hS⟩)
            refine ⟨S5, r5, ?_, q5⟩
            rw [← e5]
            obtain ⟨N', rfl⟩ : ∃ N', N = N' + 1 := ⟨N - 1, by omega⟩
            rw [b_X5_mends_115]
            by_cases he2 : n * n ≤ i + 1
            · rw [if_pos ((nI_leI (by omega) (by omega)).mpr he2)]
            · rw [if_neg (fun q => he2 ((nI_leI (by omega) (by omega)).mp q)), if_pos (show (0 : Int32) = 0 from rfl), if_neg (show ¬ (2 : Int32) = -1 by decide)]
          · obtain ⟨S3, y4, e3, r3, f3, c3⟩ := m_inner hN w' hn' np hg hsh (fun S x1 x2 x3 x4 x5 => b_X5_mends_57 N f S x1 x2 x3 x4 x5) (nI i) N (j := i + 1) r2 (by omega) (by omega)
            rw [e3]
            refine fin r3 (frM_tr fr2 f3) ?_
            rcases c3 with ⟨a, j', b1, b2, b3, b4⟩ | ⟨a, b⟩
            · exact Or.inl ⟨a, i, hin, hp, j', by omega, b2, b3, b4⟩
            · refine Or.inr ⟨a, fun i' h => ?_⟩
              by_cases hii : i' = i
              · rw [hii]
                rintro ⟨-, j, z1, z2, z3, z4⟩
                exact b j (by omega) z2 z3 z4
              · exact hS i' (by omega)
      · rw [if_neg hp, b_X5_mends_227, nI_1]
        obtain ⟨S5, r5, e5, q5, fr5, c5⟩ := ih (S := S) (i := i + 1) (x4 := x4) hr (by omega) (by omega) (fun i' h => by
          by_cases hii : i' = i
          · rw [hii]; exact fun z => hp z.1
          · exact hF i' (by omega)) (by
          rcases hS with h | ⟨h1, h2⟩
          · exact Or.inl h
          · refine Or.inr ⟨h1, fun i' h => ?_⟩
            by_cases hii : i' = i
            · rw [hii]; exact fun z => hp z.1
            · exact h2 i' (by omega))
        exact ⟨S5, r5, e5, q5, fr5, c5⟩
