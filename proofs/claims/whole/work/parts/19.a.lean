-- mends: the class
theorem F15 : ∀ g, g < 64 → ∀ h, h < 64 → (∀ s, s < 6 → bitN g s = 1 → bitN h s = 1) → g &&& h = g := by decide +kernel
theorem sub_b {g h s : Nat} (hs : subN g h) (hb : bitN g s = 1) : bitN h s = 1 := by
  have := bit_01 h s
  by_cases q : bitN h s = 0
  · have := sub_bit hs q
    omega
  · omega
abbrev z4 (S : ST) : Prop := S 42 0 = 0 ∧ S 43 0 = 0 ∧ S 44 0 = 0 ∧ S 45 0 = 0
theorem c_canHave_loop {N : Nat} (hN : 20 ≤ N) {v : VW} (hw : wfV v) {cb cl g : Nat} (hg : g < 2 ^ v 0 0) (hcb : cb < 64) (hcl : ∀ s, s < 6 → (bitN cb s = 1 ↔ s = cl)) : ∀ (n : Nat) {S : ST} {k : Nat}, rlC v S 0 → z4 S → k ≤ v 0 0 → v 0 0 < k + n → (∀ s, s < k → bitN g s = 1 → bitN (haS v cl) s = 1) → ∃ S', b_X1_canHaveAll_2 N n S (nI g) (nI cb) (nI k) = some (tf (subN g (haS v cl)), S') ∧ smF S S' ∧ z4 S' := by
  intro n
  have n6 := hw.1
  have hg64 : g < 64 := Nat.lt_of_lt_of_le hg (Nat.pow_le_pow_right (by decide) n6)
  induction n with
  | zero => intro S k _ _ _ h; omega
  | succ n ih =>
    intro S k hr h0 hk hn hs
    rw [b_X1_canHaveAll_2, hr.1]
    by_cases he : v 0 0 ≤ k
    · rw [if_pos ((nI_leI (by omega) (by omega)).mpr he), tf_t]
      · exact ⟨S, rfl, fun _ _ => rfl, h0⟩
      · refine F15 g hg64 _ (ha_lt hw cl) (fun s h1 h2 => ?_)
        by_cases hsk : s < k
        · exact hs s hsk h2
        · exfalso
          have : 2 ^ v 0 0 ≤ 2 ^ s := Nat.pow_le_pow_right (by decide) (by omega)
          unfold bitN at h2
          rw [Nat.div_eq_of_lt (by omega)] at h2
          omega
    · have hk6 : k < 6 := by omega
      have b01 := bit_01 g k
      unfold b_X1_canHaveAll_26 b_X1_canHaveAll_53
      dsimp only
      rw [if_neg (fun q => he ((nI_leI (by omega) (by omega)).mp q)), nI_bit (by omega) (by omega), if_pos (show (0 : Int32) = 0 from rfl), if_neg (show ¬ (1 : Int32) = 0 by decide), nI_1]
      by_cases hb : bitN g k = 0
      · rw [if_pos (show nI (bitN g k) = 0 by rw [hb]; rfl)]
        exact ih (k := k + 1) hr h0 (by omega) (by omega) (fun s h1 h2 => by
          by_cases hsk : s = k
          · rw [hsk] at h2; omega
          · exact hs s (by omega) h2)
      · rw [if_neg (show ¬ nI (bitN g k) = 0 from fun q => hb ((nI_n0 (by omega)).mp q))]
        obtain ⟨S1, e1, f1, z1, -⟩ := c_find hN hw hr h0 (w := 2 ^ k) (mo := v 0 2) (p2_64 hk6) hw.2.2.1 hcb hcl
        rw [one_shl (by omega), hr.2.2.1, e1, bd2_s, tf_if]
        have hbit := haU_bit v cl (v 0 0) n6 k hk6
        by_cases hq : (beS v cl (2 ^ k)).1 = 1000000
        · rw [if_neg (fun z => (be_le hw).mp z hq), tf_f]
          · exact ⟨S1, rfl, f1, z1⟩
          · intro z
            have := hbit.mp (sub_b z (by omega))
            exact this.2 hq
        · rw [if_pos ((be_le hw).mpr hq)]
          obtain ⟨S2, e2, f2, z2⟩ := ih (k := k + 1) (rlC_smF f1 hr) z1 (by omega) (by omega) (fun s h1 h2 => by
            by_cases hsk : s = k
            · rw [hsk]; exact hbit.mpr ⟨by omega, hq⟩
            · exact hs s (by omega) h2)
          exact ⟨S2, e2, smF_tr f1 f2, z2⟩
theorem c_canHaveAll {N : Nat} (hN : 20 ≤ N) {v : VW} (hw : wfV v) {cb cl g : Nat} (hg : g < 2 ^ v 0 0) (hcb : cb < 64) (hcl : ∀ s, s < 6 → (bitN cb s = 1 ↔ s = cl)) {S : ST} (hr : rlC v S 0) (h0 : z4 S) : ∃ S', f_X1_canHaveAll N S (nI g) (nI cb) = some (tf (subN g (haS v cl)), S') ∧ smF S S' ∧ z4 S' := by
  have n6 := hw.1
  exact c_canHave_loop hN hw hg hcb hcl N (k := 0) hr h0 (Nat.zero_le _) (by omega) (fun s h => by omega)
-- which pairs the class tries
abbrev newC (v : VW) (sh a b : Nat) : Prop := newP v a b ∧ a ≠ sh ∧ b ≠ sh
def frC (S S' : ST) : Prop := ∀ i, (i ≠ 5 ∧ (i < 41 ∨ 48 < i)) → S' i = S i
theorem frC_tr {S S1 S2 : ST} (h1 : frC S S1) (h2 : frC S1 S2) : frC S S2 := fun i hi => (h2 i hi).trans (h1 i hi)
theorem z4_5 {S S' : ST} (h : ∀ i, i ≠ 5 → S' i = S i) (h0 : z4 S) : z4 S' := by
  unfold z4
  rw [h 42 (by decide), h 43 (by decide), h 44 (by decide), h 45 (by decide)]
  exact h0
theorem c_mend_loop {N : Nat} {v : VW} (hw : wfV v) {g sh : Nat} (hsh : sh < 6) (kk : Int32) (Q : Nat → Prop) (rc : ST → Int32 → Int32 → Int32 → Int32 → Option (Int32 × ST))
    (hrc : ∀ (j : Nat) (S : ST), j < 36 → newC v sh (j / 6) (j % 6) → rlC (adN v (j / 6) (j % 6)) S 0 → z4 S → ∃ S' r, rc S (nI g) (nI sh) (kk - 1) (nI (j + 1)) = some (r, S') ∧ rlC (adN v (j / 6) (j % 6)) S' 0 ∧ frC S S' ∧ z4 S' ∧ ((r = 1 ∧ Q j) ∨ (r = 0 ∧ ¬ Q j))) :
    ∀ (n : Nat) {S : ST} {j : Nat}, rlC v S 0 → z4 S → j ≤ 36 → 36 < j + n → ∃ S' r, b_X4_areMended_23 N rc n S (nI g) (nI sh) kk 0 (nI j) = some (r, S') ∧ rlC v S' 0 ∧ frC S S' ∧ z4 S' ∧ ((r = 1 ∧ ∃ j', j ≤ j' ∧ j' < 36 ∧ newC v sh (j' / 6) (j' % 6) ∧ Q j') ∨ (r = 0 ∧ ∀ j', j ≤ j' → j' < 36 → newC v sh (j' / 6) (j' % 6) → ¬ Q j')) := by
  intro n
  have n6 := hw.1
  induction n with
  | zero => intro S j _ _ h1 h2; omega
  | succ n ih =>
    intro S j hr h0 hj hn
    rw [b_X4_areMended_23, show (36 : Int32) = nI 36 from rfl, show (6 : Int32) = nI 6 from rfl]
    by_cases he : 36 ≤ j
    · rw [if_pos ((nI_leI (by omega) (by omega)).mpr he), if_pos (Or.inl rfl)]
      exact ⟨S, 0, rfl, hr, fun _ _ => rfl, h0, Or.inr ⟨rfl, fun j' h1 h2 => by omega⟩⟩
    · unfold b_X4_areMended_98 b_X4_areMended_99 b_X4_areMended_145
      dsimp only
      rw [if_neg (fun q => he ((nI_leI (by omega) (by omega)).mp q)), if_pos (show (0 : Int32) = 0 from rfl), pk_rem (by omega) (by decide) (by decide), pk_div (by omega) (by decide) (by decide), hr.1, nI_1]
      simp only [if_neg (show ¬ (1 : Int32) = 0 by decide), ↓reduceIte]
      have hm : j % 6 < 6 := Nat.mod_lt _ (by decide)
      have hd : j / 6 < 6 := by omega
      have skip : ¬ newC v sh (j / 6) (j % 6) → ∃ S' r, b_X4_areMended_23 N rc n S (nI g) (nI sh) kk 0 (nI (j + 1)) = some (r, S') ∧ rlC v S' 0 ∧ frC S S' ∧ z4 S' ∧ ((r = 1 ∧ ∃ j', j ≤ j' ∧ j' < 36 ∧ newC v sh (j' / 6) (j' % 6) ∧ Q j') ∨ (r = 0 ∧ ∀ j', j ≤ j' → j' < 36 → newC v sh (j' / 6) (j' % 6) → ¬ Q j')) := by
        intro hno
        obtain ⟨S5, r5, e5, q5, fr5, z5, c5⟩ := ih (S := S) (j := j + 1) hr h0 (by omega) (by omega)
        refine ⟨S5, r5, e5, q5, fr5, z5, ?_⟩
        rcases c5 with ⟨a, j', b1, b2, b3, b4⟩ | ⟨a, b⟩
        · exact Or.inl ⟨a, j', by omega, b2, b3, b4⟩
        · refine Or.inr ⟨a, fun j' h1 h2 h3 => ?_⟩
          by_cases hjj : j' = j
          · rw [hjj] at h3; exact absurd h3 hno
          · exact b j' (by omega) h2 h3
      by_cases c1 : j % 6 ≤ j / 6
      · rw [if_pos ((nI_leI (by omega) (by omega)).mpr c1)]
        exact skip (fun z => by have := z.1.1; omega)
      · rw [if_neg (fun q => c1 ((nI_leI (by omega) (by omega)).mp q))]
        by_cases c2 : v 0 0 ≤ j % 6
        · rw [if_pos ((nI_leI (by omega) (by omega)).mpr c2)]
          exact skip (fun z => by have := z.1.2.1; omega)
        · rw [if_neg (fun q => c2 ((nI_leI (by omega) (by omega)).mp q))]
          by_cases c3 : j / 6 = sh
          · rw [if_pos (show nI (j / 6) = nI sh by rw [c3])]
            exact skip (fun z => z.2.1 c3)
          · rw [if_neg (fun q => c3 ((nI_eq (by omega) (by omega)).mp q))]
            by_cases c4 : j % 6 = sh
            · rw [if_pos (show nI (j % 6) = nI sh by rw [c4])]
              exact skip (fun z => z.2.2 c4)
            · rw [if_neg (fun q => c4 ((nI_eq (by omega) (by omega)).mp q)), c_areNear N hw hr (by omega) (by omega), bd2_s, tf_if]
              have b01 := bit_01 (v 5 (j / 6)) (j % 6)
              by_cases c5 : bitN (v 5 (j / 6)) (j % 6) = 1
              · rw [if_pos c5]
                exact skip (fun z => by have := z.1.2.2; omega)
              · rw [if_neg c5]
                have hab : j / 6 ≠ j % 6 := by omega
                have hnew : newC v sh (j / 6) (j % 6) := ⟨⟨by omega, by omega, by omega⟩, c3, c4⟩
                obtain ⟨S1, e1, r1, f1⟩ := c_setOn N hw hr (a := j / 6) (b := j % 6) (by omega) (by omega) hab (by omega)
                obtain ⟨S2, r, e2, r2, f2, z2, c2'⟩ := hrc j S1 (by omega) hnew r1 (z4_5 f1 h0)
                obtain ⟨S3, e3, r3, f3⟩ := c_setOff N hw (a := j / 6) (b := j % 6) (by omega) (by omega) hab r2 (by omega)
                have fr : frC S S3 := fun i hi => by rw [f3 i hi.1, f2 i hi, f1 i hi.1]
                rw [e1, bd1_s, e2, bd2_s, e3, bd1_s]
                rcases c2' with ⟨rfl, hq⟩ | ⟨rfl, hq⟩
                · refine ⟨S3, 1, ?_, r3, fr, z4_5 f3 z2, Or.inl ⟨rfl, j, Nat.le_refl _, by omega, hnew, hq⟩⟩
                  obtain ⟨n', rfl⟩ : ∃ n', n = n' + 1 := ⟨n - 1, by omega⟩
                  rw [b_X4_areMended_23, if_neg (show ¬ (1 : Int32) = 0 by decide), if_pos (Or.inr rfl : (1 : Int32) = 0 ∨ (1 : Int32) = 1)]
                  split <;> rfl
                · obtain ⟨S5, r5, e5, q5, fr5, z5, c5⟩ := ih (S := S3) (j := j + 1) r3 (z4_5 f3 z2) (by omega) (by omega)
                  refine ⟨S5, r5, e5, q5, frC_tr fr fr5, z5, ?_⟩
                  rcases c5 with ⟨a, j', b1, b2, b3, b4⟩ | ⟨a, b⟩
                  · exact Or.inl ⟨a, j', by omega, b2, b3, b4⟩
                  · refine Or.inr ⟨a, fun j' h1 h2 h3 => ?_⟩
                    by_cases hjj : j' = j
                    · rw [hjj]; exact hq
                    · exact b j' (by omega) h2 h3
theorem c_mend0 {N : Nat} (hN : 20 ≤ N) {v : VW} (hw : wfV v) {g sh : Nat} (hg : g < 2 ^ v 0 0) (hsh : sh < 6) {S : ST} (hr : rlC v S 0) (h0 : z4 S) (d : Nat) (x : Int32) : ∃ S' r, f_X4_areMended N (d + 1) S (nI g) (nI sh) 0 x = some (r, S') ∧ rlC v S' 0 ∧ frC S S' ∧ z4 S' ∧ ((r = 1 ∧ okG g sh v) ∨ (r = 0 ∧ ¬ okG g sh v)) := by
  obtain ⟨S1, e1, f1, z1⟩ := c_canHaveAll hN hw hg (p2_64 hsh) (cl_one sh hsh) hr h0
  rw [f_X4_areMended, if_neg (by decide), one_shl (by omega), e1, bd2_s, tf_ret]
  refine ⟨S1, _, rfl, rlC_smF f1 hr, fun i hi => f1 i hi.2, z1, ?_⟩
  by_cases h : okG g sh v
  · exact Or.inl ⟨tf_t h, h⟩
  · exact Or.inr ⟨tf_f h, h⟩
def fstC (v : VW) (g sh j : Nat) : Prop := okG g sh (adN v (j / 6) (j % 6))
theorem c_mend1 {N : Nat} (hN : 400000 ≤ N) {v : VW} (hw : wfV v) {g sh : Nat} (hg : g < 2 ^ v 0 0) (hsh : sh < 6) {S : ST} (hr : rlC v S 0) (h0 : z4 S) (d : Nat) {i : Nat} (hi : i ≤ 36) : ∃ S' r, f_X4_areMended N (d + 1 + 1) S (nI g) (nI sh) 1 (nI i) = some (r, S') ∧ rlC v S' 0 ∧ frC S S' ∧ z4 S' ∧ ((r = 1 ∧ ∃ j, i ≤ j ∧ j < 36 ∧ newC v sh (j / 6) (j % 6) ∧ fstC v g sh j) ∨ (r = 0 ∧ ∀ j, i ≤ j → j < 36 → newC v sh (j / 6) (j % 6) → ¬ fstC v g sh j)) := by
  rw [f_X4_areMended, if_pos (by decide)]
  refine c_mend_loop hw hsh 1 (fstC v g sh) _ (fun j S1 hj hn r1 z1 => ?_) N hr h0 hi (by omega)
  have w' := new_ad hn.1 hw
  exact c_mend0 (by omega) w' (by rw [ad_o _ _ _ (by decide)]; exact hg) hsh r1 z1 d _
def secC (v : VW) (g sh j : Nat) : Prop := ∃ k, j < k ∧ k < 36 ∧ newC (adN v (j / 6) (j % 6)) sh (k / 6) (k % 6) ∧ fstC (adN v (j / 6) (j % 6)) g sh k
theorem c_mend2 {N : Nat} (hN : 400000 ≤ N) {v : VW} (hw : wfV v) {g sh : Nat} (hg : g < 2 ^ v 0 0) (hsh : sh < 6) {S : ST} (hr : rlC v S 0) (h0 : z4 S) (d : Nat) : ∃ S' r, f_X4_areMended N (d + 1 + 1 + 1) S (nI g) (nI sh) 2 (nI 0) = some (r, S') ∧ rlC v S' 0 ∧ frC S S' ∧ z4 S' ∧ ((r = 1 ∧ ∃ j, 0 ≤ j ∧ j < 36 ∧ newC v sh (j / 6) (j % 6) ∧ secC v g sh j) ∨ (r = 0 ∧ ∀ j, 0 ≤ j → j < 36 → newC v sh (j / 6) (j % 6) → ¬ secC v g sh j)) := by
  rw [f_X4_areMended, if_pos (by decide)]
  refine c_mend_loop hw hsh 2 (secC v g sh) _ (fun j S1 hj hn r1 z1 => ?_) N hr h0 (by omega) (by omega)
  have w' := new_ad hn.1 hw
  obtain ⟨S2, r, e2, r2, f2, z2, c2⟩ := c_mend1 hN w' (g := g) (by rw [ad_o _ _ _ (by decide)]; exact hg) hsh r1 z1 d (i := j + 1) (by omega)
  refine ⟨S2, r, e2, r2, f2, z2, ?_⟩
  rcases c2 with ⟨a, k, b1, b2, b3, b4⟩ | ⟨a, b⟩
  · exact Or.inl ⟨a, k, by omega, b2, b3, b4⟩
  · refine Or.inr ⟨a, ?_⟩
    rintro ⟨k, b1, b2, b3, b4⟩
    exact b k (by omega) b2 b3 b4
-- both
theorem pr_n {n a b : Nat} (h : b < n) : (n * a + b) / n = a ∧ (n * a + b) % n = b := by
  have : 0 < n := by omega
  rw [Nat.mul_add_div this, Nat.div_eq_of_lt h, Nat.mul_add_mod, Nat.mod_eq_of_lt h]
  omega
theorem pr_lt {n a b : Nat} (ha : a < n) (hb : b < n) : n * a + b < n * n := by
  have : n * (a + 1) ≤ n * n := Nat.mul_le_mul_left n ha
  rw [Nat.mul_add, Nat.mul_one] at this
  omega
theorem fst_iff {v : VW} (hw : wfV v) {n g sh : Nat} (hn : v 0 0 = n) (hno : ¬ okG g sh v) : (∃ i, i < n * n ∧ fstM v n g sh i) ↔ ∃ j, 0 ≤ j ∧ j < 36 ∧ newC v sh (j / 6) (j % 6) ∧ fstC v g sh j := by
  have n6 := hw.1
  constructor
  · rintro ⟨i, hi, hp, hk⟩
    have h1 := hp.1
    have h2 := hp.2.1
    generalize ha : i / n = a at hp hk h1
    generalize hb : i % n = b at hp hk h1 h2
    have nt : a ≠ sh ∧ b ≠ sh := by
      constructor
      · intro e
        exact hno (by have := ha_touch hw (a := a) (b := b) (cl := sh) (by omega) (by omega) (by omega) (Or.inl e); unfold okG at hk ⊢; rw [this] at hk; exact hk)
      · intro e
        exact hno (by have := ha_touch hw (a := a) (b := b) (cl := sh) (by omega) (by omega) (by omega) (Or.inr e); unfold okG at hk ⊢; rw [this] at hk; exact hk)
    obtain ⟨e1, e2⟩ := pr_n (n := 6) (a := a) (b := b) (by omega)
    refine ⟨6 * a + b, Nat.zero_le _, by omega, ?_, ?_⟩
    · rw [e1, e2]; exact ⟨hp, nt⟩
    · unfold fstC; rw [e1, e2]; exact hk
  · rintro ⟨j, -, hj, ⟨hp, nt⟩, hk⟩
    have h1 := hp.1
    have h2 := hp.2.1
    unfold fstC at hk
    generalize ha : j / 6 = a at hp hk h1
    generalize hb : j % 6 = b at hp hk h1 h2
    obtain ⟨e1, e2⟩ := pr_n (n := n) (a := a) (b := b) (by omega)
    refine ⟨n * a + b, pr_lt (by omega) (by omega), ?_, ?_⟩
    · rw [e1, e2]; exact hp
    · rw [e1, e2]; exact hk
theorem new_pre {v : VW} (hw : wfV v) {a b c d : Nat} (h : newP v a b) (h2 : newP (adN v a b) c d) : newP v c d := by
  obtain ⟨p1, p2, p3⟩ := h
  obtain ⟨q1, q2, q3⟩ := h2
  rw [ad_o _ _ _ (by decide)] at q2
  refine ⟨q1, q2, ?_⟩
  have := ad_bit hw (a := a) (b := b) (by omega) p2 (by omega) (i := c) (j := d) (by omega) q2
  have b01 := bit_01 (v 5 c) d
  by_cases q : bitN (v 5 c) d = 1
  · have := this.mpr (Or.inl q)
    omega
  · omega
theorem sec_iff {v : VW} (hw : wfV v) {n g sh : Nat} (hn : v 0 0 = n) (hno : ¬ okG g sh v) (hF : ¬ ∃ i, i < n * n ∧ fstM v n g sh i) : (∃ i, i < n * n ∧ secM v n g sh i) ↔ ∃ j, 0 ≤ j ∧ j < 36 ∧ newC v sh (j / 6) (j % 6) ∧ secC v g sh j := by
  have n6 := hw.1
  have noP : ∀ a b, newP v a b → ¬ okG g sh (adN v a b) := by
    intro a b hp hk
    have h1 := hp.1
    have h2 := hp.2.1
    obtain ⟨e1, e2⟩ := pr_n (n := n) (a := a) (b := b) (by omega)
    exact hF ⟨n * a + b, pr_lt (by omega) (by omega), by rw [e1, e2]; exact hp, by rw [e1, e2]; exact hk⟩
  constructor
  · rintro ⟨i, hi, hp, j, hij, hj, hq, hk⟩
    have hdiv : i / n ≤ j / n := Nat.div_le_div_right (by omega)
    have hi2 := Nat.div_add_mod i n
    have hj2 := Nat.div_add_mod j n
    generalize ha : i / n = a at *
    generalize hb : i % n = b at *
    generalize hc : j / n = c at *
    generalize hd : j % n = d at *
    have hq0 := new_pre hw hp hq
    obtain ⟨p1, p2, p3⟩ := hp
    obtain ⟨q1, q2, q3⟩ := hq0
    have ntp : ¬ (a = sh ∨ b = sh) := by
      intro e
      have := ha_touch2 hw (a := a) (b := b) (c := c) (d := d) (cl := sh) (by omega) (by omega) (by omega) (by omega) (by omega) (by omega) e
      exact noP c d ⟨q1, q2, q3⟩ (by unfold okG at hk ⊢; rw [this] at hk; exact hk)
    have ntq : ¬ (c = sh ∨ d = sh) := by
      intro e
      have w' := wf_ad hw (a := a) (b := b) (by omega) (by omega) (by omega)
      have e00 : adN v a b 0 0 = v 0 0 := ad_o v a b (by decide) 0
      have := ha_touch w' (a := c) (b := d) (cl := sh) (by omega) (by omega) (by omega) e
      exact noP a b ⟨p1, p2, p3⟩ (by unfold okG at hk ⊢; rw [this] at hk; exact hk)
    have hlt : 6 * a + b < 6 * c + d := by
      by_cases hac : a = c
      · subst hac; omega
      · omega
    obtain ⟨e1, e2⟩ := pr_n (n := 6) (a := a) (b := b) (by omega)
    obtain ⟨e3, e4⟩ := pr_n (n := 6) (a := c) (b := d) (by omega)
    refine ⟨6 * a + b, Nat.zero_le _, by omega, ?_, ?_⟩
    · rw [e1, e2]; exact ⟨⟨p1, p2, p3⟩, by omega, by omega⟩
    · refine ⟨6 * c + d, hlt, by omega, ?_, ?_⟩
      · rw [e1, e2, e3, e4]; exact ⟨hq, by omega, by omega⟩
      · unfold fstC; rw [e1, e2, e3, e4]; exact hk
  · rintro ⟨i, -, hi, ⟨hp, nt⟩, j, hij, hj, ⟨hq, nt'⟩, hk⟩
    have hdiv : i / 6 ≤ j / 6 := Nat.div_le_div_right (by omega)
    have hi2 := Nat.div_add_mod i 6
    have hj2 := Nat.div_add_mod j 6
    unfold fstC at hk
    generalize ha : i / 6 = a at *
    generalize hb : i % 6 = b at *
    generalize hc : j / 6 = c at *
    generalize hd : j % 6 = d at *
    have hq0 := new_pre hw hp hq
    have p1 := hp.1
    have p2 := hp.2.1
    have q1 := hq0.1
    have q2 := hq0.2.1
    have hlt : n * a + b < n * c + d := by
      by_cases hac : a = c
      · subst hac; omega
      · have : n * (a + 1) ≤ n * c := Nat.mul_le_mul_left n (by omega)
        rw [Nat.mul_add, Nat.mul_one] at this
        omega
    obtain ⟨e1, e2⟩ := pr_n (n := n) (a := a) (b := b) (by omega)
    obtain ⟨e3, e4⟩ := pr_n (n := n) (a := c) (b := d) (by omega)
    refine ⟨n * a + b, pr_lt (by omega) (by omega), ?_, n * c + d, hlt, pr_lt (by omega) (by omega), ?_, ?_⟩
    · rw [e1, e2]; exact hp
    · rw [e1, e2, e3, e4]; exact hq
    · rw [e1, e2, e3, e4]; exact hk
theorem F18 : ∀ h, h < 64 → ∀ s, s < 6 → nI h &&& (((1 : Int32) <<< (nI s &&& 31)) ^^^ (-1)) = nI (h &&& (63 - 2 ^ s)) := by decide +kernel
theorem haU_p2 (v : VW) (cl : Nat) : ∀ k, haU v cl k < 2 ^ k := by
  intro k
  induction k with
  | zero => exact Nat.le_of_ble_eq_true rfl
  | succ k ih =>
    unfold haU
    have h2 : 2 ^ (k + 1) = 2 * 2 ^ k := by rw [Nat.pow_succ]; omega
    split
    · omega
    · exact Nat.or_lt_two_pow (by omega) (by omega)
theorem st_mends {N : Nat} (hN : 400000 ≤ N) (x : Int32) : StI Rl (fun S => f_X4_mends N S x) (fun S => f_X5_mends N S x) := by
  rintro SC SM ⟨v, v1, v2, k0, k1, r, w0, w1, w2, w3, w4, hC, hM⟩
  have n6 := w0.1
  simp only [f_X4_mends, f_X5_mends, c_hasShop N SC x hC.1.1 n6, m_isShop N SM x hM.1.1 n6, bd2_s, tf_if, c_bad, m_bad]
  by_cases h : 0 ≤ x.toInt ∧ x.toInt < (v 0 0 : Int)
  · rw [if_pos h, if_pos h]
    obtain ⟨s, hs, rfl⟩ := of_rng (x := x) (m := 5) (by omega) (by decide)
    rw [nt (by omega)] at h
    obtain ⟨S1, e1, f1, z1⟩ := c_goodsToHave (N := N) (by omega) w0 (cb := 0) (cl := 6) (by decide) cl_none hC.1 hC.2.2.2.2.2.2
    have hRC := RC_f f1 z1 hC
    obtain ⟨T1, d1, m1⟩ := m_hadWith hN w0 (cl := 6) (ci := -1) cl_noneM hM.1
    have hRM := RM_k m1 hM
    obtain ⟨T2, d2, m2⟩ := m_hadWith hN w0 (cl := s) (ci := nI s) (cl_oneM (by omega)) hRM.1
    have hRM2 := RM_k m2 hRM
    replace e1 : f_X1_goodsToHave N SC 0 = _ := e1
    have hg64 := ha_lt w0 6
    rw [e1, bd2_s, d1, bd2_s]
    simp only [f_X5_shops, bd2_s]
    rw [hRM.1.1, d2, bd2_s, F18 _ hg64 s (by omega), pk_mul]
    generalize hgd : haS v 6 &&& (63 - 2 ^ s) = g
    have hg : g < 2 ^ v 0 0 := by rw [← hgd]; exact Nat.lt_of_le_of_lt Nat.and_le_left (haU_p2 v 6 _)
    have hg6 : g < 64 := by rw [← hgd]; exact Nat.lt_of_le_of_lt Nat.and_le_left hg64
    simp only [F14 g hg6 _ (ha_lt w0 s)]
    obtain ⟨N', hN'⟩ : ∃ N', N = N' + 1 + 1 + 1 + 1 := ⟨N - 4, by omega⟩
    obtain ⟨S2, r2, e2, q2, f2, z2, c2⟩ := c_mend0 (N := N) (by omega) w0 hg (sh := s) (by omega) hRC.1 z1 3 0
    have hRC2 : RC v v1 v2 k0 k1 r S2 := RC_v q2 (fun i hi => f2 i (by omega)) z2 hRC
    have u1 : b_X4_mends_37 N N S1 (nI s) (nI g) 0 = bd2 (f_X4_areMended N 4 S1 (nI g) (nI s) 0 0) fun r14 S13 => if r14 = 0 then b_X4_mends_37 N (N' + 1 + 1 + 1) S13 (nI s) (nI g) (0 + 1) else some (0, S13) := by
      conv => lhs; rw [show b_X4_mends_37 N N = b_X4_mends_37 N (N' + 1 + 1 + 1 + 1) by rw [← hN']]
      rw [b_X4_mends_37, if_neg (by decide)]
    rw [u1, e2, bd2_s]
    rcases c2 with ⟨rfl, hk⟩ | ⟨rfl, hk⟩
    · rw [if_pos hk, if_neg (show ¬ (1 : Int32) = 0 by decide)]
      exact ⟨_, _, _, rfl, rfl, v, v1, v2, k0, k1, _, w0, w1, w2, w3, w4, hRC2, hRM2⟩
    · rw [if_neg hk, if_pos (show (0 : Int32) = 0 from rfl)]
      obtain ⟨T3, r3, d3, q3, f3, c3⟩ := m_outer hN w0 rfl (by omega) hg6 (sh := s) (by omega) N (S := T2) (i := 0) (x4 := -1) hRM2.1 (Nat.zero_le _) (by have := Nat.mul_le_mul n6 n6; omega) (fun i' h => by omega) (Or.inr ⟨rfl, fun i' h => by omega⟩)
      have hRM3 : RM v v1 v2 k0 k1 r T3 := RM_v q3 f3 hRM2
      replace d3 : b_X5_mends_57 N N T2 (nI s) (nI g) (nI (v 0 0 * v 0 0)) (-1) 0 = _ := d3
      rw [d3]
      obtain ⟨S3, r4, e3, q4, f4, z4', c4⟩ := c_mend1 hN w0 hg (sh := s) (by omega) q2 z2 2 (i := 0) (by omega)
      have hRC3 : RC v v1 v2 k0 k1 r S3 := RC_v q4 (fun i hi => f4 i (by omega)) z4' hRC2
      replace e3 : f_X4_areMended N 4 S2 (nI g) (nI s) 1 0 = _ := e3
      rw [b_X4_mends_37, if_neg (by decide), show (0 + 1 : Int32) = 1 by decide, e3, bd2_s]
      have fi := fst_iff w0 (g := g) (sh := s) rfl hk
      rcases c4 with ⟨rfl, hf⟩ | ⟨rfl, hf⟩
      · rw [if_neg (show ¬ (1 : Int32) = 0 by decide)]
        have hf' := fi.mpr hf
        have : r3 = 1 := by
          rcases c3 with ⟨a, -⟩ | ⟨-, b, -⟩ | ⟨-, b, -⟩
          · exact a
          · obtain ⟨i, i1, i2⟩ := hf'; exact absurd i2 (b i i1)
          · obtain ⟨i, i1, i2⟩ := hf'; exact absurd i2 (b i i1)
        rw [this]
        exact ⟨_, _, _, rfl, rfl, v, v1, v2, k0, k1, _, w0, w1, w2, w3, w4, hRC3, hRM3⟩
      · rw [if_pos (show (0 : Int32) = 0 from rfl)]
        have hf' : ¬ ∃ i, i < v 0 0 * v 0 0 ∧ fstM v (v 0 0) g s i := by
          intro z
          obtain ⟨j, j1, j2, j3, j4⟩ := fi.mp z
          exact hf j j1 j2 j3 j4
        have si := sec_iff w0 (g := g) (sh := s) rfl hk hf'
        obtain ⟨S4, r5, e4, q5, f5, z5', c5⟩ := c_mend2 hN w0 hg (sh := s) (by omega) q4 z4' 1
        have hRC4 : RC v v1 v2 k0 k1 r S4 := RC_v q5 (fun i hi => f5 i (by omega)) z5' hRC3
        replace e4 : f_X4_areMended N 4 S3 (nI g) (nI s) 2 0 = _ := e4
        rw [b_X4_mends_37, if_neg (by decide), show (1 + 1 : Int32) = 2 by decide, e4, bd2_s]
        rcases c5 with ⟨rfl, hg2⟩ | ⟨rfl, hg2⟩
        · rw [if_neg (show ¬ (1 : Int32) = 0 by decide)]
          have hs' := si.mpr hg2
          have : r3 = 2 := by
            rcases c3 with ⟨-, b⟩ | ⟨a, -, -⟩ | ⟨-, -, b⟩
            · exact absurd b hf'
            · exact a
            · obtain ⟨i, i1, i2⟩ := hs'; exact absurd i2 (b i i1)
          rw [this]
          exact ⟨_, _, _, rfl, rfl, v, v1, v2, k0, k1, _, w0, w1, w2, w3, w4, hRC4, hRM3⟩
        · rw [if_pos (show (0 : Int32) = 0 from rfl), b_X4_mends_37, if_pos (by decide)]
          have : r3 = -1 := by
            rcases c3 with ⟨-, b⟩ | ⟨-, -, b⟩ | ⟨a, -, -⟩
            · exact absurd b hf'
            · obtain ⟨j, j1, j2, j3, j4⟩ := si.mp b
              exact absurd j4 (hg2 j j1 j2 j3)
            · exact a
          rw [this]
          exact ⟨_, _, _, rfl, rfl, v, v1, v2, k0, k1, _, w0, w1, w2, w3, w4, hRC4, hRM3⟩
  · rw [if_neg h, if_neg h]
    exact ⟨_, _, _, rfl, rfl, v, v1, v2, k0, k1, _, w0, w1, w2, w3, w4, RC_ref hC (by decide), RM_ref hM (by decide)⟩
