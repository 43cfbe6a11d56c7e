-- the road's signs
abbrev spP (b : Nat) : Prop := b = 32
abbrev leP (b : Nat) : Prop := 97 ≤ b ∧ b ≤ 122
abbrev fiP (b : Nat) : Prop := 48 ≤ b ∧ b ≤ 57
def rn (v : VW) (P : Nat → Prop) [DecidablePred P] : Nat → Nat → Nat
  | 0, p => p
  | d + 1, p => if P (v 7 p) then rn v P d (p + 1) else p
theorem rn_in (v : VW) (P : Nat → Prop) [DecidablePred P] : ∀ d p, p ≤ rn v P d p ∧ rn v P d p ≤ p + d ∧ ∀ q, p ≤ q → q < rn v P d p → P (v 7 q) := by
  intro d
  induction d with
  | zero => intro p; exact ⟨Nat.le_refl _, Nat.le_refl _, fun q h1 h2 => by have : q < p := h2; omega⟩
  | succ d ih =>
    intro p
    obtain ⟨a, b, c⟩ := ih (p + 1)
    unfold rn
    by_cases h : P (v 7 p)
    · rw [if_pos h]
      refine ⟨by omega, by omega, fun q h1 h2 => ?_⟩
      by_cases e : q = p
      · rw [e]; exact h
      · exact c q (by omega) h2
    · rw [if_neg h]
      exact ⟨Nat.le_refl _, by omega, fun q h1 h2 => by omega⟩
theorem c_byte {v : VW} {S : ST} (hr : rlC v S 0) {p : Nat} (h : p < v 0 5) : S 7 p = nI (v 7 p) := hr.2.2.2.2.2.2.2.2.2.1 p h
theorem m_byte (N : Nat) {v : VW} (hw : wfV v) {S : ST} (hr : rlM v (S 1)) {p : Nat} (h : p < v 0 5) : f_X5_byteAt N S (nI p) = some (nI (v 7 p), S) := by
  have := hw.2.2.2.2.2.1
  unfold f_X5_byteAt
  rw [show (47 : Int32) = nI 47 from rfl, nI_add, ck (by omega) (by decide), nI_clamp (by omega), hr.2.2.2.2.2.2.2.2.2.1 p h]
theorem c_letter (N : Nat) (S : ST) {b : Nat} (hb : b < 256) : f_X0_isLetter N S (nI b) = some (tf (leP b), S) := by
  unfold f_X0_isLetter
  rw [show (97 : Int32) = nI 97 from rfl, show (122 : Int32) = nI 122 from rfl]
  by_cases h1 : b < 97
  · rw [if_pos ((nI_ltI (by omega) (by omega)).mpr h1), tf_f (fun z => by have := z.1; omega)]
  · rw [if_neg (fun z => h1 ((nI_ltI (by omega) (by omega)).mp z))]
    by_cases h2 : 122 < b
    · rw [if_pos ((nI_ltI (by omega) (by omega)).mpr h2), tf_f (fun z => by have := z.2; omega)]
    · rw [if_neg (fun z => h2 ((nI_ltI (by omega) (by omega)).mp z)), tf_t ⟨by omega, by omega⟩]
theorem c_figure (N : Nat) (S : ST) {b : Nat} (hb : b < 256) : f_X0_isFigure N S (nI b) = some (tf (fiP b), S) := by
  unfold f_X0_isFigure
  rw [show (48 : Int32) = nI 48 from rfl, show (57 : Int32) = nI 57 from rfl]
  by_cases h1 : b < 48
  · rw [if_pos ((nI_ltI (by omega) (by omega)).mpr h1), tf_f (fun z => by have := z.1; omega)]
  · rw [if_neg (fun z => h1 ((nI_ltI (by omega) (by omega)).mp z))]
    by_cases h2 : 57 < b
    · rw [if_pos ((nI_ltI (by omega) (by omega)).mpr h2), tf_f (fun z => by have := z.2; omega)]
    · rw [if_neg (fun z => h2 ((nI_ltI (by omega) (by omega)).mp z)), tf_t ⟨by omega, by omega⟩]
theorem m_small (N : Nat) (S : ST) {b : Nat} (hb : b < 256) : f_X5_isSmall N S (nI b) = some (tf (leP b), S) := by
  unfold f_X5_isSmall
  rw [m_in, bd2_s, tf_ret, Int32.toInt_toInt64, nt (by omega), show (97 : Int64).toInt = 97 from rfl, show (122 : Int64).toInt = 122 from rfl]
  congr 2
  exact tf_eq (by omega)
theorem m_figure (N : Nat) (S : ST) {b : Nat} (hb : b < 256) : f_X5_isFigure N S (nI b) = some (tf (fiP b), S) := by
  unfold f_X5_isFigure
  rw [m_in, bd2_s, tf_ret, Int32.toInt_toInt64, nt (by omega), show (48 : Int64).toInt = 48 from rfl, show (57 : Int64).toInt = 57 from rfl]
  congr 2
  exact tf_eq (by omega)
def f49 (k0 : Nat → Prop) (S S' : ST) : Prop := (∀ i, i ≠ 49 → S' i = S i) ∧ ∀ k, ¬ k0 k → S' 49 k = S 49 k
def f0M (k0 : Nat → Prop) (S S' : ST) : Prop := (∀ i, i ≠ 0 → S' i = S i) ∧ ∀ k, ¬ k0 k → S' 0 k = S 0 k
theorem f49_us {k0 : Nat → Prop} (S : ST) {k : Nat} (hk : k0 k) (x : Int32) : f49 k0 S (us S 49 k x) := ⟨fun i hi => us_n _ _ _ _ hi, fun j hj => us_k _ _ _ _ (fun e => hj (by rw [e]; exact hk))⟩
theorem f0M_us {k0 : Nat → Prop} (S : ST) {k : Nat} (hk : k0 k) (x : Int32) : f0M k0 S (us S 0 k x) := ⟨fun i hi => us_n _ _ _ _ hi, fun j hj => us_k _ _ _ _ (fun e => hj (by rw [e]; exact hk))⟩
theorem f49_1 (S : ST) (k : Nat) (x : Int32) : f49 (fun j => j = k) S (us S 49 k x) := f49_us (k0 := fun j => j = k) S rfl x
theorem f0M_1 (S : ST) (k : Nat) (x : Int32) : f0M (fun j => j = k) S (us S 0 k x) := f0M_us (k0 := fun j => j = k) S rfl x
theorem f49_rf {k0 : Nat → Prop} (S : ST) : f49 k0 S S := ⟨fun _ _ => rfl, fun _ _ => rfl⟩
theorem f0M_rf {k0 : Nat → Prop} (S : ST) : f0M k0 S S := ⟨fun _ _ => rfl, fun _ _ => rfl⟩
theorem f49_tr {k0 : Nat → Prop} {S S1 S2 : ST} (h1 : f49 k0 S S1) (h2 : f49 k0 S1 S2) : f49 k0 S S2 := ⟨fun i hi => (h2.1 i hi).trans (h1.1 i hi), fun k hk => (h2.2 k hk).trans (h1.2 k hk)⟩
theorem f0M_tr {k0 : Nat → Prop} {S S1 S2 : ST} (h1 : f0M k0 S S1) (h2 : f0M k0 S1 S2) : f0M k0 S S2 := ⟨fun i hi => (h2.1 i hi).trans (h1.1 i hi), fun k hk => (h2.2 k hk).trans (h1.2 k hk)⟩
theorem f49_w {k0 k1 : Nat → Prop} (hk : ∀ k, k0 k → k1 k) {S S1 : ST} (h1 : f49 k0 S S1) : f49 k1 S S1 := ⟨h1.1, fun k h => h1.2 k (fun z => h (hk k z))⟩
theorem f0M_w {k0 k1 : Nat → Prop} (hk : ∀ k, k0 k → k1 k) {S S1 : ST} (h1 : f0M k0 S S1) : f0M k1 S S1 := ⟨h1.1, fun k h => h1.2 k (fun z => h (hk k z))⟩
theorem rlC_49 {v : VW} {k0 : Nat → Prop} {S S' : ST} (h : f49 k0 S S') (hr : rlC v S 0) : rlC v S' 0 := rlC_sm (fun k hk => h.1 _ (by omega)) hr
theorem rlM_0 {v : VW} {k0 : Nat → Prop} {S S' : ST} (h : f0M k0 S S') (hr : rlM v (S 1)) : rlM v (S' 1) := by rw [h.1 1 (by decide)]; exact hr
-- the class's loops
theorem c_skip (N : Nat) {v : VW} (hw : wfV v) : ∀ (n d : Nat) {S : ST} {p : Nat}, rlC v S 0 → S 49 4 = nI (v 0 5) → S 49 5 = nI p → p + d = v 0 5 → d < n → ∃ S', b_X0_goToToken_0 N n S = b_X0_goToToken_38 N S' ∧ S' 49 5 = nI (rn v spP d p) ∧ f49 (fun k => k = 5) S S' := by
  have t200 := hw.2.2.2.2.2.1
  intro n
  induction n with
  | zero => intro d S p _ _ _ _ h; omega
  | succ n ih =>
    intro d S p hr h4 h5 hp hn
    rw [b_X0_goToToken_0, h4, h5]
    cases d with
    | zero =>
      rw [if_pos ((nI_leI (by omega) (by omega)).mpr (by omega))]
      exact ⟨S, rfl, h5, f49_rf S⟩
    | succ d =>
      have hb := hw.2.2.2.2.2.2.2.2.2.2.1 p (by omega)
      rw [if_neg (fun z => by have := (nI_leI (by omega) (by omega)).mp z; omega), ck (by omega) (by decide), nI_clamp (by omega), c_byte hr (by omega), nm_s, nI_1, show (32 : Int32) = nI 32 from rfl]
      unfold rn
      by_cases hs : v 7 p = 32
      · rw [if_pos (show nI (v 7 p) = nI 32 by rw [hs]), if_pos hs]
        have f1 : f49 (fun k => k = 5) S (us S 49 5 (nI (p + 1))) := f49_1 S _ _
        obtain ⟨S2, e2, a, b⟩ := ih d (S := us S 49 5 (nI (p + 1))) (p := p + 1) (rlC_49 f1 hr) (by rw [us_k _ _ _ _ (by decide)]; exact h4) (us_s _ _ _ _) (by omega) (by omega)
        exact ⟨S2, e2, a, f49_tr f1 b⟩
      · rw [if_neg (fun z => hs ((nI_eq (by omega) (by omega)).mp z)), if_neg hs]
        exact ⟨S, rfl, h5, f49_rf S⟩
theorem c_word (N : Nat) {v : VW} (hw : wfV v) : ∀ (n d : Nat) {S : ST} {p : Nat}, rlC v S 0 → S 49 4 = nI (v 0 5) → S 49 5 = nI p → p + d = v 0 5 → d < n → ∃ S', b_X0_goToToken_85 N n S = some S' ∧ S' 49 5 = nI (rn v leP d p) ∧ f49 (fun k => k = 5) S S' := by
  have t200 := hw.2.2.2.2.2.1
  intro n
  induction n with
  | zero => intro d S p _ _ _ _ h; omega
  | succ n ih =>
    intro d S p hr h4 h5 hp hn
    rw [b_X0_goToToken_85, h4, h5]
    cases d with
    | zero =>
      rw [if_pos ((nI_leI (by omega) (by omega)).mpr (by omega))]
      exact ⟨S, rfl, h5, f49_rf S⟩
    | succ d =>
      have hb := hw.2.2.2.2.2.2.2.2.2.2.1 p (by omega)
      rw [if_neg (fun z => by have := (nI_leI (by omega) (by omega)).mp z; omega), ck (by omega) (by decide), nI_clamp (by omega), c_byte hr (by omega), c_letter N S hb, bd2_s, nm_s, tf_if, h5, nI_1]
      unfold rn
      by_cases hs : leP (v 7 p)
      · rw [if_pos hs, if_pos hs]
        have f1 : f49 (fun k => k = 5) S (us S 49 5 (nI (p + 1))) := f49_1 S _ _
        obtain ⟨S2, e2, a, b⟩ := ih d (S := us S 49 5 (nI (p + 1))) (p := p + 1) (rlC_49 f1 hr) (by rw [us_k _ _ _ _ (by decide)]; exact h4) (us_s _ _ _ _) (by omega) (by omega)
        exact ⟨S2, e2, a, f49_tr f1 b⟩
      · rw [if_neg hs, if_neg hs]
        exact ⟨S, rfl, h5, f49_rf S⟩
-- the number of the first figures
def nuS (v : VW) (s : Nat) : Nat → Nat
  | 0 => 0
  | k + 1 => 10 * nuS v s k + v 7 (s + k) - 48
def nuC (v : VW) (s l : Nat) : Int32 := if l ≤ 3 then nI (nuS v s l) else -1
theorem nu_lt {v : VW} {s : Nat} : ∀ k, (∀ q, q < k → fiP (v 7 (s + q))) → nuS v s k < 10 ^ k := by
  intro k
  induction k with
  | zero => intro _; show 0 < 1; decide
  | succ k ih =>
    intro h
    have a := ih (fun q hq => h q (by omega))
    have b := h k (by omega)
    unfold nuS
    rw [Nat.pow_succ]
    omega
theorem c_number (N : Nat) {v : VW} (hw : wfV v) {s : Nat} : ∀ (n d : Nat) {S : ST} {p : Nat}, rlC v S 0 → S 49 4 = nI (v 0 5) → S 49 5 = nI p → S 49 7 = nI s → s ≤ p → S 49 8 = nuC v s (p - s) → (∀ q, s ≤ q → q < p → fiP (v 7 q)) → p + d = v 0 5 → d < n → ∃ S', b_X0_goToToken_149 N n S = some S' ∧ S' 49 5 = nI (rn v fiP d p) ∧ S' 49 8 = nuC v s (rn v fiP d p - s) ∧ f49 (fun k => k = 5 ∨ k = 8) S S' := by
  have t200 := hw.2.2.2.2.2.1
  intro n
  induction n with
  | zero => intro d S p _ _ _ _ _ _ _ _ h; omega
  | succ n ih =>
    intro d S p hr h4 h5 h7 hsp h8 hf hp hn
    rw [b_X0_goToToken_149, h4, h5]
    cases d with
    | zero =>
      rw [if_pos ((nI_leI (by omega) (by omega)).mpr (by omega))]
      exact ⟨S, rfl, h5, h8, f49_rf S⟩
    | succ d =>
      have hb := hw.2.2.2.2.2.2.2.2.2.2.1 p (by omega)
      rw [if_neg (fun z => by have := (nI_leI (by omega) (by omega)).mp z; omega), ck (by omega) (by decide), nI_clamp (by omega), c_byte hr (by omega), c_figure N S hb, bd2_s, tf_if, h5, h7, pk_sub hsp, h8]
      unfold rn
      by_cases hs : fiP (v 7 p)
      · have i200 := ixo (k := p) (L := 200) (by omega) (by decide)
        rw [if_pos hs, if_pos hs]
        simp only [if_neg i200]
        rw [nI_clamp (by omega), c_byte hr (by omega)]
        unfold b_X0_goToToken_213
        simp only [nm_s]
        have go : ∀ y : Int32, y = nuC v s (p + 1 - s) → ∃ S', b_X0_goToToken_149 N n (us (us S 49 8 y) 49 5 (us S 49 8 y 49 5 + 1)) = some S' ∧ S' 49 5 = nI (rn v fiP d (p + 1)) ∧ S' 49 8 = nuC v s (rn v fiP d (p + 1) - s) ∧ f49 (fun k => k = 5 ∨ k = 8) S S' := by
          intro y hy
          rw [us_k _ _ _ _ (show 5 ≠ 8 by decide), h5, nI_1]
          have f1 : f49 (fun k => k = 5 ∨ k = 8) S (us (us S 49 8 y) 49 5 (nI (p + 1))) := f49_tr (f49_us S (Or.inr rfl) _) (f49_us _ (Or.inl rfl) _)
          obtain ⟨S2, e2, a, a2, b⟩ := ih d (S := us (us S 49 8 y) 49 5 (nI (p + 1))) (p := p + 1) (rlC_49 f1 hr) (by rw [us_k _ _ _ _ (by decide), us_k _ _ _ _ (by decide)]; exact h4) (us_s _ _ _ _) (by rw [us_k _ _ _ _ (by decide), us_k _ _ _ _ (by decide)]; exact h7) (by omega) (by rw [us_k _ _ _ _ (by decide), us_s]; exact hy) (fun q h1 h2 => by
            by_cases e : q = p
            · rw [e]; exact hs
            · exact hf q h1 (by omega)) (by omega) (by omega)
          exact ⟨S2, e2, a, a2, f49_tr f1 b⟩
        rw [show (3 : Int32) = nI 3 from rfl]
        by_cases h3 : 3 ≤ p - s
        · rw [if_pos ((nI_leI (by omega) (by omega)).mpr h3)]
          exact go (-1) (by unfold nuC; rw [if_neg (by omega)])
        · rw [if_neg (fun z => h3 ((nI_leI (by omega) (by omega)).mp z))]
          refine go _ ?_
          unfold nuC
          rw [if_pos (by omega), if_pos (by omega), show (10 : Int32) = nI 10 from rfl, show (48 : Int32) = nI 48 from rfl, pk_mul, nI_add, pk_sub (by have := hs.1; omega), show p + 1 - s = (p - s) + 1 by omega]
          show _ = nI (10 * nuS v s (p - s) + v 7 (s + (p - s)) - 48)
          rw [show s + (p - s) = p by omega]
      · rw [if_neg hs, if_neg hs]
        exact ⟨S, rfl, h5, h8, f49_rf S⟩
-- the reference's loops
theorem m_skip (N : Nat) {v : VW} (hw : wfV v) : ∀ (n d : Nat) {S : ST} {p : Nat}, rlM v (S 1) → S 0 9 = nI p → p + d = v 0 5 → d < n → ∃ S', b_X5_look_5 N n S = b_X5_look_42 N S' ∧ S' 0 9 = nI (rn v spP d p) ∧ f0M (fun k => k = 9) S S' := by
  have t200 := hw.2.2.2.2.2.1
  intro n
  induction n with
  | zero => intro d S p _ _ _ h; omega
  | succ n ih =>
    intro d S p hr h9 hp hn
    rw [b_X5_look_5, f_X5_textLong, bd2_s, hr.2.2.2.2.2.1, h9]
    cases d with
    | zero =>
      rw [if_pos ((nI_leI (by omega) (by omega)).mpr (by omega))]
      exact ⟨S, rfl, h9, f0M_rf S⟩
    | succ d =>
      have hb := hw.2.2.2.2.2.2.2.2.2.2.1 p (by omega)
      rw [if_neg (fun z => by have := (nI_leI (by omega) (by omega)).mp z; omega), m_byte N hw hr (by omega), bd2_s, nm_s, h9, nI_1, show (32 : Int32) = nI 32 from rfl]
      unfold rn
      by_cases hs : v 7 p = 32
      · rw [if_pos (show nI (v 7 p) = nI 32 by rw [hs]), if_pos hs]
        have f1 : f0M (fun k => k = 9) S (us S 0 9 (nI (p + 1))) := f0M_1 S _ _
        obtain ⟨S2, e2, a, b⟩ := ih d (S := us S 0 9 (nI (p + 1))) (p := p + 1) (rlM_0 f1 hr) (us_s _ _ _ _) (by omega) (by omega)
        exact ⟨S2, e2, a, f0M_tr f1 b⟩
      · rw [if_neg (fun z => hs ((nI_eq (by omega) (by omega)).mp z)), if_neg hs]
        exact ⟨S, rfl, h9, f0M_rf S⟩
theorem m_run (N : Nat) {v : VW} (hw : wfV v) {s : Nat} {P : Nat → Prop} [DecidablePred P] {kk : Int32} (hk : (kk = 1 ∧ ∀ b, P b ↔ leP b) ∨ (kk = 2 ∧ ∀ b, P b ↔ fiP b)) : ∀ (n d : Nat) {S : ST} {l : Nat}, rlM v (S 1) → S 0 9 = nI s → S 0 10 = nI l → S 0 11 = kk → s + l + d = v 0 5 → d + 1 < n → ∃ S', b_X5_look_134 N n S 1 = b_X5_look_212 N S' ∧ S' 0 10 = nI (rn v P d (s + l) - s) ∧ f0M (fun k => k = 10) S S' := by
  have t200 := hw.2.2.2.2.2.1
  intro n
  induction n with
  | zero => intro d S l _ _ _ _ _ h; omega
  | succ n ih =>
    intro d S l hr h9 h10 h11 hp hn
    rw [b_X5_look_134, if_neg (show ¬ (1 : Int32) = 0 by decide), f_X5_textLong, bd2_s, hr.2.2.2.2.2.1, h9, h10, nI_add]
    cases d with
    | zero =>
      rw [if_pos ((nI_leI (by omega) (by omega)).mpr (by omega))]
      refine ⟨S, rfl, ?_, f0M_rf S⟩
      rw [h10]
      show nI l = nI (s + l - s)
      rw [Nat.add_sub_cancel_left]
    | succ d =>
      have hb := hw.2.2.2.2.2.2.2.2.2.2.1 (s + l) (by omega)
      rw [if_neg (fun z => by have := (nI_leI (by omega) (by omega)).mp z; omega), m_byte N hw hr (by omega), bd2_s, h11]
      have key : ∀ (x : Int32), x = tf (P (v 7 (s + l))) → ∃ S', b_X5_look_190 N (fun S x3 => b_X5_look_134 N n S x3) S x = b_X5_look_212 N S' ∧ S' 0 10 = nI (rn v P (d + 1) (s + l) - s) ∧ f0M (fun k => k = 10) S S' := by
        intro x hx
        subst hx
        unfold b_X5_look_190 b_X5_look_205
        simp only [nm_s, tf_if]
        rw [h10, nI_1, show nI l + (0 : Int32) = nI l from nI_add l 0]
        by_cases hs : P (v 7 (s + l))
        · rw [if_pos hs, tf_t hs, show rn v P (d + 1) (s + l) = rn v P d (s + l + 1) by rw [rn, if_pos hs]]
          have f1 : f0M (fun k => k = 10) S (us S 0 10 (nI (l + 1))) := f0M_1 S _ _
          obtain ⟨S2, e2, a, b⟩ := ih d (S := us S 0 10 (nI (l + 1))) (l := l + 1) (rlM_0 f1 hr) (by rw [us_k _ _ _ _ (by decide)]; exact h9) (us_s _ _ _ _) (by rw [us_k _ _ _ _ (by decide)]; exact h11) (by omega) (by omega)
          exact ⟨S2, e2, a, f0M_tr f1 b⟩
        · rw [if_neg hs, tf_f hs, show rn v P (d + 1) (s + l) = s + l by rw [rn, if_neg hs]]
          obtain ⟨m, rfl⟩ : ∃ m, n = m + 1 := ⟨n - 1, by omega⟩
          rw [b_X5_look_134, if_pos (show (0 : Int32) = 0 from rfl)]
          refine ⟨_, rfl, ?_, f0M_1 S _ _⟩
          rw [us_s, Nat.add_sub_cancel_left]
      rcases hk with ⟨rfl, hP⟩ | ⟨rfl, hP⟩
      · rw [if_pos (show (1 : Int32) = 1 from rfl), m_small N S hb, bd2_s]
        exact key _ (tf_eq (hP _).symm)
      · rw [if_neg (show ¬ (2 : Int32) = 1 by decide), m_figure N S hb, bd2_s]
        exact key _ (tf_eq (hP _).symm)
theorem m_num (N : Nat) {v : VW} (hw : wfV v) {s l : Nat} (hl : s + l ≤ v 0 5) (hf : ∀ q, q < l → fiP (v 7 (s + q))) : ∀ (n : Nat) {S : ST} {j : Nat}, rlM v (S 1) → S 0 9 = nI s → S 0 10 = nI l → S 0 11 = 2 → S 0 12 = nI (nuS v s j) → j ≤ l → j ≤ 3 → 3 < j + n → ∃ S', b_X5_look_215 N n S (nI j) = b_X5_look_270 N S' ∧ S' 0 12 = nI (nuS v s (min l 3)) ∧ f0M (fun k => k = 12) S S' := by
  have t200 := hw.2.2.2.2.2.1
  intro n
  induction n with
  | zero => intro S j _ _ _ _ _ _ _ h; omega
  | succ n ih =>
    intro S j hr h9 h10 h11 h12 hj hj3 hn
    rw [b_X5_look_215, h10, h9, h11, h12, show (3 : Int32) = nI 3 from rfl]
    by_cases h1 : l ≤ j
    · rw [if_pos ((nI_leI (by omega) (by omega)).mpr h1)]
      exact ⟨S, rfl, by rw [h12, show min l 3 = j by omega], f0M_rf S⟩
    · rw [if_neg (fun z => h1 ((nI_leI (by omega) (by omega)).mp z))]
      by_cases h2 : 3 ≤ j
      · rw [if_pos ((nI_leI (by omega) (by omega)).mpr h2)]
        exact ⟨S, rfl, by rw [h12, show min l 3 = j by omega], f0M_rf S⟩
      · have hb := (hf j (by omega)).1
        rw [if_neg (fun z => h2 ((nI_leI (by omega) (by omega)).mp z)), if_pos (show (2 : Int32) = 2 from rfl), nI_add, m_byte N hw hr (by omega), bd2_s, nm_s, show (10 : Int32) = nI 10 from rfl, show (48 : Int32) = nI 48 from rfl, pk_mul, nI_add, pk_sub (by omega), nI_1, show 10 * nuS v s j + v 7 (s + j) - 48 = nuS v s (j + 1) from rfl]
        have f1 : f0M (fun k => k = 12) S (us S 0 12 (nI (nuS v s (j + 1)))) := f0M_1 S _ _
        obtain ⟨S2, e2, a, b⟩ := ih (S := us S 0 12 (nI (nuS v s (j + 1)))) (j := j + 1) (rlM_0 f1 hr) (by rw [us_k _ _ _ _ (by decide)]; exact h9) (by rw [us_k _ _ _ _ (by decide)]; exact h10) (by rw [us_k _ _ _ _ (by decide)]; exact h11) (us_s _ _ _ _) (by omega) (by omega) (by omega)
        exact ⟨S2, e2, a, f0M_tr f1 b⟩
