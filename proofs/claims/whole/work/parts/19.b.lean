-- what a shop takes of a row
theorem bit_or (a k s : Nat) : bitN (a ||| 2 ^ k) s = 1 ↔ bitN a s = 1 ∨ s = k := by
  rw [bit_tb, bit_tb, Nat.testBit_or, Nat.testBit_two_pow]
  by_cases h : a.testBit s
  · simp [h]
  · by_cases h2 : k = s
    · simp [h2]
    · simp [h, h2, Ne.symm h2]
theorem walk_sn (v : VW) {p : List Nat} {i : Nat} (h : i < p.length) : walkS v (p.take (i + 1)) = buyS v (walkS v (p.take i)) (p.getD i 0) := by
  rw [take_succ h, walkS_snoc]
theorem pay_is (v : VW) {p : List Nat} {i : Nat} (h : i < p.length) : payS v p i = priS v (p.getD i 0) (walkS v (p.take i)).2.1 := by
  unfold payS
  rw [walk_sn v h]
  show (walkS v (p.take i)).2.2.2.2 + priS v (p.getD i 0) (walkS v (p.take i)).2.1 - (walkS v (p.take i)).2.2.2.2 = _
  omega
theorem getD_mem {p : List Nat} {i : Nat} (h : i < p.length) : p.getD i 0 ∈ p := by
  rw [List.getD_eq_getElem?_getD, List.getElem?_eq_getElem h]
  exact List.getElem_mem h
-- goods held along a row
theorem walk_h {v : VW} (hw : wfV v) {p : List Nat} (hp : ∀ s ∈ p, s < v 0 0) : ∀ i, i ≤ p.length → (walkS v (p.take i)).2.1 < 64 ∧ (walkS v (p.take i)).2.2.1 < 64 := by
  have n6 := hw.1
  intro i
  induction i with
  | zero => intro _; rw [List.take_zero]; exact ⟨Nat.le_of_ble_eq_true rfl, Nat.le_of_ble_eq_true rfl⟩
  | succ i ih =>
    intro h
    obtain ⟨a, b⟩ := ih (by omega)
    have hs := hp _ (getD_mem (p := p) (i := i) (by omega))
    rw [walk_sn v (by omega)]
    exact ⟨F1b _ (lef_facts hw hs a).1 _ (by omega), F1b _ b _ (by omega)⟩
-- what has been: the shops of the row
theorem been_in (v : VW) {p : List Nat} : ∀ i, i ≤ p.length → ∀ s, (bitN (walkS v (p.take i)).2.2.1 s = 1 ↔ ∃ j, j < i ∧ p.getD j 0 = s) := by
  intro i
  induction i with
  | zero =>
    intro _ s
    rw [List.take_zero]
    constructor
    · intro h; exact absurd h (by show ¬ bitN 0 s = 1; unfold bitN; rw [Nat.zero_div]; decide)
    · rintro ⟨j, h, -⟩; omega
  | succ i ih =>
    intro h s
    rw [walk_sn v (by omega)]
    show bitN ((walkS v (p.take i)).2.2.1 ||| 2 ^ p.getD i 0) s = 1 ↔ _
    rw [bit_or, ih (by omega) s]
    constructor
    · rintro (⟨j, h1, h2⟩ | h1)
      · exact ⟨j, by omega, h2⟩
      · exact ⟨i, by omega, h1.symm⟩
    · rintro ⟨j, h1, h2⟩
      by_cases hj : j = i
      · rw [hj] at h2; exact Or.inr h2.symm
      · exact Or.inl ⟨j, by omega, h2⟩
theorem F19 : ∀ b, b < 64 → ∀ s, s < 6 → pop6 (b ||| 2 ^ s) ≤ pop6 b + 1 ∧ (bitN b s = 1 → pop6 (b ||| 2 ^ s) = pop6 b) := by decide +kernel
theorem pop_len {v : VW} (hw : wfV v) {p : List Nat} (hp : ∀ s ∈ p, s < v 0 0) : ∀ i, i ≤ p.length → pop6 (walkS v (p.take i)).2.2.1 ≤ i := by
  have n6 := hw.1
  intro i
  induction i with
  | zero => intro _; rw [List.take_zero]; show pop6 0 ≤ 0; decide
  | succ i ih =>
    intro h
    have hs := hp _ (getD_mem (p := p) (i := i) (by omega))
    have := ih (by omega)
    rw [walk_sn v (by omega)]
    show pop6 ((walkS v (p.take i)).2.2.1 ||| 2 ^ p.getD i 0) ≤ i + 1
    have := (F19 _ (walk_h hw hp i (by omega)).2 (p.getD i 0) (by omega)).1
    omega
-- no shop twice
theorem once {v : VW} (hw : wfV v) {p : List Nat} (hp : gdN v p) : ∀ i j, j < i → i < p.length → p.getD j 0 ≠ p.getD i 0 := by
  have n6 := hw.1
  have hm := hp.2.2.2.2.2.2.2.2
  have key : ∀ k, k ≤ p.length → pop6 (walkS v (p.take (p.length - k))).2.2.1 = p.length - k := by
    intro k
    induction k with
    | zero => intro _; rw [Nat.sub_zero, List.take_length]; exact hp.2.2.2.2.2.2.1
    | succ k ih =>
      intro h
      have h1 := ih (by omega)
      have e : p.length - k = (p.length - (k + 1)) + 1 := by omega
      rw [e, walk_sn v (by omega)] at h1
      have h1 : pop6 ((walkS v (p.take (p.length - (k + 1)))).2.2.1 ||| 2 ^ p.getD (p.length - (k + 1)) 0) = p.length - (k + 1) + 1 := h1
      have hs := hm _ (getD_mem (p := p) (i := p.length - (k + 1)) (by omega))
      have := (F19 _ (walk_h hw hm (p.length - (k + 1)) (by omega)).2 (p.getD (p.length - (k + 1)) 0) (by omega)).1
      have := pop_len hw hm (p.length - (k + 1)) (by omega)
      omega
  intro i j hj hi he
  have a := key (p.length - i) (by omega)
  have b := key (p.length - (i + 1)) (by omega)
  rw [show p.length - (p.length - i) = i by omega] at a
  rw [show p.length - (p.length - (i + 1)) = i + 1 by omega, walk_sn v hi] at b
  have b : pop6 ((walkS v (p.take i)).2.2.1 ||| 2 ^ p.getD i 0) = i + 1 := b
  have hs := hm _ (getD_mem hi)
  have hbit : bitN (walkS v (p.take i)).2.2.1 (p.getD i 0) = 1 := (been_in v i (by omega) _).mpr ⟨j, hj, he⟩
  have := (F19 _ (walk_h hw hm i (by omega)).2 (p.getD i 0) (by omega)).2 hbit
  omega
def paT (v : VW) (p : List Nat) (x : Nat) : Nat → Nat
  | 0 => 0
  | k + 1 => if p.getD k 0 = x then payS v p k else paT v p x k
theorem paT_at {v : VW} (hw : wfV v) {p : List Nat} (hp : gdN v p) {x k : Nat} (hx : p.getD k 0 = x) : ∀ m, k < m → m ≤ p.length → paT v p x m = payS v p k := by
  intro m
  induction m with
  | zero => intro h; omega
  | succ m ih =>
    intro h1 h2
    unfold paT
    by_cases e : m = k
    · rw [e, if_pos hx]
    · rw [if_neg (fun z => once hw hp m k (by omega) (by omega) (hx.trans z.symm)), ih (by omega) (by omega)]
theorem paT_no {v : VW} {p : List Nat} {x : Nat} : ∀ m, (∀ i, i < m → p.getD i 0 ≠ x) → paT v p x m = 0 := by
  intro m
  induction m with
  | zero => intro _; rfl
  | succ m ih =>
    intro h
    unfold paT
    rw [if_neg (h m (by omega)), ih (fun i hi => h i (by omega))]
theorem paT_le {v : VW} (hw : wfV v) {p : List Nat} (hp : gdN v p) {x : Nat} : ∀ m, m ≤ p.length → paT v p x m ≤ 30 := by
  have n6 := hw.1
  have hm := hp.2.2.2.2.2.2.2.2
  intro m
  induction m with
  | zero => intro _; exact Nat.zero_le _
  | succ m ih =>
    intro h
    unfold paT
    split
    · rw [pay_is v (by omega)]
      have hs := hm _ (getD_mem (p := p) (i := m) (by omega))
      have h20 := (hw.2.2.2.2.2.2.2.1 _ hs).2.1
      have := pop_lt _ (walk_h hw hm m (by omega)).1
      unfold priS
      split
      · omega
      · split <;> omega
    · exact ih (by omega)
-- the reference walks its best row once more
theorem m_paid_loop {N : Nat} (hN : 400000 ≤ N) {v : VW} (hw : wfV v) {p : List Nat} (hp : gdN v p) {x t : Nat} (hx : x < 6) (ht : t < 6) : ∀ (n : Nat) {S : ST} {k : Nat}, rlM v (S 1) → S 7 (2 ^ t) = nI p.length → S 9 (2 ^ t) = nI (cdS p) → wM (walkS v (p.take k)) S → k ≤ p.length → p.length < k + n →
    ∃ S', b_X5_paidAt_9 N n S (nI x) (nI t) (nI (paT v p x k)) (nI k) = some (nI (paT v p x p.length), S') ∧ sm0 S S' := by
  have n6 := hw.1
  have l6 := gd_len hp
  have hm := hp.2.2.2.2.2.2.2.2
  have h64 := p2_64 ht
  intro n
  induction n with
  | zero => intro S k _ _ _ _ _ h; omega
  | succ n ih =>
    intro S k hr h7 h9 hwm hk hn
    have i64 := ixo (k := 2 ^ t) (L := 64) h64 (by decide)
    rw [b_X5_paidAt_9, one_shl (by omega)]
    simp only [if_neg i64]
    rw [nI_clamp (by omega), h7]
    by_cases he : p.length ≤ k
    · rw [if_pos ((nI_leI (by omega) (by omega)).mpr he), show k = p.length by omega]
      exact ⟨S, rfl, sm0_rf S⟩
    · have hs := hm _ (getD_mem (p := p) (i := k) (by omega))
      have hh := (walk_h hw hm k hk).1
      rw [if_neg (fun q => he ((nI_leI (by omega) (by omega)).mp q)), h9, m_shopIn N hw hp (by omega), bd2_s]
      obtain ⟨S1, e1, f1, w1⟩ := m_buy (N := N) (by omega) hw hr hh hwm hs
      rw [← walk_sn v (by omega)] at w1
      have r1 := rlM_sm0 f1 hr
      obtain ⟨S2, e2, f2⟩ := ih (S := S1) (k := k + 1) r1 (by rw [f1.1 7 (by decide)]; exact h7) (by rw [f1.1 9 (by decide)]; exact h9) w1 (by omega) (by omega)
      unfold b_X5_paidAt_57
      dsimp only
      rw [hwm.2.1, m_priceOf (N := N) (by omega) hw hr hs hh, bd2_s, e1, bd1_s, bd1_s, nI_1]
      rw [show paT v p x (k + 1) = if p.getD k 0 = x then payS v p k else paT v p x k from rfl] at e2
      by_cases hq : p.getD k 0 = x
      · rw [if_pos hq, pay_is v (by omega)] at e2
        rw [if_pos (show nI (p.getD k 0) = nI x by rw [hq])]
        exact ⟨S2, e2, sm0_tr f1 f2⟩
      · rw [if_neg hq] at e2
        rw [if_neg (fun q => hq ((nI_eq (by omega) (by omega)).mp q))]
        exact ⟨S2, e2, sm0_tr f1 f2⟩
theorem m_paidAt {N : Nat} (hN : 400000 ≤ N) {v : VW} (hw : wfV v) {p : List Nat} (hp : gdN v p) {x t : Nat} (hx : x < 6) (ht : t < 6) {S : ST} (hr : rlM v (S 1)) (h7 : S 7 (2 ^ t) = nI p.length) (h9 : S 9 (2 ^ t) = nI (cdS p)) :
    ∃ S', f_X5_paidAt N S (nI x) (nI t) = some (nI (paT v p x p.length), S') ∧ sm0 S S' := by
  have l6 := gd_len hp
  obtain ⟨S1, e1, f1, w1⟩ := m_begin N S
  unfold f_X5_paidAt
  rw [e1, bd1_s]
  obtain ⟨S2, e2, f2⟩ := m_paid_loop hN hw hp hx ht N (S := S1) (k := 0) (rlM_sm0 f1 hr) (by rw [f1.1 7 (by decide)]; exact h7) (by rw [f1.1 9 (by decide)]; exact h9) w1 (Nat.zero_le _) (by omega)
  exact ⟨S2, e2, sm0_tr f1 f2⟩
-- the class has kept what was paid
theorem c_paid_loop (N : Nat) {v : VW} (hw : wfV v) {p : List Nat} (hp : gdN v p) {x : Nat} (hx : x < 6) {S : ST} (h7 : S 46 7 = nI p.length) (hs : ∀ i, i < p.length → S 47 i = nI (p.getD i 0) ∧ S 48 i = nI (payS v p i)) : ∀ (n : Nat) {k : Nat}, k ≤ p.length → p.length < k + n → (∀ i, i < k → p.getD i 0 ≠ x) → b_X1_paidTo_2 N n S (nI x) (nI k) = some (nI (paT v p x p.length), S) := by
  have n6 := hw.1
  have l6 := gd_len hp
  have hm := hp.2.2.2.2.2.2.2.2
  intro n
  induction n with
  | zero => intro k _ h; omega
  | succ n ih =>
    intro k hk hn hno
    rw [b_X1_paidTo_2, h7]
    by_cases he : p.length ≤ k
    · rw [if_pos ((nI_leI (by omega) (by omega)).mpr he), paT_no p.length (fun i hi => hno i (by omega))]
      rfl
    · have hsk := hm _ (getD_mem (p := p) (i := k) (by omega))
      rw [if_neg (fun q => he ((nI_leI (by omega) (by omega)).mp q)), show (6 : Int32) = nI 6 from rfl, if_neg (fun q => by have := (nI_leI (by omega) (by omega)).mp q; omega), ck (by omega) (by decide), ck (by omega) (by decide), nI_clamp (by omega), (hs k (by omega)).1, (hs k (by omega)).2, nI_1]
      by_cases hq : p.getD k 0 = x
      · rw [if_pos (show nI (p.getD k 0) = nI x by rw [hq]), paT_at hw hp hq p.length (by omega) (Nat.le_refl _)]
      · rw [if_neg (fun q => hq ((nI_eq (by omega) (by omega)).mp q))]
        exact ih (by omega) (by omega) (fun i hi => by
          by_cases e : i = k
          · rw [e]; exact hq
          · exact hno i (by omega))
-- what it takes of all buyers
def tk1 (v : VW) (x k : Nat) : Nat := if (beS v 6 (2 ^ v 8 k)).1 ≤ v 9 k then paT v (beS v 6 (2 ^ v 8 k)).2.2.2 x (beS v 6 (2 ^ v 8 k)).2.1 else 0
def tkU (v : VW) (x : Nat) : Nat → Nat
  | 0 => 0
  | k + 1 => tkU v x k + tk1 v x k
def tkS (v : VW) (x : Nat) : Nat := tkU v x (v 0 6)
theorem be_row {v : VW} (hw : wfV v) {w cl : Nat} (h : (beS v cl w).1 ≤ 999) : ∃ p, beS v cl w = ((walkS v p).2.2.2.2, p.length, (walkS v p).2.2.2.1, p) ∧ gdN v p ∧ subN w (walkS v p).2.1 := by
  have hpu := hw.2.2.1
  rcases fi_be hw (w := w) (cl := cl) hpu with ⟨a1, -⟩ | ⟨p, a1, a2, a3, a4, a5⟩
  · have := be_top hw (w := w) (cl := cl)
    omega
  · exact ⟨p, a1, a3, a4⟩
theorem tk1_le {v : VW} (hw : wfV v) {x k : Nat} (hk : k < v 0 6) : tk1 v x k ≤ 30 := by
  have h99 := (hw.2.2.2.2.2.2.2.2.2.2.2 k hk).2
  unfold tk1
  by_cases h : (beS v 6 (2 ^ v 8 k)).1 ≤ v 9 k
  · rw [if_pos h]
    obtain ⟨p, a1, a2, -⟩ := be_row hw (w := 2 ^ v 8 k) (cl := 6) (by omega)
    rw [a1]
    exact paT_le hw a2 _ (Nat.le_refl _)
  · rw [if_neg h]; omega
theorem tkU_le {v : VW} (hw : wfV v) {x : Nat} : ∀ k, k ≤ v 0 6 → tkU v x k ≤ 30 * k := by
  intro k
  induction k with
  | zero => intro _; exact Nat.zero_le _
  | succ k ih =>
    intro h
    have := ih (by omega)
    have := tk1_le hw (x := x) (k := k) (by omega)
    unfold tkU
    omega
theorem tkS_le {v : VW} (hw : wfV v) {x : Nat} : tkS v x ≤ 180 := by
  have := hw.2.2.2.2.2.2.1
  have := tkU_le hw (x := x) (v 0 6) (Nat.le_refl _)
  unfold tkS
  omega
-- a good whose shop is not there can't be had
theorem be_gone {v : VW} (hw : wfV v) {t : Nat} (ht : v 0 0 ≤ t) : (beS v 6 (2 ^ t)).1 = 1000000 := by
  have hpu := hw.2.2.1
  by_cases h : (beS v 6 (2 ^ t)).1 ≤ 999
  · exfalso
    obtain ⟨p, a1, a2, a3⟩ := be_row hw h
    have b1 : bitN (2 ^ t) t = 1 := by unfold bitN; rw [Nat.div_self (Nat.two_pow_pos t)]
    have b2 := sub_b a3 b1
    have b3 := sub_b a2.2.2.2.2.2.1 b2
    rw [← List.take_length (l := p)] at b3
    obtain ⟨j, j1, j2⟩ := (been_in v (p := p) p.length (Nat.le_refl _) t).mp b3
    have := a2.2.2.2.2.2.2.2.2 _ (getD_mem j1)
    omega
  · have := be_top hw (w := 2 ^ t) (cl := 6)
    omega
theorem s8M (k : Nat) : 247 + 2 * k = slM 8 k := by unfold slM; simp
theorem m_takes_loop {N : Nat} (hN : 400000 ≤ N) {v : VW} (hw : wfV v) {x : Nat} (hx : x < 6) : ∀ (n : Nat) {S : ST} {k : Nat}, rlM v (S 1) → tbM (beS v 6) (soS v 6) S → k ≤ v 0 6 → v 0 6 < k + n →
    ∃ S', b_X5_takesOf_9 N n S (nI x) (nI (tkU v x k)) (nI k) = some (nI (tkS v x), S') ∧ sm0 S S' := by
  have n6 := hw.1
  have b6 := hw.2.2.2.2.2.2.1
  intro n
  induction n with
  | zero => intro S k _ _ _ h; omega
  | succ n ih =>
    intro S k hr ht hk hn
    rw [b_X5_takesOf_9, hr.2.2.2.2.2.2.1]
    by_cases he : v 0 6 ≤ k
    · rw [if_pos ((nI_leI (by omega) (by omega)).mpr he), tkS, show v 0 6 = k by omega]
      exact ⟨S, rfl, sm0_rf S⟩
    · have hkk : k < v 0 6 := by omega
      obtain ⟨w6, l99⟩ := hw.2.2.2.2.2.2.2.2.2.2.2 k hkk
      obtain ⟨q8, q9⟩ := hr.2.2.2.2.2.2.2.2.2.2 k hkk
      have h64 := p2_64 w6
      obtain ⟨t6, t7, -, t9, -, tl, -⟩ := ht (2 ^ v 8 k) h64
      rw [if_neg (fun q => he ((nI_leI (by omega) (by omega)).mp q)), show (247 : Int32) = nI 247 from rfl, show (2 : Int32) = nI 2 from rfl, pk_mul, nI_add, nI_1, ck (by omega) (by decide), nI_clamp (show 247 + 2 * k < 2 ^ 31 by omega), q8, m_isShop N S _ hr.1 n6, bd2_s, one_shl (by omega), nt (by omega), tf_if]
      have i64 := ixo (k := 2 ^ v 8 k) (L := 64) h64 (by decide)
      have i261 := ixo (k := 247 + 2 * k + 1) (L := 261) (by omega) (by decide)
      simp only [if_neg i64, if_neg i261]
      rw [nI_clamp (show 2 ^ v 8 k < 2 ^ 31 by omega), nI_clamp (show 247 + 2 * k + 1 < 2 ^ 31 by omega), t6, q9]
      unfold b_X5_takesOf_74 b_X5_takesOf_75 b_X5_takesOf_94
      dsimp only
      simp only [if_neg (show ¬ (1 : Int32) = 0 by decide), ↓reduceIte]
      rw [nI_1, show ∀ a : Nat, nI a + (0 : Int32) = nI a from fun a => nI_add a 0]
      have skip : ¬ (beS v 6 (2 ^ v 8 k)).1 ≤ v 9 k → ∃ S', b_X5_takesOf_9 N n S (nI x) (nI (tkU v x k)) (nI (k + 1)) = some (nI (tkS v x), S') ∧ sm0 S S' := by
        intro hno
        obtain ⟨S2, e2, f2⟩ := ih (S := S) (k := k + 1) hr ht (by omega) (by omega)
        unfold tkU tk1 at e2
        rw [if_neg hno, Nat.add_zero] at e2
        exact ⟨S2, e2, f2⟩
      by_cases h1 : (0 : Int) ≤ (v 8 k : Int) ∧ (v 8 k : Int) < (v 0 0 : Int)
      · rw [if_pos h1]
        by_cases h2 : v 9 k < (beS v 6 (2 ^ v 8 k)).1
        · rw [if_pos ((nI_ltI (by omega) (by omega)).mpr h2)]
          exact skip (by omega)
        · rw [if_neg (fun q => h2 ((nI_ltI (by omega) (by omega)).mp q))]
          obtain ⟨p, a1, a2, -⟩ := be_row hw (w := 2 ^ v 8 k) (cl := 6) (by omega)
          rw [a1] at t7 t9
          obtain ⟨S1, e1, f1⟩ := m_paidAt hN hw a2 hx w6 hr t7 t9
          obtain ⟨S2, e2, f2⟩ := ih (S := S1) (k := k + 1) (rlM_sm0 f1 hr) (tbM_same (fun i hi => f1.1 i (by omega)) ht) (by omega) (by omega)
          unfold tkU tk1 at e2
          rw [if_pos (by omega), a1] at e2
          rw [e1, bd2_s, nI_add]
          exact ⟨S2, e2, sm0_tr f1 f2⟩
      · rw [if_neg h1]
        exact skip (by rw [be_gone hw (by omega)]; omega)
def fM2 (S S' : ST) : Prop := (∀ i, (2 ≤ i ∧ i ≤ 5) ∨ i = 16 → S' i = S i)
theorem fM2_tr {S S1 S2 : ST} (h1 : fM2 S S1) (h2 : fM2 S1 S2) : fM2 S S2 := fun i hi => (h2 i hi).trans (h1 i hi)
theorem m_takesOf {N : Nat} (hN : 400000 ≤ N) {v : VW} (hw : wfV v) {x : Nat} (hx : x < 6) {S : ST} (hr : rlM v (S 1)) : ∃ S', f_X5_takesOf N S (nI x) = some (nI (tkS v x), S') ∧ S' 1 = S 1 ∧ fM2 S S' ∧ S' 0 26 = S 0 26 := by
  have b6 := hw.2.2.2.2.2.2.1
  obtain ⟨S1, e1, t1, f1, f26⟩ := m_goAllX hN hw (cl := 6) (ci := -1) cl_noneM hr
  unfold f_X5_takesOf
  rw [e1, bd1_s]
  obtain ⟨S2, e2, f2⟩ := m_takes_loop hN hw hx N (S := S1) (k := 0) (by rw [f1 1 (by omega)]; exact hr) t1 (Nat.zero_le _) (by omega)
  exact ⟨S2, e2, by rw [f2.1 1 (by decide), f1 1 (by omega)], fun i hi => by rw [f2.1 i (by omega), f1 i (by omega)], by rw [f2.2 26 (by omega), f26]⟩
theorem min_I {a b : Nat} (ha : a < 2 ^ 31) (hb : b < 2 ^ 31) : (if nI a < nI b then nI a else nI b) = nI (min a b) := by
  by_cases h : a < b
  · rw [if_pos ((nI_ltI ha hb).mpr h), Nat.min_eq_left (by omega)]
  · rw [if_neg (fun q => h ((nI_ltI ha hb).mp q)), Nat.min_eq_right (by omega)]
theorem c_takes_loop {N : Nat} (hN : 20 ≤ N) {v : VW} (hw : wfV v) {x : Nat} (hx : x < 6) : ∀ (n : Nat) {S : ST} {k : Nat}, rlC v S 0 → z4 S → k ≤ v 0 6 → v 0 6 < k + n →
    ∃ S', b_X4_takenBy_4 N n S (nI x) (nI (tkU v x k)) (nI k) = some (nI (tkS v x), S') ∧ smF S S' ∧ z4 S' := by
  have n6 := hw.1
  have b6 := hw.2.2.2.2.2.2.1
  have pu := hw.2.2.1
  intro n
  induction n with
  | zero => intro S k _ _ _ h; omega
  | succ n ih =>
    intro S k hr h0 hk hn
    rw [b_X4_takenBy_4, hr.2.2.2.2.2.2.1]
    by_cases he : v 0 6 ≤ k
    · rw [if_pos ((nI_leI (by omega) (by omega)).mpr he), tkS, show v 0 6 = k by omega]
      exact ⟨S, rfl, fun _ _ => rfl, h0⟩
    · have hkk : k < v 0 6 := by omega
      obtain ⟨w6, l99⟩ := hw.2.2.2.2.2.2.2.2.2.2.2 k hkk
      obtain ⟨q8, q9⟩ := hr.2.2.2.2.2.2.2.2.2.2 k hkk
      replace q8 : S 8 k = nI (v 8 k) := q8
      replace q9 : S 9 k = nI (v 9 k) := q9
      have h64 := p2_64 w6
      obtain ⟨S1, e1, f1, z1, u1⟩ := c_find hN hw hr h0 (w := 2 ^ v 8 k) (mo := min (v 0 2) (v 9 k)) (cb := 0) (cl := 6) h64 (by omega) (by decide) cl_none
      replace e1 : f_X1_findCheapest N S (nI (2 ^ v 8 k)) (nI (min (v 0 2) (v 9 k))) 0 = _ := e1
      rw [if_neg (fun q => he ((nI_leI (by omega) (by omega)).mp q)), ck (by omega) (by decide), ck (by omega) (by decide), nI_clamp (by omega), q8, q9, hr.2.2.1, min_I (by omega) (by omega), one_shl (by omega), e1, bd2_s, tf_if]
      obtain ⟨S2, e2, f2, z2⟩ := ih (S := S1) (k := k + 1) (rlC_smF f1 hr) z1 (by omega) (by omega)
      unfold b_X4_takenBy_71
      dsimp only
      rw [nI_1]
      have bt := be_top hw (w := 2 ^ v 8 k) (cl := 6)
      unfold tkU tk1 at e2
      by_cases hb : (beS v 6 (2 ^ v 8 k)).1 ≤ v 9 k
      · have hb' : (beS v 6 (2 ^ v 8 k)).1 ≤ min (v 0 2) (v 9 k) := by omega
        rw [if_pos hb]  at e2
        rw [if_pos hb']
        obtain ⟨p, a1, a2, a3, a4, a5, a6⟩ := u1 hb'
        have l6 := gd_len a2
        rw [a1] at e2
        have e3 : f_X1_paidTo N S1 (nI x) = some (nI (paT v p x p.length), S1) := c_paid_loop N hw a2 hx a4 a6 N (k := 0) (Nat.zero_le _) (by omega) (fun i hi => by omega)
        rw [e3, bd2_s, nI_add]
        exact ⟨S2, e2, smF_tr f1 f2, z2⟩
      · rw [if_neg hb, Nat.add_zero] at e2
        rw [if_neg (by omega)]
        exact ⟨S2, e2, smF_tr f1 f2, z2⟩
theorem c_takenBy {N : Nat} (hN : 20 ≤ N) {v : VW} (hw : wfV v) {x : Nat} (hx : x < 6) {S : ST} (hr : rlC v S 0) (h0 : z4 S) : ∃ S', f_X4_takenBy N S (nI x) = some (nI (tkS v x), S') ∧ smF S S' ∧ z4 S' := by
  have b6 := hw.2.2.2.2.2.2.1
  exact c_takes_loop hN hw hx N (k := 0) hr h0 (Nat.zero_le _) (by omega)
-- takes
theorem st_takes {N : Nat} (hN : 400000 ≤ N) (x : Int32) : StI Rl (fun S => f_X4_takes N S x) (fun S => f_X5_takes N S x) := by
  rintro SC SM ⟨v, v1, v2, k0, k1, r, w0, w1, w2, w3, w4, hC, hM⟩
  have n6 := w0.1
  simp only [f_X4_takes, f_X5_takes, c_hasShop N SC x hC.1.1 n6, m_isShop N SM x hM.1.1 n6, bd2_s, tf_if, c_bad, m_bad]
  by_cases h : 0 ≤ x.toInt ∧ x.toInt < (v 0 0 : Int)
  · rw [if_pos h, if_pos h]
    obtain ⟨s, hs, rfl⟩ := of_rng (x := x) (m := 5) (by omega) (by decide)
    obtain ⟨S1, e1, f1, z1⟩ := c_takenBy (N := N) (by omega) w0 (x := s) (by omega) hC.1 hC.2.2.2.2.2.2
    obtain ⟨T1, d1, g1, m1, -⟩ := m_takesOf hN w0 (x := s) (by omega) hM.1
    rw [e1, bd2_s, d1, bd2_s]
    exact ⟨_, _, _, rfl, rfl, v, v1, v2, k0, k1, _, w0, w1, w2, w3, w4, RC_f f1 z1 hC, RM_v (by rw [g1]; exact hM.1) (fun i hi => m1 i (by omega)) hM⟩
  · rw [if_neg h, if_neg h]
    exact ⟨_, _, _, rfl, rfl, v, v1, v2, k0, k1, _, w0, w1, w2, w3, w4, RC_ref hC (by decide), RM_ref hM (by decide)⟩
