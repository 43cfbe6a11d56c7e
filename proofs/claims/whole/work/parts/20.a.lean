-- asks
theorem wf_pr {v : VW} (hw : wfV v) {s q : Nat} (hq : q ≤ 20) : wfV (sv v 2 s q) := by
  obtain ⟨a1, a2, a3, a4, a5, a6, a7, a8, a9, b1, b2, b3⟩ := hw
  refine ⟨a1, a2, a3, a4, a5, a6, a7, fun i hi => ?_, a9, b1, b2, b3⟩
  obtain ⟨c1, c2, c3, c4, c5⟩ := a8 i hi
  refine ⟨c1, ?_, c3, c4, c5⟩
  unfold sv
  split
  · exact hq
  · exact c2
theorem n20 {b : Nat} : 2 ≠ 0 ∨ (b ≠ 0 ∧ b ≠ 4 ∧ b ≠ 5 ∧ b ≠ 6) := Or.inl (by decide)
theorem s2M {s : Nat} : 4 * s + 1 = slM 2 s := by unfold slM; simp
theorem sl2 (s : Nat) : (0 + ((4 : Int32) * nI s)) + 1 = nI (4 * s + 1) := by
  rw [show (0 : Int32) = nI 0 from rfl, show (4 : Int32) = nI 4 from rfl, pk_mul, nI_add, nI_1, Nat.zero_add]
def tkP (v : VW) (s k : Nat) : Nat := tkS (sv v 2 s k) s
def bsS (v : VW) (s : Nat) : Nat → Nat
  | 0 => 0
  | k + 1 => if tkP v s k ≤ tkP v s (bsS v s k) then bsS v s k else k
theorem bs_le (v : VW) (s : Nat) : ∀ k, bsS v s k ≤ k - 1 := by
  intro k
  induction k with
  | zero => exact Nat.le_refl _
  | succ k ih =>
    unfold bsS
    split <;> omega
theorem tkP_le {v : VW} (hw : wfV v) {s k : Nat} (hk : k ≤ 20) : tkP v s k ≤ 180 := tkS_le (wf_pr hw hk)
theorem m_ask_loop {N : Nat} (hN : 400000 ≤ N) {v : VW} (hw : wfV v) {s : Nat} (hs : s < v 0 0) : ∀ (n : Nat) {S : ST} {k q : Nat}, q ≤ 20 → rlM (sv v 2 s q) (S 1) → k ≤ 21 → 21 < k + n → ((k = 0 ∧ S 0 26 = -1) ∨ (1 ≤ k ∧ S 0 26 = nI (tkP v s (bsS v s k)))) →
    ∃ S', b_X5_asksOf_17 N n S (nI s) (nI (v 2 s)) (nI (bsS v s k)) (nI k) = some (nI (bsS v s 21), S') ∧ rlM v (S' 1) ∧ S' 0 26 = nI (tkP v s (bsS v s 21)) ∧ fM2 S S' := by
  have n6 := hw.1
  intro n
  induction n with
  | zero => intro S k q _ _ _ h; omega
  | succ n ih =>
    intro S k q hq hr hk hn hc
    have wq := wf_pr hw (s := s) hq
    rw [b_X5_asksOf_17, sl2, show (20 : Int32) = nI 20 from rfl]
    by_cases he : 20 < k
    · rw [if_pos ((nI_ltI (by omega) (by omega)).mpr he), ck (by omega) (by decide), nm_s, nI_clamp (by omega), show k = 21 by omega]
      refine ⟨_, rfl, ?_, ?_, fun i hi => us_n _ _ _ _ (by omega)⟩
      · rw [us_r]
        have := rlM_sv wq hr (a := 2) (b := s) (by decide) (by show s < 6; omega) (v 2 s) n20 (k := 4 * s + 1) s2M rfl
        rw [sv_sv, sv_id v 2 s rfl] at this
        exact this
      · rw [us_n _ _ _ _ (by decide)]
        rcases hc with ⟨h, -⟩ | ⟨-, h⟩
        · omega
        · rw [show k = 21 by omega] at h; exact h
    · have wk := wf_pr hw (s := s) (q := k) (by omega)
      have hr1 : rlM (sv v 2 s k) (us S 1 (4 * s + 1) (nI k) 1) := by
        rw [us_r]
        have := rlM_sv wq hr (a := 2) (b := s) (by decide) (by show s < 6; omega) k n20 (k := 4 * s + 1) s2M rfl
        rw [sv_sv] at this
        exact this
      obtain ⟨S1, e1, g1, f1, h1⟩ := m_takesOf hN wk (x := s) (by omega) hr1
      rw [us_n _ _ _ _ (by decide)] at h1
      have r1 : rlM (sv v 2 s k) (S1 1) := by rw [g1]; exact hr1
      have fr1 : fM2 S S1 := fun i hi => by rw [f1 i hi, us_n _ _ _ _ (by omega)]
      rw [if_neg (fun z => he ((nI_ltI (by omega) (by omega)).mp z)), ck (by omega) (by decide), nm_s, nI_clamp (by omega), e1, bd2_s, show tkS (sv v 2 s k) s = tkP v s k from rfl, h1]
      have hle := tkP_le hw (s := s) (k := k) (by omega)
      have hb := bs_le v s k
      have hle2 := tkP_le hw (s := s) (k := bsS v s k) (by omega)
      unfold b_X5_asksOf_60 b_X5_asksOf_80
      simp only [nm_s]
      rw [h1, nI_1]
      have go : ∀ {y : Int32} {b : Nat}, b = bsS v s (k + 1) → y = nI (tkP v s (bsS v s (k + 1))) → ∃ S', b_X5_asksOf_17 N n (us S1 0 26 y) (nI s) (nI (v 2 s)) (nI b) (nI (k + 1)) = some (nI (bsS v s 21), S') ∧ rlM v (S' 1) ∧ S' 0 26 = nI (tkP v s (bsS v s 21)) ∧ fM2 S S' := by
        intro y b hb1 hy
        subst hb1
        obtain ⟨S2, e2, r2, h2, f2⟩ := ih (S := us S1 0 26 y) (k := k + 1) (q := k) (by omega) (by rw [us_n _ _ _ _ (by decide)]; exact r1) (by omega) (by omega) (Or.inr ⟨by omega, by rw [us_s]; exact hy⟩)
        exact ⟨S2, e2, r2, h2, fM2_tr fr1 (fM2_tr (fun i hi => us_n _ _ _ _ (by omega)) f2)⟩
      have eb : bsS v s (k + 1) = if tkP v s k ≤ tkP v s (bsS v s k) then bsS v s k else k := rfl
      rcases hc with ⟨h0, h26⟩ | ⟨hk1, h26⟩
      · subst h0
        rw [h26, if_neg (show ¬ nI (tkP v s 0) ≤ -1 from fun z => by rw [i_le, nt (by omega), show (-1 : Int32).toInt = -1 from rfl] at z; omega), if_neg (show ¬ nI (tkP v s 0) ≤ -1 from fun z => by rw [i_le, nt (by omega), show (-1 : Int32).toInt = -1 from rfl] at z; omega)]
        have : bsS v s (0 + 1) = 0 := by rw [eb]; split <;> rfl
        exact go this.symm (by rw [this])
      · rw [h26]
        by_cases hq2 : tkP v s k ≤ tkP v s (bsS v s k)
        · have hl := (nI_leI (a := tkP v s k) (b := tkP v s (bsS v s k)) (by omega) (by omega)).mpr hq2
          rw [if_pos hl, if_pos hl]
          rw [if_pos hq2] at eb
          exact go eb.symm (by rw [eb])
        · have hl : ¬ nI (tkP v s k) ≤ nI (tkP v s (bsS v s k)) := fun z => hq2 ((nI_leI (by omega) (by omega)).mp z)
          rw [if_neg hl, if_neg hl]
          rw [if_neg hq2] at eb
          exact go eb.symm (by rw [eb])
theorem m_asksOf {N : Nat} (hN : 400000 ≤ N) {v : VW} (hw : wfV v) {s : Nat} (hs : s < v 0 0) {S : ST} (hr : rlM v (S 1)) : ∃ S', f_X5_asksOf N S (nI s) = some (nI (bsS v s 21), S') ∧ rlM v (S' 1) ∧ S' 0 26 = nI (tkP v s (bsS v s 21)) ∧ fM2 S S' := by
  have h20 := (hw.2.2.2.2.2.2.2.1 s hs).2.1
  unfold f_X5_asksOf
  rw [m_price1 N hw hr hs, bd2_s, nm_s]
  obtain ⟨S2, e2, r2, h2, f2⟩ := m_ask_loop hN hw hs N (S := us S 0 26 (-1)) (k := 0) (q := v 2 s) h20 (by rw [us_n _ _ _ _ (by decide), sv_id v 2 s rfl]; exact hr) (by omega) (by omega) (Or.inl ⟨rfl, us_s _ _ _ _⟩)
  exact ⟨S2, e2, r2, h2, fM2_tr (fun i hi => us_n _ _ _ _ (by omega)) f2⟩
def fC2 (S S' : ST) : Prop := ∀ i, (i ≠ 2 ∧ (i < 41 ∨ (48 < i ∧ i ≠ 54))) → S' i = S i
theorem fC2_tr {S S1 S2 : ST} (h1 : fC2 S S1) (h2 : fC2 S1 S2) : fC2 S S2 := fun i hi => (h2 i hi).trans (h1 i hi)
theorem z4_n {S : ST} {n k : Nat} {x : Int32} (hn : n < 42 ∨ 45 < n) (h : z4 S) : z4 (us S n k x) := by
  unfold z4
  rw [us_n _ _ _ _ (by omega), us_n _ _ _ _ (by omega), us_n _ _ _ _ (by omega), us_n _ _ _ _ (by omega)]
  exact h
theorem c_ask_loop {N : Nat} (hN : 20 ≤ N) {v : VW} (hw : wfV v) {s : Nat} (hs : s < v 0 0) : ∀ (n : Nat) {S : ST} {k q : Nat}, q ≤ 20 → rlC (sv v 2 s q) S 0 → z4 S → k ≤ 21 → 21 < k + n → (∀ j, j < k → S 54 j = nI (tkP v s j)) →
    ∃ S', b_X4_bestPrice_15 N n S (nI s) (nI (v 2 s)) (nI (bsS v s k)) (nI k) = some (nI (bsS v s 21), S') ∧ rlC v S' 0 ∧ z4 S' ∧ (∀ j, j < 21 → S' 54 j = nI (tkP v s j)) ∧ fC2 S S' := by
  have n6 := hw.1
  intro n
  induction n with
  | zero => intro S k q _ _ _ _ h; omega
  | succ n ih =>
    intro S k q hq hr h0 hk hn hc
    have wq := wf_pr hw (s := s) hq
    rw [b_X4_bestPrice_15, show (20 : Int32) = nI 20 from rfl]
    by_cases he : 20 < k
    · rw [if_pos ((nI_ltI (by omega) (by omega)).mpr he), ck (by omega) (by decide), nm_s, nI_clamp (by omega), show k = 21 by omega]
      refine ⟨_, rfl, ?_, z4_n (by omega) h0, fun j hj => ?_, fun i hi => us_n _ _ _ _ (by omega)⟩
      · have := rlC_sv wq hr (a := 2) (b := s) (by decide) (by show s < 6; omega) (v 2 s) n20 (m := 2) (k := s) rfl rfl rfl
        rw [sv_sv, sv_id v 2 s rfl] at this
        exact this
      · rw [us_n _ _ _ _ (by decide)]
        exact hc j (by omega)
    · have wk := wf_pr hw (s := s) (q := k) (by omega)
      have hr1 : rlC (sv v 2 s k) (us S 2 s (nI k)) 0 := by
        have := rlC_sv wq hr (a := 2) (b := s) (by decide) (by show s < 6; omega) k n20 (m := 2) (k := s) rfl rfl rfl
        rw [sv_sv] at this
        exact this
      obtain ⟨S1, e1, f1, z1⟩ := c_takenBy hN wk (x := s) (by omega) hr1 (z4_n (by omega) h0)
      have r1 := rlC_smF f1 hr1
      have hb := bs_le v s k
      have i21 := ixo (k := k) (L := 21) (by omega) (by decide)
      have i21b := ixo (k := bsS v s k) (L := 21) (by omega) (by decide)
      rw [if_neg (fun z => he ((nI_ltI (by omega) (by omega)).mp z)), ck (by omega) (by decide), nm_s, nI_clamp (show s < 2 ^ 31 by omega), e1, bd2_s]
      simp only [if_neg i21, if_neg i21b, nm_s]
      rw [nI_clamp (show k < 2 ^ 31 by omega), nI_clamp (show bsS v s k < 2 ^ 31 by omega), us_s, show tkS (sv v 2 s k) s = tkP v s k from rfl]
      have hle := tkP_le hw (s := s) (k := k) (by omega)
      have hle2 := tkP_le hw (s := s) (k := bsS v s k) (by omega)
      have h54 : ∀ j, j < k + 1 → us S1 54 k (nI (tkP v s k)) 54 j = nI (tkP v s j) := by
        intro j hj
        by_cases e : j = k
        · rw [e, us_s]
        · rw [us_k _ _ _ _ e, f1 54 (by omega), us_n _ _ _ _ (by decide)]
          exact hc j (by omega)
      obtain ⟨S2, e2, r2, z2, h2, f2⟩ := ih (S := us S1 54 k (nI (tkP v s k))) (k := k + 1) (q := k) (by omega) (rlC_us r1 (fun j hj => by omega) _ _) (z4_n (by omega) z1) (by omega) (by omega) h54
      have fr : fC2 S S2 := fC2_tr (fun i hi => by rw [us_n _ _ _ _ (by omega), f1 i (by omega), us_n _ _ _ _ (by omega)]) f2
      unfold b_X4_bestPrice_64
      dsimp only
      rw [nI_1]
      have eb : bsS v s (k + 1) = if tkP v s k ≤ tkP v s (bsS v s k) then bsS v s k else k := rfl
      have h54b := h54 (bsS v s k) (by omega)
      rw [h54b]
      by_cases hq2 : tkP v s k ≤ tkP v s (bsS v s k)
      · rw [if_pos ((nI_leI (by omega) (by omega)).mpr hq2)]
        rw [eb, if_pos hq2] at e2
        exact ⟨S2, e2, r2, z2, h2, fr⟩
      · rw [if_neg (fun z => hq2 ((nI_leI (by omega) (by omega)).mp z))]
        rw [eb, if_neg hq2] at e2
        exact ⟨S2, e2, r2, z2, h2, fr⟩
theorem c_bestPrice {N : Nat} (hN : 400000 ≤ N) {v : VW} (hw : wfV v) {s : Nat} (hs : s < v 0 0) {S : ST} (hr : rlC v S 0) (h0 : z4 S) : ∃ S', f_X4_bestPrice N S (nI s) = some (nI (bsS v s 21), S') ∧ rlC v S' 0 ∧ z4 S' ∧ (∀ j, j < 21 → S' 54 j = nI (tkP v s j)) ∧ fC2 S S' := by
  have n6 := hw.1
  have h20 := (hw.2.2.2.2.2.2.2.1 s hs).2.1
  unfold f_X4_bestPrice
  rw [ck (by omega) (by decide), nI_clamp (by omega), (c_kind hr hs).2.1]
  exact c_ask_loop (N := N) (by omega) hw hs N (S := S) (k := 0) (q := v 2 s) h20 (by rw [sv_id v 2 s rfl]; exact hr) h0 (by omega) (by omega) (fun j hj => by omega)
theorem RC_2 {v v' v1 v2 : VW} {k0 k1 : Nat} {r : Nat → Int32} {S S' : ST} (h1 : rlC v' S' 0) (h0 : z4 S') (h : fC2 S S') (hC : RC v v1 v2 k0 k1 r S) : RC v' v1 v2 k0 k1 r S' := RC_v h1 (fun i hi => h i (by omega)) h0 hC
theorem RM_2 {v v' v1 v2 : VW} {k0 k1 : Nat} {r : Nat → Int32} {S S' : ST} (h1 : rlM v' (S' 1)) (h : fM2 S S') (hM : RM v v1 v2 k0 k1 r S) : RM v' v1 v2 k0 k1 r S' := RM_v h1 (fun i hi => h i (by omega)) hM
theorem st_asks {N : Nat} (hN : 400000 ≤ N) (x : Int32) : StI Rl (fun S => f_X4_asks N S x) (fun S => f_X5_asks N S x) := by
  rintro SC SM ⟨v, v1, v2, k0, k1, r, w0, w1, w2, w3, w4, hC, hM⟩
  have n6 := w0.1
  simp only [f_X4_asks, f_X5_asks, c_hasShop N SC x hC.1.1 n6, m_isShop N SM x hM.1.1 n6, bd2_s, tf_if, c_bad, m_bad]
  by_cases h : 0 ≤ x.toInt ∧ x.toInt < (v 0 0 : Int)
  · rw [if_pos h, if_pos h]
    obtain ⟨s, hs, rfl⟩ := of_rng (x := x) (m := 5) (by omega) (by decide)
    rw [nt (by omega)] at h
    obtain ⟨S1, e1, r1, z1, -, f1⟩ := c_bestPrice hN w0 (s := s) (by omega) hC.1 hC.2.2.2.2.2.2
    obtain ⟨T1, d1, q1, -, m1⟩ := m_asksOf hN w0 (s := s) (by omega) hM.1
    rw [e1, bd2_s, d1, bd2_s]
    exact ⟨_, _, _, rfl, rfl, v, v1, v2, k0, k1, _, w0, w1, w2, w3, w4, RC_2 r1 z1 f1 hC, RM_2 q1 m1 hM⟩
  · rw [if_neg h, if_neg h]
    exact ⟨_, _, _, rfl, rfl, v, v1, v2, k0, k1, _, w0, w1, w2, w3, w4, RC_ref hC (by decide), RM_ref hM (by decide)⟩
-- changes: one round
def chg (v : VW) (s : Nat) : VW := if tkP v s (bsS v s 21) ≤ tkS v s then v else sv v 2 s (bsS v s 21)
def rdV (v : VW) : Nat → VW
  | 0 => v
  | k + 1 => chg (rdV v k) k
def rdC (v : VW) : Nat → Nat
  | 0 => 0
  | k + 1 => if tkP (rdV v k) k (bsS (rdV v k) k 21) ≤ tkS (rdV v k) k then rdC v k else 1
theorem rdC_01 (v : VW) : ∀ k, rdC v k ≤ 1 := by
  intro k
  induction k with
  | zero => exact Nat.zero_le _
  | succ k ih => unfold rdC; split <;> omega
-- a street with other prices
def oth (v u : VW) : Prop := ∀ i j, i ≠ 2 → u i j = v i j
theorem chg_ok {v : VW} (hw : wfV v) (s : Nat) : wfV (chg v s) ∧ oth v (chg v s) := by
  have := bs_le v s 21
  unfold chg
  split
  · exact ⟨hw, fun _ _ _ => rfl⟩
  · exact ⟨wf_pr hw (by omega), fun i j h => sv_i _ _ _ _ h⟩
theorem rd_ok {v : VW} (hw : wfV v) : ∀ k, wfV (rdV v k) ∧ oth v (rdV v k) := by
  intro k
  induction k with
  | zero => exact ⟨hw, fun _ _ _ => rfl⟩
  | succ k ih =>
    have := chg_ok ih.1 k
    exact ⟨this.1, fun i j h => (this.2 i j h).trans (ih.2 i j h)⟩
theorem m_round_loop {N : Nat} (hN : 400000 ≤ N) {v : VW} (hw : wfV v) : ∀ (n : Nat) {S : ST} {k : Nat}, rlM (rdV v k) (S 1) → k ≤ v 0 0 → v 0 0 < k + n →
    ∃ S', b_X5_changeAll_4 N n S (nI (rdC v k)) (nI k) = some (nI (rdC v (v 0 0)), S') ∧ rlM (rdV v (v 0 0)) (S' 1) ∧ fM2 S S' := by
  have n6 := hw.1
  intro n
  induction n with
  | zero => intro S k _ _ h; omega
  | succ n ih =>
    intro S k hr hk hn
    obtain ⟨wk, ok⟩ := rd_ok hw k
    have e00 : rdV v k 0 0 = v 0 0 := ok 0 0 (by decide)
    have c01 := rdC_01 v k
    rw [b_X5_changeAll_4, f_X5_shops, bd2_s, hr.1, e00]
    by_cases he : v 0 0 ≤ k
    · have e : v 0 0 = k := by omega
      rw [if_pos ((nI_leI (by omega) (by omega)).mpr he), if_pos, e]
      · exact ⟨S, rfl, hr, fun _ _ => rfl⟩
      · rcases (show rdC v k = 0 ∨ rdC v k = 1 by omega) with z | z <;> rw [z]
        · exact Or.inl rfl
        · exact Or.inr rfl
    · have hkn : k < rdV v k 0 0 := by rw [e00]; omega
      obtain ⟨S1, e1, g1, f1, -⟩ := m_takesOf hN wk (x := k) (by omega) hr
      have r1 : rlM (rdV v k) (S1 1) := by rw [g1]; exact hr
      obtain ⟨S2, e2, r2, h2, f2⟩ := m_asksOf hN wk hkn r1
      rw [if_neg (fun z => he ((nI_leI (by omega) (by omega)).mp z)), e1, bd2_s, e2, bd2_s, h2]
      have hb := bs_le (rdV v k) k 21
      have t1 := tkP_le wk (s := k) (k := bsS (rdV v k) k 21) (by omega)
      have t2 := tkS_le wk (x := k)
      have fr : fM2 S S2 := fM2_tr f1 f2
      have eV : rdV v (k + 1) = if tkP (rdV v k) k (bsS (rdV v k) k 21) ≤ tkS (rdV v k) k then rdV v k else sv (rdV v k) 2 k (bsS (rdV v k) k 21) := rfl
      have eC : rdC v (k + 1) = if tkP (rdV v k) k (bsS (rdV v k) k 21) ≤ tkS (rdV v k) k then rdC v k else 1 := rfl
      unfold b_X5_changeAll_38 b_X5_changeAll_67 b_X5_changeAll_77 b_X5_changeAll_82
      simp only [if_neg (show ¬ (1 : Int32) = 0 by decide), ↓reduceIte, nm_s]
      rw [sl2, m_price1 N wk r2 hkn, bd2_s, ck (by omega) (by decide), ck (by omega) (by decide), nI_clamp (by omega), nI_1]
      have k6 : k < 6 := by omega
      by_cases hq : tkP (rdV v k) k (bsS (rdV v k) k 21) ≤ tkS (rdV v k) k
      · rw [if_pos ((nI_leI (by omega) (by omega)).mpr hq)]
        rw [if_pos hq] at eV eC
        have r3 : rlM (rdV v (k + 1)) (us S2 1 (4 * k + 1) (nI (rdV v k 2 k)) 1) := by
          rw [eV, us_r]
          have := rlM_sv wk r2 (a := 2) (b := k) (by decide) (by show k < 6; omega) (rdV v k 2 k) n20 (k := 4 * k + 1) s2M rfl
          rw [sv_id _ 2 k rfl] at this
          exact this
        obtain ⟨S3, e3, r3', f3⟩ := ih (k := k + 1) r3 (by omega) (by omega)
        rw [eC] at e3
        have fr3 : fM2 S S3 := fM2_tr fr (fM2_tr (fun i hi => us_n _ _ _ _ (by omega)) f3)
        rcases (show rdC v k = 0 ∨ rdC v k = 1 by omega) with z | z
        · rw [z] at e3 ⊢
          rw [if_pos (show nI 0 = 0 from rfl)]
          exact ⟨S3, e3, r3', fr3⟩
        · rw [z] at e3 ⊢
          rw [if_neg (show ¬ nI 1 = 0 by decide)]
          exact ⟨S3, e3, r3', fr3⟩
      · rw [if_neg (fun z => hq ((nI_leI (by omega) (by omega)).mp z))]
        rw [if_neg hq] at eV eC
        have r3 : rlM (rdV v (k + 1)) (us S2 1 (4 * k + 1) (nI (bsS (rdV v k) k 21)) 1) := by
          rw [eV, us_r]
          exact rlM_sv wk r2 (a := 2) (b := k) (by decide) (by show k < 6; omega) _ n20 (k := 4 * k + 1) s2M rfl
        obtain ⟨S3, e3, r3', f3⟩ := ih (k := k + 1) r3 (by omega) (by omega)
        rw [eC] at e3
        have fr3 : fM2 S S3 := fM2_tr fr (fM2_tr (fun i hi => us_n _ _ _ _ (by omega)) f3)
        rw [ite_self]
        exact ⟨S3, e3, r3', fr3⟩
theorem c_round_loop {N : Nat} (hN : 400000 ≤ N) {v : VW} (hw : wfV v) : ∀ (n : Nat) {S : ST} {k : Nat}, rlC (rdV v k) S 0 → z4 S → k ≤ v 0 0 → v 0 0 < k + n →
    ∃ S', b_X4_roundChanges_4 N n S (nI (rdC v k)) (nI k) = some (nI (rdC v (v 0 0)), S') ∧ rlC (rdV v (v 0 0)) S' 0 ∧ z4 S' ∧ fC2 S S' := by
  have n6 := hw.1
  intro n
  induction n with
  | zero => intro S k _ _ _ h; omega
  | succ n ih =>
    intro S k hr h0 hk hn
    obtain ⟨wk, ok⟩ := rd_ok hw k
    have e00 : rdV v k 0 0 = v 0 0 := ok 0 0 (by decide)
    have c01 := rdC_01 v k
    rw [b_X4_roundChanges_4, hr.1, e00]
    by_cases he : v 0 0 ≤ k
    · have e : v 0 0 = k := by omega
      rw [if_pos ((nI_leI (by omega) (by omega)).mpr he), if_pos, e]
      · exact ⟨S, rfl, hr, h0, fun _ _ => rfl⟩
      · rcases (show rdC v k = 0 ∨ rdC v k = 1 by omega) with z | z <;> rw [z]
        · exact Or.inl rfl
        · exact Or.inr rfl
    · have hkn : k < rdV v k 0 0 := by rw [e00]; omega
      have h20 := (wk.2.2.2.2.2.2.2.1 k hkn).2.1
      obtain ⟨S1, e1, r1, z1, h54, f1⟩ := c_bestPrice hN wk hkn hr h0
      have hb := bs_le (rdV v k) k 21
      have i6 := ixo (k := k) (L := 6) (by omega) (by decide)
      have i21 := ixo (k := bsS (rdV v k) k 21) (L := 21) (by omega) (by decide)
      rw [if_neg (fun z => he ((nI_leI (by omega) (by omega)).mp z)), e1, bd2_s]
      simp only [if_neg i6, if_neg i21]
      rw [nI_clamp (show k < 2 ^ 31 by omega), nI_clamp (show bsS (rdV v k) k 21 < 2 ^ 31 by omega), (c_kind r1 hkn).2.1, ck (by omega) (by decide), nI_clamp (by omega), h54 _ (by omega), h54 _ (by omega)]
      have t1 := tkP_le wk (s := k) (k := bsS (rdV v k) k 21) (by omega)
      have et : tkP (rdV v k) k (rdV v k 2 k) = tkS (rdV v k) k := by unfold tkP; rw [sv_id _ 2 k rfl]
      have t2 := tkS_le wk (x := k)
      rw [et]
      have eV : rdV v (k + 1) = if tkP (rdV v k) k (bsS (rdV v k) k 21) ≤ tkS (rdV v k) k then rdV v k else sv (rdV v k) 2 k (bsS (rdV v k) k 21) := rfl
      have eC : rdC v (k + 1) = if tkP (rdV v k) k (bsS (rdV v k) k 21) ≤ tkS (rdV v k) k then rdC v k else 1 := rfl
      unfold b_X4_roundChanges_56
      simp only [nm_s]
      rw [nI_1]
      by_cases hq : tkP (rdV v k) k (bsS (rdV v k) k 21) ≤ tkS (rdV v k) k
      · rw [if_pos ((nI_leI (by omega) (by omega)).mpr hq)]
        rw [if_pos hq] at eV eC
        obtain ⟨S3, e3, r3, z3, f3⟩ := ih (S := S1) (k := k + 1) (by rw [eV]; exact r1) z1 (by omega) (by omega)
        rw [eC] at e3
        exact ⟨S3, e3, r3, z3, fC2_tr f1 f3⟩
      · rw [if_neg (fun z => hq ((nI_leI (by omega) (by omega)).mp z))]
        rw [if_neg hq] at eV eC
        have r2 : rlC (rdV v (k + 1)) (us S1 2 k (nI (bsS (rdV v k) k 21))) 0 := by
          rw [eV]
          exact rlC_sv wk r1 (a := 2) (b := k) (by decide) (by show k < 6; omega) _ n20 rfl rfl rfl
        obtain ⟨S3, e3, r3, z3, f3⟩ := ih (k := k + 1) r2 (z4_n (by omega) z1) (by omega) (by omega)
        rw [eC] at e3
        exact ⟨S3, e3, r3, z3, fC2_tr f1 (fC2_tr (fun i hi => us_n _ _ _ _ (by omega)) f3)⟩
