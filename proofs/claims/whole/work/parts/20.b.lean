-- changes
theorem cp_o (S : ST) (q0 q1 sp dp n : Nat) {i : Nat} (h : i ≠ q1) : cpS S q0 q1 sp dp n i = S i := if_neg h
theorem cp_e (S : ST) (q0 q1 n : Nat) {j : Nat} (h : j < n) : cpS S q0 q1 0 0 n q1 j = S q0 j := by
  unfold cpS va_cpy
  rw [if_pos rfl]
  simp [h]
def rsV (u v : VW) (k : Nat) : VW := fun i j => if i = 2 ∧ j < k then v i j else u i j
theorem rs_0 (u v : VW) : rsV u v 0 = u := by
  funext i j
  unfold rsV
  rw [if_neg (by omega)]
theorem rs_s (u v : VW) (k : Nat) : sv (rsV u v k) 2 k (v 2 k) = rsV u v (k + 1) := by
  funext i j
  unfold sv rsV
  by_cases h : i = 2 ∧ j = k
  · rw [if_pos h, if_pos (by omega), h.1, h.2]
  · rw [if_neg h]
    by_cases h2 : i = 2 ∧ j < k
    · rw [if_pos h2, if_pos (by omega)]
    · rw [if_neg h2, if_neg (by omega)]
theorem lim_oth {v u : VW} (h : oth v u) : lim u = lim v := by
  funext i
  unfold lim
  rw [h 0 0 (by decide), h 0 4 (by decide), h 0 5 (by decide), h 0 6 (by decide)]
theorem m_back_loop (N : Nat) {v u : VW} (hw : wfV v) (ho : oth v u) (x3 x4 : Int32) : ∀ (n : Nat) {S : ST} {k : Nat}, rM (lim v) (rsV u v k) (S 1) → (∀ i, i < v 0 0 → S 16 i = nI (v 2 i)) → k ≤ v 0 0 → v 0 0 < k + n →
    ∃ S', b_X5_changes_93 N n S x3 x4 (nI k) = some (if x3 = 0 then x4 else -1, S') ∧ rlM v (S' 1) ∧ fM2 S S' := by
  have n6 := hw.1
  intro n
  induction n with
  | zero => intro S k _ _ _ h; omega
  | succ n ih =>
    intro S k hr h16 hk hn
    have e00 : S 1 259 = nI (v 0 0) := by
      have := hr 0 0 (by decide) (by show 0 < 7; decide)
      rw [show rsV u v k 0 0 = v 0 0 by unfold rsV; rw [if_neg (by omega)]; exact ho 0 0 (by decide)] at this
      exact this
    rw [b_X5_changes_93, f_X5_shops, bd2_s, e00]
    by_cases he : v 0 0 ≤ k
    · rw [if_pos ((nI_leI (by omega) (by omega)).mpr he)]
      refine ⟨S, ?_, ?_, fun _ _ => rfl⟩
      · split <;> rfl
      · refine rM_to (fun i j hi hj => ?_)
        rw [hr i j hi hj]
        unfold rsV
        by_cases h2 : i = 2 ∧ j < k
        · rw [if_pos h2]
        · rw [if_neg h2]
          by_cases hi2 : i = 2
          · subst hi2
            have : j < v 0 0 := hj
            omega
          · rw [ho i j hi2]
    · rw [if_neg (fun z => he ((nI_leI (by omega) (by omega)).mp z)), sl2, ck (by omega) (by decide), ck (by omega) (by decide), nm_s, nI_clamp (by omega), nI_clamp (by omega), h16 k (by omega), nI_1]
      have r1 : rM (lim v) (rsV u v (k + 1)) (us S 1 (4 * k + 1) (nI (v 2 k)) 1) := by
        rw [us_r, ← rs_s]
        exact rM_sv hr (a := 2) (b := k) (by decide) (by show k < 6; omega) (v 2 k) (fun i _ => lim_cap hw i) (fun i j _ hj => Or.inl hj) s2M rfl
      obtain ⟨S2, e2, r2, f2⟩ := ih (k := k + 1) r1 (fun i hi => by rw [us_n _ _ _ _ (by decide)]; exact h16 i hi) (by omega) (by omega)
      exact ⟨S2, e2, r2, fM2_tr (fun i hi => us_n _ _ _ _ (by omega)) f2⟩
theorem c_back {v u : VW} (ho : oth v u) {S : ST} (hr : rlC u S 0) (h0 : z4 S) (h55 : ∀ i, i < 6 → i < v 0 0 → S 55 i = nI (v 2 i)) (h6 : v 0 0 ≤ 6) : rlC v (cpS S 55 2 0 0 6) 0 ∧ z4 (cpS S 55 2 0 0 6) ∧ fC2 S (cpS S 55 2 0 0 6) := by
  refine ⟨rC_to (fun i j hi hj => ?_), ?_, fun i hi => cp_o _ _ _ _ _ _ hi.1⟩
  · by_cases h2 : i = 2
    · subst h2
      have hj' : j < v 0 0 := hj
      show cpS S 55 2 0 0 6 2 j = _
      rw [cp_e _ _ _ _ (by omega)]
      exact h55 j (by omega) hj'
    · rw [cp_o _ _ _ _ _ _ (show 0 + i ≠ 2 by omega), ← ho i j h2]
      exact rC_of hr i j hi (by rw [lim_oth ho]; exact hj)
  · unfold z4
    rw [cp_o _ _ _ _ _ _ (by decide), cp_o _ _ _ _ _ _ (by decide), cp_o _ _ _ _ _ _ (by decide), cp_o _ _ _ _ _ _ (by decide)]
    exact h0
theorem ch_end {N : Nat} (hN : 400000 ≤ N) {v u : VW} (hw : wfV v) (wu : wfV u) (ho : oth v u) {x1 : Int32} (hx : x1 = -1 ∨ ∃ s, s < v 0 0 ∧ x1 = nI s) (x2 x3 : Int32) {SC SM : ST} (rc : rlC u SC 0) (h0 : z4 SC) (rm : rlM u (SM 1)) (h55 : ∀ i, i < 6 → i < v 0 0 → SC 55 i = nI (v 2 i)) (h16 : ∀ i, i < v 0 0 → SM 16 i = nI (v 2 i)) :
    ∃ r SC' SM', b_X4_changes_68 N SC x1 x2 x3 = some (r, SC') ∧ b_X5_changes_73 N SM x1 x2 x3 = some (r, SM') ∧ rlC v SC' 0 ∧ z4 SC' ∧ rlM v (SM' 1) ∧ fC2 SC SC' ∧ fM2 SM SM' := by
  have n6 := hw.1
  obtain ⟨q1, q2, q3⟩ := c_back ho rc h0 h55 n6
  have rm0 : rM (lim v) (rsV u v 0) (SM 1) := by rw [rs_0, ← lim_oth ho]; exact rM_of rm
  unfold b_X4_changes_68 b_X5_changes_73 b_X4_changes_86 b_X5_changes_88
  simp only [nm_s]
  rcases hx with rfl | ⟨s, hs, rfl⟩
  · obtain ⟨T, d, r2, f2⟩ := m_back_loop N hw ho x3 x2 N (S := SM) (k := 0) rm0 h16 (Nat.zero_le _) (by omega)
    replace d : b_X5_changes_93 N N SM x3 x2 0 = _ := d
    simp only [if_pos (show (-1 : Int32) = -1 from rfl), ↓reduceIte]
    rw [d]
    refine ⟨if x3 = 0 then x2 else -1, _, T, ?_, rfl, q1, q2, r2, q3, f2⟩
    split <;> rfl
  · have hsu : s < u 0 0 := by rw [ho 0 0 (by decide)]; exact hs
    obtain ⟨T, d, r2, f2⟩ := m_back_loop N hw ho x3 (nI (u 2 s)) N (S := SM) (k := 0) rm0 h16 (Nat.zero_le _) (by omega)
    replace d : b_X5_changes_93 N N SM x3 (nI (u 2 s)) 0 = _ := d
    have hm1 : ¬ nI s = (-1 : Int32) := nI_ne_m1 (by omega)
    simp only [if_neg hm1]
    rw [m_price1 N wu rm hsu, bd2_s, d, ck (by omega) (by decide), nI_clamp (by omega), (c_kind rc hsu).2.1]
    refine ⟨if x3 = 0 then nI (u 2 s) else -1, _, T, ?_, rfl, q1, q2, r2, q3, f2⟩
    split <;> rfl
theorem ch_loop {N : Nat} (hN : 400000 ≤ N) {v : VW} (hw : wfV v) {x1 : Int32} (hx : x1 = -1 ∨ ∃ s, s < v 0 0 ∧ x1 = nI s) : ∀ (n : Nat) {u : VW} {SC SM : ST} {k c : Nat}, wfV u → oth v u → rlC u SC 0 → z4 SC → rlM u (SM 1) → (∀ i, i < 6 → i < v 0 0 → SC 55 i = nI (v 2 i)) → (∀ i, i < v 0 0 → SM 16 i = nI (v 2 i)) → c ≤ 1 → k ≤ 8 → 8 < k + n →
    ∃ r SC' SM', b_X4_changes_47 N n SC x1 (nI k) (nI c) = some (r, SC') ∧ b_X5_changes_52 N n SM x1 (nI k) (nI c) = some (r, SM') ∧ rlC v SC' 0 ∧ z4 SC' ∧ rlM v (SM' 1) ∧ fC2 SC SC' ∧ fM2 SM SM' := by
  intro n
  induction n with
  | zero => intro u SC SM k c _ _ _ _ _ _ _ _ _ h; omega
  | succ n ih =>
    intro u SC SM k c wu ho rc h0 rm h55 h16 hc hk hn
    have n6 := wu.1
    rw [b_X4_changes_47, b_X5_changes_52]
    by_cases hc0 : c = 0
    · rw [if_pos (show nI c = 0 by rw [hc0]; rfl), if_pos (show nI c = 0 by rw [hc0]; rfl)]
      exact ch_end hN hw wu ho hx _ _ rc h0 rm h55 h16
    · rw [if_neg (show ¬ nI c = 0 from fun z => hc0 ((nI_n0 (by omega)).mp z)), if_neg (show ¬ nI c = 0 from fun z => hc0 ((nI_n0 (by omega)).mp z)), show (8 : Int32) = nI 8 from rfl]
      by_cases h8 : 8 ≤ k
      · rw [if_pos ((nI_leI (by omega) (by omega)).mpr h8), if_pos ((nI_leI (by omega) (by omega)).mpr h8)]
        exact ch_end hN hw wu ho hx _ _ rc h0 rm h55 h16
      · rw [if_neg (fun z => h8 ((nI_leI (by omega) (by omega)).mp z)), if_neg (fun z => h8 ((nI_leI (by omega) (by omega)).mp z))]
        obtain ⟨S1, e1, r1, z1, f1⟩ := c_round_loop hN wu N (S := SC) (k := 0) rc h0 (Nat.zero_le _) (by omega)
        obtain ⟨T1, d1, q1, g1⟩ := m_round_loop hN wu N (S := SM) (k := 0) rm (Nat.zero_le _) (by omega)
        replace e1 : f_X4_roundChanges N SC = some (nI (rdC u (u 0 0)), S1) := e1
        replace d1 : f_X5_changeAll N SM = some (nI (rdC u (u 0 0)), T1) := d1
        obtain ⟨w1, o1⟩ := rd_ok wu (u 0 0)
        rw [e1, bd2_s, d1, bd2_s, nI_1]
        obtain ⟨r, S2, T2, e2, d2, a1, a2, a3, a4, a5⟩ := ih (u := rdV u (u 0 0)) (SC := S1) (SM := T1) (k := k + 1) (c := rdC u (u 0 0)) w1 (fun i j h => (o1 i j h).trans (ho i j h)) r1 z1 q1 (fun i hi hi2 => by rw [f1 55 (by omega)]; exact h55 i hi hi2) (fun i hi => by rw [g1 16 (by omega)]; exact h16 i hi) (rdC_01 u _) (by omega) (by omega)
        exact ⟨r, S2, T2, e2, d2, a1, a2, a3, fC2_tr f1 a4, fM2_tr g1 a5⟩
-- the reference notes the prices as they are
theorem m_was_loop (N : Nat) {v : VW} (hw : wfV v) (x1 : Int32) : ∀ (n : Nat) {S : ST} {k : Nat}, rlM v (S 1) → (∀ i, i < k → S 16 i = nI (v 2 i)) → k ≤ v 0 0 → v 0 0 < k + n → ∃ S', b_X5_changes_22 N n S x1 (nI k) = b_X5_changes_52 N N S' x1 0 1 ∧ (∀ i, i < v 0 0 → S' 16 i = nI (v 2 i)) ∧ ∀ i, i ≠ 16 → S' i = S i := by
  have n6 := hw.1
  intro n
  induction n with
  | zero => intro S k _ _ _ h; omega
  | succ n ih =>
    intro S k hr h16 hk hn
    rw [b_X5_changes_22, f_X5_shops, bd2_s, hr.1]
    by_cases he : v 0 0 ≤ k
    · rw [if_pos ((nI_leI (by omega) (by omega)).mpr he)]
      exact ⟨S, rfl, fun i hi => h16 i (by omega), fun _ _ => rfl⟩
    · rw [if_neg (fun z => he ((nI_leI (by omega) (by omega)).mp z)), m_price1 N hw hr (by omega), bd2_s, ck (by omega) (by decide), nm_s, nI_clamp (by omega), nI_1]
      obtain ⟨S2, e2, a, b⟩ := ih (S := us S 16 k (nI (v 2 k))) (k := k + 1) (by rw [us_n _ _ _ _ (by decide)]; exact hr) (fun i hi => by
        by_cases e : i = k
        · rw [e, us_s]
        · rw [us_k _ _ _ _ e]; exact h16 i (by omega)) (by omega) (by omega)
      exact ⟨S2, e2, a, fun i hi => by rw [b i hi, us_n _ _ _ _ hi]⟩
theorem st_changes {N : Nat} (hN : 400000 ≤ N) (x : Int32) : StI Rl (fun S => f_X4_changes N S x) (fun S => f_X5_changes N S x) := by
  rintro SC SM ⟨v, v1, v2, k0, k1, r, w0, w1, w2, w3, w4, hC, hM⟩
  have n6 := w0.1
  have go : (x = -1 ∨ ∃ s, s < v 0 0 ∧ x = nI s) → ∃ (r' : Int32) (SC' SM' : ST), b_X4_changes_25 N SC x = some (r', SC') ∧ b_X5_changes_20 N SM x = some (r', SM') ∧ Rl SC' SM' := by
    intro hx
    unfold b_X4_changes_25 b_X5_changes_20
    rw [nm_s]
    obtain ⟨T1, d1, g1, g2⟩ := m_was_loop N w0 x N (S := SM) (k := 0) hM.1 (fun i hi => by omega) (Nat.zero_le _) (by omega)
    replace d1 : b_X5_changes_22 N N SM x 0 = _ := d1
    rw [d1]
    have c0 : ∀ {i : Nat}, i ≠ 55 → cpS SC 2 55 0 0 6 i = SC i := fun h => cp_o SC 2 55 0 0 6 h
    have rc : rlC v (cpS SC 2 55 0 0 6) 0 := rlC_sm (fun k hk => c0 (by omega)) hC.1
    have z0 : z4 (cpS SC 2 55 0 0 6) := by
      unfold z4
      rw [c0 (by decide), c0 (by decide), c0 (by decide), c0 (by decide)]
      exact hC.2.2.2.2.2.2
    obtain ⟨r', S2, T2, e2, d2, a1, a2, a3, a4, a5⟩ := ch_loop hN w0 hx N (u := v) (SC := cpS SC 2 55 0 0 6) (SM := T1) (k := 0) (c := 1) w0 (fun _ _ _ => rfl) rc z0 (by rw [g2 1 (by decide)]; exact hM.1) (fun i hi hi2 => by rw [cp_e _ _ _ _ hi]; exact (c_kind hC.1 hi2).2.1) g1 (by decide) (by decide) (by omega)
    replace e2 : b_X4_changes_47 N N (cpS SC 2 55 0 0 6) x 0 1 = _ := e2
    replace d2 : b_X5_changes_52 N N T1 x 0 1 = _ := d2
    refine ⟨r', S2, T2, e2, d2, v, v1, v2, k0, k1, r, w0, w1, w2, w3, w4, RC_v a1 (fun i hi => ?_) a2 hC, RM_v a3 (fun i hi => ?_) hM⟩
    · rw [a4 i (by omega), c0 (by omega)]
    · rw [a5 i (by omega), g2 i (by omega)]
  unfold f_X4_changes f_X5_changes
  dsimp only
  by_cases hx : x = -1
  · rw [if_pos hx, if_pos hx]
    exact go (Or.inl hx)
  · rw [if_neg hx, if_neg hx]
    simp only [c_hasShop N SC x hC.1.1 n6, m_isShop N SM x hM.1.1 n6, bd2_s, tf_if, c_bad, m_bad]
    by_cases h : 0 ≤ x.toInt ∧ x.toInt < (v 0 0 : Int)
    · rw [if_pos h, if_pos h]
      obtain ⟨s, hs, he⟩ := of_rng (x := x) (m := 5) (by omega) (by decide)
      have hsn := h.2
      rw [he, nt (by omega)] at hsn
      exact go (Or.inr ⟨s, by omega, he⟩)
    · rw [if_neg h, if_neg h]
      exact ⟨_, _, _, rfl, rfl, v, v1, v2, k0, k1, _, w0, w1, w2, w3, w4, RC_ref hC (by decide), RM_ref hM (by decide)⟩
