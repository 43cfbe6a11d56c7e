theorem F11 : ∀ a, a < 64 → ∀ b, b < 64 → nI a &&& (nI b ^^^ (-1)) = nI (a &&& (63 - b)) := by decide +kernel
theorem F13 : ∀ b, b < 64 → ∀ s, s < 6 → bitN (63 - b) s = 1 - bitN b s := by decide +kernel
theorem bit_and (a c s : Nat) : bitN (a &&& c) s = 1 ↔ bitN a s = 1 ∧ bitN c s = 1 := by
  rw [bit_tb, bit_tb, bit_tb, Nat.testBit_and]
  cases a.testBit s <;> cases c.testBit s <;> simp
theorem c_goOn {N : Nat} (hN : 20 ≤ N) {v : VW} (hw : wfV v) {bm w cb cl : Nat} (hb1 : bm ≤ 1) (hw64 : w < 64) (hcb : cb < 64) (hcl : ∀ s, s < 6 → (bitN cb s = 1 ↔ s = cl)) : ∀ (d : Nat) {S : ST} {p : List Nat} {b : CB}, rlC v S 0 → gdN v p → lvC v p S → sC v b S → S 46 2 = nI w → S 46 3 = nI cb → S 46 4 = nI bm → 7 < p.length + d →
    ∃ S', f_X1_goOn N d S (nI p.length) = some S' ∧ sC v ((p :: trS v cl (6 - p.length) p).foldl (upC v bm w) b) S' ∧ lvC v p S' ∧ smS S S' := by
  intro d
  induction d with
  | zero => intro S p b _ hp _ _ _ _ _ h; have := gd_len hp; omega
  | succ d ih =>
    intro S p b hr hp hl hs h2 h3 h4 hd
    have h6 := gd_len hp
    have n6 := hw.1
    obtain ⟨p1, p2, p3, p4⟩ := lvC_top hl
    have i7 := ixo (k := p.length) (L := 7) (by omega) (by decide)
    rw [f_X1_goOn, if_neg (show ¬ (6 : Int32) < nI p.length from fun q => by have := (nI_ltI (a := 6) (by decide) (by omega)).mp q; omega), c_isBetter N hw hp hl h4 hb1 hs, bd2_s, tf_if]
    by_cases hbe : betC v bm b p
    · rw [if_pos hbe]
      simp only [if_neg i7]
      rw [nI_clamp (by omega), p2, h2, nI_and]
      have eh : (nI ((walkS v p).2.1 &&& w) = nI w) ↔ subN w (walkS v p).2.1 := by
        rw [nI_eq (Nat.lt_of_le_of_lt Nat.and_le_right (by omega)) (by omega), Nat.and_comm]
      simp only [eh]
      by_cases hh : subN w (walkS v p).2.1
      · obtain ⟨S1, e1, k1, k2, k3⟩ := c_keep hN hw hp hl h4 hb1
        rw [if_pos hh, e1, bd1_s, fold_keep hw hp hbe hh]
        exact ⟨S1, rfl, k1, k2, k3⟩
      · rw [if_neg hh, c_waysOn N hw hr hp hl, bd2_s, p1, h3, F11 _ (way_lt hw hp) _ hp.2.2.1, F11 _ (Nat.lt_of_le_of_lt Nat.and_le_left (way_lt hw hp)) _ hcb, fold_go hh, tr_sib hw hp]
        generalize hop : (wayS v (walkS v p).1 &&& (63 - (walkS v p).2.2.1)) &&& (63 - cb) = op
        have hopl : op < 64 := by rw [← hop]; exact Nat.lt_of_le_of_lt Nat.and_le_left (Nat.lt_of_le_of_lt Nat.and_le_left (way_lt hw hp))
        have hopb : ∀ s, s < v 0 0 → (bitN op s = 1 ↔ bitN (wayS v (walkS v p).1) s = 1 ∧ bitN (walkS v p).2.2.1 s = 0 ∧ ¬ s = cl) := by
          intro s hs
          have c1 := bit_01 (walkS v p).2.2.1 s
          have c2 := bit_01 cb s
          have c3 := hcl s (by omega)
          rw [← hop, bit_and, bit_and, F13 _ hp.2.2.1 s (by omega), F13 _ hcb s (by omega), ← c3]
          constructor
          · rintro ⟨⟨z1, z2⟩, z3⟩
            exact ⟨z1, by omega, by omega⟩
          · rintro ⟨z1, z2, z3⟩
            exact ⟨⟨z1, by omega⟩, by omega⟩
        have loop : ∀ (n : Nat) {S : ST} {k : Nat} {b : CB}, rlC v S 0 → lvC v p S → sC v b S → S 46 2 = nI w → S 46 3 = nI cb → S 46 4 = nI bm → k ≤ v 0 0 → v 0 0 < k + n →
            ∃ S', b_X1_goOn_72 N (fun S x1 => f_X1_goOn N d S x1) n S (nI p.length) (nI op) (nI k) = some S' ∧ sC v ((sibS v cl (5 - p.length) p k).foldl (upC v bm w) b) S' ∧ lvC v p S' ∧ smS S S' := by
          intro n
          induction n with
          | zero => intro S k b _ _ _ _ _ _ z1 z2; omega
          | succ n ihn =>
            intro S k b hr hl hs h2 h3 h4 hk1 hk2
            rw [b_X1_goOn_72, hr.1]
            by_cases he : v 0 0 ≤ k
            · rw [if_pos ((nI_leI (by omega) (by omega)).mpr he), sibS_end v cl _ p he]
              exact ⟨S, rfl, hs, hl, smS_rf S⟩
            · have hk : k < v 0 0 := by omega
              have b01 := bit_01 op k
              unfold b_X1_goOn_110
              dsimp only
              rw [if_neg (fun q => he ((nI_leI (by omega) (by omega)).mp q)), nI_bit (by omega) (by omega), sibS_step v cl _ p hk, List.foldl_append, nI_1]
              by_cases hb : bitN op k = 0
              · have hno : ¬ okS v cl (walkS v p) k := by
                  rintro ⟨z1, z2⟩
                  have z3 := why_0 z2
                  have := (hopb k hk).mpr ⟨z3.1, z3.2.1, z1⟩
                  omega
                have ech : chS v cl (5 - p.length) p k = [] := by unfold chS; rw [if_neg hno]
                rw [if_pos (show nI (bitN op k) = 0 by rw [hb]; rfl), ech]
                obtain ⟨S2, e2, m1, m2, m3⟩ := ihn (k := k + 1) hr hl hs h2 h3 h4 (by omega) (by omega)
                exact ⟨S2, e2, m1, m2, m3⟩
              · have hop1 := (hopb k hk).mp (by omega)
                have hwl := why_le v (walkS v p) k
                rw [if_neg (show ¬ nI (bitN op k) = 0 from fun q => hb ((nI_n0 (by omega)).mp q)), c_step N hw hr hp hl hk, bd2_s]
                by_cases h0 : whyS v (walkS v p) k = 0
                · have ech : chS v cl (5 - p.length) p k = (p ++ [k]) :: trS v cl (5 - p.length) (p ++ [k]) := by unfold chS; rw [if_pos ⟨hop1.2.2, h0⟩]
                  have g1 := gd_step hw hp hk h0
                  have hlen : (p ++ [k]).length = p.length + 1 := by simp
                  have h6' := gd_len g1
                  have sw := stC_sm v p k S
                  rw [if_pos (show nI (whyS v (walkS v p) k) = 0 by rw [h0]; rfl), if_pos h0, ech, nI_1]
                  obtain ⟨S1, e1, k1, k2, k3⟩ := ih (S := stC v p k S) (p := p ++ [k]) (b := b) (rlC_smW sw hr) g1 (stC_lv hl) (sC_smW sw hs) (by rw [sw 46 (by omega)]; exact h2) (by rw [sw 46 (by omega)]; exact h3) (by rw [sw 46 (by omega)]; exact h4) (by omega)
                  rw [hlen, show 6 - (p.length + 1) = 5 - p.length by omega] at k1
                  rw [hlen] at e1
                  rw [e1, bd1_s]
                  have ks : smS S S1 := smS_tr (smS_W sw) k3
                  obtain ⟨S2, e2, m1, m2, m3⟩ := ihn (k := k + 1) (rlC_smS ks hr) (lvC_pre k2) k1 (by rw [ks.2.1]; exact h2) (by rw [ks.2.2.1]; exact h3) (by rw [ks.2.2.2]; exact h4) (by omega) (by omega)
                  exact ⟨S2, e2, m1, m2, smS_tr ks m3⟩
                · have ech : chS v cl (5 - p.length) p k = [] := by unfold chS; rw [if_neg (fun z => h0 z.2)]
                  rw [if_neg (show ¬ nI (whyS v (walkS v p) k) = 0 from fun q => h0 ((nI_n0 (by omega)).mp q)), if_neg h0, ech]
                  obtain ⟨S2, e2, m1, m2, m3⟩ := ihn (k := k + 1) hr hl hs h2 h3 h4 (by omega) (by omega)
                  exact ⟨S2, e2, m1, m2, m3⟩
        exact loop N (k := 0) hr hl hs h2 h3 h4 (Nat.zero_le _) (by omega)
    · rw [if_neg hbe, fold_prune hw hp hbe]
      exact ⟨S, rfl, hs, hl, smS_rf S⟩
-- what a whole search finds
def fiS (v : VW) (bm w cl mo : Nat) : CB := (([] : List Nat) :: alS v cl).foldl (upC v bm w) (mo, 7, none)
def smF (S S' : ST) : Prop := ∀ i, (i < 41 ∨ 48 < i) → S' i = S i
theorem c_expect (N : Nat) {v : VW} (S : ST) (w : Int32) {mo : Nat} (hmo : mo ≤ 999) : ∃ S', f_X1_expect N S w (nI mo) = some S' ∧ sC v (mo, 7, none) S' ∧ (∀ i, i ≠ 46 → S' i = S i) ∧ S' 46 2 = w ∧ S' 46 3 = S 46 3 ∧ S' 46 4 = S 46 4 := by
  refine ⟨_, rfl, ⟨?_, ?_, hmo, Nat.le_refl 7, fun _ => ?_, fun p h => by cases h⟩, fun i hi => ?_, ?_, ?_, ?_⟩
  · rw [us_k _ _ _ _ (by decide), us_s]
  · rw [us_s]; rfl
  · rw [us_k _ _ _ _ (by decide), us_k _ _ _ _ (by decide), us_s]
  · rw [us_n _ _ _ _ hi, us_n _ _ _ _ hi, us_n _ _ _ _ hi, us_n _ _ _ _ hi]
  · rw [us_k _ _ _ _ (by decide), us_k _ _ _ _ (by decide), us_k _ _ _ _ (by decide), us_s]
  · rw [us_k _ _ _ _ (by decide), us_k _ _ _ _ (by decide), us_k _ _ _ _ (by decide), us_k _ _ _ _ (by decide)]
  · rw [us_k _ _ _ _ (by decide), us_k _ _ _ _ (by decide), us_k _ _ _ _ (by decide), us_k _ _ _ _ (by decide)]
theorem sC_found {v : VW} {b : CB} {S : ST} (h : sC v b S) : S 46 5 = tf (b.2.2 ≠ none) := by
  cases hb : b.2.2 with
  | none => rw [h.2.2.2.2.1 hb, tf_f (by simp)]
  | some p => rw [(h.2.2.2.2.2 p hb).1, tf_t (by simp)]
theorem c_findCheapest {N : Nat} (hN : 20 ≤ N) {v : VW} (hw : wfV v) {S : ST} (hr : rlC v S 0) (h0 : S 42 0 = 0 ∧ S 43 0 = 0 ∧ S 44 0 = 0 ∧ S 45 0 = 0) {w mo cb cl : Nat} (hw64 : w < 64) (hmo : mo ≤ 999) (hcb : cb < 64) (hcl : ∀ s, s < 6 → (bitN cb s = 1 ↔ s = cl)) :
    ∃ S', f_X1_findCheapest N S (nI w) (nI mo) (nI cb) = some (tf ((fiS v 0 w cl mo).2.2 ≠ none), S') ∧ sC v (fiS v 0 w cl mo) S' ∧ smF S S' ∧ (S' 42 0 = 0 ∧ S' 43 0 = 0 ∧ S' 44 0 = 0 ∧ S' 45 0 = 0) := by
  unfold f_X1_findCheapest
  simp only [nm_s]
  obtain ⟨S1, e1, s1, o1, a2, a3, a4⟩ := c_expect N (v := v) (us (us S 46 4 0) 46 3 (nI cb)) (nI w) hmo
  have os : ∀ i, i ≠ 46 → S1 i = S i := fun i hi => by rw [o1 i hi, us_n _ _ _ _ hi, us_n _ _ _ _ hi]
  rw [e1, bd1_s]
  rw [us_s] at a3
  rw [us_k _ _ _ _ (by decide), us_s] at a4
  obtain ⟨S2, e2, k1, k2, k3⟩ := c_goOn hN hw (bm := 0) (by decide) hw64 hcb hcl 8 (S := S1) (p := []) (b := (mo, 7, none)) (rlC_sm (fun k hk => os _ (by omega)) hr) (gd_nil v) (lvC_nil (by rw [os 42 (by decide), os 43 (by decide), os 44 (by decide), os 45 (by decide)]; exact h0)) s1 a2 a3 a4 (by decide)
  replace e2 : f_X1_goOn N 8 S1 0 = some S2 := e2
  replace k1 : sC v (fiS v 0 w cl mo) S2 := k1
  rw [e2, bd1_s, sC_found k1, tf_ret]
  exact ⟨S2, rfl, k1, fun i hi => by rw [k3.1 i hi, os i (by omega)], lvC_0 k2⟩
theorem c_findSoonest {N : Nat} (hN : 20 ≤ N) {v : VW} (hw : wfV v) {S : ST} (hr : rlC v S 0) (h0 : S 42 0 = 0 ∧ S 43 0 = 0 ∧ S 44 0 = 0 ∧ S 45 0 = 0) {w : Nat} (hw64 : w < 64) :
    ∃ S', f_X1_findSoonest N S (nI w) = some (tf ((fiS v 1 w 6 240).2.2 ≠ none), S') ∧ sC v (fiS v 1 w 6 240) S' ∧ smF S S' ∧ (S' 42 0 = 0 ∧ S' 43 0 = 0 ∧ S' 44 0 = 0 ∧ S' 45 0 = 0) := by
  unfold f_X1_findSoonest
  simp only [nm_s]
  obtain ⟨S1, e1, s1, o1, a2, a3, a4⟩ := c_expect N (v := v) (us (us S 46 4 1) 46 3 0) (nI w) (mo := 240) (by decide)
  have os : ∀ i, i ≠ 46 → S1 i = S i := fun i hi => by rw [o1 i hi, us_n _ _ _ _ hi, us_n _ _ _ _ hi]
  replace e1 : f_X1_expect N (us (us S 46 4 1) 46 3 0) (nI w) 240 = some S1 := e1
  rw [e1, bd1_s]
  rw [us_s] at a3
  rw [us_k _ _ _ _ (by decide), us_s] at a4
  obtain ⟨S2, e2, k1, k2, k3⟩ := c_goOn hN hw (bm := 1) (cb := 0) (cl := 6) (by decide) hw64 (by decide) (fun s hs => ⟨fun h => absurd h (by unfold bitN; rw [Nat.zero_div]; decide), fun h => by omega⟩) 8 (S := S1) (p := []) (b := (240, 7, none)) (rlC_sm (fun k hk => os _ (by omega)) hr) (gd_nil v) (lvC_nil (by rw [os 42 (by decide), os 43 (by decide), os 44 (by decide), os 45 (by decide)]; exact h0)) s1 a2 a3 a4 (by decide)
  replace e2 : f_X1_goOn N 8 S1 0 = some S2 := e2
  replace k1 : sC v (fiS v 1 w 6 240) S2 := k1
  rw [e2, bd1_s, sC_found k1, tf_ret]
  exact ⟨S2, rfl, k1, fun i hi => by rw [k3.1 i hi, os i (by omega)], lvC_0 k2⟩
