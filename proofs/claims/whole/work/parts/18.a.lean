-- two shops made near
def adN (v : VW) (a b : Nat) : VW := sv (sv v 5 a (v 5 a ||| 2 ^ b)) 5 b (v 5 b ||| 2 ^ a)
theorem ad_o (v : VW) (a b : Nat) {i : Nat} (h : i ≠ 5) (j : Nat) : adN v a b i j = v i j := by
  unfold adN
  rw [sv_i _ _ _ _ h, sv_i _ _ _ _ h]
theorem ad_5 (v : VW) {a b : Nat} (i : Nat) : adN v a b 5 i = if i = b then v 5 b ||| 2 ^ a else if i = a then v 5 a ||| 2 ^ b else v 5 i := by
  unfold adN
  by_cases h : i = b
  · rw [if_pos h, h, sv_e]
  · rw [if_neg h, sv_j _ _ _ _ h]
    by_cases h2 : i = a
    · rw [if_pos h2, h2, sv_e]
    · rw [if_neg h2, sv_j _ _ _ _ h2]
theorem ad_bit {v : VW} (hw : wfV v) {a b : Nat} (ha : a < v 0 0) (hb : b < v 0 0) (hab : a ≠ b) {i j : Nat} (hi : i < v 0 0) (hj : j < v 0 0) : bitN (adN v a b 5 i) j = 1 ↔ bitN (v 5 i) j = 1 ∨ (i = a ∧ j = b) ∨ (i = b ∧ j = a) := by
  have n6 := hw.1
  have h64 : ∀ i, i < v 0 0 → v 5 i < 64 := fun i hi => (hw.2.2.2.2.2.2.2.1 i hi).2.2.2.2
  rw [ad_5]
  by_cases h : i = b
  · subst h
    rw [if_pos rfl, F17 _ (h64 i hi) a (by omega) j (by omega)]
    omega
  · rw [if_neg h]
    by_cases h2 : i = a
    · subst h2
      rw [if_pos rfl, F17 _ (h64 i hi) b (by omega) j (by omega)]
      omega
    · rw [if_neg h2]
      omega
theorem wf_ad {v : VW} (hw : wfV v) {a b : Nat} (ha : a < v 0 0) (hb : b < v 0 0) (hab : a ≠ b) : wfV (adN v a b) := by
  have n6 := hw.1
  have h64 : ∀ i, i < v 0 0 → v 5 i < 64 := fun i hi => (hw.2.2.2.2.2.2.2.1 i hi).2.2.2.2
  have hb1 := fun i j hi hj => ad_bit hw ha hb hab (i := i) (j := j) hi hj
  have e := fun i (h : i ≠ 5) j => ad_o v a b h j
  obtain ⟨a1, a2, a3, a4, a5, a6, a7, a8, a9, b1, b2, b3⟩ := hw
  unfold wfV
  rw [e 0 (by decide) 0, e 0 (by decide) 1, e 0 (by decide) 2, e 0 (by decide) 3, e 0 (by decide) 4, e 0 (by decide) 5, e 0 (by decide) 6]
  refine ⟨a1, a2, a3, a4, a5, a6, a7, fun i hi => ?_, fun i j hi hj => ?_, fun i hi => ?_, fun i hi => ?_, fun i hi => ?_⟩
  · rw [e 1 (by decide), e 2 (by decide), e 3 (by decide), e 4 (by decide)]
    obtain ⟨q1, q2, q3, q4, q5⟩ := a8 i hi
    refine ⟨q1, q2, q3, q4, ?_⟩
    rw [ad_5]
    split
    · exact F1b _ (h64 b hb) a (by omega)
    · split
      · exact F1b _ (h64 a ha) b (by omega)
      · exact q5
  · have z1 := hb1 i j hi hj
    have z2 := hb1 j i hj hi
    have z3 := a9 i j hi hj
    have z4 := bit_01 (adN v a b 5 i) j
    have z5 := bit_01 (adN v a b 5 j) i
    by_cases q : bitN (adN v a b 5 i) j = 1
    · have : bitN (adN v a b 5 j) i = 1 := z2.mpr (by have := z1.mp q; omega)
      omega
    · by_cases q' : bitN (adN v a b 5 j) i = 1
      · exact absurd (z1.mpr (by have := z2.mp q'; omega)) q
      · omega
  · rw [e 6 (by decide)]; exact b1 i hi
  · rw [e 7 (by decide)]; exact b2 i hi
  · rw [e 8 (by decide), e 9 (by decide)]; exact b3 i hi
theorem ad_back (v : VW) {a b : Nat} (hab : a ≠ b) : sv (sv (adN v a b) 5 a (v 5 a)) 5 b (v 5 b) = v := by
  unfold adN
  rw [sv_sw _ _ _ (show ¬ (5 = 5 ∧ b = a) from fun z => hab z.2.symm), sv_sv, sv_sv, sv_id v 5 a rfl, sv_id v 5 b rfl]
theorem n50 {b : Nat} : 5 ≠ 0 ∨ (b ≠ 0 ∧ b ≠ 4 ∧ b ≠ 5 ∧ b ≠ 6) := Or.inl (by decide)
theorem s5M {a : Nat} : 24 + a = slM 5 a := by unfold slM; simp
theorem m_turnOn (N : Nat) {v : VW} (hw : wfV v) {S : ST} (hr : rlM v (S 1)) {a b : Nat} (ha : a < v 0 0) (hb : b < v 0 0) (hab : a ≠ b) (h0 : bitN (v 5 a) b = 0) : ∃ S', f_X5_turnNear N S (nI a) (nI b) = some S' ∧ rlM (adN v a b) (S' 1) ∧ ∀ i, i ≠ 1 → S' i = S i := by
  have n6 := hw.1
  have h64 : ∀ i, i < v 0 0 → v 5 i < 64 := fun i hi => (hw.2.2.2.2.2.2.2.1 i hi).2.2.2.2
  have h0' : bitN (v 5 b) a = 0 := by rw [← hw.2.2.2.2.2.2.2.2.1 a b ha hb]; exact h0
  have e5 : ∀ i, i < v 0 0 → S 1 (24 + i) = nI (v 5 i) := fun i hi => (hr.2.2.2.2.2.2.2.1 i hi).2.2.2.2
  unfold f_X5_turnNear
  rw [show (24 : Int32) = nI 24 from rfl, nI_add, nI_add, ck (by omega) (by decide), ck (by omega) (by decide), nm_s, ck (by omega) (by decide), ck (by omega) (by decide), nm_s, nI_clamp (by omega), nI_clamp (by omega), us_k _ _ _ _ (by omega), e5 a ha, e5 b hb, (F16 _ (h64 a ha) b (by omega) h0).1, (F16 _ (h64 b hb) a (by omega) h0').1]
  refine ⟨_, rfl, ?_, fun i hi => by rw [us_n _ _ _ _ hi, us_n _ _ _ _ hi]⟩
  rw [us_r, us_r]
  have h1 := rlM_sv hw hr (a := 5) (b := a) (by decide) (by show a < 6; omega) (v 5 a ||| 2 ^ b) n50 (k := 24 + a) s5M rfl
  refine rM_to ?_
  have h2 := rM_sv (rM_of h1) (a := 5) (b := b) (L' := lim (adN v a b)) (by decide) (by show b < 6; omega) (v 5 b ||| 2 ^ a) (fun i _ => lim_cap (wf_ad hw ha hb hab) i) (fun i j _ hj => Or.inl (by unfold adN at hj; rw [lim_sv n50] at hj; exact hj)) (k := 24 + b) s5M rfl
  exact h2
theorem m_turnOff (N : Nat) {v : VW} (hw : wfV v) {S : ST} {a b : Nat} (ha : a < v 0 0) (hb : b < v 0 0) (hab : a ≠ b) (hr : rlM (adN v a b) (S 1)) (h0 : bitN (v 5 a) b = 0) : ∃ S', f_X5_turnNear N S (nI a) (nI b) = some S' ∧ rlM v (S' 1) ∧ ∀ i, i ≠ 1 → S' i = S i := by
  have n6 := hw.1
  have h64 : ∀ i, i < v 0 0 → v 5 i < 64 := fun i hi => (hw.2.2.2.2.2.2.2.1 i hi).2.2.2.2
  have h0' : bitN (v 5 b) a = 0 := by rw [← hw.2.2.2.2.2.2.2.2.1 a b ha hb]; exact h0
  have w' := wf_ad hw ha hb hab
  have e00 : adN v a b 0 0 = v 0 0 := ad_o v a b (by decide) 0
  have e5 : ∀ i, i < v 0 0 → S 1 (24 + i) = nI (adN v a b 5 i) := fun i hi => (hr.2.2.2.2.2.2.2.1 i (by rw [e00]; exact hi)).2.2.2.2
  have ea : adN v a b 5 a = v 5 a ||| 2 ^ b := by rw [ad_5, if_neg hab, if_pos rfl]
  have eb : adN v a b 5 b = v 5 b ||| 2 ^ a := by rw [ad_5, if_pos rfl]
  unfold f_X5_turnNear
  rw [show (24 : Int32) = nI 24 from rfl, nI_add, nI_add, ck (by omega) (by decide), ck (by omega) (by decide), nm_s, ck (by omega) (by decide), ck (by omega) (by decide), nm_s, nI_clamp (by omega), nI_clamp (by omega), us_k _ _ _ _ (by omega), e5 a ha, e5 b hb, ea, eb, (F16 _ (h64 a ha) b (by omega) h0).2.1, (F16 _ (h64 b hb) a (by omega) h0').2.1]
  refine ⟨_, rfl, ?_, fun i hi => by rw [us_n _ _ _ _ hi, us_n _ _ _ _ hi]⟩
  rw [us_r, us_r]
  have h1 := rlM_sv w' hr (a := 5) (b := a) (by decide) (by show a < 6; omega) (v 5 a) n50 (k := 24 + a) s5M rfl
  have h2 := rM_sv (rM_of h1) (a := 5) (b := b) (L' := lim v) (by decide) (by show b < 6; omega) (v 5 b) (fun i _ => lim_cap hw i) (fun i j _ hj => Or.inl (by unfold adN; rw [lim_sv n50, lim_sv n50, lim_sv n50]; exact hj)) (k := 24 + b) s5M rfl
  rw [ad_back v hab] at h2
  exact rM_to h2
theorem c_areNear (N : Nat) {v : VW} {S : ST} (hw : wfV v) (hr : rlC v S 0) {a b : Nat} (ha : a < v 0 0) (hb : b < v 0 0) : f_X2_areNear_0 N S (nI a) (nI b) = some (tf (bitN (v 5 a) b = 1), S) := by
  have n6 := hw.1
  have h64 : ∀ i, i < v 0 0 → v 5 i < 64 := fun i hi => (hw.2.2.2.2.2.2.2.1 i hi).2.2.2.2
  have := h64 a ha
  have b01 := bit_01 (v 5 a) b
  unfold f_X2_areNear_0
  rw [ck (by omega) (by decide), nI_clamp (by omega), (c_kind hr ha).2.2.2.2, nI_bit (by omega) (by omega)]
  by_cases hq : bitN (v 5 a) b = 1
  · rw [if_neg (fun q => by have := (nI_n0 (by omega)).mp q; omega), tf_t hq]
  · rw [if_pos (by rw [show bitN (v 5 a) b = 0 by omega]; rfl), tf_f hq]
theorem c_setOn (N : Nat) {v : VW} (hw : wfV v) {S : ST} (hr : rlC v S 0) {a b : Nat} (ha : a < v 0 0) (hb : b < v 0 0) (hab : a ≠ b) (h0 : bitN (v 5 a) b = 0) : ∃ S', f_X2_setNear_0 N S (nI a) (nI b) 1 = some S' ∧ rlC (adN v a b) S' 0 ∧ ∀ i, i ≠ 5 → S' i = S i := by
  have n6 := hw.1
  have h64 : ∀ i, i < v 0 0 → v 5 i < 64 := fun i hi => (hw.2.2.2.2.2.2.2.1 i hi).2.2.2.2
  have h0' : bitN (v 5 b) a = 0 := by rw [← hw.2.2.2.2.2.2.2.2.1 a b ha hb]; exact h0
  have e5 : ∀ i, i < v 0 0 → S 5 i = nI (v 5 i) := fun i hi => (c_kind hr hi).2.2.2.2
  unfold f_X2_setNear_0 b_X2_setNear_0_34 b_X2_setNear_0_69
  rw [if_neg (show ¬ (1 : Int32) = 0 by decide), ck (by omega) (by decide), ck (by omega) (by decide), nm_s, if_neg (show ¬ (1 : Int32) = 0 by decide), ck (by omega) (by decide), ck (by omega) (by decide), nm_s, nI_clamp (by omega), nI_clamp (by omega), us_k _ _ _ _ (by omega), e5 a ha, e5 b hb, (F16 _ (h64 a ha) b (by omega) h0).2.2.2, (F16 _ (h64 b hb) a (by omega) h0').2.2.2]
  refine ⟨_, rfl, ?_, fun i hi => by rw [us_n _ _ _ _ hi, us_n _ _ _ _ hi]⟩
  have h1 := rlC_sv hw hr (a := 5) (b := a) (by decide) (by show a < 6; omega) (v 5 a ||| 2 ^ b) n50 (m := 5) (k := a) rfl rfl rfl
  refine rC_to ?_
  exact rC_sv (rC_of h1) (a := 5) (b := b) (L' := lim (adN v a b)) (by decide) (by show b < 6; omega) (v 5 b ||| 2 ^ a) (fun i _ => lim_cap (wf_ad hw ha hb hab) i) (fun i j _ hj => Or.inl (by unfold adN at hj; rw [lim_sv n50] at hj; exact hj)) rfl rfl rfl
theorem c_setOff (N : Nat) {v : VW} (hw : wfV v) {S : ST} {a b : Nat} (ha : a < v 0 0) (hb : b < v 0 0) (hab : a ≠ b) (hr : rlC (adN v a b) S 0) (h0 : bitN (v 5 a) b = 0) : ∃ S', f_X2_setNear_0 N S (nI a) (nI b) 0 = some S' ∧ rlC v S' 0 ∧ ∀ i, i ≠ 5 → S' i = S i := by
  have n6 := hw.1
  have h64 : ∀ i, i < v 0 0 → v 5 i < 64 := fun i hi => (hw.2.2.2.2.2.2.2.1 i hi).2.2.2.2
  have h0' : bitN (v 5 b) a = 0 := by rw [← hw.2.2.2.2.2.2.2.2.1 a b ha hb]; exact h0
  have w' := wf_ad hw ha hb hab
  have e00 : adN v a b 0 0 = v 0 0 := ad_o v a b (by decide) 0
  have e5 : ∀ i, i < v 0 0 → S 5 i = nI (adN v a b 5 i) := fun i hi => (c_kind hr (by rw [e00]; exact hi)).2.2.2.2
  have ea : adN v a b 5 a = v 5 a ||| 2 ^ b := by rw [ad_5, if_neg hab, if_pos rfl]
  have eb : adN v a b 5 b = v 5 b ||| 2 ^ a := by rw [ad_5, if_pos rfl]
  unfold f_X2_setNear_0 b_X2_setNear_0_34 b_X2_setNear_0_69
  rw [if_pos (show (0 : Int32) = 0 from rfl), ck (by omega) (by decide), ck (by omega) (by decide), nm_s, if_pos (show (0 : Int32) = 0 from rfl), ck (by omega) (by decide), ck (by omega) (by decide), nm_s, nI_clamp (by omega), nI_clamp (by omega), us_k _ _ _ _ (by omega), e5 a ha, e5 b hb, ea, eb, (F16 _ (h64 a ha) b (by omega) h0).2.2.1, (F16 _ (h64 b hb) a (by omega) h0').2.2.1]
  refine ⟨_, rfl, ?_, fun i hi => by rw [us_n _ _ _ _ hi, us_n _ _ _ _ hi]⟩
  have h1 := rlC_sv w' hr (a := 5) (b := a) (by decide) (by show a < 6; omega) (v 5 a) n50 (m := 5) (k := a) rfl rfl rfl
  have h2 := rC_sv (rC_of h1) (a := 5) (b := b) (L' := lim v) (by decide) (by show b < 6; omega) (v 5 b) (fun i _ => lim_cap hw i) (fun i j _ hj => Or.inl (by unfold adN; rw [lim_sv n50, lim_sv n50, lim_sv n50]; exact hj)) (m := 5) (k := b) rfl rfl rfl
  rw [ad_back v hab] at h2
  exact rC_to h2
-- neighbours of the closed shop don't matter
theorem if_c {α : Type} {c d : Prop} [Decidable c] [Decidable d] (h : c ↔ d) (a b : α) : (if c then a else b) = if d then a else b := by
  by_cases hc : c
  · rw [if_pos hc, if_pos (h.mp hc)]
  · rw [if_neg hc, if_neg (fun z => hc (h.mpr z))]
theorem f_same {v v' : VW} (h : ∀ i j, i ≠ 5 → v' i j = v i j) (s g : Nat) : helS v' s g = helS v s g ∧ minS v' s = minS v s ∧ priS v' s g = priS v s g := by
  have e0 : ∀ j, v' 0 j = v 0 j := fun j => h 0 j (by decide)
  have e1 : ∀ j, v' 1 j = v 1 j := fun j => h 1 j (by decide)
  have e2 : ∀ j, v' 2 j = v 2 j := fun j => h 2 j (by decide)
  have e3 : ∀ j, v' 3 j = v 3 j := fun j => h 3 j (by decide)
  have hb : backS v' s = backS v s := by unfold backS; rw [e0]
  have ht : takB v' s g ↔ takB v s g := by unfold takB; rw [e1, hb]
  have hl : lesS v' s g = lesS v s g := by unfold lesS; rw [if_c ht, hb, e2]
  have hf : lefS v' s g = lefS v s g := by unfold lefS; rw [if_c ht, hb]
  refine ⟨by unfold helS; rw [hf], by unfold minS; rw [e1, e3], by unfold priS; rw [e1, e2, hl]⟩
theorem buy_same {v v' : VW} (h : ∀ i j, i ≠ 5 → v' i j = v i j) : buyS v' = buyS v := by
  funext w s
  obtain ⟨a, b, c⟩ := f_same h s w.2.1
  unfold buyS
  rw [a, b, c]
theorem walk_same {v v' : VW} (h : ∀ i j, i ≠ 5 → v' i j = v i j) (p : List Nat) : walkS v' p = walkS v p := by
  unfold walkS
  rw [buy_same h]
theorem why_same {v v' : VW} (h : ∀ i j, i ≠ 5 → v' i j = v i j) {w : ND} {s : Nat} (hb : bitN (wayS v' w.1) s = bitN (wayS v w.1) s) : whyS v' w s = whyS v w s := by
  obtain ⟨a, b, c⟩ := f_same h s w.2.1
  unfold whyS
  rw [hb, a, b, c, h 1 s (by decide), h 4 s (by decide), h 0 3 (by decide), h 0 2 (by decide)]
theorem tr_same {v v' : VW} {cl : Nat} (h : ∀ i j, i ≠ 5 → v' i j = v i j) (hb : ∀ a s, a < v 0 0 → s < v 0 0 → a ≠ cl → s ≠ cl → bitN (v' 5 a) s = bitN (v 5 a) s) : ∀ (d : Nat) (p : List Nat), ((walkS v p).1 = 0 ∨ ((walkS v p).1 - 1 < v 0 0 ∧ (walkS v p).1 - 1 ≠ cl)) → trS v' cl d p = trS v cl d p := by
  intro d
  induction d with
  | zero => intro p _; rfl
  | succ d ih =>
    intro p hp
    unfold trS
    rw [h 0 0 (by decide), List.flatMap_def, List.flatMap_def]
    congr 1
    refine List.map_congr_left (fun s hs => ?_)
    have hs' : s < v 0 0 := by have := (List.mem_range'_1.mp hs).2; omega
    by_cases hc : s = cl
    · rw [if_neg (fun z => z.1 hc), if_neg (fun z => z.1 hc)]
    · have e : whyS v' (walkS v' p) s = whyS v (walkS v p) s := by
        rw [walk_same h]
        refine why_same h ?_
        unfold wayS
        by_cases h0 : (walkS v p).1 = 0
        · rw [if_pos h0, if_pos h0, h 0 1 (by decide)]
        · rw [if_neg h0, if_neg h0]
          exact hb _ s (hp.resolve_left h0).1 hs' (hp.resolve_left h0).2 hc
      by_cases ho : whyS v (walkS v p) s = 0
      · rw [if_pos ⟨hc, e.trans ho⟩, if_pos ⟨hc, ho⟩, ih (p ++ [s]) (Or.inr (by rw [last_walk]; exact ⟨hs', hc⟩))]
      · rw [if_neg (fun z => ho (e.symm.trans z.2)), if_neg (fun z => ho z.2)]
theorem be_same {v v' : VW} {cl : Nat} (h : ∀ i j, i ≠ 5 → v' i j = v i j) (hb : ∀ a s, a < v 0 0 → s < v 0 0 → a ≠ cl → s ≠ cl → bitN (v' 5 a) s = bitN (v 5 a) s) (w : Nat) : beS v' cl w = beS v cl w := by
  unfold beS alS
  rw [tr_same h hb 6 [] (Or.inl rfl), show upB v' w = upB v w by funext b p; unfold upB; rw [walk_same h]]
theorem ha_same {v v' : VW} {cl : Nat} (h : ∀ i j, i ≠ 5 → v' i j = v i j) (hb : ∀ a s, a < v 0 0 → s < v 0 0 → a ≠ cl → s ≠ cl → bitN (v' 5 a) s = bitN (v 5 a) s) : haS v' cl = haS v cl := by
  have : ∀ k, haU v' cl k = haU v cl k := by
    intro k
    induction k with
    | zero => rfl
    | succ k ih => unfold haU; rw [ih, be_same h hb]
  unfold haS
  rw [this, h 0 0 (by decide)]
theorem bit_eq {a b i j : Nat} (h : bitN a i = 1 ↔ bitN b j = 1) : bitN a i = bitN b j := by
  have := bit_01 a i
  have := bit_01 b j
  by_cases q : bitN a i = 1
  · rw [q, h.mp q]
  · have : ¬ bitN b j = 1 := fun z => q (h.mpr z)
    omega
-- a pair with the closed shop changes nothing
theorem ha_touch {v : VW} (hw : wfV v) {a b cl : Nat} (ha : a < v 0 0) (hb : b < v 0 0) (hab : a ≠ b) (ht : a = cl ∨ b = cl) : haS (adN v a b) cl = haS v cl := by
  refine ha_same (fun i j hi => ad_o v a b hi j) (fun i s hi hs hic hsc => bit_eq ?_)
  rw [ad_bit hw ha hb hab hi hs]
  omega
theorem ha_touch2 {v : VW} (hw : wfV v) {a b c d cl : Nat} (ha : a < v 0 0) (hb : b < v 0 0) (hab : a ≠ b) (hc : c < v 0 0) (hd : d < v 0 0) (hcd : c ≠ d) (ht : a = cl ∨ b = cl) : haS (adN (adN v a b) c d) cl = haS (adN v c d) cl := by
  have e00 : adN v a b 0 0 = v 0 0 := ad_o v a b (by decide) 0
  have e01 : adN v c d 0 0 = v 0 0 := ad_o v c d (by decide) 0
  refine ha_same (fun i j hi => by rw [ad_o _ _ _ hi, ad_o _ _ _ hi, ad_o _ _ _ hi]) (fun i s hi hs hic hsc => bit_eq ?_)
  rw [e01] at hi hs
  rw [ad_bit (wf_ad hw ha hb hab) (by rw [e00]; exact hc) (by rw [e00]; exact hd) hcd (by rw [e00]; exact hi) (by rw [e00]; exact hs), ad_bit hw ha hb hab hi hs, ad_bit hw hc hd hcd hi hs]
  omega
