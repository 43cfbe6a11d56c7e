-- a view with one number changed
def sv (v : VW) (i j x : Nat) : VW := fun a b => if a = i ∧ b = j then x else v a b
theorem sv_e (v : VW) (i j x : Nat) : sv v i j x i j = x := if_pos ⟨rfl, rfl⟩
theorem sv_i (v : VW) (i j x : Nat) {a b : Nat} (h : a ≠ i) : sv v i j x a b = v a b := if_neg (fun z => h z.1)
theorem sv_j (v : VW) (i j x : Nat) {a b : Nat} (h : b ≠ j) : sv v i j x a b = v a b := if_neg (fun z => h z.2)
theorem sv_sv (v : VW) (i j x y : Nat) : sv (sv v i j x) i j y = sv v i j y := by
  funext a b
  unfold sv
  by_cases h : a = i ∧ b = j
  · rw [if_pos h, if_pos h]
  · rw [if_neg h, if_neg h, if_neg h]
theorem sv_id (v : VW) (i j : Nat) {x : Nat} (hx : v i j = x) : sv v i j x = v := by
  funext a b
  unfold sv
  by_cases h : a = i ∧ b = j
  · rw [if_pos h, h.1, h.2, hx]
  · rw [if_neg h]
theorem sv_sw (v : VW) {i j a b : Nat} (x y : Nat) (h : ¬ (i = a ∧ j = b)) : sv (sv v i j x) a b y = sv (sv v a b y) i j x := by
  funext c d
  unfold sv
  by_cases h1 : c = a ∧ d = b
  · by_cases h2 : c = i ∧ d = j
    · exact absurd ⟨h2.1.symm.trans h1.1, h2.2.symm.trans h1.2⟩ h
    · rw [if_pos h1, if_neg h2, if_pos h1]
  · by_cases h2 : c = i ∧ d = j
    · rw [if_neg h1, if_pos h2, if_pos h2]
    · rw [if_neg h1, if_neg h2, if_neg h2, if_neg h1]
-- how far each row goes, and where its numbers lie
def lim (v : VW) (i : Nat) : Nat := if i = 0 then 7 else if i ≤ 5 then v 0 0 else if i = 6 then v 0 4 else if i = 7 then v 0 5 else v 0 6
def capV (i : Nat) : Nat := if i = 0 then 7 else if i ≤ 5 then 6 else if i = 6 then 12 else if i = 7 then 200 else 6
def z0M (j : Nat) : Nat := if j = 0 then 259 else if j = 1 then 30 else if j = 2 then 31 else if j = 3 then 32 else if j = 4 then 33 else if j = 5 then 46 else 260
def slM (i j : Nat) : Nat := if i = 0 then z0M j else if i ≤ 4 then 4 * j + (i - 1) else if i = 5 then 24 + j else if i = 6 then 34 + j else if i = 7 then 47 + j else if i = 8 then 247 + 2 * j else 247 + 2 * j + 1
def z0C (j : Nat) : Nat := if j = 0 then 0 else if j = 1 then 6 else if j = 2 then 7 else if j = 3 then 8 else if j = 4 then 9 else if j = 5 then 11 else 13
def slC (i j : Nat) : Nat := if i = 0 then z0C j else j
def rM (L : Nat → Nat) (v : VW) (f : Nat → Int32) : Prop := ∀ i j, i ≤ 9 → j < L i → f (slM i j) = nI (v i j)
def rC (L : Nat → Nat) (v : VW) (S : ST) (b : Nat) : Prop := ∀ i j, i ≤ 9 → j < L i → S (b + i) (slC i j) = nI (v i j)
theorem seven {j : Nat} (h : j < 7) : j = 0 ∨ j = 1 ∨ j = 2 ∨ j = 3 ∨ j = 4 ∨ j = 5 ∨ j = 6 := by omega
theorem ten {j : Nat} (h : j ≤ 9) : j = 0 ∨ j = 1 ∨ j = 2 ∨ j = 3 ∨ j = 4 ∨ j = 5 ∨ j = 6 ∨ j = 7 ∨ j = 8 ∨ j = 9 := by omega
theorem rM_of {v : VW} {f : Nat → Int32} (h : rlM v f) : rM (lim v) v f := by
  obtain ⟨a1, a2, a3, a4, a5, a6, a7, a8, a9, b1, b2⟩ := h
  intro i j hi hj
  rcases ten hi with rfl | rfl | rfl | rfl | rfl | rfl | rfl | rfl | rfl | rfl
  · rcases seven hj with rfl | rfl | rfl | rfl | rfl | rfl | rfl
    · exact a1
    · exact a2
    · exact a3
    · exact a4
    · exact a5
    · exact a6
    · exact a7
  · exact (a8 j hj).1
  · exact (a8 j hj).2.1
  · exact (a8 j hj).2.2.1
  · exact (a8 j hj).2.2.2.1
  · exact (a8 j hj).2.2.2.2
  · exact a9 j hj
  · exact b1 j hj
  · exact (b2 j hj).1
  · exact (b2 j hj).2
theorem rM_to {v : VW} {f : Nat → Int32} (h : rM (lim v) v f) : rlM v f :=
  ⟨h 0 0 (by decide) (by show 0 < 7; decide), h 0 1 (by decide) (by show 1 < 7; decide), h 0 2 (by decide) (by show 2 < 7; decide), h 0 3 (by decide) (by show 3 < 7; decide), h 0 4 (by decide) (by show 4 < 7; decide), h 0 5 (by decide) (by show 5 < 7; decide), h 0 6 (by decide) (by show 6 < 7; decide),
   fun i hi => ⟨h 1 i (by decide) hi, h 2 i (by decide) hi, h 3 i (by decide) hi, h 4 i (by decide) hi, h 5 i (by decide) hi⟩, fun i hi => h 6 i (by decide) hi, fun i hi => h 7 i (by decide) hi, fun i hi => ⟨h 8 i (by decide) hi, h 9 i (by decide) hi⟩⟩
theorem rC_of {v : VW} {S : ST} {b : Nat} (h : rlC v S b) : rC (lim v) v S b := by
  obtain ⟨a1, a2, a3, a4, a5, a6, a7, a8, a9, b1, b2⟩ := h
  intro i j hi hj
  rcases ten hi with rfl | rfl | rfl | rfl | rfl | rfl | rfl | rfl | rfl | rfl
  · rcases seven hj with rfl | rfl | rfl | rfl | rfl | rfl | rfl
    · exact a1
    · exact a2
    · exact a3
    · exact a4
    · exact a5
    · exact a6
    · exact a7
  · exact (a8 j hj).1
  · exact (a8 j hj).2.1
  · exact (a8 j hj).2.2.1
  · exact (a8 j hj).2.2.2.1
  · exact (a8 j hj).2.2.2.2
  · exact a9 j hj
  · exact b1 j hj
  · exact (b2 j hj).1
  · exact (b2 j hj).2
theorem rC_to {v : VW} {S : ST} {b : Nat} (h : rC (lim v) v S b) : rlC v S b :=
  ⟨h 0 0 (by decide) (by show 0 < 7; decide), h 0 1 (by decide) (by show 1 < 7; decide), h 0 2 (by decide) (by show 2 < 7; decide), h 0 3 (by decide) (by show 3 < 7; decide), h 0 4 (by decide) (by show 4 < 7; decide), h 0 5 (by decide) (by show 5 < 7; decide), h 0 6 (by decide) (by show 6 < 7; decide),
   fun i hi => ⟨h 1 i (by decide) hi, h 2 i (by decide) hi, h 3 i (by decide) hi, h 4 i (by decide) hi, h 5 i (by decide) hi⟩, fun i hi => h 6 i (by decide) hi, fun i hi => h 7 i (by decide) hi, fun i hi => ⟨h 8 i (by decide) hi, h 9 i (by decide) hi⟩⟩
theorem lim_cap {v : VW} (hw : wfV v) (i : Nat) : lim v i ≤ capV i := by
  have := hw.1; have := hw.2.2.2.2.1; have := hw.2.2.2.2.2.1; have := hw.2.2.2.2.2.2.1
  unfold lim capV
  split
  · omega
  · split
    · omega
    · split
      · omega
      · split <;> omega
theorem z0_inj : ∀ a, a < 7 → ∀ b, b < 7 → z0M a = z0M b → a = b := by decide
theorem z0C_inj : ∀ a, a < 7 → ∀ b, b < 7 → z0C a = z0C b → a = b := by decide
theorem z0M_v {j : Nat} (h : j < 7) : z0M j = 259 ∨ z0M j = 30 ∨ z0M j = 31 ∨ z0M j = 32 ∨ z0M j = 33 ∨ z0M j = 46 ∨ z0M j = 260 := by
  rcases seven h with rfl | rfl | rfl | rfl | rfl | rfl | rfl <;> decide
theorem slM_inj {i j a b : Nat} (hi : i ≤ 9) (ha : a ≤ 9) (hj : j < capV i) (hb : b < capV a) (h : slM i j = slM a b) : i = a ∧ j = b := by
  by_cases hi0 : i = 0
  · subst hi0
    have z := z0M_v hj
    by_cases ha0 : a = 0
    · subst ha0
      exact ⟨rfl, z0_inj j hj b hb h⟩
    · exfalso
      rcases ten ha with rfl | rfl | rfl | rfl | rfl | rfl | rfl | rfl | rfl | rfl <;> simp [slM, capV] at h hb ha0 <;> omega
  · by_cases ha0 : a = 0
    · subst ha0
      have z := z0M_v hb
      exfalso
      rcases ten hi with rfl | rfl | rfl | rfl | rfl | rfl | rfl | rfl | rfl | rfl <;> simp [slM, capV] at h hj hi0 <;> omega
    · unfold slM at h
      unfold capV at hj hb
      rw [if_neg hi0] at h hj
      rw [if_neg ha0] at h hb
      split at h <;> split at h <;> (try split at h) <;> (try split at h) <;> (try split at h) <;> (try split at h) <;> (try split at h) <;> (try split at h) <;> (try split at h) <;> (try split at h) <;> (try split at h) <;> (try split at h) <;> (try split at hj) <;> (try split at hj) <;> (try split at hj) <;> (try split at hb) <;> (try split at hb) <;> (try split at hb) <;> omega
theorem slC_inj {i j b : Nat} (hj : j < capV i) (hb : b < capV i) (h : slC i j = slC i b) : j = b := by
  unfold slC at h
  by_cases hi0 : i = 0
  · subst hi0
    rw [if_pos rfl, if_pos rfl] at h
    exact z0C_inj j hj b hb h
  · rw [if_neg hi0, if_neg hi0] at h
    exact h
-- one number written
theorem rM_sv {L L' : Nat → Nat} {v : VW} {f : Nat → Int32} (h : rM L v f) {a b : Nat} (ha : a ≤ 9) (hb : b < capV a) (x : Nat) (hL : ∀ i, i ≤ 9 → L' i ≤ capV i) (hx : ∀ i j, i ≤ 9 → j < L' i → j < L i ∨ (i = a ∧ j = b)) {k : Nat} (hk : k = slM a b) {y : Int32} (hy : y = nI x) : rM L' (sv v a b x) (upd f k y) := by
  subst hk hy
  intro i j hi hj
  by_cases e : i = a ∧ j = b
  · obtain ⟨rfl, rfl⟩ := e
    rw [upd_e rfl, sv_e]
  · have h1 : ¬ slM i j = slM a b := fun z => e (slM_inj hi ha (Nat.lt_of_lt_of_le hj (hL i hi)) hb z)
    unfold upd
    rw [if_neg h1, sv, if_neg e]
    exact h i j hi ((hx i j hi hj).resolve_right e)
theorem rC_sv {L L' : Nat → Nat} {v : VW} {S : ST} {c : Nat} (h : rC L v S c) {a b : Nat} (ha : a ≤ 9) (hb : b < capV a) (x : Nat) (hL : ∀ i, i ≤ 9 → L' i ≤ capV i) (hx : ∀ i j, i ≤ 9 → j < L' i → j < L i ∨ (i = a ∧ j = b)) {m k : Nat} (hm : m = c + a) (hk : k = slC a b) {y : Int32} (hy : y = nI x) : rC L' (sv v a b x) (us S m k y) c := by
  subst hm hk hy
  intro i j hi hj
  by_cases e : i = a ∧ j = b
  · obtain ⟨rfl, rfl⟩ := e
    rw [us_s, sv_e]
  · rw [sv, if_neg e]
    have h2 := h i j hi ((hx i j hi hj).resolve_right e)
    by_cases hia : i = a
    · subst hia
      have h1 : ¬ slC i j = slC i b := fun z => e ⟨rfl, slC_inj (Nat.lt_of_lt_of_le hj (hL i hi)) hb z⟩
      rw [us_k _ _ _ _ h1]
      exact h2
    · rw [us_n _ _ _ _ (by omega)]
      exact h2
-- a number that is no count
theorem lim_sv {v : VW} {a b x : Nat} (h : a ≠ 0 ∨ (b ≠ 0 ∧ b ≠ 4 ∧ b ≠ 5 ∧ b ≠ 6)) : lim (sv v a b x) = lim v := by
  funext i
  unfold lim
  have e : ∀ j, (j = 0 ∨ j = 4 ∨ j = 5 ∨ j = 6) → sv v a b x 0 j = v 0 j := by
    intro j hj
    unfold sv
    rw [if_neg (by omega)]
  rw [e 0 (by omega), e 4 (by omega), e 5 (by omega), e 6 (by omega)]
theorem rlM_sv {v : VW} (hw : wfV v) {f : Nat → Int32} (h : rlM v f) {a b : Nat} (ha : a ≤ 9) (hb : b < capV a) (x : Nat) (hc : a ≠ 0 ∨ (b ≠ 0 ∧ b ≠ 4 ∧ b ≠ 5 ∧ b ≠ 6)) {k : Nat} (hk : k = slM a b) {y : Int32} (hy : y = nI x) : rlM (sv v a b x) (upd f k y) := by
  refine rM_to ?_
  rw [lim_sv hc]
  exact rM_sv (rM_of h) ha hb x (fun i _ => lim_cap hw i) (fun i j _ hj => Or.inl hj) hk hy
theorem rlC_sv {v : VW} (hw : wfV v) {S : ST} {c : Nat} (h : rlC v S c) {a b : Nat} (ha : a ≤ 9) (hb : b < capV a) (x : Nat) (hc : a ≠ 0 ∨ (b ≠ 0 ∧ b ≠ 4 ∧ b ≠ 5 ∧ b ≠ 6)) {m k : Nat} (hm : m = c + a) (hk : k = slC a b) {y : Int32} (hy : y = nI x) : rlC (sv v a b x) (us S m k y) c := by
  refine rC_to ?_
  rw [lim_sv hc]
  exact rC_sv (rC_of h) ha hb x (fun i _ => lim_cap hw i) (fun i j _ hj => Or.inl hj) hm hk hy
-- both, when the street is another
theorem RM_v {v v' v1 v2 : VW} {k0 k1 : Nat} {r : Nat → Int32} {S S' : ST} (h1 : rlM v' (S' 1)) (h : ∀ i, 2 ≤ i ∧ i ≤ 4 → S' i = S i) (hM : RM v v1 v2 k0 k1 r S) : RM v' v1 v2 k0 k1 r S' := by
  unfold RM
  rw [h 2 (by decide), h 3 (by decide), h 4 (by decide)]
  exact ⟨h1, hM.2⟩
theorem RC_v {v v' v1 v2 : VW} {k0 k1 : Nat} {r : Nat → Int32} {S S' : ST} (h1 : rlC v' S' 0) (h : ∀ i, (20 ≤ i ∧ i < 40) ∨ (52 ≤ i ∧ i ≤ 53) → S' i = S i) (h0 : S' 42 0 = 0 ∧ S' 43 0 = 0 ∧ S' 44 0 = 0 ∧ S' 45 0 = 0) (hC : RC v v1 v2 k0 k1 r S) : RC v' v1 v2 k0 k1 r S' := by
  obtain ⟨a1, a2, a3, a4, a5, a6, -⟩ := hC
  refine ⟨h1, by rw [h 52 (by omega)]; exact a2, by rw [h 52 (by omega)]; exact a3, fun q => rlC_sm (fun k hk => h _ (by omega)) (a4 q), fun q => rlC_sm (fun k hk => h _ (by omega)) (a5 q), by rw [h 53 (by omega)]; exact a6, h0⟩
theorem F16 : ∀ x, x < 64 → ∀ k, k < 6 → bitN x k = 0 → nI x ^^^ ((1 : Int32) <<< (nI k &&& 31)) = nI (x ||| 2 ^ k) ∧ nI (x ||| 2 ^ k) ^^^ ((1 : Int32) <<< (nI k &&& 31)) = nI x ∧ nI (x ||| 2 ^ k) &&& (((1 : Int32) <<< (nI k &&& 31)) ^^^ (-1)) = nI x ∧ nI x ||| ((1 : Int32) <<< (nI k &&& 31)) = nI (x ||| 2 ^ k) := by decide +kernel
theorem c_isFree (N : Nat) {v : VW} {S : ST} (hw : wfV v) (hr : rlC v S 0) {s : Nat} (hs : s < v 0 0) : f_X2_isFree_0 N S (nI s) = some (tf (bitN (v 0 1) s = 1), S) := by
  have n6 := hw.1
  have nf := hw.2.1
  have b01 := bit_01 (v 0 1) s
  unfold f_X2_isFree_0
  rw [hr.2.1, nI_bit (by omega) (by omega)]
  by_cases hb : bitN (v 0 1) s = 1
  · rw [if_neg (fun q => by have := (nI_n0 (by omega)).mp q; omega), tf_t hb]
  · rw [if_pos (by rw [show bitN (v 0 1) s = 0 by omega]; rfl), tf_f hb]
theorem wf_free {v : VW} (hw : wfV v) {x : Nat} (hx : x < 64) : wfV (sv v 0 1 x) := by
  obtain ⟨a1, a2, a3, a4, a5, a6, a7, a8, a9, b1, b2, b3⟩ := hw
  exact ⟨a1, hx, a3, a4, a5, a6, a7, a8, a9, b1, b2, b3⟩
