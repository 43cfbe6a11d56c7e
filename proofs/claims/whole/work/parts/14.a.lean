-- the class's search: what is best so far, and what a row does to it
def scS (v : VW) (bm : Nat) (p : List Nat) : Nat := if bm = 0 then (walkS v p).2.2.2.2 else (walkS v p).2.2.2.1
abbrev CB : Type := Nat × Nat × Option (List Nat)
abbrev betC (v : VW) (bm : Nat) (b : CB) (p : List Nat) : Prop := scS v bm p < b.1 ∨ scS v bm p = b.1 ∧ p.length < b.2.1
def upC (v : VW) (bm w : Nat) (b : CB) (p : List Nat) : CB := if subN w (walkS v p).2.1 ∧ betC v bm b p then (scS v bm p, p.length, some p) else b
def payS (v : VW) (p : List Nat) (i : Nat) : Nat := (walkS v (p.take (i + 1))).2.2.2.2 - (walkS v (p.take i)).2.2.2.2
def sC (v : VW) (b : CB) (S : ST) : Prop := S 46 6 = nI b.1 ∧ S 46 7 = nI b.2.1 ∧ b.1 ≤ 999 ∧ b.2.1 ≤ 7 ∧ (b.2.2 = none → S 46 5 = 0) ∧ ∀ p, b.2.2 = some p → S 46 5 = 1 ∧ b.2.1 = p.length ∧ gdN v p ∧ S 46 8 = nI (walkS v p).2.2.2.2 ∧ S 46 9 = nI (walkS v p).2.2.2.1 ∧ ∀ i, i < p.length → S 47 i = nI (p.getD i 0) ∧ S 48 i = nI (payS v p i)
theorem fold_id {v : VW} {bm w : Nat} {b : CB} : ∀ {l : List (List Nat)}, (∀ q ∈ l, ¬ betC v bm b q) → l.foldl (upC v bm w) b = b := by
  intro l
  induction l with
  | nil => intro _; rfl
  | cons q l ih =>
    intro h
    have e : upC v bm w b q = b := by
      unfold upC
      rw [if_neg (fun z => h q List.mem_cons_self z.2)]
    rw [List.foldl_cons, e]
    exact ih (fun q' h' => h q' (List.mem_cons_of_mem _ h'))
theorem sc_up {v : VW} (bm : Nat) {p q : List Nat} (h1 : (walkS v p).2.2.2.2 ≤ (walkS v q).2.2.2.2) (h2 : (walkS v p).2.2.2.1 ≤ (walkS v q).2.2.2.1) : scS v bm p ≤ scS v bm q := by
  unfold scS
  split
  · exact h1
  · exact h2
theorem fold_prune {v : VW} (hw : wfV v) {bm w cl d : Nat} {b : CB} {p : List Nat} (hp : gdN v p) (h : ¬ betC v bm b p) : (p :: trS v cl d p).foldl (upC v bm w) b = b := by
  refine fold_id (fun q hq => ?_)
  rcases List.mem_cons.mp hq with h1 | h1
  · rw [h1]; exact h
  · obtain ⟨-, l1, p1, m1⟩ := tr_mem hw d hp h1
    have := sc_up bm p1 m1
    intro z
    apply h
    rcases z with z | z
    · exact Or.inl (by omega)
    · by_cases e : scS v bm p = b.1
      · exact Or.inr ⟨e, by omega⟩
      · exact Or.inl (by omega)
theorem fold_keep {v : VW} (hw : wfV v) {bm w cl d : Nat} {b : CB} {p : List Nat} (hp : gdN v p) (h : betC v bm b p) (hh : subN w (walkS v p).2.1) : (p :: trS v cl d p).foldl (upC v bm w) b = (scS v bm p, p.length, some p) := by
  have e : upC v bm w b p = (scS v bm p, p.length, some p) := by
    unfold upC
    rw [if_pos ⟨hh, h⟩]
  rw [List.foldl_cons, e]
  refine fold_id (fun q hq => ?_)
  obtain ⟨-, l1, p1, m1⟩ := tr_mem hw d hp hq
  have := sc_up bm p1 m1
  intro z
  rcases z with z | z
  · exact absurd z (by show ¬ scS v bm q < scS v bm p; omega)
  · exact absurd z.2 (by show ¬ q.length < p.length; omega)
theorem fold_go {v : VW} {bm w cl d : Nat} {b : CB} {p : List Nat} (hh : ¬ subN w (walkS v p).2.1) : (p :: trS v cl d p).foldl (upC v bm w) b = (trS v cl d p).foldl (upC v bm w) b := by
  have e : upC v bm w b p = b := by
    unfold upC
    rw [if_neg (fun z => hh z.1)]
  rw [List.foldl_cons, e]
theorem tr_sib {v : VW} (hw : wfV v) {cl : Nat} {p : List Nat} (hp : gdN v p) : trS v cl (6 - p.length) p = sibS v cl (5 - p.length) p 0 := by
  have h6 := gd_len hp
  by_cases h : p.length = 6
  · rw [h]
    show [] = _
    unfold sibS
    symm
    rw [List.flatMap_eq_nil_iff]
    intro s hs
    have hs' : s < v 0 0 := by have := List.mem_range'_1.mp hs; omega
    unfold chS
    rw [if_neg (fun z => gd_full_why hw hp h hs' z.2)]
  · rw [show 6 - p.length = (5 - p.length) + 1 by omega, trS_succ]
theorem take_succ {p : List Nat} {i : Nat} (h : i < p.length) : p.take (i + 1) = p.take i ++ [p.getD i 0] := by
  rw [List.take_succ, List.getD_eq_getElem?_getD]
  simp [List.getElem?_eq_getElem h]
theorem pay_eq {v : VW} {p : List Nat} {i : Nat} (h : i < p.length) : (walkS v (p.take i)).2.2.2.2 ≤ (walkS v (p.take (i + 1))).2.2.2.2 := by
  rw [take_succ h, walkS_snoc]
  exact (pay_up v _ _).1
-- what the search leaves
def smS (S S' : ST) : Prop := (∀ i, (i < 41 ∨ 48 < i) → S' i = S i) ∧ S' 46 2 = S 46 2 ∧ S' 46 3 = S 46 3 ∧ S' 46 4 = S 46 4
theorem smS_rf (S : ST) : smS S S := ⟨fun _ _ => rfl, rfl, rfl, rfl⟩
theorem smS_tr {S S1 S2 : ST} (h1 : smS S S1) (h2 : smS S1 S2) : smS S S2 := ⟨fun i hi => (h2.1 i hi).trans (h1.1 i hi), h2.2.1.trans h1.2.1, h2.2.2.1.trans h1.2.2.1, h2.2.2.2.trans h1.2.2.2⟩
theorem smS_W {S S' : ST} (h : smW S S') : smS S S' := ⟨fun i hi => h i (by omega), by rw [h 46 (by omega)], by rw [h 46 (by omega)], by rw [h 46 (by omega)]⟩
theorem rlC_smS {v : VW} {S S' : ST} (h : smS S S') (hr : rlC v S 0) : rlC v S' 0 := rlC_sm (fun k hk => h.1 _ (by omega)) hr
theorem sC_smW {v : VW} {b : CB} {S S' : ST} (h : smW S S') (hs : sC v b S) : sC v b S' := by
  unfold sC
  rw [h 46 (by omega), h 47 (by omega), h 48 (by omega)]
  exact hs
theorem lvC_same {v : VW} {p : List Nat} {S S' : ST} (h : ∀ i, 41 ≤ i ∧ i ≤ 45 → S' i = S i) (hl : lvC v p S) : lvC v p S' := by
  unfold lvC
  rw [h 41 (by omega), h 42 (by omega), h 43 (by omega), h 44 (by omega), h 45 (by omega)]
  exact hl
theorem c_score (N : Nat) {v : VW} {S : ST} {p : List Nat} (hp : gdN v p) (hl : lvC v p S) {bm : Nat} (hb : S 46 4 = nI bm) (hb1 : bm ≤ 1) : f_X1_score N S (nI p.length) = some (nI (scS v bm p), S) := by
  have h6 := gd_len hp
  obtain ⟨p1, p2, p3, p4⟩ := lvC_top hl
  have i7 := ixo (k := p.length) (L := 7) (by omega) (by decide)
  unfold f_X1_score scS
  simp only [if_neg i7]
  rw [hb, nI_clamp (by omega), p3, p4]
  have e : (nI bm = 0) ↔ bm = 0 := nI_n0 (by omega)
  simp only [e]
  by_cases h : bm = 0
  · rw [if_pos h, if_pos h]
  · rw [if_neg h, if_neg h]
theorem sc_le {v : VW} (hw : wfV v) {p : List Nat} (hp : gdN v p) (bm : Nat) : scS v bm p ≤ 999 := by
  have h1 := hp.2.2.2.1
  have h2 := hp.2.2.2.2.1
  have h3 := hw.2.2.1
  unfold scS
  split <;> omega
theorem c_isBetter (N : Nat) {v : VW} (hw : wfV v) {S : ST} {p : List Nat} (hp : gdN v p) (hl : lvC v p S) {bm : Nat} (hb : S 46 4 = nI bm) (hb1 : bm ≤ 1) {b : CB} (hs : sC v b S) : f_X1_isBetter N S (nI p.length) = some (tf (betC v bm b p), S) := by
  have h6 := gd_len hp
  have hsc := sc_le hw hp bm
  obtain ⟨s1, s2, s3, s4, -⟩ := hs
  unfold f_X1_isBetter
  rw [c_score N hp hl hb hb1, bd2_s, s1, s2]
  have e1 : (nI (scS v bm p) < nI b.1) ↔ scS v bm p < b.1 := nI_ltI (by omega) (by omega)
  have e2 : (nI (scS v bm p) = nI b.1) ↔ scS v bm p = b.1 := nI_eq (by omega) (by omega)
  have e3 : (nI b.2.1 ≤ nI p.length) ↔ b.2.1 ≤ p.length := nI_leI (by omega) (by omega)
  simp only [e1, e2, e3]
  by_cases h1 : scS v bm p < b.1
  · rw [if_pos h1, tf_t (Or.inl h1)]
  · rw [if_neg h1]
    by_cases h2 : scS v bm p = b.1
    · rw [if_pos h2]
      by_cases h3 : b.2.1 ≤ p.length
      · rw [if_pos h3, tf_f (fun z => z.elim h1 (fun q => by omega))]
      · rw [if_neg h3, tf_t (Or.inr ⟨h2, by omega⟩)]
    · rw [if_neg h2, tf_f (fun z => z.elim h1 (fun q => h2 q.1))]
theorem keep_loop (N : Nat) {L : Nat} (hL : L ≤ 6) : ∀ (n : Nat) {S : ST} {k : Nat}, k ≤ L → L < k + n →
    ∃ S', b_X1_keep_47 N n S (nI L) (nI k) = some S' ∧ (∀ i, i ≠ 47 → i ≠ 48 → S' i = S i) ∧ (∀ i, i < k → S' 47 i = S 47 i ∧ S' 48 i = S 48 i) ∧ ∀ i, k ≤ i → i < L → S' 47 i = S 41 i ∧ S' 48 i = S 45 (i + 1) - S 45 i := by
  intro n
  induction n with
  | zero => intro S k h1 h2; omega
  | succ n ih =>
    intro S k h1 h2
    rw [b_X1_keep_47]
    by_cases he : L ≤ k
    · rw [if_pos ((nI_leI (by omega) (by omega)).mpr he)]
      exact ⟨S, rfl, fun _ _ _ => rfl, fun _ _ => ⟨rfl, rfl⟩, fun i h3 h4 => by omega⟩
    · have i6 := ixo (k := k) (L := 6) (by omega) (by decide)
      have i7 := ixo (k := k) (L := 7) (by omega) (by decide)
      have j7 := ixo (k := k + 1) (L := 7) (by omega) (by decide)
      rw [if_neg (fun q => he ((nI_leI (by omega) (by omega)).mp q)), nI_1]
      simp only [if_neg i6, if_neg i7, if_neg j7, nm_s]
      rw [nI_clamp (n := k) (by omega), nI_clamp (n := k + 1) (by omega), us_n _ _ _ _ (show 45 ≠ 47 by decide)]
      obtain ⟨S', e, a1, a2, a3⟩ := ih (S := us (us S 47 k (S 41 k)) 48 k (S 45 (k + 1) - S 45 k)) (k := k + 1) (by omega) (by omega)
      refine ⟨S', e, fun i h3 h4 => by rw [a1 i h3 h4, us_n _ _ _ _ h4, us_n _ _ _ _ h3], fun i h3 => ?_, fun i h3 h4 => ?_⟩
      · obtain ⟨b1, b2⟩ := a2 i (by omega)
        rw [b1, b2, us_n _ _ _ _ (show 47 ≠ 48 by decide), us_k _ _ _ _ (by omega), us_k _ _ _ _ (by omega), us_n _ _ _ _ (show 48 ≠ 47 by decide)]
        exact ⟨rfl, rfl⟩
      · by_cases hk : i = k
        · subst hk
          obtain ⟨b1, b2⟩ := a2 i (by omega)
          rw [b1, b2, us_n _ _ _ _ (show 47 ≠ 48 by decide), us_s, us_s]
          exact ⟨rfl, rfl⟩
        · obtain ⟨b1, b2⟩ := a3 i (by omega) h4
          rw [b1, b2, us_n _ _ _ _ (show 41 ≠ 48 by decide), us_n _ _ _ _ (show 41 ≠ 47 by decide), us_n _ _ _ _ (show 45 ≠ 48 by decide), us_n _ _ _ _ (show 45 ≠ 47 by decide)]
          exact ⟨rfl, rfl⟩
theorem c_keep {N : Nat} (hN : 20 ≤ N) {v : VW} (hw : wfV v) {S : ST} {p : List Nat} (hp : gdN v p) (hl : lvC v p S) {bm : Nat} (hb : S 46 4 = nI bm) (hb1 : bm ≤ 1) : ∃ S', f_X1_keep N S (nI p.length) = some S' ∧ sC v (scS v bm p, p.length, some p) S' ∧ lvC v p S' ∧ smS S S' := by
  have h6 := gd_len hp
  obtain ⟨p1, p2, p3, p4⟩ := lvC_top hl
  have i7 := ixo (k := p.length) (L := 7) (by omega) (by decide)
  have hl1 : lvC v p (us S 46 5 1) := lvC_us hl (by omega) _ _
  unfold f_X1_keep
  rw [nm_s, c_score N hp hl1 (by rw [us_k _ _ _ _ (by decide)]; exact hb) hb1, bd2_s]
  simp only [if_neg i7, nm_s]
  rw [nI_clamp (by omega)]
  have eA : us (us (us S 46 5 1) 46 6 (nI (scS v bm p))) 46 7 (nI p.length) 45 p.length = nI (walkS v p).2.2.2.2 := by
    rw [us_n _ _ _ _ (by decide), us_n _ _ _ _ (by decide), us_n _ _ _ _ (by decide)]; exact p4
  rw [eA]
  have eB : us (us (us (us S 46 5 1) 46 6 (nI (scS v bm p))) 46 7 (nI p.length)) 46 8 (nI (walkS v p).2.2.2.2) 44 p.length = nI (walkS v p).2.2.2.1 := by
    rw [us_n _ _ _ _ (by decide), us_n _ _ _ _ (by decide), us_n _ _ _ _ (by decide), us_n _ _ _ _ (by decide)]; exact p3
  rw [eB]
  generalize hT : us (us (us (us (us S 46 5 1) 46 6 (nI (scS v bm p))) 46 7 (nI p.length)) 46 8 (nI (walkS v p).2.2.2.2)) 46 9 (nI (walkS v p).2.2.2.1) = T
  obtain ⟨S', e, a1, a2, a3⟩ := keep_loop N h6 N (S := T) (k := 0) (Nat.zero_le _) (by omega)
  have o46 : S' 46 = T 46 := a1 46 (by decide) (by decide)
  have oth : ∀ i, i ≠ 46 → T i = S i := by
    intro i hi
    rw [← hT, us_n _ _ _ _ hi, us_n _ _ _ _ hi, us_n _ _ _ _ hi, us_n _ _ _ _ hi, us_n _ _ _ _ hi]
  have lT : lvC v p T := lvC_same (fun i hi => oth i (by omega)) hl
  refine ⟨S', e, ⟨?_, ?_, sc_le hw hp bm, by show p.length ≤ 7; omega, (fun h => by cases h), fun q hq => ?_⟩, lvC_same (fun i hi => a1 i (by omega) (by omega)) lT, ⟨fun i hi => by rw [a1 i (by omega) (by omega), oth i (by omega)], ?_, ?_, ?_⟩⟩
  · rw [o46, ← hT, us_k _ _ _ _ (by decide), us_k _ _ _ _ (by decide), us_k _ _ _ _ (by decide), us_s]
  · rw [o46, ← hT, us_k _ _ _ _ (by decide), us_k _ _ _ _ (by decide), us_s]
  · cases hq
    refine ⟨?_, rfl, hp, ?_, ?_, fun i hi => ?_⟩
    · rw [o46, ← hT, us_k _ _ _ _ (by decide), us_k _ _ _ _ (by decide), us_k _ _ _ _ (by decide), us_k _ _ _ _ (by decide), us_s]
    · rw [o46, ← hT, us_k _ _ _ _ (by decide), us_s]
    · rw [o46, ← hT, us_s]
    · obtain ⟨b1, b2⟩ := a3 i (Nat.zero_le _) hi
      rw [b1, b2, lT.2 i hi, (lT.1 (i + 1) (by omega)).2.2.2, (lT.1 i (by omega)).2.2.2, pk_sub (pay_eq hi)]
      exact ⟨rfl, rfl⟩
  · rw [o46, ← hT, us_k _ _ _ _ (by decide), us_k _ _ _ _ (by decide), us_k _ _ _ _ (by decide), us_k _ _ _ _ (by decide), us_k _ _ _ _ (by decide)]
  · rw [o46, ← hT, us_k _ _ _ _ (by decide), us_k _ _ _ _ (by decide), us_k _ _ _ _ (by decide), us_k _ _ _ _ (by decide), us_k _ _ _ _ (by decide)]
  · rw [o46, ← hT, us_k _ _ _ _ (by decide), us_k _ _ _ _ (by decide), us_k _ _ _ _ (by decide), us_k _ _ _ _ (by decide), us_k _ _ _ _ (by decide)]
