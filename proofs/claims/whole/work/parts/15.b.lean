theorem m_note {N : Nat} (hN : 70 ≤ N) {v : VW} (hw : wfV v) {p : List Nat} (hp : gdN v p) (hne : p ≠ []) {S : ST} (h11 : ∀ i, i < p.length → S 11 i = nI (p.getD i 0)) {T : Nat → BR} {so : Nat → Nat} (ht : tbM T so S) (hm : wM (walkS v p) S) :
    ∃ S', f_X5_note N S (nI p.length) = some S' ∧ tbM (up1 v p 1 T) (um1 v p 1 so) S' ∧ ∀ i, i < 6 ∨ 10 < i → S' i = S i := by
  have h6 := gd_len hp
  have e := note6 N h6 h11 p.length N (Nat.le_refl _) (by omega)
  rw [List.drop_length] at e
  unfold f_X5_note
  replace e : b_X5_note_6 N N S (nI p.length) 0 (nI p.length - 1) = b_X5_note_30 N N S (nI p.length) (nI (cdS p)) 1 := e
  rw [e]
  exact note30 N hw hp N (k := 1) (by decide) (by decide) (by omega) ht hm
-- what the loop keeps of a row that is gone, level by level
def lvM (v : VW) (p : List Nat) (S : ST) : Prop := (∀ i, i ≤ p.length → S 12 i = nI (walkS v (p.take i)).2.1 ∧ S 13 i = nI (walkS v (p.take i)).2.2.2.2 ∧ S 14 i = nI (walkS v (p.take i)).2.2.2.1 ∧ S 15 i = nI (walkS v (p.take i)).2.2.1) ∧ ∀ i, i < p.length → S 11 i = nI (p.getD i 0)
theorem lvM_top {v : VW} {p : List Nat} {S : ST} (h : lvM v p S) : S 12 p.length = nI (walkS v p).2.1 ∧ S 13 p.length = nI (walkS v p).2.2.2.2 ∧ S 14 p.length = nI (walkS v p).2.2.2.1 ∧ S 15 p.length = nI (walkS v p).2.2.1 := by
  have := h.1 p.length (Nat.le_refl _)
  rw [List.take_length] at this
  exact this
theorem lvM_same {v : VW} {p : List Nat} {S S' : ST} (h : ∀ i, 11 ≤ i ∧ i ≤ 15 → S' i = S i) (hl : lvM v p S) : lvM v p S' := by
  unfold lvM
  rw [h 11 (by omega), h 12 (by omega), h 13 (by omega), h 14 (by omega), h 15 (by omega)]
  exact hl
theorem lvM_pre {v : VW} {p : List Nat} {s : Nat} {S : ST} (h : lvM v (p ++ [s]) S) : lvM v p S := by
  have hl : (p ++ [s]).length = p.length + 1 := by simp
  refine ⟨fun i hi => ?_, fun i hi => ?_⟩
  · have := h.1 i (by omega)
    rw [take_pre hi] at this
    exact this
  · rw [h.2 i (by omega), getD_pre hi]
theorem lvM_11 {v : VW} {p : List Nat} {S : ST} (h : lvM v p S) {k : Nat} (hk : p.length ≤ k) (x : Int32) : lvM v p (us S 11 k x) := by
  refine ⟨fun i hi => ?_, fun i hi => ?_⟩
  · rw [us_n _ _ _ _ (show 12 ≠ 11 by decide), us_n _ _ _ _ (show 13 ≠ 11 by decide), us_n _ _ _ _ (show 14 ≠ 11 by decide), us_n _ _ _ _ (show 15 ≠ 11 by decide)]
    exact h.1 i hi
  · rw [us_k _ _ _ _ (by omega)]
    exact h.2 i hi
theorem last_walk {v : VW} {q : List Nat} {s : Nat} : (walkS v (q ++ [s])).1 = s + 1 := by rw [walkS_snoc]; rfl
theorem m_backTo (N : Nat) {v : VW} {S : ST} {p : List Nat} (hp : gdN v p) (hl : lvM v p S) : ∃ S', f_X5_backTo N S (nI p.length) = some S' ∧ sm0 S S' ∧ wM (walkS v p) S' := by
  have h6 := gd_len hp
  obtain ⟨p1, p2, p3, p4⟩ := lvM_top hl
  have i7 := ixo (k := p.length) (L := 7) (by omega) (by decide)
  unfold f_X5_backTo b_X5_backTo_57
  simp only [if_neg i7, nm_s]
  rw [nI_clamp (n := p.length) (by omega), p1, us_n _ _ _ _ (show 13 ≠ 0 by decide), p2, us_n _ _ _ _ (show 14 ≠ 0 by decide), us_n _ _ _ _ (show 14 ≠ 0 by decide), p3, us_n _ _ _ _ (show 15 ≠ 0 by decide), us_n _ _ _ _ (show 15 ≠ 0 by decide), us_n _ _ _ _ (show 15 ≠ 0 by decide), p4]
  have key : ∀ x : Int32, x = (if (walkS v p).1 = 0 then -1 else nI ((walkS v p).1 - 1)) → sm0 S (us (us (us (us (us S 0 5 (nI (walkS v p).2.1)) 0 6 (nI (walkS v p).2.2.2.2)) 0 7 (nI (walkS v p).2.2.2.1)) 0 8 (nI (walkS v p).2.2.1)) 0 4 x) ∧ wM (walkS v p) (us (us (us (us (us S 0 5 (nI (walkS v p).2.1)) 0 6 (nI (walkS v p).2.2.2.2)) 0 7 (nI (walkS v p).2.2.2.1)) 0 8 (nI (walkS v p).2.2.1)) 0 4 x) := by
    intro x hx
    refine ⟨sm0_tr (sm0_us _ (by decide) _) (sm0_tr (sm0_us _ (by decide) _) (sm0_tr (sm0_us _ (by decide) _) (sm0_tr (sm0_us _ (by decide) _) (sm0_us _ (by decide) _)))), ?_, ?_, ?_, ?_, ?_⟩
    · rw [us_s]; exact hx
    · rw [us_k _ _ _ _ (by decide), us_k _ _ _ _ (by decide), us_k _ _ _ _ (by decide), us_k _ _ _ _ (by decide), us_s]
    · rw [us_k _ _ _ _ (by decide), us_s]
    · rw [us_k _ _ _ _ (by decide), us_k _ _ _ _ (by decide), us_s]
    · rw [us_k _ _ _ _ (by decide), us_k _ _ _ _ (by decide), us_k _ _ _ _ (by decide), us_s]
  by_cases h0 : p = []
  · subst h0
    rw [if_pos (show nI ([] : List Nat).length = 0 from rfl)]
    exact ⟨_, rfl, key (-1) rfl⟩
  · obtain ⟨q, s, rfl⟩ := snoc_of h0
    have hlen : (q ++ [s]).length = q.length + 1 := by simp
    rw [hlen] at h6 ⊢
    rw [if_neg (show ¬ nI (q.length + 1) = 0 from fun z => by have := (nI_n0 (by omega)).mp z; omega), nI_m1 (by omega), Nat.add_sub_cancel, ck (by omega) (by decide), nI_clamp (by omega), us_n _ _ _ _ (show 11 ≠ 0 by decide), us_n _ _ _ _ (show 11 ≠ 0 by decide), us_n _ _ _ _ (show 11 ≠ 0 by decide), us_n _ _ _ _ (show 11 ≠ 0 by decide), hl.2 q.length (by omega), getD_last]
    exact ⟨_, rfl, key (nI s) (by rw [last_walk, if_neg (by omega), Nat.add_sub_cancel])⟩
theorem m_keepState (N : Nat) {v : VW} {S : ST} {p : List Nat} (h6 : p.length ≤ 5) {s : Nat} (hl : lvM v p S) (h11 : S 11 p.length = nI s) (hm : wM (walkS v (p ++ [s])) S) : ∃ S', f_X5_keepState N S (nI (p.length + 1)) = some S' ∧ lvM v (p ++ [s]) S' ∧ ∀ i, i < 12 ∨ 15 < i → S' i = S i := by
  have hlen : (p ++ [s]).length = p.length + 1 := by simp
  obtain ⟨m1, m2, m3, m4, m5⟩ := hm
  have i7 := ixo (k := p.length + 1) (L := 7) (by omega) (by decide)
  unfold f_X5_keepState
  simp only [if_neg i7, nm_s]
  rw [nI_clamp (n := p.length + 1) (by omega), m2, us_n _ _ _ _ (show 0 ≠ 12 by decide), m5, us_n _ _ _ _ (show 0 ≠ 13 by decide), us_n _ _ _ _ (show 0 ≠ 12 by decide), m4, us_n _ _ _ _ (show 0 ≠ 14 by decide), us_n _ _ _ _ (show 0 ≠ 13 by decide), us_n _ _ _ _ (show 0 ≠ 12 by decide), m3]
  refine ⟨_, rfl, ⟨fun i hi => ?_, fun i hi => ?_⟩, fun i hi => by rw [us_n _ _ _ _ (by omega), us_n _ _ _ _ (by omega), us_n _ _ _ _ (by omega), us_n _ _ _ _ (by omega)]⟩
  · rw [us_n _ _ _ _ (show 12 ≠ 15 by decide), us_n _ _ _ _ (show 12 ≠ 14 by decide), us_n _ _ _ _ (show 12 ≠ 13 by decide), us_r, us_n _ _ _ _ (show 13 ≠ 15 by decide), us_n _ _ _ _ (show 13 ≠ 14 by decide), us_r, us_n _ _ _ _ (show 13 ≠ 12 by decide), us_n _ _ _ _ (show 14 ≠ 15 by decide), us_r, us_n _ _ _ _ (show 14 ≠ 13 by decide), us_n _ _ _ _ (show 14 ≠ 12 by decide), us_r, us_n _ _ _ _ (show 15 ≠ 14 by decide), us_n _ _ _ _ (show 15 ≠ 13 by decide), us_n _ _ _ _ (show 15 ≠ 12 by decide)]
    by_cases h : i = p.length + 1
    · subst h
      rw [← hlen, List.take_length, hlen, pk_us, pk_us, pk_us, pk_us]
      exact ⟨rfl, rfl, rfl, rfl⟩
    · rw [pk_un h, pk_un h, pk_un h, pk_un h, take_pre (by omega)]
      exact hl.1 i (by omega)
  · rw [us_n _ _ _ _ (show 11 ≠ 15 by decide), us_n _ _ _ _ (show 11 ≠ 14 by decide), us_n _ _ _ _ (show 11 ≠ 13 by decide), us_n _ _ _ _ (show 11 ≠ 12 by decide)]
    by_cases h : i = p.length
    · subst h
      rw [h11, getD_last]
    · rw [getD_pre (by omega)]
      exact hl.2 i (by omega)
-- what is left to be seen, and how many turns at most
def rmU (v : VW) (cl : Nat) (p : List Nat) : Nat → List (List Nat)
  | 0 => []
  | i + 1 => sibS v cl (5 - i) (p.take i) (p.getD i 0 + 1) ++ rmU v cl p i
theorem rmU_pre (v : VW) (cl : Nat) (q : List Nat) (s : Nat) : ∀ i, i ≤ q.length → rmU v cl (q ++ [s]) i = rmU v cl q i := by
  intro i
  induction i with
  | zero => intro _; rfl
  | succ i ih =>
    intro h
    unfold rmU
    rw [take_pre (by omega), getD_pre (by omega), ih (by omega)]
def bbN (n : Nat) : Nat → Nat
  | 0 => 0
  | r + 1 => n * (1 + bbN n r) + 1
def poN (n i k : Nat) : Nat := (n - k) * (1 + bbN n (6 - i)) + 1
def phU (n : Nat) (p : List Nat) : Nat → Nat
  | 0 => 0
  | i + 1 => poN n i (p.getD i 0 + 1) + phU n p i
theorem phU_pre (n : Nat) (q : List Nat) (s : Nat) : ∀ i, i ≤ q.length → phU n (q ++ [s]) i = phU n q i := by
  intro i
  induction i with
  | zero => intro _; rfl
  | succ i ih =>
    intro h
    unfold phU
    rw [getD_pre (by omega), ih (by omega)]
theorem po_step {n i k : Nat} (h : k < n) : poN n i k = (1 + bbN n (6 - i)) + poN n i (k + 1) := by
  unfold poN
  rw [show n - k = (n - (k + 1)) + 1 by omega, Nat.add_mul]
  omega
theorem po_0 {n i : Nat} (h : i ≤ 5) : poN n (i + 1) 0 = bbN n (6 - i) := by
  unfold poN
  rw [show 6 - i = (6 - (i + 1)) + 1 by omega]
  rfl
theorem po_pos (n i k : Nat) : 1 ≤ poN n i k := Nat.le_add_left 1 _
theorem bb_top : ∀ n, n ≤ 6 → poN n 0 0 ≤ 391909 := by decide +kernel
def kM (S S' : ST) : Prop := ∀ i, (1 ≤ i ∧ i ≤ 5) ∨ 15 < i → S' i = S i
def kX (S S' : ST) : Prop := (∀ i, (1 ≤ i ∧ i ≤ 5) ∨ 15 < i → S' i = S i) ∧ S' 0 26 = S 0 26
theorem fold_up1 (v : VW) (p : List Nat) (l : List (List Nat)) (T : Nat → BR) : (fun w => if w = 0 then up1 v p 1 T 0 else l.foldl (upB v w) (up1 v p 1 T w)) = (fun w => if w = 0 then T 0 else (p :: l).foldl (upB v w) (T w)) := by
  funext w
  by_cases h : w = 0
  · rw [if_pos h, if_pos h]; rfl
  · rw [if_neg h, if_neg h, List.foldl_cons]
    unfold up1
    rw [if_pos (by omega)]
theorem fold_um1 (v : VW) (p : List Nat) (l : List (List Nat)) (so : Nat → Nat) : (fun w => if w = 0 then um1 v p 1 so 0 else l.foldl (upM v w) (um1 v p 1 so w)) = (fun w => if w = 0 then so 0 else (p :: l).foldl (upM v w) (so w)) := by
  funext w
  by_cases h : w = 0
  · rw [if_pos h, if_pos h]; rfl
  · rw [if_neg h, if_neg h, List.foldl_cons]
    unfold um1
    rw [if_pos (by omega)]
theorem goAll_loop {N : Nat} (hN : 70 ≤ N) {v : VW} (hw : wfV v) {cl : Nat} {ci : Int32} (hcl : ∀ s, s < 6 → (nI s = ci ↔ s = cl)) : ∀ (n : Nat) {S : ST} {p : List Nat} {k : Nat} {T : Nat → BR} {so : Nat → Nat}, rlM v (S 1) → (∀ i, i ≤ p.length → gdN v (p.take i)) → lvM v p S → S 11 p.length = nI k - 1 → k ≤ v 0 0 → tbM T so S → poN (v 0 0) p.length k + phU (v 0 0) p p.length < n →
    ∃ S', b_X5_goAll_78 N n S ci (nI p.length) = some S' ∧ tbM (fun w => if w = 0 then T 0 else (sibS v cl (5 - p.length) p k ++ rmU v cl p p.length).foldl (upB v w) (T w)) (fun w => if w = 0 then so 0 else (sibS v cl (5 - p.length) p k ++ rmU v cl p p.length).foldl (upM v w) (so w)) S' ∧ kX S S' := by
  intro n
  induction n with
  | zero => intro S p k T so _ _ _ _ _ _ h; omega
  | succ n ih =>
    intro S p k T so hr hpa hl h11 hk ht hph
    have hp : gdN v p := by have := hpa p.length (Nat.le_refl _); rw [List.take_length] at this; exact this
    have h6 := gd_len hp
    have n6 := hw.1
    have i7 := ixo (k := p.length) (L := 7) (by omega) (by decide)
    rw [b_X5_goAll_78, if_neg (nI_pos (n := p.length) (by omega))]
    simp only [if_neg i7, nm_s]
    rw [nI_clamp (n := p.length) (by omega), h11, show nI k - 1 + 1 = nI k by rw [Int32.sub_add_cancel], us_s]
    have hl1 := lvM_11 hl (Nat.le_refl _) (nI k)
    obtain ⟨S1, e1, o1, w1⟩ := m_backTo N hp hl1
    have hr1 : rlM v (S1 1) := by rw [o1.1 1 (by decide), us_n _ _ _ _ (by decide)]; exact hr
    have t1 : tbM T so S1 := tbM_same (fun i hi => by rw [o1.1 i (by omega), us_n _ _ _ _ (by omega)]) ht
    have l1 : lvM v p S1 := lvM_same (fun i hi => o1.1 i (by omega)) hl1
    have c1 : S1 11 p.length = nI k := by rw [o1.1 11 (by decide), us_s]
    have k1 : kX S S1 := ⟨fun i hi => by rw [o1.1 i (by omega), us_n _ _ _ _ (by omega)], by rw [o1.2 26 (by omega), us_n _ _ _ _ (by decide)]⟩
    rw [e1, bd1_s]
    unfold f_X5_shops b_X5_goAll_154
    dsimp only
    rw [bd2_s, hr1.1]
    by_cases hke : v 0 0 ≤ k
    · rw [if_neg (show ¬ nI k < nI (v 0 0) from fun q => by have := (nI_ltI (by omega) (by omega)).mp q; omega), sibS_end v cl _ p hke, List.nil_append]
      by_cases h0 : p = []
      · subst h0
        obtain ⟨m, rfl⟩ : ∃ m, n = m + 1 := ⟨n - 1, by have := po_pos (v 0 0) 0 k; simp only [List.length_nil] at hph; omega⟩
        rw [b_X5_goAll_78, if_pos (show nI ([] : List Nat).length + (-1) < 0 by decide)]
        refine ⟨S1, rfl, ?_, k1⟩
        have e1 : (fun w => if w = 0 then T 0 else (rmU v cl ([] : List Nat) ([] : List Nat).length).foldl (upB v w) (T w)) = T := by
          funext w
          by_cases h : w = 0
          · rw [if_pos h, h]
          · rw [if_neg h]; rfl
        have e2 : (fun w => if w = 0 then so 0 else (rmU v cl ([] : List Nat) ([] : List Nat).length).foldl (upM v w) (so w)) = so := by
          funext w
          by_cases h : w = 0
          · rw [if_pos h, h]
          · rw [if_neg h]; rfl
        rw [e1, e2]
        exact t1
      · obtain ⟨q, s, rfl⟩ := snoc_of h0
        have hlen : (q ++ [s]).length = q.length + 1 := by simp
        have hs : s < v 0 0 := hp.2.2.2.2.2.2.2.2 s (by simp)
        rw [hlen] at h6 ⊢
        have gq : ∀ i, i ≤ q.length → gdN v (q.take i) := fun i hi => by
          have := hpa i (by omega)
          rw [take_pre hi] at this
          exact this
        rw [show nI (q.length + 1) + (-1) = nI q.length from pk_m1 q.length]
        have e11 : S1 11 q.length = nI (s + 1) - 1 := by rw [l1.2 q.length (by omega), getD_last, nI_m1 (by omega), Nat.add_sub_cancel]
        have hph2 : poN (v 0 0) q.length (s + 1) + phU (v 0 0) q q.length < n := by
          have z1 := po_pos (v 0 0) (q.length + 1) k
          rw [hlen] at hph
          unfold phU at hph
          rw [getD_last, phU_pre _ _ _ _ (Nat.le_refl _)] at hph
          omega
        obtain ⟨S2, e2, a1, a2⟩ := ih (S := S1) (p := q) (k := s + 1) hr1 gq (lvM_pre l1) e11 (by omega) t1 hph2
        refine ⟨S2, e2, ?_, fun i hi => by rw [a2.1 i hi, k1.1 i hi], by rw [a2.2, k1.2]⟩
        unfold rmU
        rw [getD_last, take_pre (Nat.le_refl _), List.take_length, rmU_pre _ _ _ _ _ (Nat.le_refl _)]
        exact a1
    · have hk' : k < v 0 0 := by omega
      rw [if_pos (show nI k < nI (v 0 0) from nI_lt hk' (by omega)), m_whyNot (by omega) hw hr1 hp w1 hk', bd2_s, sibS_step v cl _ p hk', List.append_assoc]
      have hwl := why_le v (walkS v p) k
      have hpo := po_step (n := v 0 0) (i := p.length) hk'
      by_cases hok : okS v cl (walkS v p) k
      · have ech : chS v cl (5 - p.length) p k = (p ++ [k]) :: trS v cl (5 - p.length) (p ++ [k]) := by unfold chS; rw [if_pos hok]
        have g1 := gd_step hw hp hk' hok.2
        have hlen : (p ++ [k]).length = p.length + 1 := by simp
        have h5 : p.length ≤ 5 := by have := gd_len g1; omega
        have ga : ∀ i, i ≤ (p ++ [k]).length → gdN v ((p ++ [k]).take i) := fun i hi => by
          by_cases h : i = p.length + 1
          · rw [h, ← hlen, List.take_length]; exact g1
          · rw [take_pre (by omega)]; exact hpa i (by omega)
        have ec : ¬ nI k = ci := fun q => hok.1 ((hcl k (by omega)).mp q)
        rw [if_neg ec, if_pos (show nI (whyS v (walkS v p) k) = 0 by rw [hok.2]; rfl), nI_1]
        obtain ⟨S2, e2, o2, w2⟩ := m_buy (N := N) (by omega) hw hr1 hp.2.1 w1 hk'
        rw [← walkS_snoc] at w2
        have l2 : lvM v p S2 := lvM_same (fun i hi => o2.1 i (by omega)) l1
        have c2 : S2 11 p.length = nI k := by rw [o2.1 11 (by decide)]; exact c1
        have t2 : tbM T so S2 := tbM_same (fun i hi => o2.1 i (by omega)) t1
        obtain ⟨S3, e3, t3, o3⟩ := m_note hN hw g1 (by simp) (S := S2) (fun i hi => by
          by_cases h : i = p.length
          · subst h; rw [c2, getD_last]
          · rw [getD_pre (by omega)]; exact l2.2 i (by omega)) t2 w2
        rw [hlen] at e3
        have l3 : lvM v p S3 := lvM_same (fun i hi => o3 i (by omega)) l2
        obtain ⟨S4, e4, l4, o4⟩ := m_keepState N h5 (S := S3) l3 (by rw [o3 11 (by omega)]; exact c2) (by unfold wM; rw [o3 0 (by omega)]; exact w2)
        have j7 := ixo (k := p.length + 1) (L := 7) (by omega) (by decide)
        rw [e2, bd1_s, e3, bd1_s, e4, bd1_s, if_neg j7, nI_clamp (n := p.length + 1) (by omega)]
        have hr5 : rlM v (us S4 11 (p.length + 1) (-1) 1) := by rw [us_n _ _ _ _ (by decide), o4 1 (by omega), o3 1 (by omega), o2.1 1 (by decide)]; exact hr1
        have t5 : tbM (up1 v (p ++ [k]) 1 T) (um1 v (p ++ [k]) 1 so) (us S4 11 (p.length + 1) (-1)) := tbM_same (fun i hi => by rw [us_n _ _ _ _ (by omega), o4 i (by omega)]) t3
        have hph2 : poN (v 0 0) (p ++ [k]).length 0 + phU (v 0 0) (p ++ [k]) (p ++ [k]).length < n := by
          rw [hlen]
          unfold phU
          rw [getD_last, phU_pre _ _ _ _ (Nat.le_refl _), po_0 h5]
          omega
        obtain ⟨S6, e6, a1, a2⟩ := ih (S := us S4 11 (p.length + 1) (-1)) (p := p ++ [k]) (k := 0) hr5 ga (by have := lvM_11 l4 (k := p.length + 1) (by omega) (-1); exact this) (by rw [hlen, us_s]; decide) (Nat.zero_le _) t5 hph2
        rw [hlen] at e6 a1
        refine ⟨S6, e6, ?_, fun i hi => by rw [a2.1 i hi, us_n _ _ _ _ (by omega), o4 i (by omega), o3 i (by omega), o2.1 i (by omega), k1.1 i hi], by rw [a2.2, us_n _ _ _ _ (by decide), o4 0 (by omega), o3 0 (by omega), o2.2 26 (by omega), k1.2]⟩
        have hlist : sibS v cl (5 - (p.length + 1)) (p ++ [k]) 0 ++ rmU v cl (p ++ [k]) (p.length + 1) = trS v cl (5 - p.length) (p ++ [k]) ++ (sibS v cl (5 - p.length) p (k + 1) ++ rmU v cl p p.length) := by
          have z1 := tr_sib hw (cl := cl) g1
          rw [hlen, show 6 - (p.length + 1) = 5 - p.length by omega] at z1
          rw [← z1, show rmU v cl (p ++ [k]) (p.length + 1) = sibS v cl (5 - p.length) ((p ++ [k]).take p.length) ((p ++ [k]).getD p.length 0 + 1) ++ rmU v cl (p ++ [k]) p.length from rfl]
          rw [getD_last, take_pre (Nat.le_refl _), List.take_length, rmU_pre _ _ _ _ _ (Nat.le_refl _)]
        rw [hlist, fold_up1, fold_um1] at a1
        rw [ech]
        exact a1
      · have ech : chS v cl (5 - p.length) p k = [] := by unfold chS; rw [if_neg hok]
        have hne : ¬ (if nI k = ci then (1 : Int32) else nI (whyS v (walkS v p) k)) = 0 := by
          by_cases hc : nI k = ci
          · rw [if_pos hc]; decide
          · rw [if_neg hc]
            intro z
            exact hok ⟨fun q => hc ((hcl k (by omega)).mpr q), (nI_n0 (by omega)).mp z⟩
        rw [if_neg hne, ech, List.nil_append]
        obtain ⟨S2, e2, a1, a2⟩ := ih (S := S1) (p := p) (k := k + 1) hr1 hpa l1 (by rw [c1, nI_m1 (by omega), Nat.add_sub_cancel]) (by omega) t1 (by omega)
        exact ⟨S2, e2, a1, fun i hi => by rw [a2.1 i hi, k1.1 i hi], by rw [a2.2, k1.2]⟩
