def iT (w : Nat) : BR := if w = 0 then (0, 0, 0, []) else b0S
def iO (w : Nat) : Nat := if w = 0 then 0 else 1000000
theorem goAll2 (N : Nat) (ci : Int32) : ∀ (n : Nat) {S : ST} {k : Nat}, k ≤ 64 → 64 < k + n → (∀ w, w < k → S 6 w = nI (iO w) ∧ S 7 w = nI (iO w) ∧ S 8 w = nI (iO w) ∧ S 9 w = 0 ∧ S 10 w = nI (iO w)) →
    ∃ S', b_X5_goAll_2 N n S ci (nI k) = (bd1 (f_X5_begin N S') fun S3 => bd1 (f_X5_keepState N S3 0) fun S5 => nm (us S5 11 0 (-1)) fun S6 => b_X5_goAll_78 N N S6 ci 0) ∧ tbM iT iO S' ∧ ∀ i, i < 6 ∨ 10 < i → S' i = S i := by
  intro n
  induction n with
  | zero => intro S k h1 h2; omega
  | succ n ih =>
    intro S k hk hn hi
    rw [b_X5_goAll_2]
    by_cases he : 64 ≤ k
    · rw [if_pos (show (64 : Int32) ≤ nI k from (nI_leI (a := 64) (by decide) (by omega)).mpr he)]
      refine ⟨S, rfl, fun w hw => ?_, fun _ _ => rfl⟩
      obtain ⟨a1, a2, a3, a4, a5⟩ := hi w (by omega)
      unfold iO at a1 a2 a3 a5
      unfold iT iO
      by_cases h : w = 0
      · simp only [if_pos h] at a1 a2 a3 a5 ⊢
        exact ⟨a1, a2, a3, a4, a5, by decide, by decide, by decide⟩
      · simp only [if_neg h] at a1 a2 a3 a5 ⊢
        exact ⟨a1, a2, a3, a4, a5, by decide, by decide, by decide⟩
    · have i64 := ixo (k := k) (L := 64) (by omega) (by decide)
      have key : ∀ x : Int32, x = nI (iO k) → ∃ S', b_X5_goAll_18 N (fun S x1 x2 => b_X5_goAll_2 N n S x1 x2) S ci (nI k) x = (bd1 (f_X5_begin N S') fun S3 => bd1 (f_X5_keepState N S3 0) fun S5 => nm (us S5 11 0 (-1)) fun S6 => b_X5_goAll_78 N N S6 ci 0) ∧ tbM iT iO S' ∧ ∀ i, i < 6 ∨ 10 < i → S' i = S i := by
        intro x hx
        unfold b_X5_goAll_18
        simp only [if_neg i64, nm_s]
        rw [nI_clamp (by omega), nI_1]
        obtain ⟨S', e, a1, a2⟩ := ih (S := us (us (us (us (us S 6 k x) 7 k x) 8 k x) 9 k 0) 10 k x) (k := k + 1) (by omega) (by omega) (fun w hw => by
          rw [us_n _ _ _ _ (show 6 ≠ 10 by decide), us_n _ _ _ _ (show 6 ≠ 9 by decide), us_n _ _ _ _ (show 6 ≠ 8 by decide), us_n _ _ _ _ (show 6 ≠ 7 by decide), us_r, us_n _ _ _ _ (show 7 ≠ 10 by decide), us_n _ _ _ _ (show 7 ≠ 9 by decide), us_n _ _ _ _ (show 7 ≠ 8 by decide), us_r, us_n _ _ _ _ (show 7 ≠ 6 by decide), us_n _ _ _ _ (show 8 ≠ 10 by decide), us_n _ _ _ _ (show 8 ≠ 9 by decide), us_r, us_n _ _ _ _ (show 8 ≠ 7 by decide), us_n _ _ _ _ (show 8 ≠ 6 by decide), us_n _ _ _ _ (show 9 ≠ 10 by decide), us_r, us_n _ _ _ _ (show 9 ≠ 8 by decide), us_n _ _ _ _ (show 9 ≠ 7 by decide), us_n _ _ _ _ (show 9 ≠ 6 by decide), us_r, us_n _ _ _ _ (show 10 ≠ 9 by decide), us_n _ _ _ _ (show 10 ≠ 8 by decide), us_n _ _ _ _ (show 10 ≠ 7 by decide), us_n _ _ _ _ (show 10 ≠ 6 by decide)]
          by_cases h : w = k
          · subst h
            rw [pk_us, pk_us, pk_us, pk_us, pk_us]
            exact ⟨hx, hx, hx, rfl, hx⟩
          · rw [pk_un h, pk_un h, pk_un h, pk_un h, pk_un h]
            exact hi w (by omega))
        exact ⟨S', e, a1, fun i hi => by rw [a2 i hi, us_n _ _ _ _ (by omega), us_n _ _ _ _ (by omega), us_n _ _ _ _ (by omega), us_n _ _ _ _ (by omega), us_n _ _ _ _ (by omega)]⟩
      rw [if_neg (show ¬ (64 : Int32) ≤ nI k from fun q => he ((nI_leI (a := 64) (by decide) (by omega)).mp q))]
      by_cases h0 : k = 0
      · rw [if_pos (show nI k = 0 by rw [h0]; rfl)]
        exact key 0 (by unfold iO; rw [if_pos h0]; rfl)
      · rw [if_neg (show ¬ nI k = 0 from fun q => h0 ((nI_n0 (by omega)).mp q))]
        exact key 1000000 (by unfold iO; rw [if_neg h0]; rfl)
theorem m_keep0 (N : Nat) {v : VW} {S : ST} (hm : wM nd0 S) : ∃ S', f_X5_keepState N S 0 = some S' ∧ lvM v [] S' ∧ ∀ i, i < 12 ∨ 15 < i → S' i = S i := by
  obtain ⟨m1, m2, m3, m4, m5⟩ := hm
  unfold f_X5_keepState
  simp only [if_neg (show ¬ ((0 : Int32) < 0 ∨ 7 ≤ (0 : Int32).toNatClampNeg) by decide), nm_s]
  rw [ix_0, m2, us_n _ _ _ _ (show 0 ≠ 12 by decide), m5, us_n _ _ _ _ (show 0 ≠ 13 by decide), us_n _ _ _ _ (show 0 ≠ 12 by decide), m4, us_n _ _ _ _ (show 0 ≠ 14 by decide), us_n _ _ _ _ (show 0 ≠ 13 by decide), us_n _ _ _ _ (show 0 ≠ 12 by decide), m3]
  refine ⟨_, rfl, ⟨fun i hi => ?_, fun i hi => absurd hi (Nat.not_lt_zero i)⟩, fun i hi => by rw [us_n _ _ _ _ (by omega), us_n _ _ _ _ (by omega), us_n _ _ _ _ (by omega), us_n _ _ _ _ (by omega)]⟩
  have : i = 0 := by simpa using hi
  subst this
  rw [us_n _ _ _ _ (show 12 ≠ 15 by decide), us_n _ _ _ _ (show 12 ≠ 14 by decide), us_n _ _ _ _ (show 12 ≠ 13 by decide), us_s, us_n _ _ _ _ (show 13 ≠ 15 by decide), us_n _ _ _ _ (show 13 ≠ 14 by decide), us_s, us_n _ _ _ _ (show 14 ≠ 15 by decide), us_s, us_s]
  exact ⟨rfl, rfl, rfl, rfl⟩
theorem m_goAllX {N : Nat} (hN : 400000 ≤ N) {v : VW} (hw : wfV v) {cl : Nat} {ci : Int32} (hcl : ∀ s, s < 6 → (nI s = ci ↔ s = cl)) {S : ST} (hr : rlM v (S 1)) : ∃ S', f_X5_goAll N S ci = some S' ∧ tbM (beS v cl) (soS v cl) S' ∧ kX S S' := by
  have n6 := hw.1
  obtain ⟨S1, e1, t1, o1⟩ := goAll2 N ci N (S := S) (k := 0) (by decide) (by omega) (fun w hw => absurd hw (Nat.not_lt_zero w))
  obtain ⟨S2, e2, o2, w2⟩ := m_begin N S1
  obtain ⟨S3, e3, l3, o3⟩ := m_keep0 N (v := v) w2
  unfold f_X5_goAll
  replace e1 : b_X5_goAll_2 N N S ci 0 = _ := e1
  rw [e1, e2, bd1_s, e3, bd1_s, nm_s]
  have t4 : tbM iT iO (us S3 11 0 (-1)) := tbM_same (fun i hi => by rw [us_n _ _ _ _ (by omega), o3 i (by omega), o2.1 i (by omega)]) t1
  have hph : poN (v 0 0) ([] : List Nat).length 0 + phU (v 0 0) [] ([] : List Nat).length < N := by
    have := bb_top (v 0 0) n6
    show poN (v 0 0) 0 0 + 0 < N
    omega
  obtain ⟨S5, e5, a1, a2⟩ := goAll_loop (N := N) (by omega) hw hcl N (S := us S3 11 0 (-1)) (p := []) (k := 0) (T := iT) (so := iO) (by rw [us_n _ _ _ _ (by decide), o3 1 (by omega), o2.1 1 (by decide), o1 1 (by omega)]; exact hr) (fun i hi => by rw [show i = 0 by simpa using hi]; exact gd_nil v) (lvM_11 l3 (Nat.zero_le _) (-1)) (by show us S3 11 0 (-1) 11 0 = nI 0 - 1; rw [us_s]; decide) (Nat.zero_le _) t4 hph
  replace e5 : b_X5_goAll_78 N N (us S3 11 0 (-1)) ci 0 = some S5 := e5
  refine ⟨S5, e5, ?_, fun i hi => by rw [a2.1 i hi, us_n _ _ _ _ (by omega), o3 i (by omega), o2.1 i (by omega), o1 i (by omega)], by rw [a2.2, us_n _ _ _ _ (by decide), o3 0 (by omega), o2.2 26 (by omega), o1 0 (by omega)]⟩
  have f1 : (fun w => if w = 0 then iT 0 else (sibS v cl (5 - ([] : List Nat).length) [] 0 ++ rmU v cl [] ([] : List Nat).length).foldl (upB v w) (iT w)) = beS v cl := by
    funext w
    unfold beS iT
    by_cases h : w = 0
    · rw [if_pos h, if_pos h]; rfl
    · rw [if_neg h, if_neg h, if_neg h]
      show List.foldl _ _ (sibS v cl 5 [] 0 ++ []) = _
      rw [List.append_nil]
      rfl
  have f2 : (fun w => if w = 0 then iO 0 else (sibS v cl (5 - ([] : List Nat).length) [] 0 ++ rmU v cl [] ([] : List Nat).length).foldl (upM v w) (iO w)) = soS v cl := by
    funext w
    unfold soS iO
    by_cases h : w = 0
    · rw [if_pos h, if_pos h]; rfl
    · rw [if_neg h, if_neg h, if_neg h]
      show List.foldl _ _ (sibS v cl 5 [] 0 ++ []) = _
      rw [List.append_nil]
      rfl
  rw [f1, f2] at a1
  exact a1
-- both searches find the same
theorem m_goAll {N : Nat} (hN : 400000 ≤ N) {v : VW} (hw : wfV v) {cl : Nat} {ci : Int32} (hcl : ∀ s, s < 6 → (nI s = ci ↔ s = cl)) {S : ST} (hr : rlM v (S 1)) : ∃ S', f_X5_goAll N S ci = some S' ∧ tbM (beS v cl) (soS v cl) S' ∧ kM S S' := by
  obtain ⟨S', a, b, c⟩ := m_goAllX hN hw hcl hr
  exact ⟨S', a, b, c.1⟩
theorem al_gd {v : VW} (hw : wfV v) {cl : Nat} : ∀ q ∈ alS v cl, gdN v q := fun q hq => (tr_mem hw 6 (gd_nil v) hq).1
theorem fold_both {v : VW} (hw : wfV v) {w mo : Nat} (hmo : mo ≤ 999) : ∀ {l : List (List Nat)} {cb : CB} {mb : BR}, (∀ q ∈ l, gdN v q) →
    (mo < mb.1 ∧ cb = (mo, 7, none)) ∨ (∃ p, mb = ((walkS v p).2.2.2.2, p.length, (walkS v p).2.2.2.1, p) ∧ cb = ((walkS v p).2.2.2.2, p.length, some p) ∧ gdN v p ∧ subN w (walkS v p).2.1 ∧ (walkS v p).2.2.2.2 ≤ mo) →
    (mo < (l.foldl (upB v w) mb).1 ∧ l.foldl (upC v 0 w) cb = (mo, 7, none)) ∨ (∃ p, l.foldl (upB v w) mb = ((walkS v p).2.2.2.2, p.length, (walkS v p).2.2.2.1, p) ∧ l.foldl (upC v 0 w) cb = ((walkS v p).2.2.2.2, p.length, some p) ∧ gdN v p ∧ subN w (walkS v p).2.1 ∧ (walkS v p).2.2.2.2 ≤ mo) := by
  intro l
  induction l with
  | nil => intro cb mb _ h; exact h
  | cons q l ih =>
    intro cb mb hg h
    rw [List.foldl_cons, List.foldl_cons]
    have gq := hg q List.mem_cons_self
    have lq := gd_len gq
    refine ih (fun q' hq' => hg q' (List.mem_cons_of_mem _ hq')) ?_
    by_cases hs : subN w (walkS v q).2.1
    · rcases h with ⟨h1, h2⟩ | ⟨p, h1, h2, h3, h4, h5⟩
      · subst h2
        by_cases hq : (walkS v q).2.2.2.2 ≤ mo
        · right
          refine ⟨q, ?_, ?_, gq, hs, hq⟩
          · unfold upB
            rw [if_pos ⟨hs, Or.inl (by omega)⟩]
          · unfold upC
            rw [if_pos]
            · rfl
            · refine ⟨hs, ?_⟩
              show (walkS v q).2.2.2.2 < mo ∨ (walkS v q).2.2.2.2 = mo ∧ q.length < 7
              omega
        · left
          refine ⟨?_, ?_⟩
          · unfold upB
            by_cases hb : subN w (walkS v q).2.1 ∧ betS (walkS v q).2.2.2.2 q.length mb
            · rw [if_pos hb]; show mo < (walkS v q).2.2.2.2; omega
            · rw [if_neg hb]; exact h1
          · unfold upC
            rw [if_neg]
            rintro ⟨-, z⟩
            have z' : (walkS v q).2.2.2.2 < mo ∨ (walkS v q).2.2.2.2 = mo ∧ q.length < 7 := z
            omega
      · right
        subst h1 h2
        by_cases hb : (walkS v q).2.2.2.2 < (walkS v p).2.2.2.2 ∨ (walkS v q).2.2.2.2 = (walkS v p).2.2.2.2 ∧ q.length < p.length
        · refine ⟨q, ?_, ?_, gq, hs, by omega⟩
          · unfold upB
            rw [if_pos ⟨hs, hb⟩]
          · unfold upC
            rw [if_pos ⟨hs, hb⟩]
            rfl
        · refine ⟨p, ?_, ?_, h3, h4, h5⟩
          · unfold upB
            rw [if_neg (fun z => hb z.2)]
          · unfold upC
            rw [if_neg (fun z => hb z.2)]
    · have e1 : upB v w mb q = mb := by unfold upB; rw [if_neg (fun z => hs z.1)]
      have e2 : upC v 0 w cb q = cb := by unfold upC; rw [if_neg (fun z => hs z.1)]
      rw [e1, e2]
      exact h
theorem sub_0 {w : Nat} (h : w ≠ 0) : ¬ subN w 0 := by
  intro z
  unfold subN at z
  rw [Nat.and_zero] at z
  exact h z.symm
theorem fi_be {v : VW} (hw : wfV v) {w cl mo : Nat} (hmo : mo ≤ 999) : (mo < (beS v cl w).1 ∧ (fiS v 0 w cl mo).2.2 = none) ∨ ∃ p, beS v cl w = ((walkS v p).2.2.2.2, p.length, (walkS v p).2.2.2.1, p) ∧ fiS v 0 w cl mo = ((walkS v p).2.2.2.2, p.length, some p) ∧ gdN v p ∧ subN w (walkS v p).2.1 ∧ (walkS v p).2.2.2.2 ≤ mo := by
  by_cases h0 : w = 0
  · right
    refine ⟨[], ?_, ?_, gd_nil v, by rw [h0]; exact Nat.zero_and _, Nat.zero_le _⟩
    · unfold beS; rw [if_pos h0]; rfl
    · have hb : betC v 0 (mo, 7, none) [] := by
        show 0 < mo ∨ 0 = mo ∧ 0 < 7
        omega
      unfold fiS alS
      rw [fold_keep hw (gd_nil v) hb (by rw [h0]; exact Nat.zero_and _)]
      rfl
  · have e : fiS v 0 w cl mo = (alS v cl).foldl (upC v 0 w) (mo, 7, none) := by
      unfold fiS alS
      rw [fold_go (sub_0 h0)]
    rw [e]
    unfold beS
    rw [if_neg h0]
    rcases fold_both hw (w := w) hmo (l := alS v cl) (cb := (mo, 7, none)) (mb := b0S) (al_gd hw) (Or.inl ⟨by show mo < 1000000; omega, rfl⟩) with ⟨z1, z2⟩ | z
    · left
      rw [z2]
      exact ⟨z1, rfl⟩
    · exact Or.inr z
-- what the reference's best is: none, or a row
theorem be_top {v : VW} (hw : wfV v) {w cl : Nat} : (beS v cl w).1 = 1000000 ∨ (beS v cl w).1 ≤ v 0 2 := by
  have hpu := hw.2.2.1
  unfold beS
  by_cases h0 : w = 0
  · rw [if_pos h0]; right; exact Nat.zero_le _
  · rw [if_neg h0]
    have : ∀ {l : List (List Nat)} {mb : BR}, (∀ q ∈ l, gdN v q) → (mb.1 = 1000000 ∨ mb.1 ≤ v 0 2) → ((l.foldl (upB v w) mb).1 = 1000000 ∨ (l.foldl (upB v w) mb).1 ≤ v 0 2) := by
      intro l
      induction l with
      | nil => intro mb _ h; exact h
      | cons q l ih =>
        intro mb hg h
        rw [List.foldl_cons]
        refine ih (fun q' hq' => hg q' (List.mem_cons_of_mem _ hq')) ?_
        unfold upB
        by_cases hb : subN w (walkS v q).2.1 ∧ betS (walkS v q).2.2.2.2 q.length mb
        · rw [if_pos hb]; exact Or.inr (hg q List.mem_cons_self).2.2.2.2.1
        · rw [if_neg hb]; exact h
    exact this (al_gd hw) (Or.inl rfl)
theorem fold_soon {v : VW} {w : Nat} : ∀ {l : List (List Nat)} {cb : CB} {mb : Nat}, (∀ q ∈ l, gdN v q) →
    (mb = 1000000 ∧ cb = (240, 7, none)) ∨ (∃ p, mb = (walkS v p).2.2.2.1 ∧ cb = ((walkS v p).2.2.2.1, p.length, some p) ∧ gdN v p) →
    (l.foldl (upM v w) mb = 1000000 ∧ l.foldl (upC v 1 w) cb = (240, 7, none)) ∨ (∃ p, l.foldl (upM v w) mb = (walkS v p).2.2.2.1 ∧ l.foldl (upC v 1 w) cb = ((walkS v p).2.2.2.1, p.length, some p) ∧ gdN v p) := by
  intro l
  induction l with
  | nil => intro cb mb _ h; exact h
  | cons q l ih =>
    intro cb mb hg h
    rw [List.foldl_cons, List.foldl_cons]
    have gq := hg q List.mem_cons_self
    have lq := gd_len gq
    have mq := gq.2.2.2.1
    refine ih (fun q' hq' => hg q' (List.mem_cons_of_mem _ hq')) ?_
    by_cases hs : subN w (walkS v q).2.1
    · right
      rcases h with ⟨h1, h2⟩ | ⟨p, h1, h2, h3⟩
      · subst h1 h2
        refine ⟨q, ?_, ?_, gq⟩
        · unfold upM
          rw [if_pos ⟨hs, by omega⟩]
        · unfold upC
          rw [if_pos]
          · rfl
          · refine ⟨hs, ?_⟩
            show (walkS v q).2.2.2.1 < 240 ∨ (walkS v q).2.2.2.1 = 240 ∧ q.length < 7
            omega
      · subst h1 h2
        by_cases hb : (walkS v q).2.2.2.1 < (walkS v p).2.2.2.1 ∨ (walkS v q).2.2.2.1 = (walkS v p).2.2.2.1 ∧ q.length < p.length
        · refine ⟨q, ?_, ?_, gq⟩
          · unfold upM
            by_cases hm : subN w (walkS v q).2.1 ∧ (walkS v q).2.2.2.1 < (walkS v p).2.2.2.1
            · rw [if_pos hm]
            · rw [if_neg hm]
              have : ¬ (walkS v q).2.2.2.1 < (walkS v p).2.2.2.1 := fun z => hm ⟨hs, z⟩
              omega
          · unfold upC
            rw [if_pos ⟨hs, hb⟩]
            rfl
        · refine ⟨p, ?_, ?_, h3⟩
          · unfold upM
            rw [if_neg (fun z => hb (Or.inl z.2))]
          · unfold upC
            rw [if_neg (fun z => hb z.2)]
    · have e1 : upM v w mb q = mb := by unfold upM; rw [if_neg (fun z => hs z.1)]
      have e2 : upC v 1 w cb q = cb := by unfold upC; rw [if_neg (fun z => hs z.1)]
      rw [e1, e2]
      exact h
theorem fi_so {v : VW} (hw : wfV v) {w : Nat} : (soS v 6 w = 1000000 ∧ (fiS v 1 w 6 240).2.2 = none) ∨ ∃ p, soS v 6 w = (walkS v p).2.2.2.1 ∧ fiS v 1 w 6 240 = ((walkS v p).2.2.2.1, p.length, some p) ∧ gdN v p := by
  by_cases h0 : w = 0
  · right
    refine ⟨[], ?_, ?_, gd_nil v⟩
    · unfold soS; rw [if_pos h0]; rfl
    · have hb : betC v 1 (240, 7, none) [] := by
        show 0 < 240 ∨ 0 = 240 ∧ 0 < 7
        omega
      unfold fiS alS
      rw [fold_keep hw (gd_nil v) hb (by rw [h0]; exact Nat.zero_and _)]
      rfl
  · have e : fiS v 1 w 6 240 = (alS v 6).foldl (upC v 1 w) (240, 7, none) := by
      unfold fiS alS
      rw [fold_go (sub_0 h0)]
    rw [e]
    unfold soS
    rw [if_neg h0]
    rcases fold_soon (w := w) (l := alS v 6) (cb := (240, 7, none)) (mb := 1000000) (al_gd hw) (Or.inl ⟨rfl, rfl⟩) with ⟨z1, z2⟩ | z
    · left
      rw [z2]
      exact ⟨z1, rfl⟩
    · exact Or.inr z
