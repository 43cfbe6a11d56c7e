-- the reference's tables
def cdS : List Nat → Nat
  | [] => 0
  | s :: r => s + 8 * cdS r
theorem cd_lt : ∀ (p : List Nat), (∀ s ∈ p, s < 8) → cdS p < 8 ^ p.length := by
  intro p
  induction p with
  | nil => intro _; decide
  | cons s r ih =>
    intro h
    have h1 := h s List.mem_cons_self
    have h2 := ih (fun x hx => h x (List.mem_cons_of_mem _ hx))
    unfold cdS
    rw [List.length_cons, Nat.pow_succ]
    omega
theorem cd_small {v : VW} (hw : wfV v) {p : List Nat} (hp : gdN v p) : cdS p < 262144 := by
  have n6 := hw.1
  have h1 := cd_lt p (fun s hs => by have := hp.2.2.2.2.2.2.2.2 s hs; omega)
  have h2 : 8 ^ p.length ≤ 8 ^ 6 := Nat.pow_le_pow_right (by decide) (gd_len hp)
  have h3 : (8 : Nat) ^ 6 = 262144 := by decide
  omega
theorem drop_cd {p : List Nat} {j : Nat} (h : j < p.length) : cdS (p.drop j) = p.getD j 0 + 8 * cdS (p.drop (j + 1)) := by
  rw [List.drop_eq_getElem_cons h]
  show _ + _ = _
  rw [List.getD_eq_getElem?_getD, List.getElem?_eq_getElem h]
  rfl
theorem note6 (N : Nat) {S : ST} {p : List Nat} (h6 : p.length ≤ 6) (h11 : ∀ i, i < p.length → S 11 i = nI (p.getD i 0)) : ∀ (j n : Nat), j ≤ p.length → j < n → b_X5_note_6 N n S (nI p.length) (nI (cdS (p.drop j))) (nI j - 1) = b_X5_note_30 N N S (nI p.length) (nI (cdS p)) 1 := by
  intro j
  induction j with
  | zero =>
    intro n _ hn
    obtain ⟨m, rfl⟩ : ∃ m, n = m + 1 := ⟨n - 1, by omega⟩
    rw [b_X5_note_6, if_pos (by decide), List.drop_zero]
  | succ j ih =>
    intro n hj hn
    obtain ⟨m, rfl⟩ : ∃ m, n = m + 1 := ⟨n - 1, by omega⟩
    have i7 := ixo (k := j) (L := 7) (by omega) (by decide)
    rw [b_X5_note_6, nI_m1 (by omega), Nat.add_sub_cancel, if_neg (nI_pos (by omega)), if_neg i7, nI_clamp (by omega), h11 j (by omega), show (8 : Int32) = nI 8 from rfl, pk_mul, nI_add, show nI j + (-1) = nI j - 1 by rw [Int32.sub_eq_add_neg], show 8 * cdS (p.drop (j + 1)) + p.getD j 0 = cdS (p.drop j) by rw [drop_cd (j := j) (by omega)]; omega]
    exact ih m (by omega) (by omega)
theorem F14 : ∀ k, k < 64 → ∀ h, h < 64 → ((nI k &&& (nI h ^^^ (-1)) = 0) ↔ k &&& h = k) := by decide +kernel
def tbM (T : Nat → BR) (so : Nat → Nat) (S : ST) : Prop := ∀ w, w < 64 → S 6 w = nI (T w).1 ∧ S 7 w = nI (T w).2.1 ∧ S 8 w = nI (T w).2.2.1 ∧ S 9 w = nI (cdS (T w).2.2.2) ∧ S 10 w = nI (so w) ∧ (T w).1 ≤ 1000000 ∧ (T w).2.1 ≤ 1000000 ∧ so w ≤ 1000000
theorem tbM_same {T : Nat → BR} {so : Nat → Nat} {S S' : ST} (h : ∀ i, 6 ≤ i ∧ i ≤ 10 → S' i = S i) (ht : tbM T so S) : tbM T so S' := by
  unfold tbM
  rw [h 6 (by omega), h 7 (by omega), h 8 (by omega), h 9 (by omega), h 10 (by omega)]
  exact ht
def up1 (v : VW) (p : List Nat) (k : Nat) (T : Nat → BR) : Nat → BR := fun w => if k ≤ w then upB v w (T w) p else T w
def um1 (v : VW) (p : List Nat) (k : Nat) (so : Nat → Nat) : Nat → Nat := fun w => if k ≤ w then upM v w (so w) p else so w
theorem up1_step (v : VW) (p : List Nat) (k : Nat) (T : Nat → BR) : up1 v p (k + 1) (fun w => if w = k then upB v k (T k) p else T w) = up1 v p k T := by
  funext w
  unfold up1
  dsimp only
  by_cases h : w = k
  · subst h
    rw [if_neg (by omega), if_pos rfl, if_pos (Nat.le_refl w)]
  · by_cases h2 : k + 1 ≤ w
    · rw [if_pos h2, if_neg h, if_pos (by omega)]
    · rw [if_neg h2, if_neg h, if_neg (by omega)]
theorem um1_step (v : VW) (p : List Nat) (k : Nat) (so : Nat → Nat) : um1 v p (k + 1) (fun w => if w = k then upM v k (so k) p else so w) = um1 v p k so := by
  funext w
  unfold um1
  dsimp only
  by_cases h : w = k
  · subst h
    rw [if_neg (by omega), if_pos rfl, if_pos (Nat.le_refl w)]
  · by_cases h2 : k + 1 ≤ w
    · rw [if_pos h2, if_neg h, if_pos (by omega)]
    · rw [if_neg h2, if_neg h, if_neg (by omega)]
theorem note30 (N : Nat) {v : VW} (hw : wfV v) {p : List Nat} (hp : gdN v p) : ∀ (n : Nat) {S : ST} {k : Nat} {T : Nat → BR} {so : Nat → Nat}, 1 ≤ k → k ≤ 64 → 64 < k + n → tbM T so S → wM (walkS v p) S →
    ∃ S', b_X5_note_30 N n S (nI p.length) (nI (cdS p)) (nI k) = some S' ∧ tbM (up1 v p k T) (um1 v p k so) S' ∧ ∀ i, i < 6 ∨ 10 < i → S' i = S i := by
  have h6 := gd_len hp
  have hpu := hw.2.2.1
  obtain ⟨g1, g2, g3, g4, g5, g6, g7, g8, g9⟩ := id hp
  intro n
  induction n with
  | zero => intro S k T so _ z1 z2; omega
  | succ n ih =>
    intro S k T so hk1 hk2 hn ht hm
    obtain ⟨m1, m2, m3, m4, m5⟩ := id hm
    rw [b_X5_note_30]
    by_cases he : 64 ≤ k
    · rw [if_pos (show (64 : Int32) ≤ nI k from (nI_leI (a := 64) (by decide) (by omega)).mpr he)]
      refine ⟨S, rfl, fun w hw' => ?_, fun _ _ => rfl⟩
      have e1 : up1 v p k T w = T w := by unfold up1; rw [if_neg (by omega)]
      have e2 : um1 v p k so w = so w := by unfold um1; rw [if_neg (by omega)]
      rw [e1, e2]
      exact ht w hw'
    · have hk : k < 64 := by omega
      obtain ⟨t1, t2, t3, t4, t5, t6, t7, t8⟩ := ht k hk
      have i64 := ixo (k := k) (L := 64) hk (by decide)
      unfold b_X5_note_83 b_X5_note_87 b_X5_note_88 b_X5_note_129 b_X5_note_160 b_X5_note_161
      dsimp only
      simp only [if_neg i64, nm_s]
      rw [if_neg (show ¬ (64 : Int32) ≤ nI k from fun q => he ((nI_leI (a := 64) (by decide) (by omega)).mp q)), nI_clamp (n := k) (by omega), m2, m5, m4, nI_1, t1, t2, if_neg (show ¬ (1 : Int32) = 0 by decide)]
      have es : (nI k &&& (nI (walkS v p).2.1 ^^^ (-1)) = 0) ↔ subN k (walkS v p).2.1 := F14 k hk _ g2
      have e1 : (nI (walkS v p).2.2.2.2 < nI (T k).1) ↔ (walkS v p).2.2.2.2 < (T k).1 := nI_ltI (by omega) (by omega)
      have e2 : (nI (walkS v p).2.2.2.2 = nI (T k).1) ↔ (walkS v p).2.2.2.2 = (T k).1 := nI_eq (by omega) (by omega)
      have e3 : (nI (T k).2.1 ≤ nI p.length) ↔ (T k).2.1 ≤ p.length := nI_leI (by omega) (by omega)
      simp only [es, e1, e2, e3]
      by_cases hs : subN k (walkS v p).2.1
      · rw [if_pos hs]
        -- behind the better one or not: the soonest
        have soon : ∀ {S1 : ST} {T1 : Nat → BR}, tbM T1 so S1 → wM (walkS v p) S1 → (∀ i, i < 6 ∨ 10 < i → S1 i = S i) → T1 = (fun w => if w = k then upB v k (T k) p else T w) →
            ∃ S', (if S1 10 k ≤ S1 0 7 then b_X5_note_30 N n (us S1 10 k (S1 10 k)) (nI p.length) (nI (cdS p)) (nI (k + 1)) else b_X5_note_30 N n (us S1 10 k (S1 0 7)) (nI p.length) (nI (cdS p)) (nI (k + 1))) = some S' ∧ tbM (up1 v p k T) (um1 v p k so) S' ∧ ∀ i, i < 6 ∨ 10 < i → S' i = S i := by
          intro S1 T1 ht1 hm1 ho1 hT1
          have q5 := (ht1 k hk).2.2.2.2.1
          rw [q5, hm1.2.2.2.1]
          have e4 : (nI (so k) ≤ nI (walkS v p).2.2.2.1) ↔ so k ≤ (walkS v p).2.2.2.1 := nI_leI (by omega) (by omega)
          simp only [e4]
          have key : ∀ x : Nat, x = upM v k (so k) p → ∃ S', b_X5_note_30 N n (us S1 10 k (nI x)) (nI p.length) (nI (cdS p)) (nI (k + 1)) = some S' ∧ tbM (up1 v p k T) (um1 v p k so) S' ∧ ∀ i, i < 6 ∨ 10 < i → S' i = S i := by
            intro x hx
            have hxl : upM v k (so k) p ≤ 1000000 := by unfold upM; split <;> omega
            have ht2 : tbM T1 (fun w => if w = k then upM v k (so k) p else so w) (us S1 10 k (nI x)) := by
              intro w hw'
              obtain ⟨u1, u2, u3, u4, u5, u6, u7, u8⟩ := ht1 w hw'
              rw [us_n _ _ _ _ (show 6 ≠ 10 by decide), us_n _ _ _ _ (show 7 ≠ 10 by decide), us_n _ _ _ _ (show 8 ≠ 10 by decide), us_n _ _ _ _ (show 9 ≠ 10 by decide), us_r]
              dsimp only
              by_cases hwk : w = k
              · subst hwk
                rw [pk_us, if_pos rfl, hx]
                exact ⟨u1, u2, u3, u4, rfl, u6, u7, hxl⟩
              · rw [pk_un hwk, if_neg hwk]
                exact ⟨u1, u2, u3, u4, u5, u6, u7, u8⟩
            obtain ⟨S', e', a1, a2⟩ := ih (k := k + 1) (by omega) (by omega) (by omega) ht2 (by unfold wM; rw [us_n _ _ _ _ (show 0 ≠ 10 by decide)]; exact hm1)
            rw [hT1, up1_step, um1_step] at a1
            exact ⟨S', e', a1, fun i hi => by rw [a2 i hi, us_n _ _ _ _ (by omega), ho1 i hi]⟩
          by_cases h4 : so k ≤ (walkS v p).2.2.2.1
          · rw [if_pos h4]
            exact key _ (by unfold upM; rw [if_neg (fun z => by have := z.2; omega)])
          · rw [if_neg h4]
            exact key _ (by unfold upM; rw [if_pos ⟨hs, by omega⟩])
        have yes : betS (walkS v p).2.2.2.2 p.length (T k) → ∃ S', (if us (us (us (us S 6 k (nI (walkS v p).2.2.2.2)) 7 k (nI p.length)) 8 k (us (us S 6 k (nI (walkS v p).2.2.2.2)) 7 k (nI p.length) 0 7)) 9 k (nI (cdS p)) 10 k ≤ us (us (us (us S 6 k (nI (walkS v p).2.2.2.2)) 7 k (nI p.length)) 8 k (us (us S 6 k (nI (walkS v p).2.2.2.2)) 7 k (nI p.length) 0 7)) 9 k (nI (cdS p)) 0 7 then b_X5_note_30 N n (us (us (us (us (us S 6 k (nI (walkS v p).2.2.2.2)) 7 k (nI p.length)) 8 k (us (us S 6 k (nI (walkS v p).2.2.2.2)) 7 k (nI p.length) 0 7)) 9 k (nI (cdS p))) 10 k (us (us (us (us S 6 k (nI (walkS v p).2.2.2.2)) 7 k (nI p.length)) 8 k (us (us S 6 k (nI (walkS v p).2.2.2.2)) 7 k (nI p.length) 0 7)) 9 k (nI (cdS p)) 10 k)) (nI p.length) (nI (cdS p)) (nI (k + 1)) else b_X5_note_30 N n (us (us (us (us (us S 6 k (nI (walkS v p).2.2.2.2)) 7 k (nI p.length)) 8 k (us (us S 6 k (nI (walkS v p).2.2.2.2)) 7 k (nI p.length) 0 7)) 9 k (nI (cdS p))) 10 k (us (us (us (us S 6 k (nI (walkS v p).2.2.2.2)) 7 k (nI p.length)) 8 k (us (us S 6 k (nI (walkS v p).2.2.2.2)) 7 k (nI p.length) 0 7)) 9 k (nI (cdS p)) 0 7)) (nI p.length) (nI (cdS p)) (nI (k + 1))) = some S' ∧ tbM (up1 v p k T) (um1 v p k so) S' ∧ ∀ i, i < 6 ∨ 10 < i → S' i = S i := by
          intro hbe
          have e07 : us (us S 6 k (nI (walkS v p).2.2.2.2)) 7 k (nI p.length) 0 7 = nI (walkS v p).2.2.2.1 := by rw [us_n _ _ _ _ (by decide), us_n _ _ _ _ (by decide)]; exact m4
          rw [e07]
          refine soon (T1 := fun w => if w = k then upB v k (T k) p else T w) (fun w hw' => ?_) ?_ (fun i hi => by rw [us_n _ _ _ _ (by omega), us_n _ _ _ _ (by omega), us_n _ _ _ _ (by omega), us_n _ _ _ _ (by omega)]) rfl
          · obtain ⟨u1, u2, u3, u4, u5, u6, u7, u8⟩ := ht w hw'
            have c6 : us (us (us (us S 6 k (nI (walkS v p).2.2.2.2)) 7 k (nI p.length)) 8 k (nI (walkS v p).2.2.2.1)) 9 k (nI (cdS p)) 6 = upd (S 6) k (nI (walkS v p).2.2.2.2) := by rw [us_n _ _ _ _ (by decide), us_n _ _ _ _ (by decide), us_n _ _ _ _ (by decide), us_r]
            have c7 : us (us (us (us S 6 k (nI (walkS v p).2.2.2.2)) 7 k (nI p.length)) 8 k (nI (walkS v p).2.2.2.1)) 9 k (nI (cdS p)) 7 = upd (S 7) k (nI p.length) := by rw [us_n _ _ _ _ (by decide), us_n _ _ _ _ (by decide), us_r, us_n _ _ _ _ (by decide)]
            have c8 : us (us (us (us S 6 k (nI (walkS v p).2.2.2.2)) 7 k (nI p.length)) 8 k (nI (walkS v p).2.2.2.1)) 9 k (nI (cdS p)) 8 = upd (S 8) k (nI (walkS v p).2.2.2.1) := by rw [us_n _ _ _ _ (by decide), us_r, us_n _ _ _ _ (by decide), us_n _ _ _ _ (by decide)]
            have c9 : us (us (us (us S 6 k (nI (walkS v p).2.2.2.2)) 7 k (nI p.length)) 8 k (nI (walkS v p).2.2.2.1)) 9 k (nI (cdS p)) 9 = upd (S 9) k (nI (cdS p)) := by rw [us_r, us_n _ _ _ _ (by decide), us_n _ _ _ _ (by decide), us_n _ _ _ _ (by decide)]
            have c10 : us (us (us (us S 6 k (nI (walkS v p).2.2.2.2)) 7 k (nI p.length)) 8 k (nI (walkS v p).2.2.2.1)) 9 k (nI (cdS p)) 10 = S 10 := by rw [us_n _ _ _ _ (by decide), us_n _ _ _ _ (by decide), us_n _ _ _ _ (by decide), us_n _ _ _ _ (by decide)]
            rw [c6, c7, c8, c9, c10]
            dsimp only
            by_cases hwk : w = k
            · subst hwk
              rw [pk_us, pk_us, pk_us, pk_us, if_pos rfl]
              have eu : upB v w (T w) p = ((walkS v p).2.2.2.2, p.length, (walkS v p).2.2.2.1, p) := by unfold upB; rw [if_pos ⟨hs, hbe⟩]
              rw [eu]
              exact ⟨rfl, rfl, rfl, rfl, u5, by show (walkS v p).2.2.2.2 ≤ _; omega, by show p.length ≤ _; omega, u8⟩
            · rw [pk_un hwk, pk_un hwk, pk_un hwk, pk_un hwk, if_neg hwk]
              exact ⟨u1, u2, u3, u4, u5, u6, u7, u8⟩
          · unfold wM
            rw [us_n _ _ _ _ (show 0 ≠ 9 by decide), us_n _ _ _ _ (show 0 ≠ 8 by decide), us_n _ _ _ _ (show 0 ≠ 7 by decide), us_n _ _ _ _ (show 0 ≠ 6 by decide)]
            exact hm
        have no : ¬ betS (walkS v p).2.2.2.2 p.length (T k) → ∃ S', (if S 10 k ≤ S 0 7 then b_X5_note_30 N n (us S 10 k (S 10 k)) (nI p.length) (nI (cdS p)) (nI (k + 1)) else b_X5_note_30 N n (us S 10 k (S 0 7)) (nI p.length) (nI (cdS p)) (nI (k + 1))) = some S' ∧ tbM (up1 v p k T) (um1 v p k so) S' ∧ ∀ i, i < 6 ∨ 10 < i → S' i = S i := by
          intro hbe
          refine soon (T1 := T) ht hm (fun _ _ => rfl) ?_
          funext w
          by_cases hwk : w = k
          · subst hwk
            rw [if_pos rfl]
            unfold upB
            rw [if_neg (fun z => hbe z.2)]
          · rw [if_neg hwk]
        by_cases h1 : (walkS v p).2.2.2.2 < (T k).1
        · rw [if_pos h1]
          have := yes (Or.inl h1)
          rw [m4] at *
          exact this
        · rw [if_neg h1]
          by_cases h2 : (walkS v p).2.2.2.2 = (T k).1
          · rw [if_pos h2]
            by_cases h3 : (T k).2.1 ≤ p.length
            · rw [if_pos h3]
              have := no (fun z => z.elim h1 (fun q => by omega))
              rw [m4] at *
              exact this
            · rw [if_neg h3]
              have := yes (Or.inr ⟨h2, by omega⟩)
              rw [m4] at *
              exact this
          · rw [if_neg h2]
            have := no (fun z => z.elim h1 (fun q => h2 q.1))
            rw [m4] at *
            exact this
      · rw [if_neg hs]
        obtain ⟨S', e', a1, a2⟩ := ih (k := k + 1) (by omega) (by omega) (by omega) ht hm
        refine ⟨S', e', ?_, a2⟩
        have f1 : up1 v p (k + 1) T = up1 v p k T := by
          rw [← up1_step v p k T]
          congr 1
          funext w
          by_cases hwk : w = k
          · subst hwk
            rw [if_pos rfl]
            unfold upB
            rw [if_neg (fun z => hs z.1)]
          · rw [if_neg hwk]
        have f2 : um1 v p (k + 1) so = um1 v p k so := by
          rw [← um1_step v p k so]
          congr 1
          funext w
          by_cases hwk : w = k
          · subst hwk
            rw [if_pos rfl]
            unfold upM
            rw [if_neg (fun z => hs z.1)]
          · rw [if_neg hwk]
        rw [← f1, ← f2]
        exact a1
