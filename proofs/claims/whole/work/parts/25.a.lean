-- the street that is being read
def mkD (S : ST) : ST := fun i => if i = 10 then (fun k => if k = 7 ∨ k = 11 ∨ k = 13 then 0 else if k = 8 then 1 else S 10 k) else S i
def gM (S : ST) : Nat → Int32 := fun k => if k = 259 then S 0 14 else if k = 31 ∨ k = 46 ∨ k = 260 then 0 else if k = 32 then 1 else S 5 k
def DC (u : VW) (SC : ST) : Prop := rlC u (mkD SC) 10
def DM (u : VW) (SM : ST) : Prop := rlM u (gM SM)
theorem mkD_o {S : ST} {i : Nat} (h : i ≠ 10) : mkD S i = S i := if_neg h
theorem mkD_10 {S : ST} {k : Nat} (h : k ≠ 7 ∧ k ≠ 8 ∧ k ≠ 11 ∧ k ≠ 13) : mkD S 10 k = S 10 k := by
  unfold mkD
  rw [if_pos rfl, if_neg (by omega), if_neg (by omega)]
theorem mkD_us (S : ST) {n k : Nat} (x : Int32) (h : n = 10 → k ≠ 7 ∧ k ≠ 8 ∧ k ≠ 11 ∧ k ≠ 13) : mkD (us S n k x) = us (mkD S) n k x := by
  funext i j
  by_cases hi : i = 10
  · subst hi
    by_cases hn : n = 10
    · subst hn
      by_cases hj : j = k
      · subst hj
        rw [us_s, mkD_10 (h rfl), us_s]
      · rw [us_k _ _ _ _ hj]
        unfold mkD
        rw [if_pos rfl, if_pos rfl, us_k _ _ _ _ hj]
    · rw [us_n _ _ _ _ (Ne.symm hn)]
      unfold mkD
      rw [if_pos rfl, if_pos rfl, us_n _ _ _ _ (Ne.symm hn)]
  · rw [mkD_o hi]
    by_cases hn : i = n
    · subst hn
      rw [us_r, us_r, mkD_o hi]
    · rw [us_n _ _ _ _ hn, us_n _ _ _ _ hn, mkD_o hi]
theorem gM_5 (S : ST) {k : Nat} (x : Int32) (h : k ≠ 259 ∧ k ≠ 31 ∧ k ≠ 46 ∧ k ≠ 260 ∧ k ≠ 32) : gM (us S 5 k x) = upd (gM S) k x := by
  funext j
  unfold gM upd
  rw [us_n _ _ _ _ (show 0 ≠ 5 by decide)]
  by_cases hj : j = k
  · subst hj
    rw [if_neg (by omega), if_neg (by omega), if_neg (by omega), us_s, if_pos rfl]
  · rw [us_k _ _ _ _ hj, if_neg hj]
theorem gM_14 (S : ST) (x : Int32) : gM (us S 0 14 x) = upd (gM S) 259 x := by
  funext j
  unfold gM upd
  rw [us_s, us_n _ _ _ _ (show 5 ≠ 0 by decide)]
  by_cases hj : j = 259
  · rw [if_pos hj, if_pos hj]
  · rw [if_neg hj, if_neg hj]
    show _ = if j = 259 then S 0 14 else _
    rw [if_neg hj]
theorem gM_same {S S' : ST} (h5 : S' 5 = S 5) (h14 : S' 0 14 = S 0 14) : gM S' = gM S := by
  unfold gM
  rw [h5, h14]
theorem DC_fr {u : VW} {SC SC' : ST} (hc : ∀ i, 10 ≤ i ∧ i < 20 → SC' i = SC i) (h : DC u SC) : DC u SC' := by
  refine rlC_sm (fun k hk => ?_) h
  by_cases e : k = 0
  · subst e
    unfold mkD
    rw [if_pos rfl, if_pos rfl, hc 10 (by omega)]
  · rw [mkD_o (by omega), mkD_o (by omega), hc _ (by omega)]
theorem DC_n {u : VW} {SC : ST} (a : DC u SC) : SC 10 0 = nI (u 0 0) ∧ SC 10 6 = nI (u 0 1) ∧ SC 10 9 = nI (u 0 4) := by
  have a1 := a.1
  have a2 := a.2.1
  have a3 := a.2.2.2.2.1
  rw [mkD_10 (by decide)] at a1 a2 a3
  exact ⟨a1, a2, a3⟩
theorem DM_n {u : VW} {SM : ST} (b : DM u SM) : SM 0 14 = nI (u 0 0) ∧ SM 5 30 = nI (u 0 1) ∧ SM 5 33 = nI (u 0 4) := ⟨b.1, b.2.1, b.2.2.2.2.1⟩
def RD (v : VW) (s l k : Nat) (SC SM : ST) : Prop := rlC v SC 0 ∧ rlM v (SM 1) ∧ TK v s l k SC SM ∧ SC 49 1 = -1
abbrev frR (SC SC' SM SM' : ST) : Prop := (∀ i, i ≠ 49 → SC' i = SC i) ∧ (∀ i, i ≠ 0 → SM' i = SM i) ∧ SM' 0 14 = SM 0 14
theorem adv {N : Nat} (hN : 400000 ≤ N) {v : VW} (hw : wfV v) {s l k : Nat} {SC SM : ST} (h : RD v s l k SC SM) : ∃ SC' SM' s' l' k', f_X0_goToToken N SC = some SC' ∧ f_X5_goOn N SM = some SM' ∧ RD v s' l' k' SC' SM' ∧ s + l ≤ s' ∧ SM' 0 15 = SM 0 15 ∧ frR SC SC' SM SM' := by
  obtain ⟨rc, rm, tk, ft⟩ := h
  obtain ⟨t1, t2, t3, t4, t5, t6, t7, t8, t9, t10, t11, t12⟩ := id tk
  obtain ⟨S1, T1, s1, l1, k1, e1, d1, q1, q2, f1, g1⟩ := tok_step hN hw rc rm t8 t9 t1
  refine ⟨S1, T1, s1, l1, k1, e1, ?_, ⟨rlC_49 f1 rc, rlM_0 g1 rm, q1, ?_⟩, q2, g1.2 15 (by decide), f1.1, g1.1, g1.2 14 (by decide)⟩
  · unfold f_X5_goOn
    rw [t5, t6, nI_add, d1, bd1_s]
  · rw [f1.2 1 (by decide)]; exact ft
theorem RD_M {v : VW} {s l k : Nat} {SC SM SM' : ST} (h1 : SM' 1 = SM 1) (hk : ∀ j, kU j → SM' 0 j = SM 0 j) (h : RD v s l k SC SM) : RD v s l k SC SM' := by
  obtain ⟨rc, rm, tk, ft⟩ := h
  refine ⟨rc, by rw [h1]; exact rm, ?_, ft⟩
  unfold TK
  rw [hk 9 (by decide), hk 10 (by decide), hk 11 (by decide), hk 12 (by decide)]
  exact tk
theorem RD_C {v : VW} {s l k : Nat} {SC SC' SM : ST} (hc : ∀ i, i < 10 ∨ i = 49 → SC' i = SC i) (h : RD v s l k SC SM) : RD v s l k SC' SM := by
  obtain ⟨rc, rm, tk, ft⟩ := h
  refine ⟨rlC_sm (fun k hk => hc _ (by omega)) rc, rm, ?_, by rw [hc 49 (by omega)]; exact ft⟩
  unfold TK
  rw [hc 49 (by omega)]
  exact tk
theorem RD_15 {v : VW} {s l k : Nat} {SC SM : ST} (h : RD v s l k SC SM) (x : Int32) : RD v s l k SC (us SM 0 15 x) := RD_M (us_n _ _ _ _ (by decide)) (fun j hj => us_k _ _ _ _ (by omega)) h
theorem c_fail0 (N : Nat) {S : ST} (h : S 49 1 = -1) : f_X0_fail N S = some (us S 49 1 (S 49 7)) := by
  unfold f_X0_fail
  rw [if_pos h, nm_s]
theorem c_fail1 (N : Nat) {S : ST} (h : ¬ S 49 1 = -1) : f_X0_fail N S = some S := by
  unfold f_X0_fail
  rw [if_neg h]
theorem num_step {N : Nat} (hN : 400000 ≤ N) {v : VW} (hw : wfV v) {s l k : Nat} {SC SM : ST} (h : RD v s l k SC SM) {lo hi : Int32} (hlo : 0 ≤ lo.toInt) :
    (∃ (m : Nat) (SC' SM' : ST) (s' l' k' : Nat), m ≤ 999 ∧ lo.toInt ≤ (m : Int) ∧ (m : Int) ≤ hi.toInt ∧ k = 2 ∧ SM 0 12 = nI m ∧ f_X0_takeNumber N SC lo hi = some (nI m, SC') ∧ f_X5_takesNumber N SM lo hi = some (1, SM') ∧ SM' 0 15 = nI m ∧ RD v s' l' k' SC' SM' ∧ s < s' ∧ frR SC SC' SM SM') ∨
    (f_X0_takeNumber N SC lo hi = some (0, us SC 49 1 (nI s)) ∧ f_X5_takesNumber N SM lo hi = some (0, SM) ∧ ¬ (k = 2 ∧ ∃ m : Nat, m ≤ 999 ∧ SM 0 12 = nI m ∧ lo.toInt ≤ (m : Int) ∧ (m : Int) ≤ hi.toInt)) := by
  obtain ⟨rc, rm, tk, ft⟩ := id h
  obtain ⟨t1, t2, t3, t4, t5, t6, t7, t8, t9, t10, t11, t12⟩ := id tk
  unfold f_X0_takeNumber f_X5_takesNumber b_X0_takeNumber_28
  rw [if_pos ft, c_fail0 N ft, t10, bd1_s, t7]
  by_cases hk : k = 2
  · obtain ⟨m, hm, m1, m2⟩ := t12 hk
    have c6 : SC 49 6 = 2 := by
      rcases t11 with ⟨-, e⟩ | ⟨e, -⟩
      · rw [e, hk]; rfl
      · omega
    rw [c6, hk, if_pos (show (2 : Int32) = 2 from rfl), if_pos (show nI 2 = 2 from rfl), m1, m2, c_isIn, m_in, bd2_s, bd2_s, Int32.toInt_toInt64, Int32.toInt_toInt64, Int32.toInt_toInt64, nt (by omega), tf_if, tf_if]
    by_cases hr : lo.toInt ≤ (m : Int) ∧ (m : Int) ≤ hi.toInt
    · left
      rw [if_pos hr, if_pos hr, nm_s]
      have h15 := RD_15 h (nI m)
      obtain ⟨S1, T1, s1, l1, k1, e1, d1, q1, q2, q3, q4⟩ := adv hN hw h15
      rw [e1, bd1_s, m1, d1, bd1_s, m2]
      have := t4 (by omega)
      exact ⟨m, S1, T1, s1, l1, k1, hm, hr.1, hr.2, rfl, rfl, rfl, rfl, by rw [q3, us_s], q1, by omega, q4.1, fun i hi => by rw [q4.2.1 i hi, us_n _ _ _ _ hi], by rw [q4.2.2, us_k _ _ _ _ (by decide)]⟩
    · right
      rw [if_neg hr, if_neg hr, c_fail0 N ft, bd1_s, t10]
      refine ⟨rfl, rfl, ?_⟩
      rintro ⟨-, m', a1, a2, a3, a4⟩
      have : m = m' := (nI_eq (by omega) (by omega)).mp a2
      exact hr ⟨by omega, by omega⟩
  · right
    rw [if_neg (show ¬ nI k = 2 from fun z => hk ((nI_eq (b := 2) (by omega) (by decide)).mp z))]
    refine ⟨?_, rfl, fun z => hk z.1⟩
    rcases t11 with ⟨-, e⟩ | ⟨-, e | ⟨e, e8⟩⟩
    · rw [e, if_neg (show ¬ nI k = 2 from fun z => hk ((nI_eq (b := 2) (by omega) (by decide)).mp z))]
    · rw [e, if_neg (by decide)]
    · rw [e, e8, if_pos (show (2 : Int32) = 2 from rfl), c_isIn, bd2_s, tf_if, if_neg (fun z => by have := z.1; rw [show (-1 : Int32).toInt = -1 from rfl] at this; omega), c_fail0 N ft, bd1_s, t10]
theorem ft_n {q : Nat} (h : q ≤ 200) : ¬ nI q = (-1 : Int32) := nI_ne_m1 (by omega)
theorem num_bad (N : Nat) {S : ST} (h : ¬ S 49 1 = -1) (lo hi : Int32) : f_X0_takeNumber N S lo hi = some (0, S) := by
  unfold f_X0_takeNumber b_X0_takeNumber_28
  rw [if_neg h, c_fail1 N h, bd1_s]
theorem stop_bad (N : Nat) {S : ST} (h : ¬ S 49 1 = -1) : f_X0_takeStop N S = some (0, S) := by
  unfold f_X0_takeStop b_X0_takeStop_16
  rw [if_neg h, c_fail1 N h, bd1_s]
theorem stop_step {N : Nat} (hN : 400000 ≤ N) {v : VW} (hw : wfV v) {s l k : Nat} {SC SM : ST} (h : RD v s l k SC SM) :
    (∃ SC' SM' s' l' k', SM 0 11 = 3 ∧ f_X0_takeStop N SC = some (1, SC') ∧ f_X5_goOn N SM = some SM' ∧ RD v s' l' k' SC' SM' ∧ s < s' ∧ frR SC SC' SM SM') ∨
    (¬ SM 0 11 = 3 ∧ f_X0_takeStop N SC = some (0, us SC 49 1 (nI s))) := by
  obtain ⟨rc, rm, tk, ft⟩ := id h
  obtain ⟨t1, t2, t3, t4, t5, t6, t7, t8, t9, t10, t11, t12⟩ := id tk
  unfold f_X0_takeStop b_X0_takeStop_16
  rw [if_pos ft, c_fail0 N ft, t10, bd1_s, t7]
  by_cases hk : k = 3
  · left
    have c6 : SC 49 6 = 3 := by
      rcases t11 with ⟨-, e⟩ | ⟨e, -⟩
      · rw [e, hk]; rfl
      · omega
    obtain ⟨S1, T1, s1, l1, k1, e1, d1, q1, q2, q3, q4⟩ := adv hN hw h
    have := t4 (by omega)
    refine ⟨S1, T1, s1, l1, k1, by rw [hk]; rfl, ?_, d1, q1, by omega, q4⟩
    rw [c6, if_pos (show (3 : Int32) = 3 from rfl), e1, bd1_s]
  · right
    refine ⟨fun z => hk ((nI_eq (b := 3) (by omega) (by decide)).mp z), ?_⟩
    rw [if_neg]
    rcases t11 with ⟨-, e⟩ | ⟨-, e | ⟨e, -⟩⟩
    · rw [e]; exact fun z => hk ((nI_eq (b := 3) (by omega) (by decide)).mp z)
    · rw [e]; decide
    · rw [e]; decide
-- words
abbrev isW (v : VW) (s l k n : Nat) (w : Nat → Nat) : Prop := k = 1 ∧ l = n ∧ ∀ j, j < n → v 7 (s + j) = w j
theorem c_isWord {N : Nat} (hN : 10 ≤ N) {v : VW} (hw : wfV v) {s l k : Nat} {SC SM : ST} (rc : rlC v SC 0) (tk : TK v s l k SC SM) {i n : Nat} (hn : n ≤ 4) (hlen : lenW.getD i 0 = n) (w : Nat → Nat) (hb : ∀ j, j < n → (bytW.getD i []).getD j 0 = nI (w j)) (hw2 : ∀ j, j < n → w j < 256) : f_X0_isWord N i SC = some (tf (isW v s l k n w), SC) := by
  have t200 := hw.2.2.2.2.2.1
  obtain ⟨t1, t2, t3, t4, t5, t6, t7, t8, t9, t10, t11, t12⟩ := tk
  have loop : ∀ (f : Nat) {j : Nat}, k = 1 → l = n → j ≤ n → n < j + f → (∀ q, q < j → v 7 (s + q) = w q) → b_X0_isWord_28 N i f SC (nI j) = some (tf (isW v s l k n w), SC) := by
    intro f
    induction f with
    | zero => intro j _ _ _ h; omega
    | succ f ih =>
      intro j hk hl hj hf hm
      rw [b_X0_isWord_28, hlen, t10, nI_add]
      by_cases he : n ≤ j
      · rw [if_pos ((nI_leI (by omega) (by omega)).mpr he), tf_t ⟨hk, hl, fun q hq => hm q (by omega)⟩]
      · have hbq := hw.2.2.2.2.2.2.2.2.2.2.1 (s + j) (by omega)
        have := hw2 j (by omega)
        rw [if_neg (fun z => he ((nI_leI (by omega) (by omega)).mp z)), ck (by omega) (by decide), ck (by omega) (by omega), nI_clamp (by omega), nI_clamp (by omega), c_byte rc (by omega), hb j (by omega), nI_1]
        by_cases hq : v 7 (s + j) = w j
        · rw [if_pos (show nI (v 7 (s + j)) = nI (w j) by rw [hq])]
          exact ih hk hl (by omega) (by omega) (fun q h => by
            by_cases e : q = j
            · rw [e]; exact hq
            · exact hm q (by omega))
        · rw [if_neg (fun z => hq ((nI_eq (by omega) (by omega)).mp z)), tf_f (fun z => hq (z.2.2 j (by omega)))]
  unfold f_X0_isWord
  by_cases hk : k = 1
  · have c6 : SC 49 6 = 1 := by
      rcases t11 with ⟨-, e⟩ | ⟨e, -⟩
      · rw [e, hk]; rfl
      · omega
    rw [c6, if_pos (show (1 : Int32) = 1 from rfl), t9, t10, pk_sub (by omega), Nat.add_sub_cancel_left, hlen]
    by_cases hl : l = n
    · rw [if_pos (by rw [hl])]
      exact loop N (j := 0) hk hl (Nat.zero_le _) (by omega) (fun q h => by omega)
    · rw [if_neg (fun z => hl ((nI_eq (by omega) (by omega)).mp z)), tf_f (fun z => hl z.2.1)]
  · rw [if_neg, tf_f (fun z => hk z.1)]
    rcases t11 with ⟨-, e⟩ | ⟨-, e | ⟨e, -⟩⟩
    · rw [e]; exact fun z => hk ((nI_eq (b := 1) (by omega) (by decide)).mp z)
    · rw [e]; decide
    · rw [e]; decide
theorem m_isWord {N : Nat} (hN : 10 ≤ N) {v : VW} (hw : wfV v) {s l k : Nat} {SC SM : ST} (rm : rlM v (SM 1)) (tk : TK v s l k SC SM) {n : Nat} (hn : n = 3 ∨ n = 4) (w : Nat → Nat) {x1 x2 x3 x4 : Int32} (h1 : x1 = nI (w 0)) (h2 : x2 = nI (w 1)) (h3 : x3 = nI (w 2)) (h4 : (n = 3 ∧ x4 = 0) ∨ (n = 4 ∧ x4 = nI (w 3) ∧ ¬ x4 = 0)) (hw2 : ∀ j, j < n → w j < 256) : f_X5_isWord N SM x1 x2 x3 x4 = some (tf (isW v s l k n w), SM) := by
  have t200 := hw.2.2.2.2.2.1
  have hnN : n < 0 + N := by omega
  obtain ⟨t1, t2, t3, t4, t5, t6, t7, t8, t9, t10, t11, t12⟩ := tk
  obtain ⟨N', hN'⟩ : ∃ N', N = N' + 1 := ⟨N - 1, by omega⟩
  have zero : ∀ (f j : Nat), j ≤ n → ¬ isW v s l k n w → b_X5_isWord_39 N (f + 1) SM x1 x2 x3 x4 (nI n) 0 (nI j) = some (tf (isW v s l k n w), SM) := by
    intro f j hj hno
    rw [b_X5_isWord_39, if_pos (Or.inl rfl), tf_f hno]
    simp
  have loop : ∀ (f : Nat) {j : Nat}, k = 1 → l = n → j ≤ n → n < j + f → (∀ q, q < j → v 7 (s + q) = w q) → b_X5_isWord_39 N f SM x1 x2 x3 x4 (nI n) 1 (nI j) = some (tf (isW v s l k n w), SM) := by
    intro f
    induction f with
    | zero => intro j _ _ _ h; omega
    | succ f ih =>
      intro j hk hl hj hf hm
      rw [b_X5_isWord_39, t5, nI_add]
      by_cases he : n ≤ j
      · rw [if_pos ((nI_leI (by omega) (by omega)).mpr he), if_pos (Or.inr rfl), tf_t ⟨hk, hl, fun q hq => hm q (by omega)⟩]
      · have hbq := hw.2.2.2.2.2.2.2.2.2.2.1 (s + j) (by omega)
        have hwj := hw2 j (by omega)
        rw [if_neg (fun z => he ((nI_leI (by omega) (by omega)).mp z)), if_neg (show ¬ (1 : Int32) = 0 by decide), m_byte N hw rm (by omega), bd2_s]
        have step : ∀ y : Int32, y = nI (w j) → b_X5_isWord_93 N (fun S x1 x2 x3 x4 x5 x6 x7 => b_X5_isWord_39 N f S x1 x2 x3 x4 x5 x6 x7) SM x1 x2 x3 x4 (nI n) (nI j) (nI (v 7 (s + j))) y = some (tf (isW v s l k n w), SM) := by
          intro y hy
          subst hy
          unfold b_X5_isWord_93 b_X5_isWord_101
          dsimp only
          rw [nI_1]
          by_cases hq : v 7 (s + j) = w j
          · rw [if_pos (show nI (v 7 (s + j)) = nI (w j) by rw [hq])]
            exact ih hk hl (by omega) (by omega) (fun q h => by
              by_cases e : q = j
              · rw [e]; exact hq
              · exact hm q (by omega))
          · rw [if_neg (fun z => hq ((nI_eq (by omega) (by omega)).mp z))]
            obtain ⟨f', rfl⟩ : ∃ f', f = f' + 1 := ⟨f - 1, by omega⟩
            exact zero f' (j + 1) (by omega) (fun z => hq (z.2.2 j (by omega)))
        by_cases j0 : j = 0
        · rw [if_pos (show nI j = 0 by rw [j0]; rfl)]
          exact step x1 (by rw [h1, j0])
        · rw [if_neg (fun z => j0 ((nI_n0 (by omega)).mp z))]
          by_cases j1 : j = 1
          · rw [if_pos (show nI j = 1 by rw [j1]; rfl)]
            exact step x2 (by rw [h2, j1])
          · rw [if_neg (fun z => j1 ((nI_n1 (by omega)).mp z))]
            by_cases j2 : j = 2
            · rw [if_pos (show nI j = 2 by rw [j2]; rfl)]
              exact step x3 (by rw [h3, j2])
            · rw [if_neg (show ¬ nI j = 2 from fun z => j2 ((nI_eq (b := 2) (by omega) (by decide)).mp z))]
              rcases h4 with ⟨e, -⟩ | ⟨e, e4, -⟩
              · omega
              · exact step x4 (by rw [e4, show j = 3 by omega])
  have main : b_X5_isWord_10 N SM x1 x2 x3 x4 (nI n) = some (tf (isW v s l k n w), SM) := by
    unfold b_X5_isWord_10 b_X5_isWord_33 b_X5_isWord_34
    rw [t7, t6]
    have z0 : ¬ isW v s l k n w → b_X5_isWord_39 N N SM x1 x2 x3 x4 (nI n) 0 0 = some (tf (isW v s l k n w), SM) := by
      intro hno
      have := zero N' 0 (Nat.zero_le _) hno
      rw [← hN'] at this
      exact this
    by_cases hk : k = 1
    · rw [if_pos (show nI k = 1 by rw [hk]; rfl)]
      by_cases hl : l = n
      · rw [if_pos (by rw [hl])]
        exact loop N (j := 0) hk hl (Nat.zero_le _) hnN (fun q h => absurd h (Nat.not_lt_zero q))
      · rw [if_neg (fun z => hl ((nI_eq (by omega) (by omega)).mp z))]
        exact z0 (fun z => hl z.2.1)
    · rw [if_neg (show ¬ nI k = 1 from fun z => hk ((nI_n1 (by omega)).mp z))]
      exact z0 (fun z => hk z.1)
  unfold f_X5_isWord
  rcases h4 with ⟨e, e4⟩ | ⟨e, -, e4⟩
  · rw [if_pos e4]
    rw [e] at main ⊢
    exact main
  · rw [if_neg e4]
    rw [e] at main ⊢
    exact main
