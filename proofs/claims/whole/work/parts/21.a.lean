-- wanted
theorem er_len (v : VW) : (erF v 0).length = v 0 4 := by unfold erF; simp
theorem er_at (v : VW) {i : Nat} (h : i < v 0 4) : (erF v 0).getD i 0 = v 6 i := by
  unfold erF
  rw [List.getD_eq_getElem?_getD, List.getElem?_map, List.getElem?_range' (by omega)]
  simp
theorem er_in {v : VW} (hw : wfV v) : ∀ s ∈ erF v 0, s < v 0 0 := by
  intro s hs
  unfold erF at hs
  obtain ⟨i, hi, rfl⟩ := List.mem_map.mp hs
  have := (List.mem_range'_1.mp hi).2
  exact hw.2.2.2.2.2.2.2.2.2.1 i (by omega)
theorem cd_inj : ∀ (p q : List Nat), (∀ s ∈ p, s < 8) → (∀ s ∈ q, s < 8) → p.length = q.length → cdS p = cdS q → p = q := by
  intro p
  induction p with
  | nil => intro q _ _ h _; exact (List.length_eq_zero_iff.mp h.symm).symm
  | cons s r ih =>
    intro q hp hq hl hc
    cases q with
    | nil => cases hl
    | cons t u =>
      have h1 := hp s List.mem_cons_self
      have h2 := hq t List.mem_cons_self
      have hc : s + 8 * cdS r = t + 8 * cdS u := hc
      rw [show s = t by omega, ih u (fun x hx => hp x (List.mem_cons_of_mem _ hx)) (fun x hx => hq x (List.mem_cons_of_mem _ hx)) (by simpa using hl) (by omega)]
theorem list_at : ∀ (p q : List Nat), p.length = q.length → (∀ i, i < p.length → p.getD i 0 = q.getD i 0) → p = q := by
  intro p
  induction p with
  | nil => intro q h _; exact (List.length_eq_zero_iff.mp h.symm).symm
  | cons s r ih =>
    intro q hl h
    cases q with
    | nil => cases hl
    | cons t u =>
      have h0 : s = t := h 0 (by simp)
      rw [h0, ih u (by simpa using hl) (fun i hi => h (i + 1) (by simpa using hi))]
-- a row that is found goes as told
theorem tr_go {v : VW} {cl : Nat} : ∀ (d : Nat) {p q : List Nat}, q ∈ trS v cl d p → ∃ r, q = p ++ r ∧ goS v r p = (0, q) := by
  intro d
  induction d with
  | zero => intro p q h; exact absurd h List.not_mem_nil
  | succ d ih =>
    intro p q h
    unfold trS at h
    obtain ⟨s, hs, hq⟩ := List.mem_flatMap.mp h
    by_cases ho : okS v cl (walkS v p) s
    · rw [if_pos ho] at hq
      rcases List.mem_cons.mp hq with e | hq'
      · refine ⟨[s], e, ?_⟩
        unfold goS
        rw [if_pos ho.2, e]
        rfl
      · obtain ⟨r, e1, e2⟩ := ih hq'
        refine ⟨s :: r, by rw [e1]; simp, ?_⟩
        unfold goS
        rw [if_pos ho.2]
        exact e2
    · rw [if_neg ho] at hq
      exact absurd hq List.not_mem_nil
theorem fold_mem {v : VW} {w : Nat} : ∀ (l : List (List Nat)) (mb : BR), (l.foldl (upB v w) mb) = mb ∨ (l.foldl (upB v w) mb).2.2.2 ∈ l := by
  intro l
  induction l with
  | nil => intro mb; exact Or.inl rfl
  | cons q l ih =>
    intro mb
    rw [List.foldl_cons]
    rcases ih (upB v w mb q) with h | h
    · by_cases hb : subN w (walkS v q).2.1 ∧ betS (walkS v q).2.2.2.2 q.length mb
      · right
        rw [h]
        unfold upB
        rw [if_pos hb]
        exact List.mem_cons_self
      · left
        rw [h]
        unfold upB
        rw [if_neg hb]
    · exact Or.inr (List.mem_cons_of_mem _ h)
theorem be_go {v : VW} {w : Nat} (h : ¬ (beS v 6 w).1 = 1000000) : goS v (beS v 6 w).2.2.2 [] = (0, (beS v 6 w).2.2.2) := by
  unfold beS at h ⊢
  by_cases h0 : w = 0
  · rw [if_pos h0]; rfl
  · rw [if_neg h0] at h ⊢
    rcases fold_mem (v := v) (w := w) (alS v 6) b0S with e | e
    · rw [e] at h; exact absurd rfl h
    · obtain ⟨r, e1, e2⟩ := tr_go 6 e
      rw [List.nil_append] at e1
      rw [← e1] at e2
      exact e2
abbrev mtS (v : VW) (w : Nat) : Prop := ¬ (beS v 6 w).1 = 1000000 ∧ (beS v 6 w).2.2.2 = erF v 0
theorem mt_go {v : VW} (hw : wfV v) {w : Nat} (h : mtS v w) : goS v (erF v 0) [] = (0, erF v 0) ∧ subN w (walkS v (erF v 0)).2.1 := by
  have h1 := be_go h.1
  rw [h.2] at h1
  refine ⟨h1, ?_⟩
  have hb := (be_le hw).mpr h.1
  have hp := hw.2.2.1
  obtain ⟨p, a1, a2, a3⟩ := be_row hw (w := w) (cl := 6) (by omega)
  have : p = erF v 0 := by have := h.2; rw [a1] at this; exact this
  rw [← this]
  exact a3
-- the loop over all goods, as a function
def wnU (v : VW) (x : Int32) : Nat → Nat → Nat → Int32
  | 0, c, _ => if x = -1 then nI c else -5
  | d + 1, c, k => if mtS v k then (if nI c = x then nI k else wnU v x d (c + 1) (k + 1)) else wnU v x d c (k + 1)
theorem wn_no {v : VW} {x : Int32} : ∀ (d c k : Nat), (∀ w, k ≤ w → ¬ mtS v w) → wnU v x d c k = if x = -1 then nI c else -5 := by
  intro d
  induction d with
  | zero => intro c k _; rfl
  | succ d ih =>
    intro c k h
    unfold wnU
    rw [if_neg (h k (Nat.le_refl _))]
    exact ih c (k + 1) (fun w hw => h w (by omega))
theorem m_code (N : Nat) {v : VW} (hw : wfV v) {S : ST} (hr : rlM v (S 1)) (h6 : v 0 4 ≤ 6) (x : Int32) : ∀ (j n : Nat), j ≤ v 0 4 → j < n → b_X5_wanted_29 N n S x (nI (cdS ((erF v 0).drop j))) (nI j - 1) = b_X5_wanted_66 N S x (nI (cdS (erF v 0))) := by
  intro j
  have el := er_len v
  induction j with
  | zero =>
    intro n _ hn
    obtain ⟨m, rfl⟩ : ∃ m, n = m + 1 := ⟨n - 1, by omega⟩
    rw [b_X5_wanted_29, if_pos (by decide), List.drop_zero]
  | succ j ih =>
    intro n hj hn
    obtain ⟨m, rfl⟩ : ∃ m, n = m + 1 := ⟨n - 1, by omega⟩
    rw [b_X5_wanted_29, nI_m1 (by omega), Nat.add_sub_cancel, if_neg (nI_pos (by omega)), hr.2.2.2.2.1, show (7 : Int32) = nI 7 from rfl, if_neg (fun z => by have := (nI_leI (by omega) (by omega)).mp z; omega), show (34 : Int32) = nI 34 from rfl, nI_add, ck (by omega) (by decide), nI_clamp (by omega), hr.2.2.2.2.2.2.2.2.1 j (by omega), show (8 : Int32) = nI 8 from rfl, pk_mul, nI_add, show nI j + (-1) = nI j - 1 by rw [Int32.sub_eq_add_neg], ← er_at v (by omega), show 8 * cdS ((erF v 0).drop (j + 1)) + (erF v 0).getD j 0 = cdS ((erF v 0).drop j) by rw [drop_cd (j := j) (by omega)]; omega]
    exact ih m (by omega) (by omega)
theorem m_wn_loop (N : Nat) {v : VW} (hw : wfV v) (x : Int32) {S : ST} (hr : rlM v (S 1)) (ht : tbM (beS v 6) (soS v 6) S) {cd : Nat} (hcd : v 0 4 ≤ 6 → cd = cdS (erF v 0)) (hc31 : cd < 2 ^ 31) : ∀ (n d : Nat) {c k : Nat}, 2 ^ v 0 0 = k + d → d < n → b_X5_wanted_71 N n S x (nI cd) (nI c) (nI k) = some (wnU v x d c k, S) := by
  have n6 := hw.1
  have h63 := p2_le n6
  have b12 := hw.2.2.2.2.1
  intro n
  induction n with
  | zero => intro d c k _ h; omega
  | succ n ih =>
    intro d c k hd hn
    have hp := Nat.two_pow_pos (v 0 0)
    rw [b_X5_wanted_71, f_X5_shops, bd2_s, hr.1, one_shl (by omega)]
    cases d with
    | zero =>
      rw [if_pos ((nI_leI (by omega) (by omega)).mpr (by omega))]
      unfold wnU
      split <;> rfl
    | succ d =>
      have i64 := ixo (k := k) (L := 64) (by omega) (by decide)
      obtain ⟨t6, t7, -, t9, -, tl, -⟩ := ht k (by omega)
      rw [if_neg (fun z => by have := (nI_leI (by omega) (by omega)).mp z; omega)]
      simp only [if_neg i64]
      unfold b_X5_wanted_133
      dsimp only
      rw [nI_clamp (by omega), t6, t7, t9, hr.2.2.2.2.1, nI_1, nI_1, show (1000000 : Int32) = nI 1000000 from rfl]
      have i1 := ih d (c := c) (k := k + 1) (by omega) (by omega)
      have i2 := ih d (c := c + 1) (k := k + 1) (by omega) (by omega)
      rw [i1, i2]
      have eU : wnU v x (d + 1) c k = if mtS v k then (if nI c = x then nI k else wnU v x d (c + 1) (k + 1)) else wnU v x d c (k + 1) := rfl
      rw [eU]
      by_cases hb : (beS v 6 k).1 = 1000000
      · rw [if_pos ((nI_leI (by omega) (by omega)).mpr (by omega)), if_neg (fun z : mtS v k => z.1 hb)]
      · rw [if_neg (fun z => by have := (nI_leI (by omega) (by omega)).mp z; omega)]
        have hb' := (be_le hw).mpr hb
        have hpu := hw.2.2.1
        obtain ⟨p, a1, a2, -⟩ := be_row hw (w := k) (cl := 6) (by omega)
        have l6 := gd_len a2
        have cs := cd_small hw a2
        have erl := er_len v
        have b1 : (beS v 6 k).2.1 = p.length := by rw [a1]
        have b3 : nI (cdS (beS v 6 k).2.2.2) = nI (cdS p) := by rw [a1]
        rw [b1, b3]
        by_cases hl : p.length = v 0 4
        · rw [if_pos (show nI p.length = nI (v 0 4) by rw [hl])]
          have hcd' := hcd (by omega)
          by_cases hc : cdS p = cd
          · have : p = erF v 0 := cd_inj p _ (fun s hs => by have := a2.2.2.2.2.2.2.2.2 s hs; omega) (fun s hs => by have := er_in hw s hs; omega) (by omega) (by omega)
            rw [if_pos (show nI (cdS p) = nI cd by rw [hc]), if_pos (show mtS v k from ⟨hb, by rw [a1]; exact this⟩)]
            split <;> rfl
          · rw [if_neg (show ¬ nI (cdS p) = nI cd from fun z => hc ((nI_eq (by omega) hc31).mp z)), if_neg (show ¬ mtS v k from fun z => hc (by have := z.2; rw [a1] at this; rw [hcd', ← this]))]
        · rw [if_neg (show ¬ nI p.length = nI (v 0 4) from fun z => hl ((nI_eq (by omega) (by omega)).mp z)), if_neg (show ¬ mtS v k from fun z => hl (by have := z.2; rw [a1] at this; rw [show p = erF v 0 from this]; exact erl))]
-- the class: is this the row of buying for these goods
theorem c_is_loop (N : Nat) {v : VW} {S : ST} (hr : rlC v S 0) {p : List Nat} (h6 : p.length ≤ 6) (hl : p.length = v 0 4) (h7 : S 46 7 = nI p.length) (hs : ∀ i, i < p.length → S 47 i = nI (p.getD i 0)) (hp : ∀ s ∈ p, s < 8) (he : ∀ i, i < v 0 4 → v 6 i < 8) : ∀ (n : Nat) {k : Nat}, k ≤ p.length → p.length < k + n → (∀ i, i < k → p.getD i 0 = v 6 i) →
    (p = erF v 0 ∧ b_X4_isErrandFor_40 N n S (nI k) = some (1, S)) ∨ (p ≠ erF v 0 ∧ b_X4_isErrandFor_40 N n S (nI k) = some (0, S)) := by
  have erl := er_len v
  intro n
  induction n with
  | zero => intro k _ h; omega
  | succ n ih =>
    intro k hk hn hx
    rw [b_X4_isErrandFor_40, h7]
    by_cases hend : p.length ≤ k
    · rw [if_pos ((nI_leI (by omega) (by omega)).mpr hend)]
      left
      refine ⟨list_at _ _ (by omega) (fun i hi => ?_), rfl⟩
      rw [er_at v (by omega)]
      exact hx i (by omega)
    · have := hp _ (getD_mem (p := p) (i := k) (by omega))
      have := he k (by omega)
      rw [if_neg (fun z => hend ((nI_leI (by omega) (by omega)).mp z)), ck (by omega) (by decide), ck (by omega) (by decide), nI_clamp (by omega), hs k (by omega), hr.2.2.2.2.2.2.2.2.1 k (by omega), nI_1]
      by_cases hq : p.getD k 0 = v 6 k
      · rw [if_pos (show nI (p.getD k 0) = nI (v 6 k) by rw [hq])]
        exact ih (by omega) (by omega) (fun i hi => by
          by_cases e : i = k
          · rw [e]; exact hq
          · exact hx i (by omega))
      · rw [if_neg (fun z => hq ((nI_eq (by omega) (by omega)).mp z))]
        right
        refine ⟨fun z => hq ?_, rfl⟩
        rw [z, er_at v (by omega)]
theorem c_isErrandFor {N : Nat} (hN : 20 ≤ N) {v : VW} (hw : wfV v) {S : ST} (hr : rlC v S 0) (h0 : z4 S) {w : Nat} (hw64 : w < 64) : ∃ S', smF S S' ∧ z4 S' ∧ ((mtS v w ∧ f_X4_isErrandFor N S (nI w) = some (1, S')) ∨ (¬ mtS v w ∧ f_X4_isErrandFor N S (nI w) = some (0, S'))) := by
  have n6 := hw.1
  have b12 := hw.2.2.2.2.1
  obtain ⟨S1, e1, f1, z1, u1⟩ := c_find hN hw hr h0 (w := w) (mo := v 0 2) (cb := 0) (cl := 6) hw64 hw.2.2.1 (by decide) cl_none
  replace e1 : f_X1_findCheapest N S (nI w) (nI (v 0 2)) 0 = _ := e1
  refine ⟨S1, f1, z1, ?_⟩
  unfold f_X4_isErrandFor
  rw [hr.2.2.1, e1, bd2_s, tf_if]
  by_cases hb : (beS v 6 w).1 = 1000000
  · right
    rw [if_neg (fun z => (be_le hw).mp z hb)]
    exact ⟨fun z => z.1 hb, rfl⟩
  · have hb' := (be_le hw).mpr hb
    obtain ⟨p, a1, a2, a3, a4, a5, a6⟩ := u1 hb'
    have l6 := gd_len a2
    have r1 := rlC_smF f1 hr
    have em : mtS v w ↔ p = erF v 0 := by
      constructor
      · intro z; have := z.2; rw [a1] at this; exact this
      · intro z; exact ⟨hb, by rw [a1]; exact z⟩
    rw [if_pos hb', a4, r1.2.2.2.2.1]
    by_cases hl : p.length = v 0 4
    · rw [if_pos (show nI p.length = nI (v 0 4) by rw [hl])]
      have := c_is_loop N r1 l6 hl a4 (fun i hi => (a6 i hi).1) (fun s hs => by have := a2.2.2.2.2.2.2.2.2 s hs; omega) (fun i hi => by have := hw.2.2.2.2.2.2.2.2.2.1 i hi; omega) N (k := 0) (Nat.zero_le _) (by omega) (fun i hi => by omega)
      rcases this with ⟨q1, q2⟩ | ⟨q1, q2⟩
      · exact Or.inl ⟨em.mpr q1, q2⟩
      · exact Or.inr ⟨fun z => q1 (em.mp z), q2⟩
    · rw [if_neg (show ¬ nI p.length = nI (v 0 4) from fun z => hl ((nI_eq (by omega) (by omega)).mp z))]
      exact Or.inr ⟨fun z => hl (by rw [em.mp z]; exact er_len v), rfl⟩
theorem sub_le {w h : Nat} (hs : subN w h) : w ≤ h := by
  have := Nat.and_le_right (n := w) (m := h)
  rw [hs] at this
  exact this
theorem c_wn_loop {N : Nat} (hN : 20 ≤ N) {v : VW} (hw : wfV v) (x : Int32) {fl h : Nat} (hh : h < 2 ^ v 0 0) (hfl : fl ≤ 1) (hm : ∀ w, mtS v w → fl = 1 ∧ subN w h) : ∀ (n d : Nat) {S : ST} {c k : Nat}, rlC v S 0 → z4 S → 2 ^ v 0 0 = k + d → d < n → ∃ S', b_X4_wanted_52 N n S x (nI fl) (nI h) (nI c) (nI k) = some (wnU v x d c k, S') ∧ smF S S' ∧ z4 S' := by
  have n6 := hw.1
  have h63 := p2_le n6
  intro n
  induction n with
  | zero => intro d S c k _ _ _ h; omega
  | succ n ih =>
    intro d S c k hr h0 hd hn
    rw [b_X4_wanted_52]
    unfold b_X4_wanted_98 b_X4_wanted_92
    dsimp only
    have fin : (∀ w, k ≤ w → ¬ mtS v w) → ∃ S', (if x = -1 then some (nI c, S) else some (-5, S)) = some (wnU v x d c k, S') ∧ smF S S' ∧ z4 S' := by
      intro z
      rw [wn_no d c k z]
      refine ⟨S, ?_, fun _ _ => rfl, h0⟩
      split <;> rfl
    by_cases hk : h < k
    · rw [if_pos ((nI_ltI (by omega) (by omega)).mpr hk)]
      exact fin (fun w hwk z => by have := sub_le (hm w z).2; omega)
    · rw [if_neg (fun z => hk ((nI_ltI (by omega) (by omega)).mp z))]
      by_cases hf : fl = 0
      · rw [if_pos (show nI fl = 0 by rw [hf]; rfl)]
        exact fin (fun w hwk z => by have := (hm w z).1; omega)
      · rw [if_neg (fun z => hf ((nI_n0 (by omega)).mp z))]
        obtain ⟨d', rfl⟩ : ∃ d', d = d' + 1 := ⟨d - 1, by omega⟩
        have eU : wnU v x (d' + 1) c k = if mtS v k then (if nI c = x then nI k else wnU v x d' (c + 1) (k + 1)) else wnU v x d' c (k + 1) := rfl
        rw [eU]
        simp only [F14 k (by omega) h (by omega)]
        rw [nI_1, nI_1]
        by_cases hs : k &&& h = k
        · rw [if_pos hs]
          obtain ⟨S1, f1, z1, c1⟩ := c_isErrandFor hN hw hr h0 (w := k) (by omega)
          rcases c1 with ⟨q1, q2⟩ | ⟨q1, q2⟩
          · rw [q2, bd2_s, if_neg (show ¬ (1 : Int32) = 0 by decide), if_pos q1]
            by_cases hc : nI c = x
            · rw [if_pos hc, if_pos hc]
              exact ⟨S1, rfl, f1, z1⟩
            · rw [if_neg hc, if_neg hc]
              obtain ⟨S2, e2, f2, z2⟩ := ih d' (S := S1) (c := c + 1) (k := k + 1) (rlC_smF f1 hr) z1 (by omega) (by omega)
              exact ⟨S2, e2, smF_tr f1 f2, z2⟩
          · rw [q2, bd2_s, if_pos (show (0 : Int32) = 0 from rfl), if_neg q1]
            obtain ⟨S2, e2, f2, z2⟩ := ih d' (S := S1) (c := c) (k := k + 1) (rlC_smF f1 hr) z1 (by omega) (by omega)
            exact ⟨S2, e2, smF_tr f1 f2, z2⟩
        · rw [if_neg hs, if_neg (show ¬ mtS v k from fun z => hs (hm k z).2)]
          exact ih d' (S := S) (c := c) (k := k + 1) hr h0 (by omega) (by omega)
-- goods held are goods of shops
theorem held_p2 {v : VW} {p : List Nat} (hp : gdN v p) : (walkS v p).2.1 < 2 ^ v 0 0 := by
  refine Nat.lt_of_not_le (fun hge => ?_)
  have h64 := hp.2.1
  -- a bit at v 0 0 or above
  have : ∃ s, v 0 0 ≤ s ∧ bitN (walkS v p).2.1 s = 1 := by
    obtain ⟨i, hi, hb⟩ := Nat.exists_ge_and_testBit_of_ge_two_pow hge
    exact ⟨i, hi, by rw [bit_tb, hb]; rfl⟩
  obtain ⟨s, hs, hb⟩ := this
  have hb2 := sub_b hp.2.2.2.2.2.1 hb
  rw [← List.take_length (l := p)] at hb2
  obtain ⟨j, j1, j2⟩ := (been_in v (p := p) p.length (Nat.le_refl _) s).mp hb2
  have := hp.2.2.2.2.2.2.2.2 _ (getD_mem j1)
  omega
theorem st_wanted {N : Nat} (hN : 400000 ≤ N) (x : Int32) : StI Rl (fun S => f_X4_wanted N S x) (fun S => f_X5_wanted N S x) := by
  rintro SC SM ⟨v, v1, v2, k0, k1, r, w0, w1, w2, w3, w4, hC, hM⟩
  have n6 := w0.1
  have h63 := p2_le n6
  have hp2 := Nat.two_pow_pos (v 0 0)
  have b12 := w0.2.2.2.2.1
  unfold f_X4_wanted f_X5_wanted
  dsimp only
  by_cases h : (-1) ≤ x
  · rw [if_pos h, if_pos h]
    obtain ⟨T1, d1, t1, m1⟩ := m_goAll hN w0 (cl := 6) (ci := -1) cl_noneM hM.1
    have hRM := RM_k m1 hM
    obtain ⟨S1, e1, q1, q2, q3, q4⟩ := c_goErrand (N := N) (by omega) w0 hC.1 hC.2.2.2.2.2.2
    have hRC : RC v v1 v2 k0 k1 r S1 := RC_fr (fun i hi => q1 i (by omega)) (lvC_0 q2) hC
    have hm : ∀ w, mtS v w → (goS v (erF v 0) []).1 = 0 ∧ subN w (walkS v (goS v (erF v 0) []).2).2.1 := fun w z => by
      obtain ⟨a, b⟩ := mt_go w0 z
      rw [a]
      exact ⟨rfl, b⟩
    have hwy := go_why v (erF v 0) []
    rw [d1, bd1_s, e1, bd2_s, hRM.1.2.2.2.2.1]
    -- the reference
    have eM : b_X5_wanted_29 N N T1 x 0 (nI (v 0 4) - 1) = some (wnU v x (2 ^ v 0 0) 0 0, T1) := by
      have el := er_len v
      by_cases h7 : v 0 4 ≤ 6
      · have e := m_code N w0 hRM.1 h7 x (v 0 4) N (Nat.le_refl _) (by omega)
        rw [show (erF v 0).drop (v 0 4) = [] by rw [← el, List.drop_length]] at e
        replace e : b_X5_wanted_29 N N T1 x 0 (nI (v 0 4) - 1) = _ := e
        rw [e]
        have hcl := cd_lt (erF v 0) (fun s hs => by have := er_in w0 s hs; omega)
        have : 8 ^ (erF v 0).length ≤ 8 ^ 6 := Nat.pow_le_pow_right (by decide) (by omega)
        have : (8 : Nat) ^ 6 = 262144 := by decide
        exact m_wn_loop N w0 x hRM.1 t1 (cd := cdS (erF v 0)) (fun _ => rfl) (by omega) N (2 ^ v 0 0) (c := 0) (k := 0) (by omega) (by omega)
      · obtain ⟨N', hN'⟩ : ∃ N', N = N' + 1 := ⟨N - 1, by omega⟩
        have e : b_X5_wanted_29 N N T1 x 0 (nI (v 0 4) - 1) = b_X5_wanted_66 N T1 x 0 := by
          conv => lhs; rw [show b_X5_wanted_29 N N = b_X5_wanted_29 N (N' + 1) by rw [← hN']]
          rw [b_X5_wanted_29, nI_m1 (by omega), if_neg (nI_pos (by omega)), hRM.1.2.2.2.2.1, show (7 : Int32) = nI 7 from rfl, if_pos ((nI_leI (by omega) (by omega)).mpr (by omega))]
        rw [e]
        exact m_wn_loop N w0 x hRM.1 t1 (cd := 0) (fun z => by omega) (by decide) N (2 ^ v 0 0) (c := 0) (k := 0) (by omega) (by omega)
    rw [eM]
    have l6 := gd_len q3
    obtain ⟨p1, p2, p3, p4⟩ := lvC_top q2
    have hh := held_p2 q3
    unfold b_X4_wanted_29
    rw [q4, ck (by omega) (by decide), ck (by omega) (by decide), nI_clamp (by omega), p2]
    by_cases hg : (goS v (erF v 0) []).1 = 0
    · rw [if_pos (show nI (goS v (erF v 0) []).1 = 0 by rw [hg]; rfl)]
      obtain ⟨S2, e2, f2, z2⟩ := c_wn_loop (N := N) (by omega) w0 x (fl := 1) hh (by decide) (fun w z => ⟨rfl, (hm w z).2⟩) N (2 ^ v 0 0) (S := S1) (c := 0) (k := 0) hRC.1 (lvC_0 q2) (by omega) (by omega)
      replace e2 : b_X4_wanted_52 N N S1 x 1 (nI (walkS v (goS v (erF v 0) []).2).2.1) 0 0 = _ := e2
      rw [e2]
      exact ⟨_, _, _, rfl, rfl, v, v1, v2, k0, k1, r, w0, w1, w2, w3, w4, RC_f f2 z2 hRC, hRM⟩
    · rw [if_neg (show ¬ nI (goS v (erF v 0) []).1 = 0 from fun z => hg ((nI_n0 (by omega)).mp z))]
      obtain ⟨S2, e2, f2, z2⟩ := c_wn_loop (N := N) (by omega) w0 x (fl := 0) hh (by decide) (fun w z => absurd (hm w z).1 hg) N (2 ^ v 0 0) (S := S1) (c := 0) (k := 0) hRC.1 (lvC_0 q2) (by omega) (by omega)
      replace e2 : b_X4_wanted_52 N N S1 x 0 (nI (walkS v (goS v (erF v 0) []).2).2.1) 0 0 = _ := e2
      rw [e2]
      exact ⟨_, _, _, rfl, rfl, v, v1, v2, k0, k1, r, w0, w1, w2, w3, w4, RC_f f2 z2 hRC, hRM⟩
  · rw [if_neg h, if_neg h, c_bad, m_bad, bd2_s, bd2_s]
    exact ⟨_, _, _, rfl, rfl, v, v1, v2, k0, k1, _, w0, w1, w2, w3, w4, RC_ref hC (by decide), RM_ref hM (by decide)⟩
