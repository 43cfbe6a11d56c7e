-- an item
def wdS (j : Nat) : Nat := [115, 104, 111, 112].getD j 0
def wdN (j : Nat) : Nat := [110, 101, 120, 116].getD j 0
def wdF (j : Nat) : Nat := [102, 114, 101, 101].getD j 0
def wdB (j : Nat) : Nat := [98, 117, 121].getD j 0
theorem four {j : Nat} (h : j < 4) : j = 0 ∨ j = 1 ∨ j = 2 ∨ j = 3 := by omega
theorem three {j : Nat} (h : j < 3) : j = 0 ∨ j = 1 ∨ j = 2 := by omega
theorem item_step {N : Nat} (hN : 400000 ≤ N) {v u : VW} (hw : wfV v) (wu : wfV u) (nu : nbV u) {s l k : Nat} {SC SM : ST} (h : RD v s l k SC SM) (hc : DC u SC) (hm : DM u SM) (hk : k ≠ 0) : okI N v s SC SM (f_X0_readItem N SC) (f_X5_readItem N SM) ∨ noI SC SM (f_X0_readItem N SC) (f_X5_readItem N SM) := by
  have n6 := wu.1
  have n12 := wu.2.2.2.2.1
  obtain ⟨rc, rm, tk, ft⟩ := id h
  have hl : 1 ≤ l := tk.2.2.2.1 hk
  have c7 : SC 49 7 = nI s := tk.2.2.2.2.2.2.2.2.2.1
  obtain ⟨z1, z2, z3⟩ := RD_s hw h
  have w0 := c_isWord (N := N) (by omega) hw rc tk (i := 0) (n := 4) (by decide) rfl wdS (fun j hj => by rcases four hj with rfl | rfl | rfl | rfl <;> rfl) (fun j hj => by rcases four hj with rfl | rfl | rfl | rfl <;> decide)
  have w1 := c_isWord (N := N) (by omega) hw rc tk (i := 1) (n := 4) (by decide) rfl wdN (fun j hj => by rcases four hj with rfl | rfl | rfl | rfl <;> rfl) (fun j hj => by rcases four hj with rfl | rfl | rfl | rfl <;> decide)
  have w2 := c_isWord (N := N) (by omega) hw rc tk (i := 2) (n := 4) (by decide) rfl wdF (fun j hj => by rcases four hj with rfl | rfl | rfl | rfl <;> rfl) (fun j hj => by rcases four hj with rfl | rfl | rfl | rfl <;> decide)
  have w3 := c_isWord (N := N) (by omega) hw rc tk (i := 3) (n := 3) (by decide) rfl wdB (fun j hj => by rcases three hj with rfl | rfl | rfl <;> rfl) (fun j hj => by rcases three hj with rfl | rfl | rfl <;> decide)
  have m0 := m_isWord (N := N) (by omega) hw rm tk (n := 4) (Or.inr rfl) wdS (x1 := 115) (x2 := 104) (x3 := 111) (x4 := 112) rfl rfl rfl (Or.inr ⟨rfl, rfl, by decide⟩) (fun j hj => by rcases four hj with rfl | rfl | rfl | rfl <;> decide)
  have m1 := m_isWord (N := N) (by omega) hw rm tk (n := 4) (Or.inr rfl) wdN (x1 := 110) (x2 := 101) (x3 := 120) (x4 := 116) rfl rfl rfl (Or.inr ⟨rfl, rfl, by decide⟩) (fun j hj => by rcases four hj with rfl | rfl | rfl | rfl <;> decide)
  have m2 := m_isWord (N := N) (by omega) hw rm tk (n := 4) (Or.inr rfl) wdF (x1 := 102) (x2 := 114) (x3 := 101) (x4 := 101) rfl rfl rfl (Or.inr ⟨rfl, rfl, by decide⟩) (fun j hj => by rcases four hj with rfl | rfl | rfl | rfl <;> decide)
  have m3 := m_isWord (N := N) (by omega) hw rm tk (n := 3) (Or.inl rfl) wdB (x1 := 98) (x2 := 117) (x3 := 121) (x4 := 0) rfl rfl rfl (Or.inl ⟨rfl, rfl⟩) (fun j hj => by rcases three hj with rfl | rfl | rfl <;> decide)
  have no : ∀ fm, fm = some ((0 : Int32), SM) → noI SC SM (some (us SC 49 1 (nI s))) fm := by
    intro fm hf
    exact ⟨_, SM, s, rfl, z1, us_s _ _ _ _, z2, Or.inl hf, fun i hi => us_n _ _ _ _ (by omega), fun _ _ => rfl⟩
  unfold f_X0_readItem f_X5_readItem b_X0_readItem_28 b_X0_readItem_88 b_X5_readItem_71
  rw [w0, m0]
  simp only [bd2_s, tf_if]
  rw [w1, m1]
  simp only [bd2_s, tf_if]
  rw [w2, m2]
  simp only [bd2_s, tf_if]
  rw [w3, m3]
  simp only [bd2_s, tf_if]
  rw [(DC_n hc).1, (DC_n hc).2.2, c_fail0 N ft, bd1_s, c7, show (6 : Int32) = nI 6 from rfl, show (12 : Int32) = nI 12 from rfl]
  by_cases W0 : isW v s l k 4 wdS
  · have f0 := W0.2.2 0 (by decide)
    have W1 : ¬ isW v s l k 4 wdN := fun z => by have := z.2.2 0 (by decide); rw [f0] at this; exact absurd this (by decide)
    have W2 : ¬ isW v s l k 4 wdF := fun z => by have := z.2.2 0 (by decide); rw [f0] at this; exact absurd this (by decide)
    have W3 : ¬ isW v s l k 3 wdB := fun z => by have := z.2.2 0 (by decide); rw [f0] at this; exact absurd this (by decide)
    rw [if_pos W0, if_pos W0]
    by_cases hn : u 0 0 < 6
    · rw [if_neg (fun z => by have := (nI_leI (by omega) (by omega)).mp z; omega)]
      have key := it_shop hN hw wu nu h hc hm hl hn
      rcases key with ⟨S', T1, T', u', s', l', k', e1, e2, r1, r2, r3, r4, r5, r6⟩ | ⟨S', T1, q, e1, r1, r2, r3, r4, r5⟩
      · left
        rw [e1, e2, bd1_s, bd2_s, if_pos (Or.inr rfl)]
        exact ⟨S', T1, T', u', s', l', k', rfl, rfl, r1, r2, r3, r4, r5, r6⟩
      · right
        rcases r4 with e2 | ⟨e2, e3⟩
        · rw [e1, e2, bd1_s, bd2_s, if_pos (Or.inl rfl)]
          exact ⟨S', T1, q, rfl, r1, r2, r3, Or.inl rfl, r5⟩
        · rw [e1, e2, bd1_s, bd2_s, if_pos (Or.inr rfl)]
          exact ⟨S', T1, q, rfl, r1, r2, r3, Or.inr ⟨rfl, e3⟩, r5⟩
    · right
      rw [if_pos ((nI_leI (by omega) (by omega)).mpr (by omega)), if_neg W1, if_neg W2, if_neg W3]
      refine no _ ?_
      unfold f_X5_readShop
      rw [(DM_n hm).1, if_pos (show nI (u 0 0) = 6 by rw [show u 0 0 = 6 by omega]; rfl), bd2_s, if_pos (Or.inl rfl)]
  · rw [if_neg W0, if_neg W0]
    by_cases W1 : isW v s l k 4 wdN
    · rw [if_pos W1, if_pos W1]
      have key := it_next hN hw wu nu h hc hm hl
      rcases key with ⟨S', T1, T', u', s', l', k', e1, e2, r1, r2, r3, r4, r5, r6⟩ | ⟨S', T1, q, e1, r1, r2, r3, r4, r5⟩
      · left
        rw [e1, e2, bd1_s, bd2_s, if_pos (Or.inr rfl)]
        exact ⟨S', T1, T', u', s', l', k', rfl, rfl, r1, r2, r3, r4, r5, r6⟩
      · right
        rcases r4 with e2 | ⟨e2, e3⟩
        · rw [e1, e2, bd1_s, bd2_s, if_pos (Or.inl rfl)]
          exact ⟨S', T1, q, rfl, r1, r2, r3, Or.inl rfl, r5⟩
        · rw [e1, e2, bd1_s, bd2_s, if_pos (Or.inr rfl)]
          exact ⟨S', T1, q, rfl, r1, r2, r3, Or.inr ⟨rfl, e3⟩, r5⟩
    · rw [if_neg W1, if_neg W1]
      by_cases W2 : isW v s l k 4 wdF
      · rw [if_pos W2, if_pos W2, tf_t W2]
        have key := it_free hN hw wu nu h hc hm hl
        rcases key with ⟨S', T1, T', u', s', l', k', e1, e2, r1, r2, r3, r4, r5, r6⟩ | ⟨S', T1, q, e1, r1, r2, r3, r4, r5⟩
        · left
          rw [e1, e2, bd1_s, bd2_s, if_neg (show ¬ (1 : Int32) = 0 by decide)]
          exact ⟨S', T1, T', u', s', l', k', rfl, rfl, r1, r2, r3, r4, r5, r6⟩
        · right
          rcases r4 with e2 | ⟨e2, e3⟩
          · rw [e1, e2, bd1_s, bd2_s, if_pos (show (0 : Int32) = 0 from rfl)]
            exact ⟨S', T1, q, rfl, r1, r2, r3, Or.inl rfl, r5⟩
          · rw [e1, e2, bd1_s, bd2_s, if_neg (show ¬ (1 : Int32) = 0 by decide)]
            exact ⟨S', T1, q, rfl, r1, r2, r3, Or.inr ⟨rfl, e3⟩, r5⟩
      · rw [if_neg W2, if_neg W2, tf_f W2]
        by_cases W3 : isW v s l k 3 wdB
        · rw [if_pos W3, if_pos W3]
          by_cases hb : u 0 4 < 12
          · rw [if_neg (fun z => by have := (nI_leI (by omega) (by omega)).mp z; omega)]
            have key := it_buy hN hw wu nu h hc hm hl hb
            rcases key with ⟨S', T1, T', u', s', l', k', e1, e2, r1, r2, r3, r4, r5, r6⟩ | ⟨S', T1, q, e1, r1, r2, r3, r4, r5⟩
            · left
              rw [e1, e2, bd1_s, bd2_s, if_neg (show ¬ (1 : Int32) = 0 by decide)]
              exact ⟨S', T1, T', u', s', l', k', rfl, rfl, r1, r2, r3, r4, r5, r6⟩
            · right
              rcases r4 with e2 | ⟨e2, e3⟩
              · rw [e1, e2, bd1_s, bd2_s, if_pos (show (0 : Int32) = 0 from rfl)]
                exact ⟨S', T1, q, rfl, r1, r2, r3, Or.inl rfl, r5⟩
              · rw [e1, e2, bd1_s, bd2_s, if_neg (show ¬ (1 : Int32) = 0 by decide)]
                exact ⟨S', T1, q, rfl, r1, r2, r3, Or.inr ⟨rfl, e3⟩, r5⟩
          · right
            rw [if_pos ((nI_leI (by omega) (by omega)).mpr (by omega))]
            refine no _ ?_
            unfold f_X5_readOne
            rw [if_pos (show (0 : Int32) = 0 from rfl), (DM_n hm).2.2, if_pos (show nI (u 0 4) = 12 by rw [show u 0 4 = 12 by omega]; rfl), bd2_s, if_pos (show (0 : Int32) = 0 from rfl)]
        · right
          rw [if_neg W3, if_neg W3]
          exact no _ rfl
-- all items
theorem frI_tr {SC S1 S2 SM T1 T2 : ST} (h1 : frI SC S1 SM T1) (h2 : frI S1 S2 T1 T2) : frI SC S2 SM T2 := ⟨fun i hi => (h2.1 i hi).trans (h1.1 i hi), fun i hi => (h2.2 i hi).trans (h1.2 i hi)⟩
theorem tk_end {v : VW} {s l k : Nat} {SC SM : ST} (h : TK v s l k SC SM) : SC 49 6 = 0 ↔ k = 0 := by
  have hk := h.2.1
  rcases h.2.2.2.2.2.2.2.2.2.2.1 with ⟨-, e⟩ | ⟨e4, e | ⟨e, -⟩⟩
  · rw [e]; exact nI_n0 (by omega)
  · rw [e, e4]; decide
  · rw [e, e4]; decide
theorem rd_loop {N : Nat} (hN : 400000 ≤ N) {v : VW} (hw : wfV v) : ∀ (n : Nat) {u : VW} {s l k x : Nat} {SC SM : ST}, RD v s l k SC SM → DC u SC → DM u SM → wfV u → nbV u → x ≤ s → 201 < s + n →
    (∃ (SC' SM' : ST) (u' : VW) (X : Nat), b_X0_readRoad_40 N n SC (nI x) = some (nI X, SC') ∧ SC' 49 1 = -1 ∧ b_X5_read_28 N n SM (nI x) = b_X5_read_70 N N SM' (nI X) 0 ∧ DC u' SC' ∧ DM u' SM' ∧ wfV u' ∧ nbV u' ∧ frI SC SC' SM SM') ∨
    (∃ (SC' SM' : ST) (q : Nat) (X : Int32), b_X0_readRoad_40 N n SC (nI x) = some (X, SC') ∧ q ≤ 200 ∧ SC' 49 1 = nI q ∧ b_X5_read_28 N n SM (nI x) = some ((-10) - nI q, SM') ∧ frI SC SC' SM SM') := by
  have t200 := hw.2.2.2.2.2.1
  intro n
  induction n with
  | zero => intro u s l k x SC SM h _ _ _ _ _ hn; have := (RD_s hw h).1; omega
  | succ n ih =>
    intro u s l k x SC SM h hc hm wu nu hx hn
    have tk := h.2.2.1
    have te := tk_end tk
    have t11 : SM 0 11 = nI k := tk.2.2.2.2.2.2.1
    have hk4 : k ≤ 4 := tk.2.1
    rw [b_X0_readRoad_40, b_X5_read_28, t11]
    by_cases hk : k = 0
    · left
      rw [if_pos (te.mpr hk), if_pos (show nI k = 0 by rw [hk]; rfl)]
      exact ⟨SC, SM, u, x, rfl, h.2.2.2, rfl, hc, hm, wu, nu, fun _ _ => rfl, fun _ _ => rfl⟩
    · have hl : 1 ≤ l := tk.2.2.2.1 hk
      have hsl := tk.1
      rw [if_neg (fun z => hk (te.mp z)), if_neg (show ¬ nI k = 0 from fun z => hk ((nI_n0 (by omega)).mp z)), if_pos h.2.2.2, show (200 : Int32) = nI 200 from rfl, if_neg (fun z => by have := (nI_leI (by omega) (by omega)).mp z; omega), nI_1]
      rcases item_step hN hw wu nu h hc hm hk with ⟨S', T1, T', u', s', l', k', e1, e2, r1, r2, r3, ⟨r4, r5, r6, r7⟩, r8, r9⟩ | ⟨S', T1, q, e1, r1, r2, r3, r4, r5⟩
      · rw [e1, bd1_s, e2, bd2_s, if_neg (show ¬ (1 : Int32) = 0 by decide), if_pos r1, r2, bd1_s]
        rcases ih (u := u') (x := x + 1) r3 r4 r5 r6 r7 (by omega) (by omega) with ⟨S2, T2, u2, X, a1, a2, a3, a4, a5, a6, a7, a8⟩ | ⟨S2, T2, q, X, a1, a2, a3, a4, a5⟩
        · exact Or.inl ⟨S2, T2, u2, X, a1, a2, a3, a4, a5, a6, a7, frI_tr r9 a8⟩
        · exact Or.inr ⟨S2, T2, q, X, a1, a2, a3, a4, frI_tr r9 a5⟩
      · right
        have bad : ¬ S' 49 1 = -1 := by rw [r2]; exact ft_n r1
        have hs := (RD_s hw h).1
        obtain ⟨m, rfl⟩ : ∃ m, n = m + 1 := ⟨n - 1, by omega⟩
        have eC : b_X0_readRoad_40 N (m + 1) S' (nI (x + 1)) = some (nI (x + 1), S') := by
          rw [b_X0_readRoad_40, if_neg bad]
          split <;> rfl
        rw [e1, bd1_s, eC]
        refine ⟨S', T1, q, _, rfl, r1, r2, ?_, r5⟩
        unfold b_X5_read_50
        rcases r4 with e2 | ⟨e2, e3⟩
        · rw [e2, bd2_s, if_pos (show (0 : Int32) = 0 from rfl), r3]
        · rw [e2, bd2_s, if_neg (show ¬ (1 : Int32) = 0 by decide), if_neg e3, r3]
