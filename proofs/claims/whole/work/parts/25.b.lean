-- items
abbrev frI (SC SC' SM SM' : ST) : Prop := (∀ i, (i < 10 ∨ (20 ≤ i ∧ i ≠ 49)) → SC' i = SC i) ∧ ∀ i, i ≠ 0 ∧ i ≠ 5 → SM' i = SM i
def okI (N : Nat) (v : VW) (s : Nat) (SC SM : ST) (fc : Option ST) (fm : Option (Int32 × ST)) : Prop := ∃ (SC' SM1 SM' : ST) (u' : VW) (s' l' k' : Nat), fc = some SC' ∧ fm = some (1, SM1) ∧ SM1 0 11 = 3 ∧ f_X5_goOn N SM1 = some SM' ∧ RD v s' l' k' SC' SM' ∧ (DC u' SC' ∧ DM u' SM' ∧ wfV u' ∧ nbV u') ∧ s < s' ∧ frI SC SC' SM SM'
def noI (SC SM : ST) (fc : Option ST) (fm : Option (Int32 × ST)) : Prop := ∃ (SC' SM1 : ST) (q : Nat), fc = some SC' ∧ q ≤ 200 ∧ SC' 49 1 = nI q ∧ SM1 0 9 = nI q ∧ (fm = some (0, SM1) ∨ (fm = some (1, SM1) ∧ ¬ SM1 0 11 = 3)) ∧ frI SC SC' SM SM1
theorem RD_s {v : VW} (hw : wfV v) {s l k : Nat} {SC SM : ST} (h : RD v s l k SC SM) : s ≤ 200 ∧ SM 0 9 = nI s ∧ ¬ us SC 49 1 (nI s) 49 1 = -1 := by
  have := hw.2.2.2.2.2.1
  have t := h.2.2.1.1
  exact ⟨by omega, h.2.2.1.2.2.2.2.1, by rw [us_s]; exact ft_n (by omega)⟩
theorem RD_5 {v : VW} {s l k : Nat} {SC SM : ST} (h : RD v s l k SC SM) (i : Nat) (x : Int32) : RD v s l k SC (us SM 5 i x) := RD_M (us_n _ _ _ _ (by decide)) (fun j _ => by rw [us_n _ _ _ _ (by decide)]) h
theorem hi_n {n m : Nat} (hn : n ≤ 6) (h : (m : Int) ≤ (nI n - 1 : Int32).toInt) : m < n := by
  rw [show (1 : Int32) = nI 1 from rfl, pk_sub_toInt (by omega) (by decide)] at h
  omega
theorem gM_R {SC SC' SM SM' : ST} (h : frR SC SC' SM SM') : gM SM' = gM SM := gM_same (h.2.1 5 (by decide)) h.2.2
-- free
theorem it_free {N : Nat} (hN : 400000 ≤ N) {v u : VW} (hw : wfV v) (wu : wfV u) (nu : nbV u) {s l k : Nat} {SC SM : ST} (h : RD v s l k SC SM) (hc : DC u SC) (hm : DM u SM) (hl : 1 ≤ l) : okI N v s SC SM (f_X0_readFree N SC) (f_X5_readOne N SM 1) ∨ noI SC SM (f_X0_readFree N SC) (f_X5_readOne N SM 1) := by
  have n6 := wu.1
  have nf := wu.2.1
  obtain ⟨S1, T1, s1, l1, k1, e1, d1, q1, a1, -, f1⟩ := adv hN hw h
  have c1 : DC u S1 := DC_fr (fun i hi => f1.1 i (by omega)) hc
  unfold f_X0_readFree f_X5_readOne b_X5_readOne_18
  rw [if_neg (show ¬ (1 : Int32) = 0 by decide), e1, bd1_s, d1, bd1_s, (DC_n c1).1, f1.2.2, (DM_n hm).1]
  rcases num_step hN hw q1 (lo := 0) (hi := nI (u 0 0) - 1) (by decide) with ⟨m, S2, T2, s2, l2, k2, hm9, h0, hmn, hk, h12, e2, d2, t15, q2, a2, f2⟩ | ⟨e2, d2, -⟩
  · have hmu := hi_n n6 hmn
    have m30 : T2 5 30 = nI (u 0 1) := by rw [f2.2.1 5 (by decide), f1.2.1 5 (by decide)]; exact (DM_n hm).2.1
    rw [e2, bd2_s, d2, bd2_s, if_neg (show ¬ (1 : Int32) = 0 by decide), nm_s, t15, m30, one_shl (by omega), nI_or]
    have g2 : gM T2 = gM SM := (gM_R f2).trans (gM_R f1)
    rcases stop_step hN hw (RD_5 q2 30 (nI (u 0 1 ||| 2 ^ m))) with ⟨S3, T3, s3, l3, k3, h11, e3, d3, q3, a3, f3⟩ | ⟨h11, e3⟩
    · left
      have c3 : DC u S3 := DC_fr (fun i hi => by rw [f3.1 i (by omega), f2.1 i (by omega)]) c1
      rw [e3, bd2_s, if_neg (show ¬ (1 : Int32) = 0 by decide)]
      unfold f_X2_setFree_10 b_X2_setFree_10_26
      rw [if_neg (show ¬ (1 : Int32) = 0 by decide), nm_s, bd1_s, (DC_n c3).2.1, one_shl (by omega), nI_or]
      refine ⟨_, _, T3, sv u 0 1 (u 0 1 ||| 2 ^ m), s3, l3, k3, rfl, rfl, h11, d3, RD_C (fun i hi => us_n _ _ _ _ (by omega)) q3, ⟨?_, ?_, wf_free wu (F1b _ nf m (by omega)), nu⟩, by omega, fun i hi => ?_, fun i hi => ?_⟩
      · unfold DC
        rw [mkD_us _ _ (fun _ => by decide)]
        exact rlC_sv wu c3 (a := 0) (b := 1) (by decide) (by decide) _ (by decide) rfl rfl rfl
      · unfold DM
        rw [gM_R f3, gM_5 _ _ (by decide), g2]
        exact rlM_sv wu hm (a := 0) (b := 1) (by decide) (by decide) _ (by decide) rfl rfl
      · rw [us_n _ _ _ _ (by omega), f3.1 i (by omega), f2.1 i (by omega), f1.1 i (by omega)]
      · rw [f3.2.1 i hi.1, us_n _ _ _ _ hi.2, f2.2.1 i hi.1, f1.2.1 i hi.1]
    · right
      obtain ⟨z1, z2, z3⟩ := RD_s hw q2
      rw [e3, bd2_s, if_pos (show (0 : Int32) = 0 from rfl)]
      refine ⟨_, _, s2, rfl, z1, us_s _ _ _ _, by rw [us_n _ _ _ _ (by decide)]; exact z2, Or.inr ⟨rfl, h11⟩, fun i hi => ?_, fun i hi => ?_⟩
      · rw [us_n _ _ _ _ (by omega), f2.1 i (by omega), f1.1 i (by omega)]
      · rw [us_n _ _ _ _ hi.2, f2.2.1 i hi.1, f1.2.1 i hi.1]
  · right
    obtain ⟨z1, z2, z3⟩ := RD_s hw q1
    rw [e2, bd2_s, stop_bad N z3, bd2_s, if_pos (show (0 : Int32) = 0 from rfl), d2, bd2_s, if_pos (show (0 : Int32) = 0 from rfl)]
    refine ⟨_, T1, s1, rfl, z1, us_s _ _ _ _, z2, Or.inl rfl, fun i hi => ?_, fun i hi => f1.2.1 i hi.1⟩
    rw [us_n _ _ _ _ (by omega), f1.1 i (by omega)]
-- buy
def buN (u : VW) (m : Nat) : VW := sv (sv u 6 (u 0 4) m) 0 4 (u 0 4 + 1)
theorem wf_bu {u : VW} (hw : wfV u) {m : Nat} (hm : m < u 0 0) (h : u 0 4 < 12) : wfV (buN u m) := by
  obtain ⟨a1, a2, a3, a4, a5, a6, a7, a8, a9, b1, b2, b3⟩ := hw
  refine ⟨a1, a2, a3, a4, h, a6, a7, a8, a9, fun i hi => ?_, b2, b3⟩
  have hi : i < u 0 4 + 1 := hi
  show sv u 6 (u 0 4) m 6 i < u 0 0
  by_cases e : i = u 0 4
  · rw [e, sv_e]; exact hm
  · rw [sv_j _ _ _ _ e]; exact b1 i (by omega)
theorem lim_4 (v : VW) (x i : Nat) : lim (sv v 0 4 x) i = if i = 6 then x else lim v i := by
  unfold lim
  rw [sv_e, sv_j _ _ _ _ (show 0 ≠ 4 by decide), sv_j _ _ _ _ (show 5 ≠ 4 by decide), sv_j _ _ _ _ (show 6 ≠ 4 by decide)]
  by_cases h : i = 6
  · subst h; rfl
  · rw [if_neg h, if_neg h, if_neg h]
theorem bu_lim (u : VW) (m : Nat) : ∀ i, i ≤ 9 → lim (buN u m) i ≤ upL (lim u) 6 (u 0 4 + 1) i := by
  intro i _
  unfold buN
  rw [lim_4, lim_n (by decide)]
  exact Nat.le_refl _
theorem it_buy {N : Nat} (hN : 400000 ≤ N) {v u : VW} (hw : wfV v) (wu : wfV u) (nu : nbV u) {s l k : Nat} {SC SM : ST} (h : RD v s l k SC SM) (hc : DC u SC) (hm : DM u SM) (hl : 1 ≤ l) (h12' : u 0 4 < 12) : okI N v s SC SM (f_X0_readBuy N SC) (f_X5_readOne N SM 0) ∨ noI SC SM (f_X0_readBuy N SC) (f_X5_readOne N SM 0) := by
  have n6 := wu.1
  obtain ⟨S1, T1, s1, l1, k1, e1, d1, q1, a1, -, f1⟩ := adv hN hw h
  have c1 : DC u S1 := DC_fr (fun i hi => f1.1 i (by omega)) hc
  unfold f_X0_readBuy f_X5_readOne b_X5_readOne_18
  rw [if_pos (show (0 : Int32) = 0 from rfl), (DM_n hm).2.2, show (12 : Int32) = nI 12 from rfl, if_neg (fun z => by have := (nI_eq (by omega) (by omega)).mp z; omega), e1, bd1_s, d1, bd1_s, (DC_n c1).1, f1.2.2, (DM_n hm).1]
  rcases num_step hN hw q1 (lo := 0) (hi := nI (u 0 0) - 1) (by decide) with ⟨m, S2, T2, s2, l2, k2, hm9, h0, hmn, hk, h12, e2, d2, t15, q2, a2, f2⟩ | ⟨e2, d2, -⟩
  · have hmu := hi_n n6 hmn
    have m33 : T2 5 33 = nI (u 0 4) := by rw [f2.2.1 5 (by decide), f1.2.1 5 (by decide)]; exact (DM_n hm).2.2
    rw [e2, bd2_s, d2, bd2_s, if_neg (show ¬ (1 : Int32) = 0 by decide), if_pos (show (0 : Int32) = 0 from rfl), m33, show (34 : Int32) = nI 34 from rfl, nI_add, ck (by omega) (by decide), nm_s, nI_clamp (by omega), t15, nm_s, us_k _ _ _ _ (show 33 ≠ 34 + u 0 4 by omega), m33, nI_1]
    have g2 : gM T2 = gM SM := (gM_R f2).trans (gM_R f1)
    rcases stop_step hN hw (RD_5 (RD_5 q2 (34 + u 0 4) (nI m)) 33 (nI (u 0 4 + 1))) with ⟨S3, T3, s3, l3, k3, h11, e3, d3, q3, a3, f3⟩ | ⟨h11, e3⟩
    · left
      have c3 : DC u S3 := DC_fr (fun i hi => by rw [f3.1 i (by omega), f2.1 i (by omega)]) c1
      rw [e3, bd2_s, if_neg (show ¬ (1 : Int32) = 0 by decide)]
      unfold f_X2_addBought_10
      rw [(DC_n c3).2.2, show (12 : Int32) = nI 12 from rfl, if_neg (fun z => by have := (nI_leI (by omega) (by omega)).mp z; omega), ck (by omega) (by decide), nm_s, nm_s, nI_clamp (by omega), us_n _ _ _ _ (show 10 ≠ 16 by decide), (DC_n c3).2.2, nI_1, bd1_s]
      refine ⟨_, _, T3, buN u m, s3, l3, k3, rfl, rfl, h11, d3, RD_C (fun i hi => by rw [us_n _ _ _ _ (by omega), us_n _ _ _ _ (by omega)]) q3, ⟨?_, ?_, wf_bu wu hmu h12', nu⟩, by omega, fun i hi => ?_, fun i hi => ?_⟩
      · unfold DC
        rw [mkD_us _ _ (fun _ => by decide), mkD_us _ _ (fun z => absurd z (by decide))]
        obtain ⟨r1, L1⟩ := rC_ap (rC_of c3) (fun i _ => lim_cap wu i) (a := 6) (b := u 0 4) (by decide) h12' (Nat.le_refl _) m (m := 16) rfl rfl
        exact rC_to (rC_ct r1 L1 (b := 4) (by decide) (u 0 4 + 1) (bu_lim u m) rfl rfl)
      · unfold DM
        rw [gM_R f3, gM_5 _ _ (by decide), gM_5 _ _ (by omega), g2]
        obtain ⟨r1, L1⟩ := rM_ap (rM_of hm) (fun i _ => lim_cap wu i) (a := 6) (b := u 0 4) (by decide) h12' (Nat.le_refl _) m (k := 34 + u 0 4) rfl rfl
        exact rM_to (rM_ct r1 L1 (b := 4) (by decide) (u 0 4 + 1) (bu_lim u m) rfl rfl)
      · rw [us_n _ _ _ _ (by omega), us_n _ _ _ _ (by omega), f3.1 i (by omega), f2.1 i (by omega), f1.1 i (by omega)]
      · rw [f3.2.1 i hi.1, us_n _ _ _ _ hi.2, us_n _ _ _ _ hi.2, f2.2.1 i hi.1, f1.2.1 i hi.1]
    · right
      obtain ⟨z1, z2, z3⟩ := RD_s hw q2
      rw [e3, bd2_s, if_pos (show (0 : Int32) = 0 from rfl)]
      refine ⟨_, _, s2, rfl, z1, us_s _ _ _ _, by rw [us_n _ _ _ _ (by decide), us_n _ _ _ _ (by decide)]; exact z2, Or.inr ⟨rfl, h11⟩, fun i hi => ?_, fun i hi => ?_⟩
      · rw [us_n _ _ _ _ (by omega), f2.1 i (by omega), f1.1 i (by omega)]
      · rw [us_n _ _ _ _ hi.2, us_n _ _ _ _ hi.2, f2.2.1 i hi.1, f1.2.1 i hi.1]
  · right
    obtain ⟨z1, z2, z3⟩ := RD_s hw q1
    rw [e2, bd2_s, stop_bad N z3, bd2_s, if_pos (show (0 : Int32) = 0 from rfl), d2, bd2_s, if_pos (show (0 : Int32) = 0 from rfl)]
    refine ⟨_, T1, s1, rfl, z1, us_s _ _ _ _, z2, Or.inl rfl, fun i hi => ?_, fun i hi => f1.2.1 i hi.1⟩
    rw [us_n _ _ _ _ (by omega), f1.1 i (by omega)]
