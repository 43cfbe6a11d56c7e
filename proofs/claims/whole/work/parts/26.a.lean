-- next
theorem c_set10 (N : Nat) {u : VW} (hw : wfV u) {S : ST} (hc : DC u S) {a b : Nat} (ha : a < u 0 0) (hb : b < u 0 0) (hab : a ≠ b) (h0 : bitN (u 5 a) b = 0) : ∃ S', f_X2_setNear_10 N S (nI a) (nI b) 1 = some S' ∧ DC (adN u a b) S' ∧ ∀ i, i ≠ 15 → S' i = S i := by
  have n6 := hw.1
  have h64 : ∀ i, i < u 0 0 → u 5 i < 64 := fun i hi => (hw.2.2.2.2.2.2.2.1 i hi).2.2.2.2
  have h0' : bitN (u 5 b) a = 0 := by rw [← hw.2.2.2.2.2.2.2.2.1 a b ha hb]; exact h0
  have e5 : ∀ i, i < u 0 0 → S 15 i = nI (u 5 i) := fun i hi => by
    have := (hc.2.2.2.2.2.2.2.1 i hi).2.2.2.2
    rw [mkD_o (by decide)] at this
    exact this
  unfold f_X2_setNear_10 b_X2_setNear_10_34 b_X2_setNear_10_69
  rw [if_neg (show ¬ (1 : Int32) = 0 by decide), ck (by omega) (by decide), ck (by omega) (by decide), nm_s, if_neg (show ¬ (1 : Int32) = 0 by decide), ck (by omega) (by decide), ck (by omega) (by decide), nm_s, nI_clamp (by omega), nI_clamp (by omega), us_k _ _ _ _ (by omega), e5 a ha, e5 b hb, (F16 _ (h64 a ha) b (by omega) h0).2.2.2, (F16 _ (h64 b hb) a (by omega) h0').2.2.2]
  refine ⟨_, rfl, ?_, fun i hi => by rw [us_n _ _ _ _ hi, us_n _ _ _ _ hi]⟩
  unfold DC
  rw [mkD_us _ _ (fun z => absurd z (by decide)), mkD_us _ _ (fun z => absurd z (by decide))]
  have h1 := rlC_sv hw hc (a := 5) (b := a) (by decide) (by show a < 6; omega) (u 5 a ||| 2 ^ b) n50 (m := 15) (k := a) rfl rfl rfl
  refine rC_to ?_
  exact rC_sv (rC_of h1) (a := 5) (b := b) (L' := lim (adN u a b)) (by decide) (by show b < 6; omega) (u 5 b ||| 2 ^ a) (fun i _ => lim_cap (wf_ad hw ha hb hab) i) (fun i j _ hj => Or.inl (by unfold adN at hj; rw [lim_sv n50] at hj; exact hj)) rfl rfl rfl
theorem c_near10 (N : Nat) {u : VW} (hw : wfV u) {S : ST} (hc : DC u S) {a b : Nat} (ha : a < u 0 0) (hb : b < u 0 0) : f_X2_areNear_10 N S (nI a) (nI b) = some (tf (bitN (u 5 a) b = 1), S) := by
  have n6 := hw.1
  have := (hw.2.2.2.2.2.2.2.1 a ha).2.2.2.2
  have e5 : S 15 a = nI (u 5 a) := by
    have := (hc.2.2.2.2.2.2.2.1 a ha).2.2.2.2
    rw [mkD_o (by decide)] at this
    exact this
  have b01 := bit_01 (u 5 a) b
  unfold f_X2_areNear_10
  rw [ck (by omega) (by decide), nI_clamp (by omega), e5, nI_bit (by omega) (by omega)]
  by_cases hq : bitN (u 5 a) b = 1
  · rw [if_neg (fun q => by have := (nI_n0 (by omega)).mp q; omega), tf_t hq]
  · rw [if_pos (by rw [show bitN (u 5 a) b = 0 by omega]; rfl), tf_f hq]
theorem in_n {n m : Nat} (hn : n ≤ 6) (hm : m ≤ 999) : ((0 : Int64).toInt ≤ ((nI m : Int32).toInt64).toInt ∧ ((nI m : Int32).toInt64).toInt ≤ ((nI n - 1 : Int32).toInt64).toInt) ↔ m < n := by
  rw [Int32.toInt_toInt64, Int32.toInt_toInt64, nt (by omega), show (1 : Int32) = nI 1 from rfl, pk_sub_toInt (by omega) (by decide), show (0 : Int64).toInt = 0 from rfl]
  omega
theorem it_next {N : Nat} (hN : 400000 ≤ N) {v u : VW} (hw : wfV v) (wu : wfV u) (nu : nbV u) {s l k : Nat} {SC SM : ST} (h : RD v s l k SC SM) (hc : DC u SC) (hm : DM u SM) (hl : 1 ≤ l) : okI N v s SC SM (f_X0_readNext N SC) (f_X5_readNext N SM) ∨ noI SC SM (f_X0_readNext N SC) (f_X5_readNext N SM) := by
  have n6 := wu.1
  have h64 : ∀ i, i < u 0 0 → u 5 i < 64 := fun i hi => (wu.2.2.2.2.2.2.2.1 i hi).2.2.2.2
  obtain ⟨S1, T1, s1, l1, k1, e1, d1, q1, a1, -, f1⟩ := adv hN hw h
  have c1 : DC u S1 := DC_fr (fun i hi => f1.1 i (by omega)) hc
  unfold f_X0_readNext f_X5_readNext
  rw [e1, bd1_s, d1, bd1_s, (DC_n c1).1, f1.2.2, (DM_n hm).1]
  rcases num_step hN hw q1 (lo := 0) (hi := nI (u 0 0) - 1) (by decide) with ⟨a, S2, T2, s2, l2, k2, ha9, -, han, -, -, e2, d2, t15, q2, a2, f2⟩ | ⟨e2, d2, -⟩
  · have hau := hi_n n6 han
    have c2 : DC u S2 := DC_fr (fun i hi => f2.1 i (by omega)) c1
    have g2 : gM T2 = gM SM := (gM_R f2).trans (gM_R f1)
    have m2 : DM u T2 := by unfold DM; rw [g2]; exact hm
    obtain ⟨y1, y2, y3⟩ := RD_s hw q2
    have t11 : T2 0 11 = nI k2 := q2.2.2.1.2.2.2.2.2.2.1
    have hk4 : k2 ≤ 4 := q2.2.2.1.2.1
    have c7 : S2 49 7 = nI s2 := q2.2.2.1.2.2.2.2.2.2.2.2.2.1
    rw [e2, bd2_s, d2, bd2_s, if_neg (show ¬ (1 : Int32) = 0 by decide), (DC_n c2).1, (DM_n m2).1, t15, t11]
    rcases num_step hN hw q2 (lo := 0) (hi := nI (u 0 0) - 1) (by decide) with ⟨b, S3, T3, s3, l3, k3, hb9, -, hbn, hk2, h12, e3, d3, t15', q3, a3, f3⟩ | ⟨e3, d3, hno⟩
    · have hbu := hi_n n6 hbn
      have c3 : DC u S3 := DC_fr (fun i hi => f3.1 i (by omega)) c2
      have g3 : gM T3 = gM SM := (gM_R f3).trans g2
      have m3 : DM u T3 := by unfold DM; rw [g3]; exact hm
      have ft3 := q3.2.2.2
      have r5 : ∀ i, i < u 0 0 → T2 5 (24 + i) = nI (u 5 i) := fun i hi => by
        have := (m2.2.2.2.2.2.2.2.1 i hi).2.2.2.2
        unfold gM at this
        rw [if_neg (by omega), if_neg (by omega), if_neg (by omega)] at this
        exact this
      rw [e3, bd2_s, if_pos ft3, hk2, if_pos (show nI 2 = 2 from rfl), h12, m_in, bd2_s, tf_if, if_pos ((in_n n6 hb9).mpr hbu), h12]
      by_cases hab : a = b
      · right
        rw [if_pos (show nI a = nI b by rw [hab]), if_pos (show nI b = nI a by rw [hab])]
        unfold b_X0_readNext_64 b_X0_readNext_69
        rw [nm_s, c7]
        have bad : ¬ us S3 49 1 (nI s2) 49 1 = -1 := by rw [us_s]; exact ft_n y1
        rw [stop_bad N bad, bd2_s, if_pos (show (0 : Int32) = 0 from rfl)]
        refine ⟨_, T2, s2, rfl, y1, us_s _ _ _ _, y2, Or.inl rfl, fun i hi => ?_, fun i hi => by rw [f2.2.1 i hi.1, f1.2.1 i hi.1]⟩
        rw [us_n _ _ _ _ (by omega), f3.1 i (by omega), f2.1 i (by omega), f1.1 i (by omega)]
      · rw [if_neg (fun z => hab ((nI_eq (by omega) (by omega)).mp z)), if_neg (fun z => hab ((nI_eq (by omega) (by omega)).mp z).symm), c_near10 N wu c3 hau hbu, bd2_s, show (24 : Int32) = nI 24 from rfl, nI_add, ck (by omega) (by decide), nI_clamp (by omega), r5 a hau, nI_bit (by have := h64 a hau; omega) (by omega), tf_if]
        have b01 := bit_01 (u 5 a) b
        by_cases hnr : bitN (u 5 a) b = 1
        · right
          rw [if_pos hnr, if_pos (show nI (bitN (u 5 a) b) = 1 by rw [hnr]; rfl)]
          unfold b_X0_readNext_64 b_X0_readNext_69
          rw [nm_s, c7]
          have bad : ¬ us S3 49 1 (nI s2) 49 1 = -1 := by rw [us_s]; exact ft_n y1
          rw [stop_bad N bad, bd2_s, if_pos (show (0 : Int32) = 0 from rfl)]
          refine ⟨_, T2, s2, rfl, y1, us_s _ _ _ _, y2, Or.inl rfl, fun i hi => ?_, fun i hi => by rw [f2.2.1 i hi.1, f1.2.1 i hi.1]⟩
          rw [us_n _ _ _ _ (by omega), f3.1 i (by omega), f2.1 i (by omega), f1.1 i (by omega)]
        · have hn0 : bitN (u 5 a) b = 0 := by omega
          have hn0' : bitN (u 5 b) a = 0 := by rw [← wu.2.2.2.2.2.2.2.2.1 a b hau hbu]; exact hn0
          rw [if_neg hnr, if_neg (show ¬ nI (bitN (u 5 a) b) = 1 from fun z => hnr ((nI_n1 (by omega)).mp z))]
          unfold b_X5_readNext_80
          have p5 : ∀ i, i < u 0 0 → T3 5 (24 + i) = nI (u 5 i) := fun i hi => by rw [f3.2.1 5 (by decide)]; exact r5 i hi
          rw [(DM_n m2).1, d3, bd2_s, if_neg (show ¬ (1 : Int32) = 0 by decide), show (24 : Int32) = nI 24 from rfl, nI_add, ck (by omega) (by decide), ck (by omega) (by decide), nm_s, us_n _ _ _ _ (show 0 ≠ 5 by decide), t15', nI_add, ck (by omega) (by decide), ck (by omega) (by decide), nm_s, nI_clamp (show 24 + a < 2 ^ 31 by omega), nI_clamp (show 24 + b < 2 ^ 31 by omega), us_k _ _ _ _ (show 24 + b ≠ 24 + a by omega), p5 a hau, p5 b hbu, (F16 _ (h64 a hau) b (by omega) hn0).2.2.2, (F16 _ (h64 b hbu) a (by omega) hn0').2.2.2]
          unfold b_X0_readNext_69
          rcases stop_step hN hw (RD_5 (RD_5 q3 (24 + a) (nI (u 5 a ||| 2 ^ b))) (24 + b) (nI (u 5 b ||| 2 ^ a))) with ⟨S4, T4, s4, l4, k4, h11, e4, d4, q4, a4, f4⟩ | ⟨h11, e4⟩
          · left
            have c4 : DC u S4 := DC_fr (fun i hi => f4.1 i (by omega)) c3
            obtain ⟨S5, e5, c5, f5⟩ := c_set10 N wu c4 hau hbu hab hn0
            rw [e4, bd2_s, if_neg (show ¬ (1 : Int32) = 0 by decide), e5, bd1_s]
            refine ⟨S5, _, T4, adN u a b, s4, l4, k4, rfl, rfl, h11, d4, RD_C (fun i hi => f5 i (by omega)) q4, ⟨c5, ?_, wf_ad wu hau hbu hab, nb_ad wu nu hau hbu⟩, by omega, fun i hi => ?_, fun i hi => ?_⟩
            · unfold DM
              rw [gM_R f4, gM_5 _ _ (by omega), gM_5 _ _ (by omega), g3]
              have h1 := rlM_sv wu hm (a := 5) (b := a) (by decide) (by show a < 6; omega) (u 5 a ||| 2 ^ b) n50 (k := 24 + a) s5M rfl
              refine rM_to ?_
              exact rM_sv (rM_of h1) (a := 5) (b := b) (L' := lim (adN u a b)) (by decide) (by show b < 6; omega) (u 5 b ||| 2 ^ a) (fun i _ => lim_cap (wf_ad wu hau hbu hab) i) (fun i j _ hj => Or.inl (by unfold adN at hj; rw [lim_sv n50] at hj; exact hj)) (k := 24 + b) s5M rfl
            · rw [f5 i (by omega), f4.1 i (by omega), f3.1 i (by omega), f2.1 i (by omega), f1.1 i (by omega)]
            · rw [f4.2.1 i hi.1, us_n _ _ _ _ hi.2, us_n _ _ _ _ hi.2, f3.2.1 i hi.1, f2.2.1 i hi.1, f1.2.1 i hi.1]
          · right
            obtain ⟨z1, z2, z3⟩ := RD_s hw q3
            rw [e4, bd2_s, if_pos (show (0 : Int32) = 0 from rfl)]
            refine ⟨_, _, s3, rfl, z1, us_s _ _ _ _, by rw [us_n _ _ _ _ (by decide), us_n _ _ _ _ (by decide)]; exact z2, Or.inr ⟨rfl, h11⟩, fun i hi => ?_, fun i hi => ?_⟩
            · rw [us_n _ _ _ _ (by omega), f3.1 i (by omega), f2.1 i (by omega), f1.1 i (by omega)]
            · rw [us_n _ _ _ _ hi.2, us_n _ _ _ _ hi.2, f3.2.1 i hi.1, f2.2.1 i hi.1, f1.2.1 i hi.1]
    · right
      have e80 : b_X5_readNext_80 N T2 (nI a) = some (0, T2) := by
        unfold b_X5_readNext_80
        rw [(DM_n m2).1, d3, bd2_s, if_pos (show (0 : Int32) = 0 from rfl)]
      rw [e3, bd2_s, if_neg y3, e80]
      unfold b_X0_readNext_69
      rw [stop_bad N y3, bd2_s, if_pos (show (0 : Int32) = 0 from rfl)]
      have fin : ∀ fm, fm = some ((0 : Int32), T2) → noI SC SM (some (us S2 49 1 (nI s2))) fm := by
        intro fm hf
        refine ⟨_, T2, s2, rfl, y1, us_s _ _ _ _, y2, Or.inl hf, fun i hi => ?_, fun i hi => by rw [f2.2.1 i hi.1, f1.2.1 i hi.1]⟩
        rw [us_n _ _ _ _ (by omega), f2.1 i (by omega), f1.1 i (by omega)]
      refine fin _ ?_
      by_cases hk2 : k2 = 2
      · obtain ⟨m, hm9, m12, -⟩ := q2.2.2.1.2.2.2.2.2.2.2.2.2.2.2 hk2
        rw [if_pos (show nI k2 = 2 by rw [hk2]; rfl), m12, m_in, bd2_s, tf_if, if_neg, e80]
        intro z
        have hmu := (in_n n6 hm9).mp z
        refine hno ⟨hk2, m, hm9, m12, ?_, ?_⟩
        · rw [show (0 : Int32).toInt = 0 from rfl]; omega
        · rw [show (1 : Int32) = nI 1 from rfl, pk_sub_toInt (by omega) (by decide)]; omega
      · rw [if_neg (show ¬ nI k2 = 2 from fun z => hk2 ((nI_eq (b := 2) (by omega) (by decide)).mp z))]
  · right
    obtain ⟨z1, z2, z3⟩ := RD_s hw q1
    rw [e2, bd2_s, num_bad N z3, bd2_s, if_neg z3, d2, bd2_s, if_pos (show (0 : Int32) = 0 from rfl)]
    unfold b_X0_readNext_69
    rw [stop_bad N z3, bd2_s, if_pos (show (0 : Int32) = 0 from rfl)]
    refine ⟨_, T1, s1, rfl, z1, us_s _ _ _ _, z2, Or.inl rfl, fun i hi => ?_, fun i hi => f1.2.1 i hi.1⟩
    rw [us_n _ _ _ _ (by omega), f1.1 i (by omega)]
