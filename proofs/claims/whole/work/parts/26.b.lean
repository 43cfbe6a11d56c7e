-- shop
theorem m_sh_bad (N : Nat) {S : ST} {n : Nat} (h14 : S 0 14 = nI n) (hn : n < 6) (f : Nat) (x2 : Int32) : b_X5_readShop_19 N (f + 1) S 0 x2 = some (0, us (us S 5 (24 + n) 0) 0 14 (nI (n + 1))) := by
  have e : b_X5_readShop_99 N S 0 = some (0, us (us S 5 (24 + n) 0) 0 14 (nI (n + 1))) := by
    unfold b_X5_readShop_99
    rw [h14, show (24 : Int32) = nI 24 from rfl, nI_add, ck (by omega) (by decide), nm_s, nm_s, nI_clamp (by omega), us_n _ _ _ _ (show 0 ≠ 5 by decide), h14, nI_1, if_pos (Or.inl rfl)]
  rw [b_X5_readShop_19, if_pos (show (0 : Int32) = 0 from rfl), e]
  split <;> rfl
theorem m_sh_end (N : Nat) {S : ST} {n : Nat} (h14 : S 0 14 = nI n) (hn : n < 6) (f : Nat) : b_X5_readShop_19 N (f + 1) S 1 4 = some (1, us (us S 5 (24 + n) 0) 0 14 (nI (n + 1))) := by
  rw [b_X5_readShop_19, if_pos (show (4 : Int32) ≤ 4 by decide)]
  unfold b_X5_readShop_99
  rw [h14, show (24 : Int32) = nI 24 from rfl, nI_add, ck (by omega) (by decide), nm_s, nm_s, nI_clamp (by omega), us_n _ _ _ _ (show 0 ≠ 5 by decide), h14, nI_1, if_pos (Or.inr rfl)]
def loJ (j : Nat) : Int32 := if j = 2 then 1 else 0
def hiJ (j : Nat) : Int32 := if j = 0 then 5 else if j = 1 then 20 else if j = 2 then 30 else 240
theorem m_sh (N f : Nat) (S : ST) {j : Nat} (hj : j < 4) : b_X5_readShop_19 N (f + 1) S 1 (nI j) = b_X5_readShop_70 N (fun S x1 x2 => b_X5_readShop_19 N f S x1 x2) S (nI j) (loJ j) (hiJ j) := by
  rcases (show j = 0 ∨ j = 1 ∨ j = 2 ∨ j = 3 by omega) with rfl | rfl | rfl | rfl
  · rw [b_X5_readShop_19, if_neg (by decide), if_neg (by decide), if_neg (by decide)]; rfl
  · rw [b_X5_readShop_19, if_neg (by decide), if_neg (by decide), if_neg (by decide)]; rfl
  · rw [b_X5_readShop_19, if_neg (by decide), if_neg (by decide), if_pos (by decide)]; rfl
  · rw [b_X5_readShop_19, if_neg (by decide), if_neg (by decide), if_neg (by decide)]; rfl
-- one number of a shop
theorem sh_step {N : Nat} (hN : 400000 ≤ N) {v : VW} (hw : wfV v) {s l k : Nat} {SC SM : ST} (h : RD v s l k SC SM) {n j : Nat} (hj : j < 4) (hn : n < 6) (h14 : SM 0 14 = nI n) (f : Nat) :
    (∃ (m : Nat) (SC' SM' : ST) (s' l' k' : Nat), m ≤ 999 ∧ (loJ j).toInt ≤ (m : Int) ∧ (m : Int) ≤ (hiJ j).toInt ∧ f_X0_takeNumber N SC (loJ j) (hiJ j) = some (nI m, SC') ∧ b_X5_readShop_19 N (f + 1 + 1) SM 1 (nI j) = b_X5_readShop_19 N (f + 1) SM' 1 (nI (j + 1)) ∧ RD v s' l' k' SC' SM' ∧ gM SM' = upd (gM SM) (4 * n + j) (nI m) ∧ SM' 0 14 = nI n ∧ s < s' ∧ (∀ i, i ≠ 49 → SC' i = SC i) ∧ ∀ i, i ≠ 0 ∧ i ≠ 5 → SM' i = SM i) ∨
    (f_X0_takeNumber N SC (loJ j) (hiJ j) = some (0, us SC 49 1 (nI s)) ∧ ∃ SM1, b_X5_readShop_19 N (f + 1 + 1) SM 1 (nI j) = some (0, SM1) ∧ SM1 0 9 = nI s ∧ ∀ i, i ≠ 0 ∧ i ≠ 5 → SM1 i = SM i) := by
  have hlo : 0 ≤ (loJ j).toInt := by unfold loJ; split <;> decide
  rcases num_step hN hw h (lo := loJ j) (hi := hiJ j) hlo with ⟨m, S2, T2, s2, l2, k2, hm9, h0, hmn, -, -, e2, d2, t15, q2, a2, f2⟩ | ⟨e2, d2, -⟩
  · left
    refine ⟨m, S2, us T2 5 (4 * n + j) (nI m), s2, l2, k2, hm9, h0, hmn, e2, ?_, RD_5 q2 _ _, ?_, ?_, a2, f2.1, fun i hi => by rw [us_n _ _ _ _ hi.2, f2.2.1 i hi.1]⟩
    · rw [m_sh N (f + 1) SM hj]
      unfold b_X5_readShop_70
      rw [d2, bd2_s, f2.2.2, h14, sl0, nI_add, ck (by omega) (by decide), nm_s, nI_clamp (by omega), t15, nI_1]
    · rw [gM_5 _ _ (by omega), gM_R f2]
    · rw [us_n _ _ _ _ (by decide), f2.2.2]; exact h14
  · right
    refine ⟨e2, ?_⟩
    rw [m_sh N (f + 1) SM hj]
    unfold b_X5_readShop_70
    rw [d2, bd2_s, h14, sl0, nI_add, ck (by omega) (by decide), nm_s, nI_clamp (by omega)]
    refine ⟨_, m_sh_bad N (n := n) (S := us SM 5 (4 * n + j) (SM 0 15)) (by rw [us_n _ _ _ _ (by decide)]; exact h14) hn f _, ?_, fun i hi => by rw [us_n _ _ _ _ hi.1, us_n _ _ _ _ hi.2, us_n _ _ _ _ hi.2]⟩
    rw [us_k _ _ _ _ (by decide), us_n _ _ _ _ (by decide), us_n _ _ _ _ (by decide)]
    exact (RD_s hw h).2.1
theorem c_add10 (N : Nat) {u : VW} {S : ST} (hc : DC u S) (h6 : u 0 0 < 6) (x1 x2 x3 x4 : Int32) : f_X2_addShop_10 N S x1 x2 x3 x4 = some (us (us (us (us (us (us S 11 (u 0 0) x1) 12 (u 0 0) x2) 13 (u 0 0) x3) 14 (u 0 0) x4) 15 (u 0 0) 0) 10 0 (nI (u 0 0 + 1))) := by
  have i6 := ixo (k := u 0 0) (L := 6) h6 (by decide)
  have e := (DC_n hc).1
  unfold f_X2_addShop_10
  simp only [nm_s]
  simp only [us_n _ _ _ _ (show 10 ≠ 11 by decide), us_n _ _ _ _ (show 10 ≠ 12 by decide), us_n _ _ _ _ (show 10 ≠ 13 by decide), us_n _ _ _ _ (show 10 ≠ 14 by decide), us_n _ _ _ _ (show 10 ≠ 15 by decide)]
  rw [e]
  simp only [if_neg i6]
  rw [show (6 : Int32) = nI 6 from rfl, if_neg (fun z => by have := (nI_leI (by omega) (by omega)).mp z; omega), nI_clamp (by omega), nI_1]
theorem RD_14 {v : VW} {s l k : Nat} {SC SM : ST} (h : RD v s l k SC SM) (x : Int32) : RD v s l k SC (us SM 0 14 x) := RD_M (us_n _ _ _ _ (by decide)) (fun j hj => us_k _ _ _ _ (by omega)) h
theorem it_shop {N : Nat} (hN : 400000 ≤ N) {v u : VW} (hw : wfV v) (wu : wfV u) (nu : nbV u) {s l k : Nat} {SC SM : ST} (h : RD v s l k SC SM) (hc : DC u SC) (hm : DM u SM) (hl : 1 ≤ l) (hn : u 0 0 < 6) : okI N v s SC SM (f_X0_readShop N SC) (f_X5_readShop N SM) ∨ noI SC SM (f_X0_readShop N SC) (f_X5_readShop N SM) := by
  obtain ⟨N', hN'⟩ : ∃ N', N = N' + 1 + 1 + 1 + 1 + 1 + 1 := ⟨N - 6, by omega⟩
  obtain ⟨S1, T1, s1, l1, k1, e1, d1, q1, a1, -, f1⟩ := adv hN hw h
  have h14 : T1 0 14 = nI (u 0 0) := by rw [f1.2.2]; exact (DM_n hm).1
  have g1 := gM_R f1
  unfold f_X0_readShop f_X5_readShop
  rw [e1, bd1_s, d1, bd1_s, (DM_n hm).1, show (6 : Int32) = nI 6 from rfl, if_neg (fun z => by have := (nI_eq (by omega) (by omega)).mp z; omega), show b_X5_readShop_19 N N = b_X5_readShop_19 N (N' + 1 + 1 + 1 + 1 + 1 + 1) by rw [← hN']]
  have bad : ∀ {Sj Tj : ST} {sj lj kj : Nat}, RD v sj lj kj Sj Tj → (∀ i, (i < 10 ∨ (20 ≤ i ∧ i ≠ 49)) → Sj i = SC i) → (∀ i, i ≠ 0 ∧ i ≠ 5 → Tj i = SM i) → ∀ fm, (∃ SM1, fm = some ((0 : Int32), SM1) ∧ SM1 0 9 = nI sj ∧ ∀ i, i ≠ 0 ∧ i ≠ 5 → SM1 i = Tj i) → noI SC SM (some (us Sj 49 1 (nI sj))) fm := by
    intro Sj Tj sj lj kj q hC hM fm hf
    obtain ⟨SM1, b1, b2, b3⟩ := hf
    exact ⟨_, SM1, sj, rfl, (RD_s hw q).1, us_s _ _ _ _, b2, Or.inl b1, fun i hi => by rw [us_n _ _ _ _ (by omega), hC i hi], fun i hi => by rw [b3 i hi, hM i hi]⟩
  rcases sh_step hN hw q1 (j := 0) (by decide) hn h14 (N' + 1 + 1 + 1 + 1) with ⟨a, S2, T2, s2, l2, k2, -, -, ha, e2, d2, q2, g2, h14b, a2, c2, m2⟩ | ⟨e2, hz⟩
  · replace e2 : f_X0_takeNumber N S1 0 5 = _ := e2
    replace d2 : b_X5_readShop_19 N (N' + 1 + 1 + 1 + 1 + 1 + 1) T1 1 0 = _ := d2
    rw [e2, bd2_s, d2]
    rcases sh_step hN hw q2 (j := 1) (by decide) hn h14b (N' + 1 + 1 + 1) with ⟨b, S3, T3, s3, l3, k3, -, -, hb, e3, d3, q3, g3, h14c, a3, c3, m3⟩ | ⟨e3, hz⟩
    · replace e3 : f_X0_takeNumber N S2 0 20 = _ := e3
      rw [e3, bd2_s, d3]
      rcases sh_step hN hw q3 (j := 2) (by decide) hn h14c (N' + 1 + 1) with ⟨c, S4, T4, s4, l4, k4, -, hc1, hcc, e4, d4, q4, g4, h14d, a4, c4, m4⟩ | ⟨e4, hz⟩
      · replace e4 : f_X0_takeNumber N S3 1 30 = _ := e4
        rw [e4, bd2_s, d4]
        rcases sh_step hN hw q4 (j := 3) (by decide) hn h14d (N' + 1) with ⟨d, S5, T5, s5, l5, k5, -, -, hd, e5, d5, q5, g5, h14e, a5, c5, m5⟩ | ⟨e5, hz⟩
        · replace e5 : f_X0_takeNumber N S4 0 240 = _ := e5
          replace d5 : b_X5_readShop_19 N (N' + 1 + 1 + 1) T4 1 (nI (2 + 1)) = b_X5_readShop_19 N (N' + 1 + 1) T5 1 4 := d5
          rw [e5, bd2_s, d5, m_sh_end N h14e hn]
          have ha' : a ≤ 5 := by have : (a : Int) ≤ 5 := ha; omega
          have hb' : b ≤ 20 := by have : (b : Int) ≤ 20 := hb; omega
          have hc' : 1 ≤ c ∧ c ≤ 30 := by have : (c : Int) ≤ 30 := hcc; have : (1 : Int) ≤ c := hc1; omega
          have hd' : d ≤ 240 := by have : (d : Int) ≤ 240 := hd; omega
          have cAll : ∀ i, i ≠ 49 → S5 i = SC i := fun i hi => by rw [c5 i hi, c4 i hi, c3 i hi, c2 i hi, f1.1 i hi]
          have mAll : ∀ i, i ≠ 0 ∧ i ≠ 5 → T5 i = SM i := fun i hi => by rw [m5 i hi, m4 i hi, m3 i hi, m2 i hi, f1.2.1 i hi.1]
          rcases stop_step hN hw (RD_14 (RD_5 q5 (24 + u 0 0) 0) (nI (u 0 0 + 1))) with ⟨S6, T6, s6, l6, k6, h11, e6, d6, q6, a6, f6⟩ | ⟨h11, e6⟩
          · left
            have c6 : DC u S6 := DC_fr (fun i hi => by rw [f6.1 i (by omega), cAll i (by omega)]) hc
            obtain ⟨wf, wn⟩ := wf_ap wu nu hn ha' hb' hc' hd'
            rw [e6, bd2_s, if_neg (show ¬ (1 : Int32) = 0 by decide), c_add10 N c6 hn, bd1_s]
            refine ⟨_, _, T6, apS u a b c d, s6, l6, k6, rfl, rfl, h11, d6, RD_C (fun i hi => by rw [us_n _ _ _ _ (by omega), us_n _ _ _ _ (by omega), us_n _ _ _ _ (by omega), us_n _ _ _ _ (by omega), us_n _ _ _ _ (by omega), us_n _ _ _ _ (by omega)]) q6, ⟨?_, ?_, wf, wn⟩, by omega, fun i hi => ?_, fun i hi => ?_⟩
            · unfold DC
              rw [mkD_us _ _ (fun _ => by decide), mkD_us _ _ (fun z => absurd z (by decide)), mkD_us _ _ (fun z => absurd z (by decide)), mkD_us _ _ (fun z => absurd z (by decide)), mkD_us _ _ (fun z => absurd z (by decide)), mkD_us _ _ (fun z => absurd z (by decide))]
              exact rC_shop wu hn c6 a b c d rfl rfl rfl rfl
            · unfold DM
              rw [gM_R f6, gM_14, gM_5 _ _ (by omega), g5, g4, g3, g2, g1]
              exact rM_shop wu hn hm a b c d rfl rfl rfl rfl
            · rw [us_n _ _ _ _ (by omega), us_n _ _ _ _ (by omega), us_n _ _ _ _ (by omega), us_n _ _ _ _ (by omega), us_n _ _ _ _ (by omega), us_n _ _ _ _ (by omega), f6.1 i (by omega), cAll i (by omega)]
            · rw [f6.2.1 i hi.1, us_n _ _ _ _ hi.1, us_n _ _ _ _ hi.2, mAll i hi]
          · right
            obtain ⟨z1, z2, z3⟩ := RD_s hw q5
            rw [e6, bd2_s, if_pos (show (0 : Int32) = 0 from rfl)]
            refine ⟨_, _, s5, rfl, z1, us_s _ _ _ _, by rw [us_k _ _ _ _ (by decide), us_n _ _ _ _ (by decide)]; exact z2, Or.inr ⟨rfl, h11⟩, fun i hi => ?_, fun i hi => ?_⟩
            · rw [us_n _ _ _ _ (by omega), cAll i (by omega)]
            · rw [us_n _ _ _ _ hi.1, us_n _ _ _ _ hi.2, mAll i hi]
        · right
          replace e5 : f_X0_takeNumber N S4 0 240 = _ := e5
          have z3 := (RD_s hw q4).2.2
          rw [e5, bd2_s, stop_bad N z3, bd2_s, if_pos (show (0 : Int32) = 0 from rfl)]
          exact bad q4 (fun i hi => by rw [c4 i (by omega), c3 i (by omega), c2 i (by omega), f1.1 i (by omega)]) (fun i hi => by rw [m4 i hi, m3 i hi, m2 i hi, f1.2.1 i hi.1]) _ hz
      · right
        replace e4 : f_X0_takeNumber N S3 1 30 = _ := e4
        have z3 := (RD_s hw q3).2.2
        rw [e4, bd2_s, num_bad N z3, bd2_s, stop_bad N z3, bd2_s, if_pos (show (0 : Int32) = 0 from rfl)]
        exact bad q3 (fun i hi => by rw [c3 i (by omega), c2 i (by omega), f1.1 i (by omega)]) (fun i hi => by rw [m3 i hi, m2 i hi, f1.2.1 i hi.1]) _ hz
    · right
      replace e3 : f_X0_takeNumber N S2 0 20 = _ := e3
      have z3 := (RD_s hw q2).2.2
      rw [e3, bd2_s, num_bad N z3, bd2_s, num_bad N z3, bd2_s, stop_bad N z3, bd2_s, if_pos (show (0 : Int32) = 0 from rfl)]
      exact bad q2 (fun i hi => by rw [c2 i (by omega), f1.1 i (by omega)]) (fun i hi => by rw [m2 i hi, f1.2.1 i hi.1]) _ hz
  · right
    replace e2 : f_X0_takeNumber N S1 0 5 = _ := e2
    have z3 := (RD_s hw q1).2.2
    rw [e2, bd2_s, num_bad N z3, bd2_s, num_bad N z3, bd2_s, num_bad N z3, bd2_s, stop_bad N z3, bd2_s, if_pos (show (0 : Int32) = 0 from rfl)]
    exact bad q1 (fun i hi => by rw [f1.1 i (by omega)]) (fun i hi => by rw [f1.2.1 i hi.1]) _ hz
