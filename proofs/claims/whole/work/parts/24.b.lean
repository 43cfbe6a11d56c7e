-- a token of the road, on both sides
def TK (v : VW) (s l k : Nat) (SC SM : ST) : Prop :=
  s + l ≤ v 0 5 ∧ k ≤ 4 ∧ (k = 0 → s = v 0 5) ∧ (k ≠ 0 → 1 ≤ l) ∧
  SM 0 9 = nI s ∧ SM 0 10 = nI l ∧ SM 0 11 = nI k ∧
  SC 49 4 = nI (v 0 5) ∧ SC 49 5 = nI (s + l) ∧ SC 49 7 = nI s ∧
  ((k ≠ 4 ∧ SC 49 6 = nI k) ∨ (k = 4 ∧ (SC 49 6 = 4 ∨ (SC 49 6 = 2 ∧ SC 49 8 = -1)))) ∧
  (k = 2 → ∃ m, m ≤ 999 ∧ SM 0 12 = nI m ∧ SC 49 8 = nI m)
abbrev kT (k : Nat) : Prop := 5 ≤ k ∧ k ≤ 8
abbrev kU (k : Nat) : Prop := 9 ≤ k ∧ k ≤ 12
theorem m_tail {N : Nat} (hN : 1 ≤ N) {S : ST} (h : ¬ S 0 11 = 2) : b_X5_look_212 N S = some (us S 0 11 (S 0 11)) := by
  obtain ⟨n, hn⟩ : ∃ n, N = n + 1 := ⟨N - 1, by omega⟩
  have e : b_X5_look_270 N S = some (us S 0 11 (S 0 11)) := by
    unfold b_X5_look_270 b_X5_look_291 b_X5_look_295
    rw [if_neg h, nm_s]
  unfold b_X5_look_212
  conv => lhs; rw [show b_X5_look_215 N N = b_X5_look_215 N (n + 1) by rw [← hn]]
  rw [b_X5_look_215, if_neg h, e]
  split
  · rfl
  · split <;> rfl
theorem tok_step {N : Nat} (hN : 400000 ≤ N) {v : VW} (hw : wfV v) {SC SM : ST} {p : Nat} (rc : rlC v SC 0) (rm : rlM v (SM 1)) (h4 : SC 49 4 = nI (v 0 5)) (h5 : SC 49 5 = nI p) (hp : p ≤ v 0 5) :
    ∃ SC' SM' s l k, f_X0_goToToken N SC = some SC' ∧ f_X5_look N SM (nI p) = some SM' ∧ TK v s l k SC' SM' ∧ p ≤ s ∧ f49 kT SC SC' ∧ f0M kU SM SM' := by
  have t200 := hw.2.2.2.2.2.1
  obtain ⟨S1, e1, a1, f1⟩ := c_skip N hw N (v 0 5 - p) rc h4 h5 (by omega) (by omega)
  have g0 : f0M (fun k => k = 9) SM (us SM 0 9 (nI p)) := f0M_1 SM 9 _
  obtain ⟨T1, d1, b1, g1⟩ := m_skip N hw N (v 0 5 - p) (S := us SM 0 9 (nI p)) (p := p) (rlM_0 g0 rm) (us_s _ _ _ _) (by omega) (by omega)
  obtain ⟨q1, q2, q3⟩ := rn_in v spP (v 0 5 - p) p
  generalize hs : rn v spP (v 0 5 - p) p = s at a1 b1 q1 q2 q3
  have hst : s ≤ v 0 5 := by omega
  unfold f_X0_goToToken f_X5_look
  rw [e1, nm_s, d1]
  unfold b_X0_goToToken_38 b_X5_look_42
  simp only [nm_s]
  rw [a1]
  have r1 := rlC_49 f1 rc
  have f5 : f49 kT SC (us S1 49 7 (nI s)) := f49_tr (f49_w (fun k hk => by have : k = 5 := hk; omega) f1) (f49_us _ (show kT 7 by decide) _)
  have r5 : rlC v (us S1 49 7 (nI s)) 0 := rlC_49 f5 rc
  have c4 : us S1 49 7 (nI s) 49 4 = nI (v 0 5) := by rw [us_k _ _ _ _ (by decide), f1.2 4 (by decide)]; exact h4
  have c5 : us S1 49 7 (nI s) 49 5 = nI s := by rw [us_k _ _ _ _ (by decide)]; exact a1
  have c7 : us S1 49 7 (nI s) 49 7 = nI s := us_s _ _ _ _
  generalize us S1 49 7 (nI s) = S5 at f5 r5 c4 c5 c7 ⊢
  have gT : f0M kU SM (us (us (us T1 0 10 0) 0 11 0) 0 12 0) := f0M_tr (f0M_w (fun k hk => by have : k = 9 := hk; omega) (f0M_tr g0 g1)) (f0M_tr (f0M_tr (f0M_us _ (show kU 10 by decide) _) (f0M_us _ (show kU 11 by decide) _)) (f0M_us _ (show kU 12 by decide) _))
  have rT : rlM v (us (us (us T1 0 10 0) 0 11 0) 0 12 0 1) := rlM_0 gT rm
  have m9 : us (us (us T1 0 10 0) 0 11 0) 0 12 0 0 9 = nI s := by rw [us_k _ _ _ _ (by decide), us_k _ _ _ _ (by decide), us_k _ _ _ _ (by decide)]; exact b1
  have m10 : us (us (us T1 0 10 0) 0 11 0) 0 12 0 0 10 = 0 := by rw [us_k _ _ _ _ (by decide), us_k _ _ _ _ (by decide), us_s]
  have m11 : us (us (us T1 0 10 0) 0 11 0) 0 12 0 0 11 = 0 := by rw [us_k _ _ _ _ (by decide), us_s]
  have m12 : us (us (us T1 0 10 0) 0 11 0) 0 12 0 0 12 = 0 := us_s _ _ _ _
  generalize us (us (us T1 0 10 0) 0 11 0) 0 12 0 = T at gT rT m9 m10 m11 m12 ⊢
  rw [f_X5_textLong, bd2_s, c4, c5, m9, rT.2.2.2.2.2.1]
  by_cases hend : s = v 0 5
  · rw [if_neg (fun z => by have := (nI_ltI (by omega) (by omega)).mp z; omega), if_pos (by rw [hend])]
    refine ⟨_, _, s, 0, 0, rfl, rfl, ⟨by omega, by omega, fun _ => hend, fun z => absurd rfl z, m9, m10, m11, ?_, ?_, ?_, Or.inl ⟨by decide, us_s _ _ _ _⟩, fun z => absurd z (by decide)⟩, q1, f49_tr f5 (f49_us _ (show kT 6 by decide) _), gT⟩
    · rw [us_k _ _ _ _ (by decide)]; exact c4
    · rw [us_k _ _ _ _ (by decide)]; exact c5
    · rw [us_k _ _ _ _ (by decide)]; exact c7
  · have hlt : s < v 0 5 := by omega
    have hb := hw.2.2.2.2.2.2.2.2.2.2.1 s hlt
    have i200 := ixo (k := s) (L := 200) (by omega) (by decide)
    rw [if_pos ((nI_ltI (by omega) (by omega)).mpr hlt), if_neg (fun z => hend ((nI_eq (by omega) (by omega)).mp z))]
    simp only [if_neg i200]
    rw [nI_clamp (by omega), c_byte r5 hlt, c_letter N S5 hb, bd2_s, m_byte N hw rT hlt, bd2_s, m_small N T hb, bd2_s, tf_if, tf_if]
    by_cases hle : leP (v 7 s)
    · rw [if_pos hle, if_pos hle]
      -- a word
      have fa : f49 kT SC (us S5 49 6 1) := f49_tr f5 (f49_us _ (show kT 6 by decide) _)
      obtain ⟨S6, e6, a6, f6⟩ := c_word N hw N (v 0 5 - s) (S := us S5 49 6 1) (p := s) (rlC_49 fa rc) (by rw [us_k _ _ _ _ (by decide)]; exact c4) (by rw [us_k _ _ _ _ (by decide)]; exact c5) (by omega) (by omega)
      rw [e6]
      unfold b_X5_look_112 b_X5_look_133
      simp only [nm_s]
      rw [us_k _ _ _ _ (show 11 ≠ 10 by decide), us_s, if_neg (show ¬ (3 : Int32) ≤ 1 by decide)]
      have ga : f0M kU SM (us (us T 0 11 1) 0 10 1) := f0M_tr gT (f0M_tr (f0M_us _ (show kU 11 by decide) _) (f0M_us _ (show kU 10 by decide) _))
      obtain ⟨T2, d2, b2, g2⟩ := m_run N hw (s := s) (P := leP) (kk := 1) (Or.inl ⟨rfl, fun _ => Iff.rfl⟩) N (v 0 5 - (s + 1)) (S := us (us T 0 11 1) 0 10 1) (l := 1) (rlM_0 ga rm) (by rw [us_k _ _ _ _ (by decide), us_k _ _ _ _ (by decide)]; exact m9) (us_s _ _ _ _) (by rw [us_k _ _ _ _ (by decide), us_s]) (by omega) (by omega)
      have t11 : T2 0 11 = 1 := by rw [g2.2 11 (by decide), us_k _ _ _ _ (by decide), us_s]
      rw [d2, m_tail (by omega) (by rw [t11]; decide), t11]
      have er : rn v leP (v 0 5 - s) s = rn v leP (v 0 5 - (s + 1)) (s + 1) := by
        rw [show v 0 5 - s = (v 0 5 - (s + 1)) + 1 by omega, rn, if_pos hle]
      obtain ⟨z1, z2, z3⟩ := rn_in v leP (v 0 5 - (s + 1)) (s + 1)
      rw [er] at a6
      generalize rn v leP (v 0 5 - (s + 1)) (s + 1) = en at a6 b2 z1 z2
      refine ⟨_, _, s, en - s, 1, rfl, rfl, ⟨by omega, by decide, fun z => absurd z (by decide), fun _ => by omega, ?_, ?_, us_s _ _ _ _, ?_, ?_, ?_, Or.inl ⟨by decide, ?_⟩, fun z => absurd z (by decide)⟩, q1, f49_tr fa (f49_w (fun k hk => by have : k = 5 := hk; omega) f6), f0M_tr (f0M_tr ga (f0M_w (fun k hk => by have : k = 10 := hk; omega) g2)) (f0M_us _ (show kU 11 by decide) _)⟩
      · rw [us_k _ _ _ _ (by decide), g2.2 9 (by decide), us_k _ _ _ _ (by decide), us_k _ _ _ _ (by decide)]; exact m9
      · rw [us_k _ _ _ _ (by decide)]; exact b2
      · rw [f6.2 4 (by decide), us_k _ _ _ _ (by decide)]; exact c4
      · rw [a6, show s + (en - s) = en by omega]
      · rw [f6.2 7 (by decide), us_k _ _ _ _ (by decide)]; exact c7
      · rw [f6.2 6 (by decide), us_s]; rfl
    · rw [if_neg hle, if_neg hle, c5]
      simp only [if_neg i200]
      rw [nI_clamp (by omega), c_byte r5 hlt, c_figure N S5 hb, bd2_s, m_figure N T hb, bd2_s, tf_if, tf_if]
      by_cases hfi : fiP (v 7 s)
      · rw [if_pos hfi, if_pos hfi]
        -- a number
        have fa : f49 kT SC (us (us S5 49 6 2) 49 8 0) := f49_tr f5 (f49_tr (f49_us _ (show kT 6 by decide) _) (f49_us _ (show kT 8 by decide) _))
        obtain ⟨S6, e6, a6, a8, f6⟩ := c_number N hw (s := s) N (v 0 5 - s) (S := us (us S5 49 6 2) 49 8 0) (p := s) (rlC_49 fa rc) (by rw [us_k _ _ _ _ (by decide), us_k _ _ _ _ (by decide)]; exact c4) (by rw [us_k _ _ _ _ (by decide), us_k _ _ _ _ (by decide)]; exact c5) (by rw [us_k _ _ _ _ (by decide), us_k _ _ _ _ (by decide)]; exact c7) (Nat.le_refl _) (by rw [us_s, Nat.sub_self]; rfl) (fun q h1 h2 => by omega) (by omega) (by omega)
        rw [e6]
        unfold b_X5_look_112 b_X5_look_133
        simp only [nm_s]
        rw [us_k _ _ _ _ (show 11 ≠ 10 by decide), us_s, if_neg (show ¬ (3 : Int32) ≤ 2 by decide)]
        have ga : f0M kU SM (us (us T 0 11 2) 0 10 1) := f0M_tr gT (f0M_tr (f0M_us _ (show kU 11 by decide) _) (f0M_us _ (show kU 10 by decide) _))
        obtain ⟨T2, d2, b2, g2⟩ := m_run N hw (s := s) (P := fiP) (kk := 2) (Or.inr ⟨rfl, fun _ => Iff.rfl⟩) N (v 0 5 - (s + 1)) (S := us (us T 0 11 2) 0 10 1) (l := 1) (rlM_0 ga rm) (by rw [us_k _ _ _ _ (by decide), us_k _ _ _ _ (by decide)]; exact m9) (us_s _ _ _ _) (by rw [us_k _ _ _ _ (by decide), us_s]) (by omega) (by omega)
        have er : rn v fiP (v 0 5 - s) s = rn v fiP (v 0 5 - (s + 1)) (s + 1) := by
          rw [show v 0 5 - s = (v 0 5 - (s + 1)) + 1 by omega, rn, if_pos hfi]
        obtain ⟨z1, z2, -⟩ := rn_in v fiP (v 0 5 - (s + 1)) (s + 1)
        obtain ⟨-, -, z3⟩ := rn_in v fiP (v 0 5 - s) s
        rw [er] at a6 a8 z3
        generalize rn v fiP (v 0 5 - (s + 1)) (s + 1) = en at a6 a8 b2 z1 z2 z3
        have gb : f0M kU SM T2 := f0M_tr ga (f0M_w (fun k hk => by have : k = 10 := hk; omega) g2)
        have t11 : T2 0 11 = 2 := by rw [g2.2 11 (by decide), us_k _ _ _ _ (by decide), us_s]
        have t9 : T2 0 9 = nI s := by rw [g2.2 9 (by decide), us_k _ _ _ _ (by decide), us_k _ _ _ _ (by decide)]; exact m9
        obtain ⟨T3, d3, b3, g3⟩ := m_num N hw (s := s) (l := en - s) (by omega) (fun q hq => z3 (s + q) (by omega) (by omega)) N (S := T2) (j := 0) (rlM_0 gb rm) t9 b2 t11 (by rw [g2.2 12 (by decide), us_k _ _ _ _ (by decide), us_k _ _ _ _ (by decide), m12]; rfl) (Nat.zero_le _) (Nat.zero_le _) (by omega)
        replace d3 : b_X5_look_215 N N T2 0 = _ := d3
        have gc : f0M kU SM T3 := f0M_tr gb (f0M_w (fun k hk => by have : k = 12 := hk; omega) g3)
        have u11 : T3 0 11 = 2 := by rw [g3.2 11 (by decide)]; exact t11
        have u10 : T3 0 10 = nI (en - s) := by rw [g3.2 10 (by decide)]; exact b2
        have u9 : T3 0 9 = nI s := by rw [g3.2 9 (by decide)]; exact t9
        rw [d2]
        unfold b_X5_look_212
        rw [d3]
        unfold b_X5_look_270 b_X5_look_291 b_X5_look_295
        simp only [nm_s]
        rw [u11, if_pos (show (2 : Int32) = 2 from rfl), u10, show (3 : Int32) = nI 3 from rfl]
        have w4 : S6 49 4 = nI (v 0 5) := by rw [f6.2 4 (by decide), us_k _ _ _ _ (by decide), us_k _ _ _ _ (by decide)]; exact c4
        have w7 : S6 49 7 = nI s := by rw [f6.2 7 (by decide), us_k _ _ _ _ (by decide), us_k _ _ _ _ (by decide)]; exact c7
        have w6 : S6 49 6 = 2 := by rw [f6.2 6 (by decide), us_k _ _ _ _ (by decide), us_s]
        have fc : f49 kT SC S6 := f49_tr fa (f49_w (fun k hk => by have : k = 5 ∨ k = 8 := hk; omega) f6)
        by_cases h3 : en - s ≤ 3
        · rw [if_pos ((nI_leI (by omega) (by omega)).mpr h3)]
          have hnu := nu_lt (v := v) (s := s) (en - s) (fun q hq => z3 (s + q) (by omega) (by omega))
          have h10 : 10 ^ (en - s) ≤ 10 ^ 3 := Nat.pow_le_pow_right (by decide) h3
          have : (10 : Nat) ^ 3 = 1000 := by decide
          refine ⟨_, _, s, en - s, 2, rfl, rfl, ⟨by omega, by decide, fun z => absurd z (by decide), fun _ => by omega, ?_, ?_, us_s _ _ _ _, w4, ?_, w7, Or.inl ⟨by decide, w6⟩, fun _ => ⟨nuS v s (en - s), by omega, ?_, ?_⟩⟩, q1, fc, f0M_tr gc (f0M_us _ (show kU 11 by decide) _)⟩
          · rw [us_k _ _ _ _ (by decide)]; exact u9
          · rw [us_k _ _ _ _ (by decide)]; exact u10
          · rw [a6, show s + (en - s) = en by omega]
          · rw [us_k _ _ _ _ (by decide), b3, Nat.min_eq_left h3]
          · rw [a8]; unfold nuC; rw [if_pos h3]
        · rw [if_neg (fun z => h3 ((nI_leI (by omega) (by omega)).mp z))]
          refine ⟨_, _, s, en - s, 4, rfl, rfl, ⟨by omega, by decide, fun z => absurd z (by decide), fun _ => by omega, ?_, ?_, us_s _ _ _ _, w4, ?_, w7, Or.inr ⟨rfl, Or.inr ⟨w6, ?_⟩⟩, fun z => absurd z (by decide)⟩, q1, fc, f0M_tr gc (f0M_us _ (show kU 11 by decide) _)⟩
          · rw [us_k _ _ _ _ (by decide)]; exact u9
          · rw [us_k _ _ _ _ (by decide)]; exact u10
          · rw [a6, show s + (en - s) = en by omega]
          · rw [a8]; unfold nuC; rw [if_neg h3]
      · rw [if_neg hfi, if_neg hfi, c5]
        simp only [if_neg i200]
        rw [nI_clamp (by omega), c_byte r5 hlt]
        have one : ∀ kk : Nat, (kk = 3 ∨ kk = 4) → ∃ SC' SM' s' l k, b_X0_goToToken_249 N S5 (nI kk) = some SC' ∧ b_X5_look_112 N T (nI kk) = some SM' ∧ TK v s' l k SC' SM' ∧ p ≤ s' ∧ f49 kT SC SC' ∧ f0M kU SM SM' := by
          intro kk hkk
          unfold b_X0_goToToken_249 b_X5_look_112 b_X5_look_133
          simp only [nm_s]
          rw [us_k _ _ _ _ (show 11 ≠ 10 by decide), us_s, us_k _ _ _ _ (show 5 ≠ 6 by decide), c5, nI_1, show (3 : Int32) = nI 3 from rfl, if_pos ((nI_leI (by omega) (by omega)).mpr (by omega))]
          obtain ⟨n', hn'⟩ : ∃ n', N = n' + 1 := ⟨N - 1, by omega⟩
          have e134 : b_X5_look_134 N N (us (us T 0 11 (nI kk)) 0 10 1) 0 = b_X5_look_212 N (us (us T 0 11 (nI kk)) 0 10 1) := by
            conv => lhs; rw [show b_X5_look_134 N N = b_X5_look_134 N (n' + 1) by rw [← hn']]
            rw [b_X5_look_134, if_pos (show (0 : Int32) = 0 from rfl)]
          have t11 : us (us T 0 11 (nI kk)) 0 10 1 0 11 = nI kk := by rw [us_k _ _ _ _ (by decide), us_s]
          rw [e134, m_tail (by omega) (by rw [t11]; rcases hkk with rfl | rfl <;> decide), t11]
          refine ⟨_, _, s, 1, kk, rfl, rfl, ⟨by omega, by omega, fun z => by omega, fun _ => Nat.le_refl _, ?_, ?_, us_s _ _ _ _, ?_, us_s _ _ _ _, ?_, ?_, fun z => by omega⟩, q1, f49_tr f5 (f49_tr (f49_us _ (show kT 6 by decide) _) (f49_us _ (show kT 5 by decide) _)), f0M_tr gT (f0M_tr (f0M_tr (f0M_us _ (show kU 11 by decide) _) (f0M_us _ (show kU 10 by decide) _)) (f0M_us _ (show kU 11 by decide) _))⟩
          · rw [us_k _ _ _ _ (by decide), us_k _ _ _ _ (by decide), us_k _ _ _ _ (by decide)]; exact m9
          · rw [us_k _ _ _ _ (by decide), us_s]; rfl
          · rw [us_k _ _ _ _ (by decide), us_k _ _ _ _ (by decide)]; exact c4
          · rw [us_k _ _ _ _ (by decide), us_k _ _ _ _ (by decide)]; exact c7
          · have e6 : us (us S5 49 6 (nI kk)) 49 5 (nI (s + 1)) 49 6 = nI kk := by rw [us_k _ _ _ _ (by decide), us_s]
            rw [e6]
            rcases hkk with rfl | rfl
            · exact Or.inl ⟨by decide, rfl⟩
            · exact Or.inr ⟨rfl, Or.inl rfl⟩
        rw [show (59 : Int32) = nI 59 from rfl]
        by_cases h59 : v 7 s = 59
        · rw [if_pos (show nI (v 7 s) = nI 59 by rw [h59]), if_pos (show nI (v 7 s) = nI 59 by rw [h59])]
          exact one 3 (Or.inl rfl)
        · rw [if_neg (fun z => h59 ((nI_eq (by omega) (by omega)).mp z)), if_neg (fun z => h59 ((nI_eq (by omega) (by omega)).mp z))]
          exact one 4 (Or.inr rfl)
