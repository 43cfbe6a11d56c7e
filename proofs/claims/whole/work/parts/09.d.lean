theorem ctL_37 : Cond.constantLong RL 37 4294967295 ∈ wsL_law := by decide +kernel
theorem hdL_X4_shop : yX4_shop.cls = RX4 ∧ yX4_shop.cls ≠ "java/lang/invoke/MethodHandle" ∧ yX4_shop.cls ≠ "java/lang/invoke/VarHandle" ∧ (parseMethodDescriptor yX4_shop.desc).map (fun d => d.parameters.length) = some 4 := by decide +kernel
theorem hdL_X5_shop : yX5_shop.cls = RX5 ∧ yX5_shop.cls ≠ "java/lang/invoke/MethodHandle" ∧ yX5_shop.cls ≠ "java/lang/invoke/VarHandle" ∧ (parseMethodDescriptor yX5_shop.desc).map (fun d => d.parameters.length) = some 4 := by decide +kernel
set_option maxHeartbeats 4000000 in
set_option maxRecDepth 100000 in
theorem law_shop {p : Program} {l : Launch} {e : Env} {s : State} {m : MethodId} {below : List Frame} {meth : Method} {c : Code} {b L : Nat} {xs : Nat → Int32} {D : va_G} {tc tm : Nat → ClassId} {ac am : Nat → Nat} {X : State → Prop} {kd vd : Nat → Nat} {N : Nat} {Rl : ST → ST → Prop} (hXc : XOk (aW 56 ac) X) (hXm : XOk (aW 17 am) X) (hN : ∀ U : State, X U → xR kd vd ac U) (E : EN p s m #[Value.ref b] meth c cL_law RL wsL_law ret 4) (hXs : va_X b L xs s s.heap) (hbl : b < s.heap.size) (hL : L ≤ 2560) (st_shop : ∀ (x0 : Int32) (x1 : Int32) (x2 : Int32) (x3 : Int32), StI Rl (fun S => f_X4_shop N S x0 x1 x2 x3) (fun S => f_X5_shop N S x0 x1 x2 x3)) {SC SM : ST} {H : Heap} {locs : List Loc} {ls : Array Slot} {j : Nat} (hj : 5 * j + 5 ≤ L) (w : LW D tc tm ac am X SC SM s H locs) (hl : lv_has ls 4 [(0, .ref b), (1, .ref (ac 50)), (2, .ref (am 0)), (3, .int (nI (5 * j)))]) (hR : Rl SC SM) (hk : ∀ {SC SM : ST} {H : Heap} {locs : List Loc} {ls : Array Slot}, LW D tc tm ac am X SC SM s H locs → lv_has ls 4 [(0, .ref b), (1, .ref (ac 50)), (2, .ref (am 0)), (3, .int (nI (5 * j)))] → Rl SC SM → W p l e room_1 s m #[Value.ref b] below meth c H locs 73 2420 (lw_Z below #[Value.ref b] s) (F0 m 903 ls [])) : W p l e room_1 s m #[Value.ref b] below meth c H locs 73 2420 (lw_Z below #[Value.ref b] s) (F0 m 152 ls []) := by
  obtain ⟨⟨hx, hb, hml, hown, hts⟩, hr, hlk⟩ := id E
  have hbA : ¬ (fun q : Nat => s.heap.size ≤ q) b := Nat.not_le.mpr hbl
  refine lv_aload_n hx hb dL_law_152 rfl (lv_at hl 1 rfl) ?_
  refine lv_aload_n hx hb dL_law_153 rfl (lv_at hl 0 rfl) ?_
  refine lv_iload_n hx hb dL_law_154 rfl (lv_at hl 3 rfl) ?_
  refine lv_iconst (v := 1) hx hb dL_law_155 (by decide) ?_
  refine lv_iadd hx hb dL_law_156 ?_
  refine va_sld hx hb hXs hbl hbA w.2.2.2.2.2.1 (lw_in (k := 1) hL hj (by decide)) dL_law_157 ?_
  refine lv_aload_n hx hb dL_law_158 rfl (lv_at hl 0 rfl) ?_
  refine lv_iload_n hx hb dL_law_159 rfl (lv_at hl 3 rfl) ?_
  refine lv_iconst (v := 2) hx hb dL_law_160 (by decide) ?_
  refine lv_iadd hx hb dL_law_161 ?_
  refine va_sld hx hb hXs hbl hbA w.2.2.2.2.2.1 (lw_in (k := 2) hL hj (by decide)) dL_law_162 ?_
  refine lv_aload_n hx hb dL_law_163 rfl (lv_at hl 0 rfl) ?_
  refine lv_iload_n hx hb dL_law_164 rfl (lv_at hl 3 rfl) ?_
  refine lv_iconst (v := 3) hx hb dL_law_165 (by decide) ?_
  refine lv_iadd hx hb dL_law_166 ?_
  refine va_sld hx hb hXs hbl hbA w.2.2.2.2.2.1 (lw_in (k := 3) hL hj (by decide)) dL_law_167 ?_
  refine lv_aload_n hx hb dL_law_168 rfl (lv_at hl 0 rfl) ?_
  refine lv_iload_n hx hb dL_law_169 rfl (lv_at hl 3 rfl) ?_
  refine lv_iconst (v := 4) hx hb dL_law_170 (by decide) ?_
  refine lv_iadd hx hb dL_law_171 ?_
  refine va_sld hx hb hXs hbl hbA w.2.2.2.2.2.1 (lw_in (k := 4) hL hj (by decide)) dL_law_172 ?_
  obtain ⟨r, SC1, SM1, h4, h5, hR1⟩ := st_shop (xs (nI (5 * j) + 1).toNatClampNeg) (xs (nI (5 * j) + 2).toNatClampNeg) (xs (nI (5 * j) + 3).toNatClampNeg) (xs (nI (5 * j) + 4).toNatClampNeg) SC SM hR
  refine l_calli (As := [.int (xs (nI (5 * j) + 1).toNatClampNeg), .int (xs (nI (5 * j) + 2).toNatClampNeg), .int (xs (nI (5 * j) + 3).toNatClampNeg), .int (xs (nI (5 * j) + 4).toNatClampNeg)]) (rest := []) (cC_fst tc ac) hXc E w.c (c_X4_shop l hXc h4) (cwV 4 hts gL_law_X4_shop rfl rfl rfl hdL_X4_shop ⟨(Nat.le_of_ble_eq_true rfl), (Nat.le_of_ble_eq_true rfl)⟩) (ci := 4) rfl (cC_at_50 tc ac SC) rfl hl.1 rfl (Nat.le_of_ble_eq_true rfl) dL_law_173 ⟨(Nat.le_of_ble_eq_true rfl), (Nat.le_of_ble_eq_true rfl)⟩ (fun H locs w2 => ?_)
  replace w := LW.ofc w.2.2.2.2.1 w2
  refine lv_aload_n hx hb dL_law_176 rfl (lv_at hl 2 rfl) ?_
  refine lv_aload_n hx hb dL_law_177 rfl (lv_at hl 0 rfl) ?_
  refine lv_iload_n hx hb dL_law_178 rfl (lv_at hl 3 rfl) ?_
  refine lv_iconst (v := 1) hx hb dL_law_179 (by decide) ?_
  refine lv_iadd hx hb dL_law_180 ?_
  refine va_sld hx hb hXs hbl hbA w.2.2.2.2.2.1 (lw_in (k := 1) hL hj (by decide)) dL_law_181 ?_
  refine lv_aload_n hx hb dL_law_182 rfl (lv_at hl 0 rfl) ?_
  refine lv_iload_n hx hb dL_law_183 rfl (lv_at hl 3 rfl) ?_
  refine lv_iconst (v := 2) hx hb dL_law_184 (by decide) ?_
  refine lv_iadd hx hb dL_law_185 ?_
  refine va_sld hx hb hXs hbl hbA w.2.2.2.2.2.1 (lw_in (k := 2) hL hj (by decide)) dL_law_186 ?_
  refine lv_aload_n hx hb dL_law_187 rfl (lv_at hl 0 rfl) ?_
  refine lv_iload_n hx hb dL_law_188 rfl (lv_at hl 3 rfl) ?_
  refine lv_iconst (v := 3) hx hb dL_law_189 (by decide) ?_
  refine lv_iadd hx hb dL_law_190 ?_
  refine va_sld hx hb hXs hbl hbA w.2.2.2.2.2.1 (lw_in (k := 3) hL hj (by decide)) dL_law_191 ?_
  refine lv_aload_n hx hb dL_law_192 rfl (lv_at hl 0 rfl) ?_
  refine lv_iload_n hx hb dL_law_193 rfl (lv_at hl 3 rfl) ?_
  refine lv_iconst (v := 4) hx hb dL_law_194 (by decide) ?_
  refine lv_iadd hx hb dL_law_195 ?_
  refine va_sld hx hb hXs hbl hbA w.2.2.2.2.2.1 (lw_in (k := 4) hL hj (by decide)) dL_law_196 ?_
  refine l_calli (As := [.int (xs (nI (5 * j) + 1).toNatClampNeg), .int (xs (nI (5 * j) + 2).toNatClampNeg), .int (xs (nI (5 * j) + 3).toNatClampNeg), .int (xs (nI (5 * j) + 4).toNatClampNeg)]) (rest := [.int r]) (cM_fst tm am) hXm E w.m (c_X5_shop l hXm h5) (cwV 4 hts gL_law_X5_shop rfl rfl rfl hdL_X5_shop ⟨(Nat.le_of_ble_eq_true rfl), (Nat.le_of_ble_eq_true rfl)⟩) (ci := 5) rfl (cM_at_0 tm am SM) rfl hl.1 rfl (Nat.le_of_ble_eq_true rfl) dL_law_197 ⟨(Nat.le_of_ble_eq_true rfl), (Nat.le_of_ble_eq_true rfl)⟩ (fun H locs w2 => ?_)
  replace w := LW.ofm w.2.2.2.1 w2
  refine lv_icmp_eq (tgt := 903) hx hb dL_law_200 (by decide) (fun _ => ?_) (fun h => absurd rfl h)
  exact hk w hl hR1
theorem hdL_X4_next : yX4_next.cls = RX4 ∧ yX4_next.cls ≠ "java/lang/invoke/MethodHandle" ∧ yX4_next.cls ≠ "java/lang/invoke/VarHandle" ∧ (parseMethodDescriptor yX4_next.desc).map (fun d => d.parameters.length) = some 3 := by decide +kernel
theorem hdL_X5_next : yX5_next.cls = RX5 ∧ yX5_next.cls ≠ "java/lang/invoke/MethodHandle" ∧ yX5_next.cls ≠ "java/lang/invoke/VarHandle" ∧ (parseMethodDescriptor yX5_next.desc).map (fun d => d.parameters.length) = some 3 := by decide +kernel
set_option maxHeartbeats 4000000 in
set_option maxRecDepth 100000 in
theorem law_next {p : Program} {l : Launch} {e : Env} {s : State} {m : MethodId} {below : List Frame} {meth : Method} {c : Code} {b L : Nat} {xs : Nat → Int32} {D : va_G} {tc tm : Nat → ClassId} {ac am : Nat → Nat} {X : State → Prop} {kd vd : Nat → Nat} {N : Nat} {Rl : ST → ST → Prop} (hXc : XOk (aW 56 ac) X) (hXm : XOk (aW 17 am) X) (hN : ∀ U : State, X U → xR kd vd ac U) (E : EN p s m #[Value.ref b] meth c cL_law RL wsL_law ret 4) (hXs : va_X b L xs s s.heap) (hbl : b < s.heap.size) (hL : L ≤ 2560) (st_next : ∀ (x0 : Int32) (x1 : Int32) (x2 : Int32), (x2 = 0 ∨ x2 = 1) → StI Rl (fun S => f_X4_next N S x0 x1 x2) (fun S => f_X5_next N S x0 x1 x2)) {SC SM : ST} {H : Heap} {locs : List Loc} {ls : Array Slot} {j : Nat} (hj : 5 * j + 5 ≤ L) (w : LW D tc tm ac am X SC SM s H locs) (hl : lv_has ls 4 [(0, .ref b), (1, .ref (ac 50)), (2, .ref (am 0)), (3, .int (nI (5 * j)))]) (hR : Rl SC SM) (hk : ∀ {SC SM : ST} {H : Heap} {locs : List Loc} {ls : Array Slot}, LW D tc tm ac am X SC SM s H locs → lv_has ls 4 [(0, .ref b), (1, .ref (ac 50)), (2, .ref (am 0)), (3, .int (nI (5 * j)))] → Rl SC SM → W p l e room_1 s m #[Value.ref b] below meth c H locs 73 2420 (lw_Z below #[Value.ref b] s) (F0 m 903 ls [])) : W p l e room_1 s m #[Value.ref b] below meth c H locs 73 2420 (lw_Z below #[Value.ref b] s) (F0 m 205 ls []) := by
  obtain ⟨⟨hx, hb, hml, hown, hts⟩, hr, hlk⟩ := id E
  have hbA : ¬ (fun q : Nat => s.heap.size ≤ q) b := Nat.not_le.mpr hbl
  refine lv_aload_n hx hb dL_law_205 rfl (lv_at hl 1 rfl) ?_
  refine lv_aload_n hx hb dL_law_206 rfl (lv_at hl 0 rfl) ?_
  refine lv_iload_n hx hb dL_law_207 rfl (lv_at hl 3 rfl) ?_
  refine lv_iconst (v := 1) hx hb dL_law_208 (by decide) ?_
  refine lv_iadd hx hb dL_law_209 ?_
  refine va_sld hx hb hXs hbl hbA w.2.2.2.2.2.1 (lw_in (k := 1) hL hj (by decide)) dL_law_210 ?_
  refine lv_aload_n hx hb dL_law_211 rfl (lv_at hl 0 rfl) ?_
  refine lv_iload_n hx hb dL_law_212 rfl (lv_at hl 3 rfl) ?_
  refine lv_iconst (v := 2) hx hb dL_law_213 (by decide) ?_
  refine lv_iadd hx hb dL_law_214 ?_
  refine va_sld hx hb hXs hbl hbA w.2.2.2.2.2.1 (lw_in (k := 2) hL hj (by decide)) dL_law_215 ?_
  refine lv_aload_n hx hb dL_law_216 rfl (lv_at hl 0 rfl) ?_
  refine lv_iload_n hx hb dL_law_217 rfl (lv_at hl 3 rfl) ?_
  refine lv_iconst (v := 3) hx hb dL_law_218 (by decide) ?_
  refine lv_iadd hx hb dL_law_219 ?_
  refine va_sld hx hb hXs hbl hbA w.2.2.2.2.2.1 (lw_in (k := 3) hL hj (by decide)) dL_law_220 ?_
  refine lv_if_eq (tgt := 228) hx hb dL_law_221 (by decide) (fun h0 => ?_) (fun h0 => ?_)
  · refine lv_iconst (v := 0) hx hb dL_law_228 (by decide) ?_
    obtain ⟨r, SC1, SM1, h4, h5, hR1⟩ := st_next (xs (nI (5 * j) + 1).toNatClampNeg) (xs (nI (5 * j) + 2).toNatClampNeg) 0 (by decide) SC SM hR
    refine l_calli (As := [.int (xs (nI (5 * j) + 1).toNatClampNeg), .int (xs (nI (5 * j) + 2).toNatClampNeg), .int 0]) (rest := []) (cC_fst tc ac) hXc E w.c (c_X4_next l hXc h4) (cwV 3 hts gL_law_X4_next rfl rfl rfl hdL_X4_next ⟨(Nat.le_of_ble_eq_true rfl), (Nat.le_of_ble_eq_true rfl)⟩) (ci := 4) rfl (cC_at_50 tc ac SC) rfl hl.1 rfl (Nat.le_of_ble_eq_true rfl) dL_law_229 ⟨(Nat.le_of_ble_eq_true rfl), (Nat.le_of_ble_eq_true rfl)⟩ (fun H locs w2 => ?_)
    replace w := LW.ofc w.2.2.2.2.1 w2
    refine lv_aload_n hx hb dL_law_232 rfl (lv_at hl 2 rfl) ?_
    refine lv_aload_n hx hb dL_law_233 rfl (lv_at hl 0 rfl) ?_
    refine lv_iload_n hx hb dL_law_234 rfl (lv_at hl 3 rfl) ?_
    refine lv_iconst (v := 1) hx hb dL_law_235 (by decide) ?_
    refine lv_iadd hx hb dL_law_236 ?_
    refine va_sld hx hb hXs hbl hbA w.2.2.2.2.2.1 (lw_in (k := 1) hL hj (by decide)) dL_law_237 ?_
    refine lv_aload_n hx hb dL_law_238 rfl (lv_at hl 0 rfl) ?_
    refine lv_iload_n hx hb dL_law_239 rfl (lv_at hl 3 rfl) ?_
    refine lv_iconst (v := 2) hx hb dL_law_240 (by decide) ?_
    refine lv_iadd hx hb dL_law_241 ?_
    refine va_sld hx hb hXs hbl hbA w.2.2.2.2.2.1 (lw_in (k := 2) hL hj (by decide)) dL_law_242 ?_
    refine lv_aload_n hx hb dL_law_243 rfl (lv_at hl 0 rfl) ?_
    refine lv_iload_n hx hb dL_law_244 rfl (lv_at hl 3 rfl) ?_
    refine lv_iconst (v := 3) hx hb dL_law_245 (by decide) ?_
    refine lv_iadd hx hb dL_law_246 ?_
    refine va_sld hx hb hXs hbl hbA w.2.2.2.2.2.1 (lw_in (k := 3) hL hj (by decide)) dL_law_247 ?_
    refine lv_if_eq (tgt := 255) hx hb dL_law_248 (by decide) (fun _ => ?_) (fun h => absurd h0 h)
    refine lv_iconst (v := 0) hx hb dL_law_255 (by decide) ?_
    refine l_calli (As := [.int (xs (nI (5 * j) + 1).toNatClampNeg), .int (xs (nI (5 * j) + 2).toNatClampNeg), .int 0]) (rest := [.int r]) (cM_fst tm am) hXm E w.m (c_X5_next l hXm h5) (cwV 3 hts gL_law_X5_next rfl rfl rfl hdL_X5_next ⟨(Nat.le_of_ble_eq_true rfl), (Nat.le_of_ble_eq_true rfl)⟩) (ci := 5) rfl (cM_at_0 tm am SM) rfl hl.1 rfl (Nat.le_of_ble_eq_true rfl) dL_law_256 ⟨(Nat.le_of_ble_eq_true rfl), (Nat.le_of_ble_eq_true rfl)⟩ (fun H locs w2 => ?_)
    replace w := LW.ofm w.2.2.2.1 w2
    refine lv_icmp_eq (tgt := 903) hx hb dL_law_259 (by decide) (fun _ => ?_) (fun h => absurd rfl h)
    exact hk w hl hR1
  · refine lv_iconst (v := 1) hx hb dL_law_224 (by decide) ?_
    refine lv_goto (tgt := 229) hx hb dL_law_225 (by decide) ?_
    obtain ⟨r, SC1, SM1, h4, h5, hR1⟩ := st_next (xs (nI (5 * j) + 1).toNatClampNeg) (xs (nI (5 * j) + 2).toNatClampNeg) 1 (by decide) SC SM hR
    refine l_calli (As := [.int (xs (nI (5 * j) + 1).toNatClampNeg), .int (xs (nI (5 * j) + 2).toNatClampNeg), .int 1]) (rest := []) (cC_fst tc ac) hXc E w.c (c_X4_next l hXc h4) (cwV 3 hts gL_law_X4_next rfl rfl rfl hdL_X4_next ⟨(Nat.le_of_ble_eq_true rfl), (Nat.le_of_ble_eq_true rfl)⟩) (ci := 4) rfl (cC_at_50 tc ac SC) rfl hl.1 rfl (Nat.le_of_ble_eq_true rfl) dL_law_229 ⟨(Nat.le_of_ble_eq_true rfl), (Nat.le_of_ble_eq_true rfl)⟩ (fun H locs w2 => ?_)
    replace w := LW.ofc w.2.2.2.2.1 w2
    refine lv_aload_n hx hb dL_law_232 rfl (lv_at hl 2 rfl) ?_
    refine lv_aload_n hx hb dL_law_233 rfl (lv_at hl 0 rfl) ?_
    refine lv_iload_n hx hb dL_law_234 rfl (lv_at hl 3 rfl) ?_
    refine lv_iconst (v := 1) hx hb dL_law_235 (by decide) ?_
    refine lv_iadd hx hb dL_law_236 ?_
    refine va_sld hx hb hXs hbl hbA w.2.2.2.2.2.1 (lw_in (k := 1) hL hj (by decide)) dL_law_237 ?_
    refine lv_aload_n hx hb dL_law_238 rfl (lv_at hl 0 rfl) ?_
    refine lv_iload_n hx hb dL_law_239 rfl (lv_at hl 3 rfl) ?_
    refine lv_iconst (v := 2) hx hb dL_law_240 (by decide) ?_
    refine lv_iadd hx hb dL_law_241 ?_
    refine va_sld hx hb hXs hbl hbA w.2.2.2.2.2.1 (lw_in (k := 2) hL hj (by decide)) dL_law_242 ?_
    refine lv_aload_n hx hb dL_law_243 rfl (lv_at hl 0 rfl) ?_
    refine lv_iload_n hx hb dL_law_244 rfl (lv_at hl 3 rfl) ?_
    refine lv_iconst (v := 3) hx hb dL_law_245 (by decide) ?_
    refine lv_iadd hx hb dL_law_246 ?_
    refine va_sld hx hb hXs hbl hbA w.2.2.2.2.2.1 (lw_in (k := 3) hL hj (by decide)) dL_law_247 ?_
    refine lv_if_eq (tgt := 255) hx hb dL_law_248 (by decide) (fun h => absurd h h0) (fun _ => ?_)
    refine lv_iconst (v := 1) hx hb dL_law_251 (by decide) ?_
    refine lv_goto (tgt := 256) hx hb dL_law_252 (by decide) ?_
    refine l_calli (As := [.int (xs (nI (5 * j) + 1).toNatClampNeg), .int (xs (nI (5 * j) + 2).toNatClampNeg), .int 1]) (rest := [.int r]) (cM_fst tm am) hXm E w.m (c_X5_next l hXm h5) (cwV 3 hts gL_law_X5_next rfl rfl rfl hdL_X5_next ⟨(Nat.le_of_ble_eq_true rfl), (Nat.le_of_ble_eq_true rfl)⟩) (ci := 5) rfl (cM_at_0 tm am SM) rfl hl.1 rfl (Nat.le_of_ble_eq_true rfl) dL_law_256 ⟨(Nat.le_of_ble_eq_true rfl), (Nat.le_of_ble_eq_true rfl)⟩ (fun H locs w2 => ?_)
    replace w := LW.ofm w.2.2.2.1 w2
    refine lv_icmp_eq (tgt := 903) hx hb dL_law_259 (by decide) (fun _ => ?_) (fun h => absurd rfl h)
    exact hk w hl hR1
theorem hdL_X4_free : yX4_free.cls = RX4 ∧ yX4_free.cls ≠ "java/lang/invoke/MethodHandle" ∧ yX4_free.cls ≠ "java/lang/invoke/VarHandle" ∧ (parseMethodDescriptor yX4_free.desc).map (fun d => d.parameters.length) = some 2 := by decide +kernel
theorem hdL_X5_free : yX5_free.cls = RX5 ∧ yX5_free.cls ≠ "java/lang/invoke/MethodHandle" ∧ yX5_free.cls ≠ "java/lang/invoke/VarHandle" ∧ (parseMethodDescriptor yX5_free.desc).map (fun d => d.parameters.length) = some 2 := by decide +kernel
set_option maxHeartbeats 4000000 in
set_option maxRecDepth 100000 in
theorem law_free {p : Program} {l : Launch} {e : Env} {s : State} {m : MethodId} {below : List Frame} {meth : Method} {c : Code} {b L : Nat} {xs : Nat → Int32} {D : va_G} {tc tm : Nat → ClassId} {ac am : Nat → Nat} {X : State → Prop} {kd vd : Nat → Nat} {N : Nat} {Rl : ST → ST → Prop} (hXc : XOk (aW 56 ac) X) (hXm : XOk (aW 17 am) X) (hN : ∀ U : State, X U → xR kd vd ac U) (E : EN p s m #[Value.ref b] meth c cL_law RL wsL_law ret 4) (hXs : va_X b L xs s s.heap) (hbl : b < s.heap.size) (hL : L ≤ 2560) (st_free : ∀ (x0 : Int32) (x1 : Int32), (x1 = 0 ∨ x1 = 1) → StI Rl (fun S => f_X4_free N S x0 x1) (fun S => f_X5_free N S x0 x1)) {SC SM : ST} {H : Heap} {locs : List Loc} {ls : Array Slot} {j : Nat} (hj : 5 * j + 5 ≤ L) (w : LW D tc tm ac am X SC SM s H locs) (hl : lv_has ls 4 [(0, .ref b), (1, .ref (ac 50)), (2, .ref (am 0)), (3, .int (nI (5 * j)))]) (hR : Rl SC SM) (hk : ∀ {SC SM : ST} {H : Heap} {locs : List Loc} {ls : Array Slot}, LW D tc tm ac am X SC SM s H locs → lv_has ls 4 [(0, .ref b), (1, .ref (ac 50)), (2, .ref (am 0)), (3, .int (nI (5 * j)))] → Rl SC SM → W p l e room_1 s m #[Value.ref b] below meth c H locs 73 2420 (lw_Z below #[Value.ref b] s) (F0 m 903 ls [])) : W p l e room_1 s m #[Value.ref b] below meth c H locs 73 2420 (lw_Z below #[Value.ref b] s) (F0 m 264 ls []) := by
  obtain ⟨⟨hx, hb, hml, hown, hts⟩, hr, hlk⟩ := id E
  have hbA : ¬ (fun q : Nat => s.heap.size ≤ q) b := Nat.not_le.mpr hbl
  refine lv_aload_n hx hb dL_law_264 rfl (lv_at hl 1 rfl) ?_
  refine lv_aload_n hx hb dL_law_265 rfl (lv_at hl 0 rfl) ?_
  refine lv_iload_n hx hb dL_law_266 rfl (lv_at hl 3 rfl) ?_
  refine lv_iconst (v := 1) hx hb dL_law_267 (by decide) ?_
  refine lv_iadd hx hb dL_law_268 ?_
  refine va_sld hx hb hXs hbl hbA w.2.2.2.2.2.1 (lw_in (k := 1) hL hj (by decide)) dL_law_269 ?_
  refine lv_aload_n hx hb dL_law_270 rfl (lv_at hl 0 rfl) ?_
  refine lv_iload_n hx hb dL_law_271 rfl (lv_at hl 3 rfl) ?_
  refine lv_iconst (v := 2) hx hb dL_law_272 (by decide) ?_
  refine lv_iadd hx hb dL_law_273 ?_
  refine va_sld hx hb hXs hbl hbA w.2.2.2.2.2.1 (lw_in (k := 2) hL hj (by decide)) dL_law_274 ?_
  refine lv_if_eq (tgt := 282) hx hb dL_law_275 (by decide) (fun h0 => ?_) (fun h0 => ?_)
  · refine lv_iconst (v := 0) hx hb dL_law_282 (by decide) ?_
    obtain ⟨r, SC1, SM1, h4, h5, hR1⟩ := st_free (xs (nI (5 * j) + 1).toNatClampNeg) 0 (by decide) SC SM hR
    refine l_calli (As := [.int (xs (nI (5 * j) + 1).toNatClampNeg), .int 0]) (rest := []) (cC_fst tc ac) hXc E w.c (c_X4_free l hXc h4) (cwV 2 hts gL_law_X4_free rfl rfl rfl hdL_X4_free ⟨(Nat.le_of_ble_eq_true rfl), (Nat.le_of_ble_eq_true rfl)⟩) (ci := 4) rfl (cC_at_50 tc ac SC) rfl hl.1 rfl (Nat.le_of_ble_eq_true rfl) dL_law_283 ⟨(Nat.le_of_ble_eq_true rfl), (Nat.le_of_ble_eq_true rfl)⟩ (fun H locs w2 => ?_)
    replace w := LW.ofc w.2.2.2.2.1 w2
    refine lv_aload_n hx hb dL_law_286 rfl (lv_at hl 2 rfl) ?_
    refine lv_aload_n hx hb dL_law_287 rfl (lv_at hl 0 rfl) ?_
    refine lv_iload_n hx hb dL_law_288 rfl (lv_at hl 3 rfl) ?_
    refine lv_iconst (v := 1) hx hb dL_law_289 (by decide) ?_
    refine lv_iadd hx hb dL_law_290 ?_
    refine va_sld hx hb hXs hbl hbA w.2.2.2.2.2.1 (lw_in (k := 1) hL hj (by decide)) dL_law_291 ?_
    refine lv_aload_n hx hb dL_law_292 rfl (lv_at hl 0 rfl) ?_
    refine lv_iload_n hx hb dL_law_293 rfl (lv_at hl 3 rfl) ?_
    refine lv_iconst (v := 2) hx hb dL_law_294 (by decide) ?_
    refine lv_iadd hx hb dL_law_295 ?_
    refine va_sld hx hb hXs hbl hbA w.2.2.2.2.2.1 (lw_in (k := 2) hL hj (by decide)) dL_law_296 ?_
    refine lv_if_eq (tgt := 304) hx hb dL_law_297 (by decide) (fun _ => ?_) (fun h => absurd h0 h)
    refine lv_iconst (v := 0) hx hb dL_law_304 (by decide) ?_
    refine l_calli (As := [.int (xs (nI (5 * j) + 1).toNatClampNeg), .int 0]) (rest := [.int r]) (cM_fst tm am) hXm E w.m (c_X5_free l hXm h5) (cwV 2 hts gL_law_X5_free rfl rfl rfl hdL_X5_free ⟨(Nat.le_of_ble_eq_true rfl), (Nat.le_of_ble_eq_true rfl)⟩) (ci := 5) rfl (cM_at_0 tm am SM) rfl hl.1 rfl (Nat.le_of_ble_eq_true rfl) dL_law_305 ⟨(Nat.le_of_ble_eq_true rfl), (Nat.le_of_ble_eq_true rfl)⟩ (fun H locs w2 => ?_)
    replace w := LW.ofm w.2.2.2.1 w2
    refine lv_icmp_eq (tgt := 903) hx hb dL_law_308 (by decide) (fun _ => ?_) (fun h => absurd rfl h)
    exact hk w hl hR1
  · refine lv_iconst (v := 1) hx hb dL_law_278 (by decide) ?_
    refine lv_goto (tgt := 283) hx hb dL_law_279 (by decide) ?_
    obtain ⟨r, SC1, SM1, h4, h5, hR1⟩ := st_free (xs (nI (5 * j) + 1).toNatClampNeg) 1 (by decide) SC SM hR
    refine l_calli (As := [.int (xs (nI (5 * j) + 1).toNatClampNeg), .int 1]) (rest := []) (cC_fst tc ac) hXc E w.c (c_X4_free l hXc h4) (cwV 2 hts gL_law_X4_free rfl rfl rfl hdL_X4_free ⟨(Nat.le_of_ble_eq_true rfl), (Nat.le_of_ble_eq_true rfl)⟩) (ci := 4) rfl (cC_at_50 tc ac SC) rfl hl.1 rfl (Nat.le_of_ble_eq_true rfl) dL_law_283 ⟨(Nat.le_of_ble_eq_true rfl), (Nat.le_of_ble_eq_true rfl)⟩ (fun H locs w2 => ?_)
    replace w := LW.ofc w.2.2.2.2.1 w2
    refine lv_aload_n hx hb dL_law_286 rfl (lv_at hl 2 rfl) ?_
    refine lv_aload_n hx hb dL_law_287 rfl (lv_at hl 0 rfl) ?_
    refine lv_iload_n hx hb dL_law_288 rfl (lv_at hl 3 rfl) ?_
    refine lv_iconst (v := 1) hx hb dL_law_289 (by decide) ?_
    refine lv_iadd hx hb dL_law_290 ?_
    refine va_sld hx hb hXs hbl hbA w.2.2.2.2.2.1 (lw_in (k := 1) hL hj (by decide)) dL_law_291 ?_
    refine lv_aload_n hx hb dL_law_292 rfl (lv_at hl 0 rfl) ?_
    refine lv_iload_n hx hb dL_law_293 rfl (lv_at hl 3 rfl) ?_
    refine lv_iconst (v := 2) hx hb dL_law_294 (by decide) ?_
    refine lv_iadd hx hb dL_law_295 ?_
    refine va_sld hx hb hXs hbl hbA w.2.2.2.2.2.1 (lw_in (k := 2) hL hj (by decide)) dL_law_296 ?_
    refine lv_if_eq (tgt := 304) hx hb dL_law_297 (by decide) (fun h => absurd h h0) (fun _ => ?_)
    refine lv_iconst (v := 1) hx hb dL_law_300 (by decide) ?_
    refine lv_goto (tgt := 305) hx hb dL_law_301 (by decide) ?_
    refine l_calli (As := [.int (xs (nI (5 * j) + 1).toNatClampNeg), .int 1]) (rest := [.int r]) (cM_fst tm am) hXm E w.m (c_X5_free l hXm h5) (cwV 2 hts gL_law_X5_free rfl rfl rfl hdL_X5_free ⟨(Nat.le_of_ble_eq_true rfl), (Nat.le_of_ble_eq_true rfl)⟩) (ci := 5) rfl (cM_at_0 tm am SM) rfl hl.1 rfl (Nat.le_of_ble_eq_true rfl) dL_law_305 ⟨(Nat.le_of_ble_eq_true rfl), (Nat.le_of_ble_eq_true rfl)⟩ (fun H locs w2 => ?_)
    replace w := LW.ofm w.2.2.2.1 w2
    refine lv_icmp_eq (tgt := 903) hx hb dL_law_308 (by decide) (fun _ => ?_) (fun h => absurd rfl h)
    exact hk w hl hR1
theorem hdL_X4_put : yX4_put.cls = RX4 ∧ yX4_put.cls ≠ "java/lang/invoke/MethodHandle" ∧ yX4_put.cls ≠ "java/lang/invoke/VarHandle" ∧ (parseMethodDescriptor yX4_put.desc).map (fun d => d.parameters.length) = some 2 := by decide +kernel
theorem hdL_X5_put : yX5_put.cls = RX5 ∧ yX5_put.cls ≠ "java/lang/invoke/MethodHandle" ∧ yX5_put.cls ≠ "java/lang/invoke/VarHandle" ∧ (parseMethodDescriptor yX5_put.desc).map (fun d => d.parameters.length) = some 2 := by decide +kernel
set_option maxHeartbeats 4000000 in
set_option maxRecDepth 100000 in
theorem law_put {p : Program} {l : Launch} {e : Env} {s : State} {m : MethodId} {below : List Frame} {meth : Method} {c : Code} {b L : Nat} {xs : Nat → Int32} {D : va_G} {tc tm : Nat → ClassId} {ac am : Nat → Nat} {X : State → Prop} {kd vd : Nat → Nat} {N : Nat} {Rl : ST → ST → Prop} (hXc : XOk (aW 56 ac) X) (hXm : XOk (aW 17 am) X) (hN : ∀ U : State, X U → xR kd vd ac U) (E : EN p s m #[Value.ref b] meth c cL_law RL wsL_law ret 4) (hXs : va_X b L xs s s.heap) (hbl : b < s.heap.size) (hL : L ≤ 2560) (st_put : ∀ (x0 : Int32) (x1 : Int32), StI Rl (fun S => f_X4_put N S x0 x1) (fun S => f_X5_put N S x0 x1)) {SC SM : ST} {H : Heap} {locs : List Loc} {ls : Array Slot} {j : Nat} (hj : 5 * j + 5 ≤ L) (w : LW D tc tm ac am X SC SM s H locs) (hl : lv_has ls 4 [(0, .ref b), (1, .ref (ac 50)), (2, .ref (am 0)), (3, .int (nI (5 * j)))]) (hR : Rl SC SM) (hk : ∀ {SC SM : ST} {H : Heap} {locs : List Loc} {ls : Array Slot}, LW D tc tm ac am X SC SM s H locs → lv_has ls 4 [(0, .ref b), (1, .ref (ac 50)), (2, .ref (am 0)), (3, .int (nI (5 * j)))] → Rl SC SM → W p l e room_1 s m #[Value.ref b] below meth c H locs 73 2420 (lw_Z below #[Value.ref b] s) (F0 m 903 ls [])) : W p l e room_1 s m #[Value.ref b] below meth c H locs 73 2420 (lw_Z below #[Value.ref b] s) (F0 m 313 ls []) := by
  obtain ⟨⟨hx, hb, hml, hown, hts⟩, hr, hlk⟩ := id E
  have hbA : ¬ (fun q : Nat => s.heap.size ≤ q) b := Nat.not_le.mpr hbl
  refine lv_aload_n hx hb dL_law_313 rfl (lv_at hl 1 rfl) ?_
  refine lv_aload_n hx hb dL_law_314 rfl (lv_at hl 0 rfl) ?_
  refine lv_iload_n hx hb dL_law_315 rfl (lv_at hl 3 rfl) ?_
  refine lv_iconst (v := 1) hx hb dL_law_316 (by decide) ?_
  refine lv_iadd hx hb dL_law_317 ?_
  refine va_sld hx hb hXs hbl hbA w.2.2.2.2.2.1 (lw_in (k := 1) hL hj (by decide)) dL_law_318 ?_
  refine lv_aload_n hx hb dL_law_319 rfl (lv_at hl 0 rfl) ?_
  refine lv_iload_n hx hb dL_law_320 rfl (lv_at hl 3 rfl) ?_
  refine lv_iconst (v := 2) hx hb dL_law_321 (by decide) ?_
  refine lv_iadd hx hb dL_law_322 ?_
  refine va_sld hx hb hXs hbl hbA w.2.2.2.2.2.1 (lw_in (k := 2) hL hj (by decide)) dL_law_323 ?_
  obtain ⟨r, SC1, SM1, h4, h5, hR1⟩ := st_put (xs (nI (5 * j) + 1).toNatClampNeg) (xs (nI (5 * j) + 2).toNatClampNeg) SC SM hR
  refine l_calli (As := [.int (xs (nI (5 * j) + 1).toNatClampNeg), .int (xs (nI (5 * j) + 2).toNatClampNeg)]) (rest := []) (cC_fst tc ac) hXc E w.c (c_X4_put l hXc h4) (cwV 2 hts gL_law_X4_put rfl rfl rfl hdL_X4_put ⟨(Nat.le_of_ble_eq_true rfl), (Nat.le_of_ble_eq_true rfl)⟩) (ci := 4) rfl (cC_at_50 tc ac SC) rfl hl.1 rfl (Nat.le_of_ble_eq_true rfl) dL_law_324 ⟨(Nat.le_of_ble_eq_true rfl), (Nat.le_of_ble_eq_true rfl)⟩ (fun H locs w2 => ?_)
  replace w := LW.ofc w.2.2.2.2.1 w2
  refine lv_aload_n hx hb dL_law_327 rfl (lv_at hl 2 rfl) ?_
  refine lv_aload_n hx hb dL_law_328 rfl (lv_at hl 0 rfl) ?_
  refine lv_iload_n hx hb dL_law_329 rfl (lv_at hl 3 rfl) ?_
  refine lv_iconst (v := 1) hx hb dL_law_330 (by decide) ?_
  refine lv_iadd hx hb dL_law_331 ?_
  refine va_sld hx hb hXs hbl hbA w.2.2.2.2.2.1 (lw_in (k := 1) hL hj (by decide)) dL_law_332 ?_
  refine lv_aload_n hx hb dL_law_333 rfl (lv_at hl 0 rfl) ?_
  refine lv_iload_n hx hb dL_law_334 rfl (lv_at hl 3 rfl) ?_
  refine lv_iconst (v := 2) hx hb dL_law_335 (by decide) ?_
  refine lv_iadd hx hb dL_law_336 ?_
  refine va_sld hx hb hXs hbl hbA w.2.2.2.2.2.1 (lw_in (k := 2) hL hj (by decide)) dL_law_337 ?_
  refine l_calli (As := [.int (xs (nI (5 * j) + 1).toNatClampNeg), .int (xs (nI (5 * j) + 2).toNatClampNeg)]) (rest := [.int r]) (cM_fst tm am) hXm E w.m (c_X5_put l hXm h5) (cwV 2 hts gL_law_X5_put rfl rfl rfl hdL_X5_put ⟨(Nat.le_of_ble_eq_true rfl), (Nat.le_of_ble_eq_true rfl)⟩) (ci := 5) rfl (cM_at_0 tm am SM) rfl hl.1 rfl (Nat.le_of_ble_eq_true rfl) dL_law_338 ⟨(Nat.le_of_ble_eq_true rfl), (Nat.le_of_ble_eq_true rfl)⟩ (fun H locs w2 => ?_)
  replace w := LW.ofm w.2.2.2.1 w2
  refine lv_icmp_eq (tgt := 903) hx hb dL_law_341 (by decide) (fun _ => ?_) (fun h => absurd rfl h)
  exact hk w hl hR1
theorem hdL_X4_price : yX4_price.cls = RX4 ∧ yX4_price.cls ≠ "java/lang/invoke/MethodHandle" ∧ yX4_price.cls ≠ "java/lang/invoke/VarHandle" ∧ (parseMethodDescriptor yX4_price.desc).map (fun d => d.parameters.length) = some 2 := by decide +kernel
theorem hdL_X5_price : yX5_price.cls = RX5 ∧ yX5_price.cls ≠ "java/lang/invoke/MethodHandle" ∧ yX5_price.cls ≠ "java/lang/invoke/VarHandle" ∧ (parseMethodDescriptor yX5_price.desc).map (fun d => d.parameters.length) = some 2 := by decide +kernel
set_option maxHeartbeats 4000000 in
set_option maxRecDepth 100000 in
theorem law_price {p : Program} {l : Launch} {e : Env} {s : State} {m : MethodId} {below : List Frame} {meth : Method} {c : Code} {b L : Nat} {xs : Nat → Int32} {D : va_G} {tc tm : Nat → ClassId} {ac am : Nat → Nat} {X : State → Prop} {kd vd : Nat → Nat} {N : Nat} {Rl : ST → ST → Prop} (hXc : XOk (aW 56 ac) X) (hXm : XOk (aW 17 am) X) (hN : ∀ U : State, X U → xR kd vd ac U) (E : EN p s m #[Value.ref b] meth c cL_law RL wsL_law ret 4) (hXs : va_X b L xs s s.heap) (hbl : b < s.heap.size) (hL : L ≤ 2560) (st_price : ∀ (x0 : Int32) (x1 : Int32), StI Rl (fun S => f_X4_price N S x0 x1) (fun S => f_X5_price N S x0 x1)) {SC SM : ST} {H : Heap} {locs : List Loc} {ls : Array Slot} {j : Nat} (hj : 5 * j + 5 ≤ L) (w : LW D tc tm ac am X SC SM s H locs) (hl : lv_has ls 4 [(0, .ref b), (1, .ref (ac 50)), (2, .ref (am 0)), (3, .int (nI (5 * j)))]) (hR : Rl SC SM) (hk : ∀ {SC SM : ST} {H : Heap} {locs : List Loc} {ls : Array Slot}, LW D tc tm ac am X SC SM s H locs → lv_has ls 4 [(0, .ref b), (1, .ref (ac 50)), (2, .ref (am 0)), (3, .int (nI (5 * j)))] → Rl SC SM → W p l e room_1 s m #[Value.ref b] below meth c H locs 73 2420 (lw_Z below #[Value.ref b] s) (F0 m 903 ls [])) : W p l e room_1 s m #[Value.ref b] below meth c H locs 73 2420 (lw_Z below #[Value.ref b] s) (F0 m 346 ls []) := by
  obtain ⟨⟨hx, hb, hml, hown, hts⟩, hr, hlk⟩ := id E
  have hbA : ¬ (fun q : Nat => s.heap.size ≤ q) b := Nat.not_le.mpr hbl
  refine lv_aload_n hx hb dL_law_346 rfl (lv_at hl 1 rfl) ?_
  refine lv_aload_n hx hb dL_law_347 rfl (lv_at hl 0 rfl) ?_
  refine lv_iload_n hx hb dL_law_348 rfl (lv_at hl 3 rfl) ?_
  refine lv_iconst (v := 1) hx hb dL_law_349 (by decide) ?_
  refine lv_iadd hx hb dL_law_350 ?_
  refine va_sld hx hb hXs hbl hbA w.2.2.2.2.2.1 (lw_in (k := 1) hL hj (by decide)) dL_law_351 ?_
  refine lv_aload_n hx hb dL_law_352 rfl (lv_at hl 0 rfl) ?_
  refine lv_iload_n hx hb dL_law_353 rfl (lv_at hl 3 rfl) ?_
  refine lv_iconst (v := 2) hx hb dL_law_354 (by decide) ?_
  refine lv_iadd hx hb dL_law_355 ?_
  refine va_sld hx hb hXs hbl hbA w.2.2.2.2.2.1 (lw_in (k := 2) hL hj (by decide)) dL_law_356 ?_
  obtain ⟨r, SC1, SM1, h4, h5, hR1⟩ := st_price (xs (nI (5 * j) + 1).toNatClampNeg) (xs (nI (5 * j) + 2).toNatClampNeg) SC SM hR
  refine l_calli (As := [.int (xs (nI (5 * j) + 1).toNatClampNeg), .int (xs (nI (5 * j) + 2).toNatClampNeg)]) (rest := []) (cC_fst tc ac) hXc E w.c (c_X4_price l hXc h4) (cwV 2 hts gL_law_X4_price rfl rfl rfl hdL_X4_price ⟨(Nat.le_of_ble_eq_true rfl), (Nat.le_of_ble_eq_true rfl)⟩) (ci := 4) rfl (cC_at_50 tc ac SC) rfl hl.1 rfl (Nat.le_of_ble_eq_true rfl) dL_law_357 ⟨(Nat.le_of_ble_eq_true rfl), (Nat.le_of_ble_eq_true rfl)⟩ (fun H locs w2 => ?_)
  replace w := LW.ofc w.2.2.2.2.1 w2
  refine lv_aload_n hx hb dL_law_360 rfl (lv_at hl 2 rfl) ?_
  refine lv_aload_n hx hb dL_law_361 rfl (lv_at hl 0 rfl) ?_
  refine lv_iload_n hx hb dL_law_362 rfl (lv_at hl 3 rfl) ?_
  refine lv_iconst (v := 1) hx hb dL_law_363 (by decide) ?_
  refine lv_iadd hx hb dL_law_364 ?_
  refine va_sld hx hb hXs hbl hbA w.2.2.2.2.2.1 (lw_in (k := 1) hL hj (by decide)) dL_law_365 ?_
  refine lv_aload_n hx hb dL_law_366 rfl (lv_at hl 0 rfl) ?_
  refine lv_iload_n hx hb dL_law_367 rfl (lv_at hl 3 rfl) ?_
  refine lv_iconst (v := 2) hx hb dL_law_368 (by decide) ?_
  refine lv_iadd hx hb dL_law_369 ?_
  refine va_sld hx hb hXs hbl hbA w.2.2.2.2.2.1 (lw_in (k := 2) hL hj (by decide)) dL_law_370 ?_
  refine l_calli (As := [.int (xs (nI (5 * j) + 1).toNatClampNeg), .int (xs (nI (5 * j) + 2).toNatClampNeg)]) (rest := [.int r]) (cM_fst tm am) hXm E w.m (c_X5_price l hXm h5) (cwV 2 hts gL_law_X5_price rfl rfl rfl hdL_X5_price ⟨(Nat.le_of_ble_eq_true rfl), (Nat.le_of_ble_eq_true rfl)⟩) (ci := 5) rfl (cM_at_0 tm am SM) rfl hl.1 rfl (Nat.le_of_ble_eq_true rfl) dL_law_371 ⟨(Nat.le_of_ble_eq_true rfl), (Nat.le_of_ble_eq_true rfl)⟩ (fun H locs w2 => ?_)
  replace w := LW.ofm w.2.2.2.1 w2
  refine lv_icmp_eq (tgt := 903) hx hb dL_law_374 (by decide) (fun _ => ?_) (fun h => absurd rfl h)
  exact hk w hl hR1
theorem hdL_X4_type : yX4_type.cls = RX4 ∧ yX4_type.cls ≠ "java/lang/invoke/MethodHandle" ∧ yX4_type.cls ≠ "java/lang/invoke/VarHandle" ∧ (parseMethodDescriptor yX4_type.desc).map (fun d => d.parameters.length) = some 2 := by decide +kernel
theorem hdL_X5_type : yX5_type.cls = RX5 ∧ yX5_type.cls ≠ "java/lang/invoke/MethodHandle" ∧ yX5_type.cls ≠ "java/lang/invoke/VarHandle" ∧ (parseMethodDescriptor yX5_type.desc).map (fun d => d.parameters.length) = some 2 := by decide +kernel
set_option maxHeartbeats 4000000 in
set_option maxRecDepth 100000 in
theorem law_type {p : Program} {l : Launch} {e : Env} {s : State} {m : MethodId} {below : List Frame} {meth : Method} {c : Code} {b L : Nat} {xs : Nat → Int32} {D : va_G} {tc tm : Nat → ClassId} {ac am : Nat → Nat} {X : State → Prop} {kd vd : Nat → Nat} {N : Nat} {Rl : ST → ST → Prop} (hXc : XOk (aW 56 ac) X) (hXm : XOk (aW 17 am) X) (hN : ∀ U : State, X U → xR kd vd ac U) (E : EN p s m #[Value.ref b] meth c cL_law RL wsL_law ret 4) (hXs : va_X b L xs s s.heap) (hbl : b < s.heap.size) (hL : L ≤ 2560) (st_type : ∀ (x0 : Int64) (x1 : Int32), StI Rl (fun S => f_X4_type N S x0 x1) (fun S => f_X5_type N S x0 x1)) {SC SM : ST} {H : Heap} {locs : List Loc} {ls : Array Slot} {j : Nat} (hj : 5 * j + 5 ≤ L) (w : LW D tc tm ac am X SC SM s H locs) (hl : lv_has ls 4 [(0, .ref b), (1, .ref (ac 50)), (2, .ref (am 0)), (3, .int (nI (5 * j)))]) (hR : Rl SC SM) (hk : ∀ {SC SM : ST} {H : Heap} {locs : List Loc} {ls : Array Slot}, LW D tc tm ac am X SC SM s H locs → lv_has ls 4 [(0, .ref b), (1, .ref (ac 50)), (2, .ref (am 0)), (3, .int (nI (5 * j)))] → Rl SC SM → W p l e room_1 s m #[Value.ref b] below meth c H locs 73 2420 (lw_Z below #[Value.ref b] s) (F0 m 903 ls [])) : W p l e room_1 s m #[Value.ref b] below meth c H locs 73 2420 (lw_Z below #[Value.ref b] s) (F0 m 379 ls []) := by
  obtain ⟨⟨hx, hb, hml, hown, hts⟩, hr, hlk⟩ := id E
  have hbA : ¬ (fun q : Nat => s.heap.size ≤ q) b := Nat.not_le.mpr hbl
  refine lv_aload_n hx hb dL_law_379 rfl (lv_at hl 1 rfl) ?_
  refine lv_aload_n hx hb dL_law_380 rfl (lv_at hl 0 rfl) ?_
  refine lv_iload_n hx hb dL_law_381 rfl (lv_at hl 3 rfl) ?_
  refine lv_iconst (v := 1) hx hb dL_law_382 (by decide) ?_
  refine lv_iadd hx hb dL_law_383 ?_
  refine va_sld hx hb hXs hbl hbA w.2.2.2.2.2.1 (lw_in (k := 1) hL hj (by decide)) dL_law_384 ?_
  refine lv_i2l hx hb dL_law_385 rfl ?_
  refine lv_bipush (v := 32) hx hb dL_law_386 (by decide) ?_
  refine lv_lshl hx hb dL_law_388 rfl ?_
  refine lv_aload_n hx hb dL_law_389 rfl (lv_at hl 0 rfl) ?_
  refine lv_iload_n hx hb dL_law_390 rfl (lv_at hl 3 rfl) ?_
  refine lv_iconst (v := 2) hx hb dL_law_391 (by decide) ?_
  refine lv_iadd hx hb dL_law_392 ?_
  refine va_sld hx hb hXs hbl hbA w.2.2.2.2.2.1 (lw_in (k := 2) hL hj (by decide)) dL_law_393 ?_
  refine lv_i2l hx hb dL_law_394 rfl ?_
  refine lv_ldc2 hx hb hown (hts _ ctL_37) dL_law_395 ?_
  refine lv_land hx hb dL_law_398 ?_
  refine lv_lor hx hb dL_law_399 ?_
  refine lv_aload_n hx hb dL_law_400 rfl (lv_at hl 0 rfl) ?_
  refine lv_iload_n hx hb dL_law_401 rfl (lv_at hl 3 rfl) ?_
  refine lv_iconst (v := 3) hx hb dL_law_402 (by decide) ?_
  refine lv_iadd hx hb dL_law_403 ?_
  refine va_sld hx hb hXs hbl hbA w.2.2.2.2.2.1 (lw_in (k := 3) hL hj (by decide)) dL_law_404 ?_
  obtain ⟨r, SC1, SM1, h4, h5, hR1⟩ := st_type ((((xs (nI (5 * j) + 1).toNatClampNeg) : Int32).toInt64 <<< (((32 : Int32)).toInt64 &&& 63)) ||| (((xs (nI (5 * j) + 2).toNatClampNeg) : Int32).toInt64 &&& 4294967295)) (xs (nI (5 * j) + 3).toNatClampNeg) SC SM hR
  refine l_calli (As := [.long ((((xs (nI (5 * j) + 1).toNatClampNeg) : Int32).toInt64 <<< (((32 : Int32)).toInt64 &&& 63)) ||| (((xs (nI (5 * j) + 2).toNatClampNeg) : Int32).toInt64 &&& 4294967295)), .int (xs (nI (5 * j) + 3).toNatClampNeg)]) (rest := []) (cC_fst tc ac) hXc E w.c (c_X4_type l hXc h4) (cwV 2 hts gL_law_X4_type rfl rfl rfl hdL_X4_type ⟨(Nat.le_of_ble_eq_true rfl), (Nat.le_of_ble_eq_true rfl)⟩) (ci := 4) rfl (cC_at_50 tc ac SC) rfl hl.1 rfl (Nat.le_of_ble_eq_true rfl) dL_law_405 ⟨(Nat.le_of_ble_eq_true rfl), (Nat.le_of_ble_eq_true rfl)⟩ (fun H locs w2 => ?_)
  replace w := LW.ofc w.2.2.2.2.1 w2
  refine lv_aload_n hx hb dL_law_408 rfl (lv_at hl 2 rfl) ?_
  refine lv_aload_n hx hb dL_law_409 rfl (lv_at hl 0 rfl) ?_
  refine lv_iload_n hx hb dL_law_410 rfl (lv_at hl 3 rfl) ?_
  refine lv_iconst (v := 1) hx hb dL_law_411 (by decide) ?_
  refine lv_iadd hx hb dL_law_412 ?_
  refine va_sld hx hb hXs hbl hbA w.2.2.2.2.2.1 (lw_in (k := 1) hL hj (by decide)) dL_law_413 ?_
  refine lv_i2l hx hb dL_law_414 rfl ?_
  refine lv_bipush (v := 32) hx hb dL_law_415 (by decide) ?_
  refine lv_lshl hx hb dL_law_417 rfl ?_
  refine lv_aload_n hx hb dL_law_418 rfl (lv_at hl 0 rfl) ?_
  refine lv_iload_n hx hb dL_law_419 rfl (lv_at hl 3 rfl) ?_
  refine lv_iconst (v := 2) hx hb dL_law_420 (by decide) ?_
  refine lv_iadd hx hb dL_law_421 ?_
  refine va_sld hx hb hXs hbl hbA w.2.2.2.2.2.1 (lw_in (k := 2) hL hj (by decide)) dL_law_422 ?_
  refine lv_i2l hx hb dL_law_423 rfl ?_
  refine lv_ldc2 hx hb hown (hts _ ctL_37) dL_law_424 ?_
  refine lv_land hx hb dL_law_427 ?_
  refine lv_lor hx hb dL_law_428 ?_
  refine lv_aload_n hx hb dL_law_429 rfl (lv_at hl 0 rfl) ?_
  refine lv_iload_n hx hb dL_law_430 rfl (lv_at hl 3 rfl) ?_
  refine lv_iconst (v := 3) hx hb dL_law_431 (by decide) ?_
  refine lv_iadd hx hb dL_law_432 ?_
  refine va_sld hx hb hXs hbl hbA w.2.2.2.2.2.1 (lw_in (k := 3) hL hj (by decide)) dL_law_433 ?_
  refine l_calli (As := [.long ((((xs (nI (5 * j) + 1).toNatClampNeg) : Int32).toInt64 <<< (((32 : Int32)).toInt64 &&& 63)) ||| (((xs (nI (5 * j) + 2).toNatClampNeg) : Int32).toInt64 &&& 4294967295)), .int (xs (nI (5 * j) + 3).toNatClampNeg)]) (rest := [.int r]) (cM_fst tm am) hXm E w.m (c_X5_type l hXm h5) (cwV 2 hts gL_law_X5_type rfl rfl rfl hdL_X5_type ⟨(Nat.le_of_ble_eq_true rfl), (Nat.le_of_ble_eq_true rfl)⟩) (ci := 5) rfl (cM_at_0 tm am SM) rfl hl.1 rfl (Nat.le_of_ble_eq_true rfl) dL_law_434 ⟨(Nat.le_of_ble_eq_true rfl), (Nat.le_of_ble_eq_true rfl)⟩ (fun H locs w2 => ?_)
  replace w := LW.ofm w.2.2.2.1 w2
  refine lv_icmp_eq (tgt := 903) hx hb dL_law_437 (by decide) (fun _ => ?_) (fun h => absurd rfl h)
  exact hk w hl hR1
theorem hdL_X4_clear : yX4_clear.cls = RX4 ∧ yX4_clear.cls ≠ "java/lang/invoke/MethodHandle" ∧ yX4_clear.cls ≠ "java/lang/invoke/VarHandle" ∧ (parseMethodDescriptor yX4_clear.desc).map (fun d => d.parameters.length) = some 0 := by decide +kernel
theorem hdL_X5_clear : yX5_clear.cls = RX5 ∧ yX5_clear.cls ≠ "java/lang/invoke/MethodHandle" ∧ yX5_clear.cls ≠ "java/lang/invoke/VarHandle" ∧ (parseMethodDescriptor yX5_clear.desc).map (fun d => d.parameters.length) = some 0 := by decide +kernel
set_option maxHeartbeats 4000000 in
set_option maxRecDepth 100000 in
theorem law_clear {p : Program} {l : Launch} {e : Env} {s : State} {m : MethodId} {below : List Frame} {meth : Method} {c : Code} {b L : Nat} {xs : Nat → Int32} {D : va_G} {tc tm : Nat → ClassId} {ac am : Nat → Nat} {X : State → Prop} {kd vd : Nat → Nat} {N : Nat} {Rl : ST → ST → Prop} (hXc : XOk (aW 56 ac) X) (hXm : XOk (aW 17 am) X) (hN : ∀ U : State, X U → xR kd vd ac U) (E : EN p s m #[Value.ref b] meth c cL_law RL wsL_law ret 4) (hXs : va_X b L xs s s.heap) (hbl : b < s.heap.size) (hL : L ≤ 2560) (st_clear :  StI Rl (fun S => f_X4_clear N S) (fun S => f_X5_clear N S)) {SC SM : ST} {H : Heap} {locs : List Loc} {ls : Array Slot} {j : Nat} (hj : 5 * j + 5 ≤ L) (w : LW D tc tm ac am X SC SM s H locs) (hl : lv_has ls 4 [(0, .ref b), (1, .ref (ac 50)), (2, .ref (am 0)), (3, .int (nI (5 * j)))]) (hR : Rl SC SM) (hk : ∀ {SC SM : ST} {H : Heap} {locs : List Loc} {ls : Array Slot}, LW D tc tm ac am X SC SM s H locs → lv_has ls 4 [(0, .ref b), (1, .ref (ac 50)), (2, .ref (am 0)), (3, .int (nI (5 * j)))] → Rl SC SM → W p l e room_1 s m #[Value.ref b] below meth c H locs 73 2420 (lw_Z below #[Value.ref b] s) (F0 m 903 ls [])) : W p l e room_1 s m #[Value.ref b] below meth c H locs 73 2420 (lw_Z below #[Value.ref b] s) (F0 m 442 ls []) := by
  obtain ⟨⟨hx, hb, hml, hown, hts⟩, hr, hlk⟩ := id E
  have hbA : ¬ (fun q : Nat => s.heap.size ≤ q) b := Nat.not_le.mpr hbl
  refine lv_aload_n hx hb dL_law_442 rfl (lv_at hl 1 rfl) ?_
  obtain ⟨r, SC1, SM1, h4, h5, hR1⟩ := st_clear  SC SM hR
  refine l_calli (As := []) (rest := []) (cC_fst tc ac) hXc E w.c (c_X4_clear l hXc h4) (cwV 0 hts gL_law_X4_clear rfl rfl rfl hdL_X4_clear ⟨(Nat.le_of_ble_eq_true rfl), (Nat.le_of_ble_eq_true rfl)⟩) (ci := 4) rfl (cC_at_50 tc ac SC) rfl hl.1 rfl (Nat.le_of_ble_eq_true rfl) dL_law_443 ⟨(Nat.le_of_ble_eq_true rfl), (Nat.le_of_ble_eq_true rfl)⟩ (fun H locs w2 => ?_)
  replace w := LW.ofc w.2.2.2.2.1 w2
  refine lv_aload_n hx hb dL_law_446 rfl (lv_at hl 2 rfl) ?_
  refine l_calli (As := []) (rest := [.int r]) (cM_fst tm am) hXm E w.m (c_X5_clear l hXm h5) (cwV 0 hts gL_law_X5_clear rfl rfl rfl hdL_X5_clear ⟨(Nat.le_of_ble_eq_true rfl), (Nat.le_of_ble_eq_true rfl)⟩) (ci := 5) rfl (cM_at_0 tm am SM) rfl hl.1 rfl (Nat.le_of_ble_eq_true rfl) dL_law_447 ⟨(Nat.le_of_ble_eq_true rfl), (Nat.le_of_ble_eq_true rfl)⟩ (fun H locs w2 => ?_)
  replace w := LW.ofm w.2.2.2.1 w2
  refine lv_icmp_eq (tgt := 903) hx hb dL_law_450 (by decide) (fun _ => ?_) (fun h => absurd rfl h)
  exact hk w hl hR1
theorem hdL_X4_read : yX4_read.cls = RX4 ∧ yX4_read.cls ≠ "java/lang/invoke/MethodHandle" ∧ yX4_read.cls ≠ "java/lang/invoke/VarHandle" ∧ (parseMethodDescriptor yX4_read.desc).map (fun d => d.parameters.length) = some 0 := by decide +kernel
theorem hdL_X5_read : yX5_read.cls = RX5 ∧ yX5_read.cls ≠ "java/lang/invoke/MethodHandle" ∧ yX5_read.cls ≠ "java/lang/invoke/VarHandle" ∧ (parseMethodDescriptor yX5_read.desc).map (fun d => d.parameters.length) = some 0 := by decide +kernel
set_option maxHeartbeats 4000000 in
set_option maxRecDepth 100000 in
theorem law_read {p : Program} {l : Launch} {e : Env} {s : State} {m : MethodId} {below : List Frame} {meth : Method} {c : Code} {b L : Nat} {xs : Nat → Int32} {D : va_G} {tc tm : Nat → ClassId} {ac am : Nat → Nat} {X : State → Prop} {kd vd : Nat → Nat} {N : Nat} {Rl : ST → ST → Prop} (hXc : XOk (aW 56 ac) X) (hXm : XOk (aW 17 am) X) (hN : ∀ U : State, X U → xR kd vd ac U) (E : EN p s m #[Value.ref b] meth c cL_law RL wsL_law ret 4) (hXs : va_X b L xs s s.heap) (hbl : b < s.heap.size) (hL : L ≤ 2560) (st_read :  StI Rl (fun S => f_X4_read N S) (fun S => f_X5_read N S)) {SC SM : ST} {H : Heap} {locs : List Loc} {ls : Array Slot} {j : Nat} (hj : 5 * j + 5 ≤ L) (w : LW D tc tm ac am X SC SM s H locs) (hl : lv_has ls 4 [(0, .ref b), (1, .ref (ac 50)), (2, .ref (am 0)), (3, .int (nI (5 * j)))]) (hR : Rl SC SM) (hk : ∀ {SC SM : ST} {H : Heap} {locs : List Loc} {ls : Array Slot}, LW D tc tm ac am X SC SM s H locs → lv_has ls 4 [(0, .ref b), (1, .ref (ac 50)), (2, .ref (am 0)), (3, .int (nI (5 * j)))] → Rl SC SM → W p l e room_1 s m #[Value.ref b] below meth c H locs 73 2420 (lw_Z below #[Value.ref b] s) (F0 m 903 ls [])) : W p l e room_1 s m #[Value.ref b] below meth c H locs 73 2420 (lw_Z below #[Value.ref b] s) (F0 m 455 ls []) := by
  obtain ⟨⟨hx, hb, hml, hown, hts⟩, hr, hlk⟩ := id E
  have hbA : ¬ (fun q : Nat => s.heap.size ≤ q) b := Nat.not_le.mpr hbl
  refine lv_aload_n hx hb dL_law_455 rfl (lv_at hl 1 rfl) ?_
  obtain ⟨r, SC1, SM1, h4, h5, hR1⟩ := st_read  SC SM hR
  refine l_calli (As := []) (rest := []) (cC_fst tc ac) hXc E w.c (c_X4_read l hXc hN h4) (cwV 0 hts gL_law_X4_read rfl rfl rfl hdL_X4_read ⟨(Nat.le_of_ble_eq_true rfl), (Nat.le_of_ble_eq_true rfl)⟩) (ci := 4) rfl (cC_at_50 tc ac SC) rfl hl.1 rfl (Nat.le_of_ble_eq_true rfl) dL_law_456 ⟨(Nat.le_of_ble_eq_true rfl), (Nat.le_of_ble_eq_true rfl)⟩ (fun H locs w2 => ?_)
  replace w := LW.ofc w.2.2.2.2.1 w2
  refine lv_aload_n hx hb dL_law_459 rfl (lv_at hl 2 rfl) ?_
  refine l_calli (As := []) (rest := [.int r]) (cM_fst tm am) hXm E w.m (c_X5_read l hXm h5) (cwV 0 hts gL_law_X5_read rfl rfl rfl hdL_X5_read ⟨(Nat.le_of_ble_eq_true rfl), (Nat.le_of_ble_eq_true rfl)⟩) (ci := 5) rfl (cM_at_0 tm am SM) rfl hl.1 rfl (Nat.le_of_ble_eq_true rfl) dL_law_460 ⟨(Nat.le_of_ble_eq_true rfl), (Nat.le_of_ble_eq_true rfl)⟩ (fun H locs w2 => ?_)
  replace w := LW.ofm w.2.2.2.1 w2
  refine lv_icmp_eq (tgt := 903) hx hb dL_law_463 (by decide) (fun _ => ?_) (fun h => absurd rfl h)
  exact hk w hl hR1
theorem hdL_X4_errand : yX4_errand.cls = RX4 ∧ yX4_errand.cls ≠ "java/lang/invoke/MethodHandle" ∧ yX4_errand.cls ≠ "java/lang/invoke/VarHandle" ∧ (parseMethodDescriptor yX4_errand.desc).map (fun d => d.parameters.length) = some 1 := by decide +kernel
theorem hdL_X5_errand : yX5_errand.cls = RX5 ∧ yX5_errand.cls ≠ "java/lang/invoke/MethodHandle" ∧ yX5_errand.cls ≠ "java/lang/invoke/VarHandle" ∧ (parseMethodDescriptor yX5_errand.desc).map (fun d => d.parameters.length) = some 1 := by decide +kernel
set_option maxHeartbeats 4000000 in
set_option maxRecDepth 100000 in
theorem law_errand {p : Program} {l : Launch} {e : Env} {s : State} {m : MethodId} {below : List Frame} {meth : Method} {c : Code} {b L : Nat} {xs : Nat → Int32} {D : va_G} {tc tm : Nat → ClassId} {ac am : Nat → Nat} {X : State → Prop} {kd vd : Nat → Nat} {N : Nat} {Rl : ST → ST → Prop} (hXc : XOk (aW 56 ac) X) (hXm : XOk (aW 17 am) X) (hN : ∀ U : State, X U → xR kd vd ac U) (E : EN p s m #[Value.ref b] meth c cL_law RL wsL_law ret 4) (hXs : va_X b L xs s s.heap) (hbl : b < s.heap.size) (hL : L ≤ 2560) (st_errand : ∀ (x0 : Int32), StI Rl (fun S => f_X4_errand N S x0) (fun S => f_X5_errand N S x0)) {SC SM : ST} {H : Heap} {locs : List Loc} {ls : Array Slot} {j : Nat} (hj : 5 * j + 5 ≤ L) (w : LW D tc tm ac am X SC SM s H locs) (hl : lv_has ls 4 [(0, .ref b), (1, .ref (ac 50)), (2, .ref (am 0)), (3, .int (nI (5 * j)))]) (hR : Rl SC SM) (hk : ∀ {SC SM : ST} {H : Heap} {locs : List Loc} {ls : Array Slot}, LW D tc tm ac am X SC SM s H locs → lv_has ls 4 [(0, .ref b), (1, .ref (ac 50)), (2, .ref (am 0)), (3, .int (nI (5 * j)))] → Rl SC SM → W p l e room_1 s m #[Value.ref b] below meth c H locs 73 2420 (lw_Z below #[Value.ref b] s) (F0 m 903 ls [])) : W p l e room_1 s m #[Value.ref b] below meth c H locs 73 2420 (lw_Z below #[Value.ref b] s) (F0 m 468 ls []) := by
  obtain ⟨⟨hx, hb, hml, hown, hts⟩, hr, hlk⟩ := id E
  have hbA : ¬ (fun q : Nat => s.heap.size ≤ q) b := Nat.not_le.mpr hbl
  refine lv_aload_n hx hb dL_law_468 rfl (lv_at hl 1 rfl) ?_
  refine lv_aload_n hx hb dL_law_469 rfl (lv_at hl 0 rfl) ?_
  refine lv_iload_n hx hb dL_law_470 rfl (lv_at hl 3 rfl) ?_
  refine lv_iconst (v := 1) hx hb dL_law_471 (by decide) ?_
  refine lv_iadd hx hb dL_law_472 ?_
  refine va_sld hx hb hXs hbl hbA w.2.2.2.2.2.1 (lw_in (k := 1) hL hj (by decide)) dL_law_473 ?_
  obtain ⟨r, SC1, SM1, h4, h5, hR1⟩ := st_errand (xs (nI (5 * j) + 1).toNatClampNeg) SC SM hR
  refine l_calli (As := [.int (xs (nI (5 * j) + 1).toNatClampNeg)]) (rest := []) (cC_fst tc ac) hXc E w.c (c_X4_errand l hXc h4) (cwV 1 hts gL_law_X4_errand rfl rfl rfl hdL_X4_errand ⟨(Nat.le_of_ble_eq_true rfl), (Nat.le_of_ble_eq_true rfl)⟩) (ci := 4) rfl (cC_at_50 tc ac SC) rfl hl.1 rfl (Nat.le_of_ble_eq_true rfl) dL_law_474 ⟨(Nat.le_of_ble_eq_true rfl), (Nat.le_of_ble_eq_true rfl)⟩ (fun H locs w2 => ?_)
  replace w := LW.ofc w.2.2.2.2.1 w2
  refine lv_aload_n hx hb dL_law_477 rfl (lv_at hl 2 rfl) ?_
  refine lv_aload_n hx hb dL_law_478 rfl (lv_at hl 0 rfl) ?_
  refine lv_iload_n hx hb dL_law_479 rfl (lv_at hl 3 rfl) ?_
  refine lv_iconst (v := 1) hx hb dL_law_480 (by decide) ?_
  refine lv_iadd hx hb dL_law_481 ?_
  refine va_sld hx hb hXs hbl hbA w.2.2.2.2.2.1 (lw_in (k := 1) hL hj (by decide)) dL_law_482 ?_
  refine l_calli (As := [.int (xs (nI (5 * j) + 1).toNatClampNeg)]) (rest := [.int r]) (cM_fst tm am) hXm E w.m (c_X5_errand l hXm h5) (cwV 1 hts gL_law_X5_errand rfl rfl rfl hdL_X5_errand ⟨(Nat.le_of_ble_eq_true rfl), (Nat.le_of_ble_eq_true rfl)⟩) (ci := 5) rfl (cM_at_0 tm am SM) rfl hl.1 rfl (Nat.le_of_ble_eq_true rfl) dL_law_483 ⟨(Nat.le_of_ble_eq_true rfl), (Nat.le_of_ble_eq_true rfl)⟩ (fun H locs w2 => ?_)
  replace w := LW.ofm w.2.2.2.1 w2
  refine lv_icmp_eq (tgt := 903) hx hb dL_law_486 (by decide) (fun _ => ?_) (fun h => absurd rfl h)
  exact hk w hl hR1
theorem hdL_X4_cheapest : yX4_cheapest.cls = RX4 ∧ yX4_cheapest.cls ≠ "java/lang/invoke/MethodHandle" ∧ yX4_cheapest.cls ≠ "java/lang/invoke/VarHandle" ∧ (parseMethodDescriptor yX4_cheapest.desc).map (fun d => d.parameters.length) = some 2 := by decide +kernel
theorem hdL_X5_cheapest : yX5_cheapest.cls = RX5 ∧ yX5_cheapest.cls ≠ "java/lang/invoke/MethodHandle" ∧ yX5_cheapest.cls ≠ "java/lang/invoke/VarHandle" ∧ (parseMethodDescriptor yX5_cheapest.desc).map (fun d => d.parameters.length) = some 2 := by decide +kernel
set_option maxHeartbeats 4000000 in
set_option maxRecDepth 100000 in
theorem law_cheapest {p : Program} {l : Launch} {e : Env} {s : State} {m : MethodId} {below : List Frame} {meth : Method} {c : Code} {b L : Nat} {xs : Nat → Int32} {D : va_G} {tc tm : Nat → ClassId} {ac am : Nat → Nat} {X : State → Prop} {kd vd : Nat → Nat} {N : Nat} {Rl : ST → ST → Prop} (hXc : XOk (aW 56 ac) X) (hXm : XOk (aW 17 am) X) (hN : ∀ U : State, X U → xR kd vd ac U) (E : EN p s m #[Value.ref b] meth c cL_law RL wsL_law ret 4) (hXs : va_X b L xs s s.heap) (hbl : b < s.heap.size) (hL : L ≤ 2560) (st_cheapest : ∀ (x0 : Int32) (x1 : Int32), StI Rl (fun S => f_X4_cheapest N S x0 x1) (fun S => f_X5_cheapest N S x0 x1)) {SC SM : ST} {H : Heap} {locs : List Loc} {ls : Array Slot} {j : Nat} (hj : 5 * j + 5 ≤ L) (w : LW D tc tm ac am X SC SM s H locs) (hl : lv_has ls 4 [(0, .ref b), (1, .ref (ac 50)), (2, .ref (am 0)), (3, .int (nI (5 * j)))]) (hR : Rl SC SM) (hk : ∀ {SC SM : ST} {H : Heap} {locs : List Loc} {ls : Array Slot}, LW D tc tm ac am X SC SM s H locs → lv_has ls 4 [(0, .ref b), (1, .ref (ac 50)), (2, .ref (am 0)), (3, .int (nI (5 * j)))] → Rl SC SM → W p l e room_1 s m #[Value.ref b] below meth c H locs 73 2420 (lw_Z below #[Value.ref b] s) (F0 m 903 ls [])) : W p l e room_1 s m #[Value.ref b] below meth c H locs 73 2420 (lw_Z below #[Value.ref b] s) (F0 m 491 ls []) := by
  obtain ⟨⟨hx, hb, hml, hown, hts⟩, hr, hlk⟩ := id E
  have hbA : ¬ (fun q : Nat => s.heap.size ≤ q) b := Nat.not_le.mpr hbl
  refine lv_aload_n hx hb dL_law_491 rfl (lv_at hl 1 rfl) ?_
  refine lv_aload_n hx hb dL_law_492 rfl (lv_at hl 0 rfl) ?_
  refine lv_iload_n hx hb dL_law_493 rfl (lv_at hl 3 rfl) ?_
  refine lv_iconst (v := 1) hx hb dL_law_494 (by decide) ?_
  refine lv_iadd hx hb dL_law_495 ?_
  refine va_sld hx hb hXs hbl hbA w.2.2.2.2.2.1 (lw_in (k := 1) hL hj (by decide)) dL_law_496 ?_
  refine lv_aload_n hx hb dL_law_497 rfl (lv_at hl 0 rfl) ?_
  refine lv_iload_n hx hb dL_law_498 rfl (lv_at hl 3 rfl) ?_
  refine lv_iconst (v := 2) hx hb dL_law_499 (by decide) ?_
  refine lv_iadd hx hb dL_law_500 ?_
  refine va_sld hx hb hXs hbl hbA w.2.2.2.2.2.1 (lw_in (k := 2) hL hj (by decide)) dL_law_501 ?_
  obtain ⟨r, SC1, SM1, h4, h5, hR1⟩ := st_cheapest (xs (nI (5 * j) + 1).toNatClampNeg) (xs (nI (5 * j) + 2).toNatClampNeg) SC SM hR
  refine l_calli (As := [.int (xs (nI (5 * j) + 1).toNatClampNeg), .int (xs (nI (5 * j) + 2).toNatClampNeg)]) (rest := []) (cC_fst tc ac) hXc E w.c (c_X4_cheapest l hXc h4) (cwV 2 hts gL_law_X4_cheapest rfl rfl rfl hdL_X4_cheapest ⟨(Nat.le_of_ble_eq_true rfl), (Nat.le_of_ble_eq_true rfl)⟩) (ci := 4) rfl (cC_at_50 tc ac SC) rfl hl.1 rfl (Nat.le_of_ble_eq_true rfl) dL_law_502 ⟨(Nat.le_of_ble_eq_true rfl), (Nat.le_of_ble_eq_true rfl)⟩ (fun H locs w2 => ?_)
  replace w := LW.ofc w.2.2.2.2.1 w2
  refine lv_aload_n hx hb dL_law_505 rfl (lv_at hl 2 rfl) ?_
  refine lv_aload_n hx hb dL_law_506 rfl (lv_at hl 0 rfl) ?_
  refine lv_iload_n hx hb dL_law_507 rfl (lv_at hl 3 rfl) ?_
  refine lv_iconst (v := 1) hx hb dL_law_508 (by decide) ?_
  refine lv_iadd hx hb dL_law_509 ?_
  refine va_sld hx hb hXs hbl hbA w.2.2.2.2.2.1 (lw_in (k := 1) hL hj (by decide)) dL_law_510 ?_
  refine lv_aload_n hx hb dL_law_511 rfl (lv_at hl 0 rfl) ?_
  refine lv_iload_n hx hb dL_law_512 rfl (lv_at hl 3 rfl) ?_
  refine lv_iconst (v := 2) hx hb dL_law_513 (by decide) ?_
  refine lv_iadd hx hb dL_law_514 ?_
  refine va_sld hx hb hXs hbl hbA w.2.2.2.2.2.1 (lw_in (k := 2) hL hj (by decide)) dL_law_515 ?_
  refine l_calli (As := [.int (xs (nI (5 * j) + 1).toNatClampNeg), .int (xs (nI (5 * j) + 2).toNatClampNeg)]) (rest := [.int r]) (cM_fst tm am) hXm E w.m (c_X5_cheapest l hXm h5) (cwV 2 hts gL_law_X5_cheapest rfl rfl rfl hdL_X5_cheapest ⟨(Nat.le_of_ble_eq_true rfl), (Nat.le_of_ble_eq_true rfl)⟩) (ci := 5) rfl (cM_at_0 tm am SM) rfl hl.1 rfl (Nat.le_of_ble_eq_true rfl) dL_law_516 ⟨(Nat.le_of_ble_eq_true rfl), (Nat.le_of_ble_eq_true rfl)⟩ (fun H locs w2 => ?_)
  replace w := LW.ofm w.2.2.2.1 w2
  refine lv_icmp_eq (tgt := 903) hx hb dL_law_519 (by decide) (fun _ => ?_) (fun h => absurd rfl h)
  exact hk w hl hR1
theorem hdL_X4_row : yX4_row.cls = RX4 ∧ yX4_row.cls ≠ "java/lang/invoke/MethodHandle" ∧ yX4_row.cls ≠ "java/lang/invoke/VarHandle" ∧ (parseMethodDescriptor yX4_row.desc).map (fun d => d.parameters.length) = some 2 := by decide +kernel
theorem hdL_X5_row : yX5_row.cls = RX5 ∧ yX5_row.cls ≠ "java/lang/invoke/MethodHandle" ∧ yX5_row.cls ≠ "java/lang/invoke/VarHandle" ∧ (parseMethodDescriptor yX5_row.desc).map (fun d => d.parameters.length) = some 2 := by decide +kernel
set_option maxHeartbeats 4000000 in
set_option maxRecDepth 100000 in
theorem law_row {p : Program} {l : Launch} {e : Env} {s : State} {m : MethodId} {below : List Frame} {meth : Method} {c : Code} {b L : Nat} {xs : Nat → Int32} {D : va_G} {tc tm : Nat → ClassId} {ac am : Nat → Nat} {X : State → Prop} {kd vd : Nat → Nat} {N : Nat} {Rl : ST → ST → Prop} (hXc : XOk (aW 56 ac) X) (hXm : XOk (aW 17 am) X) (hN : ∀ U : State, X U → xR kd vd ac U) (E : EN p s m #[Value.ref b] meth c cL_law RL wsL_law ret 4) (hXs : va_X b L xs s s.heap) (hbl : b < s.heap.size) (hL : L ≤ 2560) (st_row : ∀ (x0 : Int32) (x1 : Int32), StI Rl (fun S => f_X4_row N S x0 x1) (fun S => f_X5_row N S x0 x1)) {SC SM : ST} {H : Heap} {locs : List Loc} {ls : Array Slot} {j : Nat} (hj : 5 * j + 5 ≤ L) (w : LW D tc tm ac am X SC SM s H locs) (hl : lv_has ls 4 [(0, .ref b), (1, .ref (ac 50)), (2, .ref (am 0)), (3, .int (nI (5 * j)))]) (hR : Rl SC SM) (hk : ∀ {SC SM : ST} {H : Heap} {locs : List Loc} {ls : Array Slot}, LW D tc tm ac am X SC SM s H locs → lv_has ls 4 [(0, .ref b), (1, .ref (ac 50)), (2, .ref (am 0)), (3, .int (nI (5 * j)))] → Rl SC SM → W p l e room_1 s m #[Value.ref b] below meth c H locs 73 2420 (lw_Z below #[Value.ref b] s) (F0 m 903 ls [])) : W p l e room_1 s m #[Value.ref b] below meth c H locs 73 2420 (lw_Z below #[Value.ref b] s) (F0 m 524 ls []) := by
  obtain ⟨⟨hx, hb, hml, hown, hts⟩, hr, hlk⟩ := id E
  have hbA : ¬ (fun q : Nat => s.heap.size ≤ q) b := Nat.not_le.mpr hbl
  refine lv_aload_n hx hb dL_law_524 rfl (lv_at hl 1 rfl) ?_
  refine lv_aload_n hx hb dL_law_525 rfl (lv_at hl 0 rfl) ?_
  refine lv_iload_n hx hb dL_law_526 rfl (lv_at hl 3 rfl) ?_
  refine lv_iconst (v := 1) hx hb dL_law_527 (by decide) ?_
  refine lv_iadd hx hb dL_law_528 ?_
  refine va_sld hx hb hXs hbl hbA w.2.2.2.2.2.1 (lw_in (k := 1) hL hj (by decide)) dL_law_529 ?_
  refine lv_aload_n hx hb dL_law_530 rfl (lv_at hl 0 rfl) ?_
  refine lv_iload_n hx hb dL_law_531 rfl (lv_at hl 3 rfl) ?_
  refine lv_iconst (v := 2) hx hb dL_law_532 (by decide) ?_
  refine lv_iadd hx hb dL_law_533 ?_
  refine va_sld hx hb hXs hbl hbA w.2.2.2.2.2.1 (lw_in (k := 2) hL hj (by decide)) dL_law_534 ?_
  obtain ⟨r, SC1, SM1, h4, h5, hR1⟩ := st_row (xs (nI (5 * j) + 1).toNatClampNeg) (xs (nI (5 * j) + 2).toNatClampNeg) SC SM hR
  refine l_calli (As := [.int (xs (nI (5 * j) + 1).toNatClampNeg), .int (xs (nI (5 * j) + 2).toNatClampNeg)]) (rest := []) (cC_fst tc ac) hXc E w.c (c_X4_row l hXc h4) (cwV 2 hts gL_law_X4_row rfl rfl rfl hdL_X4_row ⟨(Nat.le_of_ble_eq_true rfl), (Nat.le_of_ble_eq_true rfl)⟩) (ci := 4) rfl (cC_at_50 tc ac SC) rfl hl.1 rfl (Nat.le_of_ble_eq_true rfl) dL_law_535 ⟨(Nat.le_of_ble_eq_true rfl), (Nat.le_of_ble_eq_true rfl)⟩ (fun H locs w2 => ?_)
  replace w := LW.ofc w.2.2.2.2.1 w2
  refine lv_aload_n hx hb dL_law_538 rfl (lv_at hl 2 rfl) ?_
  refine lv_aload_n hx hb dL_law_539 rfl (lv_at hl 0 rfl) ?_
  refine lv_iload_n hx hb dL_law_540 rfl (lv_at hl 3 rfl) ?_
  refine lv_iconst (v := 1) hx hb dL_law_541 (by decide) ?_
  refine lv_iadd hx hb dL_law_542 ?_
  refine va_sld hx hb hXs hbl hbA w.2.2.2.2.2.1 (lw_in (k := 1) hL hj (by decide)) dL_law_543 ?_
  refine lv_aload_n hx hb dL_law_544 rfl (lv_at hl 0 rfl) ?_
  refine lv_iload_n hx hb dL_law_545 rfl (lv_at hl 3 rfl) ?_
  refine lv_iconst (v := 2) hx hb dL_law_546 (by decide) ?_
  refine lv_iadd hx hb dL_law_547 ?_
  refine va_sld hx hb hXs hbl hbA w.2.2.2.2.2.1 (lw_in (k := 2) hL hj (by decide)) dL_law_548 ?_
  refine l_calli (As := [.int (xs (nI (5 * j) + 1).toNatClampNeg), .int (xs (nI (5 * j) + 2).toNatClampNeg)]) (rest := [.int r]) (cM_fst tm am) hXm E w.m (c_X5_row l hXm h5) (cwV 2 hts gL_law_X5_row rfl rfl rfl hdL_X5_row ⟨(Nat.le_of_ble_eq_true rfl), (Nat.le_of_ble_eq_true rfl)⟩) (ci := 5) rfl (cM_at_0 tm am SM) rfl hl.1 rfl (Nat.le_of_ble_eq_true rfl) dL_law_549 ⟨(Nat.le_of_ble_eq_true rfl), (Nat.le_of_ble_eq_true rfl)⟩ (fun H locs w2 => ?_)
  replace w := LW.ofm w.2.2.2.1 w2
  refine lv_icmp_eq (tgt := 903) hx hb dL_law_552 (by decide) (fun _ => ?_) (fun h => absurd rfl h)
  exact hk w hl hR1
theorem hdL_X4_soonest : yX4_soonest.cls = RX4 ∧ yX4_soonest.cls ≠ "java/lang/invoke/MethodHandle" ∧ yX4_soonest.cls ≠ "java/lang/invoke/VarHandle" ∧ (parseMethodDescriptor yX4_soonest.desc).map (fun d => d.parameters.length) = some 1 := by decide +kernel
theorem hdL_X5_soonest : yX5_soonest.cls = RX5 ∧ yX5_soonest.cls ≠ "java/lang/invoke/MethodHandle" ∧ yX5_soonest.cls ≠ "java/lang/invoke/VarHandle" ∧ (parseMethodDescriptor yX5_soonest.desc).map (fun d => d.parameters.length) = some 1 := by decide +kernel
set_option maxHeartbeats 4000000 in
set_option maxRecDepth 100000 in
theorem law_soonest {p : Program} {l : Launch} {e : Env} {s : State} {m : MethodId} {below : List Frame} {meth : Method} {c : Code} {b L : Nat} {xs : Nat → Int32} {D : va_G} {tc tm : Nat → ClassId} {ac am : Nat → Nat} {X : State → Prop} {kd vd : Nat → Nat} {N : Nat} {Rl : ST → ST → Prop} (hXc : XOk (aW 56 ac) X) (hXm : XOk (aW 17 am) X) (hN : ∀ U : State, X U → xR kd vd ac U) (E : EN p s m #[Value.ref b] meth c cL_law RL wsL_law ret 4) (hXs : va_X b L xs s s.heap) (hbl : b < s.heap.size) (hL : L ≤ 2560) (st_soonest : ∀ (x0 : Int32), StI Rl (fun S => f_X4_soonest N S x0) (fun S => f_X5_soonest N S x0)) {SC SM : ST} {H : Heap} {locs : List Loc} {ls : Array Slot} {j : Nat} (hj : 5 * j + 5 ≤ L) (w : LW D tc tm ac am X SC SM s H locs) (hl : lv_has ls 4 [(0, .ref b), (1, .ref (ac 50)), (2, .ref (am 0)), (3, .int (nI (5 * j)))]) (hR : Rl SC SM) (hk : ∀ {SC SM : ST} {H : Heap} {locs : List Loc} {ls : Array Slot}, LW D tc tm ac am X SC SM s H locs → lv_has ls 4 [(0, .ref b), (1, .ref (ac 50)), (2, .ref (am 0)), (3, .int (nI (5 * j)))] → Rl SC SM → W p l e room_1 s m #[Value.ref b] below meth c H locs 73 2420 (lw_Z below #[Value.ref b] s) (F0 m 903 ls [])) : W p l e room_1 s m #[Value.ref b] below meth c H locs 73 2420 (lw_Z below #[Value.ref b] s) (F0 m 557 ls []) := by
  obtain ⟨⟨hx, hb, hml, hown, hts⟩, hr, hlk⟩ := id E
  have hbA : ¬ (fun q : Nat => s.heap.size ≤ q) b := Nat.not_le.mpr hbl
  refine lv_aload_n hx hb dL_law_557 rfl (lv_at hl 1 rfl) ?_
  refine lv_aload_n hx hb dL_law_558 rfl (lv_at hl 0 rfl) ?_
  refine lv_iload_n hx hb dL_law_559 rfl (lv_at hl 3 rfl) ?_
  refine lv_iconst (v := 1) hx hb dL_law_560 (by decide) ?_
  refine lv_iadd hx hb dL_law_561 ?_
  refine va_sld hx hb hXs hbl hbA w.2.2.2.2.2.1 (lw_in (k := 1) hL hj (by decide)) dL_law_562 ?_
  obtain ⟨r, SC1, SM1, h4, h5, hR1⟩ := st_soonest (xs (nI (5 * j) + 1).toNatClampNeg) SC SM hR
  refine l_calli (As := [.int (xs (nI (5 * j) + 1).toNatClampNeg)]) (rest := []) (cC_fst tc ac) hXc E w.c (c_X4_soonest l hXc h4) (cwV 1 hts gL_law_X4_soonest rfl rfl rfl hdL_X4_soonest ⟨(Nat.le_of_ble_eq_true rfl), (Nat.le_of_ble_eq_true rfl)⟩) (ci := 4) rfl (cC_at_50 tc ac SC) rfl hl.1 rfl (Nat.le_of_ble_eq_true rfl) dL_law_563 ⟨(Nat.le_of_ble_eq_true rfl), (Nat.le_of_ble_eq_true rfl)⟩ (fun H locs w2 => ?_)
  replace w := LW.ofc w.2.2.2.2.1 w2
  refine lv_aload_n hx hb dL_law_566 rfl (lv_at hl 2 rfl) ?_
  refine lv_aload_n hx hb dL_law_567 rfl (lv_at hl 0 rfl) ?_
  refine lv_iload_n hx hb dL_law_568 rfl (lv_at hl 3 rfl) ?_
  refine lv_iconst (v := 1) hx hb dL_law_569 (by decide) ?_
  refine lv_iadd hx hb dL_law_570 ?_
  refine va_sld hx hb hXs hbl hbA w.2.2.2.2.2.1 (lw_in (k := 1) hL hj (by decide)) dL_law_571 ?_
  refine l_calli (As := [.int (xs (nI (5 * j) + 1).toNatClampNeg)]) (rest := [.int r]) (cM_fst tm am) hXm E w.m (c_X5_soonest l hXm h5) (cwV 1 hts gL_law_X5_soonest rfl rfl rfl hdL_X5_soonest ⟨(Nat.le_of_ble_eq_true rfl), (Nat.le_of_ble_eq_true rfl)⟩) (ci := 5) rfl (cM_at_0 tm am SM) rfl hl.1 rfl (Nat.le_of_ble_eq_true rfl) dL_law_572 ⟨(Nat.le_of_ble_eq_true rfl), (Nat.le_of_ble_eq_true rfl)⟩ (fun H locs w2 => ?_)
  replace w := LW.ofm w.2.2.2.1 w2
  refine lv_icmp_eq (tgt := 903) hx hb dL_law_575 (by decide) (fun _ => ?_) (fun h => absurd rfl h)
  exact hk w hl hR1
theorem hdL_X4_worth : yX4_worth.cls = RX4 ∧ yX4_worth.cls ≠ "java/lang/invoke/MethodHandle" ∧ yX4_worth.cls ≠ "java/lang/invoke/VarHandle" ∧ (parseMethodDescriptor yX4_worth.desc).map (fun d => d.parameters.length) = some 2 := by decide +kernel
theorem hdL_X5_worth : yX5_worth.cls = RX5 ∧ yX5_worth.cls ≠ "java/lang/invoke/MethodHandle" ∧ yX5_worth.cls ≠ "java/lang/invoke/VarHandle" ∧ (parseMethodDescriptor yX5_worth.desc).map (fun d => d.parameters.length) = some 2 := by decide +kernel
set_option maxHeartbeats 4000000 in
set_option maxRecDepth 100000 in
theorem law_worth {p : Program} {l : Launch} {e : Env} {s : State} {m : MethodId} {below : List Frame} {meth : Method} {c : Code} {b L : Nat} {xs : Nat → Int32} {D : va_G} {tc tm : Nat → ClassId} {ac am : Nat → Nat} {X : State → Prop} {kd vd : Nat → Nat} {N : Nat} {Rl : ST → ST → Prop} (hXc : XOk (aW 56 ac) X) (hXm : XOk (aW 17 am) X) (hN : ∀ U : State, X U → xR kd vd ac U) (E : EN p s m #[Value.ref b] meth c cL_law RL wsL_law ret 4) (hXs : va_X b L xs s s.heap) (hbl : b < s.heap.size) (hL : L ≤ 2560) (st_worth : ∀ (x0 : Int32) (x1 : Int32), StI Rl (fun S => f_X4_worth N S x0 x1) (fun S => f_X5_worth N S x0 x1)) {SC SM : ST} {H : Heap} {locs : List Loc} {ls : Array Slot} {j : Nat} (hj : 5 * j + 5 ≤ L) (w : LW D tc tm ac am X SC SM s H locs) (hl : lv_has ls 4 [(0, .ref b), (1, .ref (ac 50)), (2, .ref (am 0)), (3, .int (nI (5 * j)))]) (hR : Rl SC SM) (hk : ∀ {SC SM : ST} {H : Heap} {locs : List Loc} {ls : Array Slot}, LW D tc tm ac am X SC SM s H locs → lv_has ls 4 [(0, .ref b), (1, .ref (ac 50)), (2, .ref (am 0)), (3, .int (nI (5 * j)))] → Rl SC SM → W p l e room_1 s m #[Value.ref b] below meth c H locs 73 2420 (lw_Z below #[Value.ref b] s) (F0 m 903 ls [])) : W p l e room_1 s m #[Value.ref b] below meth c H locs 73 2420 (lw_Z below #[Value.ref b] s) (F0 m 580 ls []) := by
  obtain ⟨⟨hx, hb, hml, hown, hts⟩, hr, hlk⟩ := id E
  have hbA : ¬ (fun q : Nat => s.heap.size ≤ q) b := Nat.not_le.mpr hbl
  refine lv_aload_n hx hb dL_law_580 rfl (lv_at hl 1 rfl) ?_
  refine lv_aload_n hx hb dL_law_581 rfl (lv_at hl 0 rfl) ?_
  refine lv_iload_n hx hb dL_law_582 rfl (lv_at hl 3 rfl) ?_
  refine lv_iconst (v := 1) hx hb dL_law_583 (by decide) ?_
  refine lv_iadd hx hb dL_law_584 ?_
  refine va_sld hx hb hXs hbl hbA w.2.2.2.2.2.1 (lw_in (k := 1) hL hj (by decide)) dL_law_585 ?_
  refine lv_aload_n hx hb dL_law_586 rfl (lv_at hl 0 rfl) ?_
  refine lv_iload_n hx hb dL_law_587 rfl (lv_at hl 3 rfl) ?_
  refine lv_iconst (v := 2) hx hb dL_law_588 (by decide) ?_
  refine lv_iadd hx hb dL_law_589 ?_
  refine va_sld hx hb hXs hbl hbA w.2.2.2.2.2.1 (lw_in (k := 2) hL hj (by decide)) dL_law_590 ?_
  obtain ⟨r, SC1, SM1, h4, h5, hR1⟩ := st_worth (xs (nI (5 * j) + 1).toNatClampNeg) (xs (nI (5 * j) + 2).toNatClampNeg) SC SM hR
  refine l_calli (As := [.int (xs (nI (5 * j) + 1).toNatClampNeg), .int (xs (nI (5 * j) + 2).toNatClampNeg)]) (rest := []) (cC_fst tc ac) hXc E w.c (c_X4_worth l hXc h4) (cwV 2 hts gL_law_X4_worth rfl rfl rfl hdL_X4_worth ⟨(Nat.le_of_ble_eq_true rfl), (Nat.le_of_ble_eq_true rfl)⟩) (ci := 4) rfl (cC_at_50 tc ac SC) rfl hl.1 rfl (Nat.le_of_ble_eq_true rfl) dL_law_591 ⟨(Nat.le_of_ble_eq_true rfl), (Nat.le_of_ble_eq_true rfl)⟩ (fun H locs w2 => ?_)
  replace w := LW.ofc w.2.2.2.2.1 w2
  refine lv_aload_n hx hb dL_law_594 rfl (lv_at hl 2 rfl) ?_
  refine lv_aload_n hx hb dL_law_595 rfl (lv_at hl 0 rfl) ?_
  refine lv_iload_n hx hb dL_law_596 rfl (lv_at hl 3 rfl) ?_
  refine lv_iconst (v := 1) hx hb dL_law_597 (by decide) ?_
  refine lv_iadd hx hb dL_law_598 ?_
  refine va_sld hx hb hXs hbl hbA w.2.2.2.2.2.1 (lw_in (k := 1) hL hj (by decide)) dL_law_599 ?_
  refine lv_aload_n hx hb dL_law_600 rfl (lv_at hl 0 rfl) ?_
  refine lv_iload_n hx hb dL_law_601 rfl (lv_at hl 3 rfl) ?_
  refine lv_iconst (v := 2) hx hb dL_law_602 (by decide) ?_
  refine lv_iadd hx hb dL_law_603 ?_
  refine va_sld hx hb hXs hbl hbA w.2.2.2.2.2.1 (lw_in (k := 2) hL hj (by decide)) dL_law_604 ?_
  refine l_calli (As := [.int (xs (nI (5 * j) + 1).toNatClampNeg), .int (xs (nI (5 * j) + 2).toNatClampNeg)]) (rest := [.int r]) (cM_fst tm am) hXm E w.m (c_X5_worth l hXm h5) (cwV 2 hts gL_law_X5_worth rfl rfl rfl hdL_X5_worth ⟨(Nat.le_of_ble_eq_true rfl), (Nat.le_of_ble_eq_true rfl)⟩) (ci := 5) rfl (cM_at_0 tm am SM) rfl hl.1 rfl (Nat.le_of_ble_eq_true rfl) dL_law_605 ⟨(Nat.le_of_ble_eq_true rfl), (Nat.le_of_ble_eq_true rfl)⟩ (fun H locs w2 => ?_)
  replace w := LW.ofm w.2.2.2.1 w2
  refine lv_icmp_eq (tgt := 903) hx hb dL_law_608 (by decide) (fun _ => ?_) (fun h => absurd rfl h)
  exact hk w hl hR1
theorem hdL_X4_shutOut : yX4_shutOut.cls = RX4 ∧ yX4_shutOut.cls ≠ "java/lang/invoke/MethodHandle" ∧ yX4_shutOut.cls ≠ "java/lang/invoke/VarHandle" ∧ (parseMethodDescriptor yX4_shutOut.desc).map (fun d => d.parameters.length) = some 1 := by decide +kernel
theorem hdL_X5_shutOut : yX5_shutOut.cls = RX5 ∧ yX5_shutOut.cls ≠ "java/lang/invoke/MethodHandle" ∧ yX5_shutOut.cls ≠ "java/lang/invoke/VarHandle" ∧ (parseMethodDescriptor yX5_shutOut.desc).map (fun d => d.parameters.length) = some 1 := by decide +kernel
set_option maxHeartbeats 4000000 in
set_option maxRecDepth 100000 in
theorem law_shutOut {p : Program} {l : Launch} {e : Env} {s : State} {m : MethodId} {below : List Frame} {meth : Method} {c : Code} {b L : Nat} {xs : Nat → Int32} {D : va_G} {tc tm : Nat → ClassId} {ac am : Nat → Nat} {X : State → Prop} {kd vd : Nat → Nat} {N : Nat} {Rl : ST → ST → Prop} (hXc : XOk (aW 56 ac) X) (hXm : XOk (aW 17 am) X) (hN : ∀ U : State, X U → xR kd vd ac U) (E : EN p s m #[Value.ref b] meth c cL_law RL wsL_law ret 4) (hXs : va_X b L xs s s.heap) (hbl : b < s.heap.size) (hL : L ≤ 2560) (st_shutOut : ∀ (x0 : Int32), StI Rl (fun S => f_X4_shutOut N S x0) (fun S => f_X5_shutOut N S x0)) {SC SM : ST} {H : Heap} {locs : List Loc} {ls : Array Slot} {j : Nat} (hj : 5 * j + 5 ≤ L) (w : LW D tc tm ac am X SC SM s H locs) (hl : lv_has ls 4 [(0, .ref b), (1, .ref (ac 50)), (2, .ref (am 0)), (3, .int (nI (5 * j)))]) (hR : Rl SC SM) (hk : ∀ {SC SM : ST} {H : Heap} {locs : List Loc} {ls : Array Slot}, LW D tc tm ac am X SC SM s H locs → lv_has ls 4 [(0, .ref b), (1, .ref (ac 50)), (2, .ref (am 0)), (3, .int (nI (5 * j)))] → Rl SC SM → W p l e room_1 s m #[Value.ref b] below meth c H locs 73 2420 (lw_Z below #[Value.ref b] s) (F0 m 903 ls [])) : W p l e room_1 s m #[Value.ref b] below meth c H locs 73 2420 (lw_Z below #[Value.ref b] s) (F0 m 613 ls []) := by
  obtain ⟨⟨hx, hb, hml, hown, hts⟩, hr, hlk⟩ := id E
  have hbA : ¬ (fun q : Nat => s.heap.size ≤ q) b := Nat.not_le.mpr hbl
  refine lv_aload_n hx hb dL_law_613 rfl (lv_at hl 1 rfl) ?_
  refine lv_aload_n hx hb dL_law_614 rfl (lv_at hl 0 rfl) ?_
  refine lv_iload_n hx hb dL_law_615 rfl (lv_at hl 3 rfl) ?_
  refine lv_iconst (v := 1) hx hb dL_law_616 (by decide) ?_
  refine lv_iadd hx hb dL_law_617 ?_
  refine va_sld hx hb hXs hbl hbA w.2.2.2.2.2.1 (lw_in (k := 1) hL hj (by decide)) dL_law_618 ?_
  obtain ⟨r, SC1, SM1, h4, h5, hR1⟩ := st_shutOut (xs (nI (5 * j) + 1).toNatClampNeg) SC SM hR
  refine l_calli (As := [.int (xs (nI (5 * j) + 1).toNatClampNeg)]) (rest := []) (cC_fst tc ac) hXc E w.c (c_X4_shutOut l hXc h4) (cwV 1 hts gL_law_X4_shutOut rfl rfl rfl hdL_X4_shutOut ⟨(Nat.le_of_ble_eq_true rfl), (Nat.le_of_ble_eq_true rfl)⟩) (ci := 4) rfl (cC_at_50 tc ac SC) rfl hl.1 rfl (Nat.le_of_ble_eq_true rfl) dL_law_619 ⟨(Nat.le_of_ble_eq_true rfl), (Nat.le_of_ble_eq_true rfl)⟩ (fun H locs w2 => ?_)
  replace w := LW.ofc w.2.2.2.2.1 w2
  refine lv_aload_n hx hb dL_law_622 rfl (lv_at hl 2 rfl) ?_
  refine lv_aload_n hx hb dL_law_623 rfl (lv_at hl 0 rfl) ?_
  refine lv_iload_n hx hb dL_law_624 rfl (lv_at hl 3 rfl) ?_
  refine lv_iconst (v := 1) hx hb dL_law_625 (by decide) ?_
  refine lv_iadd hx hb dL_law_626 ?_
  refine va_sld hx hb hXs hbl hbA w.2.2.2.2.2.1 (lw_in (k := 1) hL hj (by decide)) dL_law_627 ?_
  refine l_calli (As := [.int (xs (nI (5 * j) + 1).toNatClampNeg)]) (rest := [.int r]) (cM_fst tm am) hXm E w.m (c_X5_shutOut l hXm h5) (cwV 1 hts gL_law_X5_shutOut rfl rfl rfl hdL_X5_shutOut ⟨(Nat.le_of_ble_eq_true rfl), (Nat.le_of_ble_eq_true rfl)⟩) (ci := 5) rfl (cM_at_0 tm am SM) rfl hl.1 rfl (Nat.le_of_ble_eq_true rfl) dL_law_628 ⟨(Nat.le_of_ble_eq_true rfl), (Nat.le_of_ble_eq_true rfl)⟩ (fun H locs w2 => ?_)
  replace w := LW.ofm w.2.2.2.1 w2
  refine lv_icmp_eq (tgt := 903) hx hb dL_law_631 (by decide) (fun _ => ?_) (fun h => absurd rfl h)
  exact hk w hl hR1
theorem hdL_X4_mends : yX4_mends.cls = RX4 ∧ yX4_mends.cls ≠ "java/lang/invoke/MethodHandle" ∧ yX4_mends.cls ≠ "java/lang/invoke/VarHandle" ∧ (parseMethodDescriptor yX4_mends.desc).map (fun d => d.parameters.length) = some 1 := by decide +kernel
theorem hdL_X5_mends : yX5_mends.cls = RX5 ∧ yX5_mends.cls ≠ "java/lang/invoke/MethodHandle" ∧ yX5_mends.cls ≠ "java/lang/invoke/VarHandle" ∧ (parseMethodDescriptor yX5_mends.desc).map (fun d => d.parameters.length) = some 1 := by decide +kernel
set_option maxHeartbeats 4000000 in
set_option maxRecDepth 100000 in
theorem law_mends {p : Program} {l : Launch} {e : Env} {s : State} {m : MethodId} {below : List Frame} {meth : Method} {c : Code} {b L : Nat} {xs : Nat → Int32} {D : va_G} {tc tm : Nat → ClassId} {ac am : Nat → Nat} {X : State → Prop} {kd vd : Nat → Nat} {N : Nat} {Rl : ST → ST → Prop} (hXc : XOk (aW 56 ac) X) (hXm : XOk (aW 17 am) X) (hN : ∀ U : State, X U → xR kd vd ac U) (E : EN p s m #[Value.ref b] meth c cL_law RL wsL_law ret 4) (hXs : va_X b L xs s s.heap) (hbl : b < s.heap.size) (hL : L ≤ 2560) (st_mends : ∀ (x0 : Int32), StI Rl (fun S => f_X4_mends N S x0) (fun S => f_X5_mends N S x0)) {SC SM : ST} {H : Heap} {locs : List Loc} {ls : Array Slot} {j : Nat} (hj : 5 * j + 5 ≤ L) (w : LW D tc tm ac am X SC SM s H locs) (hl : lv_has ls 4 [(0, .ref b), (1, .ref (ac 50)), (2, .ref (am 0)), (3, .int (nI (5 * j)))]) (hR : Rl SC SM) (hk : ∀ {SC SM : ST} {H : Heap} {locs : List Loc} {ls : Array Slot}, LW D tc tm ac am X SC SM s H locs → lv_has ls 4 [(0, .ref b), (1, .ref (ac 50)), (2, .ref (am 0)), (3, .int (nI (5 * j)))] → Rl SC SM → W p l e room_1 s m #[Value.ref b] below meth c H locs 73 2420 (lw_Z below #[Value.ref b] s) (F0 m 903 ls [])) : W p l e room_1 s m #[Value.ref b] below meth c H locs 73 2420 (lw_Z below #[Value.ref b] s) (F0 m 636 ls []) := by
  obtain ⟨⟨hx, hb, hml, hown, hts⟩, hr, hlk⟩ := id E
  have hbA : ¬ (fun q : Nat => s.heap.size ≤ q) b := Nat.not_le.mpr hbl
  refine lv_aload_n hx hb dL_law_636 rfl (lv_at hl 1 rfl) ?_
  refine lv_aload_n hx hb dL_law_637 rfl (lv_at hl 0 rfl) ?_
  refine lv_iload_n hx hb dL_law_638 rfl (lv_at hl 3 rfl) ?_
  refine lv_iconst (v := 1) hx hb dL_law_639 (by decide) ?_
  refine lv_iadd hx hb dL_law_640 ?_
  refine va_sld hx hb hXs hbl hbA w.2.2.2.2.2.1 (lw_in (k := 1) hL hj (by decide)) dL_law_641 ?_
  obtain ⟨r, SC1, SM1, h4, h5, hR1⟩ := st_mends (xs (nI (5 * j) + 1).toNatClampNeg) SC SM hR
  refine l_calli (As := [.int (xs (nI (5 * j) + 1).toNatClampNeg)]) (rest := []) (cC_fst tc ac) hXc E w.c (c_X4_mends l hXc h4) (cwV 1 hts gL_law_X4_mends rfl rfl rfl hdL_X4_mends ⟨(Nat.le_of_ble_eq_true rfl), (Nat.le_of_ble_eq_true rfl)⟩) (ci := 4) rfl (cC_at_50 tc ac SC) rfl hl.1 rfl (Nat.le_of_ble_eq_true rfl) dL_law_642 ⟨(Nat.le_of_ble_eq_true rfl), (Nat.le_of_ble_eq_true rfl)⟩ (fun H locs w2 => ?_)
  replace w := LW.ofc w.2.2.2.2.1 w2
  refine lv_aload_n hx hb dL_law_645 rfl (lv_at hl 2 rfl) ?_
  refine lv_aload_n hx hb dL_law_646 rfl (lv_at hl 0 rfl) ?_
  refine lv_iload_n hx hb dL_law_647 rfl (lv_at hl 3 rfl) ?_
  refine lv_iconst (v := 1) hx hb dL_law_648 (by decide) ?_
  refine lv_iadd hx hb dL_law_649 ?_
  refine va_sld hx hb hXs hbl hbA w.2.2.2.2.2.1 (lw_in (k := 1) hL hj (by decide)) dL_law_650 ?_
  refine l_calli (As := [.int (xs (nI (5 * j) + 1).toNatClampNeg)]) (rest := [.int r]) (cM_fst tm am) hXm E w.m (c_X5_mends l hXm h5) (cwV 1 hts gL_law_X5_mends rfl rfl rfl hdL_X5_mends ⟨(Nat.le_of_ble_eq_true rfl), (Nat.le_of_ble_eq_true rfl)⟩) (ci := 5) rfl (cM_at_0 tm am SM) rfl hl.1 rfl (Nat.le_of_ble_eq_true rfl) dL_law_651 ⟨(Nat.le_of_ble_eq_true rfl), (Nat.le_of_ble_eq_true rfl)⟩ (fun H locs w2 => ?_)
  replace w := LW.ofm w.2.2.2.1 w2
  refine lv_icmp_eq (tgt := 903) hx hb dL_law_654 (by decide) (fun _ => ?_) (fun h => absurd rfl h)
  exact hk w hl hR1
theorem hdL_X4_buyer : yX4_buyer.cls = RX4 ∧ yX4_buyer.cls ≠ "java/lang/invoke/MethodHandle" ∧ yX4_buyer.cls ≠ "java/lang/invoke/VarHandle" ∧ (parseMethodDescriptor yX4_buyer.desc).map (fun d => d.parameters.length) = some 2 := by decide +kernel
theorem hdL_X5_buyer : yX5_buyer.cls = RX5 ∧ yX5_buyer.cls ≠ "java/lang/invoke/MethodHandle" ∧ yX5_buyer.cls ≠ "java/lang/invoke/VarHandle" ∧ (parseMethodDescriptor yX5_buyer.desc).map (fun d => d.parameters.length) = some 2 := by decide +kernel
set_option maxHeartbeats 4000000 in
set_option maxRecDepth 100000 in
theorem law_buyer {p : Program} {l : Launch} {e : Env} {s : State} {m : MethodId} {below : List Frame} {meth : Method} {c : Code} {b L : Nat} {xs : Nat → Int32} {D : va_G} {tc tm : Nat → ClassId} {ac am : Nat → Nat} {X : State → Prop} {kd vd : Nat → Nat} {N : Nat} {Rl : ST → ST → Prop} (hXc : XOk (aW 56 ac) X) (hXm : XOk (aW 17 am) X) (hN : ∀ U : State, X U → xR kd vd ac U) (E : EN p s m #[Value.ref b] meth c cL_law RL wsL_law ret 4) (hXs : va_X b L xs s s.heap) (hbl : b < s.heap.size) (hL : L ≤ 2560) (st_buyer : ∀ (x0 : Int32) (x1 : Int32), StI Rl (fun S => f_X4_buyer N S x0 x1) (fun S => f_X5_buyer N S x0 x1)) {SC SM : ST} {H : Heap} {locs : List Loc} {ls : Array Slot} {j : Nat} (hj : 5 * j + 5 ≤ L) (w : LW D tc tm ac am X SC SM s H locs) (hl : lv_has ls 4 [(0, .ref b), (1, .ref (ac 50)), (2, .ref (am 0)), (3, .int (nI (5 * j)))]) (hR : Rl SC SM) (hk : ∀ {SC SM : ST} {H : Heap} {locs : List Loc} {ls : Array Slot}, LW D tc tm ac am X SC SM s H locs → lv_has ls 4 [(0, .ref b), (1, .ref (ac 50)), (2, .ref (am 0)), (3, .int (nI (5 * j)))] → Rl SC SM → W p l e room_1 s m #[Value.ref b] below meth c H locs 73 2420 (lw_Z below #[Value.ref b] s) (F0 m 903 ls [])) : W p l e room_1 s m #[Value.ref b] below meth c H locs 73 2420 (lw_Z below #[Value.ref b] s) (F0 m 659 ls []) := by
  obtain ⟨⟨hx, hb, hml, hown, hts⟩, hr, hlk⟩ := id E
  have hbA : ¬ (fun q : Nat => s.heap.size ≤ q) b := Nat.not_le.mpr hbl
  refine lv_aload_n hx hb dL_law_659 rfl (lv_at hl 1 rfl) ?_
  refine lv_aload_n hx hb dL_law_660 rfl (lv_at hl 0 rfl) ?_
  refine lv_iload_n hx hb dL_law_661 rfl (lv_at hl 3 rfl) ?_
  refine lv_iconst (v := 1) hx hb dL_law_662 (by decide) ?_
  refine lv_iadd hx hb dL_law_663 ?_
  refine va_sld hx hb hXs hbl hbA w.2.2.2.2.2.1 (lw_in (k := 1) hL hj (by decide)) dL_law_664 ?_
  refine lv_aload_n hx hb dL_law_665 rfl (lv_at hl 0 rfl) ?_
  refine lv_iload_n hx hb dL_law_666 rfl (lv_at hl 3 rfl) ?_
  refine lv_iconst (v := 2) hx hb dL_law_667 (by decide) ?_
  refine lv_iadd hx hb dL_law_668 ?_
  refine va_sld hx hb hXs hbl hbA w.2.2.2.2.2.1 (lw_in (k := 2) hL hj (by decide)) dL_law_669 ?_
  obtain ⟨r, SC1, SM1, h4, h5, hR1⟩ := st_buyer (xs (nI (5 * j) + 1).toNatClampNeg) (xs (nI (5 * j) + 2).toNatClampNeg) SC SM hR
  refine l_calli (As := [.int (xs (nI (5 * j) + 1).toNatClampNeg), .int (xs (nI (5 * j) + 2).toNatClampNeg)]) (rest := []) (cC_fst tc ac) hXc E w.c (c_X4_buyer l hXc h4) (cwV 2 hts gL_law_X4_buyer rfl rfl rfl hdL_X4_buyer ⟨(Nat.le_of_ble_eq_true rfl), (Nat.le_of_ble_eq_true rfl)⟩) (ci := 4) rfl (cC_at_50 tc ac SC) rfl hl.1 rfl (Nat.le_of_ble_eq_true rfl) dL_law_670 ⟨(Nat.le_of_ble_eq_true rfl), (Nat.le_of_ble_eq_true rfl)⟩ (fun H locs w2 => ?_)
  replace w := LW.ofc w.2.2.2.2.1 w2
  refine lv_aload_n hx hb dL_law_673 rfl (lv_at hl 2 rfl) ?_
  refine lv_aload_n hx hb dL_law_674 rfl (lv_at hl 0 rfl) ?_
  refine lv_iload_n hx hb dL_law_675 rfl (lv_at hl 3 rfl) ?_
  refine lv_iconst (v := 1) hx hb dL_law_676 (by decide) ?_
  refine lv_iadd hx hb dL_law_677 ?_
  refine va_sld hx hb hXs hbl hbA w.2.2.2.2.2.1 (lw_in (k := 1) hL hj (by decide)) dL_law_678 ?_
  refine lv_aload_n hx hb dL_law_679 rfl (lv_at hl 0 rfl) ?_
  refine lv_iload_n hx hb dL_law_680 rfl (lv_at hl 3 rfl) ?_
  refine lv_iconst (v := 2) hx hb dL_law_681 (by decide) ?_
  refine lv_iadd hx hb dL_law_682 ?_
  refine va_sld hx hb hXs hbl hbA w.2.2.2.2.2.1 (lw_in (k := 2) hL hj (by decide)) dL_law_683 ?_
  refine l_calli (As := [.int (xs (nI (5 * j) + 1).toNatClampNeg), .int (xs (nI (5 * j) + 2).toNatClampNeg)]) (rest := [.int r]) (cM_fst tm am) hXm E w.m (c_X5_buyer l hXm h5) (cwV 2 hts gL_law_X5_buyer rfl rfl rfl hdL_X5_buyer ⟨(Nat.le_of_ble_eq_true rfl), (Nat.le_of_ble_eq_true rfl)⟩) (ci := 5) rfl (cM_at_0 tm am SM) rfl hl.1 rfl (Nat.le_of_ble_eq_true rfl) dL_law_684 ⟨(Nat.le_of_ble_eq_true rfl), (Nat.le_of_ble_eq_true rfl)⟩ (fun H locs w2 => ?_)
  replace w := LW.ofm w.2.2.2.1 w2
  refine lv_icmp_eq (tgt := 903) hx hb dL_law_687 (by decide) (fun _ => ?_) (fun h => absurd rfl h)
  exact hk w hl hR1
theorem hdL_X4_leave : yX4_leave.cls = RX4 ∧ yX4_leave.cls ≠ "java/lang/invoke/MethodHandle" ∧ yX4_leave.cls ≠ "java/lang/invoke/VarHandle" ∧ (parseMethodDescriptor yX4_leave.desc).map (fun d => d.parameters.length) = some 0 := by decide +kernel
theorem hdL_X5_leave : yX5_leave.cls = RX5 ∧ yX5_leave.cls ≠ "java/lang/invoke/MethodHandle" ∧ yX5_leave.cls ≠ "java/lang/invoke/VarHandle" ∧ (parseMethodDescriptor yX5_leave.desc).map (fun d => d.parameters.length) = some 0 := by decide +kernel
set_option maxHeartbeats 4000000 in
set_option maxRecDepth 100000 in
theorem law_leave {p : Program} {l : Launch} {e : Env} {s : State} {m : MethodId} {below : List Frame} {meth : Method} {c : Code} {b L : Nat} {xs : Nat → Int32} {D : va_G} {tc tm : Nat → ClassId} {ac am : Nat → Nat} {X : State → Prop} {kd vd : Nat → Nat} {N : Nat} {Rl : ST → ST → Prop} (hXc : XOk (aW 56 ac) X) (hXm : XOk (aW 17 am) X) (hN : ∀ U : State, X U → xR kd vd ac U) (E : EN p s m #[Value.ref b] meth c cL_law RL wsL_law ret 4) (hXs : va_X b L xs s s.heap) (hbl : b < s.heap.size) (hL : L ≤ 2560) (st_leave :  StI Rl (fun S => f_X4_leave N S) (fun S => f_X5_leave N S)) {SC SM : ST} {H : Heap} {locs : List Loc} {ls : Array Slot} {j : Nat} (hj : 5 * j + 5 ≤ L) (w : LW D tc tm ac am X SC SM s H locs) (hl : lv_has ls 4 [(0, .ref b), (1, .ref (ac 50)), (2, .ref (am 0)), (3, .int (nI (5 * j)))]) (hR : Rl SC SM) (hk : ∀ {SC SM : ST} {H : Heap} {locs : List Loc} {ls : Array Slot}, LW D tc tm ac am X SC SM s H locs → lv_has ls 4 [(0, .ref b), (1, .ref (ac 50)), (2, .ref (am 0)), (3, .int (nI (5 * j)))] → Rl SC SM → W p l e room_1 s m #[Value.ref b] below meth c H locs 73 2420 (lw_Z below #[Value.ref b] s) (F0 m 903 ls [])) : W p l e room_1 s m #[Value.ref b] below meth c H locs 73 2420 (lw_Z below #[Value.ref b] s) (F0 m 692 ls []) := by
  obtain ⟨⟨hx, hb, hml, hown, hts⟩, hr, hlk⟩ := id E
  have hbA : ¬ (fun q : Nat => s.heap.size ≤ q) b := Nat.not_le.mpr hbl
  refine lv_aload_n hx hb dL_law_692 rfl (lv_at hl 1 rfl) ?_
  obtain ⟨r, SC1, SM1, h4, h5, hR1⟩ := st_leave  SC SM hR
  refine l_calli (As := []) (rest := []) (cC_fst tc ac) hXc E w.c (c_X4_leave l hXc h4) (cwV 0 hts gL_law_X4_leave rfl rfl rfl hdL_X4_leave ⟨(Nat.le_of_ble_eq_true rfl), (Nat.le_of_ble_eq_true rfl)⟩) (ci := 4) rfl (cC_at_50 tc ac SC) rfl hl.1 rfl (Nat.le_of_ble_eq_true rfl) dL_law_693 ⟨(Nat.le_of_ble_eq_true rfl), (Nat.le_of_ble_eq_true rfl)⟩ (fun H locs w2 => ?_)
  replace w := LW.ofc w.2.2.2.2.1 w2
  refine lv_aload_n hx hb dL_law_696 rfl (lv_at hl 2 rfl) ?_
  refine l_calli (As := []) (rest := [.int r]) (cM_fst tm am) hXm E w.m (c_X5_leave l hXm h5) (cwV 0 hts gL_law_X5_leave rfl rfl rfl hdL_X5_leave ⟨(Nat.le_of_ble_eq_true rfl), (Nat.le_of_ble_eq_true rfl)⟩) (ci := 5) rfl (cM_at_0 tm am SM) rfl hl.1 rfl (Nat.le_of_ble_eq_true rfl) dL_law_697 ⟨(Nat.le_of_ble_eq_true rfl), (Nat.le_of_ble_eq_true rfl)⟩ (fun H locs w2 => ?_)
  replace w := LW.ofm w.2.2.2.1 w2
  refine lv_icmp_eq (tgt := 903) hx hb dL_law_700 (by decide) (fun _ => ?_) (fun h => absurd rfl h)
  exact hk w hl hR1
theorem hdL_X4_takes : yX4_takes.cls = RX4 ∧ yX4_takes.cls ≠ "java/lang/invoke/MethodHandle" ∧ yX4_takes.cls ≠ "java/lang/invoke/VarHandle" ∧ (parseMethodDescriptor yX4_takes.desc).map (fun d => d.parameters.length) = some 1 := by decide +kernel
theorem hdL_X5_takes : yX5_takes.cls = RX5 ∧ yX5_takes.cls ≠ "java/lang/invoke/MethodHandle" ∧ yX5_takes.cls ≠ "java/lang/invoke/VarHandle" ∧ (parseMethodDescriptor yX5_takes.desc).map (fun d => d.parameters.length) = some 1 := by decide +kernel
set_option maxHeartbeats 4000000 in
set_option maxRecDepth 100000 in
theorem law_takes {p : Program} {l : Launch} {e : Env} {s : State} {m : MethodId} {below : List Frame} {meth : Method} {c : Code} {b L : Nat} {xs : Nat → Int32} {D : va_G} {tc tm : Nat → ClassId} {ac am : Nat → Nat} {X : State → Prop} {kd vd : Nat → Nat} {N : Nat} {Rl : ST → ST → Prop} (hXc : XOk (aW 56 ac) X) (hXm : XOk (aW 17 am) X) (hN : ∀ U : State, X U → xR kd vd ac U) (E : EN p s m #[Value.ref b] meth c cL_law RL wsL_law ret 4) (hXs : va_X b L xs s s.heap) (hbl : b < s.heap.size) (hL : L ≤ 2560) (st_takes : ∀ (x0 : Int32), StI Rl (fun S => f_X4_takes N S x0) (fun S => f_X5_takes N S x0)) {SC SM : ST} {H : Heap} {locs : List Loc} {ls : Array Slot} {j : Nat} (hj : 5 * j + 5 ≤ L) (w : LW D tc tm ac am X SC SM s H locs) (hl : lv_has ls 4 [(0, .ref b), (1, .ref (ac 50)), (2, .ref (am 0)), (3, .int (nI (5 * j)))]) (hR : Rl SC SM) (hk : ∀ {SC SM : ST} {H : Heap} {locs : List Loc} {ls : Array Slot}, LW D tc tm ac am X SC SM s H locs → lv_has ls 4 [(0, .ref b), (1, .ref (ac 50)), (2, .ref (am 0)), (3, .int (nI (5 * j)))] → Rl SC SM → W p l e room_1 s m #[Value.ref b] below meth c H locs 73 2420 (lw_Z below #[Value.ref b] s) (F0 m 903 ls [])) : W p l e room_1 s m #[Value.ref b] below meth c H locs 73 2420 (lw_Z below #[Value.ref b] s) (F0 m 705 ls []) := by
  obtain ⟨⟨hx, hb, hml, hown, hts⟩, hr, hlk⟩ := id E
  have hbA : ¬ (fun q : Nat => s.heap.size ≤ q) b := Nat.not_le.mpr hbl
  refine lv_aload_n hx hb dL_law_705 rfl (lv_at hl 1 rfl) ?_
  refine lv_aload_n hx hb dL_law_706 rfl (lv_at hl 0 rfl) ?_
  refine lv_iload_n hx hb dL_law_707 rfl (lv_at hl 3 rfl) ?_
  refine lv_iconst (v := 1) hx hb dL_law_708 (by decide) ?_
  refine lv_iadd hx hb dL_law_709 ?_
  refine va_sld hx hb hXs hbl hbA w.2.2.2.2.2.1 (lw_in (k := 1) hL hj (by decide)) dL_law_710 ?_
  obtain ⟨r, SC1, SM1, h4, h5, hR1⟩ := st_takes (xs (nI (5 * j) + 1).toNatClampNeg) SC SM hR
  refine l_calli (As := [.int (xs (nI (5 * j) + 1).toNatClampNeg)]) (rest := []) (cC_fst tc ac) hXc E w.c (c_X4_takes l hXc h4) (cwV 1 hts gL_law_X4_takes rfl rfl rfl hdL_X4_takes ⟨(Nat.le_of_ble_eq_true rfl), (Nat.le_of_ble_eq_true rfl)⟩) (ci := 4) rfl (cC_at_50 tc ac SC) rfl hl.1 rfl (Nat.le_of_ble_eq_true rfl) dL_law_711 ⟨(Nat.le_of_ble_eq_true rfl), (Nat.le_of_ble_eq_true rfl)⟩ (fun H locs w2 => ?_)
  replace w := LW.ofc w.2.2.2.2.1 w2
  refine lv_aload_n hx hb dL_law_714 rfl (lv_at hl 2 rfl) ?_
  refine lv_aload_n hx hb dL_law_715 rfl (lv_at hl 0 rfl) ?_
  refine lv_iload_n hx hb dL_law_716 rfl (lv_at hl 3 rfl) ?_
  refine lv_iconst (v := 1) hx hb dL_law_717 (by decide) ?_
  refine lv_iadd hx hb dL_law_718 ?_
  refine va_sld hx hb hXs hbl hbA w.2.2.2.2.2.1 (lw_in (k := 1) hL hj (by decide)) dL_law_719 ?_
  refine l_calli (As := [.int (xs (nI (5 * j) + 1).toNatClampNeg)]) (rest := [.int r]) (cM_fst tm am) hXm E w.m (c_X5_takes l hXm h5) (cwV 1 hts gL_law_X5_takes rfl rfl rfl hdL_X5_takes ⟨(Nat.le_of_ble_eq_true rfl), (Nat.le_of_ble_eq_true rfl)⟩) (ci := 5) rfl (cM_at_0 tm am SM) rfl hl.1 rfl (Nat.le_of_ble_eq_true rfl) dL_law_720 ⟨(Nat.le_of_ble_eq_true rfl), (Nat.le_of_ble_eq_true rfl)⟩ (fun H locs w2 => ?_)
  replace w := LW.ofm w.2.2.2.1 w2
  refine lv_icmp_eq (tgt := 903) hx hb dL_law_723 (by decide) (fun _ => ?_) (fun h => absurd rfl h)
  exact hk w hl hR1
theorem hdL_X4_asks : yX4_asks.cls = RX4 ∧ yX4_asks.cls ≠ "java/lang/invoke/MethodHandle" ∧ yX4_asks.cls ≠ "java/lang/invoke/VarHandle" ∧ (parseMethodDescriptor yX4_asks.desc).map (fun d => d.parameters.length) = some 1 := by decide +kernel
theorem hdL_X5_asks : yX5_asks.cls = RX5 ∧ yX5_asks.cls ≠ "java/lang/invoke/MethodHandle" ∧ yX5_asks.cls ≠ "java/lang/invoke/VarHandle" ∧ (parseMethodDescriptor yX5_asks.desc).map (fun d => d.parameters.length) = some 1 := by decide +kernel
set_option maxHeartbeats 4000000 in
set_option maxRecDepth 100000 in
theorem law_asks {p : Program} {l : Launch} {e : Env} {s : State} {m : MethodId} {below : List Frame} {meth : Method} {c : Code} {b L : Nat} {xs : Nat → Int32} {D : va_G} {tc tm : Nat → ClassId} {ac am : Nat → Nat} {X : State → Prop} {kd vd : Nat → Nat} {N : Nat} {Rl : ST → ST → Prop} (hXc : XOk (aW 56 ac) X) (hXm : XOk (aW 17 am) X) (hN : ∀ U : State, X U → xR kd vd ac U) (E : EN p s m #[Value.ref b] meth c cL_law RL wsL_law ret 4) (hXs : va_X b L xs s s.heap) (hbl : b < s.heap.size) (hL : L ≤ 2560) (st_asks : ∀ (x0 : Int32), StI Rl (fun S => f_X4_asks N S x0) (fun S => f_X5_asks N S x0)) {SC SM : ST} {H : Heap} {locs : List Loc} {ls : Array Slot} {j : Nat} (hj : 5 * j + 5 ≤ L) (w : LW D tc tm ac am X SC SM s H locs) (hl : lv_has ls 4 [(0, .ref b), (1, .ref (ac 50)), (2, .ref (am 0)), (3, .int (nI (5 * j)))]) (hR : Rl SC SM) (hk : ∀ {SC SM : ST} {H : Heap} {locs : List Loc} {ls : Array Slot}, LW D tc tm ac am X SC SM s H locs → lv_has ls 4 [(0, .ref b), (1, .ref (ac 50)), (2, .ref (am 0)), (3, .int (nI (5 * j)))] → Rl SC SM → W p l e room_1 s m #[Value.ref b] below meth c H locs 73 2420 (lw_Z below #[Value.ref b] s) (F0 m 903 ls [])) : W p l e room_1 s m #[Value.ref b] below meth c H locs 73 2420 (lw_Z below #[Value.ref b] s) (F0 m 728 ls []) := by
  obtain ⟨⟨hx, hb, hml, hown, hts⟩, hr, hlk⟩ := id E
  have hbA : ¬ (fun q : Nat => s.heap.size ≤ q) b := Nat.not_le.mpr hbl
  refine lv_aload_n hx hb dL_law_728 rfl (lv_at hl 1 rfl) ?_
  refine lv_aload_n hx hb dL_law_729 rfl (lv_at hl 0 rfl) ?_
  refine lv_iload_n hx hb dL_law_730 rfl (lv_at hl 3 rfl) ?_
  refine lv_iconst (v := 1) hx hb dL_law_731 (by decide) ?_
  refine lv_iadd hx hb dL_law_732 ?_
  refine va_sld hx hb hXs hbl hbA w.2.2.2.2.2.1 (lw_in (k := 1) hL hj (by decide)) dL_law_733 ?_
  obtain ⟨r, SC1, SM1, h4, h5, hR1⟩ := st_asks (xs (nI (5 * j) + 1).toNatClampNeg) SC SM hR
  refine l_calli (As := [.int (xs (nI (5 * j) + 1).toNatClampNeg)]) (rest := []) (cC_fst tc ac) hXc E w.c (c_X4_asks l hXc h4) (cwV 1 hts gL_law_X4_asks rfl rfl rfl hdL_X4_asks ⟨(Nat.le_of_ble_eq_true rfl), (Nat.le_of_ble_eq_true rfl)⟩) (ci := 4) rfl (cC_at_50 tc ac SC) rfl hl.1 rfl (Nat.le_of_ble_eq_true rfl) dL_law_734 ⟨(Nat.le_of_ble_eq_true rfl), (Nat.le_of_ble_eq_true rfl)⟩ (fun H locs w2 => ?_)
  replace w := LW.ofc w.2.2.2.2.1 w2
  refine lv_aload_n hx hb dL_law_737 rfl (lv_at hl 2 rfl) ?_
  refine lv_aload_n hx hb dL_law_738 rfl (lv_at hl 0 rfl) ?_
  refine lv_iload_n hx hb dL_law_739 rfl (lv_at hl 3 rfl) ?_
  refine lv_iconst (v := 1) hx hb dL_law_740 (by decide) ?_
  refine lv_iadd hx hb dL_law_741 ?_
  refine va_sld hx hb hXs hbl hbA w.2.2.2.2.2.1 (lw_in (k := 1) hL hj (by decide)) dL_law_742 ?_
  refine l_calli (As := [.int (xs (nI (5 * j) + 1).toNatClampNeg)]) (rest := [.int r]) (cM_fst tm am) hXm E w.m (c_X5_asks l hXm h5) (cwV 1 hts gL_law_X5_asks rfl rfl rfl hdL_X5_asks ⟨(Nat.le_of_ble_eq_true rfl), (Nat.le_of_ble_eq_true rfl)⟩) (ci := 5) rfl (cM_at_0 tm am SM) rfl hl.1 rfl (Nat.le_of_ble_eq_true rfl) dL_law_743 ⟨(Nat.le_of_ble_eq_true rfl), (Nat.le_of_ble_eq_true rfl)⟩ (fun H locs w2 => ?_)
  replace w := LW.ofm w.2.2.2.1 w2
  refine lv_icmp_eq (tgt := 903) hx hb dL_law_746 (by decide) (fun _ => ?_) (fun h => absurd rfl h)
  exact hk w hl hR1
theorem hdL_X4_changes : yX4_changes.cls = RX4 ∧ yX4_changes.cls ≠ "java/lang/invoke/MethodHandle" ∧ yX4_changes.cls ≠ "java/lang/invoke/VarHandle" ∧ (parseMethodDescriptor yX4_changes.desc).map (fun d => d.parameters.length) = some 1 := by decide +kernel
theorem hdL_X5_changes : yX5_changes.cls = RX5 ∧ yX5_changes.cls ≠ "java/lang/invoke/MethodHandle" ∧ yX5_changes.cls ≠ "java/lang/invoke/VarHandle" ∧ (parseMethodDescriptor yX5_changes.desc).map (fun d => d.parameters.length) = some 1 := by decide +kernel
set_option maxHeartbeats 4000000 in
set_option maxRecDepth 100000 in
theorem law_changes {p : Program} {l : Launch} {e : Env} {s : State} {m : MethodId} {below : List Frame} {meth : Method} {c : Code} {b L : Nat} {xs : Nat → Int32} {D : va_G} {tc tm : Nat → ClassId} {ac am : Nat → Nat} {X : State → Prop} {kd vd : Nat → Nat} {N : Nat} {Rl : ST → ST → Prop} (hXc : XOk (aW 56 ac) X) (hXm : XOk (aW 17 am) X) (hN : ∀ U : State, X U → xR kd vd ac U) (E : EN p s m #[Value.ref b] meth c cL_law RL wsL_law ret 4) (hXs : va_X b L xs s s.heap) (hbl : b < s.heap.size) (hL : L ≤ 2560) (st_changes : ∀ (x0 : Int32), StI Rl (fun S => f_X4_changes N S x0) (fun S => f_X5_changes N S x0)) {SC SM : ST} {H : Heap} {locs : List Loc} {ls : Array Slot} {j : Nat} (hj : 5 * j + 5 ≤ L) (w : LW D tc tm ac am X SC SM s H locs) (hl : lv_has ls 4 [(0, .ref b), (1, .ref (ac 50)), (2, .ref (am 0)), (3, .int (nI (5 * j)))]) (hR : Rl SC SM) (hk : ∀ {SC SM : ST} {H : Heap} {locs : List Loc} {ls : Array Slot}, LW D tc tm ac am X SC SM s H locs → lv_has ls 4 [(0, .ref b), (1, .ref (ac 50)), (2, .ref (am 0)), (3, .int (nI (5 * j)))] → Rl SC SM → W p l e room_1 s m #[Value.ref b] below meth c H locs 73 2420 (lw_Z below #[Value.ref b] s) (F0 m 903 ls [])) : W p l e room_1 s m #[Value.ref b] below meth c H locs 73 2420 (lw_Z below #[Value.ref b] s) (F0 m 751 ls []) := by
  obtain ⟨⟨hx, hb, hml, hown, hts⟩, hr, hlk⟩ := id E
  have hbA : ¬ (fun q : Nat => s.heap.size ≤ q) b := Nat.not_le.mpr hbl
  refine lv_aload_n hx hb dL_law_751 rfl (lv_at hl 1 rfl) ?_
  refine lv_aload_n hx hb dL_law_752 rfl (lv_at hl 0 rfl) ?_
  refine lv_iload_n hx hb dL_law_753 rfl (lv_at hl 3 rfl) ?_
  refine lv_iconst (v := 1) hx hb dL_law_754 (by decide) ?_
  refine lv_iadd hx hb dL_law_755 ?_
  refine va_sld hx hb hXs hbl hbA w.2.2.2.2.2.1 (lw_in (k := 1) hL hj (by decide)) dL_law_756 ?_
  obtain ⟨r, SC1, SM1, h4, h5, hR1⟩ := st_changes (xs (nI (5 * j) + 1).toNatClampNeg) SC SM hR
  refine l_calli (As := [.int (xs (nI (5 * j) + 1).toNatClampNeg)]) (rest := []) (cC_fst tc ac) hXc E w.c (c_X4_changes l hXc h4) (cwV 1 hts gL_law_X4_changes rfl rfl rfl hdL_X4_changes ⟨(Nat.le_of_ble_eq_true rfl), (Nat.le_of_ble_eq_true rfl)⟩) (ci := 4) rfl (cC_at_50 tc ac SC) rfl hl.1 rfl (Nat.le_of_ble_eq_true rfl) dL_law_757 ⟨(Nat.le_of_ble_eq_true rfl), (Nat.le_of_ble_eq_true rfl)⟩ (fun H locs w2 => ?_)
  replace w := LW.ofc w.2.2.2.2.1 w2
  refine lv_aload_n hx hb dL_law_760 rfl (lv_at hl 2 rfl) ?_
  refine lv_aload_n hx hb dL_law_761 rfl (lv_at hl 0 rfl) ?_
  refine lv_iload_n hx hb dL_law_762 rfl (lv_at hl 3 rfl) ?_
  refine lv_iconst (v := 1) hx hb dL_law_763 (by decide) ?_
  refine lv_iadd hx hb dL_law_764 ?_
  refine va_sld hx hb hXs hbl hbA w.2.2.2.2.2.1 (lw_in (k := 1) hL hj (by decide)) dL_law_765 ?_
  refine l_calli (As := [.int (xs (nI (5 * j) + 1).toNatClampNeg)]) (rest := [.int r]) (cM_fst tm am) hXm E w.m (c_X5_changes l hXm h5) (cwV 1 hts gL_law_X5_changes rfl rfl rfl hdL_X5_changes ⟨(Nat.le_of_ble_eq_true rfl), (Nat.le_of_ble_eq_true rfl)⟩) (ci := 5) rfl (cM_at_0 tm am SM) rfl hl.1 rfl (Nat.le_of_ble_eq_true rfl) dL_law_766 ⟨(Nat.le_of_ble_eq_true rfl), (Nat.le_of_ble_eq_true rfl)⟩ (fun H locs w2 => ?_)
  replace w := LW.ofm w.2.2.2.1 w2
  refine lv_icmp_eq (tgt := 903) hx hb dL_law_769 (by decide) (fun _ => ?_) (fun h => absurd rfl h)
  exact hk w hl hR1
theorem hdL_X4_wanted : yX4_wanted.cls = RX4 ∧ yX4_wanted.cls ≠ "java/lang/invoke/MethodHandle" ∧ yX4_wanted.cls ≠ "java/lang/invoke/VarHandle" ∧ (parseMethodDescriptor yX4_wanted.desc).map (fun d => d.parameters.length) = some 1 := by decide +kernel
theorem hdL_X5_wanted : yX5_wanted.cls = RX5 ∧ yX5_wanted.cls ≠ "java/lang/invoke/MethodHandle" ∧ yX5_wanted.cls ≠ "java/lang/invoke/VarHandle" ∧ (parseMethodDescriptor yX5_wanted.desc).map (fun d => d.parameters.length) = some 1 := by decide +kernel
set_option maxHeartbeats 4000000 in
set_option maxRecDepth 100000 in
theorem law_wanted {p : Program} {l : Launch} {e : Env} {s : State} {m : MethodId} {below : List Frame} {meth : Method} {c : Code} {b L : Nat} {xs : Nat → Int32} {D : va_G} {tc tm : Nat → ClassId} {ac am : Nat → Nat} {X : State → Prop} {kd vd : Nat → Nat} {N : Nat} {Rl : ST → ST → Prop} (hXc : XOk (aW 56 ac) X) (hXm : XOk (aW 17 am) X) (hN : ∀ U : State, X U → xR kd vd ac U) (E : EN p s m #[Value.ref b] meth c cL_law RL wsL_law ret 4) (hXs : va_X b L xs s s.heap) (hbl : b < s.heap.size) (hL : L ≤ 2560) (st_wanted : ∀ (x0 : Int32), StI Rl (fun S => f_X4_wanted N S x0) (fun S => f_X5_wanted N S x0)) {SC SM : ST} {H : Heap} {locs : List Loc} {ls : Array Slot} {j : Nat} (hj : 5 * j + 5 ≤ L) (w : LW D tc tm ac am X SC SM s H locs) (hl : lv_has ls 4 [(0, .ref b), (1, .ref (ac 50)), (2, .ref (am 0)), (3, .int (nI (5 * j)))]) (hR : Rl SC SM) (hk : ∀ {SC SM : ST} {H : Heap} {locs : List Loc} {ls : Array Slot}, LW D tc tm ac am X SC SM s H locs → lv_has ls 4 [(0, .ref b), (1, .ref (ac 50)), (2, .ref (am 0)), (3, .int (nI (5 * j)))] → Rl SC SM → W p l e room_1 s m #[Value.ref b] below meth c H locs 73 2420 (lw_Z below #[Value.ref b] s) (F0 m 903 ls [])) : W p l e room_1 s m #[Value.ref b] below meth c H locs 73 2420 (lw_Z below #[Value.ref b] s) (F0 m 774 ls []) := by
  obtain ⟨⟨hx, hb, hml, hown, hts⟩, hr, hlk⟩ := id E
  have hbA : ¬ (fun q : Nat => s.heap.size ≤ q) b := Nat.not_le.mpr hbl
  refine lv_aload_n hx hb dL_law_774 rfl (lv_at hl 1 rfl) ?_
  refine lv_aload_n hx hb dL_law_775 rfl (lv_at hl 0 rfl) ?_
  refine lv_iload_n hx hb dL_law_776 rfl (lv_at hl 3 rfl) ?_
  refine lv_iconst (v := 1) hx hb dL_law_777 (by decide) ?_
  refine lv_iadd hx hb dL_law_778 ?_
  refine va_sld hx hb hXs hbl hbA w.2.2.2.2.2.1 (lw_in (k := 1) hL hj (by decide)) dL_law_779 ?_
  obtain ⟨r, SC1, SM1, h4, h5, hR1⟩ := st_wanted (xs (nI (5 * j) + 1).toNatClampNeg) SC SM hR
  refine l_calli (As := [.int (xs (nI (5 * j) + 1).toNatClampNeg)]) (rest := []) (cC_fst tc ac) hXc E w.c (c_X4_wanted l hXc h4) (cwV 1 hts gL_law_X4_wanted rfl rfl rfl hdL_X4_wanted ⟨(Nat.le_of_ble_eq_true rfl), (Nat.le_of_ble_eq_true rfl)⟩) (ci := 4) rfl (cC_at_50 tc ac SC) rfl hl.1 rfl (Nat.le_of_ble_eq_true rfl) dL_law_780 ⟨(Nat.le_of_ble_eq_true rfl), (Nat.le_of_ble_eq_true rfl)⟩ (fun H locs w2 => ?_)
  replace w := LW.ofc w.2.2.2.2.1 w2
  refine lv_aload_n hx hb dL_law_783 rfl (lv_at hl 2 rfl) ?_
  refine lv_aload_n hx hb dL_law_784 rfl (lv_at hl 0 rfl) ?_
  refine lv_iload_n hx hb dL_law_785 rfl (lv_at hl 3 rfl) ?_
  refine lv_iconst (v := 1) hx hb dL_law_786 (by decide) ?_
  refine lv_iadd hx hb dL_law_787 ?_
  refine va_sld hx hb hXs hbl hbA w.2.2.2.2.2.1 (lw_in (k := 1) hL hj (by decide)) dL_law_788 ?_
  refine l_calli (As := [.int (xs (nI (5 * j) + 1).toNatClampNeg)]) (rest := [.int r]) (cM_fst tm am) hXm E w.m (c_X5_wanted l hXm h5) (cwV 1 hts gL_law_X5_wanted rfl rfl rfl hdL_X5_wanted ⟨(Nat.le_of_ble_eq_true rfl), (Nat.le_of_ble_eq_true rfl)⟩) (ci := 5) rfl (cM_at_0 tm am SM) rfl hl.1 rfl (Nat.le_of_ble_eq_true rfl) dL_law_789 ⟨(Nat.le_of_ble_eq_true rfl), (Nat.le_of_ble_eq_true rfl)⟩ (fun H locs w2 => ?_)
  replace w := LW.ofm w.2.2.2.1 w2
  refine lv_icmp_eq (tgt := 903) hx hb dL_law_792 (by decide) (fun _ => ?_) (fun h => absurd rfl h)
  exact hk w hl hR1
theorem hdL_X4_image : yX4_image.cls = RX4 ∧ yX4_image.cls ≠ "java/lang/invoke/MethodHandle" ∧ yX4_image.cls ≠ "java/lang/invoke/VarHandle" ∧ (parseMethodDescriptor yX4_image.desc).map (fun d => d.parameters.length) = some 1 := by decide +kernel
theorem hdL_X5_image : yX5_image.cls = RX5 ∧ yX5_image.cls ≠ "java/lang/invoke/MethodHandle" ∧ yX5_image.cls ≠ "java/lang/invoke/VarHandle" ∧ (parseMethodDescriptor yX5_image.desc).map (fun d => d.parameters.length) = some 1 := by decide +kernel
set_option maxHeartbeats 4000000 in
set_option maxRecDepth 100000 in
theorem law_image {p : Program} {l : Launch} {e : Env} {s : State} {m : MethodId} {below : List Frame} {meth : Method} {c : Code} {b L : Nat} {xs : Nat → Int32} {D : va_G} {tc tm : Nat → ClassId} {ac am : Nat → Nat} {X : State → Prop} {kd vd : Nat → Nat} {N : Nat} {Rl : ST → ST → Prop} (hXc : XOk (aW 56 ac) X) (hXm : XOk (aW 17 am) X) (hN : ∀ U : State, X U → xR kd vd ac U) (E : EN p s m #[Value.ref b] meth c cL_law RL wsL_law ret 4) (hXs : va_X b L xs s s.heap) (hbl : b < s.heap.size) (hL : L ≤ 2560) (st_image : ∀ (x0 : Int32), StI Rl (fun S => f_X4_image N S x0) (fun S => f_X5_image N S x0)) {SC SM : ST} {H : Heap} {locs : List Loc} {ls : Array Slot} {j : Nat} (hj : 5 * j + 5 ≤ L) (w : LW D tc tm ac am X SC SM s H locs) (hl : lv_has ls 4 [(0, .ref b), (1, .ref (ac 50)), (2, .ref (am 0)), (3, .int (nI (5 * j)))]) (hR : Rl SC SM) (hk : ∀ {SC SM : ST} {H : Heap} {locs : List Loc} {ls : Array Slot}, LW D tc tm ac am X SC SM s H locs → lv_has ls 4 [(0, .ref b), (1, .ref (ac 50)), (2, .ref (am 0)), (3, .int (nI (5 * j)))] → Rl SC SM → W p l e room_1 s m #[Value.ref b] below meth c H locs 73 2420 (lw_Z below #[Value.ref b] s) (F0 m 903 ls [])) : W p l e room_1 s m #[Value.ref b] below meth c H locs 73 2420 (lw_Z below #[Value.ref b] s) (F0 m 797 ls []) := by
  obtain ⟨⟨hx, hb, hml, hown, hts⟩, hr, hlk⟩ := id E
  have hbA : ¬ (fun q : Nat => s.heap.size ≤ q) b := Nat.not_le.mpr hbl
  refine lv_aload_n hx hb dL_law_797 rfl (lv_at hl 1 rfl) ?_
  refine lv_aload_n hx hb dL_law_798 rfl (lv_at hl 0 rfl) ?_
  refine lv_iload_n hx hb dL_law_799 rfl (lv_at hl 3 rfl) ?_
  refine lv_iconst (v := 1) hx hb dL_law_800 (by decide) ?_
  refine lv_iadd hx hb dL_law_801 ?_
  refine va_sld hx hb hXs hbl hbA w.2.2.2.2.2.1 (lw_in (k := 1) hL hj (by decide)) dL_law_802 ?_
  obtain ⟨r, SC1, SM1, h4, h5, hR1⟩ := st_image (xs (nI (5 * j) + 1).toNatClampNeg) SC SM hR
  refine l_calli (As := [.int (xs (nI (5 * j) + 1).toNatClampNeg)]) (rest := []) (cC_fst tc ac) hXc E w.c (c_X4_image l hXc h4) (cwV 1 hts gL_law_X4_image rfl rfl rfl hdL_X4_image ⟨(Nat.le_of_ble_eq_true rfl), (Nat.le_of_ble_eq_true rfl)⟩) (ci := 4) rfl (cC_at_50 tc ac SC) rfl hl.1 rfl (Nat.le_of_ble_eq_true rfl) dL_law_803 ⟨(Nat.le_of_ble_eq_true rfl), (Nat.le_of_ble_eq_true rfl)⟩ (fun H locs w2 => ?_)
  replace w := LW.ofc w.2.2.2.2.1 w2
  refine lv_aload_n hx hb dL_law_806 rfl (lv_at hl 2 rfl) ?_
  refine lv_aload_n hx hb dL_law_807 rfl (lv_at hl 0 rfl) ?_
  refine lv_iload_n hx hb dL_law_808 rfl (lv_at hl 3 rfl) ?_
  refine lv_iconst (v := 1) hx hb dL_law_809 (by decide) ?_
  refine lv_iadd hx hb dL_law_810 ?_
  refine va_sld hx hb hXs hbl hbA w.2.2.2.2.2.1 (lw_in (k := 1) hL hj (by decide)) dL_law_811 ?_
  refine l_calli (As := [.int (xs (nI (5 * j) + 1).toNatClampNeg)]) (rest := [.int r]) (cM_fst tm am) hXm E w.m (c_X5_image l hXm h5) (cwV 1 hts gL_law_X5_image rfl rfl rfl hdL_X5_image ⟨(Nat.le_of_ble_eq_true rfl), (Nat.le_of_ble_eq_true rfl)⟩) (ci := 5) rfl (cM_at_0 tm am SM) rfl hl.1 rfl (Nat.le_of_ble_eq_true rfl) dL_law_812 ⟨(Nat.le_of_ble_eq_true rfl), (Nat.le_of_ble_eq_true rfl)⟩ (fun H locs w2 => ?_)
  replace w := LW.ofm w.2.2.2.1 w2
  refine lv_icmp_eq (tgt := 903) hx hb dL_law_815 (by decide) (fun _ => ?_) (fun h => absurd rfl h)
  exact hk w hl hR1
theorem hdL_X4_from : yX4_from.cls = RX4 ∧ yX4_from.cls ≠ "java/lang/invoke/MethodHandle" ∧ yX4_from.cls ≠ "java/lang/invoke/VarHandle" ∧ (parseMethodDescriptor yX4_from.desc).map (fun d => d.parameters.length) = some 1 := by decide +kernel
theorem hdL_X5_from : yX5_from.cls = RX5 ∧ yX5_from.cls ≠ "java/lang/invoke/MethodHandle" ∧ yX5_from.cls ≠ "java/lang/invoke/VarHandle" ∧ (parseMethodDescriptor yX5_from.desc).map (fun d => d.parameters.length) = some 1 := by decide +kernel
set_option maxHeartbeats 4000000 in
set_option maxRecDepth 100000 in
theorem law_from {p : Program} {l : Launch} {e : Env} {s : State} {m : MethodId} {below : List Frame} {meth : Method} {c : Code} {b L : Nat} {xs : Nat → Int32} {D : va_G} {tc tm : Nat → ClassId} {ac am : Nat → Nat} {X : State → Prop} {kd vd : Nat → Nat} {N : Nat} {Rl : ST → ST → Prop} (hXc : XOk (aW 56 ac) X) (hXm : XOk (aW 17 am) X) (hN : ∀ U : State, X U → xR kd vd ac U) (E : EN p s m #[Value.ref b] meth c cL_law RL wsL_law ret 4) (hXs : va_X b L xs s s.heap) (hbl : b < s.heap.size) (hL : L ≤ 2560) (st_from : ∀ (x0 : Int32), StI Rl (fun S => f_X4_from N S x0) (fun S => f_X5_from N S x0)) {SC SM : ST} {H : Heap} {locs : List Loc} {ls : Array Slot} {j : Nat} (hj : 5 * j + 5 ≤ L) (w : LW D tc tm ac am X SC SM s H locs) (hl : lv_has ls 4 [(0, .ref b), (1, .ref (ac 50)), (2, .ref (am 0)), (3, .int (nI (5 * j)))]) (hR : Rl SC SM) (hk : ∀ {SC SM : ST} {H : Heap} {locs : List Loc} {ls : Array Slot}, LW D tc tm ac am X SC SM s H locs → lv_has ls 4 [(0, .ref b), (1, .ref (ac 50)), (2, .ref (am 0)), (3, .int (nI (5 * j)))] → Rl SC SM → W p l e room_1 s m #[Value.ref b] below meth c H locs 73 2420 (lw_Z below #[Value.ref b] s) (F0 m 903 ls [])) : W p l e room_1 s m #[Value.ref b] below meth c H locs 73 2420 (lw_Z below #[Value.ref b] s) (F0 m 820 ls []) := by
  obtain ⟨⟨hx, hb, hml, hown, hts⟩, hr, hlk⟩ := id E
  have hbA : ¬ (fun q : Nat => s.heap.size ≤ q) b := Nat.not_le.mpr hbl
  refine lv_aload_n hx hb dL_law_820 rfl (lv_at hl 1 rfl) ?_
  refine lv_aload_n hx hb dL_law_821 rfl (lv_at hl 0 rfl) ?_
  refine lv_iload_n hx hb dL_law_822 rfl (lv_at hl 3 rfl) ?_
  refine lv_iconst (v := 1) hx hb dL_law_823 (by decide) ?_
  refine lv_iadd hx hb dL_law_824 ?_
  refine va_sld hx hb hXs hbl hbA w.2.2.2.2.2.1 (lw_in (k := 1) hL hj (by decide)) dL_law_825 ?_
  obtain ⟨r, SC1, SM1, h4, h5, hR1⟩ := st_from (xs (nI (5 * j) + 1).toNatClampNeg) SC SM hR
  refine l_calli (As := [.int (xs (nI (5 * j) + 1).toNatClampNeg)]) (rest := []) (cC_fst tc ac) hXc E w.c (c_X4_from l hXc h4) (cwV 1 hts gL_law_X4_from rfl rfl rfl hdL_X4_from ⟨(Nat.le_of_ble_eq_true rfl), (Nat.le_of_ble_eq_true rfl)⟩) (ci := 4) rfl (cC_at_50 tc ac SC) rfl hl.1 rfl (Nat.le_of_ble_eq_true rfl) dL_law_826 ⟨(Nat.le_of_ble_eq_true rfl), (Nat.le_of_ble_eq_true rfl)⟩ (fun H locs w2 => ?_)
  replace w := LW.ofc w.2.2.2.2.1 w2
  refine lv_aload_n hx hb dL_law_829 rfl (lv_at hl 2 rfl) ?_
  refine lv_aload_n hx hb dL_law_830 rfl (lv_at hl 0 rfl) ?_
  refine lv_iload_n hx hb dL_law_831 rfl (lv_at hl 3 rfl) ?_
  refine lv_iconst (v := 1) hx hb dL_law_832 (by decide) ?_
  refine lv_iadd hx hb dL_law_833 ?_
  refine va_sld hx hb hXs hbl hbA w.2.2.2.2.2.1 (lw_in (k := 1) hL hj (by decide)) dL_law_834 ?_
  refine l_calli (As := [.int (xs (nI (5 * j) + 1).toNatClampNeg)]) (rest := [.int r]) (cM_fst tm am) hXm E w.m (c_X5_from l hXm h5) (cwV 1 hts gL_law_X5_from rfl rfl rfl hdL_X5_from ⟨(Nat.le_of_ble_eq_true rfl), (Nat.le_of_ble_eq_true rfl)⟩) (ci := 5) rfl (cM_at_0 tm am SM) rfl hl.1 rfl (Nat.le_of_ble_eq_true rfl) dL_law_835 ⟨(Nat.le_of_ble_eq_true rfl), (Nat.le_of_ble_eq_true rfl)⟩ (fun H locs w2 => ?_)
  replace w := LW.ofm w.2.2.2.1 w2
  refine lv_icmp_eq (tgt := 903) hx hb dL_law_838 (by decide) (fun _ => ?_) (fun h => absurd rfl h)
  exact hk w hl hR1
theorem hdL_X4_status : yX4_status.cls = RX4 ∧ yX4_status.cls ≠ "java/lang/invoke/MethodHandle" ∧ yX4_status.cls ≠ "java/lang/invoke/VarHandle" ∧ (parseMethodDescriptor yX4_status.desc).map (fun d => d.parameters.length) = some 1 := by decide +kernel
theorem hdL_X5_status : yX5_status.cls = RX5 ∧ yX5_status.cls ≠ "java/lang/invoke/MethodHandle" ∧ yX5_status.cls ≠ "java/lang/invoke/VarHandle" ∧ (parseMethodDescriptor yX5_status.desc).map (fun d => d.parameters.length) = some 1 := by decide +kernel
set_option maxHeartbeats 4000000 in
set_option maxRecDepth 100000 in
theorem law_status {p : Program} {l : Launch} {e : Env} {s : State} {m : MethodId} {below : List Frame} {meth : Method} {c : Code} {b L : Nat} {xs : Nat → Int32} {D : va_G} {tc tm : Nat → ClassId} {ac am : Nat → Nat} {X : State → Prop} {kd vd : Nat → Nat} {N : Nat} {Rl : ST → ST → Prop} (hXc : XOk (aW 56 ac) X) (hXm : XOk (aW 17 am) X) (hN : ∀ U : State, X U → xR kd vd ac U) (E : EN p s m #[Value.ref b] meth c cL_law RL wsL_law ret 4) (hXs : va_X b L xs s s.heap) (hbl : b < s.heap.size) (hL : L ≤ 2560) (st_status : ∀ (x0 : Int32), StI Rl (fun S => f_X4_status N S x0) (fun S => f_X5_status N S x0)) {SC SM : ST} {H : Heap} {locs : List Loc} {ls : Array Slot} {j : Nat} (hj : 5 * j + 5 ≤ L) (w : LW D tc tm ac am X SC SM s H locs) (hl : lv_has ls 4 [(0, .ref b), (1, .ref (ac 50)), (2, .ref (am 0)), (3, .int (nI (5 * j)))]) (hR : Rl SC SM) (hk : ∀ {SC SM : ST} {H : Heap} {locs : List Loc} {ls : Array Slot}, LW D tc tm ac am X SC SM s H locs → lv_has ls 4 [(0, .ref b), (1, .ref (ac 50)), (2, .ref (am 0)), (3, .int (nI (5 * j)))] → Rl SC SM → W p l e room_1 s m #[Value.ref b] below meth c H locs 73 2420 (lw_Z below #[Value.ref b] s) (F0 m 903 ls [])) : W p l e room_1 s m #[Value.ref b] below meth c H locs 73 2420 (lw_Z below #[Value.ref b] s) (F0 m 843 ls []) := by
  obtain ⟨⟨hx, hb, hml, hown, hts⟩, hr, hlk⟩ := id E
  have hbA : ¬ (fun q : Nat => s.heap.size ≤ q) b := Nat.not_le.mpr hbl
  refine lv_aload_n hx hb dL_law_843 rfl (lv_at hl 1 rfl) ?_
  refine lv_aload_n hx hb dL_law_844 rfl (lv_at hl 0 rfl) ?_
  refine lv_iload_n hx hb dL_law_845 rfl (lv_at hl 3 rfl) ?_
  refine lv_iconst (v := 1) hx hb dL_law_846 (by decide) ?_
  refine lv_iadd hx hb dL_law_847 ?_
  refine va_sld hx hb hXs hbl hbA w.2.2.2.2.2.1 (lw_in (k := 1) hL hj (by decide)) dL_law_848 ?_
  obtain ⟨r, SC1, SM1, h4, h5, hR1⟩ := st_status (xs (nI (5 * j) + 1).toNatClampNeg) SC SM hR
  refine l_calli (As := [.int (xs (nI (5 * j) + 1).toNatClampNeg)]) (rest := []) (cC_fst tc ac) hXc E w.c (c_X4_status l hXc h4) (cwV 1 hts gL_law_X4_status rfl rfl rfl hdL_X4_status ⟨(Nat.le_of_ble_eq_true rfl), (Nat.le_of_ble_eq_true rfl)⟩) (ci := 4) rfl (cC_at_50 tc ac SC) rfl hl.1 rfl (Nat.le_of_ble_eq_true rfl) dL_law_849 ⟨(Nat.le_of_ble_eq_true rfl), (Nat.le_of_ble_eq_true rfl)⟩ (fun H locs w2 => ?_)
  replace w := LW.ofc w.2.2.2.2.1 w2
  refine lv_aload_n hx hb dL_law_852 rfl (lv_at hl 2 rfl) ?_
  refine lv_aload_n hx hb dL_law_853 rfl (lv_at hl 0 rfl) ?_
  refine lv_iload_n hx hb dL_law_854 rfl (lv_at hl 3 rfl) ?_
  refine lv_iconst (v := 1) hx hb dL_law_855 (by decide) ?_
  refine lv_iadd hx hb dL_law_856 ?_
  refine va_sld hx hb hXs hbl hbA w.2.2.2.2.2.1 (lw_in (k := 1) hL hj (by decide)) dL_law_857 ?_
  refine l_calli (As := [.int (xs (nI (5 * j) + 1).toNatClampNeg)]) (rest := [.int r]) (cM_fst tm am) hXm E w.m (c_X5_status l hXm h5) (cwV 1 hts gL_law_X5_status rfl rfl rfl hdL_X5_status ⟨(Nat.le_of_ble_eq_true rfl), (Nat.le_of_ble_eq_true rfl)⟩) (ci := 5) rfl (cM_at_0 tm am SM) rfl hl.1 rfl (Nat.le_of_ble_eq_true rfl) dL_law_858 ⟨(Nat.le_of_ble_eq_true rfl), (Nat.le_of_ble_eq_true rfl)⟩ (fun H locs w2 => ?_)
  replace w := LW.ofm w.2.2.2.1 w2
  refine lv_icmp_eq (tgt := 903) hx hb dL_law_861 (by decide) (fun _ => ?_) (fun h => absurd rfl h)
  exact hk w hl hR1
theorem hdL_X4_count : yX4_count.cls = RX4 ∧ yX4_count.cls ≠ "java/lang/invoke/MethodHandle" ∧ yX4_count.cls ≠ "java/lang/invoke/VarHandle" ∧ (parseMethodDescriptor yX4_count.desc).map (fun d => d.parameters.length) = some 1 := by decide +kernel
theorem hdL_X5_count : yX5_count.cls = RX5 ∧ yX5_count.cls ≠ "java/lang/invoke/MethodHandle" ∧ yX5_count.cls ≠ "java/lang/invoke/VarHandle" ∧ (parseMethodDescriptor yX5_count.desc).map (fun d => d.parameters.length) = some 1 := by decide +kernel
set_option maxHeartbeats 4000000 in
set_option maxRecDepth 100000 in
theorem law_count {p : Program} {l : Launch} {e : Env} {s : State} {m : MethodId} {below : List Frame} {meth : Method} {c : Code} {b L : Nat} {xs : Nat → Int32} {D : va_G} {tc tm : Nat → ClassId} {ac am : Nat → Nat} {X : State → Prop} {kd vd : Nat → Nat} {N : Nat} {Rl : ST → ST → Prop} (hXc : XOk (aW 56 ac) X) (hXm : XOk (aW 17 am) X) (hN : ∀ U : State, X U → xR kd vd ac U) (E : EN p s m #[Value.ref b] meth c cL_law RL wsL_law ret 4) (hXs : va_X b L xs s s.heap) (hbl : b < s.heap.size) (hL : L ≤ 2560) (st_count : ∀ (x0 : Int32), StI Rl (fun S => f_X4_count N S x0) (fun S => f_X5_count N S x0)) {SC SM : ST} {H : Heap} {locs : List Loc} {ls : Array Slot} {j : Nat} (hj : 5 * j + 5 ≤ L) (w : LW D tc tm ac am X SC SM s H locs) (hl : lv_has ls 4 [(0, .ref b), (1, .ref (ac 50)), (2, .ref (am 0)), (3, .int (nI (5 * j)))]) (hR : Rl SC SM) (hk : ∀ {SC SM : ST} {H : Heap} {locs : List Loc} {ls : Array Slot}, LW D tc tm ac am X SC SM s H locs → lv_has ls 4 [(0, .ref b), (1, .ref (ac 50)), (2, .ref (am 0)), (3, .int (nI (5 * j)))] → Rl SC SM → W p l e room_1 s m #[Value.ref b] below meth c H locs 73 2420 (lw_Z below #[Value.ref b] s) (F0 m 903 ls [])) : W p l e room_1 s m #[Value.ref b] below meth c H locs 73 2420 (lw_Z below #[Value.ref b] s) (F0 m 866 ls []) := by
  obtain ⟨⟨hx, hb, hml, hown, hts⟩, hr, hlk⟩ := id E
  have hbA : ¬ (fun q : Nat => s.heap.size ≤ q) b := Nat.not_le.mpr hbl
  refine lv_aload_n hx hb dL_law_866 rfl (lv_at hl 1 rfl) ?_
  refine lv_aload_n hx hb dL_law_867 rfl (lv_at hl 0 rfl) ?_
  refine lv_iload_n hx hb dL_law_868 rfl (lv_at hl 3 rfl) ?_
  refine lv_iconst (v := 1) hx hb dL_law_869 (by decide) ?_
  refine lv_iadd hx hb dL_law_870 ?_
  refine va_sld hx hb hXs hbl hbA w.2.2.2.2.2.1 (lw_in (k := 1) hL hj (by decide)) dL_law_871 ?_
  obtain ⟨r, SC1, SM1, h4, h5, hR1⟩ := st_count (xs (nI (5 * j) + 1).toNatClampNeg) SC SM hR
  refine l_calli (As := [.int (xs (nI (5 * j) + 1).toNatClampNeg)]) (rest := []) (cC_fst tc ac) hXc E w.c (c_X4_count l hXc h4) (cwV 1 hts gL_law_X4_count rfl rfl rfl hdL_X4_count ⟨(Nat.le_of_ble_eq_true rfl), (Nat.le_of_ble_eq_true rfl)⟩) (ci := 4) rfl (cC_at_50 tc ac SC) rfl hl.1 rfl (Nat.le_of_ble_eq_true rfl) dL_law_872 ⟨(Nat.le_of_ble_eq_true rfl), (Nat.le_of_ble_eq_true rfl)⟩ (fun H locs w2 => ?_)
  replace w := LW.ofc w.2.2.2.2.1 w2
  refine lv_aload_n hx hb dL_law_875 rfl (lv_at hl 2 rfl) ?_
  refine lv_aload_n hx hb dL_law_876 rfl (lv_at hl 0 rfl) ?_
  refine lv_iload_n hx hb dL_law_877 rfl (lv_at hl 3 rfl) ?_
  refine lv_iconst (v := 1) hx hb dL_law_878 (by decide) ?_
  refine lv_iadd hx hb dL_law_879 ?_
  refine va_sld hx hb hXs hbl hbA w.2.2.2.2.2.1 (lw_in (k := 1) hL hj (by decide)) dL_law_880 ?_
  refine l_calli (As := [.int (xs (nI (5 * j) + 1).toNatClampNeg)]) (rest := [.int r]) (cM_fst tm am) hXm E w.m (c_X5_count l hXm h5) (cwV 1 hts gL_law_X5_count rfl rfl rfl hdL_X5_count ⟨(Nat.le_of_ble_eq_true rfl), (Nat.le_of_ble_eq_true rfl)⟩) (ci := 5) rfl (cM_at_0 tm am SM) rfl hl.1 rfl (Nat.le_of_ble_eq_true rfl) dL_law_881 ⟨(Nat.le_of_ble_eq_true rfl), (Nat.le_of_ble_eq_true rfl)⟩ (fun H locs w2 => ?_)
  replace w := LW.ofm w.2.2.2.1 w2
  refine lv_icmp_eq (tgt := 903) hx hb dL_law_884 (by decide) (fun _ => ?_) (fun h => absurd rfl h)
  exact hk w hl hR1
theorem hdL_X4_digest : yX4_digest.cls = RX4 ∧ yX4_digest.cls ≠ "java/lang/invoke/MethodHandle" ∧ yX4_digest.cls ≠ "java/lang/invoke/VarHandle" ∧ (parseMethodDescriptor yX4_digest.desc).map (fun d => d.parameters.length) = some 0 := by decide +kernel
theorem hdL_X5_digest : yX5_digest.cls = RX5 ∧ yX5_digest.cls ≠ "java/lang/invoke/MethodHandle" ∧ yX5_digest.cls ≠ "java/lang/invoke/VarHandle" ∧ (parseMethodDescriptor yX5_digest.desc).map (fun d => d.parameters.length) = some 0 := by decide +kernel
set_option maxHeartbeats 4000000 in
set_option maxRecDepth 100000 in
theorem law_digest {p : Program} {l : Launch} {e : Env} {s : State} {m : MethodId} {below : List Frame} {meth : Method} {c : Code} {b L : Nat} {xs : Nat → Int32} {D : va_G} {tc tm : Nat → ClassId} {ac am : Nat → Nat} {X : State → Prop} {kd vd : Nat → Nat} {N : Nat} {Rl : ST → ST → Prop} (hXc : XOk (aW 56 ac) X) (hXm : XOk (aW 17 am) X) (hN : ∀ U : State, X U → xR kd vd ac U) (E : EN p s m #[Value.ref b] meth c cL_law RL wsL_law ret 4) (hXs : va_X b L xs s s.heap) (hbl : b < s.heap.size) (hL : L ≤ 2560) (st_digest :  StL Rl (fun S => f_X4_digest N S) (fun S => f_X5_digest N S)) {SC SM : ST} {H : Heap} {locs : List Loc} {ls : Array Slot} {j : Nat} (hj : 5 * j + 5 ≤ L) (w : LW D tc tm ac am X SC SM s H locs) (hl : lv_has ls 4 [(0, .ref b), (1, .ref (ac 50)), (2, .ref (am 0)), (3, .int (nI (5 * j)))]) (hR : Rl SC SM) (hk : ∀ {SC SM : ST} {H : Heap} {locs : List Loc} {ls : Array Slot}, LW D tc tm ac am X SC SM s H locs → lv_has ls 4 [(0, .ref b), (1, .ref (ac 50)), (2, .ref (am 0)), (3, .int (nI (5 * j)))] → Rl SC SM → W p l e room_1 s m #[Value.ref b] below meth c H locs 73 2420 (lw_Z below #[Value.ref b] s) (F0 m 903 ls [])) : W p l e room_1 s m #[Value.ref b] below meth c H locs 73 2420 (lw_Z below #[Value.ref b] s) (F0 m 889 ls []) := by
  obtain ⟨⟨hx, hb, hml, hown, hts⟩, hr, hlk⟩ := id E
  have hbA : ¬ (fun q : Nat => s.heap.size ≤ q) b := Nat.not_le.mpr hbl
  refine lv_aload_n hx hb dL_law_889 rfl (lv_at hl 1 rfl) ?_
  obtain ⟨r, SC1, SM1, h4, h5, hR1⟩ := st_digest  SC SM hR
  refine l_calll (As := []) (rest := []) (cC_fst tc ac) hXc E w.c (c_X4_digest l hXc h4) (cwV 0 hts gL_law_X4_digest rfl rfl rfl hdL_X4_digest ⟨(Nat.le_of_ble_eq_true rfl), (Nat.le_of_ble_eq_true rfl)⟩) (ci := 4) rfl (cC_at_50 tc ac SC) rfl hl.1 rfl (Nat.le_of_ble_eq_true rfl) dL_law_890 ⟨(Nat.le_of_ble_eq_true rfl), (Nat.le_of_ble_eq_true rfl)⟩ (fun H locs w2 => ?_)
  replace w := LW.ofc w.2.2.2.2.1 w2
  refine lv_aload_n hx hb dL_law_893 rfl (lv_at hl 2 rfl) ?_
  refine l_calll (As := []) (rest := [.long r]) (cM_fst tm am) hXm E w.m (c_X5_digest l hXm h5) (cwV 0 hts gL_law_X5_digest rfl rfl rfl hdL_X5_digest ⟨(Nat.le_of_ble_eq_true rfl), (Nat.le_of_ble_eq_true rfl)⟩) (ci := 5) rfl (cM_at_0 tm am SM) rfl hl.1 rfl (Nat.le_of_ble_eq_true rfl) dL_law_894 ⟨(Nat.le_of_ble_eq_true rfl), (Nat.le_of_ble_eq_true rfl)⟩ (fun H locs w2 => ?_)
  replace w := LW.ofm w.2.2.2.1 w2
  refine W.lcmp hx hb dL_law_897 ?_
  refine lv_if_eq (tgt := 903) hx hb dL_law_898 (by decide) (fun _ => ?_) (fun h => absurd (lg_same r) h)
  exact hk w hl hR1
set_option maxHeartbeats 4000000 in
set_option maxRecDepth 100000 in
theorem law_loop {p : Program} {l : Launch} {e : Env} {s : State} {m : MethodId} {below : List Frame} {meth : Method} {c : Code} {b L : Nat} {xs : Nat → Int32} {D : va_G} {tc tm : Nat → ClassId} {ac am : Nat → Nat} {X : State → Prop} {kd vd : Nat → Nat} {N : Nat} {Rl : ST → ST → Prop} (hXc : XOk (aW 56 ac) X) (hXm : XOk (aW 17 am) X) (hN : ∀ U : State, X U → xR kd vd ac U) (E : EN p s m #[Value.ref b] meth c cL_law RL wsL_law ret 4) (hXs : va_X b L xs s s.heap) (hbl : b < s.heap.size) (hL : L ≤ 2560) (hlocks : meth.locks = false) (st_shop : ∀ (x0 : Int32) (x1 : Int32) (x2 : Int32) (x3 : Int32), StI Rl (fun S => f_X4_shop N S x0 x1 x2 x3) (fun S => f_X5_shop N S x0 x1 x2 x3)) (st_next : ∀ (x0 : Int32) (x1 : Int32) (x2 : Int32), (x2 = 0 ∨ x2 = 1) → StI Rl (fun S => f_X4_next N S x0 x1 x2) (fun S => f_X5_next N S x0 x1 x2)) (st_free : ∀ (x0 : Int32) (x1 : Int32), (x1 = 0 ∨ x1 = 1) → StI Rl (fun S => f_X4_free N S x0 x1) (fun S => f_X5_free N S x0 x1)) (st_put : ∀ (x0 : Int32) (x1 : Int32), StI Rl (fun S => f_X4_put N S x0 x1) (fun S => f_X5_put N S x0 x1)) (st_price : ∀ (x0 : Int32) (x1 : Int32), StI Rl (fun S => f_X4_price N S x0 x1) (fun S => f_X5_price N S x0 x1)) (st_type : ∀ (x0 : Int64) (x1 : Int32), StI Rl (fun S => f_X4_type N S x0 x1) (fun S => f_X5_type N S x0 x1)) (st_clear :  StI Rl (fun S => f_X4_clear N S) (fun S => f_X5_clear N S)) (st_read :  StI Rl (fun S => f_X4_read N S) (fun S => f_X5_read N S)) (st_errand : ∀ (x0 : Int32), StI Rl (fun S => f_X4_errand N S x0) (fun S => f_X5_errand N S x0)) (st_cheapest : ∀ (x0 : Int32) (x1 : Int32), StI Rl (fun S => f_X4_cheapest N S x0 x1) (fun S => f_X5_cheapest N S x0 x1)) (st_row : ∀ (x0 : Int32) (x1 : Int32), StI Rl (fun S => f_X4_row N S x0 x1) (fun S => f_X5_row N S x0 x1)) (st_soonest : ∀ (x0 : Int32), StI Rl (fun S => f_X4_soonest N S x0) (fun S => f_X5_soonest N S x0)) (st_worth : ∀ (x0 : Int32) (x1 : Int32), StI Rl (fun S => f_X4_worth N S x0 x1) (fun S => f_X5_worth N S x0 x1)) (st_shutOut : ∀ (x0 : Int32), StI Rl (fun S => f_X4_shutOut N S x0) (fun S => f_X5_shutOut N S x0)) (st_mends : ∀ (x0 : Int32), StI Rl (fun S => f_X4_mends N S x0) (fun S => f_X5_mends N S x0)) (st_buyer : ∀ (x0 : Int32) (x1 : Int32), StI Rl (fun S => f_X4_buyer N S x0 x1) (fun S => f_X5_buyer N S x0 x1)) (st_leave :  StI Rl (fun S => f_X4_leave N S) (fun S => f_X5_leave N S)) (st_takes : ∀ (x0 : Int32), StI Rl (fun S => f_X4_takes N S x0) (fun S => f_X5_takes N S x0)) (st_asks : ∀ (x0 : Int32), StI Rl (fun S => f_X4_asks N S x0) (fun S => f_X5_asks N S x0)) (st_changes : ∀ (x0 : Int32), StI Rl (fun S => f_X4_changes N S x0) (fun S => f_X5_changes N S x0)) (st_wanted : ∀ (x0 : Int32), StI Rl (fun S => f_X4_wanted N S x0) (fun S => f_X5_wanted N S x0)) (st_image : ∀ (x0 : Int32), StI Rl (fun S => f_X4_image N S x0) (fun S => f_X5_image N S x0)) (st_from : ∀ (x0 : Int32), StI Rl (fun S => f_X4_from N S x0) (fun S => f_X5_from N S x0)) (st_status : ∀ (x0 : Int32), StI Rl (fun S => f_X4_status N S x0) (fun S => f_X5_status N S x0)) (st_count : ∀ (x0 : Int32), StI Rl (fun S => f_X4_count N S x0) (fun S => f_X5_count N S x0)) (st_digest :  StL Rl (fun S => f_X4_digest N S) (fun S => f_X5_digest N S)) : ∀ (n : Nat) {SC SM : ST} {H : Heap} {locs : List Loc} {ls : Array Slot} {j : Nat}, L < 5 * j + n → 5 * j ≤ L → LW D tc tm ac am X SC SM s H locs → lv_has ls 4 [(0, .ref b), (1, .ref (ac 50)), (2, .ref (am 0)), (3, .int (nI (5 * j)))] → Rl SC SM → W p l e room_1 s m #[Value.ref b] below meth c H locs 73 2420 (lw_Z below #[Value.ref b] s) (F0 m 18 ls []) := by
  obtain ⟨⟨hx, hb, hml, hown, hts⟩, hr, hlk⟩ := id E
  have hbA : ¬ (fun q : Nat => s.heap.size ≤ q) b := Nat.not_le.mpr hbl
  intro n
  induction n with
  | zero => intro SC SM H locs ls j h1 h2; omega
  | succ n ih =>
    intro SC SM H locs ls j h1 h2 w hl hR
    refine lv_iload_n hx hb dL_law_18 rfl (lv_at hl 3 rfl) ?_
    refine lv_aload_n hx hb dL_law_19 rfl (lv_at hl 0 rfl) ?_
    refine va_slen hx hb hXs hbl hbA w.2.2.2.2.2.1 dL_law_20 ?_
    refine lv_iconst (v := 5) hx hb dL_law_21 (by decide) ?_
    refine lv_isub hx hb dL_law_22 ?_
    refine lv_icmp_gt (tgt := 909) hx hb dL_law_23 (by decide) (fun _ => ?_) (fun h3 => ?_)
    · refine lv_iconst (v := 1) hx hb dL_law_909 (by decide) ?_
      refine va_forget w.2.2.2.2.2.1.2.2 ?_
      refine W.widen (k := 600000) (n := 7302249) (Nat.le_of_ble_eq_true rfl) (Nat.le_of_ble_eq_true rfl) ?_
      exact lw_ret hx hb hr hlk dL_law_910
    · have hj : 5 * j + 5 ≤ L := Nat.not_lt.mp fun h => h3 ((lw_cmp hL (by omega)).mpr h)
      have hk : ∀ {SC SM : ST} {H : Heap} {locs : List Loc} {ls : Array Slot}, LW D tc tm ac am X SC SM s H locs → lv_has ls 4 [(0, .ref b), (1, .ref (ac 50)), (2, .ref (am 0)), (3, .int (nI (5 * j)))] → Rl SC SM → W p l e room_1 s m #[Value.ref b] below meth c H locs 73 2420 (lw_Z below #[Value.ref b] s) (F0 m 903 ls []) := by
        intro SC SM H locs ls w hl hR
        refine lv_iinc (v := nI (5 * (j + 1))) (lv' := [(3, .int (nI (5 * (j + 1)))), (0, .ref b), (1, .ref (ac 50)), (2, .ref (am 0))]) hx hb dL_law_903 hl (k := 3) rfl (by rw [show Int32.ofInt 5 = nI 5 from rfl, nI_add]; rfl) (by decide) rfl (fun ls hl => ?_)
        refine lv_goto (tgt := 18) hx hb dL_law_906 (by decide) ?_
        exact ih (by omega) (by omega) w (lv_sub hl [1, 2, 3, 0] rfl) hR
      refine lv_aload_n hx hb dL_law_26 rfl (lv_at hl 0 rfl) ?_
      refine lv_iload_n hx hb dL_law_27 rfl (lv_at hl 3 rfl) ?_
      refine va_sld hx hb hXs hbl hbA w.2.2.2.2.2.1 (vp_in_nI (by omega) (by omega)) dL_law_28 ?_
      refine lv_bipush (v := 31) hx hb dL_law_29 (by decide) ?_
      refine lv_iand hx hb dL_law_31 ?_
      obtain ⟨k, hk5, ek⟩ := pk_andE (xs (nI (5 * j)).toNatClampNeg) (m := 31) 5 (by decide)
      rw [ek]
      replace hk5 : k < 32 := hk5
      rcases (show k = 0 ∨ k = 1 ∨ k = 2 ∨ k = 3 ∨ k = 4 ∨ k = 5 ∨ k = 6 ∨ k = 7 ∨ k = 8 ∨ k = 9 ∨ k = 10 ∨ k = 11 ∨ k = 12 ∨ k = 13 ∨ k = 14 ∨ k = 15 ∨ k = 16 ∨ k = 17 ∨ k = 18 ∨ k = 19 ∨ k = 20 ∨ k = 21 ∨ k = 22 ∨ k = 23 ∨ k = 24 ∨ k = 25 ∨ 26 ≤ k by omega) with rfl | rfl | rfl | rfl | rfl | rfl | rfl | rfl | rfl | rfl | rfl | rfl | rfl | rfl | rfl | rfl | rfl | rfl | rfl | rfl | rfl | rfl | rfl | rfl | rfl | rfl | hk6
      · refine lv_tableIn (tgt := 152) (off := 120) hx hb dL_law_32 (by decide) (by decide) rfl (by decide) ?_
        exact law_shop hXc hXm hN E hXs hbl hL st_shop hj w hl hR hk
      · refine lv_tableIn (tgt := 205) (off := 173) hx hb dL_law_32 (by decide) (by decide) rfl (by decide) ?_
        exact law_next hXc hXm hN E hXs hbl hL st_next hj w hl hR hk
      · refine lv_tableIn (tgt := 264) (off := 232) hx hb dL_law_32 (by decide) (by decide) rfl (by decide) ?_
        exact law_free hXc hXm hN E hXs hbl hL st_free hj w hl hR hk
      · refine lv_tableIn (tgt := 313) (off := 281) hx hb dL_law_32 (by decide) (by decide) rfl (by decide) ?_
        exact law_put hXc hXm hN E hXs hbl hL st_put hj w hl hR hk
      · refine lv_tableIn (tgt := 346) (off := 314) hx hb dL_law_32 (by decide) (by decide) rfl (by decide) ?_
        exact law_price hXc hXm hN E hXs hbl hL st_price hj w hl hR hk
      · refine lv_tableIn (tgt := 379) (off := 347) hx hb dL_law_32 (by decide) (by decide) rfl (by decide) ?_
        exact law_type hXc hXm hN E hXs hbl hL st_type hj w hl hR hk
      · refine lv_tableIn (tgt := 442) (off := 410) hx hb dL_law_32 (by decide) (by decide) rfl (by decide) ?_
        exact law_clear hXc hXm hN E hXs hbl hL st_clear hj w hl hR hk
      · refine lv_tableIn (tgt := 455) (off := 423) hx hb dL_law_32 (by decide) (by decide) rfl (by decide) ?_
        exact law_read hXc hXm hN E hXs hbl hL st_read hj w hl hR hk
      · refine lv_tableIn (tgt := 468) (off := 436) hx hb dL_law_32 (by decide) (by decide) rfl (by decide) ?_
        exact law_errand hXc hXm hN E hXs hbl hL st_errand hj w hl hR hk
      · refine lv_tableIn (tgt := 491) (off := 459) hx hb dL_law_32 (by decide) (by decide) rfl (by decide) ?_
        exact law_cheapest hXc hXm hN E hXs hbl hL st_cheapest hj w hl hR hk
      · refine lv_tableIn (tgt := 524) (off := 492) hx hb dL_law_32 (by decide) (by decide) rfl (by decide) ?_
        exact law_row hXc hXm hN E hXs hbl hL st_row hj w hl hR hk
      · refine lv_tableIn (tgt := 557) (off := 525) hx hb dL_law_32 (by decide) (by decide) rfl (by decide) ?_
        exact law_soonest hXc hXm hN E hXs hbl hL st_soonest hj w hl hR hk
      · refine lv_tableIn (tgt := 580) (off := 548) hx hb dL_law_32 (by decide) (by decide) rfl (by decide) ?_
        exact law_worth hXc hXm hN E hXs hbl hL st_worth hj w hl hR hk
      · refine lv_tableIn (tgt := 613) (off := 581) hx hb dL_law_32 (by decide) (by decide) rfl (by decide) ?_
        exact law_shutOut hXc hXm hN E hXs hbl hL st_shutOut hj w hl hR hk
      · refine lv_tableIn (tgt := 636) (off := 604) hx hb dL_law_32 (by decide) (by decide) rfl (by decide) ?_
        exact law_mends hXc hXm hN E hXs hbl hL st_mends hj w hl hR hk
      · refine lv_tableIn (tgt := 659) (off := 627) hx hb dL_law_32 (by decide) (by decide) rfl (by decide) ?_
        exact law_buyer hXc hXm hN E hXs hbl hL st_buyer hj w hl hR hk
      · refine lv_tableIn (tgt := 692) (off := 660) hx hb dL_law_32 (by decide) (by decide) rfl (by decide) ?_
        exact law_leave hXc hXm hN E hXs hbl hL st_leave hj w hl hR hk
      · refine lv_tableIn (tgt := 705) (off := 673) hx hb dL_law_32 (by decide) (by decide) rfl (by decide) ?_
        exact law_takes hXc hXm hN E hXs hbl hL st_takes hj w hl hR hk
      · refine lv_tableIn (tgt := 728) (off := 696) hx hb dL_law_32 (by decide) (by decide) rfl (by decide) ?_
        exact law_asks hXc hXm hN E hXs hbl hL st_asks hj w hl hR hk
      · refine lv_tableIn (tgt := 751) (off := 719) hx hb dL_law_32 (by decide) (by decide) rfl (by decide) ?_
        exact law_changes hXc hXm hN E hXs hbl hL st_changes hj w hl hR hk
      · refine lv_tableIn (tgt := 774) (off := 742) hx hb dL_law_32 (by decide) (by decide) rfl (by decide) ?_
        exact law_wanted hXc hXm hN E hXs hbl hL st_wanted hj w hl hR hk
      · refine lv_tableIn (tgt := 797) (off := 765) hx hb dL_law_32 (by decide) (by decide) rfl (by decide) ?_
        exact law_image hXc hXm hN E hXs hbl hL st_image hj w hl hR hk
      · refine lv_tableIn (tgt := 820) (off := 788) hx hb dL_law_32 (by decide) (by decide) rfl (by decide) ?_
        exact law_from hXc hXm hN E hXs hbl hL st_from hj w hl hR hk
      · refine lv_tableIn (tgt := 843) (off := 811) hx hb dL_law_32 (by decide) (by decide) rfl (by decide) ?_
        exact law_status hXc hXm hN E hXs hbl hL st_status hj w hl hR hk
      · refine lv_tableIn (tgt := 866) (off := 834) hx hb dL_law_32 (by decide) (by decide) rfl (by decide) ?_
        exact law_count hXc hXm hN E hXs hbl hL st_count hj w hl hR hk
      · refine lv_tableIn (tgt := 889) (off := 857) hx hb dL_law_32 (by decide) (by decide) rfl (by decide) ?_
        exact law_digest hXc hXm hN E hXs hbl hL st_digest hj w hl hR hk
      · refine lv_tableOut (tgt := 903) hx hb dL_law_32 (Or.inr (by rw [nI_toInt (by omega)]; omega)) (by decide) ?_
        exact hk w hl hR
