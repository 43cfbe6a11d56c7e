-- X5_mends
theorem hd_X5_isNewPair : yX5_isNewPair.cls = RX5 ∧ yX5_isNewPair.cls ≠ "java/lang/invoke/MethodHandle" ∧ yX5_isNewPair.cls ≠ "java/lang/invoke/VarHandle" ∧ (parseMethodDescriptor yX5_isNewPair.desc).map (fun d => d.parameters.length) = some 1 := by decide +kernel
abbrev rmX5_mends : Room := { frames := 7, cells := 0, slots := 0, locals := 158 }
set_option maxHeartbeats 4000000 in
set_option maxRecDepth 100000 in
theorem k_X5_mends_227 {p : Program} {l : Launch} {e : Env} {s : State} {m : MethodId} {args : Array Value} {below : List Frame} {meth : Method} {c : Code} {D : va_G} {t : Nat → ClassId} {a : Nat → Nat} {X : State → Prop} {N : Nat} {r : Int32} {S' : ST} (hX : XOk (aW 17 a) X) (E : EN p s m args meth c cX5_mends RX5 wsX5_mends (some .int) 8) {k57 : ST → Int32 → Int32 → Int32 → Int32 → Int32 → Option (Int32 × ST)} (hk57 : ∀ {S : ST} {x1 : Int32} {x2 : Int32} {x3 : Int32} {x4 : Int32} {x5 : Int32} {H : Heap} {locs : List Loc} {ls : Array Slot}, Wd D (cM t a) (aW 17 a) (tyM t) X S s H locs → lv_has ls 8 [(0, .ref (a 0)), (1, .int x1), (2, .int x2), (3, .int x3), (4, .int x4), (5, .int x5)] → k57 S x1 x2 x3 x4 x5 = some (r, S') → W p l e rmX5_mends s m args below meth c H locs 0 0 (MQ below (Qi D (cM t a) (aW 17 a) (tyM t) r S') args s 0 0 (aW 17 a)) (F0 m 57 ls [])) {S : ST} {x1 : Int32} {x2 : Int32} {x3 : Int32} {x4 : Int32} {x5 : Int32} {H : Heap} {locs : List Loc} {ls : Array Slot} (w : Wd D (cM t a) (aW 17 a) (tyM t) X S s H locs) (hl : lv_has ls 8 [(0, .ref (a 0)), (1, .int x1), (2, .int x2), (3, .int x3), (4, .int x4), (5, .int x5)]) (hf : b_X5_mends_227 N k57 S x1 x2 x3 x4 x5 = some (r, S')) : W p l e rmX5_mends s m args below meth c H locs 0 0 (MQ below (Qi D (cM t a) (aW 17 a) (tyM t) r S') args s 0 0 (aW 17 a)) (F0 m 227 ls []) := by
  obtain ⟨⟨hx, hb, hml, hown, hts⟩, hr, hlk⟩ := id E
  unfold b_X5_mends_227 at hf
  refine lv_iinc (v := x5 + 1) (lv' := [(5, .int (x5 + 1)), (0, .ref (a 0)), (1, .int x1), (2, .int x2), (3, .int x3), (4, .int x4)]) hx hb dX5_mends_227 hl (k := 5) rfl rfl (by decide) rfl (fun ls hl => ?_)
  refine lv_goto (tgt := 57) hx hb dX5_mends_230 (by decide) ?_
  exact hk57 w (lv_sub hl [1, 2, 3, 4, 5, 0] rfl) hf
set_option maxHeartbeats 4000000 in
set_option maxRecDepth 100000 in
theorem k_X5_mends_202 {p : Program} {l : Launch} {e : Env} {s : State} {m : MethodId} {args : Array Value} {below : List Frame} {meth : Method} {c : Code} {D : va_G} {t : Nat → ClassId} {a : Nat → Nat} {X : State → Prop} {N : Nat} {r : Int32} {S' : ST} (hX : XOk (aW 17 a) X) (E : EN p s m args meth c cX5_mends RX5 wsX5_mends (some .int) 8) {k57 : ST → Int32 → Int32 → Int32 → Int32 → Int32 → Option (Int32 × ST)} (hk57 : ∀ {S : ST} {x1 : Int32} {x2 : Int32} {x3 : Int32} {x4 : Int32} {x5 : Int32} {H : Heap} {locs : List Loc} {ls : Array Slot}, Wd D (cM t a) (aW 17 a) (tyM t) X S s H locs → lv_has ls 8 [(0, .ref (a 0)), (1, .int x1), (2, .int x2), (3, .int x3), (4, .int x4), (5, .int x5)] → k57 S x1 x2 x3 x4 x5 = some (r, S') → W p l e rmX5_mends s m args below meth c H locs 0 0 (MQ below (Qi D (cM t a) (aW 17 a) (tyM t) r S') args s 0 0 (aW 17 a)) (F0 m 57 ls [])) {S : ST} {x1 : Int32} {x2 : Int32} {x3 : Int32} {x4 : Int32} {x5 : Int32} {x6 : Int32} {H : Heap} {locs : List Loc} {ls : Array Slot} (w : Wd D (cM t a) (aW 17 a) (tyM t) X S s H locs) (hl : lv_has ls 8 [(0, .ref (a 0)), (1, .int x1), (2, .int x2), (3, .int x3), (4, .int x4), (5, .int x5), (6, .int x6)]) (hf : b_X5_mends_202 N k57 S x1 x2 x3 x4 x5 x6 = some (r, S')) : W p l e rmX5_mends s m args below meth c H locs 0 0 (MQ below (Qi D (cM t a) (aW 17 a) (tyM t) r S') args s 0 0 (aW 17 a)) (F0 m 202 ls []) := by
  obtain ⟨⟨hx, hb, hml, hown, hts⟩, hr, hlk⟩ := id E
  unfold b_X5_mends_202 at hf
  refine lv_aload_n hx hb dX5_mends_202 rfl (lv_at hl 0 rfl) ?_
  refine lv_iload hx hb dX5_mends_203 (lv_at hl 5 rfl) ?_
  refine lv_aload_n hx hb dX5_mends_205 rfl (lv_at hl 0 rfl) ?_
  obtain ⟨r73, S72, h71, hf⟩ := bd2_o hf
  refine w_callVi (As := []) (rest := [.int x5, .ref (a 0)]) hX E w (c_X5_shops l hX h71) (cwV 0 hts gX5_mends_X5_shops rfl rfl rfl hd_X5_shops ⟨Nat.le_of_ble_eq_true rfl, Nat.le_of_ble_eq_true rfl⟩) (ci := 5) rfl (cM_at_0 t a S) rfl hl.1 rfl (Nat.le_of_ble_eq_true rfl) dX5_mends_206 ⟨Nat.le_refl _, Nat.le_refl _⟩ (fun H locs w => ?_)
  obtain ⟨h74, hf⟩ := it_n hf
  refine lv_idiv hx hb dX5_mends_209 h74 ?_
  refine lv_iload hx hb dX5_mends_210 (lv_at hl 5 rfl) ?_
  refine lv_aload_n hx hb dX5_mends_212 rfl (lv_at hl 0 rfl) ?_
  obtain ⟨r77, S76, h75, hf⟩ := bd2_o hf
  refine w_callVi (As := []) (rest := [.int x5, .int (x5 / r73), .ref (a 0)]) hX E w (c_X5_shops l hX h75) (cwV 0 hts gX5_mends_X5_shops rfl rfl rfl hd_X5_shops ⟨Nat.le_of_ble_eq_true rfl, Nat.le_of_ble_eq_true rfl⟩) (ci := 5) rfl (cM_at_0 t a S72) rfl hl.1 rfl (Nat.le_of_ble_eq_true rfl) dX5_mends_213 ⟨Nat.le_refl _, Nat.le_refl _⟩ (fun H locs w => ?_)
  obtain ⟨h78, hf⟩ := it_n hf
  refine lv_irem hx hb dX5_mends_216 h78 ?_
  obtain ⟨S80, h79, hf⟩ := bd1_o hf
  refine w_callVv (As := [.int (x5 / r73), .int (x5 - x5 / r77 * r77)]) (rest := []) hX E w (c_X5_turnNear l hX h79) (cwV 2 hts gX5_mends_X5_turnNear rfl rfl rfl hd_X5_turnNear ⟨Nat.le_of_ble_eq_true rfl, Nat.le_of_ble_eq_true rfl⟩) (ci := 5) rfl (cM_at_0 t a S76) rfl hl.1 rfl (Nat.le_of_ble_eq_true rfl) dX5_mends_217 ⟨Nat.le_refl _, Nat.le_refl _⟩ (fun H locs w => ?_)
  refine lv_iload hx hb dX5_mends_220 (lv_at hl 6 rfl) ?_
  refine lv_if_eq (tgt := 227) hx hb dX5_mends_222 (by decide) (fun h81 => ?_) (fun h81 => ?_)
  · replace hf := it_t h81 hf
    exact k_X5_mends_227 hX E hk57 w (lv_sub hl [0, 1, 2, 3, 4, 5] rfl) hf
  · replace hf := it_f h81 hf
    refine lv_iconst (v := 1) hx hb dX5_mends_225 (by decide) ?_
    exact w_reti E w hf dX5_mends_226
set_option maxHeartbeats 4000000 in
set_option maxRecDepth 100000 in
theorem k_X5_mends_196 {p : Program} {l : Launch} {e : Env} {s : State} {m : MethodId} {args : Array Value} {below : List Frame} {meth : Method} {c : Code} {D : va_G} {t : Nat → ClassId} {a : Nat → Nat} {X : State → Prop} {N : Nat} {r : Int32} {S' : ST} (hX : XOk (aW 17 a) X) (E : EN p s m args meth c cX5_mends RX5 wsX5_mends (some .int) 8) {k57 : ST → Int32 → Int32 → Int32 → Int32 → Int32 → Option (Int32 × ST)} {k115 : ST → Int32 → Int32 → Int32 → Int32 → Int32 → Int32 → Int32 → Option (Int32 × ST)} (hk57 : ∀ {S : ST} {x1 : Int32} {x2 : Int32} {x3 : Int32} {x4 : Int32} {x5 : Int32} {H : Heap} {locs : List Loc} {ls : Array Slot}, Wd D (cM t a) (aW 17 a) (tyM t) X S s H locs → lv_has ls 8 [(0, .ref (a 0)), (1, .int x1), (2, .int x2), (3, .int x3), (4, .int x4), (5, .int x5)] → k57 S x1 x2 x3 x4 x5 = some (r, S') → W p l e rmX5_mends s m args below meth c H locs 0 0 (MQ below (Qi D (cM t a) (aW 17 a) (tyM t) r S') args s 0 0 (aW 17 a)) (F0 m 57 ls [])) (hk115 : ∀ {S : ST} {x1 : Int32} {x2 : Int32} {x3 : Int32} {x4 : Int32} {x5 : Int32} {x6 : Int32} {x7 : Int32} {H : Heap} {locs : List Loc} {ls : Array Slot}, Wd D (cM t a) (aW 17 a) (tyM t) X S s H locs → lv_has ls 8 [(0, .ref (a 0)), (1, .int x1), (2, .int x2), (3, .int x3), (4, .int x4), (5, .int x5), (6, .int x6), (7, .int x7)] → k115 S x1 x2 x3 x4 x5 x6 x7 = some (r, S') → W p l e rmX5_mends s m args below meth c H locs 0 0 (MQ below (Qi D (cM t a) (aW 17 a) (tyM t) r S') args s 0 0 (aW 17 a)) (F0 m 115 ls [])) {S : ST} {x1 : Int32} {x2 : Int32} {x3 : Int32} {x4 : Int32} {x5 : Int32} {x6 : Int32} {x7 : Int32} {H : Heap} {locs : List Loc} {ls : Array Slot} (w : Wd D (cM t a) (aW 17 a) (tyM t) X S s H locs) (hl : lv_has ls 8 [(0, .ref (a 0)), (1, .int x1), (2, .int x2), (3, .int x3), (4, .int x4), (5, .int x5), (6, .int x6), (7, .int x7)]) (hf : b_X5_mends_196 N k57 k115 S x1 x2 x3 x4 x5 x6 x7 = some (r, S')) : W p l e rmX5_mends s m args below meth c H locs 0 0 (MQ below (Qi D (cM t a) (aW 17 a) (tyM t) r S') args s 0 0 (aW 17 a)) (F0 m 196 ls []) := by
  obtain ⟨⟨hx, hb, hml, hown, hts⟩, hr, hlk⟩ := id E
  unfold b_X5_mends_196 at hf
  refine lv_iinc (v := x7 + 1) (lv' := [(7, .int (x7 + 1)), (0, .ref (a 0)), (1, .int x1), (2, .int x2), (3, .int x3), (4, .int x4), (5, .int x5), (6, .int x6)]) hx hb dX5_mends_196 hl (k := 7) rfl rfl (by decide) rfl (fun ls hl => ?_)
  refine lv_goto (tgt := 115) hx hb dX5_mends_199 (by decide) ?_
  exact hk115 w (lv_sub hl [1, 2, 3, 4, 5, 6, 7, 0] rfl) hf
set_option maxHeartbeats 4000000 in
set_option maxRecDepth 100000 in
theorem k_X5_mends_176 {p : Program} {l : Launch} {e : Env} {s : State} {m : MethodId} {args : Array Value} {below : List Frame} {meth : Method} {c : Code} {D : va_G} {t : Nat → ClassId} {a : Nat → Nat} {X : State → Prop} {N : Nat} {r : Int32} {S' : ST} (hX : XOk (aW 17 a) X) (E : EN p s m args meth c cX5_mends RX5 wsX5_mends (some .int) 8) {k57 : ST → Int32 → Int32 → Int32 → Int32 → Int32 → Option (Int32 × ST)} {k115 : ST → Int32 → Int32 → Int32 → Int32 → Int32 → Int32 → Int32 → Option (Int32 × ST)} (hk57 : ∀ {S : ST} {x1 : Int32} {x2 : Int32} {x3 : Int32} {x4 : Int32} {x5 : Int32} {H : Heap} {locs : List Loc} {ls : Array Slot}, Wd D (cM t a) (aW 17 a) (tyM t) X S s H locs → lv_has ls 8 [(0, .ref (a 0)), (1, .int x1), (2, .int x2), (3, .int x3), (4, .int x4), (5, .int x5)] → k57 S x1 x2 x3 x4 x5 = some (r, S') → W p l e rmX5_mends s m args below meth c H locs 0 0 (MQ below (Qi D (cM t a) (aW 17 a) (tyM t) r S') args s 0 0 (aW 17 a)) (F0 m 57 ls [])) (hk115 : ∀ {S : ST} {x1 : Int32} {x2 : Int32} {x3 : Int32} {x4 : Int32} {x5 : Int32} {x6 : Int32} {x7 : Int32} {H : Heap} {locs : List Loc} {ls : Array Slot}, Wd D (cM t a) (aW 17 a) (tyM t) X S s H locs → lv_has ls 8 [(0, .ref (a 0)), (1, .int x1), (2, .int x2), (3, .int x3), (4, .int x4), (5, .int x5), (6, .int x6), (7, .int x7)] → k115 S x1 x2 x3 x4 x5 x6 x7 = some (r, S') → W p l e rmX5_mends s m args below meth c H locs 0 0 (MQ below (Qi D (cM t a) (aW 17 a) (tyM t) r S') args s 0 0 (aW 17 a)) (F0 m 115 ls [])) {S : ST} {x1 : Int32} {x2 : Int32} {x3 : Int32} {x5 : Int32} {x6 : Int32} {x7 : Int32} {s0 : Int32} {H : Heap} {locs : List Loc} {ls : Array Slot} (w : Wd D (cM t a) (aW 17 a) (tyM t) X S s H locs) (hl : lv_has ls 8 [(0, .ref (a 0)), (1, .int x1), (2, .int x2), (3, .int x3), (5, .int x5), (6, .int x6), (7, .int x7)]) (hf : b_X5_mends_176 N k57 k115 S x1 x2 x3 x5 x6 x7 s0 = some (r, S')) : W p l e rmX5_mends s m args below meth c H locs 0 0 (MQ below (Qi D (cM t a) (aW 17 a) (tyM t) r S') args s 0 0 (aW 17 a)) (F0 m 176 ls [.int s0]) := by
  obtain ⟨⟨hx, hb, hml, hown, hts⟩, hr, hlk⟩ := id E
  unfold b_X5_mends_176 at hf
  refine lv_istore (lv' := [(4, .int s0), (0, .ref (a 0)), (1, .int x1), (2, .int x2), (3, .int x3), (5, .int x5), (6, .int x6), (7, .int x7)]) hx hb dX5_mends_176 hl (by decide) rfl (fun ls hl => ?_)
  refine lv_aload_n hx hb dX5_mends_178 rfl (lv_at hl 1 rfl) ?_
  refine lv_iload hx hb dX5_mends_179 (lv_at hl 7 rfl) ?_
  refine lv_aload_n hx hb dX5_mends_181 rfl (lv_at hl 1 rfl) ?_
  obtain ⟨r63, S62, h61, hf⟩ := bd2_o hf
  refine w_callVi (As := []) (rest := [.int x7, .ref (a 0)]) hX E w (c_X5_shops l hX h61) (cwV 0 hts gX5_mends_X5_shops rfl rfl rfl hd_X5_shops ⟨Nat.le_of_ble_eq_true rfl, Nat.le_of_ble_eq_true rfl⟩) (ci := 5) rfl (cM_at_0 t a S) rfl hl.1 rfl (Nat.le_of_ble_eq_true rfl) dX5_mends_182 ⟨Nat.le_refl _, Nat.le_refl _⟩ (fun H locs w => ?_)
  obtain ⟨h64, hf⟩ := it_n hf
  refine lv_idiv hx hb dX5_mends_185 h64 ?_
  refine lv_iload hx hb dX5_mends_186 (lv_at hl 7 rfl) ?_
  refine lv_aload_n hx hb dX5_mends_188 rfl (lv_at hl 1 rfl) ?_
  obtain ⟨r67, S66, h65, hf⟩ := bd2_o hf
  refine w_callVi (As := []) (rest := [.int x7, .int (x7 / r63), .ref (a 0)]) hX E w (c_X5_shops l hX h65) (cwV 0 hts gX5_mends_X5_shops rfl rfl rfl hd_X5_shops ⟨Nat.le_of_ble_eq_true rfl, Nat.le_of_ble_eq_true rfl⟩) (ci := 5) rfl (cM_at_0 t a S62) rfl hl.1 rfl (Nat.le_of_ble_eq_true rfl) dX5_mends_189 ⟨Nat.le_refl _, Nat.le_refl _⟩ (fun H locs w => ?_)
  obtain ⟨h68, hf⟩ := it_n hf
  refine lv_irem hx hb dX5_mends_192 h68 ?_
  obtain ⟨S70, h69, hf⟩ := bd1_o hf
  refine w_callVv (As := [.int (x7 / r63), .int (x7 - x7 / r67 * r67)]) (rest := []) hX E w (c_X5_turnNear l hX h69) (cwV 2 hts gX5_mends_X5_turnNear rfl rfl rfl hd_X5_turnNear ⟨Nat.le_of_ble_eq_true rfl, Nat.le_of_ble_eq_true rfl⟩) (ci := 5) rfl (cM_at_0 t a S66) rfl hl.1 rfl (Nat.le_of_ble_eq_true rfl) dX5_mends_193 ⟨Nat.le_refl _, Nat.le_refl _⟩ (fun H locs w => ?_)
  exact k_X5_mends_196 hX E hk57 hk115 w (lv_sub hl [1, 2, 3, 4, 0, 5, 6, 7] rfl) hf
set_option maxHeartbeats 4000000 in
set_option maxRecDepth 100000 in
theorem k_X5_mends_115 {p : Program} {l : Launch} {e : Env} {s : State} {m : MethodId} {args : Array Value} {below : List Frame} {meth : Method} {c : Code} {D : va_G} {t : Nat → ClassId} {a : Nat → Nat} {X : State → Prop} {N : Nat} {r : Int32} {S' : ST} (hX : XOk (aW 17 a) X) (E : EN p s m args meth c cX5_mends RX5 wsX5_mends (some .int) 8) {k57 : ST → Int32 → Int32 → Int32 → Int32 → Int32 → Option (Int32 × ST)} (hk57 : ∀ {S : ST} {x1 : Int32} {x2 : Int32} {x3 : Int32} {x4 : Int32} {x5 : Int32} {H : Heap} {locs : List Loc} {ls : Array Slot}, Wd D (cM t a) (aW 17 a) (tyM t) X S s H locs → lv_has ls 8 [(0, .ref (a 0)), (1, .int x1), (2, .int x2), (3, .int x3), (4, .int x4), (5, .int x5)] → k57 S x1 x2 x3 x4 x5 = some (r, S') → W p l e rmX5_mends s m args below meth c H locs 0 0 (MQ below (Qi D (cM t a) (aW 17 a) (tyM t) r S') args s 0 0 (aW 17 a)) (F0 m 57 ls [])) : ∀ (n : Nat) {S : ST} {x1 : Int32} {x2 : Int32} {x3 : Int32} {x4 : Int32} {x5 : Int32} {x6 : Int32} {x7 : Int32} {H : Heap} {locs : List Loc} {ls : Array Slot}, Wd D (cM t a) (aW 17 a) (tyM t) X S s H locs → lv_has ls 8 [(0, .ref (a 0)), (1, .int x1), (2, .int x2), (3, .int x3), (4, .int x4), (5, .int x5), (6, .int x6), (7, .int x7)] → b_X5_mends_115 N k57 n S x1 x2 x3 x4 x5 x6 x7 = some (r, S') → W p l e rmX5_mends s m args below meth c H locs 0 0 (MQ below (Qi D (cM t a) (aW 17 a) (tyM t) r S') args s 0 0 (aW 17 a)) (F0 m 115 ls []) := by
  obtain ⟨⟨hx, hb, hml, hown, hts⟩, hr, hlk⟩ := id E
  intro n
  induction n with
  | zero => intro S x1 x2 x3 x4 x5 x6 x7 H locs ls w hl hf; cases hf
  | succ n ih =>
    intro S x1 x2 x3 x4 x5 x6 x7 H locs ls w hl hf
    unfold b_X5_mends_115 at hf
    refine lv_iload hx hb dX5_mends_115 (lv_at hl 7 rfl) ?_
    refine lv_iload_n hx hb dX5_mends_117 rfl (lv_at hl 3 rfl) ?_
    refine lv_icmp_ge (tgt := 202) hx hb dX5_mends_118 (by decide) (fun h40 => ?_) (fun h40 => ?_)
    · replace hf := it_t h40 hf
      exact k_X5_mends_202 hX E hk57 w (lv_sub hl [0, 1, 2, 3, 4, 5, 6] rfl) hf
    · replace hf := it_f h40 hf
      refine lv_iload hx hb dX5_mends_121 (lv_at hl 6 rfl) ?_
      refine lv_if_ne (tgt := 202) hx hb dX5_mends_123 (by decide) (fun h41 => ?_) (fun h41 => ?_)
      · replace hf := it_f h41 hf
        exact k_X5_mends_202 hX E hk57 w (lv_sub hl [0, 1, 2, 3, 4, 5, 6] rfl) hf
      · replace hf := it_t h41 hf
        refine lv_iload hx hb dX5_mends_126 (lv_at hl 4 rfl) ?_
        refine lv_iconst (v := (-1)) hx hb dX5_mends_128 (by decide) ?_
        refine lv_icmp_ne (tgt := 202) hx hb dX5_mends_129 (by decide) (fun h42 => ?_) (fun h42 => ?_)
        · replace hf := it_f h42 hf
          exact k_X5_mends_202 hX E hk57 w (lv_sub hl [0, 1, 2, 3, 4, 5, 6] rfl) hf
        · replace hf := it_t h42 hf
          refine lv_aload_n hx hb dX5_mends_132 rfl (lv_at hl 0 rfl) ?_
          refine lv_iload hx hb dX5_mends_133 (lv_at hl 7 rfl) ?_
          obtain ⟨r45, S44, h43, hf⟩ := bd2_o hf
          refine w_callVi (As := [.int x7]) (rest := []) hX E w (c_X5_isNewPair l hX h43) (cwV 1 hts gX5_mends_X5_isNewPair rfl rfl rfl hd_X5_isNewPair ⟨Nat.le_of_ble_eq_true rfl, Nat.le_of_ble_eq_true rfl⟩) (ci := 5) rfl (cM_at_0 t a S) rfl hl.1 rfl (Nat.le_of_ble_eq_true rfl) dX5_mends_135 ⟨Nat.le_refl _, Nat.le_refl _⟩ (fun H locs w => ?_)
          refine lv_if_eq (tgt := 196) hx hb dX5_mends_138 (by decide) (fun h46 => ?_) (fun h46 => ?_)
          · replace hf := it_t h46 hf
            exact k_X5_mends_196 hX E hk57 (fun w hl hf => ih w hl hf) w (lv_sub hl [0, 1, 2, 3, 4, 5, 6, 7] rfl) hf
          · replace hf := it_f h46 hf
            refine lv_aload_n hx hb dX5_mends_141 rfl (lv_at hl 0 rfl) ?_
            refine lv_iload hx hb dX5_mends_142 (lv_at hl 7 rfl) ?_
            refine lv_aload_n hx hb dX5_mends_144 rfl (lv_at hl 0 rfl) ?_
            obtain ⟨r49, S48, h47, hf⟩ := bd2_o hf
            refine w_callVi (As := []) (rest := [.int x7, .ref (a 0)]) hX E w (c_X5_shops l hX h47) (cwV 0 hts gX5_mends_X5_shops rfl rfl rfl hd_X5_shops ⟨Nat.le_of_ble_eq_true rfl, Nat.le_of_ble_eq_true rfl⟩) (ci := 5) rfl (cM_at_0 t a S44) rfl hl.1 rfl (Nat.le_of_ble_eq_true rfl) dX5_mends_145 ⟨Nat.le_refl _, Nat.le_refl _⟩ (fun H locs w => ?_)
            obtain ⟨h50, hf⟩ := it_n hf
            refine lv_idiv hx hb dX5_mends_148 h50 ?_
            refine lv_iload hx hb dX5_mends_149 (lv_at hl 7 rfl) ?_
            refine lv_aload_n hx hb dX5_mends_151 rfl (lv_at hl 0 rfl) ?_
            obtain ⟨r53, S52, h51, hf⟩ := bd2_o hf
            refine w_callVi (As := []) (rest := [.int x7, .int (x7 / r49), .ref (a 0)]) hX E w (c_X5_shops l hX h51) (cwV 0 hts gX5_mends_X5_shops rfl rfl rfl hd_X5_shops ⟨Nat.le_of_ble_eq_true rfl, Nat.le_of_ble_eq_true rfl⟩) (ci := 5) rfl (cM_at_0 t a S48) rfl hl.1 rfl (Nat.le_of_ble_eq_true rfl) dX5_mends_152 ⟨Nat.le_refl _, Nat.le_refl _⟩ (fun H locs w => ?_)
            obtain ⟨h54, hf⟩ := it_n hf
            refine lv_irem hx hb dX5_mends_155 h54 ?_
            obtain ⟨S56, h55, hf⟩ := bd1_o hf
            refine w_callVv (As := [.int (x7 / r49), .int (x7 - x7 / r53 * r53)]) (rest := []) hX E w (c_X5_turnNear l hX h55) (cwV 2 hts gX5_mends_X5_turnNear rfl rfl rfl hd_X5_turnNear ⟨Nat.le_of_ble_eq_true rfl, Nat.le_of_ble_eq_true rfl⟩) (ci := 5) rfl (cM_at_0 t a S52) rfl hl.1 rfl (Nat.le_of_ble_eq_true rfl) dX5_mends_156 ⟨Nat.le_refl _, Nat.le_refl _⟩ (fun H locs w => ?_)
            refine lv_iload_n hx hb dX5_mends_159 rfl (lv_at hl 2 rfl) ?_
            refine lv_aload_n hx hb dX5_mends_160 rfl (lv_at hl 0 rfl) ?_
            refine lv_iload_n hx hb dX5_mends_161 rfl (lv_at hl 1 rfl) ?_
            obtain ⟨r59, S58, h57, hf⟩ := bd2_o hf
            refine w_callVi (As := [.int x1]) (rest := [.int x2]) hX E w (c_X5_hadWith l hX h57) (cwV 1 hts gX5_mends_X5_hadWith rfl rfl rfl hd_X5_hadWith ⟨Nat.le_of_ble_eq_true rfl, Nat.le_of_ble_eq_true rfl⟩) (ci := 5) rfl (cM_at_0 t a S56) rfl hl.1 rfl (Nat.le_of_ble_eq_true rfl) dX5_mends_162 ⟨Nat.le_refl _, Nat.le_refl _⟩ (fun H locs w => ?_)
            refine lv_iconst (v := (-1)) hx hb dX5_mends_165 (by decide) ?_
            refine lv_ixor hx hb dX5_mends_166 ?_
            refine lv_iand hx hb dX5_mends_167 ?_
            refine lv_if_ne (tgt := 175) hx hb dX5_mends_168 (by decide) (fun h60 => ?_) (fun h60 => ?_)
            · replace hf := it_f h60 hf
              refine lv_iconst (v := (-1)) hx hb dX5_mends_175 (by decide) ?_
              exact k_X5_mends_176 hX E hk57 (fun w hl hf => ih w hl hf) w (lv_sub hl [0, 1, 2, 3, 5, 6, 7] rfl) hf
            · replace hf := it_t h60 hf
              refine lv_iconst (v := 2) hx hb dX5_mends_171 (by decide) ?_
              refine lv_goto (tgt := 176) hx hb dX5_mends_172 (by decide) ?_
              exact k_X5_mends_176 hX E hk57 (fun w hl hf => ih w hl hf) w (lv_sub hl [0, 1, 2, 3, 5, 6, 7] rfl) hf
set_option maxHeartbeats 4000000 in
set_option maxRecDepth 100000 in
theorem k_X5_mends_107 {p : Program} {l : Launch} {e : Env} {s : State} {m : MethodId} {args : Array Value} {below : List Frame} {meth : Method} {c : Code} {D : va_G} {t : Nat → ClassId} {a : Nat → Nat} {X : State → Prop} {N : Nat} {r : Int32} {S' : ST} (hX : XOk (aW 17 a) X) (E : EN p s m args meth c cX5_mends RX5 wsX5_mends (some .int) 8) {k57 : ST → Int32 → Int32 → Int32 → Int32 → Int32 → Option (Int32 × ST)} (hk57 : ∀ {S : ST} {x1 : Int32} {x2 : Int32} {x3 : Int32} {x4 : Int32} {x5 : Int32} {H : Heap} {locs : List Loc} {ls : Array Slot}, Wd D (cM t a) (aW 17 a) (tyM t) X S s H locs → lv_has ls 8 [(0, .ref (a 0)), (1, .int x1), (2, .int x2), (3, .int x3), (4, .int x4), (5, .int x5)] → k57 S x1 x2 x3 x4 x5 = some (r, S') → W p l e rmX5_mends s m args below meth c H locs 0 0 (MQ below (Qi D (cM t a) (aW 17 a) (tyM t) r S') args s 0 0 (aW 17 a)) (F0 m 57 ls [])) {S : ST} {x1 : Int32} {x2 : Int32} {x3 : Int32} {x4 : Int32} {x5 : Int32} {s0 : Int32} {H : Heap} {locs : List Loc} {ls : Array Slot} (w : Wd D (cM t a) (aW 17 a) (tyM t) X S s H locs) (hl : lv_has ls 8 [(0, .ref (a 0)), (1, .int x1), (2, .int x2), (3, .int x3), (4, .int x4), (5, .int x5)]) (hf : b_X5_mends_107 N k57 S x1 x2 x3 x4 x5 s0 = some (r, S')) : W p l e rmX5_mends s m args below meth c H locs 0 0 (MQ below (Qi D (cM t a) (aW 17 a) (tyM t) r S') args s 0 0 (aW 17 a)) (F0 m 107 ls [.int s0]) := by
  obtain ⟨⟨hx, hb, hml, hown, hts⟩, hr, hlk⟩ := id E
  unfold b_X5_mends_107 at hf
  refine lv_istore (lv' := [(6, .int s0), (0, .ref (a 0)), (1, .int x1), (2, .int x2), (3, .int x3), (4, .int x4), (5, .int x5)]) hx hb dX5_mends_107 hl (by decide) rfl (fun ls hl => ?_)
  refine lv_iload hx hb dX5_mends_109 (lv_at hl 6 rfl) ?_
  refine lv_iconst (v := 1) hx hb dX5_mends_111 (by decide) ?_
  refine lv_iadd hx hb dX5_mends_112 ?_
  refine lv_istore (lv' := [(7, .int (x5 + 1)), (6, .int s0), (0, .ref (a 0)), (1, .int x1), (2, .int x2), (3, .int x3), (4, .int x4), (5, .int x5)]) hx hb dX5_mends_113 hl (by decide) rfl (fun ls hl => ?_)
  exact k_X5_mends_115 hX E hk57 N w (lv_sub hl [2, 3, 4, 5, 6, 7, 1, 0] rfl) hf
set_option maxHeartbeats 4000000 in
set_option maxRecDepth 100000 in
theorem k_X5_mends_57 {p : Program} {l : Launch} {e : Env} {s : State} {m : MethodId} {args : Array Value} {below : List Frame} {meth : Method} {c : Code} {D : va_G} {t : Nat → ClassId} {a : Nat → Nat} {X : State → Prop} {N : Nat} {r : Int32} {S' : ST} (hX : XOk (aW 17 a) X) (E : EN p s m args meth c cX5_mends RX5 wsX5_mends (some .int) 8) : ∀ (n : Nat) {S : ST} {x1 : Int32} {x2 : Int32} {x3 : Int32} {x4 : Int32} {x5 : Int32} {H : Heap} {locs : List Loc} {ls : Array Slot}, Wd D (cM t a) (aW 17 a) (tyM t) X S s H locs → lv_has ls 8 [(0, .ref (a 0)), (1, .int x1), (2, .int x2), (3, .int x3), (4, .int x4), (5, .int x5)] → b_X5_mends_57 N n S x1 x2 x3 x4 x5 = some (r, S') → W p l e rmX5_mends s m args below meth c H locs 0 0 (MQ below (Qi D (cM t a) (aW 17 a) (tyM t) r S') args s 0 0 (aW 17 a)) (F0 m 57 ls []) := by
  obtain ⟨⟨hx, hb, hml, hown, hts⟩, hr, hlk⟩ := id E
  intro n
  induction n with
  | zero => intro S x1 x2 x3 x4 x5 H locs ls w hl hf; cases hf
  | succ n ih =>
    intro S x1 x2 x3 x4 x5 H locs ls w hl hf
    unfold b_X5_mends_57 at hf
    refine lv_iload hx hb dX5_mends_57 (lv_at hl 5 rfl) ?_
    refine lv_iload_n hx hb dX5_mends_59 rfl (lv_at hl 3 rfl) ?_
    refine lv_icmp_ge (tgt := 233) hx hb dX5_mends_60 (by decide) (fun h21 => ?_) (fun h21 => ?_)
    · replace hf := it_t h21 hf
      refine lv_iload hx hb dX5_mends_233 (lv_at hl 4 rfl) ?_
      exact w_reti E w hf dX5_mends_235
    · replace hf := it_f h21 hf
      refine lv_aload_n hx hb dX5_mends_63 rfl (lv_at hl 0 rfl) ?_
      refine lv_iload hx hb dX5_mends_64 (lv_at hl 5 rfl) ?_
      obtain ⟨r24, S23, h22, hf⟩ := bd2_o hf
      refine w_callVi (As := [.int x5]) (rest := []) hX E w (c_X5_isNewPair l hX h22) (cwV 1 hts gX5_mends_X5_isNewPair rfl rfl rfl hd_X5_isNewPair ⟨Nat.le_of_ble_eq_true rfl, Nat.le_of_ble_eq_true rfl⟩) (ci := 5) rfl (cM_at_0 t a S) rfl hl.1 rfl (Nat.le_of_ble_eq_true rfl) dX5_mends_66 ⟨Nat.le_refl _, Nat.le_refl _⟩ (fun H locs w => ?_)
      refine lv_if_eq (tgt := 227) hx hb dX5_mends_69 (by decide) (fun h25 => ?_) (fun h25 => ?_)
      · replace hf := it_t h25 hf
        exact k_X5_mends_227 hX E (fun w hl hf => ih w hl hf) w (lv_sub hl [0, 1, 2, 3, 4, 5] rfl) hf
      · replace hf := it_f h25 hf
        refine lv_aload_n hx hb dX5_mends_72 rfl (lv_at hl 0 rfl) ?_
        refine lv_iload hx hb dX5_mends_73 (lv_at hl 5 rfl) ?_
        refine lv_aload_n hx hb dX5_mends_75 rfl (lv_at hl 0 rfl) ?_
        obtain ⟨r28, S27, h26, hf⟩ := bd2_o hf
        refine w_callVi (As := []) (rest := [.int x5, .ref (a 0)]) hX E w (c_X5_shops l hX h26) (cwV 0 hts gX5_mends_X5_shops rfl rfl rfl hd_X5_shops ⟨Nat.le_of_ble_eq_true rfl, Nat.le_of_ble_eq_true rfl⟩) (ci := 5) rfl (cM_at_0 t a S23) rfl hl.1 rfl (Nat.le_of_ble_eq_true rfl) dX5_mends_76 ⟨Nat.le_refl _, Nat.le_refl _⟩ (fun H locs w => ?_)
        obtain ⟨h29, hf⟩ := it_n hf
        refine lv_idiv hx hb dX5_mends_79 h29 ?_
        refine lv_iload hx hb dX5_mends_80 (lv_at hl 5 rfl) ?_
        refine lv_aload_n hx hb dX5_mends_82 rfl (lv_at hl 0 rfl) ?_
        obtain ⟨r32, S31, h30, hf⟩ := bd2_o hf
        refine w_callVi (As := []) (rest := [.int x5, .int (x5 / r28), .ref (a 0)]) hX E w (c_X5_shops l hX h30) (cwV 0 hts gX5_mends_X5_shops rfl rfl rfl hd_X5_shops ⟨Nat.le_of_ble_eq_true rfl, Nat.le_of_ble_eq_true rfl⟩) (ci := 5) rfl (cM_at_0 t a S27) rfl hl.1 rfl (Nat.le_of_ble_eq_true rfl) dX5_mends_83 ⟨Nat.le_refl _, Nat.le_refl _⟩ (fun H locs w => ?_)
        obtain ⟨h33, hf⟩ := it_n hf
        refine lv_irem hx hb dX5_mends_86 h33 ?_
        obtain ⟨S35, h34, hf⟩ := bd1_o hf
        refine w_callVv (As := [.int (x5 / r28), .int (x5 - x5 / r32 * r32)]) (rest := []) hX E w (c_X5_turnNear l hX h34) (cwV 2 hts gX5_mends_X5_turnNear rfl rfl rfl hd_X5_turnNear ⟨Nat.le_of_ble_eq_true rfl, Nat.le_of_ble_eq_true rfl⟩) (ci := 5) rfl (cM_at_0 t a S31) rfl hl.1 rfl (Nat.le_of_ble_eq_true rfl) dX5_mends_87 ⟨Nat.le_refl _, Nat.le_refl _⟩ (fun H locs w => ?_)
        refine lv_iload_n hx hb dX5_mends_90 rfl (lv_at hl 2 rfl) ?_
        refine lv_aload_n hx hb dX5_mends_91 rfl (lv_at hl 0 rfl) ?_
        refine lv_iload_n hx hb dX5_mends_92 rfl (lv_at hl 1 rfl) ?_
        obtain ⟨r38, S37, h36, hf⟩ := bd2_o hf
        refine w_callVi (As := [.int x1]) (rest := [.int x2]) hX E w (c_X5_hadWith l hX h36) (cwV 1 hts gX5_mends_X5_hadWith rfl rfl rfl hd_X5_hadWith ⟨Nat.le_of_ble_eq_true rfl, Nat.le_of_ble_eq_true rfl⟩) (ci := 5) rfl (cM_at_0 t a S35) rfl hl.1 rfl (Nat.le_of_ble_eq_true rfl) dX5_mends_93 ⟨Nat.le_refl _, Nat.le_refl _⟩ (fun H locs w => ?_)
        refine lv_iconst (v := (-1)) hx hb dX5_mends_96 (by decide) ?_
        refine lv_ixor hx hb dX5_mends_97 ?_
        refine lv_iand hx hb dX5_mends_98 ?_
        refine lv_if_ne (tgt := 106) hx hb dX5_mends_99 (by decide) (fun h39 => ?_) (fun h39 => ?_)
        · replace hf := it_f h39 hf
          refine lv_iconst (v := 0) hx hb dX5_mends_106 (by decide) ?_
          exact k_X5_mends_107 hX E (fun w hl hf => ih w hl hf) w (lv_sub hl [0, 1, 2, 3, 4, 5] rfl) hf
        · replace hf := it_t h39 hf
          refine lv_iconst (v := 1) hx hb dX5_mends_102 (by decide) ?_
          refine lv_goto (tgt := 107) hx hb dX5_mends_103 (by decide) ?_
          exact k_X5_mends_107 hX E (fun w hl hf => ih w hl hf) w (lv_sub hl [0, 1, 2, 3, 4, 5] rfl) hf
set_option maxHeartbeats 4000000 in
set_option maxRecDepth 100000 in
theorem k_X5_mends_E {p : Program} {l : Launch} {e : Env} {s : State} {m : MethodId} {args : Array Value} {below : List Frame} {meth : Method} {c : Code} {D : va_G} {t : Nat → ClassId} {a : Nat → Nat} {X : State → Prop} {N : Nat} {r : Int32} {S' : ST} (hX : XOk (aW 17 a) X) (E : EN p s m args meth c cX5_mends RX5 wsX5_mends (some .int) 8) {S : ST} {x1 : Int32} {H : Heap} {locs : List Loc} {ls : Array Slot} (w : Wd D (cM t a) (aW 17 a) (tyM t) X S s H locs) (hl : lv_has ls 8 [(0, .ref (a 0)), (1, .int x1)]) (hf : f_X5_mends N S x1 = some (r, S')) : W p l e rmX5_mends s m args below meth c H locs 0 0 (MQ below (Qi D (cM t a) (aW 17 a) (tyM t) r S') args s 0 0 (aW 17 a)) (F0 m 0 ls []) := by
  obtain ⟨⟨hx, hb, hml, hown, hts⟩, hr, hlk⟩ := id E
  unfold f_X5_mends at hf
  refine lv_aload_n hx hb dX5_mends_0 rfl (lv_at hl 0 rfl) ?_
  refine lv_iload_n hx hb dX5_mends_1 rfl (lv_at hl 1 rfl) ?_
  obtain ⟨r3, S2, h1, hf⟩ := bd2_o hf
  refine w_callVi (As := [.int x1]) (rest := []) hX E w (c_X5_isShop l hX h1) (cwV 1 hts gX5_mends_X5_isShop rfl rfl rfl hd_X5_isShop ⟨Nat.le_of_ble_eq_true rfl, Nat.le_of_ble_eq_true rfl⟩) (ci := 5) rfl (cM_at_0 t a S) rfl hl.1 rfl (Nat.le_of_ble_eq_true rfl) dX5_mends_2 ⟨Nat.le_refl _, Nat.le_refl _⟩ (fun H locs w => ?_)
  refine lv_if_ne (tgt := 15) hx hb dX5_mends_5 (by decide) (fun h4 => ?_) (fun h4 => ?_)
  · replace hf := it_f h4 hf
    refine lv_aload_n hx hb dX5_mends_15 rfl (lv_at hl 0 rfl) ?_
    refine lv_iconst (v := (-1)) hx hb dX5_mends_16 (by decide) ?_
    obtain ⟨r7, S6, h5, hf⟩ := bd2_o hf
    refine w_callVi (As := [.int (-1)]) (rest := []) hX E w (c_X5_hadWith l hX h5) (cwV 1 hts gX5_mends_X5_hadWith rfl rfl rfl hd_X5_hadWith ⟨Nat.le_of_ble_eq_true rfl, Nat.le_of_ble_eq_true rfl⟩) (ci := 5) rfl (cM_at_0 t a S2) rfl hl.1 rfl (Nat.le_of_ble_eq_true rfl) dX5_mends_17 ⟨Nat.le_refl _, Nat.le_refl _⟩ (fun H locs w => ?_)
    refine lv_iconst (v := 1) hx hb dX5_mends_20 (by decide) ?_
    refine lv_iload_n hx hb dX5_mends_21 rfl (lv_at hl 1 rfl) ?_
    refine lv_ishl hx hb dX5_mends_22 ?_
    refine lv_iconst (v := (-1)) hx hb dX5_mends_23 (by decide) ?_
    refine lv_ixor hx hb dX5_mends_24 ?_
    refine lv_iand hx hb dX5_mends_25 ?_
    refine lv_istore_n (lv' := [(2, .int (r7 &&& ((1 <<< (x1 &&& 31)) ^^^ (-1)))), (0, .ref (a 0)), (1, .int x1)]) hx hb dX5_mends_26 rfl hl (by decide) rfl (fun ls hl => ?_)
    refine lv_aload_n hx hb dX5_mends_27 rfl (lv_at hl 1 rfl) ?_
    obtain ⟨r10, S9, h8, hf⟩ := bd2_o hf
    refine w_callVi (As := []) (rest := []) hX E w (c_X5_shops l hX h8) (cwV 0 hts gX5_mends_X5_shops rfl rfl rfl hd_X5_shops ⟨Nat.le_of_ble_eq_true rfl, Nat.le_of_ble_eq_true rfl⟩) (ci := 5) rfl (cM_at_0 t a S6) rfl hl.1 rfl (Nat.le_of_ble_eq_true rfl) dX5_mends_28 ⟨Nat.le_refl _, Nat.le_refl _⟩ (fun H locs w => ?_)
    refine lv_aload_n hx hb dX5_mends_31 rfl (lv_at hl 1 rfl) ?_
    obtain ⟨r13, S12, h11, hf⟩ := bd2_o hf
    refine w_callVi (As := []) (rest := [.int r10]) hX E w (c_X5_shops l hX h11) (cwV 0 hts gX5_mends_X5_shops rfl rfl rfl hd_X5_shops ⟨Nat.le_of_ble_eq_true rfl, Nat.le_of_ble_eq_true rfl⟩) (ci := 5) rfl (cM_at_0 t a S9) rfl hl.1 rfl (Nat.le_of_ble_eq_true rfl) dX5_mends_32 ⟨Nat.le_refl _, Nat.le_refl _⟩ (fun H locs w => ?_)
    refine lv_imul hx hb dX5_mends_35 ?_
    refine lv_istore_n (lv' := [(3, .int (r10 * r13)), (2, .int (r7 &&& ((1 <<< (x1 &&& 31)) ^^^ (-1)))), (0, .ref (a 0)), (1, .int x1)]) hx hb dX5_mends_36 rfl hl (by decide) rfl (fun ls hl => ?_)
    refine lv_iload_n hx hb dX5_mends_37 rfl (lv_at hl 1 rfl) ?_
    refine lv_aload_n hx hb dX5_mends_38 rfl (lv_at hl 2 rfl) ?_
    refine lv_iload_n hx hb dX5_mends_39 rfl (lv_at hl 3 rfl) ?_
    obtain ⟨r16, S15, h14, hf⟩ := bd2_o hf
    refine w_callVi (As := [.int x1]) (rest := [.int (r7 &&& ((1 <<< (x1 &&& 31)) ^^^ (-1)))]) hX E w (c_X5_hadWith l hX h14) (cwV 1 hts gX5_mends_X5_hadWith rfl rfl rfl hd_X5_hadWith ⟨Nat.le_of_ble_eq_true rfl, Nat.le_of_ble_eq_true rfl⟩) (ci := 5) rfl (cM_at_0 t a S12) rfl hl.1 rfl (Nat.le_of_ble_eq_true rfl) dX5_mends_40 ⟨Nat.le_refl _, Nat.le_refl _⟩ (fun H locs w => ?_)
    refine lv_iconst (v := (-1)) hx hb dX5_mends_43 (by decide) ?_
    refine lv_ixor hx hb dX5_mends_44 ?_
    refine lv_iand hx hb dX5_mends_45 ?_
    refine lv_if_ne (tgt := 51) hx hb dX5_mends_46 (by decide) (fun h17 => ?_) (fun h17 => ?_)
    · replace hf := it_f h17 hf
      refine lv_iconst (v := (-1)) hx hb dX5_mends_51 (by decide) ?_
      refine lv_istore (lv' := [(4, .int (-1)), (3, .int (r10 * r13)), (2, .int (r7 &&& ((1 <<< (x1 &&& 31)) ^^^ (-1)))), (0, .ref (a 0)), (1, .int x1)]) hx hb dX5_mends_52 hl (by decide) rfl (fun ls hl => ?_)
      refine lv_iconst (v := 0) hx hb dX5_mends_54 (by decide) ?_
      refine lv_istore (lv' := [(5, .int 0), (4, .int (-1)), (3, .int (r10 * r13)), (2, .int (r7 &&& ((1 <<< (x1 &&& 31)) ^^^ (-1)))), (0, .ref (a 0)), (1, .int x1)]) hx hb dX5_mends_55 hl (by decide) rfl (fun ls hl => ?_)
      exact k_X5_mends_57 hX E N w (lv_sub hl [4, 5, 3, 2, 1, 0] rfl) hf
    · replace hf := it_t h17 hf
      refine lv_iconst (v := 0) hx hb dX5_mends_49 (by decide) ?_
      exact w_reti E w hf dX5_mends_50
  · replace hf := it_t h4 hf
    refine lv_aload_n hx hb dX5_mends_8 rfl (lv_at hl 0 rfl) ?_
    refine lv_bipush (v := (-2)) hx hb dX5_mends_9 (by decide) ?_
    obtain ⟨r20, S19, h18, hf⟩ := bd2_o hf
    refine w_callVi (As := [.int (-2)]) (rest := []) hX E w (c_X5_bad l hX h18) (cwV 1 hts gX5_mends_X5_bad rfl rfl rfl hd_X5_bad ⟨Nat.le_of_ble_eq_true rfl, Nat.le_of_ble_eq_true rfl⟩) (ci := 5) rfl (cM_at_0 t a S2) rfl hl.1 rfl (Nat.le_of_ble_eq_true rfl) dX5_mends_11 ⟨Nat.le_refl _, Nat.le_refl _⟩ (fun H locs w => ?_)
    exact w_reti E w hf dX5_mends_14
theorem c_X5_mends (l : Launch) {D : va_G} {t : Nat → ClassId} {a : Nat → Nat} {X : State → Prop} (hX : XOk (aW 17 a) X) {N : Nat} {S : ST} {x1 : Int32} {r : Int32} {S' : ST} (hf : f_X5_mends N S x1 = some (r, S')) : Co l yX5_mends wsX5_mends rmX5_mends D (cM t a) (aW 17 a) (tyM t) X [.ref (a 0), .int x1] S (Qi D (cM t a) (aW 17 a) (tyM t) r S') :=
  co_of (cc := cX5_mends) (maxL := 8) (ret := (some .int)) (lv := [(0, .ref (a 0)), (1, .int x1)]) (by decide) rfl rfl (Nat.le_of_ble_eq_true rfl) rfl rfl (fun p e s m below meth c ls E hl w => k_X5_mends_E hX E w hl hf)
-- X5_buyer
theorem ct_X5_buyer_253 : Cond.constantLong RX5 253 99 ∈ wsX5_buyer := by decide +kernel
theorem in_X5_buyer_X5 : ∀ w ∈ u_ws RX5 TX5 28, w ∈ wsX5_buyer := by decide +kernel
theorem fl_X5_buyer_7 : Cond.fieldLink RX5 7 "NextDoorModel" "now" "[I" ∈ wsX5_buyer := by decide +kernel
abbrev rmX5_buyer : Room := { frames := 2, cells := 0, slots := 0, locals := 46 }
set_option maxHeartbeats 4000000 in
set_option maxRecDepth 100000 in
theorem k_X5_buyer_20 {p : Program} {l : Launch} {e : Env} {s : State} {m : MethodId} {args : Array Value} {below : List Frame} {meth : Method} {c : Code} {D : va_G} {t : Nat → ClassId} {a : Nat → Nat} {X : State → Prop} {N : Nat} {r : Int32} {S' : ST} (hX : XOk (aW 17 a) X) (E : EN p s m args meth c cX5_buyer RX5 wsX5_buyer (some .int) 4) {S : ST} {H : Heap} {locs : List Loc} {ls : Array Slot} (w : Wd D (cM t a) (aW 17 a) (tyM t) X S s H locs) (hl : lv_has ls 4 [(0, .ref (a 0))]) (hf : b_X5_buyer_20 N S = some (r, S')) : W p l e rmX5_buyer s m args below meth c H locs 0 0 (MQ below (Qi D (cM t a) (aW 17 a) (tyM t) r S') args s 0 0 (aW 17 a)) (F0 m 20 ls []) := by
  obtain ⟨⟨hx, hb, hml, hown, hts⟩, hr, hlk⟩ := id E
  unfold b_X5_buyer_20 at hf
  refine lv_aload_n hx hb dX5_buyer_20 rfl (lv_at hl 0 rfl) ?_
  refine lv_bipush (v := (-2)) hx hb dX5_buyer_21 (by decide) ?_
  obtain ⟨r20, S19, h18, hf⟩ := bd2_o hf
  refine w_callVi (As := [.int (-2)]) (rest := []) hX E w (c_X5_bad l hX h18) (cwV 1 hts gX5_buyer_X5_bad rfl rfl rfl hd_X5_bad ⟨Nat.le_of_ble_eq_true rfl, Nat.le_of_ble_eq_true rfl⟩) (ci := 5) rfl (cM_at_0 t a S) rfl hl.1 rfl (Nat.le_of_ble_eq_true rfl) dX5_buyer_23 ⟨Nat.le_refl _, Nat.le_refl _⟩ (fun H locs w => ?_)
  exact w_reti E w hf dX5_buyer_26
set_option maxHeartbeats 4000000 in
set_option maxRecDepth 100000 in
theorem k_X5_buyer_E {p : Program} {l : Launch} {e : Env} {s : State} {m : MethodId} {args : Array Value} {below : List Frame} {meth : Method} {c : Code} {D : va_G} {t : Nat → ClassId} {a : Nat → Nat} {X : State → Prop} {N : Nat} {r : Int32} {S' : ST} (hX : XOk (aW 17 a) X) (E : EN p s m args meth c cX5_buyer RX5 wsX5_buyer (some .int) 4) {S : ST} {x1 : Int32} {x2 : Int32} {H : Heap} {locs : List Loc} {ls : Array Slot} (w : Wd D (cM t a) (aW 17 a) (tyM t) X S s H locs) (hl : lv_has ls 4 [(0, .ref (a 0)), (1, .int x1), (2, .int x2)]) (hf : f_X5_buyer N S x1 x2 = some (r, S')) : W p l e rmX5_buyer s m args below meth c H locs 0 0 (MQ below (Qi D (cM t a) (aW 17 a) (tyM t) r S') args s 0 0 (aW 17 a)) (F0 m 0 ls []) := by
  obtain ⟨⟨hx, hb, hml, hown, hts⟩, hr, hlk⟩ := id E
  unfold f_X5_buyer at hf
  refine lv_aload_n hx hb dX5_buyer_0 rfl (lv_at hl 0 rfl) ?_
  refine lv_iload_n hx hb dX5_buyer_1 rfl (lv_at hl 1 rfl) ?_
  obtain ⟨r3, S2, h1, hf⟩ := bd2_o hf
  refine w_callVi (As := [.int x1]) (rest := []) hX E w (c_X5_isShop l hX h1) (cwV 1 hts gX5_buyer_X5_isShop rfl rfl rfl hd_X5_isShop ⟨Nat.le_of_ble_eq_true rfl, Nat.le_of_ble_eq_true rfl⟩) (ci := 5) rfl (cM_at_0 t a S) rfl hl.1 rfl (Nat.le_of_ble_eq_true rfl) dX5_buyer_2 ⟨Nat.le_refl _, Nat.le_refl _⟩ (fun H locs w => ?_)
  refine lv_if_eq (tgt := 20) hx hb dX5_buyer_5 (by decide) (fun h4 => ?_) (fun h4 => ?_)
  · replace hf := it_t h4 hf
    exact k_X5_buyer_20 hX E w (lv_sub hl [0] rfl) hf
  · replace hf := it_f h4 hf
    refine lv_iload_n hx hb dX5_buyer_8 rfl (lv_at hl 2 rfl) ?_
    refine lv_i2l hx hb dX5_buyer_9 rfl ?_
    refine lv_lconst (v := 0) hx hb dX5_buyer_10 (by decide) ?_
    refine lv_ldc2 hx hb hown (hts _ ct_X5_buyer_253) dX5_buyer_11 ?_
    obtain ⟨r7, S6, h5, hf⟩ := bd2_o hf
    refine w_callSi (As := [.long ((x2 : Int32).toInt64), .long 0, .long 99]) (rest := []) hX E w (c_X5_in l hX h5) (va_cwS 3 hts gX5_buyer_X5_in rfl rfl rfl hd_X5_in ⟨Nat.le_of_ble_eq_true rfl, Nat.le_of_ble_eq_true rfl⟩) rfl hl.1 rfl (Nat.le_of_ble_eq_true rfl) dX5_buyer_14 ⟨Nat.le_refl _, Nat.le_refl _⟩ (fun H locs w => ?_)
    refine lv_if_ne (tgt := 27) hx hb dX5_buyer_17 (by decide) (fun h8 => ?_) (fun h8 => ?_)
    · replace hf := it_f h8 hf
      refine lv_aload_n hx hb dX5_buyer_27 rfl (lv_at hl 0 rfl) ?_
      refine w_get E w in_X5_buyer_X5 0 (cM_at_0 t a S6) rfl 0 (by decide) fl_X5_buyer_7 rfl rfl dX5_buyer_28 ?_
      refine lv_sipush (v := 260) hx hb dX5_buyer_31 (by decide) ?_
      refine w_ald E w 1 0 (cM_at_1 t a S6) rfl (by decide) (congrArg (S6 1) ix_260) dX5_buyer_34 ?_
      refine lv_istore_n (lv' := [(3, .int (S6 1 260)), (0, .ref (a 0)), (1, .int x1), (2, .int x2)]) hx hb dX5_buyer_35 rfl hl (by decide) rfl (fun ls hl => ?_)
      refine lv_iload_n hx hb dX5_buyer_36 rfl (lv_at hl 0 rfl) ?_
      refine lv_bipush (v := 6) hx hb dX5_buyer_37 (by decide) ?_
      refine lv_icmp_ne (tgt := 47) hx hb dX5_buyer_39 (by decide) (fun h9 => ?_) (fun h9 => ?_)
      · replace hf := it_f h9 hf
        refine lv_aload_n hx hb dX5_buyer_47 rfl (lv_at hl 1 rfl) ?_
        refine w_get E w in_X5_buyer_X5 0 (cM_at_0 t a S6) rfl 0 (by decide) fl_X5_buyer_7 rfl rfl dX5_buyer_48 ?_
        refine lv_sipush (v := 247) hx hb dX5_buyer_51 (by decide) ?_
        refine lv_iconst (v := 2) hx hb dX5_buyer_54 (by decide) ?_
        refine lv_iload_n hx hb dX5_buyer_55 rfl (lv_at hl 0 rfl) ?_
        refine lv_imul hx hb dX5_buyer_56 ?_
        refine lv_iadd hx hb dX5_buyer_57 ?_
        refine lv_iload_n hx hb dX5_buyer_58 rfl (lv_at hl 2 rfl) ?_
        obtain ⟨h11, hf⟩ := it_n hf
        obtain ⟨S10, eS10, hf⟩ := nm_o hf
        refine w_ast (S1 := S10) E w 1 0 (cM_at_1 t a S6) rfl h11 rfl ((cM_st_1 t a S6 ((247 + (2 * (S6 1 260))).toNatClampNeg) x1).trans (congrArg (cM t a) eS10.symm)) dX5_buyer_59 (fun H locs w => ?_)
        refine lv_aload_n hx hb dX5_buyer_60 rfl (lv_at hl 1 rfl) ?_
        refine w_get E w in_X5_buyer_X5 0 (cM_at_0 t a S10) rfl 0 (by decide) fl_X5_buyer_7 rfl rfl dX5_buyer_61 ?_
        refine lv_sipush (v := 247) hx hb dX5_buyer_64 (by decide) ?_
        refine lv_iconst (v := 2) hx hb dX5_buyer_67 (by decide) ?_
        refine lv_iload_n hx hb dX5_buyer_68 rfl (lv_at hl 0 rfl) ?_
        refine lv_imul hx hb dX5_buyer_69 ?_
        refine lv_iadd hx hb dX5_buyer_70 ?_
        refine lv_iconst (v := 1) hx hb dX5_buyer_71 (by decide) ?_
        refine lv_iadd hx hb dX5_buyer_72 ?_
        refine lv_iload_n hx hb dX5_buyer_73 rfl (lv_at hl 3 rfl) ?_
        obtain ⟨h13, hf⟩ := it_n hf
        obtain ⟨S12, eS12, hf⟩ := nm_o hf
        refine w_ast (S1 := S12) E w 1 0 (cM_at_1 t a S10) rfl h13 rfl ((cM_st_1 t a S10 (((247 + (2 * (S6 1 260))) + 1).toNatClampNeg) x2).trans (congrArg (cM t a) eS12.symm)) dX5_buyer_74 (fun H locs w => ?_)
        refine lv_aload_n hx hb dX5_buyer_75 rfl (lv_at hl 1 rfl) ?_
        refine w_get E w in_X5_buyer_X5 0 (cM_at_0 t a S12) rfl 0 (by decide) fl_X5_buyer_7 rfl rfl dX5_buyer_76 ?_
        refine lv_sipush (v := 260) hx hb dX5_buyer_79 (by decide) ?_
        refine lv_dup2_11 hx hb dX5_buyer_82 rfl rfl ?_
        refine w_ald E w 1 0 (cM_at_1 t a S12) rfl (by decide) (congrArg (S12 1) ix_260) dX5_buyer_83 ?_
        refine lv_iconst (v := 1) hx hb dX5_buyer_84 (by decide) ?_
        refine lv_iadd hx hb dX5_buyer_85 ?_
        obtain ⟨S14, eS14, hf⟩ := nm_o hf
        refine w_ast (S1 := S14) E w 1 0 (cM_at_1 t a S12) rfl (by decide) ix_260 ((cM_st_1 t a S12 260 ((S12 1 260) + 1)).trans (congrArg (cM t a) eS14.symm)) dX5_buyer_86 (fun H locs w => ?_)
        refine lv_iload_n hx hb dX5_buyer_87 rfl (lv_at hl 0 rfl) ?_
        exact w_reti E w hf dX5_buyer_88
      · replace hf := it_t h9 hf
        refine lv_aload_n hx hb dX5_buyer_42 rfl (lv_at hl 1 rfl) ?_
        obtain ⟨r17, S16, h15, hf⟩ := bd2_o hf
        refine w_callVi (As := []) (rest := []) hX E w (c_X5_full l hX h15) (cwV 0 hts gX5_buyer_X5_full rfl rfl rfl hd_X5_full ⟨Nat.le_of_ble_eq_true rfl, Nat.le_of_ble_eq_true rfl⟩) (ci := 5) rfl (cM_at_0 t a S6) rfl hl.1 rfl (Nat.le_of_ble_eq_true rfl) dX5_buyer_43 ⟨Nat.le_refl _, Nat.le_refl _⟩ (fun H locs w => ?_)
        exact w_reti E w hf dX5_buyer_46
    · replace hf := it_t h8 hf
      exact k_X5_buyer_20 hX E w (lv_sub hl [0] rfl) hf
theorem c_X5_buyer (l : Launch) {D : va_G} {t : Nat → ClassId} {a : Nat → Nat} {X : State → Prop} (hX : XOk (aW 17 a) X) {N : Nat} {S : ST} {x1 : Int32} {x2 : Int32} {r : Int32} {S' : ST} (hf : f_X5_buyer N S x1 x2 = some (r, S')) : Co l yX5_buyer wsX5_buyer rmX5_buyer D (cM t a) (aW 17 a) (tyM t) X [.ref (a 0), .int x1, .int x2] S (Qi D (cM t a) (aW 17 a) (tyM t) r S') :=
  co_of (cc := cX5_buyer) (maxL := 4) (ret := (some .int)) (lv := [(0, .ref (a 0)), (1, .int x1), (2, .int x2)]) (by decide) rfl rfl (Nat.le_of_ble_eq_true rfl) rfl rfl (fun p e s m below meth c ls E hl w => k_X5_buyer_E hX E w hl hf)
-- X5_leave
theorem in_X5_leave_X5 : ∀ w ∈ u_ws RX5 TX5 28, w ∈ wsX5_leave := by decide +kernel
theorem fl_X5_leave_7 : Cond.fieldLink RX5 7 "NextDoorModel" "now" "[I" ∈ wsX5_leave := by decide +kernel
abbrev rmX5_leave : Room := { frames := 0, cells := 0, slots := 0, locals := 0 }
set_option maxHeartbeats 4000000 in
set_option maxRecDepth 100000 in
theorem k_X5_leave_E {p : Program} {l : Launch} {e : Env} {s : State} {m : MethodId} {args : Array Value} {below : List Frame} {meth : Method} {c : Code} {D : va_G} {t : Nat → ClassId} {a : Nat → Nat} {X : State → Prop} {N : Nat} {r : Int32} {S' : ST} (hX : XOk (aW 17 a) X) (E : EN p s m args meth c cX5_leave RX5 wsX5_leave (some .int) 2) {S : ST} {H : Heap} {locs : List Loc} {ls : Array Slot} (w : Wd D (cM t a) (aW 17 a) (tyM t) X S s H locs) (hl : lv_has ls 2 [(0, .ref (a 0))]) (hf : f_X5_leave N S = some (r, S')) : W p l e rmX5_leave s m args below meth c H locs 0 0 (MQ below (Qi D (cM t a) (aW 17 a) (tyM t) r S') args s 0 0 (aW 17 a)) (F0 m 0 ls []) := by
  obtain ⟨⟨hx, hb, hml, hown, hts⟩, hr, hlk⟩ := id E
  unfold f_X5_leave at hf
  refine lv_aload_n hx hb dX5_leave_0 rfl (lv_at hl 0 rfl) ?_
  refine w_get E w in_X5_leave_X5 0 (cM_at_0 t a S) rfl 0 (by decide) fl_X5_leave_7 rfl rfl dX5_leave_1 ?_
  refine lv_sipush (v := 260) hx hb dX5_leave_4 (by decide) ?_
  refine w_ald E w 1 0 (cM_at_1 t a S) rfl (by decide) (congrArg (S 1) ix_260) dX5_leave_7 ?_
  refine lv_istore_n (lv' := [(1, .int (S 1 260)), (0, .ref (a 0))]) hx hb dX5_leave_8 rfl hl (by decide) rfl (fun ls hl => ?_)
  refine lv_aload_n hx hb dX5_leave_9 rfl (lv_at hl 1 rfl) ?_
  refine w_get E w in_X5_leave_X5 0 (cM_at_0 t a S) rfl 0 (by decide) fl_X5_leave_7 rfl rfl dX5_leave_10 ?_
  refine lv_sipush (v := 260) hx hb dX5_leave_13 (by decide) ?_
  refine lv_iconst (v := 0) hx hb dX5_leave_16 (by decide) ?_
  obtain ⟨S1, eS1, hf⟩ := nm_o hf
  refine w_ast (S1 := S1) E w 1 0 (cM_at_1 t a S) rfl (by decide) ix_260 ((cM_st_1 t a S 260 0).trans (congrArg (cM t a) eS1.symm)) dX5_leave_17 (fun H locs w => ?_)
  refine lv_iload_n hx hb dX5_leave_18 rfl (lv_at hl 0 rfl) ?_
  exact w_reti E w hf dX5_leave_19
theorem c_X5_leave (l : Launch) {D : va_G} {t : Nat → ClassId} {a : Nat → Nat} {X : State → Prop} (hX : XOk (aW 17 a) X) {N : Nat} {S : ST} {r : Int32} {S' : ST} (hf : f_X5_leave N S = some (r, S')) : Co l yX5_leave wsX5_leave rmX5_leave D (cM t a) (aW 17 a) (tyM t) X [.ref (a 0)] S (Qi D (cM t a) (aW 17 a) (tyM t) r S') :=
  co_of (cc := cX5_leave) (maxL := 2) (ret := (some .int)) (lv := [(0, .ref (a 0))]) (by decide) rfl rfl (Nat.le_of_ble_eq_true rfl) rfl rfl (fun p e s m below meth c ls E hl w => k_X5_leave_E hX E w hl hf)
-- X5_paidAt
theorem in_X5_paidAt_X5 : ∀ w ∈ u_ws RX5 TX5 28, w ∈ wsX5_paidAt := by decide +kernel
theorem fl_X5_paidAt_29 : Cond.fieldLink RX5 29 "NextDoorModel" "bestMany" "[I" ∈ wsX5_paidAt := by decide +kernel
theorem fl_X5_paidAt_35 : Cond.fieldLink RX5 35 "NextDoorModel" "bestRow" "[I" ∈ wsX5_paidAt := by decide +kernel
theorem fl_X5_paidAt_128 : Cond.fieldLink RX5 128 "NextDoorModel" "held" "I" ∈ wsX5_paidAt := by decide +kernel
abbrev rmX5_paidAt : Room := { frames := 5, cells := 0, slots := 0, locals := 110 }
set_option maxHeartbeats 4000000 in
set_option maxRecDepth 100000 in
theorem k_X5_paidAt_57 {p : Program} {l : Launch} {e : Env} {s : State} {m : MethodId} {args : Array Value} {below : List Frame} {meth : Method} {c : Code} {D : va_G} {t : Nat → ClassId} {a : Nat → Nat} {X : State → Prop} {N : Nat} {r : Int32} {S' : ST} (hX : XOk (aW 17 a) X) (E : EN p s m args meth c cX5_paidAt RX5 wsX5_paidAt (some .int) 6) {k9 : ST → Int32 → Int32 → Int32 → Int32 → Option (Int32 × ST)} (hk9 : ∀ {S : ST} {x1 : Int32} {x2 : Int32} {x3 : Int32} {x4 : Int32} {H : Heap} {locs : List Loc} {ls : Array Slot}, Wd D (cM t a) (aW 17 a) (tyM t) X S s H locs → lv_has ls 6 [(0, .ref (a 0)), (1, .int x1), (2, .int x2), (3, .int x3), (4, .int x4)] → k9 S x1 x2 x3 x4 = some (r, S') → W p l e rmX5_paidAt s m args below meth c H locs 0 0 (MQ below (Qi D (cM t a) (aW 17 a) (tyM t) r S') args s 0 0 (aW 17 a)) (F0 m 9 ls [])) {S : ST} {x1 : Int32} {x2 : Int32} {x4 : Int32} {x5 : Int32} {s0 : Int32} {H : Heap} {locs : List Loc} {ls : Array Slot} (w : Wd D (cM t a) (aW 17 a) (tyM t) X S s H locs) (hl : lv_has ls 6 [(0, .ref (a 0)), (1, .int x1), (2, .int x2), (4, .int x4), (5, .int x5)]) (hf : b_X5_paidAt_57 N k9 S x1 x2 x4 x5 s0 = some (r, S')) : W p l e rmX5_paidAt s m args below meth c H locs 0 0 (MQ below (Qi D (cM t a) (aW 17 a) (tyM t) r S') args s 0 0 (aW 17 a)) (F0 m 57 ls [.int s0]) := by
  obtain ⟨⟨hx, hb, hml, hown, hts⟩, hr, hlk⟩ := id E
  unfold b_X5_paidAt_57 at hf
  refine lv_istore_n (lv' := [(3, .int s0), (0, .ref (a 0)), (1, .int x1), (2, .int x2), (4, .int x4), (5, .int x5)]) hx hb dX5_paidAt_57 rfl hl (by decide) rfl (fun ls hl => ?_)
  refine lv_aload_n hx hb dX5_paidAt_58 rfl (lv_at hl 1 rfl) ?_
  refine lv_iload hx hb dX5_paidAt_59 (lv_at hl 5 rfl) ?_
  obtain ⟨S14, h13, hf⟩ := bd1_o hf
  refine w_callVv (As := [.int x5]) (rest := []) hX E w (c_X5_buy l hX h13) (cwV 1 hts gX5_paidAt_X5_buy rfl rfl rfl hd_X5_buy ⟨Nat.le_of_ble_eq_true rfl, Nat.le_of_ble_eq_true rfl⟩) (ci := 5) rfl (cM_at_0 t a S) rfl hl.1 rfl (Nat.le_of_ble_eq_true rfl) dX5_paidAt_61 ⟨Nat.le_refl _, Nat.le_refl _⟩ (fun H locs w => ?_)
  refine lv_iinc (v := x4 + 1) (lv' := [(4, .int (x4 + 1)), (3, .int s0), (0, .ref (a 0)), (1, .int x1), (2, .int x2), (5, .int x5)]) hx hb dX5_paidAt_64 hl (k := 4) rfl rfl (by decide) rfl (fun ls hl => ?_)
  refine lv_goto (tgt := 9) hx hb dX5_paidAt_67 (by decide) ?_
  exact hk9 w (lv_sub hl [2, 3, 4, 1, 0] rfl) hf
set_option maxHeartbeats 4000000 in
set_option maxRecDepth 100000 in
theorem k_X5_paidAt_9 {p : Program} {l : Launch} {e : Env} {s : State} {m : MethodId} {args : Array Value} {below : List Frame} {meth : Method} {c : Code} {D : va_G} {t : Nat → ClassId} {a : Nat → Nat} {X : State → Prop} {N : Nat} {r : Int32} {S' : ST} (hX : XOk (aW 17 a) X) (E : EN p s m args meth c cX5_paidAt RX5 wsX5_paidAt (some .int) 6) : ∀ (n : Nat) {S : ST} {x1 : Int32} {x2 : Int32} {x3 : Int32} {x4 : Int32} {H : Heap} {locs : List Loc} {ls : Array Slot}, Wd D (cM t a) (aW 17 a) (tyM t) X S s H locs → lv_has ls 6 [(0, .ref (a 0)), (1, .int x1), (2, .int x2), (3, .int x3), (4, .int x4)] → b_X5_paidAt_9 N n S x1 x2 x3 x4 = some (r, S') → W p l e rmX5_paidAt s m args below meth c H locs 0 0 (MQ below (Qi D (cM t a) (aW 17 a) (tyM t) r S') args s 0 0 (aW 17 a)) (F0 m 9 ls []) := by
  obtain ⟨⟨hx, hb, hml, hown, hts⟩, hr, hlk⟩ := id E
  intro n
  induction n with
  | zero => intro S x1 x2 x3 x4 H locs ls w hl hf; cases hf
  | succ n ih =>
    intro S x1 x2 x3 x4 H locs ls w hl hf
    unfold b_X5_paidAt_9 at hf
    refine lv_iload hx hb dX5_paidAt_9 (lv_at hl 4 rfl) ?_
    refine lv_aload_n hx hb dX5_paidAt_11 rfl (lv_at hl 0 rfl) ?_
    refine w_get E w in_X5_paidAt_X5 0 (cM_at_0 t a S) rfl 17 (by decide) fl_X5_paidAt_29 rfl rfl dX5_paidAt_12 ?_
    refine lv_iconst (v := 1) hx hb dX5_paidAt_15 (by decide) ?_
    refine lv_iload_n hx hb dX5_paidAt_16 rfl (lv_at hl 2 rfl) ?_
    refine lv_ishl hx hb dX5_paidAt_17 ?_
    obtain ⟨h3, hf⟩ := it_n hf
    refine w_ald E w 7 0 (cM_at_7 t a S) rfl h3 rfl dX5_paidAt_18 ?_
    refine lv_icmp_ge (tgt := 70) hx hb dX5_paidAt_19 (by decide) (fun h4 => ?_) (fun h4 => ?_)
    · replace hf := it_t h4 hf
      refine lv_iload_n hx hb dX5_paidAt_70 rfl (lv_at hl 3 rfl) ?_
      exact w_reti E w hf dX5_paidAt_71
    · replace hf := it_f h4 hf
      refine lv_aload_n hx hb dX5_paidAt_22 rfl (lv_at hl 0 rfl) ?_
      refine w_get E w in_X5_paidAt_X5 0 (cM_at_0 t a S) rfl 19 (by decide) fl_X5_paidAt_35 rfl rfl dX5_paidAt_23 ?_
      refine lv_iconst (v := 1) hx hb dX5_paidAt_26 (by decide) ?_
      refine lv_iload_n hx hb dX5_paidAt_27 rfl (lv_at hl 2 rfl) ?_
      refine lv_ishl hx hb dX5_paidAt_28 ?_
      obtain ⟨h5, hf⟩ := it_n hf
      refine w_ald E w 9 0 (cM_at_9 t a S) rfl h5 rfl dX5_paidAt_29 ?_
      refine lv_iload hx hb dX5_paidAt_30 (lv_at hl 4 rfl) ?_
      obtain ⟨r8, S7, h6, hf⟩ := bd2_o hf
      refine w_callSi (As := [.int (S 9 (1 <<< (x2 &&& 31)).toNatClampNeg), .int x4]) (rest := []) hX E w (c_X5_shopIn l hX h6) (va_cwS 2 hts gX5_paidAt_X5_shopIn rfl rfl rfl hd_X5_shopIn ⟨Nat.le_of_ble_eq_true rfl, Nat.le_of_ble_eq_true rfl⟩) rfl hl.1 rfl (Nat.le_of_ble_eq_true rfl) dX5_paidAt_32 ⟨Nat.le_refl _, Nat.le_refl _⟩ (fun H locs w => ?_)
      refine lv_istore (lv' := [(5, .int r8), (0, .ref (a 0)), (1, .int x1), (2, .int x2), (3, .int x3), (4, .int x4)]) hx hb dX5_paidAt_35 hl (by decide) rfl (fun ls hl => ?_)
      refine lv_iload hx hb dX5_paidAt_37 (lv_at hl 0 rfl) ?_
      refine lv_iload_n hx hb dX5_paidAt_39 rfl (lv_at hl 2 rfl) ?_
      refine lv_icmp_ne (tgt := 56) hx hb dX5_paidAt_40 (by decide) (fun h9 => ?_) (fun h9 => ?_)
      · replace hf := it_f h9 hf
        refine lv_iload_n hx hb dX5_paidAt_56 rfl (lv_at hl 4 rfl) ?_
        exact k_X5_paidAt_57 hX E (fun w hl hf => ih w hl hf) w (lv_sub hl [1, 2, 3, 5, 0] rfl) hf
      · replace hf := it_t h9 hf
        refine lv_aload_n hx hb dX5_paidAt_43 rfl (lv_at hl 1 rfl) ?_
        refine lv_iload hx hb dX5_paidAt_44 (lv_at hl 0 rfl) ?_
        refine lv_aload_n hx hb dX5_paidAt_46 rfl (lv_at hl 1 rfl) ?_
        refine w_get E w in_X5_paidAt_X5 0 (cM_at_0 t a S7) rfl 5 (by decide) fl_X5_paidAt_128 rfl rfl dX5_paidAt_47 ?_
        obtain ⟨r12, S11, h10, hf⟩ := bd2_o hf
        refine w_callVi (As := [.int r8, .int (S7 0 5)]) (rest := []) hX E w (c_X5_priceOf l hX h10) (cwV 2 hts gX5_paidAt_X5_priceOf rfl rfl rfl hd_X5_priceOf ⟨Nat.le_of_ble_eq_true rfl, Nat.le_of_ble_eq_true rfl⟩) (ci := 5) rfl (cM_at_0 t a S7) rfl hl.1 rfl (Nat.le_of_ble_eq_true rfl) dX5_paidAt_50 ⟨Nat.le_refl _, Nat.le_refl _⟩ (fun H locs w => ?_)
        refine lv_goto (tgt := 57) hx hb dX5_paidAt_53 (by decide) ?_
        exact k_X5_paidAt_57 hX E (fun w hl hf => ih w hl hf) w (lv_sub hl [1, 2, 3, 5, 0] rfl) hf
set_option maxHeartbeats 4000000 in
set_option maxRecDepth 100000 in
theorem k_X5_paidAt_E {p : Program} {l : Launch} {e : Env} {s : State} {m : MethodId} {args : Array Value} {below : List Frame} {meth : Method} {c : Code} {D : va_G} {t : Nat → ClassId} {a : Nat → Nat} {X : State → Prop} {N : Nat} {r : Int32} {S' : ST} (hX : XOk (aW 17 a) X) (E : EN p s m args meth c cX5_paidAt RX5 wsX5_paidAt (some .int) 6) {S : ST} {x1 : Int32} {x2 : Int32} {H : Heap} {locs : List Loc} {ls : Array Slot} (w : Wd D (cM t a) (aW 17 a) (tyM t) X S s H locs) (hl : lv_has ls 6 [(0, .ref (a 0)), (1, .int x1), (2, .int x2)]) (hf : f_X5_paidAt N S x1 x2 = some (r, S')) : W p l e rmX5_paidAt s m args below meth c H locs 0 0 (MQ below (Qi D (cM t a) (aW 17 a) (tyM t) r S') args s 0 0 (aW 17 a)) (F0 m 0 ls []) := by
  obtain ⟨⟨hx, hb, hml, hown, hts⟩, hr, hlk⟩ := id E
  unfold f_X5_paidAt at hf
  refine lv_aload_n hx hb dX5_paidAt_0 rfl (lv_at hl 0 rfl) ?_
  obtain ⟨S2, h1, hf⟩ := bd1_o hf
  refine w_callVv (As := []) (rest := []) hX E w (c_X5_begin l hX h1) (cwV 0 hts gX5_paidAt_X5_begin rfl rfl rfl hd_X5_begin ⟨Nat.le_of_ble_eq_true rfl, Nat.le_of_ble_eq_true rfl⟩) (ci := 5) rfl (cM_at_0 t a S) rfl hl.1 rfl (Nat.le_of_ble_eq_true rfl) dX5_paidAt_1 ⟨Nat.le_refl _, Nat.le_refl _⟩ (fun H locs w => ?_)
  refine lv_iconst (v := 0) hx hb dX5_paidAt_4 (by decide) ?_
  refine lv_istore_n (lv' := [(3, .int 0), (0, .ref (a 0)), (1, .int x1), (2, .int x2)]) hx hb dX5_paidAt_5 rfl hl (by decide) rfl (fun ls hl => ?_)
  refine lv_iconst (v := 0) hx hb dX5_paidAt_6 (by decide) ?_
  refine lv_istore (lv' := [(4, .int 0), (3, .int 0), (0, .ref (a 0)), (1, .int x1), (2, .int x2)]) hx hb dX5_paidAt_7 hl (by decide) rfl (fun ls hl => ?_)
  exact k_X5_paidAt_9 hX E N w (lv_sub hl [2, 3, 4, 1, 0] rfl) hf
theorem c_X5_paidAt (l : Launch) {D : va_G} {t : Nat → ClassId} {a : Nat → Nat} {X : State → Prop} (hX : XOk (aW 17 a) X) {N : Nat} {S : ST} {x1 : Int32} {x2 : Int32} {r : Int32} {S' : ST} (hf : f_X5_paidAt N S x1 x2 = some (r, S')) : Co l yX5_paidAt wsX5_paidAt rmX5_paidAt D (cM t a) (aW 17 a) (tyM t) X [.ref (a 0), .int x1, .int x2] S (Qi D (cM t a) (aW 17 a) (tyM t) r S') :=
  co_of (cc := cX5_paidAt) (maxL := 6) (ret := (some .int)) (lv := [(0, .ref (a 0)), (1, .int x1), (2, .int x2)]) (by decide) rfl rfl (Nat.le_of_ble_eq_true rfl) rfl rfl (fun p e s m below meth c ls E hl w => k_X5_paidAt_E hX E w hl hf)
-- X5_takesOf
theorem in_X5_takesOf_X5 : ∀ w ∈ u_ws RX5 TX5 28, w ∈ wsX5_takesOf := by decide +kernel
theorem fl_X5_takesOf_7 : Cond.fieldLink RX5 7 "NextDoorModel" "now" "[I" ∈ wsX5_takesOf := by decide +kernel
theorem fl_X5_takesOf_26 : Cond.fieldLink RX5 26 "NextDoorModel" "bestPaid" "[I" ∈ wsX5_takesOf := by decide +kernel
theorem hd_X5_paidAt : yX5_paidAt.cls = RX5 ∧ yX5_paidAt.cls ≠ "java/lang/invoke/MethodHandle" ∧ yX5_paidAt.cls ≠ "java/lang/invoke/VarHandle" ∧ (parseMethodDescriptor yX5_paidAt.desc).map (fun d => d.parameters.length) = some 2 := by decide +kernel
abbrev rmX5_takesOf : Room := { frames := 6, cells := 0, slots := 0, locals := 135 }
set_option maxHeartbeats 4000000 in
set_option maxRecDepth 100000 in
theorem k_X5_takesOf_94 {p : Program} {l : Launch} {e : Env} {s : State} {m : MethodId} {args : Array Value} {below : List Frame} {meth : Method} {c : Code} {D : va_G} {t : Nat → ClassId} {a : Nat → Nat} {X : State → Prop} {N : Nat} {r : Int32} {S' : ST} (hX : XOk (aW 17 a) X) (E : EN p s m args meth c cX5_takesOf RX5 wsX5_takesOf (some .int) 6) {k9 : ST → Int32 → Int32 → Int32 → Option (Int32 × ST)} (hk9 : ∀ {S : ST} {x1 : Int32} {x2 : Int32} {x3 : Int32} {H : Heap} {locs : List Loc} {ls : Array Slot}, Wd D (cM t a) (aW 17 a) (tyM t) X S s H locs → lv_has ls 6 [(0, .ref (a 0)), (1, .int x1), (2, .int x2), (3, .int x3)] → k9 S x1 x2 x3 = some (r, S') → W p l e rmX5_takesOf s m args below meth c H locs 0 0 (MQ below (Qi D (cM t a) (aW 17 a) (tyM t) r S') args s 0 0 (aW 17 a)) (F0 m 9 ls [])) {S : ST} {x1 : Int32} {x3 : Int32} {s0 : Int32} {s1 : Int32} {H : Heap} {locs : List Loc} {ls : Array Slot} (w : Wd D (cM t a) (aW 17 a) (tyM t) X S s H locs) (hl : lv_has ls 6 [(0, .ref (a 0)), (1, .int x1), (3, .int x3)]) (hf : b_X5_takesOf_94 N k9 S x1 x3 s0 s1 = some (r, S')) : W p l e rmX5_takesOf s m args below meth c H locs 0 0 (MQ below (Qi D (cM t a) (aW 17 a) (tyM t) r S') args s 0 0 (aW 17 a)) (F0 m 94 ls [.int s1, .int s0]) := by
  obtain ⟨⟨hx, hb, hml, hown, hts⟩, hr, hlk⟩ := id E
  unfold b_X5_takesOf_94 at hf
  refine lv_iadd hx hb dX5_takesOf_94 ?_
  refine lv_istore_n (lv' := [(2, .int (s0 + s1)), (0, .ref (a 0)), (1, .int x1), (3, .int x3)]) hx hb dX5_takesOf_95 rfl hl (by decide) rfl (fun ls hl => ?_)
  refine lv_iinc (v := x3 + 1) (lv' := [(3, .int (x3 + 1)), (2, .int (s0 + s1)), (0, .ref (a 0)), (1, .int x1)]) hx hb dX5_takesOf_96 hl (k := 3) rfl rfl (by decide) rfl (fun ls hl => ?_)
  refine lv_goto (tgt := 9) hx hb dX5_takesOf_99 (by decide) ?_
  exact hk9 w (lv_sub hl [2, 3, 1, 0] rfl) hf
set_option maxHeartbeats 4000000 in
set_option maxRecDepth 100000 in
theorem k_X5_takesOf_75 {p : Program} {l : Launch} {e : Env} {s : State} {m : MethodId} {args : Array Value} {below : List Frame} {meth : Method} {c : Code} {D : va_G} {t : Nat → ClassId} {a : Nat → Nat} {X : State → Prop} {N : Nat} {r : Int32} {S' : ST} (hX : XOk (aW 17 a) X) (E : EN p s m args meth c cX5_takesOf RX5 wsX5_takesOf (some .int) 6) {k9 : ST → Int32 → Int32 → Int32 → Option (Int32 × ST)} (hk9 : ∀ {S : ST} {x1 : Int32} {x2 : Int32} {x3 : Int32} {H : Heap} {locs : List Loc} {ls : Array Slot}, Wd D (cM t a) (aW 17 a) (tyM t) X S s H locs → lv_has ls 6 [(0, .ref (a 0)), (1, .int x1), (2, .int x2), (3, .int x3)] → k9 S x1 x2 x3 = some (r, S') → W p l e rmX5_takesOf s m args below meth c H locs 0 0 (MQ below (Qi D (cM t a) (aW 17 a) (tyM t) r S') args s 0 0 (aW 17 a)) (F0 m 9 ls [])) {S : ST} {x1 : Int32} {x2 : Int32} {x3 : Int32} {x4 : Int32} {s0 : Int32} {H : Heap} {locs : List Loc} {ls : Array Slot} (w : Wd D (cM t a) (aW 17 a) (tyM t) X S s H locs) (hl : lv_has ls 6 [(0, .ref (a 0)), (1, .int x1), (2, .int x2), (3, .int x3), (4, .int x4)]) (hf : b_X5_takesOf_75 N k9 S x1 x2 x3 x4 s0 = some (r, S')) : W p l e rmX5_takesOf s m args below meth c H locs 0 0 (MQ below (Qi D (cM t a) (aW 17 a) (tyM t) r S') args s 0 0 (aW 17 a)) (F0 m 75 ls [.int s0]) := by
  obtain ⟨⟨hx, hb, hml, hown, hts⟩, hr, hlk⟩ := id E
  unfold b_X5_takesOf_75 at hf
  refine lv_istore (lv' := [(5, .int s0), (0, .ref (a 0)), (1, .int x1), (2, .int x2), (3, .int x3), (4, .int x4)]) hx hb dX5_takesOf_75 hl (by decide) rfl (fun ls hl => ?_)
  refine lv_iload_n hx hb dX5_takesOf_77 rfl (lv_at hl 3 rfl) ?_
  refine lv_iload hx hb dX5_takesOf_78 (lv_at hl 0 rfl) ?_
  refine lv_if_eq (tgt := 93) hx hb dX5_takesOf_80 (by decide) (fun h12 => ?_) (fun h12 => ?_)
  · replace hf := it_t h12 hf
    refine lv_iconst (v := 0) hx hb dX5_takesOf_93 (by decide) ?_
    exact k_X5_takesOf_94 hX E hk9 w (lv_sub hl [1, 2, 4] rfl) hf
  · replace hf := it_f h12 hf
    refine lv_aload_n hx hb dX5_takesOf_83 rfl (lv_at hl 1 rfl) ?_
    refine lv_iload_n hx hb dX5_takesOf_84 rfl (lv_at hl 2 rfl) ?_
    refine lv_iload hx hb dX5_takesOf_85 (lv_at hl 5 rfl) ?_
    obtain ⟨r15, S14, h13, hf⟩ := bd2_o hf
    refine w_callVi (As := [.int x1, .int x4]) (rest := [.int x2]) hX E w (c_X5_paidAt l hX h13) (cwV 2 hts gX5_takesOf_X5_paidAt rfl rfl rfl hd_X5_paidAt ⟨Nat.le_of_ble_eq_true rfl, Nat.le_of_ble_eq_true rfl⟩) (ci := 5) rfl (cM_at_0 t a S) rfl hl.1 rfl (Nat.le_of_ble_eq_true rfl) dX5_takesOf_87 ⟨Nat.le_refl _, Nat.le_refl _⟩ (fun H locs w => ?_)
    refine lv_goto (tgt := 94) hx hb dX5_takesOf_90 (by decide) ?_
    exact k_X5_takesOf_94 hX E hk9 w (lv_sub hl [1, 2, 4] rfl) hf
set_option maxHeartbeats 4000000 in
set_option maxRecDepth 100000 in
theorem k_X5_takesOf_74 {p : Program} {l : Launch} {e : Env} {s : State} {m : MethodId} {args : Array Value} {below : List Frame} {meth : Method} {c : Code} {D : va_G} {t : Nat → ClassId} {a : Nat → Nat} {X : State → Prop} {N : Nat} {r : Int32} {S' : ST} (hX : XOk (aW 17 a) X) (E : EN p s m args meth c cX5_takesOf RX5 wsX5_takesOf (some .int) 6) {k9 : ST → Int32 → Int32 → Int32 → Option (Int32 × ST)} (hk9 : ∀ {S : ST} {x1 : Int32} {x2 : Int32} {x3 : Int32} {H : Heap} {locs : List Loc} {ls : Array Slot}, Wd D (cM t a) (aW 17 a) (tyM t) X S s H locs → lv_has ls 6 [(0, .ref (a 0)), (1, .int x1), (2, .int x2), (3, .int x3)] → k9 S x1 x2 x3 = some (r, S') → W p l e rmX5_takesOf s m args below meth c H locs 0 0 (MQ below (Qi D (cM t a) (aW 17 a) (tyM t) r S') args s 0 0 (aW 17 a)) (F0 m 9 ls [])) {S : ST} {x1 : Int32} {x2 : Int32} {x3 : Int32} {x4 : Int32} {H : Heap} {locs : List Loc} {ls : Array Slot} (w : Wd D (cM t a) (aW 17 a) (tyM t) X S s H locs) (hl : lv_has ls 6 [(0, .ref (a 0)), (1, .int x1), (2, .int x2), (3, .int x3), (4, .int x4)]) (hf : b_X5_takesOf_74 N k9 S x1 x2 x3 x4 = some (r, S')) : W p l e rmX5_takesOf s m args below meth c H locs 0 0 (MQ below (Qi D (cM t a) (aW 17 a) (tyM t) r S') args s 0 0 (aW 17 a)) (F0 m 74 ls []) := by
  obtain ⟨⟨hx, hb, hml, hown, hts⟩, hr, hlk⟩ := id E
  unfold b_X5_takesOf_74 at hf
  refine lv_iconst (v := 0) hx hb dX5_takesOf_74 (by decide) ?_
  exact k_X5_takesOf_75 hX E hk9 w (lv_sub hl [0, 1, 2, 3, 4] rfl) hf
set_option maxHeartbeats 4000000 in
set_option maxRecDepth 100000 in
theorem k_X5_takesOf_9 {p : Program} {l : Launch} {e : Env} {s : State} {m : MethodId} {args : Array Value} {below : List Frame} {meth : Method} {c : Code} {D : va_G} {t : Nat → ClassId} {a : Nat → Nat} {X : State → Prop} {N : Nat} {r : Int32} {S' : ST} (hX : XOk (aW 17 a) X) (E : EN p s m args meth c cX5_takesOf RX5 wsX5_takesOf (some .int) 6) : ∀ (n : Nat) {S : ST} {x1 : Int32} {x2 : Int32} {x3 : Int32} {H : Heap} {locs : List Loc} {ls : Array Slot}, Wd D (cM t a) (aW 17 a) (tyM t) X S s H locs → lv_has ls 6 [(0, .ref (a 0)), (1, .int x1), (2, .int x2), (3, .int x3)] → b_X5_takesOf_9 N n S x1 x2 x3 = some (r, S') → W p l e rmX5_takesOf s m args below meth c H locs 0 0 (MQ below (Qi D (cM t a) (aW 17 a) (tyM t) r S') args s 0 0 (aW 17 a)) (F0 m 9 ls []) := by
  obtain ⟨⟨hx, hb, hml, hown, hts⟩, hr, hlk⟩ := id E
  intro n
  induction n with
  | zero => intro S x1 x2 x3 H locs ls w hl hf; cases hf
  | succ n ih =>
    intro S x1 x2 x3 H locs ls w hl hf
    unfold b_X5_takesOf_9 at hf
    refine lv_iload_n hx hb dX5_takesOf_9 rfl (lv_at hl 3 rfl) ?_
    refine lv_aload_n hx hb dX5_takesOf_10 rfl (lv_at hl 0 rfl) ?_
    refine w_get E w in_X5_takesOf_X5 0 (cM_at_0 t a S) rfl 0 (by decide) fl_X5_takesOf_7 rfl rfl dX5_takesOf_11 ?_
    refine lv_sipush (v := 260) hx hb dX5_takesOf_14 (by decide) ?_
    refine w_ald E w 1 0 (cM_at_1 t a S) rfl (by decide) (congrArg (S 1) ix_260) dX5_takesOf_17 ?_
    refine lv_icmp_ge (tgt := 102) hx hb dX5_takesOf_18 (by decide) (fun h3 => ?_) (fun h3 => ?_)
    · replace hf := it_t h3 hf
      refine lv_iload_n hx hb dX5_takesOf_102 rfl (lv_at hl 2 rfl) ?_
      exact w_reti E w hf dX5_takesOf_103
    · replace hf := it_f h3 hf
      refine lv_aload_n hx hb dX5_takesOf_21 rfl (lv_at hl 0 rfl) ?_
      refine w_get E w in_X5_takesOf_X5 0 (cM_at_0 t a S) rfl 0 (by decide) fl_X5_takesOf_7 rfl rfl dX5_takesOf_22 ?_
      refine lv_sipush (v := 247) hx hb dX5_takesOf_25 (by decide) ?_
      refine lv_iconst (v := 2) hx hb dX5_takesOf_28 (by decide) ?_
      refine lv_iload_n hx hb dX5_takesOf_29 rfl (lv_at hl 3 rfl) ?_
      refine lv_imul hx hb dX5_takesOf_30 ?_
      refine lv_iadd hx hb dX5_takesOf_31 ?_
      obtain ⟨h4, hf⟩ := it_n hf
      refine w_ald E w 1 0 (cM_at_1 t a S) rfl h4 rfl dX5_takesOf_32 ?_
      refine lv_istore (lv' := [(4, .int (S 1 (247 + (2 * x3)).toNatClampNeg)), (0, .ref (a 0)), (1, .int x1), (2, .int x2), (3, .int x3)]) hx hb dX5_takesOf_33 hl (by decide) rfl (fun ls hl => ?_)
      refine lv_aload_n hx hb dX5_takesOf_35 rfl (lv_at hl 1 rfl) ?_
      refine lv_iload hx hb dX5_takesOf_36 (lv_at hl 0 rfl) ?_
      obtain ⟨r7, S6, h5, hf⟩ := bd2_o hf
      refine w_callVi (As := [.int (S 1 (247 + (2 * x3)).toNatClampNeg)]) (rest := []) hX E w (c_X5_isShop l hX h5) (cwV 1 hts gX5_takesOf_X5_isShop rfl rfl rfl hd_X5_isShop ⟨Nat.le_of_ble_eq_true rfl, Nat.le_of_ble_eq_true rfl⟩) (ci := 5) rfl (cM_at_0 t a S) rfl hl.1 rfl (Nat.le_of_ble_eq_true rfl) dX5_takesOf_38 ⟨Nat.le_refl _, Nat.le_refl _⟩ (fun H locs w => ?_)
      refine lv_if_eq (tgt := 74) hx hb dX5_takesOf_41 (by decide) (fun h8 => ?_) (fun h8 => ?_)
      · replace hf := it_t h8 hf
        exact k_X5_takesOf_74 hX E (fun w hl hf => ih w hl hf) w (lv_sub hl [1, 2, 3, 4, 0] rfl) hf
      · replace hf := it_f h8 hf
        refine lv_aload_n hx hb dX5_takesOf_44 rfl (lv_at hl 1 rfl) ?_
        refine w_get E w in_X5_takesOf_X5 0 (cM_at_0 t a S6) rfl 16 (by decide) fl_X5_takesOf_26 rfl rfl dX5_takesOf_45 ?_
        refine lv_iconst (v := 1) hx hb dX5_takesOf_48 (by decide) ?_
        refine lv_iload hx hb dX5_takesOf_49 (lv_at hl 0 rfl) ?_
        refine lv_ishl hx hb dX5_takesOf_51 ?_
        obtain ⟨h9, hf⟩ := it_n hf
        refine w_ald E w 6 0 (cM_at_6 t a S6) rfl h9 rfl dX5_takesOf_52 ?_
        refine lv_aload_n hx hb dX5_takesOf_53 rfl (lv_at hl 1 rfl) ?_
        refine w_get E w in_X5_takesOf_X5 0 (cM_at_0 t a S6) rfl 0 (by decide) fl_X5_takesOf_7 rfl rfl dX5_takesOf_54 ?_
        refine lv_sipush (v := 247) hx hb dX5_takesOf_57 (by decide) ?_
        refine lv_iconst (v := 2) hx hb dX5_takesOf_60 (by decide) ?_
        refine lv_iload_n hx hb dX5_takesOf_61 rfl (lv_at hl 4 rfl) ?_
        refine lv_imul hx hb dX5_takesOf_62 ?_
        refine lv_iadd hx hb dX5_takesOf_63 ?_
        refine lv_iconst (v := 1) hx hb dX5_takesOf_64 (by decide) ?_
        refine lv_iadd hx hb dX5_takesOf_65 ?_
        obtain ⟨h10, hf⟩ := it_n hf
        refine w_ald E w 1 0 (cM_at_1 t a S6) rfl h10 rfl dX5_takesOf_66 ?_
        refine lv_icmp_gt (tgt := 74) hx hb dX5_takesOf_67 (by decide) (fun h11 => ?_) (fun h11 => ?_)
        · replace hf := it_t h11 hf
          exact k_X5_takesOf_74 hX E (fun w hl hf => ih w hl hf) w (lv_sub hl [1, 2, 3, 4, 0] rfl) hf
        · replace hf := it_f h11 hf
          refine lv_iconst (v := 1) hx hb dX5_takesOf_70 (by decide) ?_
          refine lv_goto (tgt := 75) hx hb dX5_takesOf_71 (by decide) ?_
          exact k_X5_takesOf_75 hX E (fun w hl hf => ih w hl hf) w (lv_sub hl [1, 2, 3, 4, 0] rfl) hf
set_option maxHeartbeats 4000000 in
set_option maxRecDepth 100000 in
theorem k_X5_takesOf_E {p : Program} {l : Launch} {e : Env} {s : State} {m : MethodId} {args : Array Value} {below : List Frame} {meth : Method} {c : Code} {D : va_G} {t : Nat → ClassId} {a : Nat → Nat} {X : State → Prop} {N : Nat} {r : Int32} {S' : ST} (hX : XOk (aW 17 a) X) (E : EN p s m args meth c cX5_takesOf RX5 wsX5_takesOf (some .int) 6) {S : ST} {x1 : Int32} {H : Heap} {locs : List Loc} {ls : Array Slot} (w : Wd D (cM t a) (aW 17 a) (tyM t) X S s H locs) (hl : lv_has ls 6 [(0, .ref (a 0)), (1, .int x1)]) (hf : f_X5_takesOf N S x1 = some (r, S')) : W p l e rmX5_takesOf s m args below meth c H locs 0 0 (MQ below (Qi D (cM t a) (aW 17 a) (tyM t) r S') args s 0 0 (aW 17 a)) (F0 m 0 ls []) := by
  obtain ⟨⟨hx, hb, hml, hown, hts⟩, hr, hlk⟩ := id E
  unfold f_X5_takesOf at hf
  refine lv_aload_n hx hb dX5_takesOf_0 rfl (lv_at hl 0 rfl) ?_
  refine lv_iconst (v := (-1)) hx hb dX5_takesOf_1 (by decide) ?_
  obtain ⟨S2, h1, hf⟩ := bd1_o hf
  refine w_callVv (As := [.int (-1)]) (rest := []) hX E w (c_X5_goAll l hX h1) (cwV 1 hts gX5_takesOf_X5_goAll rfl rfl rfl hd_X5_goAll ⟨Nat.le_of_ble_eq_true rfl, Nat.le_of_ble_eq_true rfl⟩) (ci := 5) rfl (cM_at_0 t a S) rfl hl.1 rfl (Nat.le_of_ble_eq_true rfl) dX5_takesOf_2 ⟨Nat.le_refl _, Nat.le_refl _⟩ (fun H locs w => ?_)
  refine lv_iconst (v := 0) hx hb dX5_takesOf_5 (by decide) ?_
  refine lv_istore_n (lv' := [(2, .int 0), (0, .ref (a 0)), (1, .int x1)]) hx hb dX5_takesOf_6 rfl hl (by decide) rfl (fun ls hl => ?_)
  refine lv_iconst (v := 0) hx hb dX5_takesOf_7 (by decide) ?_
  refine lv_istore_n (lv' := [(3, .int 0), (2, .int 0), (0, .ref (a 0)), (1, .int x1)]) hx hb dX5_takesOf_8 rfl hl (by decide) rfl (fun ls hl => ?_)
  exact k_X5_takesOf_9 hX E N w (lv_sub hl [2, 3, 1, 0] rfl) hf
theorem c_X5_takesOf (l : Launch) {D : va_G} {t : Nat → ClassId} {a : Nat → Nat} {X : State → Prop} (hX : XOk (aW 17 a) X) {N : Nat} {S : ST} {x1 : Int32} {r : Int32} {S' : ST} (hf : f_X5_takesOf N S x1 = some (r, S')) : Co l yX5_takesOf wsX5_takesOf rmX5_takesOf D (cM t a) (aW 17 a) (tyM t) X [.ref (a 0), .int x1] S (Qi D (cM t a) (aW 17 a) (tyM t) r S') :=
  co_of (cc := cX5_takesOf) (maxL := 6) (ret := (some .int)) (lv := [(0, .ref (a 0)), (1, .int x1)]) (by decide) rfl rfl (Nat.le_of_ble_eq_true rfl) rfl rfl (fun p e s m below meth c ls E hl w => k_X5_takesOf_E hX E w hl hf)
-- X5_takes
theorem hd_X5_takesOf : yX5_takesOf.cls = RX5 ∧ yX5_takesOf.cls ≠ "java/lang/invoke/MethodHandle" ∧ yX5_takesOf.cls ≠ "java/lang/invoke/VarHandle" ∧ (parseMethodDescriptor yX5_takesOf.desc).map (fun d => d.parameters.length) = some 1 := by decide +kernel
abbrev rmX5_takes : Room := { frames := 7, cells := 0, slots := 0, locals := 160 }
set_option maxHeartbeats 4000000 in
set_option maxRecDepth 100000 in
theorem k_X5_takes_E {p : Program} {l : Launch} {e : Env} {s : State} {m : MethodId} {args : Array Value} {below : List Frame} {meth : Method} {c : Code} {D : va_G} {t : Nat → ClassId} {a : Nat → Nat} {X : State → Prop} {N : Nat} {r : Int32} {S' : ST} (hX : XOk (aW 17 a) X) (E : EN p s m args meth c cX5_takes RX5 wsX5_takes (some .int) 2) {S : ST} {x1 : Int32} {H : Heap} {locs : List Loc} {ls : Array Slot} (w : Wd D (cM t a) (aW 17 a) (tyM t) X S s H locs) (hl : lv_has ls 2 [(0, .ref (a 0)), (1, .int x1)]) (hf : f_X5_takes N S x1 = some (r, S')) : W p l e rmX5_takes s m args below meth c H locs 0 0 (MQ below (Qi D (cM t a) (aW 17 a) (tyM t) r S') args s 0 0 (aW 17 a)) (F0 m 0 ls []) := by
  obtain ⟨⟨hx, hb, hml, hown, hts⟩, hr, hlk⟩ := id E
  unfold f_X5_takes at hf
  refine lv_aload_n hx hb dX5_takes_0 rfl (lv_at hl 0 rfl) ?_
  refine lv_iload_n hx hb dX5_takes_1 rfl (lv_at hl 1 rfl) ?_
  obtain ⟨r3, S2, h1, hf⟩ := bd2_o hf
  refine w_callVi (As := [.int x1]) (rest := []) hX E w (c_X5_isShop l hX h1) (cwV 1 hts gX5_takes_X5_isShop rfl rfl rfl hd_X5_isShop ⟨Nat.le_of_ble_eq_true rfl, Nat.le_of_ble_eq_true rfl⟩) (ci := 5) rfl (cM_at_0 t a S) rfl hl.1 rfl (Nat.le_of_ble_eq_true rfl) dX5_takes_2 ⟨Nat.le_refl _, Nat.le_refl _⟩ (fun H locs w => ?_)
  refine lv_if_eq (tgt := 16) hx hb dX5_takes_5 (by decide) (fun h4 => ?_) (fun h4 => ?_)
  · replace hf := it_t h4 hf
    refine lv_aload_n hx hb dX5_takes_16 rfl (lv_at hl 0 rfl) ?_
    refine lv_bipush (v := (-2)) hx hb dX5_takes_17 (by decide) ?_
    obtain ⟨r7, S6, h5, hf⟩ := bd2_o hf
    refine w_callVi (As := [.int (-2)]) (rest := []) hX E w (c_X5_bad l hX h5) (cwV 1 hts gX5_takes_X5_bad rfl rfl rfl hd_X5_bad ⟨Nat.le_of_ble_eq_true rfl, Nat.le_of_ble_eq_true rfl⟩) (ci := 5) rfl (cM_at_0 t a S2) rfl hl.1 rfl (Nat.le_of_ble_eq_true rfl) dX5_takes_19 ⟨Nat.le_refl _, Nat.le_refl _⟩ (fun H locs w => ?_)
    exact w_reti E w hf dX5_takes_22
  · replace hf := it_f h4 hf
    refine lv_aload_n hx hb dX5_takes_8 rfl (lv_at hl 0 rfl) ?_
    refine lv_iload_n hx hb dX5_takes_9 rfl (lv_at hl 1 rfl) ?_
    obtain ⟨r10, S9, h8, hf⟩ := bd2_o hf
    refine w_callVi (As := [.int x1]) (rest := []) hX E w (c_X5_takesOf l hX h8) (cwV 1 hts gX5_takes_X5_takesOf rfl rfl rfl hd_X5_takesOf ⟨Nat.le_of_ble_eq_true rfl, Nat.le_of_ble_eq_true rfl⟩) (ci := 5) rfl (cM_at_0 t a S2) rfl hl.1 rfl (Nat.le_of_ble_eq_true rfl) dX5_takes_10 ⟨Nat.le_refl _, Nat.le_refl _⟩ (fun H locs w => ?_)
    refine lv_goto (tgt := 22) hx hb dX5_takes_13 (by decide) ?_
    exact w_reti E w hf dX5_takes_22
theorem c_X5_takes (l : Launch) {D : va_G} {t : Nat → ClassId} {a : Nat → Nat} {X : State → Prop} (hX : XOk (aW 17 a) X) {N : Nat} {S : ST} {x1 : Int32} {r : Int32} {S' : ST} (hf : f_X5_takes N S x1 = some (r, S')) : Co l yX5_takes wsX5_takes rmX5_takes D (cM t a) (aW 17 a) (tyM t) X [.ref (a 0), .int x1] S (Qi D (cM t a) (aW 17 a) (tyM t) r S') :=
  co_of (cc := cX5_takes) (maxL := 2) (ret := (some .int)) (lv := [(0, .ref (a 0)), (1, .int x1)]) (by decide) rfl rfl (Nat.le_of_ble_eq_true rfl) rfl rfl (fun p e s m below meth c ls E hl w => k_X5_takes_E hX E w hl hf)
-- X5_asksOf
theorem in_X5_asksOf_X5 : ∀ w ∈ u_ws RX5 TX5 28, w ∈ wsX5_asksOf := by decide +kernel
theorem fl_X5_asksOf_261 : Cond.fieldLink RX5 261 "NextDoorModel" "mostTaken" "I" ∈ wsX5_asksOf := by decide +kernel
theorem fl_X5_asksOf_7 : Cond.fieldLink RX5 7 "NextDoorModel" "now" "[I" ∈ wsX5_asksOf := by decide +kernel
abbrev rmX5_asksOf : Room := { frames := 7, cells := 0, slots := 0, locals := 160 }
set_option maxHeartbeats 4000000 in
set_option maxRecDepth 100000 in
theorem k_X5_asksOf_80 {p : Program} {l : Launch} {e : Env} {s : State} {m : MethodId} {args : Array Value} {below : List Frame} {meth : Method} {c : Code} {D : va_G} {t : Nat → ClassId} {a : Nat → Nat} {X : State → Prop} {N : Nat} {r : Int32} {S' : ST} (hX : XOk (aW 17 a) X) (E : EN p s m args meth c cX5_asksOf RX5 wsX5_asksOf (some .int) 6) {k17 : ST → Int32 → Int32 → Int32 → Int32 → Option (Int32 × ST)} (hk17 : ∀ {S : ST} {x1 : Int32} {x2 : Int32} {x3 : Int32} {x4 : Int32} {H : Heap} {locs : List Loc} {ls : Array Slot}, Wd D (cM t a) (aW 17 a) (tyM t) X S s H locs → lv_has ls 6 [(0, .ref (a 0)), (1, .int x1), (2, .int x2), (3, .int x3), (4, .int x4)] → k17 S x1 x2 x3 x4 = some (r, S') → W p l e rmX5_asksOf s m args below meth c H locs 0 0 (MQ below (Qi D (cM t a) (aW 17 a) (tyM t) r S') args s 0 0 (aW 17 a)) (F0 m 17 ls [])) {S : ST} {x1 : Int32} {x2 : Int32} {x3 : Int32} {x4 : Int32} {s1 : Int32} {H : Heap} {locs : List Loc} {ls : Array Slot} (w : Wd D (cM t a) (aW 17 a) (tyM t) X S s H locs) (hl : lv_has ls 6 [(0, .ref (a 0)), (1, .int x1), (2, .int x2), (3, .int x3), (4, .int x4)]) (hf : b_X5_asksOf_80 N k17 S x1 x2 x3 x4 s1 = some (r, S')) : W p l e rmX5_asksOf s m args below meth c H locs 0 0 (MQ below (Qi D (cM t a) (aW 17 a) (tyM t) r S') args s 0 0 (aW 17 a)) (F0 m 80 ls [.int s1, .ref (a 0)]) := by
  obtain ⟨⟨hx, hb, hml, hown, hts⟩, hr, hlk⟩ := id E
  unfold b_X5_asksOf_80 at hf
  obtain ⟨S15, eS15, hf⟩ := nm_o hf
  refine w_put (S1 := S15) E w in_X5_asksOf_X5 tyX5 tyX5_ok nmX5 0 (cM_at_0 t a S) rfl 26 (by decide) fl_X5_asksOf_261 rfl rfl rfl rfl rfl (Nat.le_of_ble_eq_true rfl) ((cM_set_0_26 t a S s1).trans (congrArg (cM t a) eS15.symm)) dX5_asksOf_80 (fun H locs w => ?_)
  refine lv_iinc (v := x4 + 1) (lv' := [(4, .int (x4 + 1)), (0, .ref (a 0)), (1, .int x1), (2, .int x2), (3, .int x3)]) hx hb dX5_asksOf_83 hl (k := 4) rfl rfl (by decide) rfl (fun ls hl => ?_)
  refine lv_goto (tgt := 17) hx hb dX5_asksOf_86 (by decide) ?_
  exact hk17 w (lv_sub hl [1, 2, 3, 4, 0] rfl) hf
set_option maxHeartbeats 4000000 in
set_option maxRecDepth 100000 in
theorem k_X5_asksOf_60 {p : Program} {l : Launch} {e : Env} {s : State} {m : MethodId} {args : Array Value} {below : List Frame} {meth : Method} {c : Code} {D : va_G} {t : Nat → ClassId} {a : Nat → Nat} {X : State → Prop} {N : Nat} {r : Int32} {S' : ST} (hX : XOk (aW 17 a) X) (E : EN p s m args meth c cX5_asksOf RX5 wsX5_asksOf (some .int) 6) {k17 : ST → Int32 → Int32 → Int32 → Int32 → Option (Int32 × ST)} (hk17 : ∀ {S : ST} {x1 : Int32} {x2 : Int32} {x3 : Int32} {x4 : Int32} {H : Heap} {locs : List Loc} {ls : Array Slot}, Wd D (cM t a) (aW 17 a) (tyM t) X S s H locs → lv_has ls 6 [(0, .ref (a 0)), (1, .int x1), (2, .int x2), (3, .int x3), (4, .int x4)] → k17 S x1 x2 x3 x4 = some (r, S') → W p l e rmX5_asksOf s m args below meth c H locs 0 0 (MQ below (Qi D (cM t a) (aW 17 a) (tyM t) r S') args s 0 0 (aW 17 a)) (F0 m 17 ls [])) {S : ST} {x1 : Int32} {x2 : Int32} {x4 : Int32} {x5 : Int32} {s0 : Int32} {H : Heap} {locs : List Loc} {ls : Array Slot} (w : Wd D (cM t a) (aW 17 a) (tyM t) X S s H locs) (hl : lv_has ls 6 [(0, .ref (a 0)), (1, .int x1), (2, .int x2), (4, .int x4), (5, .int x5)]) (hf : b_X5_asksOf_60 N k17 S x1 x2 x4 x5 s0 = some (r, S')) : W p l e rmX5_asksOf s m args below meth c H locs 0 0 (MQ below (Qi D (cM t a) (aW 17 a) (tyM t) r S') args s 0 0 (aW 17 a)) (F0 m 60 ls [.int s0]) := by
  obtain ⟨⟨hx, hb, hml, hown, hts⟩, hr, hlk⟩ := id E
  unfold b_X5_asksOf_60 at hf
  refine lv_istore_n (lv' := [(3, .int s0), (0, .ref (a 0)), (1, .int x1), (2, .int x2), (4, .int x4), (5, .int x5)]) hx hb dX5_asksOf_60 rfl hl (by decide) rfl (fun ls hl => ?_)
  refine lv_aload_n hx hb dX5_asksOf_61 rfl (lv_at hl 1 rfl) ?_
  refine lv_iload hx hb dX5_asksOf_62 (lv_at hl 5 rfl) ?_
  refine lv_aload_n hx hb dX5_asksOf_64 rfl (lv_at hl 1 rfl) ?_
  refine w_get E w in_X5_asksOf_X5 0 (cM_at_0 t a S) rfl 26 (by decide) fl_X5_asksOf_261 rfl rfl dX5_asksOf_65 ?_
  refine lv_icmp_le (tgt := 76) hx hb dX5_asksOf_68 (by decide) (fun h14 => ?_) (fun h14 => ?_)
  · replace hf := it_t h14 hf
    refine lv_aload_n hx hb dX5_asksOf_76 rfl (lv_at hl 1 rfl) ?_
    refine w_get E w in_X5_asksOf_X5 0 (cM_at_0 t a S) rfl 26 (by decide) fl_X5_asksOf_261 rfl rfl dX5_asksOf_77 ?_
    exact k_X5_asksOf_80 hX E hk17 w (lv_sub hl [1, 2, 3, 0, 4] rfl) hf
  · replace hf := it_f h14 hf
    refine lv_iload hx hb dX5_asksOf_71 (lv_at hl 5 rfl) ?_
    refine lv_goto (tgt := 80) hx hb dX5_asksOf_73 (by decide) ?_
    exact k_X5_asksOf_80 hX E hk17 w (lv_sub hl [1, 2, 3, 0, 4] rfl) hf
set_option maxHeartbeats 4000000 in
set_option maxRecDepth 100000 in
theorem k_X5_asksOf_17 {p : Program} {l : Launch} {e : Env} {s : State} {m : MethodId} {args : Array Value} {below : List Frame} {meth : Method} {c : Code} {D : va_G} {t : Nat → ClassId} {a : Nat → Nat} {X : State → Prop} {N : Nat} {r : Int32} {S' : ST} (hX : XOk (aW 17 a) X) (E : EN p s m args meth c cX5_asksOf RX5 wsX5_asksOf (some .int) 6) : ∀ (n : Nat) {S : ST} {x1 : Int32} {x2 : Int32} {x3 : Int32} {x4 : Int32} {H : Heap} {locs : List Loc} {ls : Array Slot}, Wd D (cM t a) (aW 17 a) (tyM t) X S s H locs → lv_has ls 6 [(0, .ref (a 0)), (1, .int x1), (2, .int x2), (3, .int x3), (4, .int x4)] → b_X5_asksOf_17 N n S x1 x2 x3 x4 = some (r, S') → W p l e rmX5_asksOf s m args below meth c H locs 0 0 (MQ below (Qi D (cM t a) (aW 17 a) (tyM t) r S') args s 0 0 (aW 17 a)) (F0 m 17 ls []) := by
  obtain ⟨⟨hx, hb, hml, hown, hts⟩, hr, hlk⟩ := id E
  intro n
  induction n with
  | zero => intro S x1 x2 x3 x4 H locs ls w hl hf; cases hf
  | succ n ih =>
    intro S x1 x2 x3 x4 H locs ls w hl hf
    unfold b_X5_asksOf_17 at hf
    refine lv_iload hx hb dX5_asksOf_17 (lv_at hl 4 rfl) ?_
    refine lv_bipush (v := 20) hx hb dX5_asksOf_19 (by decide) ?_
    refine lv_icmp_gt (tgt := 89) hx hb dX5_asksOf_21 (by decide) (fun h5 => ?_) (fun h5 => ?_)
    · replace hf := it_t h5 hf
      refine lv_aload_n hx hb dX5_asksOf_89 rfl (lv_at hl 0 rfl) ?_
      refine w_get E w in_X5_asksOf_X5 0 (cM_at_0 t a S) rfl 0 (by decide) fl_X5_asksOf_7 rfl rfl dX5_asksOf_90 ?_
      refine lv_iconst (v := 0) hx hb dX5_asksOf_93 (by decide) ?_
      refine lv_iconst (v := 4) hx hb dX5_asksOf_94 (by decide) ?_
      refine lv_iload_n hx hb dX5_asksOf_95 rfl (lv_at hl 1 rfl) ?_
      refine lv_imul hx hb dX5_asksOf_96 ?_
      refine lv_iadd hx hb dX5_asksOf_97 ?_
      refine lv_iconst (v := 1) hx hb dX5_asksOf_98 (by decide) ?_
      refine lv_iadd hx hb dX5_asksOf_99 ?_
      refine lv_iload_n hx hb dX5_asksOf_100 rfl (lv_at hl 2 rfl) ?_
      obtain ⟨h7, hf⟩ := it_n hf
      obtain ⟨S6, eS6, hf⟩ := nm_o hf
      refine w_ast (S1 := S6) E w 1 0 (cM_at_1 t a S) rfl h7 rfl ((cM_st_1 t a S (((0 + (4 * x1)) + 1).toNatClampNeg) x2).trans (congrArg (cM t a) eS6.symm)) dX5_asksOf_101 (fun H locs w => ?_)
      refine lv_iload_n hx hb dX5_asksOf_102 rfl (lv_at hl 3 rfl) ?_
      exact w_reti E w hf dX5_asksOf_103
    · replace hf := it_f h5 hf
      refine lv_aload_n hx hb dX5_asksOf_24 rfl (lv_at hl 0 rfl) ?_
      refine w_get E w in_X5_asksOf_X5 0 (cM_at_0 t a S) rfl 0 (by decide) fl_X5_asksOf_7 rfl rfl dX5_asksOf_25 ?_
      refine lv_iconst (v := 0) hx hb dX5_asksOf_28 (by decide) ?_
      refine lv_iconst (v := 4) hx hb dX5_asksOf_29 (by decide) ?_
      refine lv_iload_n hx hb dX5_asksOf_30 rfl (lv_at hl 1 rfl) ?_
      refine lv_imul hx hb dX5_asksOf_31 ?_
      refine lv_iadd hx hb dX5_asksOf_32 ?_
      refine lv_iconst (v := 1) hx hb dX5_asksOf_33 (by decide) ?_
      refine lv_iadd hx hb dX5_asksOf_34 ?_
      refine lv_iload hx hb dX5_asksOf_35 (lv_at hl 4 rfl) ?_
      obtain ⟨h9, hf⟩ := it_n hf
      obtain ⟨S8, eS8, hf⟩ := nm_o hf
      refine w_ast (S1 := S8) E w 1 0 (cM_at_1 t a S) rfl h9 rfl ((cM_st_1 t a S (((0 + (4 * x1)) + 1).toNatClampNeg) x4).trans (congrArg (cM t a) eS8.symm)) dX5_asksOf_37 (fun H locs w => ?_)
      refine lv_aload_n hx hb dX5_asksOf_38 rfl (lv_at hl 0 rfl) ?_
      refine lv_iload_n hx hb dX5_asksOf_39 rfl (lv_at hl 1 rfl) ?_
      obtain ⟨r12, S11, h10, hf⟩ := bd2_o hf
      refine w_callVi (As := [.int x1]) (rest := []) hX E w (c_X5_takesOf l hX h10) (cwV 1 hts gX5_asksOf_X5_takesOf rfl rfl rfl hd_X5_takesOf ⟨Nat.le_of_ble_eq_true rfl, Nat.le_of_ble_eq_true rfl⟩) (ci := 5) rfl (cM_at_0 t a S8) rfl hl.1 rfl (Nat.le_of_ble_eq_true rfl) dX5_asksOf_40 ⟨Nat.le_refl _, Nat.le_refl _⟩ (fun H locs w => ?_)
      refine lv_istore (lv' := [(5, .int r12), (0, .ref (a 0)), (1, .int x1), (2, .int x2), (3, .int x3), (4, .int x4)]) hx hb dX5_asksOf_43 hl (by decide) rfl (fun ls hl => ?_)
      refine lv_iload hx hb dX5_asksOf_45 (lv_at hl 0 rfl) ?_
      refine lv_aload_n hx hb dX5_asksOf_47 rfl (lv_at hl 1 rfl) ?_
      refine w_get E w in_X5_asksOf_X5 0 (cM_at_0 t a S11) rfl 26 (by decide) fl_X5_asksOf_261 rfl rfl dX5_asksOf_48 ?_
      refine lv_icmp_le (tgt := 59) hx hb dX5_asksOf_51 (by decide) (fun h13 => ?_) (fun h13 => ?_)
      · replace hf := it_t h13 hf
        refine lv_iload_n hx hb dX5_asksOf_59 rfl (lv_at hl 4 rfl) ?_
        exact k_X5_asksOf_60 hX E (fun w hl hf => ih w hl hf) w (lv_sub hl [1, 2, 3, 5, 0] rfl) hf
      · replace hf := it_f h13 hf
        refine lv_iload hx hb dX5_asksOf_54 (lv_at hl 5 rfl) ?_
        refine lv_goto (tgt := 60) hx hb dX5_asksOf_56 (by decide) ?_
        exact k_X5_asksOf_60 hX E (fun w hl hf => ih w hl hf) w (lv_sub hl [1, 2, 3, 5, 0] rfl) hf
set_option maxHeartbeats 4000000 in
set_option maxRecDepth 100000 in
theorem k_X5_asksOf_E {p : Program} {l : Launch} {e : Env} {s : State} {m : MethodId} {args : Array Value} {below : List Frame} {meth : Method} {c : Code} {D : va_G} {t : Nat → ClassId} {a : Nat → Nat} {X : State → Prop} {N : Nat} {r : Int32} {S' : ST} (hX : XOk (aW 17 a) X) (E : EN p s m args meth c cX5_asksOf RX5 wsX5_asksOf (some .int) 6) {S : ST} {x1 : Int32} {H : Heap} {locs : List Loc} {ls : Array Slot} (w : Wd D (cM t a) (aW 17 a) (tyM t) X S s H locs) (hl : lv_has ls 6 [(0, .ref (a 0)), (1, .int x1)]) (hf : f_X5_asksOf N S x1 = some (r, S')) : W p l e rmX5_asksOf s m args below meth c H locs 0 0 (MQ below (Qi D (cM t a) (aW 17 a) (tyM t) r S') args s 0 0 (aW 17 a)) (F0 m 0 ls []) := by
  obtain ⟨⟨hx, hb, hml, hown, hts⟩, hr, hlk⟩ := id E
  unfold f_X5_asksOf at hf
  refine lv_aload_n hx hb dX5_asksOf_0 rfl (lv_at hl 0 rfl) ?_
  refine lv_iload_n hx hb dX5_asksOf_1 rfl (lv_at hl 1 rfl) ?_
  refine lv_iconst (v := 1) hx hb dX5_asksOf_2 (by decide) ?_
  obtain ⟨r3, S2, h1, hf⟩ := bd2_o hf
  refine w_callVi (As := [.int x1, .int 1]) (rest := []) hX E w (c_X5_of l hX h1) (cwV 2 hts gX5_asksOf_X5_of rfl rfl rfl hd_X5_of ⟨Nat.le_of_ble_eq_true rfl, Nat.le_of_ble_eq_true rfl⟩) (ci := 5) rfl (cM_at_0 t a S) rfl hl.1 rfl (Nat.le_of_ble_eq_true rfl) dX5_asksOf_3 ⟨Nat.le_refl _, Nat.le_refl _⟩ (fun H locs w => ?_)
  refine lv_istore_n (lv' := [(2, .int r3), (0, .ref (a 0)), (1, .int x1)]) hx hb dX5_asksOf_6 rfl hl (by decide) rfl (fun ls hl => ?_)
  refine lv_iconst (v := 0) hx hb dX5_asksOf_7 (by decide) ?_
  refine lv_istore_n (lv' := [(3, .int 0), (2, .int r3), (0, .ref (a 0)), (1, .int x1)]) hx hb dX5_asksOf_8 rfl hl (by decide) rfl (fun ls hl => ?_)
  refine lv_aload_n hx hb dX5_asksOf_9 rfl (lv_at hl 2 rfl) ?_
  refine lv_iconst (v := (-1)) hx hb dX5_asksOf_10 (by decide) ?_
  obtain ⟨S4, eS4, hf⟩ := nm_o hf
  refine w_put (S1 := S4) E w in_X5_asksOf_X5 tyX5 tyX5_ok nmX5 0 (cM_at_0 t a S2) rfl 26 (by decide) fl_X5_asksOf_261 rfl rfl rfl rfl rfl (Nat.le_of_ble_eq_true rfl) ((cM_set_0_26 t a S2 (-1)).trans (congrArg (cM t a) eS4.symm)) dX5_asksOf_11 (fun H locs w => ?_)
  refine lv_iconst (v := 0) hx hb dX5_asksOf_14 (by decide) ?_
  refine lv_istore (lv' := [(4, .int 0), (3, .int 0), (2, .int r3), (0, .ref (a 0)), (1, .int x1)]) hx hb dX5_asksOf_15 hl (by decide) rfl (fun ls hl => ?_)
  exact k_X5_asksOf_17 hX E N w (lv_sub hl [3, 4, 2, 1, 0] rfl) hf
theorem c_X5_asksOf (l : Launch) {D : va_G} {t : Nat → ClassId} {a : Nat → Nat} {X : State → Prop} (hX : XOk (aW 17 a) X) {N : Nat} {S : ST} {x1 : Int32} {r : Int32} {S' : ST} (hf : f_X5_asksOf N S x1 = some (r, S')) : Co l yX5_asksOf wsX5_asksOf rmX5_asksOf D (cM t a) (aW 17 a) (tyM t) X [.ref (a 0), .int x1] S (Qi D (cM t a) (aW 17 a) (tyM t) r S') :=
  co_of (cc := cX5_asksOf) (maxL := 6) (ret := (some .int)) (lv := [(0, .ref (a 0)), (1, .int x1)]) (by decide) rfl rfl (Nat.le_of_ble_eq_true rfl) rfl rfl (fun p e s m below meth c ls E hl w => k_X5_asksOf_E hX E w hl hf)
-- X5_asks
theorem hd_X5_asksOf : yX5_asksOf.cls = RX5 ∧ yX5_asksOf.cls ≠ "java/lang/invoke/MethodHandle" ∧ yX5_asksOf.cls ≠ "java/lang/invoke/VarHandle" ∧ (parseMethodDescriptor yX5_asksOf.desc).map (fun d => d.parameters.length) = some 1 := by decide +kernel
abbrev rmX5_asks : Room := { frames := 8, cells := 0, slots := 0, locals := 185 }
set_option maxHeartbeats 4000000 in
set_option maxRecDepth 100000 in
theorem k_X5_asks_E {p : Program} {l : Launch} {e : Env} {s : State} {m : MethodId} {args : Array Value} {below : List Frame} {meth : Method} {c : Code} {D : va_G} {t : Nat → ClassId} {a : Nat → Nat} {X : State → Prop} {N : Nat} {r : Int32} {S' : ST} (hX : XOk (aW 17 a) X) (E : EN p s m args meth c cX5_asks RX5 wsX5_asks (some .int) 2) {S : ST} {x1 : Int32} {H : Heap} {locs : List Loc} {ls : Array Slot} (w : Wd D (cM t a) (aW 17 a) (tyM t) X S s H locs) (hl : lv_has ls 2 [(0, .ref (a 0)), (1, .int x1)]) (hf : f_X5_asks N S x1 = some (r, S')) : W p l e rmX5_asks s m args below meth c H locs 0 0 (MQ below (Qi D (cM t a) (aW 17 a) (tyM t) r S') args s 0 0 (aW 17 a)) (F0 m 0 ls []) := by
  obtain ⟨⟨hx, hb, hml, hown, hts⟩, hr, hlk⟩ := id E
  unfold f_X5_asks at hf
  refine lv_aload_n hx hb dX5_asks_0 rfl (lv_at hl 0 rfl) ?_
  refine lv_iload_n hx hb dX5_asks_1 rfl (lv_at hl 1 rfl) ?_
  obtain ⟨r3, S2, h1, hf⟩ := bd2_o hf
  refine w_callVi (As := [.int x1]) (rest := []) hX E w (c_X5_isShop l hX h1) (cwV 1 hts gX5_asks_X5_isShop rfl rfl rfl hd_X5_isShop ⟨Nat.le_of_ble_eq_true rfl, Nat.le_of_ble_eq_true rfl⟩) (ci := 5) rfl (cM_at_0 t a S) rfl hl.1 rfl (Nat.le_of_ble_eq_true rfl) dX5_asks_2 ⟨Nat.le_refl _, Nat.le_refl _⟩ (fun H locs w => ?_)
  refine lv_if_eq (tgt := 16) hx hb dX5_asks_5 (by decide) (fun h4 => ?_) (fun h4 => ?_)
  · replace hf := it_t h4 hf
    refine lv_aload_n hx hb dX5_asks_16 rfl (lv_at hl 0 rfl) ?_
    refine lv_bipush (v := (-2)) hx hb dX5_asks_17 (by decide) ?_
    obtain ⟨r7, S6, h5, hf⟩ := bd2_o hf
    refine w_callVi (As := [.int (-2)]) (rest := []) hX E w (c_X5_bad l hX h5) (cwV 1 hts gX5_asks_X5_bad rfl rfl rfl hd_X5_bad ⟨Nat.le_of_ble_eq_true rfl, Nat.le_of_ble_eq_true rfl⟩) (ci := 5) rfl (cM_at_0 t a S2) rfl hl.1 rfl (Nat.le_of_ble_eq_true rfl) dX5_asks_19 ⟨Nat.le_refl _, Nat.le_refl _⟩ (fun H locs w => ?_)
    exact w_reti E w hf dX5_asks_22
  · replace hf := it_f h4 hf
    refine lv_aload_n hx hb dX5_asks_8 rfl (lv_at hl 0 rfl) ?_
    refine lv_iload_n hx hb dX5_asks_9 rfl (lv_at hl 1 rfl) ?_
    obtain ⟨r10, S9, h8, hf⟩ := bd2_o hf
    refine w_callVi (As := [.int x1]) (rest := []) hX E w (c_X5_asksOf l hX h8) (cwV 1 hts gX5_asks_X5_asksOf rfl rfl rfl hd_X5_asksOf ⟨Nat.le_of_ble_eq_true rfl, Nat.le_of_ble_eq_true rfl⟩) (ci := 5) rfl (cM_at_0 t a S2) rfl hl.1 rfl (Nat.le_of_ble_eq_true rfl) dX5_asks_10 ⟨Nat.le_refl _, Nat.le_refl _⟩ (fun H locs w => ?_)
    refine lv_goto (tgt := 22) hx hb dX5_asks_13 (by decide) ?_
    exact w_reti E w hf dX5_asks_22
theorem c_X5_asks (l : Launch) {D : va_G} {t : Nat → ClassId} {a : Nat → Nat} {X : State → Prop} (hX : XOk (aW 17 a) X) {N : Nat} {S : ST} {x1 : Int32} {r : Int32} {S' : ST} (hf : f_X5_asks N S x1 = some (r, S')) : Co l yX5_asks wsX5_asks rmX5_asks D (cM t a) (aW 17 a) (tyM t) X [.ref (a 0), .int x1] S (Qi D (cM t a) (aW 17 a) (tyM t) r S') :=
  co_of (cc := cX5_asks) (maxL := 2) (ret := (some .int)) (lv := [(0, .ref (a 0)), (1, .int x1)]) (by decide) rfl rfl (Nat.le_of_ble_eq_true rfl) rfl rfl (fun p e s m below meth c ls E hl w => k_X5_asks_E hX E w hl hf)
-- X5_changeAll
theorem in_X5_changeAll_X5 : ∀ w ∈ u_ws RX5 TX5 28, w ∈ wsX5_changeAll := by decide +kernel
theorem fl_X5_changeAll_261 : Cond.fieldLink RX5 261 "NextDoorModel" "mostTaken" "I" ∈ wsX5_changeAll := by decide +kernel
theorem fl_X5_changeAll_7 : Cond.fieldLink RX5 7 "NextDoorModel" "now" "[I" ∈ wsX5_changeAll := by decide +kernel
abbrev rmX5_changeAll : Room := { frames := 8, cells := 0, slots := 0, locals := 185 }
set_option maxHeartbeats 4000000 in
set_option maxRecDepth 100000 in
theorem k_X5_changeAll_82 {p : Program} {l : Launch} {e : Env} {s : State} {m : MethodId} {args : Array Value} {below : List Frame} {meth : Method} {c : Code} {D : va_G} {t : Nat → ClassId} {a : Nat → Nat} {X : State → Prop} {N : Nat} {r : Int32} {S' : ST} (hX : XOk (aW 17 a) X) (E : EN p s m args meth c cX5_changeAll RX5 wsX5_changeAll (some .boolean) 6) {k4 : ST → Int32 → Int32 → Option (Int32 × ST)} (hk4 : ∀ {S : ST} {x1 : Int32} {x2 : Int32} {H : Heap} {locs : List Loc} {ls : Array Slot}, Wd D (cM t a) (aW 17 a) (tyM t) X S s H locs → lv_has ls 6 [(0, .ref (a 0)), (1, .int x1), (2, .int x2)] → k4 S x1 x2 = some (r, S') → W p l e rmX5_changeAll s m args below meth c H locs 0 0 (MQ below (Qi D (cM t a) (aW 17 a) (tyM t) r S') args s 0 0 (aW 17 a)) (F0 m 4 ls [])) {S : ST} {x2 : Int32} {s0 : Int32} {H : Heap} {locs : List Loc} {ls : Array Slot} (w : Wd D (cM t a) (aW 17 a) (tyM t) X S s H locs) (hl : lv_has ls 6 [(0, .ref (a 0)), (2, .int x2)]) (hf : b_X5_changeAll_82 N k4 S x2 s0 = some (r, S')) : W p l e rmX5_changeAll s m args below meth c H locs 0 0 (MQ below (Qi D (cM t a) (aW 17 a) (tyM t) r S') args s 0 0 (aW 17 a)) (F0 m 82 ls [.int s0]) := by
  obtain ⟨⟨hx, hb, hml, hown, hts⟩, hr, hlk⟩ := id E
  unfold b_X5_changeAll_82 at hf
  refine lv_istore_n (lv' := [(1, .int s0), (0, .ref (a 0)), (2, .int x2)]) hx hb dX5_changeAll_82 rfl hl (by decide) rfl (fun ls hl => ?_)
  refine lv_iinc (v := x2 + 1) (lv' := [(2, .int (x2 + 1)), (1, .int s0), (0, .ref (a 0))]) hx hb dX5_changeAll_83 hl (k := 2) rfl rfl (by decide) rfl (fun ls hl => ?_)
  refine lv_goto (tgt := 4) hx hb dX5_changeAll_86 (by decide) ?_
  exact hk4 w (lv_sub hl [2, 1, 0] rfl) hf
set_option maxHeartbeats 4000000 in
set_option maxRecDepth 100000 in
theorem k_X5_changeAll_77 {p : Program} {l : Launch} {e : Env} {s : State} {m : MethodId} {args : Array Value} {below : List Frame} {meth : Method} {c : Code} {D : va_G} {t : Nat → ClassId} {a : Nat → Nat} {X : State → Prop} {N : Nat} {r : Int32} {S' : ST} (hX : XOk (aW 17 a) X) (E : EN p s m args meth c cX5_changeAll RX5 wsX5_changeAll (some .boolean) 6) {k4 : ST → Int32 → Int32 → Option (Int32 × ST)} (hk4 : ∀ {S : ST} {x1 : Int32} {x2 : Int32} {H : Heap} {locs : List Loc} {ls : Array Slot}, Wd D (cM t a) (aW 17 a) (tyM t) X S s H locs → lv_has ls 6 [(0, .ref (a 0)), (1, .int x1), (2, .int x2)] → k4 S x1 x2 = some (r, S') → W p l e rmX5_changeAll s m args below meth c H locs 0 0 (MQ below (Qi D (cM t a) (aW 17 a) (tyM t) r S') args s 0 0 (aW 17 a)) (F0 m 4 ls [])) {S : ST} {x2 : Int32} {H : Heap} {locs : List Loc} {ls : Array Slot} (w : Wd D (cM t a) (aW 17 a) (tyM t) X S s H locs) (hl : lv_has ls 6 [(0, .ref (a 0)), (2, .int x2)]) (hf : b_X5_changeAll_77 N k4 S x2 = some (r, S')) : W p l e rmX5_changeAll s m args below meth c H locs 0 0 (MQ below (Qi D (cM t a) (aW 17 a) (tyM t) r S') args s 0 0 (aW 17 a)) (F0 m 77 ls []) := by
  obtain ⟨⟨hx, hb, hml, hown, hts⟩, hr, hlk⟩ := id E
  unfold b_X5_changeAll_77 at hf
  refine lv_iconst (v := 1) hx hb dX5_changeAll_77 (by decide) ?_
  refine lv_goto (tgt := 82) hx hb dX5_changeAll_78 (by decide) ?_
  exact k_X5_changeAll_82 hX E hk4 w (lv_sub hl [0, 1] rfl) hf
set_option maxHeartbeats 4000000 in
set_option maxRecDepth 100000 in
theorem k_X5_changeAll_67 {p : Program} {l : Launch} {e : Env} {s : State} {m : MethodId} {args : Array Value} {below : List Frame} {meth : Method} {c : Code} {D : va_G} {t : Nat → ClassId} {a : Nat → Nat} {X : State → Prop} {N : Nat} {r : Int32} {S' : ST} (hX : XOk (aW 17 a) X) (E : EN p s m args meth c cX5_changeAll RX5 wsX5_changeAll (some .boolean) 6) {k4 : ST → Int32 → Int32 → Option (Int32 × ST)} (hk4 : ∀ {S : ST} {x1 : Int32} {x2 : Int32} {H : Heap} {locs : List Loc} {ls : Array Slot}, Wd D (cM t a) (aW 17 a) (tyM t) X S s H locs → lv_has ls 6 [(0, .ref (a 0)), (1, .int x1), (2, .int x2)] → k4 S x1 x2 = some (r, S') → W p l e rmX5_changeAll s m args below meth c H locs 0 0 (MQ below (Qi D (cM t a) (aW 17 a) (tyM t) r S') args s 0 0 (aW 17 a)) (F0 m 4 ls [])) {S : ST} {x1 : Int32} {x2 : Int32} {x5 : Int32} {s1 : Int32} {s2 : Int32} {H : Heap} {locs : List Loc} {ls : Array Slot} (w : Wd D (cM t a) (aW 17 a) (tyM t) X S s H locs) (hl : lv_has ls 6 [(0, .ref (a 0)), (1, .int x1), (2, .int x2), (5, .int x5)]) (hf : b_X5_changeAll_67 N k4 S x1 x2 x5 s1 s2 = some (r, S')) : W p l e rmX5_changeAll s m args below meth c H locs 0 0 (MQ below (Qi D (cM t a) (aW 17 a) (tyM t) r S') args s 0 0 (aW 17 a)) (F0 m 67 ls [.int s2, .int s1, .ref (a 1)]) := by
  obtain ⟨⟨hx, hb, hml, hown, hts⟩, hr, hlk⟩ := id E
  unfold b_X5_changeAll_67 at hf
  obtain ⟨h18, hf⟩ := it_n hf
  obtain ⟨S17, eS17, hf⟩ := nm_o hf
  refine w_ast (S1 := S17) E w 1 0 (cM_at_1 t a S) rfl h18 rfl ((cM_st_1 t a S s1.toNatClampNeg s2).trans (congrArg (cM t a) eS17.symm)) dX5_changeAll_67 (fun H locs w => ?_)
  refine lv_iload_n hx hb dX5_changeAll_68 rfl (lv_at hl 1 rfl) ?_
  refine lv_if_ne (tgt := 77) hx hb dX5_changeAll_69 (by decide) (fun h19 => ?_) (fun h19 => ?_)
  · replace hf := it_f h19 hf
    exact k_X5_changeAll_77 hX E hk4 w (lv_sub hl [0, 2] rfl) hf
  · replace hf := it_t h19 hf
    refine lv_iload hx hb dX5_changeAll_72 (lv_at hl 3 rfl) ?_
    refine lv_if_eq (tgt := 81) hx hb dX5_changeAll_74 (by decide) (fun h20 => ?_) (fun h20 => ?_)
    · replace hf := it_t h20 hf
      refine lv_iconst (v := 0) hx hb dX5_changeAll_81 (by decide) ?_
      exact k_X5_changeAll_82 hX E hk4 w (lv_sub hl [0, 2] rfl) hf
    · replace hf := it_f h20 hf
      exact k_X5_changeAll_77 hX E hk4 w (lv_sub hl [0, 2] rfl) hf
set_option maxHeartbeats 4000000 in
set_option maxRecDepth 100000 in
theorem k_X5_changeAll_38 {p : Program} {l : Launch} {e : Env} {s : State} {m : MethodId} {args : Array Value} {below : List Frame} {meth : Method} {c : Code} {D : va_G} {t : Nat → ClassId} {a : Nat → Nat} {X : State → Prop} {N : Nat} {r : Int32} {S' : ST} (hX : XOk (aW 17 a) X) (E : EN p s m args meth c cX5_changeAll RX5 wsX5_changeAll (some .boolean) 6) {k4 : ST → Int32 → Int32 → Option (Int32 × ST)} (hk4 : ∀ {S : ST} {x1 : Int32} {x2 : Int32} {H : Heap} {locs : List Loc} {ls : Array Slot}, Wd D (cM t a) (aW 17 a) (tyM t) X S s H locs → lv_has ls 6 [(0, .ref (a 0)), (1, .int x1), (2, .int x2)] → k4 S x1 x2 = some (r, S') → W p l e rmX5_changeAll s m args below meth c H locs 0 0 (MQ below (Qi D (cM t a) (aW 17 a) (tyM t) r S') args s 0 0 (aW 17 a)) (F0 m 4 ls [])) {S : ST} {x1 : Int32} {x2 : Int32} {x4 : Int32} {s0 : Int32} {H : Heap} {locs : List Loc} {ls : Array Slot} (w : Wd D (cM t a) (aW 17 a) (tyM t) X S s H locs) (hl : lv_has ls 6 [(0, .ref (a 0)), (1, .int x1), (2, .int x2), (4, .int x4)]) (hf : b_X5_changeAll_38 N k4 S x1 x2 x4 s0 = some (r, S')) : W p l e rmX5_changeAll s m args below meth c H locs 0 0 (MQ below (Qi D (cM t a) (aW 17 a) (tyM t) r S') args s 0 0 (aW 17 a)) (F0 m 38 ls [.int s0]) := by
  obtain ⟨⟨hx, hb, hml, hown, hts⟩, hr, hlk⟩ := id E
  unfold b_X5_changeAll_38 at hf
  refine lv_istore (lv' := [(5, .int s0), (0, .ref (a 0)), (1, .int x1), (2, .int x2), (4, .int x4)]) hx hb dX5_changeAll_38 hl (by decide) rfl (fun ls hl => ?_)
  refine lv_aload_n hx hb dX5_changeAll_40 rfl (lv_at hl 1 rfl) ?_
  refine w_get E w in_X5_changeAll_X5 0 (cM_at_0 t a S) rfl 0 (by decide) fl_X5_changeAll_7 rfl rfl dX5_changeAll_41 ?_
  refine lv_iconst (v := 0) hx hb dX5_changeAll_44 (by decide) ?_
  refine lv_iconst (v := 4) hx hb dX5_changeAll_45 (by decide) ?_
  refine lv_iload_n hx hb dX5_changeAll_46 rfl (lv_at hl 3 rfl) ?_
  refine lv_imul hx hb dX5_changeAll_47 ?_
  refine lv_iadd hx hb dX5_changeAll_48 ?_
  refine lv_iconst (v := 1) hx hb dX5_changeAll_49 (by decide) ?_
  refine lv_iadd hx hb dX5_changeAll_50 ?_
  refine lv_iload hx hb dX5_changeAll_51 (lv_at hl 0 rfl) ?_
  refine lv_if_eq (tgt := 61) hx hb dX5_changeAll_53 (by decide) (fun h13 => ?_) (fun h13 => ?_)
  · replace hf := it_t h13 hf
    refine lv_aload_n hx hb dX5_changeAll_61 rfl (lv_at hl 1 rfl) ?_
    refine lv_iload_n hx hb dX5_changeAll_62 rfl (lv_at hl 3 rfl) ?_
    refine lv_iconst (v := 1) hx hb dX5_changeAll_63 (by decide) ?_
    obtain ⟨r16, S15, h14, hf⟩ := bd2_o hf
    refine w_callVi (As := [.int x2, .int 1]) (rest := [.int ((0 + (4 * x2)) + 1), .ref (a 1)]) hX E w (c_X5_of l hX h14) (cwV 2 hts gX5_changeAll_X5_of rfl rfl rfl hd_X5_of ⟨Nat.le_of_ble_eq_true rfl, Nat.le_of_ble_eq_true rfl⟩) (ci := 5) rfl (cM_at_0 t a S) rfl hl.1 rfl (Nat.le_of_ble_eq_true rfl) dX5_changeAll_64 ⟨Nat.le_refl _, Nat.le_refl _⟩ (fun H locs w => ?_)
    exact k_X5_changeAll_67 hX E hk4 w (lv_sub hl [1, 2, 3, 0] rfl) hf
  · replace hf := it_f h13 hf
    refine lv_iload hx hb dX5_changeAll_56 (lv_at hl 4 rfl) ?_
    refine lv_goto (tgt := 67) hx hb dX5_changeAll_58 (by decide) ?_
    exact k_X5_changeAll_67 hX E hk4 w (lv_sub hl [1, 2, 3, 0] rfl) hf
set_option maxHeartbeats 4000000 in
set_option maxRecDepth 100000 in
theorem k_X5_changeAll_4 {p : Program} {l : Launch} {e : Env} {s : State} {m : MethodId} {args : Array Value} {below : List Frame} {meth : Method} {c : Code} {D : va_G} {t : Nat → ClassId} {a : Nat → Nat} {X : State → Prop} {N : Nat} {r : Int32} {S' : ST} (hX : XOk (aW 17 a) X) (E : EN p s m args meth c cX5_changeAll RX5 wsX5_changeAll (some .boolean) 6) : ∀ (n : Nat) {S : ST} {x1 : Int32} {x2 : Int32} {H : Heap} {locs : List Loc} {ls : Array Slot}, Wd D (cM t a) (aW 17 a) (tyM t) X S s H locs → lv_has ls 6 [(0, .ref (a 0)), (1, .int x1), (2, .int x2)] → b_X5_changeAll_4 N n S x1 x2 = some (r, S') → W p l e rmX5_changeAll s m args below meth c H locs 0 0 (MQ below (Qi D (cM t a) (aW 17 a) (tyM t) r S') args s 0 0 (aW 17 a)) (F0 m 4 ls []) := by
  obtain ⟨⟨hx, hb, hml, hown, hts⟩, hr, hlk⟩ := id E
  intro n
  induction n with
  | zero => intro S x1 x2 H locs ls w hl hf; cases hf
  | succ n ih =>
    intro S x1 x2 H locs ls w hl hf
    unfold b_X5_changeAll_4 at hf
    refine lv_iload_n hx hb dX5_changeAll_4 rfl (lv_at hl 2 rfl) ?_
    refine lv_aload_n hx hb dX5_changeAll_5 rfl (lv_at hl 0 rfl) ?_
    obtain ⟨r3, S2, h1, hf⟩ := bd2_o hf
    refine w_callVi (As := []) (rest := [.int x2]) hX E w (c_X5_shops l hX h1) (cwV 0 hts gX5_changeAll_X5_shops rfl rfl rfl hd_X5_shops ⟨Nat.le_of_ble_eq_true rfl, Nat.le_of_ble_eq_true rfl⟩) (ci := 5) rfl (cM_at_0 t a S) rfl hl.1 rfl (Nat.le_of_ble_eq_true rfl) dX5_changeAll_6 ⟨Nat.le_refl _, Nat.le_refl _⟩ (fun H locs w => ?_)
    refine lv_icmp_ge (tgt := 89) hx hb dX5_changeAll_9 (by decide) (fun h4 => ?_) (fun h4 => ?_)
    · replace hf := it_t h4 hf
      refine lv_iload_n hx hb dX5_changeAll_89 rfl (lv_at hl 1 rfl) ?_
      obtain ⟨h5, hf⟩ := it_s hf
      exact w_retz E w h5 hf dX5_changeAll_90
    · replace hf := it_f h4 hf
      refine lv_aload_n hx hb dX5_changeAll_12 rfl (lv_at hl 0 rfl) ?_
      refine lv_iload_n hx hb dX5_changeAll_13 rfl (lv_at hl 2 rfl) ?_
      obtain ⟨r8, S7, h6, hf⟩ := bd2_o hf
      refine w_callVi (As := [.int x2]) (rest := []) hX E w (c_X5_takesOf l hX h6) (cwV 1 hts gX5_changeAll_X5_takesOf rfl rfl rfl hd_X5_takesOf ⟨Nat.le_of_ble_eq_true rfl, Nat.le_of_ble_eq_true rfl⟩) (ci := 5) rfl (cM_at_0 t a S2) rfl hl.1 rfl (Nat.le_of_ble_eq_true rfl) dX5_changeAll_14 ⟨Nat.le_refl _, Nat.le_refl _⟩ (fun H locs w => ?_)
      refine lv_istore_n (lv' := [(3, .int r8), (0, .ref (a 0)), (1, .int x1), (2, .int x2)]) hx hb dX5_changeAll_17 rfl hl (by decide) rfl (fun ls hl => ?_)
      refine lv_aload_n hx hb dX5_changeAll_18 rfl (lv_at hl 1 rfl) ?_
      refine lv_iload_n hx hb dX5_changeAll_19 rfl (lv_at hl 3 rfl) ?_
      obtain ⟨r11, S10, h9, hf⟩ := bd2_o hf
      refine w_callVi (As := [.int x2]) (rest := []) hX E w (c_X5_asksOf l hX h9) (cwV 1 hts gX5_changeAll_X5_asksOf rfl rfl rfl hd_X5_asksOf ⟨Nat.le_of_ble_eq_true rfl, Nat.le_of_ble_eq_true rfl⟩) (ci := 5) rfl (cM_at_0 t a S7) rfl hl.1 rfl (Nat.le_of_ble_eq_true rfl) dX5_changeAll_20 ⟨Nat.le_refl _, Nat.le_refl _⟩ (fun H locs w => ?_)
      refine lv_istore (lv' := [(4, .int r11), (3, .int r8), (0, .ref (a 0)), (1, .int x1), (2, .int x2)]) hx hb dX5_changeAll_23 hl (by decide) rfl (fun ls hl => ?_)
      refine lv_aload_n hx hb dX5_changeAll_25 rfl (lv_at hl 2 rfl) ?_
      refine w_get E w in_X5_changeAll_X5 0 (cM_at_0 t a S10) rfl 26 (by decide) fl_X5_changeAll_261 rfl rfl dX5_changeAll_26 ?_
      refine lv_iload_n hx hb dX5_changeAll_29 rfl (lv_at hl 1 rfl) ?_
      refine lv_icmp_le (tgt := 37) hx hb dX5_changeAll_30 (by decide) (fun h12 => ?_) (fun h12 => ?_)
      · replace hf := it_t h12 hf
        refine lv_iconst (v := 0) hx hb dX5_changeAll_37 (by decide) ?_
        exact k_X5_changeAll_38 hX E (fun w hl hf => ih w hl hf) w (lv_sub hl [2, 3, 4, 0] rfl) hf
      · replace hf := it_f h12 hf
        refine lv_iconst (v := 1) hx hb dX5_changeAll_33 (by decide) ?_
        refine lv_goto (tgt := 38) hx hb dX5_changeAll_34 (by decide) ?_
        exact k_X5_changeAll_38 hX E (fun w hl hf => ih w hl hf) w (lv_sub hl [2, 3, 4, 0] rfl) hf
set_option maxHeartbeats 4000000 in
set_option maxRecDepth 100000 in
theorem k_X5_changeAll_E {p : Program} {l : Launch} {e : Env} {s : State} {m : MethodId} {args : Array Value} {below : List Frame} {meth : Method} {c : Code} {D : va_G} {t : Nat → ClassId} {a : Nat → Nat} {X : State → Prop} {N : Nat} {r : Int32} {S' : ST} (hX : XOk (aW 17 a) X) (E : EN p s m args meth c cX5_changeAll RX5 wsX5_changeAll (some .boolean) 6) {S : ST} {H : Heap} {locs : List Loc} {ls : Array Slot} (w : Wd D (cM t a) (aW 17 a) (tyM t) X S s H locs) (hl : lv_has ls 6 [(0, .ref (a 0))]) (hf : f_X5_changeAll N S = some (r, S')) : W p l e rmX5_changeAll s m args below meth c H locs 0 0 (MQ below (Qi D (cM t a) (aW 17 a) (tyM t) r S') args s 0 0 (aW 17 a)) (F0 m 0 ls []) := by
  obtain ⟨⟨hx, hb, hml, hown, hts⟩, hr, hlk⟩ := id E
  unfold f_X5_changeAll at hf
  refine lv_iconst (v := 0) hx hb dX5_changeAll_0 (by decide) ?_
  refine lv_istore_n (lv' := [(1, .int 0), (0, .ref (a 0))]) hx hb dX5_changeAll_1 rfl hl (by decide) rfl (fun ls hl => ?_)
  refine lv_iconst (v := 0) hx hb dX5_changeAll_2 (by decide) ?_
  refine lv_istore_n (lv' := [(2, .int 0), (1, .int 0), (0, .ref (a 0))]) hx hb dX5_changeAll_3 rfl hl (by decide) rfl (fun ls hl => ?_)
  exact k_X5_changeAll_4 hX E N w (lv_sub hl [2, 1, 0] rfl) hf
theorem c_X5_changeAll (l : Launch) {D : va_G} {t : Nat → ClassId} {a : Nat → Nat} {X : State → Prop} (hX : XOk (aW 17 a) X) {N : Nat} {S : ST} {r : Int32} {S' : ST} (hf : f_X5_changeAll N S = some (r, S')) : Co l yX5_changeAll wsX5_changeAll rmX5_changeAll D (cM t a) (aW 17 a) (tyM t) X [.ref (a 0)] S (Qi D (cM t a) (aW 17 a) (tyM t) r S') :=
  co_of (cc := cX5_changeAll) (maxL := 6) (ret := (some .boolean)) (lv := [(0, .ref (a 0))]) (by decide) rfl rfl (Nat.le_of_ble_eq_true rfl) rfl rfl (fun p e s m below meth c ls E hl w => k_X5_changeAll_E hX E w hl hf)
