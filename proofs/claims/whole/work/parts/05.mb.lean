-- X5_look
theorem in_X5_look_X5 : ∀ w ∈ u_ws RX5 TX5 28, w ∈ wsX5_look := by decide +kernel
theorem fl_X5_look_173 : Cond.fieldLink RX5 173 "NextDoorModel" "tokenAt" "I" ∈ wsX5_look := by decide +kernel
theorem hd_X5_byteAt : yX5_byteAt.cls = RX5 ∧ yX5_byteAt.cls ≠ "java/lang/invoke/MethodHandle" ∧ yX5_byteAt.cls ≠ "java/lang/invoke/VarHandle" ∧ (parseMethodDescriptor yX5_byteAt.desc).map (fun d => d.parameters.length) = some 1 := by decide +kernel
theorem fl_X5_look_179 : Cond.fieldLink RX5 179 "NextDoorModel" "tokenLong" "I" ∈ wsX5_look := by decide +kernel
theorem fl_X5_look_182 : Cond.fieldLink RX5 182 "NextDoorModel" "token" "I" ∈ wsX5_look := by decide +kernel
theorem fl_X5_look_185 : Cond.fieldLink RX5 185 "NextDoorModel" "value" "I" ∈ wsX5_look := by decide +kernel
theorem hd_X5_isSmall : yX5_isSmall.cls ≠ "java/lang/invoke/MethodHandle" ∧ yX5_isSmall.cls ≠ "java/lang/invoke/VarHandle" ∧ (parseMethodDescriptor yX5_isSmall.desc).map (fun d => d.parameters.length) = some 1 := by decide +kernel
theorem hd_X5_isFigure : yX5_isFigure.cls ≠ "java/lang/invoke/MethodHandle" ∧ yX5_isFigure.cls ≠ "java/lang/invoke/VarHandle" ∧ (parseMethodDescriptor yX5_isFigure.desc).map (fun d => d.parameters.length) = some 1 := by decide +kernel
abbrev rmX5_look : Room := { frames := 2, cells := 0, slots := 0, locals := 45 }
set_option maxHeartbeats 4000000 in
set_option maxRecDepth 100000 in
theorem k_X5_look_295 {p : Program} {l : Launch} {e : Env} {s : State} {m : MethodId} {args : Array Value} {below : List Frame} {meth : Method} {c : Code} {D : va_G} {t : Nat → ClassId} {a : Nat → Nat} {X : State → Prop} {N : Nat} {S' : ST} (hX : XOk (aW 17 a) X) (E : EN p s m args meth c cX5_look RX5 wsX5_look none 5) {S : ST} {s1 : Int32} {H : Heap} {locs : List Loc} {ls : Array Slot} (w : Wd D (cM t a) (aW 17 a) (tyM t) X S s H locs) (hl : lv_has ls 5 []) (hf : b_X5_look_295 N S s1 = some S') : W p l e rmX5_look s m args below meth c H locs 0 0 (MQ below (Qv D (cM t a) (aW 17 a) (tyM t) S') args s 0 0 (aW 17 a)) (F0 m 295 ls [.int s1, .ref (a 0)]) := by
  obtain ⟨⟨hx, hb, hml, hown, hts⟩, hr, hlk⟩ := id E
  unfold b_X5_look_295 at hf
  obtain ⟨S59, eS59, hf⟩ := nm_o hf
  refine w_put (S1 := S59) E w in_X5_look_X5 tyX5 tyX5_ok nmX5 0 (cM_at_0 t a S) rfl 11 (by decide) fl_X5_look_182 rfl rfl rfl rfl rfl (Nat.le_of_ble_eq_true rfl) ((cM_set_0_11 t a S s1).trans (congrArg (cM t a) eS59.symm)) dX5_look_295 (fun H locs w => ?_)
  exact w_retv E w hf dX5_look_298
set_option maxHeartbeats 4000000 in
set_option maxRecDepth 100000 in
theorem k_X5_look_291 {p : Program} {l : Launch} {e : Env} {s : State} {m : MethodId} {args : Array Value} {below : List Frame} {meth : Method} {c : Code} {D : va_G} {t : Nat → ClassId} {a : Nat → Nat} {X : State → Prop} {N : Nat} {S' : ST} (hX : XOk (aW 17 a) X) (E : EN p s m args meth c cX5_look RX5 wsX5_look none 5) {S : ST} {H : Heap} {locs : List Loc} {ls : Array Slot} (w : Wd D (cM t a) (aW 17 a) (tyM t) X S s H locs) (hl : lv_has ls 5 [(0, .ref (a 0))]) (hf : b_X5_look_291 N S = some S') : W p l e rmX5_look s m args below meth c H locs 0 0 (MQ below (Qv D (cM t a) (aW 17 a) (tyM t) S') args s 0 0 (aW 17 a)) (F0 m 291 ls [.ref (a 0)]) := by
  obtain ⟨⟨hx, hb, hml, hown, hts⟩, hr, hlk⟩ := id E
  unfold b_X5_look_291 at hf
  refine lv_aload_n hx hb dX5_look_291 rfl (lv_at hl 0 rfl) ?_
  refine w_get E w in_X5_look_X5 0 (cM_at_0 t a S) rfl 11 (by decide) fl_X5_look_182 rfl rfl dX5_look_292 ?_
  exact k_X5_look_295 hX E w (lv_sub hl [] rfl) hf
set_option maxHeartbeats 4000000 in
set_option maxRecDepth 100000 in
theorem k_X5_look_270 {p : Program} {l : Launch} {e : Env} {s : State} {m : MethodId} {args : Array Value} {below : List Frame} {meth : Method} {c : Code} {D : va_G} {t : Nat → ClassId} {a : Nat → Nat} {X : State → Prop} {N : Nat} {S' : ST} (hX : XOk (aW 17 a) X) (E : EN p s m args meth c cX5_look RX5 wsX5_look none 5) {S : ST} {H : Heap} {locs : List Loc} {ls : Array Slot} (w : Wd D (cM t a) (aW 17 a) (tyM t) X S s H locs) (hl : lv_has ls 5 [(0, .ref (a 0))]) (hf : b_X5_look_270 N S = some S') : W p l e rmX5_look s m args below meth c H locs 0 0 (MQ below (Qv D (cM t a) (aW 17 a) (tyM t) S') args s 0 0 (aW 17 a)) (F0 m 270 ls []) := by
  obtain ⟨⟨hx, hb, hml, hown, hts⟩, hr, hlk⟩ := id E
  unfold b_X5_look_270 at hf
  refine lv_aload_n hx hb dX5_look_270 rfl (lv_at hl 0 rfl) ?_
  refine lv_aload_n hx hb dX5_look_271 rfl (lv_at hl 0 rfl) ?_
  refine w_get E w in_X5_look_X5 0 (cM_at_0 t a S) rfl 11 (by decide) fl_X5_look_182 rfl rfl dX5_look_272 ?_
  refine lv_iconst (v := 2) hx hb dX5_look_275 (by decide) ?_
  refine lv_icmp_ne (tgt := 291) hx hb dX5_look_276 (by decide) (fun h57 => ?_) (fun h57 => ?_)
  · replace hf := it_f h57 hf
    exact k_X5_look_291 hX E w (lv_sub hl [0] rfl) hf
  · replace hf := it_t h57 hf
    refine lv_aload_n hx hb dX5_look_279 rfl (lv_at hl 0 rfl) ?_
    refine w_get E w in_X5_look_X5 0 (cM_at_0 t a S) rfl 10 (by decide) fl_X5_look_179 rfl rfl dX5_look_280 ?_
    refine lv_iconst (v := 3) hx hb dX5_look_283 (by decide) ?_
    refine lv_icmp_le (tgt := 291) hx hb dX5_look_284 (by decide) (fun h58 => ?_) (fun h58 => ?_)
    · replace hf := it_t h58 hf
      exact k_X5_look_291 hX E w (lv_sub hl [0] rfl) hf
    · replace hf := it_f h58 hf
      refine lv_iconst (v := 4) hx hb dX5_look_287 (by decide) ?_
      refine lv_goto (tgt := 295) hx hb dX5_look_288 (by decide) ?_
      exact k_X5_look_295 hX E w (lv_sub hl [] rfl) hf
set_option maxHeartbeats 4000000 in
set_option maxRecDepth 100000 in
theorem k_X5_look_215 {p : Program} {l : Launch} {e : Env} {s : State} {m : MethodId} {args : Array Value} {below : List Frame} {meth : Method} {c : Code} {D : va_G} {t : Nat → ClassId} {a : Nat → Nat} {X : State → Prop} {N : Nat} {S' : ST} (hX : XOk (aW 17 a) X) (E : EN p s m args meth c cX5_look RX5 wsX5_look none 5) : ∀ (n : Nat) {S : ST} {x4 : Int32} {H : Heap} {locs : List Loc} {ls : Array Slot}, Wd D (cM t a) (aW 17 a) (tyM t) X S s H locs → lv_has ls 5 [(0, .ref (a 0)), (4, .int x4)] → b_X5_look_215 N n S x4 = some S' → W p l e rmX5_look s m args below meth c H locs 0 0 (MQ below (Qv D (cM t a) (aW 17 a) (tyM t) S') args s 0 0 (aW 17 a)) (F0 m 215 ls []) := by
  obtain ⟨⟨hx, hb, hml, hown, hts⟩, hr, hlk⟩ := id E
  intro n
  induction n with
  | zero => intro S x4 H locs ls w hl hf; cases hf
  | succ n ih =>
    intro S x4 H locs ls w hl hf
    unfold b_X5_look_215 at hf
    refine lv_iload hx hb dX5_look_215 (lv_at hl 1 rfl) ?_
    refine lv_aload_n hx hb dX5_look_217 rfl (lv_at hl 0 rfl) ?_
    refine w_get E w in_X5_look_X5 0 (cM_at_0 t a S) rfl 10 (by decide) fl_X5_look_179 rfl rfl dX5_look_218 ?_
    refine lv_icmp_ge (tgt := 270) hx hb dX5_look_221 (by decide) (fun h50 => ?_) (fun h50 => ?_)
    · replace hf := it_t h50 hf
      exact k_X5_look_270 hX E w (lv_sub hl [0] rfl) hf
    · replace hf := it_f h50 hf
      refine lv_iload hx hb dX5_look_224 (lv_at hl 1 rfl) ?_
      refine lv_iconst (v := 3) hx hb dX5_look_226 (by decide) ?_
      refine lv_icmp_ge (tgt := 270) hx hb dX5_look_227 (by decide) (fun h51 => ?_) (fun h51 => ?_)
      · replace hf := it_t h51 hf
        exact k_X5_look_270 hX E w (lv_sub hl [0] rfl) hf
      · replace hf := it_f h51 hf
        refine lv_aload_n hx hb dX5_look_230 rfl (lv_at hl 0 rfl) ?_
        refine w_get E w in_X5_look_X5 0 (cM_at_0 t a S) rfl 11 (by decide) fl_X5_look_182 rfl rfl dX5_look_231 ?_
        refine lv_iconst (v := 2) hx hb dX5_look_234 (by decide) ?_
        refine lv_icmp_ne (tgt := 270) hx hb dX5_look_235 (by decide) (fun h52 => ?_) (fun h52 => ?_)
        · replace hf := it_f h52 hf
          exact k_X5_look_270 hX E w (lv_sub hl [0] rfl) hf
        · replace hf := it_t h52 hf
          refine lv_aload_n hx hb dX5_look_238 rfl (lv_at hl 0 rfl) ?_
          refine lv_bipush (v := 10) hx hb dX5_look_239 (by decide) ?_
          refine lv_aload_n hx hb dX5_look_241 rfl (lv_at hl 0 rfl) ?_
          refine w_get E w in_X5_look_X5 0 (cM_at_0 t a S) rfl 12 (by decide) fl_X5_look_185 rfl rfl dX5_look_242 ?_
          refine lv_imul hx hb dX5_look_245 ?_
          refine lv_aload_n hx hb dX5_look_246 rfl (lv_at hl 0 rfl) ?_
          refine lv_aload_n hx hb dX5_look_247 rfl (lv_at hl 0 rfl) ?_
          refine w_get E w in_X5_look_X5 0 (cM_at_0 t a S) rfl 9 (by decide) fl_X5_look_173 rfl rfl dX5_look_248 ?_
          refine lv_iload hx hb dX5_look_251 (lv_at hl 1 rfl) ?_
          refine lv_iadd hx hb dX5_look_253 ?_
          obtain ⟨r55, S54, h53, hf⟩ := bd2_o hf
          refine w_callVi (As := [.int ((S 0 9) + x4)]) (rest := [.int (10 * (S 0 12)), .ref (a 0)]) hX E w (c_X5_byteAt l hX h53) (cwV 1 hts gX5_look_X5_byteAt rfl rfl rfl hd_X5_byteAt ⟨Nat.le_of_ble_eq_true rfl, Nat.le_of_ble_eq_true rfl⟩) (ci := 5) rfl (cM_at_0 t a S) rfl hl.1 rfl (Nat.le_of_ble_eq_true rfl) dX5_look_254 ⟨Nat.le_refl _, Nat.le_refl _⟩ (fun H locs w => ?_)
          refine lv_iadd hx hb dX5_look_257 ?_
          refine lv_bipush (v := 48) hx hb dX5_look_258 (by decide) ?_
          refine lv_isub hx hb dX5_look_260 ?_
          obtain ⟨S56, eS56, hf⟩ := nm_o hf
          refine w_put (S1 := S56) E w in_X5_look_X5 tyX5 tyX5_ok nmX5 0 (cM_at_0 t a S54) rfl 12 (by decide) fl_X5_look_185 rfl rfl rfl rfl rfl (Nat.le_of_ble_eq_true rfl) ((cM_set_0_12 t a S54 (((10 * (S 0 12)) + r55) - 48)).trans (congrArg (cM t a) eS56.symm)) dX5_look_261 (fun H locs w => ?_)
          refine lv_iinc (v := x4 + 1) (lv' := [(4, .int (x4 + 1)), (0, .ref (a 0))]) hx hb dX5_look_264 hl (k := 1) rfl rfl (by decide) rfl (fun ls hl => ?_)
          refine lv_goto (tgt := 215) hx hb dX5_look_267 (by decide) ?_
          exact ih w (lv_sub hl [1, 0] rfl) hf
set_option maxHeartbeats 4000000 in
set_option maxRecDepth 100000 in
theorem k_X5_look_212 {p : Program} {l : Launch} {e : Env} {s : State} {m : MethodId} {args : Array Value} {below : List Frame} {meth : Method} {c : Code} {D : va_G} {t : Nat → ClassId} {a : Nat → Nat} {X : State → Prop} {N : Nat} {S' : ST} (hX : XOk (aW 17 a) X) (E : EN p s m args meth c cX5_look RX5 wsX5_look none 5) {S : ST} {H : Heap} {locs : List Loc} {ls : Array Slot} (w : Wd D (cM t a) (aW 17 a) (tyM t) X S s H locs) (hl : lv_has ls 5 [(0, .ref (a 0))]) (hf : b_X5_look_212 N S = some S') : W p l e rmX5_look s m args below meth c H locs 0 0 (MQ below (Qv D (cM t a) (aW 17 a) (tyM t) S') args s 0 0 (aW 17 a)) (F0 m 212 ls []) := by
  obtain ⟨⟨hx, hb, hml, hown, hts⟩, hr, hlk⟩ := id E
  unfold b_X5_look_212 at hf
  refine lv_iconst (v := 0) hx hb dX5_look_212 (by decide) ?_
  refine lv_istore (lv' := [(4, .int 0), (0, .ref (a 0))]) hx hb dX5_look_213 hl (by decide) rfl (fun ls hl => ?_)
  exact k_X5_look_215 hX E N w (lv_sub hl [1, 0] rfl) hf
set_option maxHeartbeats 4000000 in
set_option maxRecDepth 100000 in
theorem k_X5_look_205 {p : Program} {l : Launch} {e : Env} {s : State} {m : MethodId} {args : Array Value} {below : List Frame} {meth : Method} {c : Code} {D : va_G} {t : Nat → ClassId} {a : Nat → Nat} {X : State → Prop} {N : Nat} {S' : ST} (hX : XOk (aW 17 a) X) (E : EN p s m args meth c cX5_look RX5 wsX5_look none 5) {k134 : ST → Int32 → Option ST} (hk134 : ∀ {S : ST} {x3 : Int32} {H : Heap} {locs : List Loc} {ls : Array Slot}, Wd D (cM t a) (aW 17 a) (tyM t) X S s H locs → lv_has ls 5 [(0, .ref (a 0)), (3, .int x3)] → k134 S x3 = some S' → W p l e rmX5_look s m args below meth c H locs 0 0 (MQ below (Qv D (cM t a) (aW 17 a) (tyM t) S') args s 0 0 (aW 17 a)) (F0 m 134 ls [])) {S : ST} {x3 : Int32} {s1 : Int32} {s2 : Int32} {H : Heap} {locs : List Loc} {ls : Array Slot} (w : Wd D (cM t a) (aW 17 a) (tyM t) X S s H locs) (hl : lv_has ls 5 [(0, .ref (a 0)), (3, .int x3)]) (hf : b_X5_look_205 N k134 S x3 s1 s2 = some S') : W p l e rmX5_look s m args below meth c H locs 0 0 (MQ below (Qv D (cM t a) (aW 17 a) (tyM t) S') args s 0 0 (aW 17 a)) (F0 m 205 ls [.int s2, .int s1, .ref (a 0)]) := by
  obtain ⟨⟨hx, hb, hml, hown, hts⟩, hr, hlk⟩ := id E
  unfold b_X5_look_205 at hf
  refine lv_iadd hx hb dX5_look_205 ?_
  obtain ⟨S49, eS49, hf⟩ := nm_o hf
  refine w_put (S1 := S49) E w in_X5_look_X5 tyX5 tyX5_ok nmX5 0 (cM_at_0 t a S) rfl 10 (by decide) fl_X5_look_179 rfl rfl rfl rfl rfl (Nat.le_of_ble_eq_true rfl) ((cM_set_0_10 t a S (s1 + s2)).trans (congrArg (cM t a) eS49.symm)) dX5_look_206 (fun H locs w => ?_)
  refine lv_goto (tgt := 134) hx hb dX5_look_209 (by decide) ?_
  exact hk134 w (lv_sub hl [0, 1] rfl) hf
set_option maxHeartbeats 4000000 in
set_option maxRecDepth 100000 in
theorem k_X5_look_190 {p : Program} {l : Launch} {e : Env} {s : State} {m : MethodId} {args : Array Value} {below : List Frame} {meth : Method} {c : Code} {D : va_G} {t : Nat → ClassId} {a : Nat → Nat} {X : State → Prop} {N : Nat} {S' : ST} (hX : XOk (aW 17 a) X) (E : EN p s m args meth c cX5_look RX5 wsX5_look none 5) {k134 : ST → Int32 → Option ST} (hk134 : ∀ {S : ST} {x3 : Int32} {H : Heap} {locs : List Loc} {ls : Array Slot}, Wd D (cM t a) (aW 17 a) (tyM t) X S s H locs → lv_has ls 5 [(0, .ref (a 0)), (3, .int x3)] → k134 S x3 = some S' → W p l e rmX5_look s m args below meth c H locs 0 0 (MQ below (Qv D (cM t a) (aW 17 a) (tyM t) S') args s 0 0 (aW 17 a)) (F0 m 134 ls [])) {S : ST} {s0 : Int32} {H : Heap} {locs : List Loc} {ls : Array Slot} (w : Wd D (cM t a) (aW 17 a) (tyM t) X S s H locs) (hl : lv_has ls 5 [(0, .ref (a 0))]) (hf : b_X5_look_190 N k134 S s0 = some S') : W p l e rmX5_look s m args below meth c H locs 0 0 (MQ below (Qv D (cM t a) (aW 17 a) (tyM t) S') args s 0 0 (aW 17 a)) (F0 m 190 ls [.int s0]) := by
  obtain ⟨⟨hx, hb, hml, hown, hts⟩, hr, hlk⟩ := id E
  unfold b_X5_look_190 at hf
  refine lv_istore_n (lv' := [(3, .int s0), (0, .ref (a 0))]) hx hb dX5_look_190 rfl hl (by decide) rfl (fun ls hl => ?_)
  refine lv_aload_n hx hb dX5_look_191 rfl (lv_at hl 1 rfl) ?_
  refine lv_dup hx hb dX5_look_192 rfl ?_
  refine w_get E w in_X5_look_X5 0 (cM_at_0 t a S) rfl 10 (by decide) fl_X5_look_179 rfl rfl dX5_look_193 ?_
  refine lv_iload_n hx hb dX5_look_196 rfl (lv_at hl 0 rfl) ?_
  refine lv_if_eq (tgt := 204) hx hb dX5_look_197 (by decide) (fun h48 => ?_) (fun h48 => ?_)
  · replace hf := it_t h48 hf
    refine lv_iconst (v := 0) hx hb dX5_look_204 (by decide) ?_
    exact k_X5_look_205 hX E hk134 w (lv_sub hl [1, 0] rfl) hf
  · replace hf := it_f h48 hf
    refine lv_iconst (v := 1) hx hb dX5_look_200 (by decide) ?_
    refine lv_goto (tgt := 205) hx hb dX5_look_201 (by decide) ?_
    exact k_X5_look_205 hX E hk134 w (lv_sub hl [1, 0] rfl) hf
set_option maxHeartbeats 4000000 in
set_option maxRecDepth 100000 in
theorem k_X5_look_134 {p : Program} {l : Launch} {e : Env} {s : State} {m : MethodId} {args : Array Value} {below : List Frame} {meth : Method} {c : Code} {D : va_G} {t : Nat → ClassId} {a : Nat → Nat} {X : State → Prop} {N : Nat} {S' : ST} (hX : XOk (aW 17 a) X) (E : EN p s m args meth c cX5_look RX5 wsX5_look none 5) : ∀ (n : Nat) {S : ST} {x3 : Int32} {H : Heap} {locs : List Loc} {ls : Array Slot}, Wd D (cM t a) (aW 17 a) (tyM t) X S s H locs → lv_has ls 5 [(0, .ref (a 0)), (3, .int x3)] → b_X5_look_134 N n S x3 = some S' → W p l e rmX5_look s m args below meth c H locs 0 0 (MQ below (Qv D (cM t a) (aW 17 a) (tyM t) S') args s 0 0 (aW 17 a)) (F0 m 134 ls []) := by
  obtain ⟨⟨hx, hb, hml, hown, hts⟩, hr, hlk⟩ := id E
  intro n
  induction n with
  | zero => intro S x3 H locs ls w hl hf; cases hf
  | succ n ih =>
    intro S x3 H locs ls w hl hf
    unfold b_X5_look_134 at hf
    refine lv_iload_n hx hb dX5_look_134 rfl (lv_at hl 1 rfl) ?_
    refine lv_if_eq (tgt := 212) hx hb dX5_look_135 (by decide) (fun h33 => ?_) (fun h33 => ?_)
    · replace hf := it_t h33 hf
      exact k_X5_look_212 hX E w (lv_sub hl [0] rfl) hf
    · replace hf := it_f h33 hf
      refine lv_aload_n hx hb dX5_look_138 rfl (lv_at hl 0 rfl) ?_
      refine w_get E w in_X5_look_X5 0 (cM_at_0 t a S) rfl 9 (by decide) fl_X5_look_173 rfl rfl dX5_look_139 ?_
      refine lv_aload_n hx hb dX5_look_142 rfl (lv_at hl 0 rfl) ?_
      refine w_get E w in_X5_look_X5 0 (cM_at_0 t a S) rfl 10 (by decide) fl_X5_look_179 rfl rfl dX5_look_143 ?_
      refine lv_iadd hx hb dX5_look_146 ?_
      refine lv_aload_n hx hb dX5_look_147 rfl (lv_at hl 0 rfl) ?_
      obtain ⟨r36, S35, h34, hf⟩ := bd2_o hf
      refine w_callVi (As := []) (rest := [.int ((S 0 9) + (S 0 10))]) hX E w (c_X5_textLong l hX h34) (cwV 0 hts gX5_look_X5_textLong rfl rfl rfl hd_X5_textLong ⟨Nat.le_of_ble_eq_true rfl, Nat.le_of_ble_eq_true rfl⟩) (ci := 5) rfl (cM_at_0 t a S) rfl hl.1 rfl (Nat.le_of_ble_eq_true rfl) dX5_look_148 ⟨Nat.le_refl _, Nat.le_refl _⟩ (fun H locs w => ?_)
      refine lv_icmp_ge (tgt := 212) hx hb dX5_look_151 (by decide) (fun h37 => ?_) (fun h37 => ?_)
      · replace hf := it_t h37 hf
        exact k_X5_look_212 hX E w (lv_sub hl [0] rfl) hf
      · replace hf := it_f h37 hf
        refine lv_aload_n hx hb dX5_look_154 rfl (lv_at hl 0 rfl) ?_
        refine lv_aload_n hx hb dX5_look_155 rfl (lv_at hl 0 rfl) ?_
        refine w_get E w in_X5_look_X5 0 (cM_at_0 t a S35) rfl 9 (by decide) fl_X5_look_173 rfl rfl dX5_look_156 ?_
        refine lv_aload_n hx hb dX5_look_159 rfl (lv_at hl 0 rfl) ?_
        refine w_get E w in_X5_look_X5 0 (cM_at_0 t a S35) rfl 10 (by decide) fl_X5_look_179 rfl rfl dX5_look_160 ?_
        refine lv_iadd hx hb dX5_look_163 ?_
        obtain ⟨r40, S39, h38, hf⟩ := bd2_o hf
        refine w_callVi (As := [.int ((S35 0 9) + (S35 0 10))]) (rest := []) hX E w (c_X5_byteAt l hX h38) (cwV 1 hts gX5_look_X5_byteAt rfl rfl rfl hd_X5_byteAt ⟨Nat.le_of_ble_eq_true rfl, Nat.le_of_ble_eq_true rfl⟩) (ci := 5) rfl (cM_at_0 t a S35) rfl hl.1 rfl (Nat.le_of_ble_eq_true rfl) dX5_look_164 ⟨Nat.le_refl _, Nat.le_refl _⟩ (fun H locs w => ?_)
        refine lv_istore (lv' := [(4, .int r40), (0, .ref (a 0)), (3, .int x3)]) hx hb dX5_look_167 hl (by decide) rfl (fun ls hl => ?_)
        refine lv_aload_n hx hb dX5_look_169 rfl (lv_at hl 1 rfl) ?_
        refine w_get E w in_X5_look_X5 0 (cM_at_0 t a S39) rfl 11 (by decide) fl_X5_look_182 rfl rfl dX5_look_170 ?_
        refine lv_iconst (v := 1) hx hb dX5_look_173 (by decide) ?_
        refine lv_icmp_ne (tgt := 185) hx hb dX5_look_174 (by decide) (fun h41 => ?_) (fun h41 => ?_)
        · replace hf := it_f h41 hf
          refine lv_iload hx hb dX5_look_185 (lv_at hl 0 rfl) ?_
          obtain ⟨r44, S43, h42, hf⟩ := bd2_o hf
          refine w_callSi (As := [.int r40]) (rest := []) hX E w (c_X5_isFigure l hX h42) (va_cwS 1 hts gX5_look_X5_isFigure rfl rfl rfl hd_X5_isFigure ⟨Nat.le_of_ble_eq_true rfl, Nat.le_of_ble_eq_true rfl⟩) rfl hl.1 rfl (Nat.le_of_ble_eq_true rfl) dX5_look_187 ⟨Nat.le_refl _, Nat.le_refl _⟩ (fun H locs w => ?_)
          exact k_X5_look_190 hX E (fun w hl hf => ih w hl hf) w (lv_sub hl [1] rfl) hf
        · replace hf := it_t h41 hf
          refine lv_iload hx hb dX5_look_177 (lv_at hl 0 rfl) ?_
          obtain ⟨r47, S46, h45, hf⟩ := bd2_o hf
          refine w_callSi (As := [.int r40]) (rest := []) hX E w (c_X5_isSmall l hX h45) (va_cwS 1 hts gX5_look_X5_isSmall rfl rfl rfl hd_X5_isSmall ⟨Nat.le_of_ble_eq_true rfl, Nat.le_of_ble_eq_true rfl⟩) rfl hl.1 rfl (Nat.le_of_ble_eq_true rfl) dX5_look_179 ⟨Nat.le_refl _, Nat.le_refl _⟩ (fun H locs w => ?_)
          refine lv_goto (tgt := 190) hx hb dX5_look_182 (by decide) ?_
          exact k_X5_look_190 hX E (fun w hl hf => ih w hl hf) w (lv_sub hl [1] rfl) hf
set_option maxHeartbeats 4000000 in
set_option maxRecDepth 100000 in
theorem k_X5_look_133 {p : Program} {l : Launch} {e : Env} {s : State} {m : MethodId} {args : Array Value} {below : List Frame} {meth : Method} {c : Code} {D : va_G} {t : Nat → ClassId} {a : Nat → Nat} {X : State → Prop} {N : Nat} {S' : ST} (hX : XOk (aW 17 a) X) (E : EN p s m args meth c cX5_look RX5 wsX5_look none 5) {S : ST} {s0 : Int32} {H : Heap} {locs : List Loc} {ls : Array Slot} (w : Wd D (cM t a) (aW 17 a) (tyM t) X S s H locs) (hl : lv_has ls 5 [(0, .ref (a 0))]) (hf : b_X5_look_133 N S s0 = some S') : W p l e rmX5_look s m args below meth c H locs 0 0 (MQ below (Qv D (cM t a) (aW 17 a) (tyM t) S') args s 0 0 (aW 17 a)) (F0 m 133 ls [.int s0]) := by
  obtain ⟨⟨hx, hb, hml, hown, hts⟩, hr, hlk⟩ := id E
  unfold b_X5_look_133 at hf
  refine lv_istore_n (lv' := [(3, .int s0), (0, .ref (a 0))]) hx hb dX5_look_133 rfl hl (by decide) rfl (fun ls hl => ?_)
  exact k_X5_look_134 hX E N w (lv_sub hl [1, 0] rfl) hf
set_option maxHeartbeats 4000000 in
set_option maxRecDepth 100000 in
theorem k_X5_look_112 {p : Program} {l : Launch} {e : Env} {s : State} {m : MethodId} {args : Array Value} {below : List Frame} {meth : Method} {c : Code} {D : va_G} {t : Nat → ClassId} {a : Nat → Nat} {X : State → Prop} {N : Nat} {S' : ST} (hX : XOk (aW 17 a) X) (E : EN p s m args meth c cX5_look RX5 wsX5_look none 5) {S : ST} {s1 : Int32} {H : Heap} {locs : List Loc} {ls : Array Slot} (w : Wd D (cM t a) (aW 17 a) (tyM t) X S s H locs) (hl : lv_has ls 5 [(0, .ref (a 0))]) (hf : b_X5_look_112 N S s1 = some S') : W p l e rmX5_look s m args below meth c H locs 0 0 (MQ below (Qv D (cM t a) (aW 17 a) (tyM t) S') args s 0 0 (aW 17 a)) (F0 m 112 ls [.int s1, .ref (a 0)]) := by
  obtain ⟨⟨hx, hb, hml, hown, hts⟩, hr, hlk⟩ := id E
  unfold b_X5_look_112 at hf
  obtain ⟨S30, eS30, hf⟩ := nm_o hf
  refine w_put (S1 := S30) E w in_X5_look_X5 tyX5 tyX5_ok nmX5 0 (cM_at_0 t a S) rfl 11 (by decide) fl_X5_look_182 rfl rfl rfl rfl rfl (Nat.le_of_ble_eq_true rfl) ((cM_set_0_11 t a S s1).trans (congrArg (cM t a) eS30.symm)) dX5_look_112 (fun H locs w => ?_)
  refine lv_aload_n hx hb dX5_look_115 rfl (lv_at hl 0 rfl) ?_
  refine lv_iconst (v := 1) hx hb dX5_look_116 (by decide) ?_
  obtain ⟨S31, eS31, hf⟩ := nm_o hf
  refine w_put (S1 := S31) E w in_X5_look_X5 tyX5 tyX5_ok nmX5 0 (cM_at_0 t a S30) rfl 10 (by decide) fl_X5_look_179 rfl rfl rfl rfl rfl (Nat.le_of_ble_eq_true rfl) ((cM_set_0_10 t a S30 1).trans (congrArg (cM t a) eS31.symm)) dX5_look_117 (fun H locs w => ?_)
  refine lv_aload_n hx hb dX5_look_120 rfl (lv_at hl 0 rfl) ?_
  refine w_get E w in_X5_look_X5 0 (cM_at_0 t a S31) rfl 11 (by decide) fl_X5_look_182 rfl rfl dX5_look_121 ?_
  refine lv_iconst (v := 3) hx hb dX5_look_124 (by decide) ?_
  refine lv_icmp_ge (tgt := 132) hx hb dX5_look_125 (by decide) (fun h32 => ?_) (fun h32 => ?_)
  · replace hf := it_t h32 hf
    refine lv_iconst (v := 0) hx hb dX5_look_132 (by decide) ?_
    exact k_X5_look_133 hX E w (lv_sub hl [0] rfl) hf
  · replace hf := it_f h32 hf
    refine lv_iconst (v := 1) hx hb dX5_look_128 (by decide) ?_
    refine lv_goto (tgt := 133) hx hb dX5_look_129 (by decide) ?_
    exact k_X5_look_133 hX E w (lv_sub hl [0] rfl) hf
set_option maxHeartbeats 4000000 in
set_option maxRecDepth 100000 in
theorem k_X5_look_42 {p : Program} {l : Launch} {e : Env} {s : State} {m : MethodId} {args : Array Value} {below : List Frame} {meth : Method} {c : Code} {D : va_G} {t : Nat → ClassId} {a : Nat → Nat} {X : State → Prop} {N : Nat} {S' : ST} (hX : XOk (aW 17 a) X) (E : EN p s m args meth c cX5_look RX5 wsX5_look none 5) {S : ST} {H : Heap} {locs : List Loc} {ls : Array Slot} (w : Wd D (cM t a) (aW 17 a) (tyM t) X S s H locs) (hl : lv_has ls 5 [(0, .ref (a 0))]) (hf : b_X5_look_42 N S = some S') : W p l e rmX5_look s m args below meth c H locs 0 0 (MQ below (Qv D (cM t a) (aW 17 a) (tyM t) S') args s 0 0 (aW 17 a)) (F0 m 42 ls []) := by
  obtain ⟨⟨hx, hb, hml, hown, hts⟩, hr, hlk⟩ := id E
  unfold b_X5_look_42 at hf
  refine lv_aload_n hx hb dX5_look_42 rfl (lv_at hl 0 rfl) ?_
  refine lv_iconst (v := 0) hx hb dX5_look_43 (by decide) ?_
  obtain ⟨S11, eS11, hf⟩ := nm_o hf
  refine w_put (S1 := S11) E w in_X5_look_X5 tyX5 tyX5_ok nmX5 0 (cM_at_0 t a S) rfl 10 (by decide) fl_X5_look_179 rfl rfl rfl rfl rfl (Nat.le_of_ble_eq_true rfl) ((cM_set_0_10 t a S 0).trans (congrArg (cM t a) eS11.symm)) dX5_look_44 (fun H locs w => ?_)
  refine lv_aload_n hx hb dX5_look_47 rfl (lv_at hl 0 rfl) ?_
  refine lv_iconst (v := 0) hx hb dX5_look_48 (by decide) ?_
  obtain ⟨S12, eS12, hf⟩ := nm_o hf
  refine w_put (S1 := S12) E w in_X5_look_X5 tyX5 tyX5_ok nmX5 0 (cM_at_0 t a S11) rfl 11 (by decide) fl_X5_look_182 rfl rfl rfl rfl rfl (Nat.le_of_ble_eq_true rfl) ((cM_set_0_11 t a S11 0).trans (congrArg (cM t a) eS12.symm)) dX5_look_49 (fun H locs w => ?_)
  refine lv_aload_n hx hb dX5_look_52 rfl (lv_at hl 0 rfl) ?_
  refine lv_iconst (v := 0) hx hb dX5_look_53 (by decide) ?_
  obtain ⟨S13, eS13, hf⟩ := nm_o hf
  refine w_put (S1 := S13) E w in_X5_look_X5 tyX5 tyX5_ok nmX5 0 (cM_at_0 t a S12) rfl 12 (by decide) fl_X5_look_185 rfl rfl rfl rfl rfl (Nat.le_of_ble_eq_true rfl) ((cM_set_0_12 t a S12 0).trans (congrArg (cM t a) eS13.symm)) dX5_look_54 (fun H locs w => ?_)
  refine lv_aload_n hx hb dX5_look_57 rfl (lv_at hl 0 rfl) ?_
  refine w_get E w in_X5_look_X5 0 (cM_at_0 t a S13) rfl 9 (by decide) fl_X5_look_173 rfl rfl dX5_look_58 ?_
  refine lv_aload_n hx hb dX5_look_61 rfl (lv_at hl 0 rfl) ?_
  obtain ⟨r16, S15, h14, hf⟩ := bd2_o hf
  refine w_callVi (As := []) (rest := [.int (S13 0 9)]) hX E w (c_X5_textLong l hX h14) (cwV 0 hts gX5_look_X5_textLong rfl rfl rfl hd_X5_textLong ⟨Nat.le_of_ble_eq_true rfl, Nat.le_of_ble_eq_true rfl⟩) (ci := 5) rfl (cM_at_0 t a S13) rfl hl.1 rfl (Nat.le_of_ble_eq_true rfl) dX5_look_62 ⟨Nat.le_refl _, Nat.le_refl _⟩ (fun H locs w => ?_)
  refine lv_icmp_ne (tgt := 69) hx hb dX5_look_65 (by decide) (fun h17 => ?_) (fun h17 => ?_)
  · replace hf := it_f h17 hf
    refine lv_aload_n hx hb dX5_look_69 rfl (lv_at hl 0 rfl) ?_
    refine lv_aload_n hx hb dX5_look_70 rfl (lv_at hl 0 rfl) ?_
    refine w_get E w in_X5_look_X5 0 (cM_at_0 t a S15) rfl 9 (by decide) fl_X5_look_173 rfl rfl dX5_look_71 ?_
    obtain ⟨r20, S19, h18, hf⟩ := bd2_o hf
    refine w_callVi (As := [.int (S15 0 9)]) (rest := []) hX E w (c_X5_byteAt l hX h18) (cwV 1 hts gX5_look_X5_byteAt rfl rfl rfl hd_X5_byteAt ⟨Nat.le_of_ble_eq_true rfl, Nat.le_of_ble_eq_true rfl⟩) (ci := 5) rfl (cM_at_0 t a S15) rfl hl.1 rfl (Nat.le_of_ble_eq_true rfl) dX5_look_74 ⟨Nat.le_refl _, Nat.le_refl _⟩ (fun H locs w => ?_)
    refine lv_istore_n (lv' := [(2, .int r20), (0, .ref (a 0))]) hx hb dX5_look_77 rfl hl (by decide) rfl (fun ls hl => ?_)
    refine lv_aload_n hx hb dX5_look_78 rfl (lv_at hl 1 rfl) ?_
    refine lv_iload_n hx hb dX5_look_79 rfl (lv_at hl 0 rfl) ?_
    obtain ⟨r23, S22, h21, hf⟩ := bd2_o hf
    refine w_callSi (As := [.int r20]) (rest := [.ref (a 0)]) hX E w (c_X5_isSmall l hX h21) (va_cwS 1 hts gX5_look_X5_isSmall rfl rfl rfl hd_X5_isSmall ⟨Nat.le_of_ble_eq_true rfl, Nat.le_of_ble_eq_true rfl⟩) rfl hl.1 rfl (Nat.le_of_ble_eq_true rfl) dX5_look_80 ⟨Nat.le_refl _, Nat.le_refl _⟩ (fun H locs w => ?_)
    refine lv_if_eq (tgt := 90) hx hb dX5_look_83 (by decide) (fun h24 => ?_) (fun h24 => ?_)
    · replace hf := it_t h24 hf
      refine lv_iload_n hx hb dX5_look_90 rfl (lv_at hl 0 rfl) ?_
      obtain ⟨r27, S26, h25, hf⟩ := bd2_o hf
      refine w_callSi (As := [.int r20]) (rest := [.ref (a 0)]) hX E w (c_X5_isFigure l hX h25) (va_cwS 1 hts gX5_look_X5_isFigure rfl rfl rfl hd_X5_isFigure ⟨Nat.le_of_ble_eq_true rfl, Nat.le_of_ble_eq_true rfl⟩) rfl hl.1 rfl (Nat.le_of_ble_eq_true rfl) dX5_look_91 ⟨Nat.le_refl _, Nat.le_refl _⟩ (fun H locs w => ?_)
      refine lv_if_eq (tgt := 101) hx hb dX5_look_94 (by decide) (fun h28 => ?_) (fun h28 => ?_)
      · replace hf := it_t h28 hf
        refine lv_iload_n hx hb dX5_look_101 rfl (lv_at hl 0 rfl) ?_
        refine lv_bipush (v := 59) hx hb dX5_look_102 (by decide) ?_
        refine lv_icmp_ne (tgt := 111) hx hb dX5_look_104 (by decide) (fun h29 => ?_) (fun h29 => ?_)
        · replace hf := it_f h29 hf
          refine lv_iconst (v := 4) hx hb dX5_look_111 (by decide) ?_
          exact k_X5_look_112 hX E w (lv_sub hl [1] rfl) hf
        · replace hf := it_t h29 hf
          refine lv_iconst (v := 3) hx hb dX5_look_107 (by decide) ?_
          refine lv_goto (tgt := 112) hx hb dX5_look_108 (by decide) ?_
          exact k_X5_look_112 hX E w (lv_sub hl [1] rfl) hf
      · replace hf := it_f h28 hf
        refine lv_iconst (v := 2) hx hb dX5_look_97 (by decide) ?_
        refine lv_goto (tgt := 112) hx hb dX5_look_98 (by decide) ?_
        exact k_X5_look_112 hX E w (lv_sub hl [1] rfl) hf
    · replace hf := it_f h24 hf
      refine lv_iconst (v := 1) hx hb dX5_look_86 (by decide) ?_
      refine lv_goto (tgt := 112) hx hb dX5_look_87 (by decide) ?_
      exact k_X5_look_112 hX E w (lv_sub hl [1] rfl) hf
  · replace hf := it_t h17 hf
    exact w_retv E w hf dX5_look_68
set_option maxHeartbeats 4000000 in
set_option maxRecDepth 100000 in
theorem k_X5_look_5 {p : Program} {l : Launch} {e : Env} {s : State} {m : MethodId} {args : Array Value} {below : List Frame} {meth : Method} {c : Code} {D : va_G} {t : Nat → ClassId} {a : Nat → Nat} {X : State → Prop} {N : Nat} {S' : ST} (hX : XOk (aW 17 a) X) (E : EN p s m args meth c cX5_look RX5 wsX5_look none 5) : ∀ (n : Nat) {S : ST} {H : Heap} {locs : List Loc} {ls : Array Slot}, Wd D (cM t a) (aW 17 a) (tyM t) X S s H locs → lv_has ls 5 [(0, .ref (a 0))] → b_X5_look_5 N n S = some S' → W p l e rmX5_look s m args below meth c H locs 0 0 (MQ below (Qv D (cM t a) (aW 17 a) (tyM t) S') args s 0 0 (aW 17 a)) (F0 m 5 ls []) := by
  obtain ⟨⟨hx, hb, hml, hown, hts⟩, hr, hlk⟩ := id E
  intro n
  induction n with
  | zero => intro S H locs ls w hl hf; cases hf
  | succ n ih =>
    intro S H locs ls w hl hf
    unfold b_X5_look_5 at hf
    refine lv_aload_n hx hb dX5_look_5 rfl (lv_at hl 0 rfl) ?_
    refine w_get E w in_X5_look_X5 0 (cM_at_0 t a S) rfl 9 (by decide) fl_X5_look_173 rfl rfl dX5_look_6 ?_
    refine lv_aload_n hx hb dX5_look_9 rfl (lv_at hl 0 rfl) ?_
    obtain ⟨r4, S3, h2, hf⟩ := bd2_o hf
    refine w_callVi (As := []) (rest := [.int (S 0 9)]) hX E w (c_X5_textLong l hX h2) (cwV 0 hts gX5_look_X5_textLong rfl rfl rfl hd_X5_textLong ⟨Nat.le_of_ble_eq_true rfl, Nat.le_of_ble_eq_true rfl⟩) (ci := 5) rfl (cM_at_0 t a S) rfl hl.1 rfl (Nat.le_of_ble_eq_true rfl) dX5_look_10 ⟨Nat.le_refl _, Nat.le_refl _⟩ (fun H locs w => ?_)
    refine lv_icmp_ge (tgt := 42) hx hb dX5_look_13 (by decide) (fun h5 => ?_) (fun h5 => ?_)
    · replace hf := it_t h5 hf
      exact k_X5_look_42 hX E w (lv_sub hl [0] rfl) hf
    · replace hf := it_f h5 hf
      refine lv_aload_n hx hb dX5_look_16 rfl (lv_at hl 0 rfl) ?_
      refine lv_aload_n hx hb dX5_look_17 rfl (lv_at hl 0 rfl) ?_
      refine w_get E w in_X5_look_X5 0 (cM_at_0 t a S3) rfl 9 (by decide) fl_X5_look_173 rfl rfl dX5_look_18 ?_
      obtain ⟨r8, S7, h6, hf⟩ := bd2_o hf
      refine w_callVi (As := [.int (S3 0 9)]) (rest := []) hX E w (c_X5_byteAt l hX h6) (cwV 1 hts gX5_look_X5_byteAt rfl rfl rfl hd_X5_byteAt ⟨Nat.le_of_ble_eq_true rfl, Nat.le_of_ble_eq_true rfl⟩) (ci := 5) rfl (cM_at_0 t a S3) rfl hl.1 rfl (Nat.le_of_ble_eq_true rfl) dX5_look_21 ⟨Nat.le_refl _, Nat.le_refl _⟩ (fun H locs w => ?_)
      refine lv_bipush (v := 32) hx hb dX5_look_24 (by decide) ?_
      refine lv_icmp_ne (tgt := 42) hx hb dX5_look_26 (by decide) (fun h9 => ?_) (fun h9 => ?_)
      · replace hf := it_f h9 hf
        exact k_X5_look_42 hX E w (lv_sub hl [0] rfl) hf
      · replace hf := it_t h9 hf
        refine lv_aload_n hx hb dX5_look_29 rfl (lv_at hl 0 rfl) ?_
        refine lv_dup hx hb dX5_look_30 rfl ?_
        refine w_get E w in_X5_look_X5 0 (cM_at_0 t a S7) rfl 9 (by decide) fl_X5_look_173 rfl rfl dX5_look_31 ?_
        refine lv_iconst (v := 1) hx hb dX5_look_34 (by decide) ?_
        refine lv_iadd hx hb dX5_look_35 ?_
        obtain ⟨S10, eS10, hf⟩ := nm_o hf
        refine w_put (S1 := S10) E w in_X5_look_X5 tyX5 tyX5_ok nmX5 0 (cM_at_0 t a S7) rfl 9 (by decide) fl_X5_look_173 rfl rfl rfl rfl rfl (Nat.le_of_ble_eq_true rfl) ((cM_set_0_9 t a S7 ((S7 0 9) + 1)).trans (congrArg (cM t a) eS10.symm)) dX5_look_36 (fun H locs w => ?_)
        refine lv_goto (tgt := 5) hx hb dX5_look_39 (by decide) ?_
        exact ih w (lv_sub hl [0] rfl) hf
set_option maxHeartbeats 4000000 in
set_option maxRecDepth 100000 in
theorem k_X5_look_E {p : Program} {l : Launch} {e : Env} {s : State} {m : MethodId} {args : Array Value} {below : List Frame} {meth : Method} {c : Code} {D : va_G} {t : Nat → ClassId} {a : Nat → Nat} {X : State → Prop} {N : Nat} {S' : ST} (hX : XOk (aW 17 a) X) (E : EN p s m args meth c cX5_look RX5 wsX5_look none 5) {S : ST} {x1 : Int32} {H : Heap} {locs : List Loc} {ls : Array Slot} (w : Wd D (cM t a) (aW 17 a) (tyM t) X S s H locs) (hl : lv_has ls 5 [(0, .ref (a 0)), (1, .int x1)]) (hf : f_X5_look N S x1 = some S') : W p l e rmX5_look s m args below meth c H locs 0 0 (MQ below (Qv D (cM t a) (aW 17 a) (tyM t) S') args s 0 0 (aW 17 a)) (F0 m 0 ls []) := by
  obtain ⟨⟨hx, hb, hml, hown, hts⟩, hr, hlk⟩ := id E
  unfold f_X5_look at hf
  refine lv_aload_n hx hb dX5_look_0 rfl (lv_at hl 0 rfl) ?_
  refine lv_iload_n hx hb dX5_look_1 rfl (lv_at hl 1 rfl) ?_
  obtain ⟨S1, eS1, hf⟩ := nm_o hf
  refine w_put (S1 := S1) E w in_X5_look_X5 tyX5 tyX5_ok nmX5 0 (cM_at_0 t a S) rfl 9 (by decide) fl_X5_look_173 rfl rfl rfl rfl rfl (Nat.le_of_ble_eq_true rfl) ((cM_set_0_9 t a S x1).trans (congrArg (cM t a) eS1.symm)) dX5_look_2 (fun H locs w => ?_)
  exact k_X5_look_5 hX E N w (lv_sub hl [0] rfl) hf
theorem c_X5_look (l : Launch) {D : va_G} {t : Nat → ClassId} {a : Nat → Nat} {X : State → Prop} (hX : XOk (aW 17 a) X) {N : Nat} {S : ST} {x1 : Int32} {S' : ST} (hf : f_X5_look N S x1 = some S') : Co l yX5_look wsX5_look rmX5_look D (cM t a) (aW 17 a) (tyM t) X [.ref (a 0), .int x1] S (Qv D (cM t a) (aW 17 a) (tyM t) S') :=
  co_of (cc := cX5_look) (maxL := 5) (ret := none) (lv := [(0, .ref (a 0)), (1, .int x1)]) (by decide) rfl rfl (Nat.le_of_ble_eq_true rfl) rfl rfl (fun p e s m below meth c ls E hl w => k_X5_look_E hX E w hl hf)
-- X5_isWord
theorem in_X5_isWord_X5 : ∀ w ∈ u_ws RX5 TX5 28, w ∈ wsX5_isWord := by decide +kernel
theorem fl_X5_isWord_182 : Cond.fieldLink RX5 182 "NextDoorModel" "token" "I" ∈ wsX5_isWord := by decide +kernel
theorem fl_X5_isWord_179 : Cond.fieldLink RX5 179 "NextDoorModel" "tokenLong" "I" ∈ wsX5_isWord := by decide +kernel
theorem fl_X5_isWord_173 : Cond.fieldLink RX5 173 "NextDoorModel" "tokenAt" "I" ∈ wsX5_isWord := by decide +kernel
abbrev rmX5_isWord : Room := { frames := 1, cells := 0, slots := 0, locals := 21 }
set_option maxHeartbeats 4000000 in
set_option maxRecDepth 100000 in
theorem k_X5_isWord_101 {p : Program} {l : Launch} {e : Env} {s : State} {m : MethodId} {args : Array Value} {below : List Frame} {meth : Method} {c : Code} {D : va_G} {t : Nat → ClassId} {a : Nat → Nat} {X : State → Prop} {N : Nat} {r : Int32} {S' : ST} (hX : XOk (aW 17 a) X) (E : EN p s m args meth c cX5_isWord RX5 wsX5_isWord (some .boolean) 8) {k39 : ST → Int32 → Int32 → Int32 → Int32 → Int32 → Int32 → Int32 → Option (Int32 × ST)} (hk39 : ∀ {S : ST} {x1 : Int32} {x2 : Int32} {x3 : Int32} {x4 : Int32} {x5 : Int32} {x6 : Int32} {x7 : Int32} {H : Heap} {locs : List Loc} {ls : Array Slot}, Wd D (cM t a) (aW 17 a) (tyM t) X S s H locs → lv_has ls 8 [(0, .ref (a 0)), (1, .int x1), (2, .int x2), (3, .int x3), (4, .int x4), (5, .int x5), (6, .int x6), (7, .int x7)] → k39 S x1 x2 x3 x4 x5 x6 x7 = some (r, S') → W p l e rmX5_isWord s m args below meth c H locs 0 0 (MQ below (Qi D (cM t a) (aW 17 a) (tyM t) r S') args s 0 0 (aW 17 a)) (F0 m 39 ls [])) {S : ST} {x1 : Int32} {x2 : Int32} {x3 : Int32} {x4 : Int32} {x5 : Int32} {x7 : Int32} {s0 : Int32} {H : Heap} {locs : List Loc} {ls : Array Slot} (w : Wd D (cM t a) (aW 17 a) (tyM t) X S s H locs) (hl : lv_has ls 8 [(0, .ref (a 0)), (1, .int x1), (2, .int x2), (3, .int x3), (4, .int x4), (5, .int x5), (7, .int x7)]) (hf : b_X5_isWord_101 N k39 S x1 x2 x3 x4 x5 x7 s0 = some (r, S')) : W p l e rmX5_isWord s m args below meth c H locs 0 0 (MQ below (Qi D (cM t a) (aW 17 a) (tyM t) r S') args s 0 0 (aW 17 a)) (F0 m 101 ls [.int s0]) := by
  obtain ⟨⟨hx, hb, hml, hown, hts⟩, hr, hlk⟩ := id E
  unfold b_X5_isWord_101 at hf
  refine lv_istore (lv' := [(6, .int s0), (0, .ref (a 0)), (1, .int x1), (2, .int x2), (3, .int x3), (4, .int x4), (5, .int x5), (7, .int x7)]) hx hb dX5_isWord_101 hl (by decide) rfl (fun ls hl => ?_)
  refine lv_iinc (v := x7 + 1) (lv' := [(7, .int (x7 + 1)), (6, .int s0), (0, .ref (a 0)), (1, .int x1), (2, .int x2), (3, .int x3), (4, .int x4), (5, .int x5)]) hx hb dX5_isWord_103 hl (k := 7) rfl rfl (by decide) rfl (fun ls hl => ?_)
  refine lv_goto (tgt := 39) hx hb dX5_isWord_106 (by decide) ?_
  exact hk39 w (lv_sub hl [2, 3, 4, 5, 6, 7, 1, 0] rfl) hf
set_option maxHeartbeats 4000000 in
set_option maxRecDepth 100000 in
theorem k_X5_isWord_93 {p : Program} {l : Launch} {e : Env} {s : State} {m : MethodId} {args : Array Value} {below : List Frame} {meth : Method} {c : Code} {D : va_G} {t : Nat → ClassId} {a : Nat → Nat} {X : State → Prop} {N : Nat} {r : Int32} {S' : ST} (hX : XOk (aW 17 a) X) (E : EN p s m args meth c cX5_isWord RX5 wsX5_isWord (some .boolean) 8) {k39 : ST → Int32 → Int32 → Int32 → Int32 → Int32 → Int32 → Int32 → Option (Int32 × ST)} (hk39 : ∀ {S : ST} {x1 : Int32} {x2 : Int32} {x3 : Int32} {x4 : Int32} {x5 : Int32} {x6 : Int32} {x7 : Int32} {H : Heap} {locs : List Loc} {ls : Array Slot}, Wd D (cM t a) (aW 17 a) (tyM t) X S s H locs → lv_has ls 8 [(0, .ref (a 0)), (1, .int x1), (2, .int x2), (3, .int x3), (4, .int x4), (5, .int x5), (6, .int x6), (7, .int x7)] → k39 S x1 x2 x3 x4 x5 x6 x7 = some (r, S') → W p l e rmX5_isWord s m args below meth c H locs 0 0 (MQ below (Qi D (cM t a) (aW 17 a) (tyM t) r S') args s 0 0 (aW 17 a)) (F0 m 39 ls [])) {S : ST} {x1 : Int32} {x2 : Int32} {x3 : Int32} {x4 : Int32} {x5 : Int32} {x7 : Int32} {s0 : Int32} {s1 : Int32} {H : Heap} {locs : List Loc} {ls : Array Slot} (w : Wd D (cM t a) (aW 17 a) (tyM t) X S s H locs) (hl : lv_has ls 8 [(0, .ref (a 0)), (1, .int x1), (2, .int x2), (3, .int x3), (4, .int x4), (5, .int x5), (7, .int x7)]) (hf : b_X5_isWord_93 N k39 S x1 x2 x3 x4 x5 x7 s0 s1 = some (r, S')) : W p l e rmX5_isWord s m args below meth c H locs 0 0 (MQ below (Qi D (cM t a) (aW 17 a) (tyM t) r S') args s 0 0 (aW 17 a)) (F0 m 93 ls [.int s1, .int s0]) := by
  obtain ⟨⟨hx, hb, hml, hown, hts⟩, hr, hlk⟩ := id E
  unfold b_X5_isWord_93 at hf
  refine lv_icmp_ne (tgt := 100) hx hb dX5_isWord_93 (by decide) (fun h14 => ?_) (fun h14 => ?_)
  · replace hf := it_f h14 hf
    refine lv_iconst (v := 0) hx hb dX5_isWord_100 (by decide) ?_
    exact k_X5_isWord_101 hX E hk39 w (lv_sub hl [0, 1, 2, 3, 4, 5, 6] rfl) hf
  · replace hf := it_t h14 hf
    refine lv_iconst (v := 1) hx hb dX5_isWord_96 (by decide) ?_
    refine lv_goto (tgt := 101) hx hb dX5_isWord_97 (by decide) ?_
    exact k_X5_isWord_101 hX E hk39 w (lv_sub hl [0, 1, 2, 3, 4, 5, 6] rfl) hf
set_option maxHeartbeats 4000000 in
set_option maxRecDepth 100000 in
theorem k_X5_isWord_39 {p : Program} {l : Launch} {e : Env} {s : State} {m : MethodId} {args : Array Value} {below : List Frame} {meth : Method} {c : Code} {D : va_G} {t : Nat → ClassId} {a : Nat → Nat} {X : State → Prop} {N : Nat} {r : Int32} {S' : ST} (hX : XOk (aW 17 a) X) (E : EN p s m args meth c cX5_isWord RX5 wsX5_isWord (some .boolean) 8) : ∀ (n : Nat) {S : ST} {x1 : Int32} {x2 : Int32} {x3 : Int32} {x4 : Int32} {x5 : Int32} {x6 : Int32} {x7 : Int32} {H : Heap} {locs : List Loc} {ls : Array Slot}, Wd D (cM t a) (aW 17 a) (tyM t) X S s H locs → lv_has ls 8 [(0, .ref (a 0)), (1, .int x1), (2, .int x2), (3, .int x3), (4, .int x4), (5, .int x5), (6, .int x6), (7, .int x7)] → b_X5_isWord_39 N n S x1 x2 x3 x4 x5 x6 x7 = some (r, S') → W p l e rmX5_isWord s m args below meth c H locs 0 0 (MQ below (Qi D (cM t a) (aW 17 a) (tyM t) r S') args s 0 0 (aW 17 a)) (F0 m 39 ls []) := by
  obtain ⟨⟨hx, hb, hml, hown, hts⟩, hr, hlk⟩ := id E
  intro n
  induction n with
  | zero => intro S x1 x2 x3 x4 x5 x6 x7 H locs ls w hl hf; cases hf
  | succ n ih =>
    intro S x1 x2 x3 x4 x5 x6 x7 H locs ls w hl hf
    unfold b_X5_isWord_39 at hf
    refine lv_iload hx hb dX5_isWord_39 (lv_at hl 7 rfl) ?_
    refine lv_iload hx hb dX5_isWord_41 (lv_at hl 5 rfl) ?_
    refine lv_icmp_ge (tgt := 109) hx hb dX5_isWord_43 (by decide) (fun h4 => ?_) (fun h4 => ?_)
    · replace hf := it_t h4 hf
      refine lv_iload hx hb dX5_isWord_109 (lv_at hl 6 rfl) ?_
      obtain ⟨h5, hf⟩ := it_s hf
      exact w_retz E w h5 hf dX5_isWord_111
    · replace hf := it_f h4 hf
      refine lv_iload hx hb dX5_isWord_46 (lv_at hl 6 rfl) ?_
      refine lv_if_eq (tgt := 109) hx hb dX5_isWord_48 (by decide) (fun h6 => ?_) (fun h6 => ?_)
      · replace hf := it_t h6 hf
        refine lv_iload hx hb dX5_isWord_109 (lv_at hl 6 rfl) ?_
        obtain ⟨h7, hf⟩ := it_s hf
        exact w_retz E w h7 hf dX5_isWord_111
      · replace hf := it_f h6 hf
        refine lv_aload_n hx hb dX5_isWord_51 rfl (lv_at hl 0 rfl) ?_
        refine lv_aload_n hx hb dX5_isWord_52 rfl (lv_at hl 0 rfl) ?_
        refine w_get E w in_X5_isWord_X5 0 (cM_at_0 t a S) rfl 9 (by decide) fl_X5_isWord_173 rfl rfl dX5_isWord_53 ?_
        refine lv_iload hx hb dX5_isWord_56 (lv_at hl 7 rfl) ?_
        refine lv_iadd hx hb dX5_isWord_58 ?_
        obtain ⟨r10, S9, h8, hf⟩ := bd2_o hf
        refine w_callVi (As := [.int ((S 0 9) + x7)]) (rest := []) hX E w (c_X5_byteAt l hX h8) (cwV 1 hts gX5_isWord_X5_byteAt rfl rfl rfl hd_X5_byteAt ⟨Nat.le_of_ble_eq_true rfl, Nat.le_of_ble_eq_true rfl⟩) (ci := 5) rfl (cM_at_0 t a S) rfl hl.1 rfl (Nat.le_of_ble_eq_true rfl) dX5_isWord_59 ⟨Nat.le_refl _, Nat.le_refl _⟩ (fun H locs w => ?_)
        refine lv_iload hx hb dX5_isWord_62 (lv_at hl 7 rfl) ?_
        refine lv_if_ne (tgt := 71) hx hb dX5_isWord_64 (by decide) (fun h11 => ?_) (fun h11 => ?_)
        · replace hf := it_f h11 hf
          refine lv_iload hx hb dX5_isWord_71 (lv_at hl 7 rfl) ?_
          refine lv_iconst (v := 1) hx hb dX5_isWord_73 (by decide) ?_
          refine lv_icmp_ne (tgt := 81) hx hb dX5_isWord_74 (by decide) (fun h12 => ?_) (fun h12 => ?_)
          · replace hf := it_f h12 hf
            refine lv_iload hx hb dX5_isWord_81 (lv_at hl 7 rfl) ?_
            refine lv_iconst (v := 2) hx hb dX5_isWord_83 (by decide) ?_
            refine lv_icmp_ne (tgt := 91) hx hb dX5_isWord_84 (by decide) (fun h13 => ?_) (fun h13 => ?_)
            · replace hf := it_f h13 hf
              refine lv_iload hx hb dX5_isWord_91 (lv_at hl 4 rfl) ?_
              exact k_X5_isWord_93 hX E (fun w hl hf => ih w hl hf) w (lv_sub hl [0, 1, 2, 3, 4, 5, 7] rfl) hf
            · replace hf := it_t h13 hf
              refine lv_iload_n hx hb dX5_isWord_87 rfl (lv_at hl 3 rfl) ?_
              refine lv_goto (tgt := 93) hx hb dX5_isWord_88 (by decide) ?_
              exact k_X5_isWord_93 hX E (fun w hl hf => ih w hl hf) w (lv_sub hl [0, 1, 2, 3, 4, 5, 7] rfl) hf
          · replace hf := it_t h12 hf
            refine lv_iload_n hx hb dX5_isWord_77 rfl (lv_at hl 2 rfl) ?_
            refine lv_goto (tgt := 93) hx hb dX5_isWord_78 (by decide) ?_
            exact k_X5_isWord_93 hX E (fun w hl hf => ih w hl hf) w (lv_sub hl [0, 1, 2, 3, 4, 5, 7] rfl) hf
        · replace hf := it_t h11 hf
          refine lv_iload_n hx hb dX5_isWord_67 rfl (lv_at hl 1 rfl) ?_
          refine lv_goto (tgt := 93) hx hb dX5_isWord_68 (by decide) ?_
          exact k_X5_isWord_93 hX E (fun w hl hf => ih w hl hf) w (lv_sub hl [0, 1, 2, 3, 4, 5, 7] rfl) hf
set_option maxHeartbeats 4000000 in
set_option maxRecDepth 100000 in
theorem k_X5_isWord_34 {p : Program} {l : Launch} {e : Env} {s : State} {m : MethodId} {args : Array Value} {below : List Frame} {meth : Method} {c : Code} {D : va_G} {t : Nat → ClassId} {a : Nat → Nat} {X : State → Prop} {N : Nat} {r : Int32} {S' : ST} (hX : XOk (aW 17 a) X) (E : EN p s m args meth c cX5_isWord RX5 wsX5_isWord (some .boolean) 8) {S : ST} {x1 : Int32} {x2 : Int32} {x3 : Int32} {x4 : Int32} {x5 : Int32} {s0 : Int32} {H : Heap} {locs : List Loc} {ls : Array Slot} (w : Wd D (cM t a) (aW 17 a) (tyM t) X S s H locs) (hl : lv_has ls 8 [(0, .ref (a 0)), (1, .int x1), (2, .int x2), (3, .int x3), (4, .int x4), (5, .int x5)]) (hf : b_X5_isWord_34 N S x1 x2 x3 x4 x5 s0 = some (r, S')) : W p l e rmX5_isWord s m args below meth c H locs 0 0 (MQ below (Qi D (cM t a) (aW 17 a) (tyM t) r S') args s 0 0 (aW 17 a)) (F0 m 34 ls [.int s0]) := by
  obtain ⟨⟨hx, hb, hml, hown, hts⟩, hr, hlk⟩ := id E
  unfold b_X5_isWord_34 at hf
  refine lv_istore (lv' := [(6, .int s0), (0, .ref (a 0)), (1, .int x1), (2, .int x2), (3, .int x3), (4, .int x4), (5, .int x5)]) hx hb dX5_isWord_34 hl (by decide) rfl (fun ls hl => ?_)
  refine lv_iconst (v := 0) hx hb dX5_isWord_36 (by decide) ?_
  refine lv_istore (lv' := [(7, .int 0), (6, .int s0), (0, .ref (a 0)), (1, .int x1), (2, .int x2), (3, .int x3), (4, .int x4), (5, .int x5)]) hx hb dX5_isWord_37 hl (by decide) rfl (fun ls hl => ?_)
  exact k_X5_isWord_39 hX E N w (lv_sub hl [2, 3, 4, 5, 6, 7, 1, 0] rfl) hf
set_option maxHeartbeats 4000000 in
set_option maxRecDepth 100000 in
theorem k_X5_isWord_33 {p : Program} {l : Launch} {e : Env} {s : State} {m : MethodId} {args : Array Value} {below : List Frame} {meth : Method} {c : Code} {D : va_G} {t : Nat → ClassId} {a : Nat → Nat} {X : State → Prop} {N : Nat} {r : Int32} {S' : ST} (hX : XOk (aW 17 a) X) (E : EN p s m args meth c cX5_isWord RX5 wsX5_isWord (some .boolean) 8) {S : ST} {x1 : Int32} {x2 : Int32} {x3 : Int32} {x4 : Int32} {x5 : Int32} {H : Heap} {locs : List Loc} {ls : Array Slot} (w : Wd D (cM t a) (aW 17 a) (tyM t) X S s H locs) (hl : lv_has ls 8 [(0, .ref (a 0)), (1, .int x1), (2, .int x2), (3, .int x3), (4, .int x4), (5, .int x5)]) (hf : b_X5_isWord_33 N S x1 x2 x3 x4 x5 = some (r, S')) : W p l e rmX5_isWord s m args below meth c H locs 0 0 (MQ below (Qi D (cM t a) (aW 17 a) (tyM t) r S') args s 0 0 (aW 17 a)) (F0 m 33 ls []) := by
  obtain ⟨⟨hx, hb, hml, hown, hts⟩, hr, hlk⟩ := id E
  unfold b_X5_isWord_33 at hf
  refine lv_iconst (v := 0) hx hb dX5_isWord_33 (by decide) ?_
  exact k_X5_isWord_34 hX E w (lv_sub hl [0, 1, 2, 3, 4, 5] rfl) hf
set_option maxHeartbeats 4000000 in
set_option maxRecDepth 100000 in
theorem k_X5_isWord_10 {p : Program} {l : Launch} {e : Env} {s : State} {m : MethodId} {args : Array Value} {below : List Frame} {meth : Method} {c : Code} {D : va_G} {t : Nat → ClassId} {a : Nat → Nat} {X : State → Prop} {N : Nat} {r : Int32} {S' : ST} (hX : XOk (aW 17 a) X) (E : EN p s m args meth c cX5_isWord RX5 wsX5_isWord (some .boolean) 8) {S : ST} {x1 : Int32} {x2 : Int32} {x3 : Int32} {x4 : Int32} {s0 : Int32} {H : Heap} {locs : List Loc} {ls : Array Slot} (w : Wd D (cM t a) (aW 17 a) (tyM t) X S s H locs) (hl : lv_has ls 8 [(0, .ref (a 0)), (1, .int x1), (2, .int x2), (3, .int x3), (4, .int x4)]) (hf : b_X5_isWord_10 N S x1 x2 x3 x4 s0 = some (r, S')) : W p l e rmX5_isWord s m args below meth c H locs 0 0 (MQ below (Qi D (cM t a) (aW 17 a) (tyM t) r S') args s 0 0 (aW 17 a)) (F0 m 10 ls [.int s0]) := by
  obtain ⟨⟨hx, hb, hml, hown, hts⟩, hr, hlk⟩ := id E
  unfold b_X5_isWord_10 at hf
  refine lv_istore (lv' := [(5, .int s0), (0, .ref (a 0)), (1, .int x1), (2, .int x2), (3, .int x3), (4, .int x4)]) hx hb dX5_isWord_10 hl (by decide) rfl (fun ls hl => ?_)
  refine lv_aload_n hx hb dX5_isWord_12 rfl (lv_at hl 1 rfl) ?_
  refine w_get E w in_X5_isWord_X5 0 (cM_at_0 t a S) rfl 11 (by decide) fl_X5_isWord_182 rfl rfl dX5_isWord_13 ?_
  refine lv_iconst (v := 1) hx hb dX5_isWord_16 (by decide) ?_
  refine lv_icmp_ne (tgt := 33) hx hb dX5_isWord_17 (by decide) (fun h2 => ?_) (fun h2 => ?_)
  · replace hf := it_f h2 hf
    exact k_X5_isWord_33 hX E w (lv_sub hl [1, 2, 3, 4, 5, 0] rfl) hf
  · replace hf := it_t h2 hf
    refine lv_aload_n hx hb dX5_isWord_20 rfl (lv_at hl 1 rfl) ?_
    refine w_get E w in_X5_isWord_X5 0 (cM_at_0 t a S) rfl 10 (by decide) fl_X5_isWord_179 rfl rfl dX5_isWord_21 ?_
    refine lv_iload hx hb dX5_isWord_24 (lv_at hl 0 rfl) ?_
    refine lv_icmp_ne (tgt := 33) hx hb dX5_isWord_26 (by decide) (fun h3 => ?_) (fun h3 => ?_)
    · replace hf := it_f h3 hf
      exact k_X5_isWord_33 hX E w (lv_sub hl [1, 2, 3, 4, 5, 0] rfl) hf
    · replace hf := it_t h3 hf
      refine lv_iconst (v := 1) hx hb dX5_isWord_29 (by decide) ?_
      refine lv_goto (tgt := 34) hx hb dX5_isWord_30 (by decide) ?_
      exact k_X5_isWord_34 hX E w (lv_sub hl [1, 2, 3, 4, 5, 0] rfl) hf
set_option maxHeartbeats 4000000 in
set_option maxRecDepth 100000 in
theorem k_X5_isWord_E {p : Program} {l : Launch} {e : Env} {s : State} {m : MethodId} {args : Array Value} {below : List Frame} {meth : Method} {c : Code} {D : va_G} {t : Nat → ClassId} {a : Nat → Nat} {X : State → Prop} {N : Nat} {r : Int32} {S' : ST} (hX : XOk (aW 17 a) X) (E : EN p s m args meth c cX5_isWord RX5 wsX5_isWord (some .boolean) 8) {S : ST} {x1 : Int32} {x2 : Int32} {x3 : Int32} {x4 : Int32} {H : Heap} {locs : List Loc} {ls : Array Slot} (w : Wd D (cM t a) (aW 17 a) (tyM t) X S s H locs) (hl : lv_has ls 8 [(0, .ref (a 0)), (1, .int x1), (2, .int x2), (3, .int x3), (4, .int x4)]) (hf : f_X5_isWord N S x1 x2 x3 x4 = some (r, S')) : W p l e rmX5_isWord s m args below meth c H locs 0 0 (MQ below (Qi D (cM t a) (aW 17 a) (tyM t) r S') args s 0 0 (aW 17 a)) (F0 m 0 ls []) := by
  obtain ⟨⟨hx, hb, hml, hown, hts⟩, hr, hlk⟩ := id E
  unfold f_X5_isWord at hf
  refine lv_iload hx hb dX5_isWord_0 (lv_at hl 4 rfl) ?_
  refine lv_if_ne (tgt := 9) hx hb dX5_isWord_2 (by decide) (fun h1 => ?_) (fun h1 => ?_)
  · replace hf := it_f h1 hf
    refine lv_iconst (v := 4) hx hb dX5_isWord_9 (by decide) ?_
    exact k_X5_isWord_10 hX E w (lv_sub hl [0, 1, 2, 3, 4] rfl) hf
  · replace hf := it_t h1 hf
    refine lv_iconst (v := 3) hx hb dX5_isWord_5 (by decide) ?_
    refine lv_goto (tgt := 10) hx hb dX5_isWord_6 (by decide) ?_
    exact k_X5_isWord_10 hX E w (lv_sub hl [0, 1, 2, 3, 4] rfl) hf
theorem c_X5_isWord (l : Launch) {D : va_G} {t : Nat → ClassId} {a : Nat → Nat} {X : State → Prop} (hX : XOk (aW 17 a) X) {N : Nat} {S : ST} {x1 : Int32} {x2 : Int32} {x3 : Int32} {x4 : Int32} {r : Int32} {S' : ST} (hf : f_X5_isWord N S x1 x2 x3 x4 = some (r, S')) : Co l yX5_isWord wsX5_isWord rmX5_isWord D (cM t a) (aW 17 a) (tyM t) X [.ref (a 0), .int x1, .int x2, .int x3, .int x4] S (Qi D (cM t a) (aW 17 a) (tyM t) r S') :=
  co_of (cc := cX5_isWord) (maxL := 8) (ret := (some .boolean)) (lv := [(0, .ref (a 0)), (1, .int x1), (2, .int x2), (3, .int x3), (4, .int x4)]) (by decide) rfl rfl (Nat.le_of_ble_eq_true rfl) rfl rfl (fun p e s m below meth c ls E hl w => k_X5_isWord_E hX E w hl hf)
-- X5_goOn
theorem in_X5_goOn_X5 : ∀ w ∈ u_ws RX5 TX5 28, w ∈ wsX5_goOn := by decide +kernel
theorem fl_X5_goOn_173 : Cond.fieldLink RX5 173 "NextDoorModel" "tokenAt" "I" ∈ wsX5_goOn := by decide +kernel
theorem fl_X5_goOn_179 : Cond.fieldLink RX5 179 "NextDoorModel" "tokenLong" "I" ∈ wsX5_goOn := by decide +kernel
theorem hd_X5_look : yX5_look.cls = RX5 ∧ yX5_look.cls ≠ "java/lang/invoke/MethodHandle" ∧ yX5_look.cls ≠ "java/lang/invoke/VarHandle" ∧ (parseMethodDescriptor yX5_look.desc).map (fun d => d.parameters.length) = some 1 := by decide +kernel
abbrev rmX5_goOn : Room := { frames := 3, cells := 0, slots := 0, locals := 69 }
set_option maxHeartbeats 4000000 in
set_option maxRecDepth 100000 in
theorem k_X5_goOn_E {p : Program} {l : Launch} {e : Env} {s : State} {m : MethodId} {args : Array Value} {below : List Frame} {meth : Method} {c : Code} {D : va_G} {t : Nat → ClassId} {a : Nat → Nat} {X : State → Prop} {N : Nat} {S' : ST} (hX : XOk (aW 17 a) X) (E : EN p s m args meth c cX5_goOn RX5 wsX5_goOn none 1) {S : ST} {H : Heap} {locs : List Loc} {ls : Array Slot} (w : Wd D (cM t a) (aW 17 a) (tyM t) X S s H locs) (hl : lv_has ls 1 [(0, .ref (a 0))]) (hf : f_X5_goOn N S = some S') : W p l e rmX5_goOn s m args below meth c H locs 0 0 (MQ below (Qv D (cM t a) (aW 17 a) (tyM t) S') args s 0 0 (aW 17 a)) (F0 m 0 ls []) := by
  obtain ⟨⟨hx, hb, hml, hown, hts⟩, hr, hlk⟩ := id E
  unfold f_X5_goOn at hf
  refine lv_aload_n hx hb dX5_goOn_0 rfl (lv_at hl 0 rfl) ?_
  refine lv_aload_n hx hb dX5_goOn_1 rfl (lv_at hl 0 rfl) ?_
  refine w_get E w in_X5_goOn_X5 0 (cM_at_0 t a S) rfl 9 (by decide) fl_X5_goOn_173 rfl rfl dX5_goOn_2 ?_
  refine lv_aload_n hx hb dX5_goOn_5 rfl (lv_at hl 0 rfl) ?_
  refine w_get E w in_X5_goOn_X5 0 (cM_at_0 t a S) rfl 10 (by decide) fl_X5_goOn_179 rfl rfl dX5_goOn_6 ?_
  refine lv_iadd hx hb dX5_goOn_9 ?_
  obtain ⟨S2, h1, hf⟩ := bd1_o hf
  refine w_callVv (As := [.int ((S 0 9) + (S 0 10))]) (rest := []) hX E w (c_X5_look l hX h1) (cwV 1 hts gX5_goOn_X5_look rfl rfl rfl hd_X5_look ⟨Nat.le_of_ble_eq_true rfl, Nat.le_of_ble_eq_true rfl⟩) (ci := 5) rfl (cM_at_0 t a S) rfl hl.1 rfl (Nat.le_of_ble_eq_true rfl) dX5_goOn_10 ⟨Nat.le_refl _, Nat.le_refl _⟩ (fun H locs w => ?_)
  exact w_retv E w hf dX5_goOn_13
theorem c_X5_goOn (l : Launch) {D : va_G} {t : Nat → ClassId} {a : Nat → Nat} {X : State → Prop} (hX : XOk (aW 17 a) X) {N : Nat} {S : ST} {S' : ST} (hf : f_X5_goOn N S = some S') : Co l yX5_goOn wsX5_goOn rmX5_goOn D (cM t a) (aW 17 a) (tyM t) X [.ref (a 0)] S (Qv D (cM t a) (aW 17 a) (tyM t) S') :=
  co_of (cc := cX5_goOn) (maxL := 1) (ret := none) (lv := [(0, .ref (a 0))]) (by decide) rfl rfl (Nat.le_of_ble_eq_true rfl) rfl rfl (fun p e s m below meth c ls E hl w => k_X5_goOn_E hX E w hl hf)
-- X5_takesNumber
theorem in_X5_takesNumber_X5 : ∀ w ∈ u_ws RX5 TX5 28, w ∈ wsX5_takesNumber := by decide +kernel
theorem fl_X5_takesNumber_182 : Cond.fieldLink RX5 182 "NextDoorModel" "token" "I" ∈ wsX5_takesNumber := by decide +kernel
theorem fl_X5_takesNumber_185 : Cond.fieldLink RX5 185 "NextDoorModel" "value" "I" ∈ wsX5_takesNumber := by decide +kernel
theorem fl_X5_takesNumber_197 : Cond.fieldLink RX5 197 "NextDoorModel" "taken" "I" ∈ wsX5_takesNumber := by decide +kernel
theorem hd_X5_goOn : yX5_goOn.cls = RX5 ∧ yX5_goOn.cls ≠ "java/lang/invoke/MethodHandle" ∧ yX5_goOn.cls ≠ "java/lang/invoke/VarHandle" ∧ (parseMethodDescriptor yX5_goOn.desc).map (fun d => d.parameters.length) = some 0 := by decide +kernel
abbrev rmX5_takesNumber : Room := { frames := 4, cells := 0, slots := 0, locals := 89 }
set_option maxHeartbeats 4000000 in
set_option maxRecDepth 100000 in
theorem k_X5_takesNumber_E {p : Program} {l : Launch} {e : Env} {s : State} {m : MethodId} {args : Array Value} {below : List Frame} {meth : Method} {c : Code} {D : va_G} {t : Nat → ClassId} {a : Nat → Nat} {X : State → Prop} {N : Nat} {r : Int32} {S' : ST} (hX : XOk (aW 17 a) X) (E : EN p s m args meth c cX5_takesNumber RX5 wsX5_takesNumber (some .boolean) 3) {S : ST} {x1 : Int32} {x2 : Int32} {H : Heap} {locs : List Loc} {ls : Array Slot} (w : Wd D (cM t a) (aW 17 a) (tyM t) X S s H locs) (hl : lv_has ls 3 [(0, .ref (a 0)), (1, .int x1), (2, .int x2)]) (hf : f_X5_takesNumber N S x1 x2 = some (r, S')) : W p l e rmX5_takesNumber s m args below meth c H locs 0 0 (MQ below (Qi D (cM t a) (aW 17 a) (tyM t) r S') args s 0 0 (aW 17 a)) (F0 m 0 ls []) := by
  obtain ⟨⟨hx, hb, hml, hown, hts⟩, hr, hlk⟩ := id E
  unfold f_X5_takesNumber at hf
  refine lv_aload_n hx hb dX5_takesNumber_0 rfl (lv_at hl 0 rfl) ?_
  refine w_get E w in_X5_takesNumber_X5 0 (cM_at_0 t a S) rfl 11 (by decide) fl_X5_takesNumber_182 rfl rfl dX5_takesNumber_1 ?_
  refine lv_iconst (v := 2) hx hb dX5_takesNumber_4 (by decide) ?_
  refine lv_icmp_ne (tgt := 23) hx hb dX5_takesNumber_5 (by decide) (fun h1 => ?_) (fun h1 => ?_)
  · replace hf := it_f h1 hf
    refine lv_iconst (v := 0) hx hb dX5_takesNumber_23 (by decide) ?_
    exact w_retz E w (by decide) hf dX5_takesNumber_24
  · replace hf := it_t h1 hf
    refine lv_aload_n hx hb dX5_takesNumber_8 rfl (lv_at hl 0 rfl) ?_
    refine w_get E w in_X5_takesNumber_X5 0 (cM_at_0 t a S) rfl 12 (by decide) fl_X5_takesNumber_185 rfl rfl dX5_takesNumber_9 ?_
    refine lv_i2l hx hb dX5_takesNumber_12 rfl ?_
    refine lv_iload_n hx hb dX5_takesNumber_13 rfl (lv_at hl 1 rfl) ?_
    refine lv_i2l hx hb dX5_takesNumber_14 rfl ?_
    refine lv_iload_n hx hb dX5_takesNumber_15 rfl (lv_at hl 2 rfl) ?_
    refine lv_i2l hx hb dX5_takesNumber_16 rfl ?_
    obtain ⟨r4, S3, h2, hf⟩ := bd2_o hf
    refine w_callSi (As := [.long (((S 0 12) : Int32).toInt64), .long ((x1 : Int32).toInt64), .long ((x2 : Int32).toInt64)]) (rest := []) hX E w (c_X5_in l hX h2) (va_cwS 3 hts gX5_takesNumber_X5_in rfl rfl rfl hd_X5_in ⟨Nat.le_of_ble_eq_true rfl, Nat.le_of_ble_eq_true rfl⟩) rfl hl.1 rfl (Nat.le_of_ble_eq_true rfl) dX5_takesNumber_17 ⟨Nat.le_refl _, Nat.le_refl _⟩ (fun H locs w => ?_)
    refine lv_if_ne (tgt := 25) hx hb dX5_takesNumber_20 (by decide) (fun h5 => ?_) (fun h5 => ?_)
    · replace hf := it_f h5 hf
      refine lv_aload_n hx hb dX5_takesNumber_25 rfl (lv_at hl 0 rfl) ?_
      refine lv_aload_n hx hb dX5_takesNumber_26 rfl (lv_at hl 0 rfl) ?_
      refine w_get E w in_X5_takesNumber_X5 0 (cM_at_0 t a S3) rfl 12 (by decide) fl_X5_takesNumber_185 rfl rfl dX5_takesNumber_27 ?_
      obtain ⟨S6, eS6, hf⟩ := nm_o hf
      refine w_put (S1 := S6) E w in_X5_takesNumber_X5 tyX5 tyX5_ok nmX5 0 (cM_at_0 t a S3) rfl 15 (by decide) fl_X5_takesNumber_197 rfl rfl rfl rfl rfl (Nat.le_of_ble_eq_true rfl) ((cM_set_0_15 t a S3 (S3 0 12)).trans (congrArg (cM t a) eS6.symm)) dX5_takesNumber_30 (fun H locs w => ?_)
      refine lv_aload_n hx hb dX5_takesNumber_33 rfl (lv_at hl 0 rfl) ?_
      obtain ⟨S8, h7, hf⟩ := bd1_o hf
      refine w_callVv (As := []) (rest := []) hX E w (c_X5_goOn l hX h7) (cwV 0 hts gX5_takesNumber_X5_goOn rfl rfl rfl hd_X5_goOn ⟨Nat.le_of_ble_eq_true rfl, Nat.le_of_ble_eq_true rfl⟩) (ci := 5) rfl (cM_at_0 t a S6) rfl hl.1 rfl (Nat.le_of_ble_eq_true rfl) dX5_takesNumber_34 ⟨Nat.le_refl _, Nat.le_refl _⟩ (fun H locs w => ?_)
      refine lv_iconst (v := 1) hx hb dX5_takesNumber_37 (by decide) ?_
      exact w_retz E w (by decide) hf dX5_takesNumber_38
    · replace hf := it_t h5 hf
      refine lv_iconst (v := 0) hx hb dX5_takesNumber_23 (by decide) ?_
      exact w_retz E w (by decide) hf dX5_takesNumber_24
theorem c_X5_takesNumber (l : Launch) {D : va_G} {t : Nat → ClassId} {a : Nat → Nat} {X : State → Prop} (hX : XOk (aW 17 a) X) {N : Nat} {S : ST} {x1 : Int32} {x2 : Int32} {r : Int32} {S' : ST} (hf : f_X5_takesNumber N S x1 x2 = some (r, S')) : Co l yX5_takesNumber wsX5_takesNumber rmX5_takesNumber D (cM t a) (aW 17 a) (tyM t) X [.ref (a 0), .int x1, .int x2] S (Qi D (cM t a) (aW 17 a) (tyM t) r S') :=
  co_of (cc := cX5_takesNumber) (maxL := 3) (ret := (some .boolean)) (lv := [(0, .ref (a 0)), (1, .int x1), (2, .int x2)]) (by decide) rfl rfl (Nat.le_of_ble_eq_true rfl) rfl rfl (fun p e s m below meth c ls E hl w => k_X5_takesNumber_E hX E w hl hf)
-- X5_readNext
theorem in_X5_readNext_X5 : ∀ w ∈ u_ws RX5 TX5 28, w ∈ wsX5_readNext := by decide +kernel
theorem fl_X5_readNext_203 : Cond.fieldLink RX5 203 "NextDoorModel" "readShops" "I" ∈ wsX5_readNext := by decide +kernel
theorem hd_X5_takesNumber : yX5_takesNumber.cls = RX5 ∧ yX5_takesNumber.cls ≠ "java/lang/invoke/MethodHandle" ∧ yX5_takesNumber.cls ≠ "java/lang/invoke/VarHandle" ∧ (parseMethodDescriptor yX5_takesNumber.desc).map (fun d => d.parameters.length) = some 2 := by decide +kernel
theorem fl_X5_readNext_197 : Cond.fieldLink RX5 197 "NextDoorModel" "taken" "I" ∈ wsX5_readNext := by decide +kernel
theorem fl_X5_readNext_182 : Cond.fieldLink RX5 182 "NextDoorModel" "token" "I" ∈ wsX5_readNext := by decide +kernel
theorem fl_X5_readNext_185 : Cond.fieldLink RX5 185 "NextDoorModel" "value" "I" ∈ wsX5_readNext := by decide +kernel
theorem fl_X5_readNext_23 : Cond.fieldLink RX5 23 "NextDoorModel" "reading" "[I" ∈ wsX5_readNext := by decide +kernel
abbrev rmX5_readNext : Room := { frames := 5, cells := 0, slots := 0, locals := 111 }
set_option maxHeartbeats 4000000 in
set_option maxRecDepth 100000 in
theorem k_X5_readNext_80 {p : Program} {l : Launch} {e : Env} {s : State} {m : MethodId} {args : Array Value} {below : List Frame} {meth : Method} {c : Code} {D : va_G} {t : Nat → ClassId} {a : Nat → Nat} {X : State → Prop} {N : Nat} {r : Int32} {S' : ST} (hX : XOk (aW 17 a) X) (E : EN p s m args meth c cX5_readNext RX5 wsX5_readNext (some .boolean) 2) {S : ST} {x1 : Int32} {H : Heap} {locs : List Loc} {ls : Array Slot} (w : Wd D (cM t a) (aW 17 a) (tyM t) X S s H locs) (hl : lv_has ls 2 [(0, .ref (a 0)), (1, .int x1)]) (hf : b_X5_readNext_80 N S x1 = some (r, S')) : W p l e rmX5_readNext s m args below meth c H locs 0 0 (MQ below (Qi D (cM t a) (aW 17 a) (tyM t) r S') args s 0 0 (aW 17 a)) (F0 m 80 ls []) := by
  obtain ⟨⟨hx, hb, hml, hown, hts⟩, hr, hlk⟩ := id E
  unfold b_X5_readNext_80 at hf
  refine lv_aload_n hx hb dX5_readNext_80 rfl (lv_at hl 0 rfl) ?_
  refine lv_iconst (v := 0) hx hb dX5_readNext_81 (by decide) ?_
  refine lv_aload_n hx hb dX5_readNext_82 rfl (lv_at hl 0 rfl) ?_
  refine w_get E w in_X5_readNext_X5 0 (cM_at_0 t a S) rfl 14 (by decide) fl_X5_readNext_203 rfl rfl dX5_readNext_83 ?_
  refine lv_iconst (v := 1) hx hb dX5_readNext_86 (by decide) ?_
  refine lv_isub hx hb dX5_readNext_87 ?_
  obtain ⟨r17, S16, h15, hf⟩ := bd2_o hf
  refine w_callVi (As := [.int 0, .int ((S 0 14) - 1)]) (rest := []) hX E w (c_X5_takesNumber l hX h15) (cwV 2 hts gX5_readNext_X5_takesNumber rfl rfl rfl hd_X5_takesNumber ⟨Nat.le_of_ble_eq_true rfl, Nat.le_of_ble_eq_true rfl⟩) (ci := 5) rfl (cM_at_0 t a S) rfl hl.1 rfl (Nat.le_of_ble_eq_true rfl) dX5_readNext_88 ⟨Nat.le_refl _, Nat.le_refl _⟩ (fun H locs w => ?_)
  refine lv_if_ne (tgt := 96) hx hb dX5_readNext_91 (by decide) (fun h18 => ?_) (fun h18 => ?_)
  · replace hf := it_f h18 hf
    refine lv_aload_n hx hb dX5_readNext_96 rfl (lv_at hl 0 rfl) ?_
    refine w_get E w in_X5_readNext_X5 0 (cM_at_0 t a S16) rfl 13 (by decide) fl_X5_readNext_23 rfl rfl dX5_readNext_97 ?_
    refine lv_bipush (v := 24) hx hb dX5_readNext_100 (by decide) ?_
    refine lv_iload_n hx hb dX5_readNext_102 rfl (lv_at hl 1 rfl) ?_
    refine lv_iadd hx hb dX5_readNext_103 ?_
    refine lv_dup2_11 hx hb dX5_readNext_104 rfl rfl ?_
    obtain ⟨h19, hf⟩ := it_n hf
    refine w_ald E w 5 0 (cM_at_5 t a S16) rfl h19 rfl dX5_readNext_105 ?_
    refine lv_iconst (v := 1) hx hb dX5_readNext_106 (by decide) ?_
    refine lv_aload_n hx hb dX5_readNext_107 rfl (lv_at hl 0 rfl) ?_
    refine w_get E w in_X5_readNext_X5 0 (cM_at_0 t a S16) rfl 15 (by decide) fl_X5_readNext_197 rfl rfl dX5_readNext_108 ?_
    refine lv_ishl hx hb dX5_readNext_111 ?_
    refine lv_ior hx hb dX5_readNext_112 ?_
    obtain ⟨h21, hf⟩ := it_n hf
    obtain ⟨S20, eS20, hf⟩ := nm_o hf
    refine w_ast (S1 := S20) E w 5 0 (cM_at_5 t a S16) rfl h21 rfl ((cM_st_5 t a S16 ((24 + x1).toNatClampNeg) ((S16 5 (24 + x1).toNatClampNeg) ||| (1 <<< ((S16 0 15) &&& 31)))).trans (congrArg (cM t a) eS20.symm)) dX5_readNext_113 (fun H locs w => ?_)
    refine lv_aload_n hx hb dX5_readNext_114 rfl (lv_at hl 0 rfl) ?_
    refine w_get E w in_X5_readNext_X5 0 (cM_at_0 t a S20) rfl 13 (by decide) fl_X5_readNext_23 rfl rfl dX5_readNext_115 ?_
    refine lv_bipush (v := 24) hx hb dX5_readNext_118 (by decide) ?_
    refine lv_aload_n hx hb dX5_readNext_120 rfl (lv_at hl 0 rfl) ?_
    refine w_get E w in_X5_readNext_X5 0 (cM_at_0 t a S20) rfl 15 (by decide) fl_X5_readNext_197 rfl rfl dX5_readNext_121 ?_
    refine lv_iadd hx hb dX5_readNext_124 ?_
    refine lv_dup2_11 hx hb dX5_readNext_125 rfl rfl ?_
    obtain ⟨h22, hf⟩ := it_n hf
    refine w_ald E w 5 0 (cM_at_5 t a S20) rfl h22 rfl dX5_readNext_126 ?_
    refine lv_iconst (v := 1) hx hb dX5_readNext_127 (by decide) ?_
    refine lv_iload_n hx hb dX5_readNext_128 rfl (lv_at hl 1 rfl) ?_
    refine lv_ishl hx hb dX5_readNext_129 ?_
    refine lv_ior hx hb dX5_readNext_130 ?_
    obtain ⟨h24, hf⟩ := it_n hf
    obtain ⟨S23, eS23, hf⟩ := nm_o hf
    refine w_ast (S1 := S23) E w 5 0 (cM_at_5 t a S20) rfl h24 rfl ((cM_st_5 t a S20 ((24 + (S20 0 15)).toNatClampNeg) ((S20 5 (24 + (S20 0 15)).toNatClampNeg) ||| (1 <<< (x1 &&& 31)))).trans (congrArg (cM t a) eS23.symm)) dX5_readNext_131 (fun H locs w => ?_)
    refine lv_iconst (v := 1) hx hb dX5_readNext_132 (by decide) ?_
    exact w_retz E w (by decide) hf dX5_readNext_133
  · replace hf := it_t h18 hf
    refine lv_iconst (v := 0) hx hb dX5_readNext_94 (by decide) ?_
    exact w_retz E w (by decide) hf dX5_readNext_95
set_option maxHeartbeats 4000000 in
set_option maxRecDepth 100000 in
theorem k_X5_readNext_E {p : Program} {l : Launch} {e : Env} {s : State} {m : MethodId} {args : Array Value} {below : List Frame} {meth : Method} {c : Code} {D : va_G} {t : Nat → ClassId} {a : Nat → Nat} {X : State → Prop} {N : Nat} {r : Int32} {S' : ST} (hX : XOk (aW 17 a) X) (E : EN p s m args meth c cX5_readNext RX5 wsX5_readNext (some .boolean) 2) {S : ST} {H : Heap} {locs : List Loc} {ls : Array Slot} (w : Wd D (cM t a) (aW 17 a) (tyM t) X S s H locs) (hl : lv_has ls 2 [(0, .ref (a 0))]) (hf : f_X5_readNext N S = some (r, S')) : W p l e rmX5_readNext s m args below meth c H locs 0 0 (MQ below (Qi D (cM t a) (aW 17 a) (tyM t) r S') args s 0 0 (aW 17 a)) (F0 m 0 ls []) := by
  obtain ⟨⟨hx, hb, hml, hown, hts⟩, hr, hlk⟩ := id E
  unfold f_X5_readNext at hf
  refine lv_aload_n hx hb dX5_readNext_0 rfl (lv_at hl 0 rfl) ?_
  obtain ⟨S2, h1, hf⟩ := bd1_o hf
  refine w_callVv (As := []) (rest := []) hX E w (c_X5_goOn l hX h1) (cwV 0 hts gX5_readNext_X5_goOn rfl rfl rfl hd_X5_goOn ⟨Nat.le_of_ble_eq_true rfl, Nat.le_of_ble_eq_true rfl⟩) (ci := 5) rfl (cM_at_0 t a S) rfl hl.1 rfl (Nat.le_of_ble_eq_true rfl) dX5_readNext_1 ⟨Nat.le_refl _, Nat.le_refl _⟩ (fun H locs w => ?_)
  refine lv_aload_n hx hb dX5_readNext_4 rfl (lv_at hl 0 rfl) ?_
  refine lv_iconst (v := 0) hx hb dX5_readNext_5 (by decide) ?_
  refine lv_aload_n hx hb dX5_readNext_6 rfl (lv_at hl 0 rfl) ?_
  refine w_get E w in_X5_readNext_X5 0 (cM_at_0 t a S2) rfl 14 (by decide) fl_X5_readNext_203 rfl rfl dX5_readNext_7 ?_
  refine lv_iconst (v := 1) hx hb dX5_readNext_10 (by decide) ?_
  refine lv_isub hx hb dX5_readNext_11 ?_
  obtain ⟨r5, S4, h3, hf⟩ := bd2_o hf
  refine w_callVi (As := [.int 0, .int ((S2 0 14) - 1)]) (rest := []) hX E w (c_X5_takesNumber l hX h3) (cwV 2 hts gX5_readNext_X5_takesNumber rfl rfl rfl hd_X5_takesNumber ⟨Nat.le_of_ble_eq_true rfl, Nat.le_of_ble_eq_true rfl⟩) (ci := 5) rfl (cM_at_0 t a S2) rfl hl.1 rfl (Nat.le_of_ble_eq_true rfl) dX5_readNext_12 ⟨Nat.le_refl _, Nat.le_refl _⟩ (fun H locs w => ?_)
  refine lv_if_ne (tgt := 20) hx hb dX5_readNext_15 (by decide) (fun h6 => ?_) (fun h6 => ?_)
  · replace hf := it_f h6 hf
    refine lv_aload_n hx hb dX5_readNext_20 rfl (lv_at hl 0 rfl) ?_
    refine w_get E w in_X5_readNext_X5 0 (cM_at_0 t a S4) rfl 15 (by decide) fl_X5_readNext_197 rfl rfl dX5_readNext_21 ?_
    refine lv_istore_n (lv' := [(1, .int (S4 0 15)), (0, .ref (a 0))]) hx hb dX5_readNext_24 rfl hl (by decide) rfl (fun ls hl => ?_)
    refine lv_aload_n hx hb dX5_readNext_25 rfl (lv_at hl 1 rfl) ?_
    refine w_get E w in_X5_readNext_X5 0 (cM_at_0 t a S4) rfl 11 (by decide) fl_X5_readNext_182 rfl rfl dX5_readNext_26 ?_
    refine lv_iconst (v := 2) hx hb dX5_readNext_29 (by decide) ?_
    refine lv_icmp_ne (tgt := 80) hx hb dX5_readNext_30 (by decide) (fun h7 => ?_) (fun h7 => ?_)
    · replace hf := it_f h7 hf
      exact k_X5_readNext_80 hX E w (lv_sub hl [1, 0] rfl) hf
    · replace hf := it_t h7 hf
      refine lv_aload_n hx hb dX5_readNext_33 rfl (lv_at hl 1 rfl) ?_
      refine w_get E w in_X5_readNext_X5 0 (cM_at_0 t a S4) rfl 12 (by decide) fl_X5_readNext_185 rfl rfl dX5_readNext_34 ?_
      refine lv_i2l hx hb dX5_readNext_37 rfl ?_
      refine lv_lconst (v := 0) hx hb dX5_readNext_38 (by decide) ?_
      refine lv_aload_n hx hb dX5_readNext_39 rfl (lv_at hl 1 rfl) ?_
      refine w_get E w in_X5_readNext_X5 0 (cM_at_0 t a S4) rfl 14 (by decide) fl_X5_readNext_203 rfl rfl dX5_readNext_40 ?_
      refine lv_iconst (v := 1) hx hb dX5_readNext_43 (by decide) ?_
      refine lv_isub hx hb dX5_readNext_44 ?_
      refine lv_i2l hx hb dX5_readNext_45 rfl ?_
      obtain ⟨r10, S9, h8, hf⟩ := bd2_o hf
      refine w_callSi (As := [.long (((S4 0 12) : Int32).toInt64), .long 0, .long ((((S4 0 14) - 1) : Int32).toInt64)]) (rest := []) hX E w (c_X5_in l hX h8) (va_cwS 3 hts gX5_readNext_X5_in rfl rfl rfl hd_X5_in ⟨Nat.le_of_ble_eq_true rfl, Nat.le_of_ble_eq_true rfl⟩) rfl hl.1 rfl (Nat.le_of_ble_eq_true rfl) dX5_readNext_46 ⟨Nat.le_refl _, Nat.le_refl _⟩ (fun H locs w => ?_)
      refine lv_if_eq (tgt := 80) hx hb dX5_readNext_49 (by decide) (fun h11 => ?_) (fun h11 => ?_)
      · replace hf := it_t h11 hf
        exact k_X5_readNext_80 hX E w (lv_sub hl [1, 0] rfl) hf
      · replace hf := it_f h11 hf
        refine lv_aload_n hx hb dX5_readNext_52 rfl (lv_at hl 1 rfl) ?_
        refine w_get E w in_X5_readNext_X5 0 (cM_at_0 t a S9) rfl 12 (by decide) fl_X5_readNext_185 rfl rfl dX5_readNext_53 ?_
        refine lv_iload_n hx hb dX5_readNext_56 rfl (lv_at hl 0 rfl) ?_
        refine lv_icmp_eq (tgt := 94) hx hb dX5_readNext_57 (by decide) (fun h12 => ?_) (fun h12 => ?_)
        · replace hf := it_t h12 hf
          refine lv_iconst (v := 0) hx hb dX5_readNext_94 (by decide) ?_
          exact w_retz E w (by decide) hf dX5_readNext_95
        · replace hf := it_f h12 hf
          refine lv_aload_n hx hb dX5_readNext_60 rfl (lv_at hl 1 rfl) ?_
          refine w_get E w in_X5_readNext_X5 0 (cM_at_0 t a S9) rfl 13 (by decide) fl_X5_readNext_23 rfl rfl dX5_readNext_61 ?_
          refine lv_bipush (v := 24) hx hb dX5_readNext_64 (by decide) ?_
          refine lv_iload_n hx hb dX5_readNext_66 rfl (lv_at hl 0 rfl) ?_
          refine lv_iadd hx hb dX5_readNext_67 ?_
          obtain ⟨h13, hf⟩ := it_n hf
          refine w_ald E w 5 0 (cM_at_5 t a S9) rfl h13 rfl dX5_readNext_68 ?_
          refine lv_aload_n hx hb dX5_readNext_69 rfl (lv_at hl 1 rfl) ?_
          refine w_get E w in_X5_readNext_X5 0 (cM_at_0 t a S9) rfl 12 (by decide) fl_X5_readNext_185 rfl rfl dX5_readNext_70 ?_
          refine lv_ishr hx hb dX5_readNext_73 ?_
          refine lv_iconst (v := 1) hx hb dX5_readNext_74 (by decide) ?_
          refine lv_iand hx hb dX5_readNext_75 ?_
          refine lv_iconst (v := 1) hx hb dX5_readNext_76 (by decide) ?_
          refine lv_icmp_eq (tgt := 94) hx hb dX5_readNext_77 (by decide) (fun h14 => ?_) (fun h14 => ?_)
          · replace hf := it_t h14 hf
            refine lv_iconst (v := 0) hx hb dX5_readNext_94 (by decide) ?_
            exact w_retz E w (by decide) hf dX5_readNext_95
          · replace hf := it_f h14 hf
            exact k_X5_readNext_80 hX E w (lv_sub hl [1, 0] rfl) hf
  · replace hf := it_t h6 hf
    refine lv_iconst (v := 0) hx hb dX5_readNext_18 (by decide) ?_
    exact w_retz E w (by decide) hf dX5_readNext_19
theorem c_X5_readNext (l : Launch) {D : va_G} {t : Nat → ClassId} {a : Nat → Nat} {X : State → Prop} (hX : XOk (aW 17 a) X) {N : Nat} {S : ST} {r : Int32} {S' : ST} (hf : f_X5_readNext N S = some (r, S')) : Co l yX5_readNext wsX5_readNext rmX5_readNext D (cM t a) (aW 17 a) (tyM t) X [.ref (a 0)] S (Qi D (cM t a) (aW 17 a) (tyM t) r S') :=
  co_of (cc := cX5_readNext) (maxL := 2) (ret := (some .boolean)) (lv := [(0, .ref (a 0))]) (by decide) rfl rfl (Nat.le_of_ble_eq_true rfl) rfl rfl (fun p e s m below meth c ls E hl w => k_X5_readNext_E hX E w hl hf)
-- X5_readShop
theorem in_X5_readShop_X5 : ∀ w ∈ u_ws RX5 TX5 28, w ∈ wsX5_readShop := by decide +kernel
theorem fl_X5_readShop_203 : Cond.fieldLink RX5 203 "NextDoorModel" "readShops" "I" ∈ wsX5_readShop := by decide +kernel
theorem fl_X5_readShop_23 : Cond.fieldLink RX5 23 "NextDoorModel" "reading" "[I" ∈ wsX5_readShop := by decide +kernel
theorem fl_X5_readShop_197 : Cond.fieldLink RX5 197 "NextDoorModel" "taken" "I" ∈ wsX5_readShop := by decide +kernel
abbrev rmX5_readShop : Room := { frames := 5, cells := 0, slots := 0, locals := 111 }
set_option maxHeartbeats 4000000 in
set_option maxRecDepth 100000 in
theorem k_X5_readShop_99 {p : Program} {l : Launch} {e : Env} {s : State} {m : MethodId} {args : Array Value} {below : List Frame} {meth : Method} {c : Code} {D : va_G} {t : Nat → ClassId} {a : Nat → Nat} {X : State → Prop} {N : Nat} {r : Int32} {S' : ST} (hX : XOk (aW 17 a) X) (E : EN p s m args meth c cX5_readShop RX5 wsX5_readShop (some .boolean) 3) {S : ST} {x1 : Int32} {H : Heap} {locs : List Loc} {ls : Array Slot} (w : Wd D (cM t a) (aW 17 a) (tyM t) X S s H locs) (hl : lv_has ls 3 [(0, .ref (a 0)), (1, .int x1)]) (hf : b_X5_readShop_99 N S x1 = some (r, S')) : W p l e rmX5_readShop s m args below meth c H locs 0 0 (MQ below (Qi D (cM t a) (aW 17 a) (tyM t) r S') args s 0 0 (aW 17 a)) (F0 m 99 ls []) := by
  obtain ⟨⟨hx, hb, hml, hown, hts⟩, hr, hlk⟩ := id E
  unfold b_X5_readShop_99 at hf
  refine lv_aload_n hx hb dX5_readShop_99 rfl (lv_at hl 0 rfl) ?_
  refine w_get E w in_X5_readShop_X5 0 (cM_at_0 t a S) rfl 13 (by decide) fl_X5_readShop_23 rfl rfl dX5_readShop_100 ?_
  refine lv_bipush (v := 24) hx hb dX5_readShop_103 (by decide) ?_
  refine lv_aload_n hx hb dX5_readShop_105 rfl (lv_at hl 0 rfl) ?_
  refine w_get E w in_X5_readShop_X5 0 (cM_at_0 t a S) rfl 14 (by decide) fl_X5_readShop_203 rfl rfl dX5_readShop_106 ?_
  refine lv_iadd hx hb dX5_readShop_109 ?_
  refine lv_iconst (v := 0) hx hb dX5_readShop_110 (by decide) ?_
  obtain ⟨h16, hf⟩ := it_n hf
  obtain ⟨S15, eS15, hf⟩ := nm_o hf
  refine w_ast (S1 := S15) E w 5 0 (cM_at_5 t a S) rfl h16 rfl ((cM_st_5 t a S ((24 + (S 0 14)).toNatClampNeg) 0).trans (congrArg (cM t a) eS15.symm)) dX5_readShop_111 (fun H locs w => ?_)
  refine lv_aload_n hx hb dX5_readShop_112 rfl (lv_at hl 0 rfl) ?_
  refine lv_dup hx hb dX5_readShop_113 rfl ?_
  refine w_get E w in_X5_readShop_X5 0 (cM_at_0 t a S15) rfl 14 (by decide) fl_X5_readShop_203 rfl rfl dX5_readShop_114 ?_
  refine lv_iconst (v := 1) hx hb dX5_readShop_117 (by decide) ?_
  refine lv_iadd hx hb dX5_readShop_118 ?_
  obtain ⟨S17, eS17, hf⟩ := nm_o hf
  refine w_put (S1 := S17) E w in_X5_readShop_X5 tyX5 tyX5_ok nmX5 0 (cM_at_0 t a S15) rfl 14 (by decide) fl_X5_readShop_203 rfl rfl rfl rfl rfl (Nat.le_of_ble_eq_true rfl) ((cM_set_0_14 t a S15 ((S15 0 14) + 1)).trans (congrArg (cM t a) eS17.symm)) dX5_readShop_119 (fun H locs w => ?_)
  refine lv_iload_n hx hb dX5_readShop_122 rfl (lv_at hl 1 rfl) ?_
  obtain ⟨h18, hf⟩ := it_s hf
  exact w_retz E w h18 hf dX5_readShop_123
set_option maxHeartbeats 4000000 in
set_option maxRecDepth 100000 in
theorem k_X5_readShop_70 {p : Program} {l : Launch} {e : Env} {s : State} {m : MethodId} {args : Array Value} {below : List Frame} {meth : Method} {c : Code} {D : va_G} {t : Nat → ClassId} {a : Nat → Nat} {X : State → Prop} {N : Nat} {r : Int32} {S' : ST} (hX : XOk (aW 17 a) X) (E : EN p s m args meth c cX5_readShop RX5 wsX5_readShop (some .boolean) 3) {k19 : ST → Int32 → Int32 → Option (Int32 × ST)} (hk19 : ∀ {S : ST} {x1 : Int32} {x2 : Int32} {H : Heap} {locs : List Loc} {ls : Array Slot}, Wd D (cM t a) (aW 17 a) (tyM t) X S s H locs → lv_has ls 3 [(0, .ref (a 0)), (1, .int x1), (2, .int x2)] → k19 S x1 x2 = some (r, S') → W p l e rmX5_readShop s m args below meth c H locs 0 0 (MQ below (Qi D (cM t a) (aW 17 a) (tyM t) r S') args s 0 0 (aW 17 a)) (F0 m 19 ls [])) {S : ST} {x2 : Int32} {s1 : Int32} {s2 : Int32} {H : Heap} {locs : List Loc} {ls : Array Slot} (w : Wd D (cM t a) (aW 17 a) (tyM t) X S s H locs) (hl : lv_has ls 3 [(0, .ref (a 0)), (2, .int x2)]) (hf : b_X5_readShop_70 N k19 S x2 s1 s2 = some (r, S')) : W p l e rmX5_readShop s m args below meth c H locs 0 0 (MQ below (Qi D (cM t a) (aW 17 a) (tyM t) r S') args s 0 0 (aW 17 a)) (F0 m 70 ls [.int s2, .int s1, .ref (a 0)]) := by
  obtain ⟨⟨hx, hb, hml, hown, hts⟩, hr, hlk⟩ := id E
  unfold b_X5_readShop_70 at hf
  obtain ⟨r12, S11, h10, hf⟩ := bd2_o hf
  refine w_callVi (As := [.int s1, .int s2]) (rest := []) hX E w (c_X5_takesNumber l hX h10) (cwV 2 hts gX5_readShop_X5_takesNumber rfl rfl rfl hd_X5_takesNumber ⟨Nat.le_of_ble_eq_true rfl, Nat.le_of_ble_eq_true rfl⟩) (ci := 5) rfl (cM_at_0 t a S) rfl hl.1 rfl (Nat.le_of_ble_eq_true rfl) dX5_readShop_70 ⟨Nat.le_refl _, Nat.le_refl _⟩ (fun H locs w => ?_)
  refine lv_istore_n (lv' := [(1, .int r12), (0, .ref (a 0)), (2, .int x2)]) hx hb dX5_readShop_73 rfl hl (by decide) rfl (fun ls hl => ?_)
  refine lv_aload_n hx hb dX5_readShop_74 rfl (lv_at hl 1 rfl) ?_
  refine w_get E w in_X5_readShop_X5 0 (cM_at_0 t a S11) rfl 13 (by decide) fl_X5_readShop_23 rfl rfl dX5_readShop_75 ?_
  refine lv_iconst (v := 0) hx hb dX5_readShop_78 (by decide) ?_
  refine lv_iconst (v := 4) hx hb dX5_readShop_79 (by decide) ?_
  refine lv_aload_n hx hb dX5_readShop_80 rfl (lv_at hl 1 rfl) ?_
  refine w_get E w in_X5_readShop_X5 0 (cM_at_0 t a S11) rfl 14 (by decide) fl_X5_readShop_203 rfl rfl dX5_readShop_81 ?_
  refine lv_imul hx hb dX5_readShop_84 ?_
  refine lv_iadd hx hb dX5_readShop_85 ?_
  refine lv_iload_n hx hb dX5_readShop_86 rfl (lv_at hl 2 rfl) ?_
  refine lv_iadd hx hb dX5_readShop_87 ?_
  refine lv_aload_n hx hb dX5_readShop_88 rfl (lv_at hl 1 rfl) ?_
  refine w_get E w in_X5_readShop_X5 0 (cM_at_0 t a S11) rfl 15 (by decide) fl_X5_readShop_197 rfl rfl dX5_readShop_89 ?_
  obtain ⟨h14, hf⟩ := it_n hf
  obtain ⟨S13, eS13, hf⟩ := nm_o hf
  refine w_ast (S1 := S13) E w 5 0 (cM_at_5 t a S11) rfl h14 rfl ((cM_st_5 t a S11 (((0 + (4 * (S11 0 14))) + x2).toNatClampNeg) (S11 0 15)).trans (congrArg (cM t a) eS13.symm)) dX5_readShop_92 (fun H locs w => ?_)
  refine lv_iinc (v := x2 + 1) (lv' := [(2, .int (x2 + 1)), (1, .int r12), (0, .ref (a 0))]) hx hb dX5_readShop_93 hl (k := 2) rfl rfl (by decide) rfl (fun ls hl => ?_)
  refine lv_goto (tgt := 19) hx hb dX5_readShop_96 (by decide) ?_
  exact hk19 w (lv_sub hl [2, 1, 0] rfl) hf
set_option maxHeartbeats 4000000 in
set_option maxRecDepth 100000 in
theorem k_X5_readShop_39 {p : Program} {l : Launch} {e : Env} {s : State} {m : MethodId} {args : Array Value} {below : List Frame} {meth : Method} {c : Code} {D : va_G} {t : Nat → ClassId} {a : Nat → Nat} {X : State → Prop} {N : Nat} {r : Int32} {S' : ST} (hX : XOk (aW 17 a) X) (E : EN p s m args meth c cX5_readShop RX5 wsX5_readShop (some .boolean) 3) {k19 : ST → Int32 → Int32 → Option (Int32 × ST)} (hk19 : ∀ {S : ST} {x1 : Int32} {x2 : Int32} {H : Heap} {locs : List Loc} {ls : Array Slot}, Wd D (cM t a) (aW 17 a) (tyM t) X S s H locs → lv_has ls 3 [(0, .ref (a 0)), (1, .int x1), (2, .int x2)] → k19 S x1 x2 = some (r, S') → W p l e rmX5_readShop s m args below meth c H locs 0 0 (MQ below (Qi D (cM t a) (aW 17 a) (tyM t) r S') args s 0 0 (aW 17 a)) (F0 m 19 ls [])) {S : ST} {x2 : Int32} {s1 : Int32} {H : Heap} {locs : List Loc} {ls : Array Slot} (w : Wd D (cM t a) (aW 17 a) (tyM t) X S s H locs) (hl : lv_has ls 3 [(0, .ref (a 0)), (2, .int x2)]) (hf : b_X5_readShop_39 N k19 S x2 s1 = some (r, S')) : W p l e rmX5_readShop s m args below meth c H locs 0 0 (MQ below (Qi D (cM t a) (aW 17 a) (tyM t) r S') args s 0 0 (aW 17 a)) (F0 m 39 ls [.int s1, .ref (a 0)]) := by
  obtain ⟨⟨hx, hb, hml, hown, hts⟩, hr, hlk⟩ := id E
  unfold b_X5_readShop_39 at hf
  refine lv_iload_n hx hb dX5_readShop_39 rfl (lv_at hl 1 rfl) ?_
  refine lv_if_ne (tgt := 47) hx hb dX5_readShop_40 (by decide) (fun h7 => ?_) (fun h7 => ?_)
  · replace hf := it_f h7 hf
    refine lv_iload_n hx hb dX5_readShop_47 rfl (lv_at hl 1 rfl) ?_
    refine lv_iconst (v := 1) hx hb dX5_readShop_48 (by decide) ?_
    refine lv_icmp_ne (tgt := 57) hx hb dX5_readShop_49 (by decide) (fun h8 => ?_) (fun h8 => ?_)
    · replace hf := it_f h8 hf
      refine lv_iload_n hx hb dX5_readShop_57 rfl (lv_at hl 1 rfl) ?_
      refine lv_iconst (v := 2) hx hb dX5_readShop_58 (by decide) ?_
      refine lv_icmp_ne (tgt := 67) hx hb dX5_readShop_59 (by decide) (fun h9 => ?_) (fun h9 => ?_)
      · replace hf := it_f h9 hf
        refine lv_sipush (v := 240) hx hb dX5_readShop_67 (by decide) ?_
        exact k_X5_readShop_70 hX E hk19 w (lv_sub hl [0, 1] rfl) hf
      · replace hf := it_t h9 hf
        refine lv_bipush (v := 30) hx hb dX5_readShop_62 (by decide) ?_
        refine lv_goto (tgt := 70) hx hb dX5_readShop_64 (by decide) ?_
        exact k_X5_readShop_70 hX E hk19 w (lv_sub hl [0, 1] rfl) hf
    · replace hf := it_t h8 hf
      refine lv_bipush (v := 20) hx hb dX5_readShop_52 (by decide) ?_
      refine lv_goto (tgt := 70) hx hb dX5_readShop_54 (by decide) ?_
      exact k_X5_readShop_70 hX E hk19 w (lv_sub hl [0, 1] rfl) hf
  · replace hf := it_t h7 hf
    refine lv_iconst (v := 5) hx hb dX5_readShop_43 (by decide) ?_
    refine lv_goto (tgt := 70) hx hb dX5_readShop_44 (by decide) ?_
    exact k_X5_readShop_70 hX E hk19 w (lv_sub hl [0, 1] rfl) hf
set_option maxHeartbeats 4000000 in
set_option maxRecDepth 100000 in
theorem k_X5_readShop_19 {p : Program} {l : Launch} {e : Env} {s : State} {m : MethodId} {args : Array Value} {below : List Frame} {meth : Method} {c : Code} {D : va_G} {t : Nat → ClassId} {a : Nat → Nat} {X : State → Prop} {N : Nat} {r : Int32} {S' : ST} (hX : XOk (aW 17 a) X) (E : EN p s m args meth c cX5_readShop RX5 wsX5_readShop (some .boolean) 3) : ∀ (n : Nat) {S : ST} {x1 : Int32} {x2 : Int32} {H : Heap} {locs : List Loc} {ls : Array Slot}, Wd D (cM t a) (aW 17 a) (tyM t) X S s H locs → lv_has ls 3 [(0, .ref (a 0)), (1, .int x1), (2, .int x2)] → b_X5_readShop_19 N n S x1 x2 = some (r, S') → W p l e rmX5_readShop s m args below meth c H locs 0 0 (MQ below (Qi D (cM t a) (aW 17 a) (tyM t) r S') args s 0 0 (aW 17 a)) (F0 m 19 ls []) := by
  obtain ⟨⟨hx, hb, hml, hown, hts⟩, hr, hlk⟩ := id E
  intro n
  induction n with
  | zero => intro S x1 x2 H locs ls w hl hf; cases hf
  | succ n ih =>
    intro S x1 x2 H locs ls w hl hf
    unfold b_X5_readShop_19 at hf
    refine lv_iload_n hx hb dX5_readShop_19 rfl (lv_at hl 2 rfl) ?_
    refine lv_iconst (v := 4) hx hb dX5_readShop_20 (by decide) ?_
    refine lv_icmp_ge (tgt := 99) hx hb dX5_readShop_21 (by decide) (fun h4 => ?_) (fun h4 => ?_)
    · replace hf := it_t h4 hf
      exact k_X5_readShop_99 hX E w (lv_sub hl [0, 1] rfl) hf
    · replace hf := it_f h4 hf
      refine lv_iload_n hx hb dX5_readShop_24 rfl (lv_at hl 1 rfl) ?_
      refine lv_if_eq (tgt := 99) hx hb dX5_readShop_25 (by decide) (fun h5 => ?_) (fun h5 => ?_)
      · replace hf := it_t h5 hf
        exact k_X5_readShop_99 hX E w (lv_sub hl [0, 1] rfl) hf
      · replace hf := it_f h5 hf
        refine lv_aload_n hx hb dX5_readShop_28 rfl (lv_at hl 0 rfl) ?_
        refine lv_iload_n hx hb dX5_readShop_29 rfl (lv_at hl 2 rfl) ?_
        refine lv_iconst (v := 2) hx hb dX5_readShop_30 (by decide) ?_
        refine lv_icmp_ne (tgt := 38) hx hb dX5_readShop_31 (by decide) (fun h6 => ?_) (fun h6 => ?_)
        · replace hf := it_f h6 hf
          refine lv_iconst (v := 0) hx hb dX5_readShop_38 (by decide) ?_
          exact k_X5_readShop_39 hX E (fun w hl hf => ih w hl hf) w (lv_sub hl [0, 2] rfl) hf
        · replace hf := it_t h6 hf
          refine lv_iconst (v := 1) hx hb dX5_readShop_34 (by decide) ?_
          refine lv_goto (tgt := 39) hx hb dX5_readShop_35 (by decide) ?_
          exact k_X5_readShop_39 hX E (fun w hl hf => ih w hl hf) w (lv_sub hl [0, 2] rfl) hf
set_option maxHeartbeats 4000000 in
set_option maxRecDepth 100000 in
theorem k_X5_readShop_E {p : Program} {l : Launch} {e : Env} {s : State} {m : MethodId} {args : Array Value} {below : List Frame} {meth : Method} {c : Code} {D : va_G} {t : Nat → ClassId} {a : Nat → Nat} {X : State → Prop} {N : Nat} {r : Int32} {S' : ST} (hX : XOk (aW 17 a) X) (E : EN p s m args meth c cX5_readShop RX5 wsX5_readShop (some .boolean) 3) {S : ST} {H : Heap} {locs : List Loc} {ls : Array Slot} (w : Wd D (cM t a) (aW 17 a) (tyM t) X S s H locs) (hl : lv_has ls 3 [(0, .ref (a 0))]) (hf : f_X5_readShop N S = some (r, S')) : W p l e rmX5_readShop s m args below meth c H locs 0 0 (MQ below (Qi D (cM t a) (aW 17 a) (tyM t) r S') args s 0 0 (aW 17 a)) (F0 m 0 ls []) := by
  obtain ⟨⟨hx, hb, hml, hown, hts⟩, hr, hlk⟩ := id E
  unfold f_X5_readShop at hf
  refine lv_aload_n hx hb dX5_readShop_0 rfl (lv_at hl 0 rfl) ?_
  refine w_get E w in_X5_readShop_X5 0 (cM_at_0 t a S) rfl 14 (by decide) fl_X5_readShop_203 rfl rfl dX5_readShop_1 ?_
  refine lv_bipush (v := 6) hx hb dX5_readShop_4 (by decide) ?_
  refine lv_icmp_ne (tgt := 11) hx hb dX5_readShop_6 (by decide) (fun h1 => ?_) (fun h1 => ?_)
  · replace hf := it_f h1 hf
    refine lv_aload_n hx hb dX5_readShop_11 rfl (lv_at hl 0 rfl) ?_
    obtain ⟨S3, h2, hf⟩ := bd1_o hf
    refine w_callVv (As := []) (rest := []) hX E w (c_X5_goOn l hX h2) (cwV 0 hts gX5_readShop_X5_goOn rfl rfl rfl hd_X5_goOn ⟨Nat.le_of_ble_eq_true rfl, Nat.le_of_ble_eq_true rfl⟩) (ci := 5) rfl (cM_at_0 t a S) rfl hl.1 rfl (Nat.le_of_ble_eq_true rfl) dX5_readShop_12 ⟨Nat.le_refl _, Nat.le_refl _⟩ (fun H locs w => ?_)
    refine lv_iconst (v := 1) hx hb dX5_readShop_15 (by decide) ?_
    refine lv_istore_n (lv' := [(1, .int 1), (0, .ref (a 0))]) hx hb dX5_readShop_16 rfl hl (by decide) rfl (fun ls hl => ?_)
    refine lv_iconst (v := 0) hx hb dX5_readShop_17 (by decide) ?_
    refine lv_istore_n (lv' := [(2, .int 0), (1, .int 1), (0, .ref (a 0))]) hx hb dX5_readShop_18 rfl hl (by decide) rfl (fun ls hl => ?_)
    exact k_X5_readShop_19 hX E N w (lv_sub hl [2, 1, 0] rfl) hf
  · replace hf := it_t h1 hf
    refine lv_iconst (v := 0) hx hb dX5_readShop_9 (by decide) ?_
    exact w_retz E w (by decide) hf dX5_readShop_10
theorem c_X5_readShop (l : Launch) {D : va_G} {t : Nat → ClassId} {a : Nat → Nat} {X : State → Prop} (hX : XOk (aW 17 a) X) {N : Nat} {S : ST} {r : Int32} {S' : ST} (hf : f_X5_readShop N S = some (r, S')) : Co l yX5_readShop wsX5_readShop rmX5_readShop D (cM t a) (aW 17 a) (tyM t) X [.ref (a 0)] S (Qi D (cM t a) (aW 17 a) (tyM t) r S') :=
  co_of (cc := cX5_readShop) (maxL := 3) (ret := (some .boolean)) (lv := [(0, .ref (a 0))]) (by decide) rfl rfl (Nat.le_of_ble_eq_true rfl) rfl rfl (fun p e s m below meth c ls E hl w => k_X5_readShop_E hX E w hl hf)
-- X5_readOne
theorem in_X5_readOne_X5 : ∀ w ∈ u_ws RX5 TX5 28, w ∈ wsX5_readOne := by decide +kernel
theorem fl_X5_readOne_23 : Cond.fieldLink RX5 23 "NextDoorModel" "reading" "[I" ∈ wsX5_readOne := by decide +kernel
theorem fl_X5_readOne_203 : Cond.fieldLink RX5 203 "NextDoorModel" "readShops" "I" ∈ wsX5_readOne := by decide +kernel
theorem fl_X5_readOne_197 : Cond.fieldLink RX5 197 "NextDoorModel" "taken" "I" ∈ wsX5_readOne := by decide +kernel
abbrev rmX5_readOne : Room := { frames := 5, cells := 0, slots := 0, locals := 111 }
set_option maxHeartbeats 4000000 in
set_option maxRecDepth 100000 in
theorem k_X5_readOne_18 {p : Program} {l : Launch} {e : Env} {s : State} {m : MethodId} {args : Array Value} {below : List Frame} {meth : Method} {c : Code} {D : va_G} {t : Nat → ClassId} {a : Nat → Nat} {X : State → Prop} {N : Nat} {r : Int32} {S' : ST} (hX : XOk (aW 17 a) X) (E : EN p s m args meth c cX5_readOne RX5 wsX5_readOne (some .boolean) 2) {S : ST} {x1 : Int32} {H : Heap} {locs : List Loc} {ls : Array Slot} (w : Wd D (cM t a) (aW 17 a) (tyM t) X S s H locs) (hl : lv_has ls 2 [(0, .ref (a 0)), (1, .int x1)]) (hf : b_X5_readOne_18 N S x1 = some (r, S')) : W p l e rmX5_readOne s m args below meth c H locs 0 0 (MQ below (Qi D (cM t a) (aW 17 a) (tyM t) r S') args s 0 0 (aW 17 a)) (F0 m 18 ls []) := by
  obtain ⟨⟨hx, hb, hml, hown, hts⟩, hr, hlk⟩ := id E
  unfold b_X5_readOne_18 at hf
  refine lv_aload_n hx hb dX5_readOne_18 rfl (lv_at hl 0 rfl) ?_
  obtain ⟨S4, h3, hf⟩ := bd1_o hf
  refine w_callVv (As := []) (rest := []) hX E w (c_X5_goOn l hX h3) (cwV 0 hts gX5_readOne_X5_goOn rfl rfl rfl hd_X5_goOn ⟨Nat.le_of_ble_eq_true rfl, Nat.le_of_ble_eq_true rfl⟩) (ci := 5) rfl (cM_at_0 t a S) rfl hl.1 rfl (Nat.le_of_ble_eq_true rfl) dX5_readOne_19 ⟨Nat.le_refl _, Nat.le_refl _⟩ (fun H locs w => ?_)
  refine lv_aload_n hx hb dX5_readOne_22 rfl (lv_at hl 0 rfl) ?_
  refine lv_iconst (v := 0) hx hb dX5_readOne_23 (by decide) ?_
  refine lv_aload_n hx hb dX5_readOne_24 rfl (lv_at hl 0 rfl) ?_
  refine w_get E w in_X5_readOne_X5 0 (cM_at_0 t a S4) rfl 14 (by decide) fl_X5_readOne_203 rfl rfl dX5_readOne_25 ?_
  refine lv_iconst (v := 1) hx hb dX5_readOne_28 (by decide) ?_
  refine lv_isub hx hb dX5_readOne_29 ?_
  obtain ⟨r7, S6, h5, hf⟩ := bd2_o hf
  refine w_callVi (As := [.int 0, .int ((S4 0 14) - 1)]) (rest := []) hX E w (c_X5_takesNumber l hX h5) (cwV 2 hts gX5_readOne_X5_takesNumber rfl rfl rfl hd_X5_takesNumber ⟨Nat.le_of_ble_eq_true rfl, Nat.le_of_ble_eq_true rfl⟩) (ci := 5) rfl (cM_at_0 t a S4) rfl hl.1 rfl (Nat.le_of_ble_eq_true rfl) dX5_readOne_30 ⟨Nat.le_refl _, Nat.le_refl _⟩ (fun H locs w => ?_)
  refine lv_if_ne (tgt := 38) hx hb dX5_readOne_33 (by decide) (fun h8 => ?_) (fun h8 => ?_)
  · replace hf := it_f h8 hf
    refine lv_iload_n hx hb dX5_readOne_38 rfl (lv_at hl 1 rfl) ?_
    refine lv_if_eq (tgt := 61) hx hb dX5_readOne_39 (by decide) (fun h9 => ?_) (fun h9 => ?_)
    · replace hf := it_t h9 hf
      refine lv_aload_n hx hb dX5_readOne_61 rfl (lv_at hl 0 rfl) ?_
      refine w_get E w in_X5_readOne_X5 0 (cM_at_0 t a S6) rfl 13 (by decide) fl_X5_readOne_23 rfl rfl dX5_readOne_62 ?_
      refine lv_bipush (v := 34) hx hb dX5_readOne_65 (by decide) ?_
      refine lv_aload_n hx hb dX5_readOne_67 rfl (lv_at hl 0 rfl) ?_
      refine w_get E w in_X5_readOne_X5 0 (cM_at_0 t a S6) rfl 13 (by decide) fl_X5_readOne_23 rfl rfl dX5_readOne_68 ?_
      refine lv_bipush (v := 33) hx hb dX5_readOne_71 (by decide) ?_
      refine w_ald E w 5 0 (cM_at_5 t a S6) rfl (by decide) (congrArg (S6 5) ix_33) dX5_readOne_73 ?_
      refine lv_iadd hx hb dX5_readOne_74 ?_
      refine lv_aload_n hx hb dX5_readOne_75 rfl (lv_at hl 0 rfl) ?_
      refine w_get E w in_X5_readOne_X5 0 (cM_at_0 t a S6) rfl 15 (by decide) fl_X5_readOne_197 rfl rfl dX5_readOne_76 ?_
      obtain ⟨h11, hf⟩ := it_n hf
      obtain ⟨S10, eS10, hf⟩ := nm_o hf
      refine w_ast (S1 := S10) E w 5 0 (cM_at_5 t a S6) rfl h11 rfl ((cM_st_5 t a S6 ((34 + (S6 5 33)).toNatClampNeg) (S6 0 15)).trans (congrArg (cM t a) eS10.symm)) dX5_readOne_79 (fun H locs w => ?_)
      refine lv_aload_n hx hb dX5_readOne_80 rfl (lv_at hl 0 rfl) ?_
      refine w_get E w in_X5_readOne_X5 0 (cM_at_0 t a S10) rfl 13 (by decide) fl_X5_readOne_23 rfl rfl dX5_readOne_81 ?_
      refine lv_bipush (v := 33) hx hb dX5_readOne_84 (by decide) ?_
      refine lv_dup2_11 hx hb dX5_readOne_86 rfl rfl ?_
      refine w_ald E w 5 0 (cM_at_5 t a S10) rfl (by decide) (congrArg (S10 5) ix_33) dX5_readOne_87 ?_
      refine lv_iconst (v := 1) hx hb dX5_readOne_88 (by decide) ?_
      refine lv_iadd hx hb dX5_readOne_89 ?_
      obtain ⟨S12, eS12, hf⟩ := nm_o hf
      refine w_ast (S1 := S12) E w 5 0 (cM_at_5 t a S10) rfl (by decide) ix_33 ((cM_st_5 t a S10 33 ((S10 5 33) + 1)).trans (congrArg (cM t a) eS12.symm)) dX5_readOne_90 (fun H locs w => ?_)
      refine lv_iconst (v := 1) hx hb dX5_readOne_91 (by decide) ?_
      exact w_retz E w (by decide) hf dX5_readOne_92
    · replace hf := it_f h9 hf
      refine lv_aload_n hx hb dX5_readOne_42 rfl (lv_at hl 0 rfl) ?_
      refine w_get E w in_X5_readOne_X5 0 (cM_at_0 t a S6) rfl 13 (by decide) fl_X5_readOne_23 rfl rfl dX5_readOne_43 ?_
      refine lv_bipush (v := 30) hx hb dX5_readOne_46 (by decide) ?_
      refine lv_dup2_11 hx hb dX5_readOne_48 rfl rfl ?_
      refine w_ald E w 5 0 (cM_at_5 t a S6) rfl (by decide) (congrArg (S6 5) ix_30) dX5_readOne_49 ?_
      refine lv_iconst (v := 1) hx hb dX5_readOne_50 (by decide) ?_
      refine lv_aload_n hx hb dX5_readOne_51 rfl (lv_at hl 0 rfl) ?_
      refine w_get E w in_X5_readOne_X5 0 (cM_at_0 t a S6) rfl 15 (by decide) fl_X5_readOne_197 rfl rfl dX5_readOne_52 ?_
      refine lv_ishl hx hb dX5_readOne_55 ?_
      refine lv_ior hx hb dX5_readOne_56 ?_
      obtain ⟨S13, eS13, hf⟩ := nm_o hf
      refine w_ast (S1 := S13) E w 5 0 (cM_at_5 t a S6) rfl (by decide) ix_30 ((cM_st_5 t a S6 30 ((S6 5 30) ||| (1 <<< ((S6 0 15) &&& 31)))).trans (congrArg (cM t a) eS13.symm)) dX5_readOne_57 (fun H locs w => ?_)
      refine lv_goto (tgt := 91) hx hb dX5_readOne_58 (by decide) ?_
      refine lv_iconst (v := 1) hx hb dX5_readOne_91 (by decide) ?_
      exact w_retz E w (by decide) hf dX5_readOne_92
  · replace hf := it_t h8 hf
    refine lv_iconst (v := 0) hx hb dX5_readOne_36 (by decide) ?_
    exact w_retz E w (by decide) hf dX5_readOne_37
set_option maxHeartbeats 4000000 in
set_option maxRecDepth 100000 in
theorem k_X5_readOne_E {p : Program} {l : Launch} {e : Env} {s : State} {m : MethodId} {args : Array Value} {below : List Frame} {meth : Method} {c : Code} {D : va_G} {t : Nat → ClassId} {a : Nat → Nat} {X : State → Prop} {N : Nat} {r : Int32} {S' : ST} (hX : XOk (aW 17 a) X) (E : EN p s m args meth c cX5_readOne RX5 wsX5_readOne (some .boolean) 2) {S : ST} {x1 : Int32} {H : Heap} {locs : List Loc} {ls : Array Slot} (w : Wd D (cM t a) (aW 17 a) (tyM t) X S s H locs) (hl : lv_has ls 2 [(0, .ref (a 0)), (1, .int x1)]) (hf : f_X5_readOne N S x1 = some (r, S')) : W p l e rmX5_readOne s m args below meth c H locs 0 0 (MQ below (Qi D (cM t a) (aW 17 a) (tyM t) r S') args s 0 0 (aW 17 a)) (F0 m 0 ls []) := by
  obtain ⟨⟨hx, hb, hml, hown, hts⟩, hr, hlk⟩ := id E
  unfold f_X5_readOne at hf
  refine lv_iload_n hx hb dX5_readOne_0 rfl (lv_at hl 1 rfl) ?_
  refine lv_if_ne (tgt := 18) hx hb dX5_readOne_1 (by decide) (fun h1 => ?_) (fun h1 => ?_)
  · replace hf := it_f h1 hf
    exact k_X5_readOne_18 hX E w (lv_sub hl [0, 1] rfl) hf
  · replace hf := it_t h1 hf
    refine lv_aload_n hx hb dX5_readOne_4 rfl (lv_at hl 0 rfl) ?_
    refine w_get E w in_X5_readOne_X5 0 (cM_at_0 t a S) rfl 13 (by decide) fl_X5_readOne_23 rfl rfl dX5_readOne_5 ?_
    refine lv_bipush (v := 33) hx hb dX5_readOne_8 (by decide) ?_
    refine w_ald E w 5 0 (cM_at_5 t a S) rfl (by decide) (congrArg (S 5) ix_33) dX5_readOne_10 ?_
    refine lv_bipush (v := 12) hx hb dX5_readOne_11 (by decide) ?_
    refine lv_icmp_ne (tgt := 18) hx hb dX5_readOne_13 (by decide) (fun h2 => ?_) (fun h2 => ?_)
    · replace hf := it_f h2 hf
      exact k_X5_readOne_18 hX E w (lv_sub hl [0, 1] rfl) hf
    · replace hf := it_t h2 hf
      refine lv_iconst (v := 0) hx hb dX5_readOne_16 (by decide) ?_
      exact w_retz E w (by decide) hf dX5_readOne_17
theorem c_X5_readOne (l : Launch) {D : va_G} {t : Nat → ClassId} {a : Nat → Nat} {X : State → Prop} (hX : XOk (aW 17 a) X) {N : Nat} {S : ST} {x1 : Int32} {r : Int32} {S' : ST} (hf : f_X5_readOne N S x1 = some (r, S')) : Co l yX5_readOne wsX5_readOne rmX5_readOne D (cM t a) (aW 17 a) (tyM t) X [.ref (a 0), .int x1] S (Qi D (cM t a) (aW 17 a) (tyM t) r S') :=
  co_of (cc := cX5_readOne) (maxL := 2) (ret := (some .boolean)) (lv := [(0, .ref (a 0)), (1, .int x1)]) (by decide) rfl rfl (Nat.le_of_ble_eq_true rfl) rfl rfl (fun p e s m below meth c ls E hl w => k_X5_readOne_E hX E w hl hf)
-- X5_readItem
theorem hd_X5_isWord : yX5_isWord.cls = RX5 ∧ yX5_isWord.cls ≠ "java/lang/invoke/MethodHandle" ∧ yX5_isWord.cls ≠ "java/lang/invoke/VarHandle" ∧ (parseMethodDescriptor yX5_isWord.desc).map (fun d => d.parameters.length) = some 4 := by decide +kernel
theorem hd_X5_readNext : yX5_readNext.cls = RX5 ∧ yX5_readNext.cls ≠ "java/lang/invoke/MethodHandle" ∧ yX5_readNext.cls ≠ "java/lang/invoke/VarHandle" ∧ (parseMethodDescriptor yX5_readNext.desc).map (fun d => d.parameters.length) = some 0 := by decide +kernel
theorem hd_X5_readShop : yX5_readShop.cls = RX5 ∧ yX5_readShop.cls ≠ "java/lang/invoke/MethodHandle" ∧ yX5_readShop.cls ≠ "java/lang/invoke/VarHandle" ∧ (parseMethodDescriptor yX5_readShop.desc).map (fun d => d.parameters.length) = some 0 := by decide +kernel
theorem hd_X5_readOne : yX5_readOne.cls = RX5 ∧ yX5_readOne.cls ≠ "java/lang/invoke/MethodHandle" ∧ yX5_readOne.cls ≠ "java/lang/invoke/VarHandle" ∧ (parseMethodDescriptor yX5_readOne.desc).map (fun d => d.parameters.length) = some 1 := by decide +kernel
abbrev rmX5_readItem : Room := { frames := 6, cells := 0, slots := 0, locals := 133 }
set_option maxHeartbeats 4000000 in
set_option maxRecDepth 100000 in
theorem k_X5_readItem_71 {p : Program} {l : Launch} {e : Env} {s : State} {m : MethodId} {args : Array Value} {below : List Frame} {meth : Method} {c : Code} {D : va_G} {t : Nat → ClassId} {a : Nat → Nat} {X : State → Prop} {N : Nat} {r : Int32} {S' : ST} (hX : XOk (aW 17 a) X) (E : EN p s m args meth c cX5_readItem RX5 wsX5_readItem (some .boolean) 2) {S : ST} {x1 : Int32} {H : Heap} {locs : List Loc} {ls : Array Slot} (w : Wd D (cM t a) (aW 17 a) (tyM t) X S s H locs) (hl : lv_has ls 2 [(0, .ref (a 0)), (1, .int x1)]) (hf : b_X5_readItem_71 N S x1 = some (r, S')) : W p l e rmX5_readItem s m args below meth c H locs 0 0 (MQ below (Qi D (cM t a) (aW 17 a) (tyM t) r S') args s 0 0 (aW 17 a)) (F0 m 71 ls []) := by
  obtain ⟨⟨hx, hb, hml, hown, hts⟩, hr, hlk⟩ := id E
  unfold b_X5_readItem_71 at hf
  refine lv_aload_n hx hb dX5_readItem_71 rfl (lv_at hl 0 rfl) ?_
  refine lv_iload_n hx hb dX5_readItem_72 rfl (lv_at hl 1 rfl) ?_
  obtain ⟨r27, S26, h25, hf⟩ := bd2_o hf
  refine w_callVi (As := [.int x1]) (rest := []) hX E w (c_X5_readOne l hX h25) (cwV 1 hts gX5_readItem_X5_readOne rfl rfl rfl hd_X5_readOne ⟨Nat.le_of_ble_eq_true rfl, Nat.le_of_ble_eq_true rfl⟩) (ci := 5) rfl (cM_at_0 t a S) rfl hl.1 rfl (Nat.le_of_ble_eq_true rfl) dX5_readItem_73 ⟨Nat.le_refl _, Nat.le_refl _⟩ (fun H locs w => ?_)
  refine lv_if_eq (tgt := 83) hx hb dX5_readItem_76 (by decide) (fun h28 => ?_) (fun h28 => ?_)
  · replace hf := it_t h28 hf
    refine lv_iconst (v := 0) hx hb dX5_readItem_83 (by decide) ?_
    exact w_retz E w (by decide) hf dX5_readItem_84
  · replace hf := it_f h28 hf
    refine lv_iconst (v := 1) hx hb dX5_readItem_79 (by decide) ?_
    refine lv_goto (tgt := 84) hx hb dX5_readItem_80 (by decide) ?_
    exact w_retz E w (by decide) hf dX5_readItem_84
set_option maxHeartbeats 4000000 in
set_option maxRecDepth 100000 in
theorem k_X5_readItem_E {p : Program} {l : Launch} {e : Env} {s : State} {m : MethodId} {args : Array Value} {below : List Frame} {meth : Method} {c : Code} {D : va_G} {t : Nat → ClassId} {a : Nat → Nat} {X : State → Prop} {N : Nat} {r : Int32} {S' : ST} (hX : XOk (aW 17 a) X) (E : EN p s m args meth c cX5_readItem RX5 wsX5_readItem (some .boolean) 2) {S : ST} {H : Heap} {locs : List Loc} {ls : Array Slot} (w : Wd D (cM t a) (aW 17 a) (tyM t) X S s H locs) (hl : lv_has ls 2 [(0, .ref (a 0))]) (hf : f_X5_readItem N S = some (r, S')) : W p l e rmX5_readItem s m args below meth c H locs 0 0 (MQ below (Qi D (cM t a) (aW 17 a) (tyM t) r S') args s 0 0 (aW 17 a)) (F0 m 0 ls []) := by
  obtain ⟨⟨hx, hb, hml, hown, hts⟩, hr, hlk⟩ := id E
  unfold f_X5_readItem at hf
  refine lv_aload_n hx hb dX5_readItem_0 rfl (lv_at hl 0 rfl) ?_
  refine lv_bipush (v := 115) hx hb dX5_readItem_1 (by decide) ?_
  refine lv_bipush (v := 104) hx hb dX5_readItem_3 (by decide) ?_
  refine lv_bipush (v := 111) hx hb dX5_readItem_5 (by decide) ?_
  refine lv_bipush (v := 112) hx hb dX5_readItem_7 (by decide) ?_
  obtain ⟨r3, S2, h1, hf⟩ := bd2_o hf
  refine w_callVi (As := [.int 115, .int 104, .int 111, .int 112]) (rest := []) hX E w (c_X5_isWord l hX h1) (cwV 4 hts gX5_readItem_X5_isWord rfl rfl rfl hd_X5_isWord ⟨Nat.le_of_ble_eq_true rfl, Nat.le_of_ble_eq_true rfl⟩) (ci := 5) rfl (cM_at_0 t a S) rfl hl.1 rfl (Nat.le_of_ble_eq_true rfl) dX5_readItem_9 ⟨Nat.le_refl _, Nat.le_refl _⟩ (fun H locs w => ?_)
  refine lv_if_eq (tgt := 20) hx hb dX5_readItem_12 (by decide) (fun h4 => ?_) (fun h4 => ?_)
  · replace hf := it_t h4 hf
    refine lv_aload_n hx hb dX5_readItem_20 rfl (lv_at hl 0 rfl) ?_
    refine lv_bipush (v := 110) hx hb dX5_readItem_21 (by decide) ?_
    refine lv_bipush (v := 101) hx hb dX5_readItem_23 (by decide) ?_
    refine lv_bipush (v := 120) hx hb dX5_readItem_25 (by decide) ?_
    refine lv_bipush (v := 116) hx hb dX5_readItem_27 (by decide) ?_
    obtain ⟨r7, S6, h5, hf⟩ := bd2_o hf
    refine w_callVi (As := [.int 110, .int 101, .int 120, .int 116]) (rest := []) hX E w (c_X5_isWord l hX h5) (cwV 4 hts gX5_readItem_X5_isWord rfl rfl rfl hd_X5_isWord ⟨Nat.le_of_ble_eq_true rfl, Nat.le_of_ble_eq_true rfl⟩) (ci := 5) rfl (cM_at_0 t a S2) rfl hl.1 rfl (Nat.le_of_ble_eq_true rfl) dX5_readItem_29 ⟨Nat.le_refl _, Nat.le_refl _⟩ (fun H locs w => ?_)
    refine lv_if_eq (tgt := 40) hx hb dX5_readItem_32 (by decide) (fun h8 => ?_) (fun h8 => ?_)
    · replace hf := it_t h8 hf
      refine lv_aload_n hx hb dX5_readItem_40 rfl (lv_at hl 0 rfl) ?_
      refine lv_bipush (v := 102) hx hb dX5_readItem_41 (by decide) ?_
      refine lv_bipush (v := 114) hx hb dX5_readItem_43 (by decide) ?_
      refine lv_bipush (v := 101) hx hb dX5_readItem_45 (by decide) ?_
      refine lv_bipush (v := 101) hx hb dX5_readItem_47 (by decide) ?_
      obtain ⟨r11, S10, h9, hf⟩ := bd2_o hf
      refine w_callVi (As := [.int 102, .int 114, .int 101, .int 101]) (rest := []) hX E w (c_X5_isWord l hX h9) (cwV 4 hts gX5_readItem_X5_isWord rfl rfl rfl hd_X5_isWord ⟨Nat.le_of_ble_eq_true rfl, Nat.le_of_ble_eq_true rfl⟩) (ci := 5) rfl (cM_at_0 t a S6) rfl hl.1 rfl (Nat.le_of_ble_eq_true rfl) dX5_readItem_49 ⟨Nat.le_refl _, Nat.le_refl _⟩ (fun H locs w => ?_)
      refine lv_istore_n (lv' := [(1, .int r11), (0, .ref (a 0))]) hx hb dX5_readItem_52 rfl hl (by decide) rfl (fun ls hl => ?_)
      refine lv_iload_n hx hb dX5_readItem_53 rfl (lv_at hl 0 rfl) ?_
      refine lv_if_ne (tgt := 71) hx hb dX5_readItem_54 (by decide) (fun h12 => ?_) (fun h12 => ?_)
      · replace hf := it_f h12 hf
        exact k_X5_readItem_71 hX E w (lv_sub hl [1, 0] rfl) hf
      · replace hf := it_t h12 hf
        refine lv_aload_n hx hb dX5_readItem_57 rfl (lv_at hl 1 rfl) ?_
        refine lv_bipush (v := 98) hx hb dX5_readItem_58 (by decide) ?_
        refine lv_bipush (v := 117) hx hb dX5_readItem_60 (by decide) ?_
        refine lv_bipush (v := 121) hx hb dX5_readItem_62 (by decide) ?_
        refine lv_iconst (v := 0) hx hb dX5_readItem_64 (by decide) ?_
        obtain ⟨r15, S14, h13, hf⟩ := bd2_o hf
        refine w_callVi (As := [.int 98, .int 117, .int 121, .int 0]) (rest := []) hX E w (c_X5_isWord l hX h13) (cwV 4 hts gX5_readItem_X5_isWord rfl rfl rfl hd_X5_isWord ⟨Nat.le_of_ble_eq_true rfl, Nat.le_of_ble_eq_true rfl⟩) (ci := 5) rfl (cM_at_0 t a S10) rfl hl.1 rfl (Nat.le_of_ble_eq_true rfl) dX5_readItem_65 ⟨Nat.le_refl _, Nat.le_refl _⟩ (fun H locs w => ?_)
        refine lv_if_eq (tgt := 83) hx hb dX5_readItem_68 (by decide) (fun h16 => ?_) (fun h16 => ?_)
        · replace hf := it_t h16 hf
          refine lv_iconst (v := 0) hx hb dX5_readItem_83 (by decide) ?_
          exact w_retz E w (by decide) hf dX5_readItem_84
        · replace hf := it_f h16 hf
          exact k_X5_readItem_71 hX E w (lv_sub hl [1, 0] rfl) hf
    · replace hf := it_f h8 hf
      refine lv_aload_n hx hb dX5_readItem_35 rfl (lv_at hl 0 rfl) ?_
      obtain ⟨r19, S18, h17, hf⟩ := bd2_o hf
      refine w_callVi (As := []) (rest := []) hX E w (c_X5_readNext l hX h17) (cwV 0 hts gX5_readItem_X5_readNext rfl rfl rfl hd_X5_readNext ⟨Nat.le_of_ble_eq_true rfl, Nat.le_of_ble_eq_true rfl⟩) (ci := 5) rfl (cM_at_0 t a S6) rfl hl.1 rfl (Nat.le_of_ble_eq_true rfl) dX5_readItem_36 ⟨Nat.le_refl _, Nat.le_refl _⟩ (fun H locs w => ?_)
      obtain ⟨h20, hf⟩ := it_s hf
      exact w_retz E w h20 hf dX5_readItem_39
  · replace hf := it_f h4 hf
    refine lv_aload_n hx hb dX5_readItem_15 rfl (lv_at hl 0 rfl) ?_
    obtain ⟨r23, S22, h21, hf⟩ := bd2_o hf
    refine w_callVi (As := []) (rest := []) hX E w (c_X5_readShop l hX h21) (cwV 0 hts gX5_readItem_X5_readShop rfl rfl rfl hd_X5_readShop ⟨Nat.le_of_ble_eq_true rfl, Nat.le_of_ble_eq_true rfl⟩) (ci := 5) rfl (cM_at_0 t a S2) rfl hl.1 rfl (Nat.le_of_ble_eq_true rfl) dX5_readItem_16 ⟨Nat.le_refl _, Nat.le_refl _⟩ (fun H locs w => ?_)
    obtain ⟨h24, hf⟩ := it_s hf
    exact w_retz E w h24 hf dX5_readItem_19
theorem c_X5_readItem (l : Launch) {D : va_G} {t : Nat → ClassId} {a : Nat → Nat} {X : State → Prop} (hX : XOk (aW 17 a) X) {N : Nat} {S : ST} {r : Int32} {S' : ST} (hf : f_X5_readItem N S = some (r, S')) : Co l yX5_readItem wsX5_readItem rmX5_readItem D (cM t a) (aW 17 a) (tyM t) X [.ref (a 0)] S (Qi D (cM t a) (aW 17 a) (tyM t) r S') :=
  co_of (cc := cX5_readItem) (maxL := 2) (ret := (some .boolean)) (lv := [(0, .ref (a 0))]) (by decide) rfl rfl (Nat.le_of_ble_eq_true rfl) rfl rfl (fun p e s m below meth c ls E hl w => k_X5_readItem_E hX E w hl hf)
