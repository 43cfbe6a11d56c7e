-- X2_forgetShops_10
theorem in_X2_forgetShops_X2 : ∀ w ∈ u_ws RX2 TX2 16, w ∈ wsX2_forgetShops := by decide +kernel
theorem fl_X2_forgetShops_46 : Cond.fieldLink RX2 46 "NextDoor$Street" "shops" "I" ∈ wsX2_forgetShops := by decide +kernel
theorem fl_X2_forgetShops_49 : Cond.fieldLink RX2 49 "NextDoor$Street" "freeOnes" "I" ∈ wsX2_forgetShops := by decide +kernel
theorem fl_X2_forgetShops_52 : Cond.fieldLink RX2 52 "NextDoor$Street" "bought" "I" ∈ wsX2_forgetShops := by decide +kernel
abbrev rmX2_forgetShops_10 : Room := { frames := 0, cells := 0, slots := 0, locals := 0 }
set_option maxHeartbeats 4000000 in
set_option maxRecDepth 100000 in
theorem k_X2_forgetShops_10_E {p : Program} {l : Launch} {e : Env} {s : State} {m : MethodId} {args : Array Value} {below : List Frame} {meth : Method} {c : Code} {D : va_G} {t : Nat → ClassId} {a : Nat → Nat} {X : State → Prop} {N : Nat} {S' : ST} (hX : XOk (aW 56 a) X) (E : EN p s m args meth c cX2_forgetShops RX2 wsX2_forgetShops none 1) {S : ST} {H : Heap} {locs : List Loc} {ls : Array Slot} (w : Wd D (cC t a) (aW 56 a) (tyC t) X S s H locs) (hl : lv_has ls 1 [(0, .ref (a 10))]) (hf : f_X2_forgetShops_10 N S = some S') : W p l e rmX2_forgetShops_10 s m args below meth c H locs 0 0 (MQ below (Qv D (cC t a) (aW 56 a) (tyC t) S') args s 0 0 (aW 56 a)) (F0 m 0 ls []) := by
  obtain ⟨⟨hx, hb, hml, hown, hts⟩, hr, hlk⟩ := id E
  unfold f_X2_forgetShops_10 at hf
  refine lv_aload_n hx hb dX2_forgetShops_0 rfl (lv_at hl 0 rfl) ?_
  refine lv_iconst (v := 0) hx hb dX2_forgetShops_1 (by decide) ?_
  obtain ⟨S1, eS1, hf⟩ := nm_o hf
  refine w_put (S1 := S1) E w in_X2_forgetShops_X2 tyX2 tyX2_ok nmX2 10 (cC_at_10 t a S) rfl 0 (by decide) fl_X2_forgetShops_46 rfl rfl rfl rfl rfl (Nat.le_of_ble_eq_true rfl) ((cC_set_10_0 t a S 0).trans (congrArg (cC t a) eS1.symm)) dX2_forgetShops_2 (fun H locs w => ?_)
  refine lv_aload_n hx hb dX2_forgetShops_5 rfl (lv_at hl 0 rfl) ?_
  refine lv_iconst (v := 0) hx hb dX2_forgetShops_6 (by decide) ?_
  obtain ⟨S2, eS2, hf⟩ := nm_o hf
  refine w_put (S1 := S2) E w in_X2_forgetShops_X2 tyX2 tyX2_ok nmX2 10 (cC_at_10 t a S1) rfl 6 (by decide) fl_X2_forgetShops_49 rfl rfl rfl rfl rfl (Nat.le_of_ble_eq_true rfl) ((cC_set_10_6 t a S1 0).trans (congrArg (cC t a) eS2.symm)) dX2_forgetShops_7 (fun H locs w => ?_)
  refine lv_aload_n hx hb dX2_forgetShops_10 rfl (lv_at hl 0 rfl) ?_
  refine lv_iconst (v := 0) hx hb dX2_forgetShops_11 (by decide) ?_
  obtain ⟨S3, eS3, hf⟩ := nm_o hf
  refine w_put (S1 := S3) E w in_X2_forgetShops_X2 tyX2 tyX2_ok nmX2 10 (cC_at_10 t a S2) rfl 9 (by decide) fl_X2_forgetShops_52 rfl rfl rfl rfl rfl (Nat.le_of_ble_eq_true rfl) ((cC_set_10_9 t a S2 0).trans (congrArg (cC t a) eS3.symm)) dX2_forgetShops_12 (fun H locs w => ?_)
  exact w_retv E w hf dX2_forgetShops_15
theorem c_X2_forgetShops_10 (l : Launch) {D : va_G} {t : Nat → ClassId} {a : Nat → Nat} {X : State → Prop} (hX : XOk (aW 56 a) X) {N : Nat} {S : ST} {S' : ST} (hf : f_X2_forgetShops_10 N S = some S') : Co l yX2_forgetShops wsX2_forgetShops rmX2_forgetShops_10 D (cC t a) (aW 56 a) (tyC t) X [.ref (a 10)] S (Qv D (cC t a) (aW 56 a) (tyC t) S') :=
  co_of (cc := cX2_forgetShops) (maxL := 1) (ret := none) (lv := [(0, .ref (a 10))]) (by decide) rfl rfl (Nat.le_of_ble_eq_true rfl) rfl rfl (fun p e s m below meth c ls E hl w => k_X2_forgetShops_10_E hX E w hl hf)
-- X0_isLetter
abbrev rmX0_isLetter : Room := { frames := 0, cells := 0, slots := 0, locals := 0 }
set_option maxHeartbeats 4000000 in
set_option maxRecDepth 100000 in
theorem k_X0_isLetter_E {p : Program} {l : Launch} {e : Env} {s : State} {m : MethodId} {args : Array Value} {below : List Frame} {meth : Method} {c : Code} {D : va_G} {t : Nat → ClassId} {a : Nat → Nat} {X : State → Prop} {N : Nat} {r : Int32} {S' : ST} (hX : XOk (aW 56 a) X) (E : EN p s m args meth c cX0_isLetter RX0 wsX0_isLetter (some .boolean) 1) {S : ST} {x0 : Int32} {H : Heap} {locs : List Loc} {ls : Array Slot} (w : Wd D (cC t a) (aW 56 a) (tyC t) X S s H locs) (hl : lv_has ls 1 [(0, .int x0)]) (hf : f_X0_isLetter N S x0 = some (r, S')) : W p l e rmX0_isLetter s m args below meth c H locs 0 0 (MQ below (Qi D (cC t a) (aW 56 a) (tyC t) r S') args s 0 0 (aW 56 a)) (F0 m 0 ls []) := by
  obtain ⟨⟨hx, hb, hml, hown, hts⟩, hr, hlk⟩ := id E
  unfold f_X0_isLetter at hf
  refine lv_iload_n hx hb dX0_isLetter_0 rfl (lv_at hl 0 rfl) ?_
  refine lv_bipush (v := 97) hx hb dX0_isLetter_1 (by decide) ?_
  refine lv_icmp_lt (tgt := 16) hx hb dX0_isLetter_3 (by decide) (fun h1 => ?_) (fun h1 => ?_)
  · replace hf := it_t h1 hf
    refine lv_iconst (v := 0) hx hb dX0_isLetter_16 (by decide) ?_
    exact w_retz E w (by decide) hf dX0_isLetter_17
  · replace hf := it_f h1 hf
    refine lv_iload_n hx hb dX0_isLetter_6 rfl (lv_at hl 0 rfl) ?_
    refine lv_bipush (v := 122) hx hb dX0_isLetter_7 (by decide) ?_
    refine lv_icmp_gt (tgt := 16) hx hb dX0_isLetter_9 (by decide) (fun h2 => ?_) (fun h2 => ?_)
    · replace hf := it_t h2 hf
      refine lv_iconst (v := 0) hx hb dX0_isLetter_16 (by decide) ?_
      exact w_retz E w (by decide) hf dX0_isLetter_17
    · replace hf := it_f h2 hf
      refine lv_iconst (v := 1) hx hb dX0_isLetter_12 (by decide) ?_
      refine lv_goto (tgt := 17) hx hb dX0_isLetter_13 (by decide) ?_
      exact w_retz E w (by decide) hf dX0_isLetter_17
theorem c_X0_isLetter (l : Launch) {D : va_G} {t : Nat → ClassId} {a : Nat → Nat} {X : State → Prop} (hX : XOk (aW 56 a) X) {N : Nat} {S : ST} {x0 : Int32} {r : Int32} {S' : ST} (hf : f_X0_isLetter N S x0 = some (r, S')) : Co l yX0_isLetter wsX0_isLetter rmX0_isLetter D (cC t a) (aW 56 a) (tyC t) X [.int x0] S (Qi D (cC t a) (aW 56 a) (tyC t) r S') :=
  co_of (cc := cX0_isLetter) (maxL := 1) (ret := (some .boolean)) (lv := [(0, .int x0)]) (by decide) rfl rfl (Nat.le_of_ble_eq_true rfl) rfl rfl (fun p e s m below meth c ls E hl w => k_X0_isLetter_E hX E w hl hf)
-- X0_isFigure
abbrev rmX0_isFigure : Room := { frames := 0, cells := 0, slots := 0, locals := 0 }
set_option maxHeartbeats 4000000 in
set_option maxRecDepth 100000 in
theorem k_X0_isFigure_E {p : Program} {l : Launch} {e : Env} {s : State} {m : MethodId} {args : Array Value} {below : List Frame} {meth : Method} {c : Code} {D : va_G} {t : Nat → ClassId} {a : Nat → Nat} {X : State → Prop} {N : Nat} {r : Int32} {S' : ST} (hX : XOk (aW 56 a) X) (E : EN p s m args meth c cX0_isFigure RX0 wsX0_isFigure (some .boolean) 1) {S : ST} {x0 : Int32} {H : Heap} {locs : List Loc} {ls : Array Slot} (w : Wd D (cC t a) (aW 56 a) (tyC t) X S s H locs) (hl : lv_has ls 1 [(0, .int x0)]) (hf : f_X0_isFigure N S x0 = some (r, S')) : W p l e rmX0_isFigure s m args below meth c H locs 0 0 (MQ below (Qi D (cC t a) (aW 56 a) (tyC t) r S') args s 0 0 (aW 56 a)) (F0 m 0 ls []) := by
  obtain ⟨⟨hx, hb, hml, hown, hts⟩, hr, hlk⟩ := id E
  unfold f_X0_isFigure at hf
  refine lv_iload_n hx hb dX0_isFigure_0 rfl (lv_at hl 0 rfl) ?_
  refine lv_bipush (v := 48) hx hb dX0_isFigure_1 (by decide) ?_
  refine lv_icmp_lt (tgt := 16) hx hb dX0_isFigure_3 (by decide) (fun h1 => ?_) (fun h1 => ?_)
  · replace hf := it_t h1 hf
    refine lv_iconst (v := 0) hx hb dX0_isFigure_16 (by decide) ?_
    exact w_retz E w (by decide) hf dX0_isFigure_17
  · replace hf := it_f h1 hf
    refine lv_iload_n hx hb dX0_isFigure_6 rfl (lv_at hl 0 rfl) ?_
    refine lv_bipush (v := 57) hx hb dX0_isFigure_7 (by decide) ?_
    refine lv_icmp_gt (tgt := 16) hx hb dX0_isFigure_9 (by decide) (fun h2 => ?_) (fun h2 => ?_)
    · replace hf := it_t h2 hf
      refine lv_iconst (v := 0) hx hb dX0_isFigure_16 (by decide) ?_
      exact w_retz E w (by decide) hf dX0_isFigure_17
    · replace hf := it_f h2 hf
      refine lv_iconst (v := 1) hx hb dX0_isFigure_12 (by decide) ?_
      refine lv_goto (tgt := 17) hx hb dX0_isFigure_13 (by decide) ?_
      exact w_retz E w (by decide) hf dX0_isFigure_17
theorem c_X0_isFigure (l : Launch) {D : va_G} {t : Nat → ClassId} {a : Nat → Nat} {X : State → Prop} (hX : XOk (aW 56 a) X) {N : Nat} {S : ST} {x0 : Int32} {r : Int32} {S' : ST} (hf : f_X0_isFigure N S x0 = some (r, S')) : Co l yX0_isFigure wsX0_isFigure rmX0_isFigure D (cC t a) (aW 56 a) (tyC t) X [.int x0] S (Qi D (cC t a) (aW 56 a) (tyC t) r S') :=
  co_of (cc := cX0_isFigure) (maxL := 1) (ret := (some .boolean)) (lv := [(0, .int x0)]) (by decide) rfl rfl (Nat.le_of_ble_eq_true rfl) rfl rfl (fun p e s m below meth c ls E hl w => k_X0_isFigure_E hX E w hl hf)
-- X0_goToToken
theorem in_X0_goToToken_X0 : ∀ w ∈ u_ws RX0 TX0 9, w ∈ wsX0_goToToken := by decide +kernel
theorem fl_X0_goToToken_40 : Cond.fieldLink RX0 40 "NextDoor$RoadReader" "at" "I" ∈ wsX0_goToToken := by decide +kernel
theorem fl_X0_goToToken_39 : Cond.fieldLink RX0 39 "NextDoor$RoadReader" "length" "I" ∈ wsX0_goToToken := by decide +kernel
theorem fl_X0_goToToken_29 : Cond.fieldLink RX0 29 "NextDoor$RoadReader" "text" "[I" ∈ wsX0_goToToken := by decide +kernel
theorem fl_X0_goToToken_99 : Cond.fieldLink RX0 99 "NextDoor$RoadReader" "start" "I" ∈ wsX0_goToToken := by decide +kernel
theorem hd_X0_isLetter : yX0_isLetter.cls ≠ "java/lang/invoke/MethodHandle" ∧ yX0_isLetter.cls ≠ "java/lang/invoke/VarHandle" ∧ (parseMethodDescriptor yX0_isLetter.desc).map (fun d => d.parameters.length) = some 1 := by decide +kernel
theorem hd_X0_isFigure : yX0_isFigure.cls ≠ "java/lang/invoke/MethodHandle" ∧ yX0_isFigure.cls ≠ "java/lang/invoke/VarHandle" ∧ (parseMethodDescriptor yX0_isFigure.desc).map (fun d => d.parameters.length) = some 1 := by decide +kernel
theorem fl_X0_goToToken_49 : Cond.fieldLink RX0 49 "NextDoor$RoadReader" "token" "I" ∈ wsX0_goToToken := by decide +kernel
theorem fl_X0_goToToken_118 : Cond.fieldLink RX0 118 "NextDoor$RoadReader" "number" "I" ∈ wsX0_goToToken := by decide +kernel
abbrev rmX0_goToToken : Room := { frames := 1, cells := 0, slots := 0, locals := 20 }
set_option maxHeartbeats 4000000 in
set_option maxRecDepth 100000 in
theorem k_X0_goToToken_249 {p : Program} {l : Launch} {e : Env} {s : State} {m : MethodId} {args : Array Value} {below : List Frame} {meth : Method} {c : Code} {D : va_G} {t : Nat → ClassId} {a : Nat → Nat} {X : State → Prop} {N : Nat} {S' : ST} (hX : XOk (aW 56 a) X) (E : EN p s m args meth c cX0_goToToken RX0 wsX0_goToToken none 1) {S : ST} {s1 : Int32} {H : Heap} {locs : List Loc} {ls : Array Slot} (w : Wd D (cC t a) (aW 56 a) (tyC t) X S s H locs) (hl : lv_has ls 1 [(0, .ref (a 49))]) (hf : b_X0_goToToken_249 N S s1 = some S') : W p l e rmX0_goToToken s m args below meth c H locs 0 0 (MQ below (Qv D (cC t a) (aW 56 a) (tyC t) S') args s 0 0 (aW 56 a)) (F0 m 249 ls [.int s1, .ref (a 49)]) := by
  obtain ⟨⟨hx, hb, hml, hown, hts⟩, hr, hlk⟩ := id E
  unfold b_X0_goToToken_249 at hf
  obtain ⟨S40, eS40, hf⟩ := nm_o hf
  refine w_put (S1 := S40) E w in_X0_goToToken_X0 tyX0 tyX0_ok nmX0 49 (cC_at_49 t a S) rfl 6 (by decide) fl_X0_goToToken_49 rfl rfl rfl rfl rfl (Nat.le_of_ble_eq_true rfl) ((cC_set_49_6 t a S s1).trans (congrArg (cC t a) eS40.symm)) dX0_goToToken_249 (fun H locs w => ?_)
  refine lv_aload_n hx hb dX0_goToToken_252 rfl (lv_at hl 0 rfl) ?_
  refine lv_dup hx hb dX0_goToToken_253 rfl ?_
  refine w_get E w in_X0_goToToken_X0 49 (cC_at_49 t a S40) rfl 5 (by decide) fl_X0_goToToken_40 rfl rfl dX0_goToToken_254 ?_
  refine lv_iconst (v := 1) hx hb dX0_goToToken_257 (by decide) ?_
  refine lv_iadd hx hb dX0_goToToken_258 ?_
  obtain ⟨S41, eS41, hf⟩ := nm_o hf
  refine w_put (S1 := S41) E w in_X0_goToToken_X0 tyX0 tyX0_ok nmX0 49 (cC_at_49 t a S40) rfl 5 (by decide) fl_X0_goToToken_40 rfl rfl rfl rfl rfl (Nat.le_of_ble_eq_true rfl) ((cC_set_49_5 t a S40 ((S40 49 5) + 1)).trans (congrArg (cC t a) eS41.symm)) dX0_goToToken_259 (fun H locs w => ?_)
  exact w_retv E w hf dX0_goToToken_262
set_option maxHeartbeats 4000000 in
set_option maxRecDepth 100000 in
theorem k_X0_goToToken_213 {p : Program} {l : Launch} {e : Env} {s : State} {m : MethodId} {args : Array Value} {below : List Frame} {meth : Method} {c : Code} {D : va_G} {t : Nat → ClassId} {a : Nat → Nat} {X : State → Prop} {N : Nat} {S' : ST} (hX : XOk (aW 56 a) X) (E : EN p s m args meth c cX0_goToToken RX0 wsX0_goToToken none 1) {k149 : ST → Option ST} (hk149 : ∀ {S : ST} {H : Heap} {locs : List Loc} {ls : Array Slot}, Wd D (cC t a) (aW 56 a) (tyC t) X S s H locs → lv_has ls 1 [(0, .ref (a 49))] → k149 S = some S' → W p l e rmX0_goToToken s m args below meth c H locs 0 0 (MQ below (Qv D (cC t a) (aW 56 a) (tyC t) S') args s 0 0 (aW 56 a)) (F0 m 149 ls [])) {S : ST} {s1 : Int32} {H : Heap} {locs : List Loc} {ls : Array Slot} (w : Wd D (cC t a) (aW 56 a) (tyC t) X S s H locs) (hl : lv_has ls 1 [(0, .ref (a 49))]) (hf : b_X0_goToToken_213 N k149 S s1 = some S') : W p l e rmX0_goToToken s m args below meth c H locs 0 0 (MQ below (Qv D (cC t a) (aW 56 a) (tyC t) S') args s 0 0 (aW 56 a)) (F0 m 213 ls [.int s1, .ref (a 49)]) := by
  obtain ⟨⟨hx, hb, hml, hown, hts⟩, hr, hlk⟩ := id E
  unfold b_X0_goToToken_213 at hf
  obtain ⟨S38, eS38, hf⟩ := nm_o hf
  refine w_put (S1 := S38) E w in_X0_goToToken_X0 tyX0 tyX0_ok nmX0 49 (cC_at_49 t a S) rfl 8 (by decide) fl_X0_goToToken_118 rfl rfl rfl rfl rfl (Nat.le_of_ble_eq_true rfl) ((cC_set_49_8 t a S s1).trans (congrArg (cC t a) eS38.symm)) dX0_goToToken_213 (fun H locs w => ?_)
  refine lv_aload_n hx hb dX0_goToToken_216 rfl (lv_at hl 0 rfl) ?_
  refine lv_dup hx hb dX0_goToToken_217 rfl ?_
  refine w_get E w in_X0_goToToken_X0 49 (cC_at_49 t a S38) rfl 5 (by decide) fl_X0_goToToken_40 rfl rfl dX0_goToToken_218 ?_
  refine lv_iconst (v := 1) hx hb dX0_goToToken_221 (by decide) ?_
  refine lv_iadd hx hb dX0_goToToken_222 ?_
  obtain ⟨S39, eS39, hf⟩ := nm_o hf
  refine w_put (S1 := S39) E w in_X0_goToToken_X0 tyX0 tyX0_ok nmX0 49 (cC_at_49 t a S38) rfl 5 (by decide) fl_X0_goToToken_40 rfl rfl rfl rfl rfl (Nat.le_of_ble_eq_true rfl) ((cC_set_49_5 t a S38 ((S38 49 5) + 1)).trans (congrArg (cC t a) eS39.symm)) dX0_goToToken_223 (fun H locs w => ?_)
  refine lv_goto (tgt := 149) hx hb dX0_goToToken_226 (by decide) ?_
  exact hk149 w (lv_sub hl [0] rfl) hf
set_option maxHeartbeats 4000000 in
set_option maxRecDepth 100000 in
theorem k_X0_goToToken_149 {p : Program} {l : Launch} {e : Env} {s : State} {m : MethodId} {args : Array Value} {below : List Frame} {meth : Method} {c : Code} {D : va_G} {t : Nat → ClassId} {a : Nat → Nat} {X : State → Prop} {N : Nat} {S' : ST} (hX : XOk (aW 56 a) X) (E : EN p s m args meth c cX0_goToToken RX0 wsX0_goToToken none 1) : ∀ (n : Nat) {S : ST} {H : Heap} {locs : List Loc} {ls : Array Slot}, Wd D (cC t a) (aW 56 a) (tyC t) X S s H locs → lv_has ls 1 [(0, .ref (a 49))] → b_X0_goToToken_149 N n S = some S' → W p l e rmX0_goToToken s m args below meth c H locs 0 0 (MQ below (Qv D (cC t a) (aW 56 a) (tyC t) S') args s 0 0 (aW 56 a)) (F0 m 149 ls []) := by
  obtain ⟨⟨hx, hb, hml, hown, hts⟩, hr, hlk⟩ := id E
  intro n
  induction n with
  | zero => intro S H locs ls w hl hf; cases hf
  | succ n ih =>
    intro S H locs ls w hl hf
    unfold b_X0_goToToken_149 at hf
    refine lv_aload_n hx hb dX0_goToToken_149 rfl (lv_at hl 0 rfl) ?_
    refine w_get E w in_X0_goToToken_X0 49 (cC_at_49 t a S) rfl 5 (by decide) fl_X0_goToToken_40 rfl rfl dX0_goToToken_150 ?_
    refine lv_aload_n hx hb dX0_goToToken_153 rfl (lv_at hl 0 rfl) ?_
    refine w_get E w in_X0_goToToken_X0 49 (cC_at_49 t a S) rfl 4 (by decide) fl_X0_goToToken_39 rfl rfl dX0_goToToken_154 ?_
    refine lv_icmp_ge (tgt := 262) hx hb dX0_goToToken_157 (by decide) (fun h30 => ?_) (fun h30 => ?_)
    · replace hf := it_t h30 hf
      exact w_retv E w hf dX0_goToToken_262
    · replace hf := it_f h30 hf
      refine lv_aload_n hx hb dX0_goToToken_160 rfl (lv_at hl 0 rfl) ?_
      refine w_get E w in_X0_goToToken_X0 49 (cC_at_49 t a S) rfl 3 (by decide) fl_X0_goToToken_29 rfl rfl dX0_goToToken_161 ?_
      refine lv_aload_n hx hb dX0_goToToken_164 rfl (lv_at hl 0 rfl) ?_
      refine w_get E w in_X0_goToToken_X0 49 (cC_at_49 t a S) rfl 5 (by decide) fl_X0_goToToken_40 rfl rfl dX0_goToToken_165 ?_
      obtain ⟨h31, hf⟩ := it_n hf
      refine w_ald E w 7 0 (cC_at_7 t a S) rfl h31 rfl dX0_goToToken_168 ?_
      obtain ⟨r34, S33, h32, hf⟩ := bd2_o hf
      refine w_callSi (As := [.int (S 7 (S 49 5).toNatClampNeg)]) (rest := []) hX E w (c_X0_isFigure l hX h32) (va_cwS 1 hts gX0_goToToken_X0_isFigure rfl rfl rfl hd_X0_isFigure ⟨Nat.le_of_ble_eq_true rfl, Nat.le_of_ble_eq_true rfl⟩) rfl hl.1 rfl (Nat.le_of_ble_eq_true rfl) dX0_goToToken_169 ⟨Nat.le_refl _, Nat.le_refl _⟩ (fun H locs w => ?_)
      refine lv_if_eq (tgt := 262) hx hb dX0_goToToken_172 (by decide) (fun h35 => ?_) (fun h35 => ?_)
      · replace hf := it_t h35 hf
        exact w_retv E w hf dX0_goToToken_262
      · replace hf := it_f h35 hf
        refine lv_aload_n hx hb dX0_goToToken_175 rfl (lv_at hl 0 rfl) ?_
        refine lv_aload_n hx hb dX0_goToToken_176 rfl (lv_at hl 0 rfl) ?_
        refine w_get E w in_X0_goToToken_X0 49 (cC_at_49 t a S33) rfl 5 (by decide) fl_X0_goToToken_40 rfl rfl dX0_goToToken_177 ?_
        refine lv_aload_n hx hb dX0_goToToken_180 rfl (lv_at hl 0 rfl) ?_
        refine w_get E w in_X0_goToToken_X0 49 (cC_at_49 t a S33) rfl 7 (by decide) fl_X0_goToToken_99 rfl rfl dX0_goToToken_181 ?_
        refine lv_isub hx hb dX0_goToToken_184 ?_
        refine lv_iconst (v := 3) hx hb dX0_goToToken_185 (by decide) ?_
        refine lv_icmp_ge (tgt := 212) hx hb dX0_goToToken_186 (by decide) (fun h36 => ?_) (fun h36 => ?_)
        · replace hf := it_t h36 hf
          refine lv_iconst (v := (-1)) hx hb dX0_goToToken_212 (by decide) ?_
          exact k_X0_goToToken_213 hX E (fun w hl hf => ih w hl hf) w (lv_sub hl [0] rfl) hf
        · replace hf := it_f h36 hf
          refine lv_bipush (v := 10) hx hb dX0_goToToken_189 (by decide) ?_
          refine lv_aload_n hx hb dX0_goToToken_191 rfl (lv_at hl 0 rfl) ?_
          refine w_get E w in_X0_goToToken_X0 49 (cC_at_49 t a S33) rfl 8 (by decide) fl_X0_goToToken_118 rfl rfl dX0_goToToken_192 ?_
          refine lv_imul hx hb dX0_goToToken_195 ?_
          refine lv_aload_n hx hb dX0_goToToken_196 rfl (lv_at hl 0 rfl) ?_
          refine w_get E w in_X0_goToToken_X0 49 (cC_at_49 t a S33) rfl 3 (by decide) fl_X0_goToToken_29 rfl rfl dX0_goToToken_197 ?_
          refine lv_aload_n hx hb dX0_goToToken_200 rfl (lv_at hl 0 rfl) ?_
          refine w_get E w in_X0_goToToken_X0 49 (cC_at_49 t a S33) rfl 5 (by decide) fl_X0_goToToken_40 rfl rfl dX0_goToToken_201 ?_
          obtain ⟨h37, hf⟩ := it_n hf
          refine w_ald E w 7 0 (cC_at_7 t a S33) rfl h37 rfl dX0_goToToken_204 ?_
          refine lv_iadd hx hb dX0_goToToken_205 ?_
          refine lv_bipush (v := 48) hx hb dX0_goToToken_206 (by decide) ?_
          refine lv_isub hx hb dX0_goToToken_208 ?_
          refine lv_goto (tgt := 213) hx hb dX0_goToToken_209 (by decide) ?_
          exact k_X0_goToToken_213 hX E (fun w hl hf => ih w hl hf) w (lv_sub hl [0] rfl) hf
set_option maxHeartbeats 4000000 in
set_option maxRecDepth 100000 in
theorem k_X0_goToToken_85 {p : Program} {l : Launch} {e : Env} {s : State} {m : MethodId} {args : Array Value} {below : List Frame} {meth : Method} {c : Code} {D : va_G} {t : Nat → ClassId} {a : Nat → Nat} {X : State → Prop} {N : Nat} {S' : ST} (hX : XOk (aW 56 a) X) (E : EN p s m args meth c cX0_goToToken RX0 wsX0_goToToken none 1) : ∀ (n : Nat) {S : ST} {H : Heap} {locs : List Loc} {ls : Array Slot}, Wd D (cC t a) (aW 56 a) (tyC t) X S s H locs → lv_has ls 1 [(0, .ref (a 49))] → b_X0_goToToken_85 N n S = some S' → W p l e rmX0_goToToken s m args below meth c H locs 0 0 (MQ below (Qv D (cC t a) (aW 56 a) (tyC t) S') args s 0 0 (aW 56 a)) (F0 m 85 ls []) := by
  obtain ⟨⟨hx, hb, hml, hown, hts⟩, hr, hlk⟩ := id E
  intro n
  induction n with
  | zero => intro S H locs ls w hl hf; cases hf
  | succ n ih =>
    intro S H locs ls w hl hf
    unfold b_X0_goToToken_85 at hf
    refine lv_aload_n hx hb dX0_goToToken_85 rfl (lv_at hl 0 rfl) ?_
    refine w_get E w in_X0_goToToken_X0 49 (cC_at_49 t a S) rfl 5 (by decide) fl_X0_goToToken_40 rfl rfl dX0_goToToken_86 ?_
    refine lv_aload_n hx hb dX0_goToToken_89 rfl (lv_at hl 0 rfl) ?_
    refine w_get E w in_X0_goToToken_X0 49 (cC_at_49 t a S) rfl 4 (by decide) fl_X0_goToToken_39 rfl rfl dX0_goToToken_90 ?_
    refine lv_icmp_ge (tgt := 262) hx hb dX0_goToToken_93 (by decide) (fun h23 => ?_) (fun h23 => ?_)
    · replace hf := it_t h23 hf
      exact w_retv E w hf dX0_goToToken_262
    · replace hf := it_f h23 hf
      refine lv_aload_n hx hb dX0_goToToken_96 rfl (lv_at hl 0 rfl) ?_
      refine w_get E w in_X0_goToToken_X0 49 (cC_at_49 t a S) rfl 3 (by decide) fl_X0_goToToken_29 rfl rfl dX0_goToToken_97 ?_
      refine lv_aload_n hx hb dX0_goToToken_100 rfl (lv_at hl 0 rfl) ?_
      refine w_get E w in_X0_goToToken_X0 49 (cC_at_49 t a S) rfl 5 (by decide) fl_X0_goToToken_40 rfl rfl dX0_goToToken_101 ?_
      obtain ⟨h24, hf⟩ := it_n hf
      refine w_ald E w 7 0 (cC_at_7 t a S) rfl h24 rfl dX0_goToToken_104 ?_
      obtain ⟨r27, S26, h25, hf⟩ := bd2_o hf
      refine w_callSi (As := [.int (S 7 (S 49 5).toNatClampNeg)]) (rest := []) hX E w (c_X0_isLetter l hX h25) (va_cwS 1 hts gX0_goToToken_X0_isLetter rfl rfl rfl hd_X0_isLetter ⟨Nat.le_of_ble_eq_true rfl, Nat.le_of_ble_eq_true rfl⟩) rfl hl.1 rfl (Nat.le_of_ble_eq_true rfl) dX0_goToToken_105 ⟨Nat.le_refl _, Nat.le_refl _⟩ (fun H locs w => ?_)
      refine lv_if_eq (tgt := 262) hx hb dX0_goToToken_108 (by decide) (fun h28 => ?_) (fun h28 => ?_)
      · replace hf := it_t h28 hf
        exact w_retv E w hf dX0_goToToken_262
      · replace hf := it_f h28 hf
        refine lv_aload_n hx hb dX0_goToToken_111 rfl (lv_at hl 0 rfl) ?_
        refine lv_dup hx hb dX0_goToToken_112 rfl ?_
        refine w_get E w in_X0_goToToken_X0 49 (cC_at_49 t a S26) rfl 5 (by decide) fl_X0_goToToken_40 rfl rfl dX0_goToToken_113 ?_
        refine lv_iconst (v := 1) hx hb dX0_goToToken_116 (by decide) ?_
        refine lv_iadd hx hb dX0_goToToken_117 ?_
        obtain ⟨S29, eS29, hf⟩ := nm_o hf
        refine w_put (S1 := S29) E w in_X0_goToToken_X0 tyX0 tyX0_ok nmX0 49 (cC_at_49 t a S26) rfl 5 (by decide) fl_X0_goToToken_40 rfl rfl rfl rfl rfl (Nat.le_of_ble_eq_true rfl) ((cC_set_49_5 t a S26 ((S26 49 5) + 1)).trans (congrArg (cC t a) eS29.symm)) dX0_goToToken_118 (fun H locs w => ?_)
        refine lv_goto (tgt := 85) hx hb dX0_goToToken_121 (by decide) ?_
        exact ih w (lv_sub hl [0] rfl) hf
set_option maxHeartbeats 4000000 in
set_option maxRecDepth 100000 in
theorem k_X0_goToToken_38 {p : Program} {l : Launch} {e : Env} {s : State} {m : MethodId} {args : Array Value} {below : List Frame} {meth : Method} {c : Code} {D : va_G} {t : Nat → ClassId} {a : Nat → Nat} {X : State → Prop} {N : Nat} {S' : ST} (hX : XOk (aW 56 a) X) (E : EN p s m args meth c cX0_goToToken RX0 wsX0_goToToken none 1) {S : ST} {H : Heap} {locs : List Loc} {ls : Array Slot} (w : Wd D (cC t a) (aW 56 a) (tyC t) X S s H locs) (hl : lv_has ls 1 [(0, .ref (a 49))]) (hf : b_X0_goToToken_38 N S = some S') : W p l e rmX0_goToToken s m args below meth c H locs 0 0 (MQ below (Qv D (cC t a) (aW 56 a) (tyC t) S') args s 0 0 (aW 56 a)) (F0 m 38 ls []) := by
  obtain ⟨⟨hx, hb, hml, hown, hts⟩, hr, hlk⟩ := id E
  unfold b_X0_goToToken_38 at hf
  refine lv_aload_n hx hb dX0_goToToken_38 rfl (lv_at hl 0 rfl) ?_
  refine lv_aload_n hx hb dX0_goToToken_39 rfl (lv_at hl 0 rfl) ?_
  refine w_get E w in_X0_goToToken_X0 49 (cC_at_49 t a S) rfl 5 (by decide) fl_X0_goToToken_40 rfl rfl dX0_goToToken_40 ?_
  obtain ⟨S5, eS5, hf⟩ := nm_o hf
  refine w_put (S1 := S5) E w in_X0_goToToken_X0 tyX0 tyX0_ok nmX0 49 (cC_at_49 t a S) rfl 7 (by decide) fl_X0_goToToken_99 rfl rfl rfl rfl rfl (Nat.le_of_ble_eq_true rfl) ((cC_set_49_7 t a S (S 49 5)).trans (congrArg (cC t a) eS5.symm)) dX0_goToToken_43 (fun H locs w => ?_)
  refine lv_aload_n hx hb dX0_goToToken_46 rfl (lv_at hl 0 rfl) ?_
  refine w_get E w in_X0_goToToken_X0 49 (cC_at_49 t a S5) rfl 5 (by decide) fl_X0_goToToken_40 rfl rfl dX0_goToToken_47 ?_
  refine lv_aload_n hx hb dX0_goToToken_50 rfl (lv_at hl 0 rfl) ?_
  refine w_get E w in_X0_goToToken_X0 49 (cC_at_49 t a S5) rfl 4 (by decide) fl_X0_goToToken_39 rfl rfl dX0_goToToken_51 ?_
  refine lv_icmp_lt (tgt := 65) hx hb dX0_goToToken_54 (by decide) (fun h6 => ?_) (fun h6 => ?_)
  · replace hf := it_t h6 hf
    refine lv_aload_n hx hb dX0_goToToken_65 rfl (lv_at hl 0 rfl) ?_
    refine w_get E w in_X0_goToToken_X0 49 (cC_at_49 t a S5) rfl 3 (by decide) fl_X0_goToToken_29 rfl rfl dX0_goToToken_66 ?_
    refine lv_aload_n hx hb dX0_goToToken_69 rfl (lv_at hl 0 rfl) ?_
    refine w_get E w in_X0_goToToken_X0 49 (cC_at_49 t a S5) rfl 5 (by decide) fl_X0_goToToken_40 rfl rfl dX0_goToToken_70 ?_
    obtain ⟨h7, hf⟩ := it_n hf
    refine w_ald E w 7 0 (cC_at_7 t a S5) rfl h7 rfl dX0_goToToken_73 ?_
    obtain ⟨r10, S9, h8, hf⟩ := bd2_o hf
    refine w_callSi (As := [.int (S5 7 (S5 49 5).toNatClampNeg)]) (rest := []) hX E w (c_X0_isLetter l hX h8) (va_cwS 1 hts gX0_goToToken_X0_isLetter rfl rfl rfl hd_X0_isLetter ⟨Nat.le_of_ble_eq_true rfl, Nat.le_of_ble_eq_true rfl⟩) rfl hl.1 rfl (Nat.le_of_ble_eq_true rfl) dX0_goToToken_74 ⟨Nat.le_refl _, Nat.le_refl _⟩ (fun H locs w => ?_)
    refine lv_if_eq (tgt := 124) hx hb dX0_goToToken_77 (by decide) (fun h11 => ?_) (fun h11 => ?_)
    · replace hf := it_t h11 hf
      refine lv_aload_n hx hb dX0_goToToken_124 rfl (lv_at hl 0 rfl) ?_
      refine w_get E w in_X0_goToToken_X0 49 (cC_at_49 t a S9) rfl 3 (by decide) fl_X0_goToToken_29 rfl rfl dX0_goToToken_125 ?_
      refine lv_aload_n hx hb dX0_goToToken_128 rfl (lv_at hl 0 rfl) ?_
      refine w_get E w in_X0_goToToken_X0 49 (cC_at_49 t a S9) rfl 5 (by decide) fl_X0_goToToken_40 rfl rfl dX0_goToToken_129 ?_
      obtain ⟨h12, hf⟩ := it_n hf
      refine w_ald E w 7 0 (cC_at_7 t a S9) rfl h12 rfl dX0_goToToken_132 ?_
      obtain ⟨r15, S14, h13, hf⟩ := bd2_o hf
      refine w_callSi (As := [.int (S9 7 (S9 49 5).toNatClampNeg)]) (rest := []) hX E w (c_X0_isFigure l hX h13) (va_cwS 1 hts gX0_goToToken_X0_isFigure rfl rfl rfl hd_X0_isFigure ⟨Nat.le_of_ble_eq_true rfl, Nat.le_of_ble_eq_true rfl⟩) rfl hl.1 rfl (Nat.le_of_ble_eq_true rfl) dX0_goToToken_133 ⟨Nat.le_refl _, Nat.le_refl _⟩ (fun H locs w => ?_)
      refine lv_if_eq (tgt := 229) hx hb dX0_goToToken_136 (by decide) (fun h16 => ?_) (fun h16 => ?_)
      · replace hf := it_t h16 hf
        refine lv_aload_n hx hb dX0_goToToken_229 rfl (lv_at hl 0 rfl) ?_
        refine lv_aload_n hx hb dX0_goToToken_230 rfl (lv_at hl 0 rfl) ?_
        refine w_get E w in_X0_goToToken_X0 49 (cC_at_49 t a S14) rfl 3 (by decide) fl_X0_goToToken_29 rfl rfl dX0_goToToken_231 ?_
        refine lv_aload_n hx hb dX0_goToToken_234 rfl (lv_at hl 0 rfl) ?_
        refine w_get E w in_X0_goToToken_X0 49 (cC_at_49 t a S14) rfl 5 (by decide) fl_X0_goToToken_40 rfl rfl dX0_goToToken_235 ?_
        obtain ⟨h17, hf⟩ := it_n hf
        refine w_ald E w 7 0 (cC_at_7 t a S14) rfl h17 rfl dX0_goToToken_238 ?_
        refine lv_bipush (v := 59) hx hb dX0_goToToken_239 (by decide) ?_
        refine lv_icmp_ne (tgt := 248) hx hb dX0_goToToken_241 (by decide) (fun h18 => ?_) (fun h18 => ?_)
        · replace hf := it_f h18 hf
          refine lv_iconst (v := 4) hx hb dX0_goToToken_248 (by decide) ?_
          exact k_X0_goToToken_249 hX E w (lv_sub hl [0] rfl) hf
        · replace hf := it_t h18 hf
          refine lv_iconst (v := 3) hx hb dX0_goToToken_244 (by decide) ?_
          refine lv_goto (tgt := 249) hx hb dX0_goToToken_245 (by decide) ?_
          exact k_X0_goToToken_249 hX E w (lv_sub hl [0] rfl) hf
      · replace hf := it_f h16 hf
        refine lv_aload_n hx hb dX0_goToToken_139 rfl (lv_at hl 0 rfl) ?_
        refine lv_iconst (v := 2) hx hb dX0_goToToken_140 (by decide) ?_
        obtain ⟨S19, eS19, hf⟩ := nm_o hf
        refine w_put (S1 := S19) E w in_X0_goToToken_X0 tyX0 tyX0_ok nmX0 49 (cC_at_49 t a S14) rfl 6 (by decide) fl_X0_goToToken_49 rfl rfl rfl rfl rfl (Nat.le_of_ble_eq_true rfl) ((cC_set_49_6 t a S14 2).trans (congrArg (cC t a) eS19.symm)) dX0_goToToken_141 (fun H locs w => ?_)
        refine lv_aload_n hx hb dX0_goToToken_144 rfl (lv_at hl 0 rfl) ?_
        refine lv_iconst (v := 0) hx hb dX0_goToToken_145 (by decide) ?_
        obtain ⟨S20, eS20, hf⟩ := nm_o hf
        refine w_put (S1 := S20) E w in_X0_goToToken_X0 tyX0 tyX0_ok nmX0 49 (cC_at_49 t a S19) rfl 8 (by decide) fl_X0_goToToken_118 rfl rfl rfl rfl rfl (Nat.le_of_ble_eq_true rfl) ((cC_set_49_8 t a S19 0).trans (congrArg (cC t a) eS20.symm)) dX0_goToToken_146 (fun H locs w => ?_)
        exact k_X0_goToToken_149 hX E N w (lv_sub hl [0] rfl) hf
    · replace hf := it_f h11 hf
      refine lv_aload_n hx hb dX0_goToToken_80 rfl (lv_at hl 0 rfl) ?_
      refine lv_iconst (v := 1) hx hb dX0_goToToken_81 (by decide) ?_
      obtain ⟨S21, eS21, hf⟩ := nm_o hf
      refine w_put (S1 := S21) E w in_X0_goToToken_X0 tyX0 tyX0_ok nmX0 49 (cC_at_49 t a S9) rfl 6 (by decide) fl_X0_goToToken_49 rfl rfl rfl rfl rfl (Nat.le_of_ble_eq_true rfl) ((cC_set_49_6 t a S9 1).trans (congrArg (cC t a) eS21.symm)) dX0_goToToken_82 (fun H locs w => ?_)
      exact k_X0_goToToken_85 hX E N w (lv_sub hl [0] rfl) hf
  · replace hf := it_f h6 hf
    refine lv_aload_n hx hb dX0_goToToken_57 rfl (lv_at hl 0 rfl) ?_
    refine lv_iconst (v := 0) hx hb dX0_goToToken_58 (by decide) ?_
    obtain ⟨S22, eS22, hf⟩ := nm_o hf
    refine w_put (S1 := S22) E w in_X0_goToToken_X0 tyX0 tyX0_ok nmX0 49 (cC_at_49 t a S5) rfl 6 (by decide) fl_X0_goToToken_49 rfl rfl rfl rfl rfl (Nat.le_of_ble_eq_true rfl) ((cC_set_49_6 t a S5 0).trans (congrArg (cC t a) eS22.symm)) dX0_goToToken_59 (fun H locs w => ?_)
    refine lv_goto (tgt := 262) hx hb dX0_goToToken_62 (by decide) ?_
    exact w_retv E w hf dX0_goToToken_262
set_option maxHeartbeats 4000000 in
set_option maxRecDepth 100000 in
theorem k_X0_goToToken_0 {p : Program} {l : Launch} {e : Env} {s : State} {m : MethodId} {args : Array Value} {below : List Frame} {meth : Method} {c : Code} {D : va_G} {t : Nat → ClassId} {a : Nat → Nat} {X : State → Prop} {N : Nat} {S' : ST} (hX : XOk (aW 56 a) X) (E : EN p s m args meth c cX0_goToToken RX0 wsX0_goToToken none 1) : ∀ (n : Nat) {S : ST} {H : Heap} {locs : List Loc} {ls : Array Slot}, Wd D (cC t a) (aW 56 a) (tyC t) X S s H locs → lv_has ls 1 [(0, .ref (a 49))] → b_X0_goToToken_0 N n S = some S' → W p l e rmX0_goToToken s m args below meth c H locs 0 0 (MQ below (Qv D (cC t a) (aW 56 a) (tyC t) S') args s 0 0 (aW 56 a)) (F0 m 0 ls []) := by
  obtain ⟨⟨hx, hb, hml, hown, hts⟩, hr, hlk⟩ := id E
  intro n
  induction n with
  | zero => intro S H locs ls w hl hf; cases hf
  | succ n ih =>
    intro S H locs ls w hl hf
    unfold b_X0_goToToken_0 at hf
    refine lv_aload_n hx hb dX0_goToToken_0 rfl (lv_at hl 0 rfl) ?_
    refine w_get E w in_X0_goToToken_X0 49 (cC_at_49 t a S) rfl 5 (by decide) fl_X0_goToToken_40 rfl rfl dX0_goToToken_1 ?_
    refine lv_aload_n hx hb dX0_goToToken_4 rfl (lv_at hl 0 rfl) ?_
    refine w_get E w in_X0_goToToken_X0 49 (cC_at_49 t a S) rfl 4 (by decide) fl_X0_goToToken_39 rfl rfl dX0_goToToken_5 ?_
    refine lv_icmp_ge (tgt := 38) hx hb dX0_goToToken_8 (by decide) (fun h1 => ?_) (fun h1 => ?_)
    · replace hf := it_t h1 hf
      exact k_X0_goToToken_38 hX E w (lv_sub hl [0] rfl) hf
    · replace hf := it_f h1 hf
      refine lv_aload_n hx hb dX0_goToToken_11 rfl (lv_at hl 0 rfl) ?_
      refine w_get E w in_X0_goToToken_X0 49 (cC_at_49 t a S) rfl 3 (by decide) fl_X0_goToToken_29 rfl rfl dX0_goToToken_12 ?_
      refine lv_aload_n hx hb dX0_goToToken_15 rfl (lv_at hl 0 rfl) ?_
      refine w_get E w in_X0_goToToken_X0 49 (cC_at_49 t a S) rfl 5 (by decide) fl_X0_goToToken_40 rfl rfl dX0_goToToken_16 ?_
      obtain ⟨h2, hf⟩ := it_n hf
      refine w_ald E w 7 0 (cC_at_7 t a S) rfl h2 rfl dX0_goToToken_19 ?_
      refine lv_bipush (v := 32) hx hb dX0_goToToken_20 (by decide) ?_
      refine lv_icmp_ne (tgt := 38) hx hb dX0_goToToken_22 (by decide) (fun h3 => ?_) (fun h3 => ?_)
      · replace hf := it_f h3 hf
        exact k_X0_goToToken_38 hX E w (lv_sub hl [0] rfl) hf
      · replace hf := it_t h3 hf
        refine lv_aload_n hx hb dX0_goToToken_25 rfl (lv_at hl 0 rfl) ?_
        refine lv_dup hx hb dX0_goToToken_26 rfl ?_
        refine w_get E w in_X0_goToToken_X0 49 (cC_at_49 t a S) rfl 5 (by decide) fl_X0_goToToken_40 rfl rfl dX0_goToToken_27 ?_
        refine lv_iconst (v := 1) hx hb dX0_goToToken_30 (by decide) ?_
        refine lv_iadd hx hb dX0_goToToken_31 ?_
        obtain ⟨S4, eS4, hf⟩ := nm_o hf
        refine w_put (S1 := S4) E w in_X0_goToToken_X0 tyX0 tyX0_ok nmX0 49 (cC_at_49 t a S) rfl 5 (by decide) fl_X0_goToToken_40 rfl rfl rfl rfl rfl (Nat.le_of_ble_eq_true rfl) ((cC_set_49_5 t a S ((S 49 5) + 1)).trans (congrArg (cC t a) eS4.symm)) dX0_goToToken_32 (fun H locs w => ?_)
        refine lv_goto (tgt := 0) hx hb dX0_goToToken_35 (by decide) ?_
        exact ih w (lv_sub hl [0] rfl) hf
set_option maxHeartbeats 4000000 in
set_option maxRecDepth 100000 in
theorem k_X0_goToToken_E {p : Program} {l : Launch} {e : Env} {s : State} {m : MethodId} {args : Array Value} {below : List Frame} {meth : Method} {c : Code} {D : va_G} {t : Nat → ClassId} {a : Nat → Nat} {X : State → Prop} {N : Nat} {S' : ST} (hX : XOk (aW 56 a) X) (E : EN p s m args meth c cX0_goToToken RX0 wsX0_goToToken none 1) {S : ST} {H : Heap} {locs : List Loc} {ls : Array Slot} (w : Wd D (cC t a) (aW 56 a) (tyC t) X S s H locs) (hl : lv_has ls 1 [(0, .ref (a 49))]) (hf : f_X0_goToToken N S = some S') : W p l e rmX0_goToToken s m args below meth c H locs 0 0 (MQ below (Qv D (cC t a) (aW 56 a) (tyC t) S') args s 0 0 (aW 56 a)) (F0 m 0 ls []) := by
  obtain ⟨⟨hx, hb, hml, hown, hts⟩, hr, hlk⟩ := id E
  unfold f_X0_goToToken at hf
  exact k_X0_goToToken_0 hX E N w (lv_sub hl [0] rfl) hf
theorem c_X0_goToToken (l : Launch) {D : va_G} {t : Nat → ClassId} {a : Nat → Nat} {X : State → Prop} (hX : XOk (aW 56 a) X) {N : Nat} {S : ST} {S' : ST} (hf : f_X0_goToToken N S = some S') : Co l yX0_goToToken wsX0_goToToken rmX0_goToToken D (cC t a) (aW 56 a) (tyC t) X [.ref (a 49)] S (Qv D (cC t a) (aW 56 a) (tyC t) S') :=
  co_of (cc := cX0_goToToken) (maxL := 1) (ret := none) (lv := [(0, .ref (a 49))]) (by decide) rfl rfl (Nat.le_of_ble_eq_true rfl) rfl rfl (fun p e s m below meth c ls E hl w => k_X0_goToToken_E hX E w hl hf)
-- X0_isWord
theorem in_X0_isWord_X0 : ∀ w ∈ u_ws RX0 TX0 9, w ∈ wsX0_isWord := by decide +kernel
theorem fl_X0_isWord_49 : Cond.fieldLink RX0 49 "NextDoor$RoadReader" "token" "I" ∈ wsX0_isWord := by decide +kernel
theorem fl_X0_isWord_40 : Cond.fieldLink RX0 40 "NextDoor$RoadReader" "at" "I" ∈ wsX0_isWord := by decide +kernel
theorem fl_X0_isWord_99 : Cond.fieldLink RX0 99 "NextDoor$RoadReader" "start" "I" ∈ wsX0_isWord := by decide +kernel
theorem hd_J0_length : yJ0_length_8abf5.cls = "java/lang/String" ∧ yJ0_length_8abf5.cls ≠ "java/lang/invoke/MethodHandle" ∧ yJ0_length_8abf5.cls ≠ "java/lang/invoke/VarHandle" ∧ (parseMethodDescriptor yJ0_length_8abf5.desc).map (fun d => d.parameters.length) = some 0 := by decide +kernel
theorem fl_X0_isWord_29 : Cond.fieldLink RX0 29 "NextDoor$RoadReader" "text" "[I" ∈ wsX0_isWord := by decide +kernel
theorem hd_J0_charAt : yJ0_charAt_5068e.cls = "java/lang/String" ∧ yJ0_charAt_5068e.cls ≠ "java/lang/invoke/MethodHandle" ∧ yJ0_charAt_5068e.cls ≠ "java/lang/invoke/VarHandle" ∧ (parseMethodDescriptor yJ0_charAt_5068e.desc).map (fun d => d.parameters.length) = some 1 := by decide +kernel
abbrev rmX0_isWord : Room := { frames := 4, cells := 0, slots := 0, locals := 130 }
set_option maxHeartbeats 4000000 in
set_option maxRecDepth 100000 in
theorem k_X0_isWord_28 {p : Program} {l : Launch} {e : Env} {s : State} {m : MethodId} {args : Array Value} {below : List Frame} {meth : Method} {c : Code} {D : va_G} {t : Nat → ClassId} {a : Nat → Nat} {X : State → Prop} {N : Nat} {r : Int32} {S' : ST} (hX : XOk (aW 56 a) X) {kd vd : Nat → Nat} (hN : ∀ U : State, X U → xR kd vd a U) {i : Nat} (hi : i < 4) (E : EN p s m args meth c cX0_isWord RX0 wsX0_isWord (some .boolean) 3) : ∀ (n : Nat) {S : ST} {x2 : Int32} {H : Heap} {locs : List Loc} {ls : Array Slot}, Wd D (cC t a) (aW 56 a) (tyC t) X S s H locs → lv_has ls 3 [(0, .ref (a 49)), (1, .ref (kd i)), (2, .int x2)] → b_X0_isWord_28 N i n S x2 = some (r, S') → W p l e rmX0_isWord s m args below meth c H locs 0 0 (MQ below (Qi D (cC t a) (aW 56 a) (tyC t) r S') args s 0 0 (aW 56 a)) (F0 m 28 ls []) := by
  obtain ⟨⟨hx, hb, hml, hown, hts⟩, hr, hlk⟩ := id E
  intro n
  induction n with
  | zero => intro S x2 H locs ls w hl hf; cases hf
  | succ n ih =>
    intro S x2 H locs ls w hl hf
    unfold b_X0_isWord_28 at hf
    refine lv_iload_n hx hb dX0_isWord_28 rfl (lv_at hl 2 rfl) ?_
    refine lv_aload_n hx hb dX0_isWord_29 rfl (lv_at hl 1 rfl) ?_
    refine w_callKi (As := []) (rest := [.int x2]) hX E w (j_length l hX hN i hi) (cwV 0 hts gX0_isWord_J0_length_8abf5 rfl rfl rfl hd_J0_length ⟨(Nat.le_of_ble_eq_true rfl), (Nat.le_of_ble_eq_true rfl)⟩) (sw_rc hN w hi) rfl hl.1 rfl (Nat.le_of_ble_eq_true rfl) dX0_isWord_30 ⟨Nat.le_refl _, Nat.le_refl _⟩ (fun H locs w => ?_)
    refine lv_icmp_ge (tgt := 63) hx hb dX0_isWord_33 (by decide) (fun h3 => ?_) (fun h3 => ?_)
    · replace hf := it_t h3 hf
      refine lv_iconst (v := 1) hx hb dX0_isWord_63 (by decide) ?_
      exact w_retz E w (by decide) hf dX0_isWord_64
    · replace hf := it_f h3 hf
      refine lv_aload_n hx hb dX0_isWord_36 rfl (lv_at hl 0 rfl) ?_
      refine w_get E w in_X0_isWord_X0 49 (cC_at_49 t a S) rfl 3 (by decide) fl_X0_isWord_29 rfl rfl dX0_isWord_37 ?_
      refine lv_aload_n hx hb dX0_isWord_40 rfl (lv_at hl 0 rfl) ?_
      refine w_get E w in_X0_isWord_X0 49 (cC_at_49 t a S) rfl 7 (by decide) fl_X0_isWord_99 rfl rfl dX0_isWord_41 ?_
      refine lv_iload_n hx hb dX0_isWord_44 rfl (lv_at hl 2 rfl) ?_
      refine lv_iadd hx hb dX0_isWord_45 ?_
      obtain ⟨h4, hf⟩ := it_n hf
      refine w_ald E w 7 0 (cC_at_7 t a S) rfl h4 rfl dX0_isWord_46 ?_
      refine lv_aload_n hx hb dX0_isWord_47 rfl (lv_at hl 1 rfl) ?_
      refine lv_iload_n hx hb dX0_isWord_48 rfl (lv_at hl 2 rfl) ?_
      obtain ⟨h5, hf⟩ := it_n hf
      refine w_callKi (As := [.int x2]) (rest := [.int (S 7 ((S 49 7) + x2).toNatClampNeg)]) hX E w (j_charAtX l hX hN i hi h5) (cwV 1 hts gX0_isWord_J0_charAt_5068e rfl rfl rfl hd_J0_charAt ⟨(Nat.le_of_ble_eq_true rfl), (Nat.le_of_ble_eq_true rfl)⟩) (sw_rc hN w hi) rfl hl.1 rfl (Nat.le_of_ble_eq_true rfl) dX0_isWord_49 ⟨Nat.le_refl _, Nat.le_refl _⟩ (fun H locs w => ?_)
      refine lv_icmp_eq (tgt := 57) hx hb dX0_isWord_52 (by decide) (fun h6 => ?_) (fun h6 => ?_)
      · replace hf := it_t h6 hf
        refine lv_iinc (v := x2 + 1) (lv' := [(2, .int (x2 + 1)), (0, .ref (a 49)), (1, .ref (kd i))]) hx hb dX0_isWord_57 hl (k := 2) rfl rfl (by decide) rfl (fun ls hl => ?_)
        refine lv_goto (tgt := 28) hx hb dX0_isWord_60 (by decide) ?_
        exact ih w (lv_sub hl [1, 2, 0] rfl) hf
      · replace hf := it_f h6 hf
        refine lv_iconst (v := 0) hx hb dX0_isWord_55 (by decide) ?_
        exact w_retz E w (by decide) hf dX0_isWord_56
set_option maxHeartbeats 4000000 in
set_option maxRecDepth 100000 in
theorem k_X0_isWord_E {p : Program} {l : Launch} {e : Env} {s : State} {m : MethodId} {args : Array Value} {below : List Frame} {meth : Method} {c : Code} {D : va_G} {t : Nat → ClassId} {a : Nat → Nat} {X : State → Prop} {N : Nat} {r : Int32} {S' : ST} (hX : XOk (aW 56 a) X) {kd vd : Nat → Nat} (hN : ∀ U : State, X U → xR kd vd a U) {i : Nat} (hi : i < 4) (E : EN p s m args meth c cX0_isWord RX0 wsX0_isWord (some .boolean) 3) {S : ST} {H : Heap} {locs : List Loc} {ls : Array Slot} (w : Wd D (cC t a) (aW 56 a) (tyC t) X S s H locs) (hl : lv_has ls 3 [(0, .ref (a 49)), (1, .ref (kd i))]) (hf : f_X0_isWord N i S = some (r, S')) : W p l e rmX0_isWord s m args below meth c H locs 0 0 (MQ below (Qi D (cC t a) (aW 56 a) (tyC t) r S') args s 0 0 (aW 56 a)) (F0 m 0 ls []) := by
  obtain ⟨⟨hx, hb, hml, hown, hts⟩, hr, hlk⟩ := id E
  unfold f_X0_isWord at hf
  refine lv_aload_n hx hb dX0_isWord_0 rfl (lv_at hl 0 rfl) ?_
  refine w_get E w in_X0_isWord_X0 49 (cC_at_49 t a S) rfl 6 (by decide) fl_X0_isWord_49 rfl rfl dX0_isWord_1 ?_
  refine lv_iconst (v := 1) hx hb dX0_isWord_4 (by decide) ?_
  refine lv_icmp_ne (tgt := 24) hx hb dX0_isWord_5 (by decide) (fun h1 => ?_) (fun h1 => ?_)
  · replace hf := it_f h1 hf
    refine lv_iconst (v := 0) hx hb dX0_isWord_24 (by decide) ?_
    exact w_retz E w (by decide) hf dX0_isWord_25
  · replace hf := it_t h1 hf
    refine lv_aload_n hx hb dX0_isWord_8 rfl (lv_at hl 0 rfl) ?_
    refine w_get E w in_X0_isWord_X0 49 (cC_at_49 t a S) rfl 5 (by decide) fl_X0_isWord_40 rfl rfl dX0_isWord_9 ?_
    refine lv_aload_n hx hb dX0_isWord_12 rfl (lv_at hl 0 rfl) ?_
    refine w_get E w in_X0_isWord_X0 49 (cC_at_49 t a S) rfl 7 (by decide) fl_X0_isWord_99 rfl rfl dX0_isWord_13 ?_
    refine lv_isub hx hb dX0_isWord_16 ?_
    refine lv_aload_n hx hb dX0_isWord_17 rfl (lv_at hl 1 rfl) ?_
    refine w_callKi (As := []) (rest := [.int ((S 49 5) - (S 49 7))]) hX E w (j_length l hX hN i hi) (cwV 0 hts gX0_isWord_J0_length_8abf5 rfl rfl rfl hd_J0_length ⟨(Nat.le_of_ble_eq_true rfl), (Nat.le_of_ble_eq_true rfl)⟩) (sw_rc hN w hi) rfl hl.1 rfl (Nat.le_of_ble_eq_true rfl) dX0_isWord_18 ⟨Nat.le_refl _, Nat.le_refl _⟩ (fun H locs w => ?_)
    refine lv_icmp_eq (tgt := 26) hx hb dX0_isWord_21 (by decide) (fun h2 => ?_) (fun h2 => ?_)
    · replace hf := it_t h2 hf
      refine lv_iconst (v := 0) hx hb dX0_isWord_26 (by decide) ?_
      refine lv_istore_n (lv' := [(2, .int 0), (0, .ref (a 49)), (1, .ref (kd i))]) hx hb dX0_isWord_27 rfl hl (by decide) rfl (fun ls hl => ?_)
      exact k_X0_isWord_28 hX hN hi E N w (lv_sub hl [1, 2, 0] rfl) hf
    · replace hf := it_f h2 hf
      refine lv_iconst (v := 0) hx hb dX0_isWord_24 (by decide) ?_
      exact w_retz E w (by decide) hf dX0_isWord_25
theorem c_X0_isWord (l : Launch) {D : va_G} {t : Nat → ClassId} {a : Nat → Nat} {X : State → Prop} (hX : XOk (aW 56 a) X) {kd vd : Nat → Nat} (hN : ∀ U : State, X U → xR kd vd a U) {i : Nat} (hi : i < 4) {N : Nat} {S : ST} {r : Int32} {S' : ST} (hf : f_X0_isWord N i S = some (r, S')) : Co l yX0_isWord wsX0_isWord rmX0_isWord D (cC t a) (aW 56 a) (tyC t) X [.ref (a 49), .ref (kd i)] S (Qi D (cC t a) (aW 56 a) (tyC t) r S') :=
  co_of (cc := cX0_isWord) (maxL := 3) (ret := (some .boolean)) (lv := [(0, .ref (a 49)), (1, .ref (kd i))]) (by decide) rfl rfl (Nat.le_of_ble_eq_true rfl) rfl rfl (fun p e s m below meth c ls E hl w => k_X0_isWord_E hX hN hi E w hl hf)
-- X0_fail
theorem in_X0_fail_X0 : ∀ w ∈ u_ws RX0 TX0 9, w ∈ wsX0_fail := by decide +kernel
theorem fl_X0_fail_18 : Cond.fieldLink RX0 18 "NextDoor$RoadReader" "fault" "I" ∈ wsX0_fail := by decide +kernel
theorem fl_X0_fail_99 : Cond.fieldLink RX0 99 "NextDoor$RoadReader" "start" "I" ∈ wsX0_fail := by decide +kernel
abbrev rmX0_fail : Room := { frames := 0, cells := 0, slots := 0, locals := 0 }
set_option maxHeartbeats 4000000 in
set_option maxRecDepth 100000 in
theorem k_X0_fail_E {p : Program} {l : Launch} {e : Env} {s : State} {m : MethodId} {args : Array Value} {below : List Frame} {meth : Method} {c : Code} {D : va_G} {t : Nat → ClassId} {a : Nat → Nat} {X : State → Prop} {N : Nat} {S' : ST} (hX : XOk (aW 56 a) X) (E : EN p s m args meth c cX0_fail RX0 wsX0_fail none 1) {S : ST} {H : Heap} {locs : List Loc} {ls : Array Slot} (w : Wd D (cC t a) (aW 56 a) (tyC t) X S s H locs) (hl : lv_has ls 1 [(0, .ref (a 49))]) (hf : f_X0_fail N S = some S') : W p l e rmX0_fail s m args below meth c H locs 0 0 (MQ below (Qv D (cC t a) (aW 56 a) (tyC t) S') args s 0 0 (aW 56 a)) (F0 m 0 ls []) := by
  obtain ⟨⟨hx, hb, hml, hown, hts⟩, hr, hlk⟩ := id E
  unfold f_X0_fail at hf
  refine lv_aload_n hx hb dX0_fail_0 rfl (lv_at hl 0 rfl) ?_
  refine w_get E w in_X0_fail_X0 49 (cC_at_49 t a S) rfl 1 (by decide) fl_X0_fail_18 rfl rfl dX0_fail_1 ?_
  refine lv_iconst (v := (-1)) hx hb dX0_fail_4 (by decide) ?_
  refine lv_icmp_ne (tgt := 16) hx hb dX0_fail_5 (by decide) (fun h1 => ?_) (fun h1 => ?_)
  · replace hf := it_f h1 hf
    exact w_retv E w hf dX0_fail_16
  · replace hf := it_t h1 hf
    refine lv_aload_n hx hb dX0_fail_8 rfl (lv_at hl 0 rfl) ?_
    refine lv_aload_n hx hb dX0_fail_9 rfl (lv_at hl 0 rfl) ?_
    refine w_get E w in_X0_fail_X0 49 (cC_at_49 t a S) rfl 7 (by decide) fl_X0_fail_99 rfl rfl dX0_fail_10 ?_
    obtain ⟨S2, eS2, hf⟩ := nm_o hf
    refine w_put (S1 := S2) E w in_X0_fail_X0 tyX0 tyX0_ok nmX0 49 (cC_at_49 t a S) rfl 1 (by decide) fl_X0_fail_18 rfl rfl rfl rfl rfl (Nat.le_of_ble_eq_true rfl) ((cC_set_49_1 t a S (S 49 7)).trans (congrArg (cC t a) eS2.symm)) dX0_fail_13 (fun H locs w => ?_)
    exact w_retv E w hf dX0_fail_16
theorem c_X0_fail (l : Launch) {D : va_G} {t : Nat → ClassId} {a : Nat → Nat} {X : State → Prop} (hX : XOk (aW 56 a) X) {N : Nat} {S : ST} {S' : ST} (hf : f_X0_fail N S = some S') : Co l yX0_fail wsX0_fail rmX0_fail D (cC t a) (aW 56 a) (tyC t) X [.ref (a 49)] S (Qv D (cC t a) (aW 56 a) (tyC t) S') :=
  co_of (cc := cX0_fail) (maxL := 1) (ret := none) (lv := [(0, .ref (a 49))]) (by decide) rfl rfl (Nat.le_of_ble_eq_true rfl) rfl rfl (fun p e s m below meth c ls E hl w => k_X0_fail_E hX E w hl hf)
-- X0_takeNumber
theorem in_X0_takeNumber_X0 : ∀ w ∈ u_ws RX0 TX0 9, w ∈ wsX0_takeNumber := by decide +kernel
theorem fl_X0_takeNumber_18 : Cond.fieldLink RX0 18 "NextDoor$RoadReader" "fault" "I" ∈ wsX0_takeNumber := by decide +kernel
theorem fl_X0_takeNumber_49 : Cond.fieldLink RX0 49 "NextDoor$RoadReader" "token" "I" ∈ wsX0_takeNumber := by decide +kernel
theorem fl_X0_takeNumber_118 : Cond.fieldLink RX0 118 "NextDoor$RoadReader" "number" "I" ∈ wsX0_takeNumber := by decide +kernel
theorem ni_X0_takeNumber_X4_isIn : Cond.initialized yX4_isIn.cls ∈ wsX0_takeNumber := by decide +kernel
theorem ns_X0_takeNumber_X4_isIn : Cond.static yX4_isIn ∈ wsX0_takeNumber := by decide +kernel
theorem hd_X0_goToToken : yX0_goToToken.cls = RX0 ∧ yX0_goToToken.cls ≠ "java/lang/invoke/MethodHandle" ∧ yX0_goToToken.cls ≠ "java/lang/invoke/VarHandle" ∧ (parseMethodDescriptor yX0_goToToken.desc).map (fun d => d.parameters.length) = some 0 := by decide +kernel
theorem hd_X0_fail : yX0_fail.cls = RX0 ∧ yX0_fail.cls ≠ "java/lang/invoke/MethodHandle" ∧ yX0_fail.cls ≠ "java/lang/invoke/VarHandle" ∧ (parseMethodDescriptor yX0_fail.desc).map (fun d => d.parameters.length) = some 0 := by decide +kernel
abbrev rmX0_takeNumber : Room := { frames := 2, cells := 0, slots := 0, locals := 40 }
set_option maxHeartbeats 4000000 in
set_option maxRecDepth 100000 in
theorem k_X0_takeNumber_28 {p : Program} {l : Launch} {e : Env} {s : State} {m : MethodId} {args : Array Value} {below : List Frame} {meth : Method} {c : Code} {D : va_G} {t : Nat → ClassId} {a : Nat → Nat} {X : State → Prop} {N : Nat} {r : Int32} {S' : ST} (hX : XOk (aW 56 a) X) {kd vd : Nat → Nat} (hN : ∀ U : State, X U → xR kd vd a U) (E : EN p s m args meth c cX0_takeNumber RX0 wsX0_takeNumber (some .int) 4) {S : ST} {H : Heap} {locs : List Loc} {ls : Array Slot} (w : Wd D (cC t a) (aW 56 a) (tyC t) X S s H locs) (hl : lv_has ls 4 [(0, .ref (a 49))]) (hf : b_X0_takeNumber_28 N S = some (r, S')) : W p l e rmX0_takeNumber s m args below meth c H locs 0 0 (MQ below (Qi D (cC t a) (aW 56 a) (tyC t) r S') args s 0 0 (aW 56 a)) (F0 m 28 ls []) := by
  obtain ⟨⟨hx, hb, hml, hown, hts⟩, hr, hlk⟩ := id E
  unfold b_X0_takeNumber_28 at hf
  refine lv_aload_n hx hb dX0_takeNumber_28 rfl (lv_at hl 0 rfl) ?_
  obtain ⟨S10, h9, hf⟩ := bd1_o hf
  refine w_callVv (As := []) (rest := []) hX E w (c_X0_fail l hX h9) (cwV 0 hts gX0_takeNumber_X0_fail rfl rfl rfl hd_X0_fail ⟨Nat.le_of_ble_eq_true rfl, Nat.le_of_ble_eq_true rfl⟩) (ci := 0) rfl (cC_at_49 t a S) rfl hl.1 rfl (Nat.le_of_ble_eq_true rfl) dX0_takeNumber_29 ⟨Nat.le_refl _, Nat.le_refl _⟩ (fun H locs w => ?_)
  refine lv_iconst (v := 0) hx hb dX0_takeNumber_32 (by decide) ?_
  exact w_reti E w hf dX0_takeNumber_33
set_option maxHeartbeats 4000000 in
set_option maxRecDepth 100000 in
theorem k_X0_takeNumber_E {p : Program} {l : Launch} {e : Env} {s : State} {m : MethodId} {args : Array Value} {below : List Frame} {meth : Method} {c : Code} {D : va_G} {t : Nat → ClassId} {a : Nat → Nat} {X : State → Prop} {N : Nat} {r : Int32} {S' : ST} (hX : XOk (aW 56 a) X) {kd vd : Nat → Nat} (hN : ∀ U : State, X U → xR kd vd a U) (E : EN p s m args meth c cX0_takeNumber RX0 wsX0_takeNumber (some .int) 4) {S : ST} {x1 : Int32} {x2 : Int32} {H : Heap} {locs : List Loc} {ls : Array Slot} (w : Wd D (cC t a) (aW 56 a) (tyC t) X S s H locs) (hl : lv_has ls 4 [(0, .ref (a 49)), (1, .int x1), (2, .int x2)]) (hf : f_X0_takeNumber N S x1 x2 = some (r, S')) : W p l e rmX0_takeNumber s m args below meth c H locs 0 0 (MQ below (Qi D (cC t a) (aW 56 a) (tyC t) r S') args s 0 0 (aW 56 a)) (F0 m 0 ls []) := by
  obtain ⟨⟨hx, hb, hml, hown, hts⟩, hr, hlk⟩ := id E
  unfold f_X0_takeNumber at hf
  refine lv_aload_n hx hb dX0_takeNumber_0 rfl (lv_at hl 0 rfl) ?_
  refine w_get E w in_X0_takeNumber_X0 49 (cC_at_49 t a S) rfl 1 (by decide) fl_X0_takeNumber_18 rfl rfl dX0_takeNumber_1 ?_
  refine lv_iconst (v := (-1)) hx hb dX0_takeNumber_4 (by decide) ?_
  refine lv_icmp_ne (tgt := 28) hx hb dX0_takeNumber_5 (by decide) (fun h1 => ?_) (fun h1 => ?_)
  · replace hf := it_f h1 hf
    exact k_X0_takeNumber_28 hX hN E w (lv_sub hl [0] rfl) hf
  · replace hf := it_t h1 hf
    refine lv_aload_n hx hb dX0_takeNumber_8 rfl (lv_at hl 0 rfl) ?_
    refine w_get E w in_X0_takeNumber_X0 49 (cC_at_49 t a S) rfl 6 (by decide) fl_X0_takeNumber_49 rfl rfl dX0_takeNumber_9 ?_
    refine lv_iconst (v := 2) hx hb dX0_takeNumber_12 (by decide) ?_
    refine lv_icmp_ne (tgt := 28) hx hb dX0_takeNumber_13 (by decide) (fun h2 => ?_) (fun h2 => ?_)
    · replace hf := it_f h2 hf
      exact k_X0_takeNumber_28 hX hN E w (lv_sub hl [0] rfl) hf
    · replace hf := it_t h2 hf
      refine lv_aload_n hx hb dX0_takeNumber_16 rfl (lv_at hl 0 rfl) ?_
      refine w_get E w in_X0_takeNumber_X0 49 (cC_at_49 t a S) rfl 8 (by decide) fl_X0_takeNumber_118 rfl rfl dX0_takeNumber_17 ?_
      refine lv_iload_n hx hb dX0_takeNumber_20 rfl (lv_at hl 1 rfl) ?_
      refine lv_iload_n hx hb dX0_takeNumber_21 rfl (lv_at hl 2 rfl) ?_
      obtain ⟨r5, S4, h3, hf⟩ := bd2_o hf
      refine w_callSNi (host := "NextDoor") (As := [.int (S 49 8), .int x1, .int x2]) (rest := []) hX E w (c_X4_isIn l hX h3) ⟨va_cnB 3 hts gX0_takeNumber_X4_isIn_n121 rfl rfl rfl (hN s w.2.2.2.2).1 (hts _ ni_X0_takeNumber_X4_isIn) hd_X4_isIn ⟨Nat.le_of_ble_eq_true rfl, Nat.le_of_ble_eq_true rfl⟩, hts _ ns_X0_takeNumber_X4_isIn, trivial⟩ rfl hl.1 rfl (Nat.le_of_ble_eq_true rfl) dX0_takeNumber_22 ⟨Nat.le_refl _, Nat.le_refl _⟩ (fun H locs w => ?_)
      refine lv_if_ne (tgt := 34) hx hb dX0_takeNumber_25 (by decide) (fun h6 => ?_) (fun h6 => ?_)
      · replace hf := it_f h6 hf
        refine lv_aload_n hx hb dX0_takeNumber_34 rfl (lv_at hl 0 rfl) ?_
        refine w_get E w in_X0_takeNumber_X0 49 (cC_at_49 t a S4) rfl 8 (by decide) fl_X0_takeNumber_118 rfl rfl dX0_takeNumber_35 ?_
        refine lv_istore_n (lv' := [(3, .int (S4 49 8)), (0, .ref (a 49)), (1, .int x1), (2, .int x2)]) hx hb dX0_takeNumber_38 rfl hl (by decide) rfl (fun ls hl => ?_)
        refine lv_aload_n hx hb dX0_takeNumber_39 rfl (lv_at hl 1 rfl) ?_
        obtain ⟨S8, h7, hf⟩ := bd1_o hf
        refine w_callVv (As := []) (rest := []) hX E w (c_X0_goToToken l hX h7) (cwV 0 hts gX0_takeNumber_X0_goToToken rfl rfl rfl hd_X0_goToToken ⟨Nat.le_of_ble_eq_true rfl, Nat.le_of_ble_eq_true rfl⟩) (ci := 0) rfl (cC_at_49 t a S4) rfl hl.1 rfl (Nat.le_of_ble_eq_true rfl) dX0_takeNumber_40 ⟨Nat.le_refl _, Nat.le_refl _⟩ (fun H locs w => ?_)
        refine lv_iload_n hx hb dX0_takeNumber_43 rfl (lv_at hl 0 rfl) ?_
        exact w_reti E w hf dX0_takeNumber_44
      · replace hf := it_t h6 hf
        exact k_X0_takeNumber_28 hX hN E w (lv_sub hl [0] rfl) hf
theorem c_X0_takeNumber (l : Launch) {D : va_G} {t : Nat → ClassId} {a : Nat → Nat} {X : State → Prop} (hX : XOk (aW 56 a) X) {kd vd : Nat → Nat} (hN : ∀ U : State, X U → xR kd vd a U) {N : Nat} {S : ST} {x1 : Int32} {x2 : Int32} {r : Int32} {S' : ST} (hf : f_X0_takeNumber N S x1 x2 = some (r, S')) : Co l yX0_takeNumber wsX0_takeNumber rmX0_takeNumber D (cC t a) (aW 56 a) (tyC t) X [.ref (a 49), .int x1, .int x2] S (Qi D (cC t a) (aW 56 a) (tyC t) r S') :=
  co_of (cc := cX0_takeNumber) (maxL := 4) (ret := (some .int)) (lv := [(0, .ref (a 49)), (1, .int x1), (2, .int x2)]) (by decide) rfl rfl (Nat.le_of_ble_eq_true rfl) rfl rfl (fun p e s m below meth c ls E hl w => k_X0_takeNumber_E hX hN E w hl hf)
-- X0_takeStop
theorem in_X0_takeStop_X0 : ∀ w ∈ u_ws RX0 TX0 9, w ∈ wsX0_takeStop := by decide +kernel
theorem fl_X0_takeStop_18 : Cond.fieldLink RX0 18 "NextDoor$RoadReader" "fault" "I" ∈ wsX0_takeStop := by decide +kernel
theorem fl_X0_takeStop_49 : Cond.fieldLink RX0 49 "NextDoor$RoadReader" "token" "I" ∈ wsX0_takeStop := by decide +kernel
abbrev rmX0_takeStop : Room := { frames := 2, cells := 0, slots := 0, locals := 40 }
set_option maxHeartbeats 4000000 in
set_option maxRecDepth 100000 in
theorem k_X0_takeStop_16 {p : Program} {l : Launch} {e : Env} {s : State} {m : MethodId} {args : Array Value} {below : List Frame} {meth : Method} {c : Code} {D : va_G} {t : Nat → ClassId} {a : Nat → Nat} {X : State → Prop} {N : Nat} {r : Int32} {S' : ST} (hX : XOk (aW 56 a) X) (E : EN p s m args meth c cX0_takeStop RX0 wsX0_takeStop (some .boolean) 1) {S : ST} {H : Heap} {locs : List Loc} {ls : Array Slot} (w : Wd D (cC t a) (aW 56 a) (tyC t) X S s H locs) (hl : lv_has ls 1 [(0, .ref (a 49))]) (hf : b_X0_takeStop_16 N S = some (r, S')) : W p l e rmX0_takeStop s m args below meth c H locs 0 0 (MQ below (Qi D (cC t a) (aW 56 a) (tyC t) r S') args s 0 0 (aW 56 a)) (F0 m 16 ls []) := by
  obtain ⟨⟨hx, hb, hml, hown, hts⟩, hr, hlk⟩ := id E
  unfold b_X0_takeStop_16 at hf
  refine lv_aload_n hx hb dX0_takeStop_16 rfl (lv_at hl 0 rfl) ?_
  obtain ⟨S6, h5, hf⟩ := bd1_o hf
  refine w_callVv (As := []) (rest := []) hX E w (c_X0_fail l hX h5) (cwV 0 hts gX0_takeStop_X0_fail rfl rfl rfl hd_X0_fail ⟨Nat.le_of_ble_eq_true rfl, Nat.le_of_ble_eq_true rfl⟩) (ci := 0) rfl (cC_at_49 t a S) rfl hl.1 rfl (Nat.le_of_ble_eq_true rfl) dX0_takeStop_17 ⟨Nat.le_refl _, Nat.le_refl _⟩ (fun H locs w => ?_)
  refine lv_iconst (v := 0) hx hb dX0_takeStop_20 (by decide) ?_
  exact w_retz E w (by decide) hf dX0_takeStop_21
set_option maxHeartbeats 4000000 in
set_option maxRecDepth 100000 in
theorem k_X0_takeStop_E {p : Program} {l : Launch} {e : Env} {s : State} {m : MethodId} {args : Array Value} {below : List Frame} {meth : Method} {c : Code} {D : va_G} {t : Nat → ClassId} {a : Nat → Nat} {X : State → Prop} {N : Nat} {r : Int32} {S' : ST} (hX : XOk (aW 56 a) X) (E : EN p s m args meth c cX0_takeStop RX0 wsX0_takeStop (some .boolean) 1) {S : ST} {H : Heap} {locs : List Loc} {ls : Array Slot} (w : Wd D (cC t a) (aW 56 a) (tyC t) X S s H locs) (hl : lv_has ls 1 [(0, .ref (a 49))]) (hf : f_X0_takeStop N S = some (r, S')) : W p l e rmX0_takeStop s m args below meth c H locs 0 0 (MQ below (Qi D (cC t a) (aW 56 a) (tyC t) r S') args s 0 0 (aW 56 a)) (F0 m 0 ls []) := by
  obtain ⟨⟨hx, hb, hml, hown, hts⟩, hr, hlk⟩ := id E
  unfold f_X0_takeStop at hf
  refine lv_aload_n hx hb dX0_takeStop_0 rfl (lv_at hl 0 rfl) ?_
  refine w_get E w in_X0_takeStop_X0 49 (cC_at_49 t a S) rfl 1 (by decide) fl_X0_takeStop_18 rfl rfl dX0_takeStop_1 ?_
  refine lv_iconst (v := (-1)) hx hb dX0_takeStop_4 (by decide) ?_
  refine lv_icmp_ne (tgt := 16) hx hb dX0_takeStop_5 (by decide) (fun h1 => ?_) (fun h1 => ?_)
  · replace hf := it_f h1 hf
    exact k_X0_takeStop_16 hX E w (lv_sub hl [0] rfl) hf
  · replace hf := it_t h1 hf
    refine lv_aload_n hx hb dX0_takeStop_8 rfl (lv_at hl 0 rfl) ?_
    refine w_get E w in_X0_takeStop_X0 49 (cC_at_49 t a S) rfl 6 (by decide) fl_X0_takeStop_49 rfl rfl dX0_takeStop_9 ?_
    refine lv_iconst (v := 3) hx hb dX0_takeStop_12 (by decide) ?_
    refine lv_icmp_eq (tgt := 22) hx hb dX0_takeStop_13 (by decide) (fun h2 => ?_) (fun h2 => ?_)
    · replace hf := it_t h2 hf
      refine lv_aload_n hx hb dX0_takeStop_22 rfl (lv_at hl 0 rfl) ?_
      obtain ⟨S4, h3, hf⟩ := bd1_o hf
      refine w_callVv (As := []) (rest := []) hX E w (c_X0_goToToken l hX h3) (cwV 0 hts gX0_takeStop_X0_goToToken rfl rfl rfl hd_X0_goToToken ⟨Nat.le_of_ble_eq_true rfl, Nat.le_of_ble_eq_true rfl⟩) (ci := 0) rfl (cC_at_49 t a S) rfl hl.1 rfl (Nat.le_of_ble_eq_true rfl) dX0_takeStop_23 ⟨Nat.le_refl _, Nat.le_refl _⟩ (fun H locs w => ?_)
      refine lv_iconst (v := 1) hx hb dX0_takeStop_26 (by decide) ?_
      exact w_retz E w (by decide) hf dX0_takeStop_27
    · replace hf := it_f h2 hf
      exact k_X0_takeStop_16 hX E w (lv_sub hl [0] rfl) hf
theorem c_X0_takeStop (l : Launch) {D : va_G} {t : Nat → ClassId} {a : Nat → Nat} {X : State → Prop} (hX : XOk (aW 56 a) X) {N : Nat} {S : ST} {r : Int32} {S' : ST} (hf : f_X0_takeStop N S = some (r, S')) : Co l yX0_takeStop wsX0_takeStop rmX0_takeStop D (cC t a) (aW 56 a) (tyC t) X [.ref (a 49)] S (Qi D (cC t a) (aW 56 a) (tyC t) r S') :=
  co_of (cc := cX0_takeStop) (maxL := 1) (ret := (some .boolean)) (lv := [(0, .ref (a 49))]) (by decide) rfl rfl (Nat.le_of_ble_eq_true rfl) rfl rfl (fun p e s m below meth c ls E hl w => k_X0_takeStop_E hX E w hl hf)
-- X2_addShop_10
abbrev rmX2_addShop_10 : Room := { frames := 0, cells := 0, slots := 0, locals := 0 }
set_option maxHeartbeats 4000000 in
set_option maxRecDepth 100000 in
theorem k_X2_addShop_10_E {p : Program} {l : Launch} {e : Env} {s : State} {m : MethodId} {args : Array Value} {below : List Frame} {meth : Method} {c : Code} {D : va_G} {t : Nat → ClassId} {a : Nat → Nat} {X : State → Prop} {N : Nat} {S' : ST} (hX : XOk (aW 56 a) X) (E : EN p s m args meth c cX2_addShop RX2 wsX2_addShop none 5) {S : ST} {x1 : Int32} {x2 : Int32} {x3 : Int32} {x4 : Int32} {H : Heap} {locs : List Loc} {ls : Array Slot} (w : Wd D (cC t a) (aW 56 a) (tyC t) X S s H locs) (hl : lv_has ls 5 [(0, .ref (a 10)), (1, .int x1), (2, .int x2), (3, .int x3), (4, .int x4)]) (hf : f_X2_addShop_10 N S x1 x2 x3 x4 = some S') : W p l e rmX2_addShop_10 s m args below meth c H locs 0 0 (MQ below (Qv D (cC t a) (aW 56 a) (tyC t) S') args s 0 0 (aW 56 a)) (F0 m 0 ls []) := by
  obtain ⟨⟨hx, hb, hml, hown, hts⟩, hr, hlk⟩ := id E
  unfold f_X2_addShop_10 at hf
  refine lv_aload_n hx hb dX2_addShop_0 rfl (lv_at hl 0 rfl) ?_
  refine w_get E w in_X2_addShop_X2 10 (cC_at_10 t a S) rfl 0 (by decide) fl_X2_addShop_46 rfl rfl dX2_addShop_1 ?_
  refine lv_bipush (v := 6) hx hb dX2_addShop_4 (by decide) ?_
  refine lv_icmp_ge (tgt := 70) hx hb dX2_addShop_6 (by decide) (fun h1 => ?_) (fun h1 => ?_)
  · replace hf := it_t h1 hf
    exact w_retv E w hf dX2_addShop_70
  · replace hf := it_f h1 hf
    refine lv_aload_n hx hb dX2_addShop_9 rfl (lv_at hl 0 rfl) ?_
    refine w_get E w in_X2_addShop_X2 10 (cC_at_10 t a S) rfl 1 (by decide) fl_X2_addShop_9 rfl rfl dX2_addShop_10 ?_
    refine lv_aload_n hx hb dX2_addShop_13 rfl (lv_at hl 0 rfl) ?_
    refine w_get E w in_X2_addShop_X2 10 (cC_at_10 t a S) rfl 0 (by decide) fl_X2_addShop_46 rfl rfl dX2_addShop_14 ?_
    refine lv_iload_n hx hb dX2_addShop_17 rfl (lv_at hl 1 rfl) ?_
    obtain ⟨h3, hf⟩ := it_n hf
    obtain ⟨S2, eS2, hf⟩ := nm_o hf
    refine w_ast (S1 := S2) E w 11 0 (cC_at_11 t a S) rfl h3 rfl ((cC_st_11 t a S ((S 10 0).toNatClampNeg) x1).trans (congrArg (cC t a) eS2.symm)) dX2_addShop_18 (fun H locs w => ?_)
    refine lv_aload_n hx hb dX2_addShop_19 rfl (lv_at hl 0 rfl) ?_
    refine w_get E w in_X2_addShop_X2 10 (cC_at_10 t a S2) rfl 2 (by decide) fl_X2_addShop_15 rfl rfl dX2_addShop_20 ?_
    refine lv_aload_n hx hb dX2_addShop_23 rfl (lv_at hl 0 rfl) ?_
    refine w_get E w in_X2_addShop_X2 10 (cC_at_10 t a S2) rfl 0 (by decide) fl_X2_addShop_46 rfl rfl dX2_addShop_24 ?_
    refine lv_iload_n hx hb dX2_addShop_27 rfl (lv_at hl 2 rfl) ?_
    obtain ⟨h5, hf⟩ := it_n hf
    obtain ⟨S4, eS4, hf⟩ := nm_o hf
    refine w_ast (S1 := S4) E w 12 0 (cC_at_12 t a S2) rfl h5 rfl ((cC_st_12 t a S2 ((S2 10 0).toNatClampNeg) x2).trans (congrArg (cC t a) eS4.symm)) dX2_addShop_28 (fun H locs w => ?_)
    refine lv_aload_n hx hb dX2_addShop_29 rfl (lv_at hl 0 rfl) ?_
    refine w_get E w in_X2_addShop_X2 10 (cC_at_10 t a S4) rfl 3 (by decide) fl_X2_addShop_18 rfl rfl dX2_addShop_30 ?_
    refine lv_aload_n hx hb dX2_addShop_33 rfl (lv_at hl 0 rfl) ?_
    refine w_get E w in_X2_addShop_X2 10 (cC_at_10 t a S4) rfl 0 (by decide) fl_X2_addShop_46 rfl rfl dX2_addShop_34 ?_
    refine lv_iload_n hx hb dX2_addShop_37 rfl (lv_at hl 3 rfl) ?_
    obtain ⟨h7, hf⟩ := it_n hf
    obtain ⟨S6, eS6, hf⟩ := nm_o hf
    refine w_ast (S1 := S6) E w 13 0 (cC_at_13 t a S4) rfl h7 rfl ((cC_st_13 t a S4 ((S4 10 0).toNatClampNeg) x3).trans (congrArg (cC t a) eS6.symm)) dX2_addShop_38 (fun H locs w => ?_)
    refine lv_aload_n hx hb dX2_addShop_39 rfl (lv_at hl 0 rfl) ?_
    refine w_get E w in_X2_addShop_X2 10 (cC_at_10 t a S6) rfl 4 (by decide) fl_X2_addShop_21 rfl rfl dX2_addShop_40 ?_
    refine lv_aload_n hx hb dX2_addShop_43 rfl (lv_at hl 0 rfl) ?_
    refine w_get E w in_X2_addShop_X2 10 (cC_at_10 t a S6) rfl 0 (by decide) fl_X2_addShop_46 rfl rfl dX2_addShop_44 ?_
    refine lv_iload hx hb dX2_addShop_47 (lv_at hl 4 rfl) ?_
    obtain ⟨h9, hf⟩ := it_n hf
    obtain ⟨S8, eS8, hf⟩ := nm_o hf
    refine w_ast (S1 := S8) E w 14 0 (cC_at_14 t a S6) rfl h9 rfl ((cC_st_14 t a S6 ((S6 10 0).toNatClampNeg) x4).trans (congrArg (cC t a) eS8.symm)) dX2_addShop_49 (fun H locs w => ?_)
    refine lv_aload_n hx hb dX2_addShop_50 rfl (lv_at hl 0 rfl) ?_
    refine w_get E w in_X2_addShop_X2 10 (cC_at_10 t a S8) rfl 5 (by decide) fl_X2_addShop_24 rfl rfl dX2_addShop_51 ?_
    refine lv_aload_n hx hb dX2_addShop_54 rfl (lv_at hl 0 rfl) ?_
    refine w_get E w in_X2_addShop_X2 10 (cC_at_10 t a S8) rfl 0 (by decide) fl_X2_addShop_46 rfl rfl dX2_addShop_55 ?_
    refine lv_iconst (v := 0) hx hb dX2_addShop_58 (by decide) ?_
    obtain ⟨h11, hf⟩ := it_n hf
    obtain ⟨S10, eS10, hf⟩ := nm_o hf
    refine w_ast (S1 := S10) E w 15 0 (cC_at_15 t a S8) rfl h11 rfl ((cC_st_15 t a S8 ((S8 10 0).toNatClampNeg) 0).trans (congrArg (cC t a) eS10.symm)) dX2_addShop_59 (fun H locs w => ?_)
    refine lv_aload_n hx hb dX2_addShop_60 rfl (lv_at hl 0 rfl) ?_
    refine lv_dup hx hb dX2_addShop_61 rfl ?_
    refine w_get E w in_X2_addShop_X2 10 (cC_at_10 t a S10) rfl 0 (by decide) fl_X2_addShop_46 rfl rfl dX2_addShop_62 ?_
    refine lv_iconst (v := 1) hx hb dX2_addShop_65 (by decide) ?_
    refine lv_iadd hx hb dX2_addShop_66 ?_
    obtain ⟨S12, eS12, hf⟩ := nm_o hf
    refine w_put (S1 := S12) E w in_X2_addShop_X2 tyX2 tyX2_ok nmX2 10 (cC_at_10 t a S10) rfl 0 (by decide) fl_X2_addShop_46 rfl rfl rfl rfl rfl (Nat.le_of_ble_eq_true rfl) ((cC_set_10_0 t a S10 ((S10 10 0) + 1)).trans (congrArg (cC t a) eS12.symm)) dX2_addShop_67 (fun H locs w => ?_)
    exact w_retv E w hf dX2_addShop_70
theorem c_X2_addShop_10 (l : Launch) {D : va_G} {t : Nat → ClassId} {a : Nat → Nat} {X : State → Prop} (hX : XOk (aW 56 a) X) {N : Nat} {S : ST} {x1 : Int32} {x2 : Int32} {x3 : Int32} {x4 : Int32} {S' : ST} (hf : f_X2_addShop_10 N S x1 x2 x3 x4 = some S') : Co l yX2_addShop wsX2_addShop rmX2_addShop_10 D (cC t a) (aW 56 a) (tyC t) X [.ref (a 10), .int x1, .int x2, .int x3, .int x4] S (Qv D (cC t a) (aW 56 a) (tyC t) S') :=
  co_of (cc := cX2_addShop) (maxL := 5) (ret := none) (lv := [(0, .ref (a 10)), (1, .int x1), (2, .int x2), (3, .int x3), (4, .int x4)]) (by decide) rfl rfl (Nat.le_of_ble_eq_true rfl) rfl rfl (fun p e s m below meth c ls E hl w => k_X2_addShop_10_E hX E w hl hf)
-- X0_readShop
theorem hd_X0_takeNumber : yX0_takeNumber.cls = RX0 ∧ yX0_takeNumber.cls ≠ "java/lang/invoke/MethodHandle" ∧ yX0_takeNumber.cls ≠ "java/lang/invoke/VarHandle" ∧ (parseMethodDescriptor yX0_takeNumber.desc).map (fun d => d.parameters.length) = some 2 := by decide +kernel
theorem hd_X0_takeStop : yX0_takeStop.cls = RX0 ∧ yX0_takeStop.cls ≠ "java/lang/invoke/MethodHandle" ∧ yX0_takeStop.cls ≠ "java/lang/invoke/VarHandle" ∧ (parseMethodDescriptor yX0_takeStop.desc).map (fun d => d.parameters.length) = some 0 := by decide +kernel
theorem in_X0_readShop_X0 : ∀ w ∈ u_ws RX0 TX0 9, w ∈ wsX0_readShop := by decide +kernel
theorem fl_X0_readShop_12 : Cond.fieldLink RX0 12 "NextDoor$RoadReader" "draft" "LNextDoor$Street;" ∈ wsX0_readShop := by decide +kernel
abbrev rmX0_readShop : Room := { frames := 3, cells := 0, slots := 0, locals := 63 }
set_option maxHeartbeats 4000000 in
set_option maxRecDepth 100000 in
theorem k_X0_readShop_E {p : Program} {l : Launch} {e : Env} {s : State} {m : MethodId} {args : Array Value} {below : List Frame} {meth : Method} {c : Code} {D : va_G} {t : Nat → ClassId} {a : Nat → Nat} {X : State → Prop} {N : Nat} {S' : ST} (hX : XOk (aW 56 a) X) {kd vd : Nat → Nat} (hN : ∀ U : State, X U → xR kd vd a U) (E : EN p s m args meth c cX0_readShop RX0 wsX0_readShop none 5) {S : ST} {H : Heap} {locs : List Loc} {ls : Array Slot} (w : Wd D (cC t a) (aW 56 a) (tyC t) X S s H locs) (hl : lv_has ls 5 [(0, .ref (a 49))]) (hf : f_X0_readShop N S = some S') : W p l e rmX0_readShop s m args below meth c H locs 0 0 (MQ below (Qv D (cC t a) (aW 56 a) (tyC t) S') args s 0 0 (aW 56 a)) (F0 m 0 ls []) := by
  obtain ⟨⟨hx, hb, hml, hown, hts⟩, hr, hlk⟩ := id E
  unfold f_X0_readShop at hf
  refine lv_aload_n hx hb dX0_readShop_0 rfl (lv_at hl 0 rfl) ?_
  obtain ⟨S2, h1, hf⟩ := bd1_o hf
  refine w_callVv (As := []) (rest := []) hX E w (c_X0_goToToken l hX h1) (cwV 0 hts gX0_readShop_X0_goToToken rfl rfl rfl hd_X0_goToToken ⟨Nat.le_of_ble_eq_true rfl, Nat.le_of_ble_eq_true rfl⟩) (ci := 0) rfl (cC_at_49 t a S) rfl hl.1 rfl (Nat.le_of_ble_eq_true rfl) dX0_readShop_1 ⟨Nat.le_refl _, Nat.le_refl _⟩ (fun H locs w => ?_)
  refine lv_aload_n hx hb dX0_readShop_4 rfl (lv_at hl 0 rfl) ?_
  refine lv_iconst (v := 0) hx hb dX0_readShop_5 (by decide) ?_
  refine lv_iconst (v := 5) hx hb dX0_readShop_6 (by decide) ?_
  obtain ⟨r5, S4, h3, hf⟩ := bd2_o hf
  refine w_callVi (As := [.int 0, .int 5]) (rest := []) hX E w (c_X0_takeNumber l hX hN h3) (cwV 2 hts gX0_readShop_X0_takeNumber rfl rfl rfl hd_X0_takeNumber ⟨Nat.le_of_ble_eq_true rfl, Nat.le_of_ble_eq_true rfl⟩) (ci := 0) rfl (cC_at_49 t a S2) rfl hl.1 rfl (Nat.le_of_ble_eq_true rfl) dX0_readShop_7 ⟨Nat.le_refl _, Nat.le_refl _⟩ (fun H locs w => ?_)
  refine lv_istore_n (lv' := [(1, .int r5), (0, .ref (a 49))]) hx hb dX0_readShop_10 rfl hl (by decide) rfl (fun ls hl => ?_)
  refine lv_aload_n hx hb dX0_readShop_11 rfl (lv_at hl 1 rfl) ?_
  refine lv_iconst (v := 0) hx hb dX0_readShop_12 (by decide) ?_
  refine lv_bipush (v := 20) hx hb dX0_readShop_13 (by decide) ?_
  obtain ⟨r8, S7, h6, hf⟩ := bd2_o hf
  refine w_callVi (As := [.int 0, .int 20]) (rest := []) hX E w (c_X0_takeNumber l hX hN h6) (cwV 2 hts gX0_readShop_X0_takeNumber rfl rfl rfl hd_X0_takeNumber ⟨Nat.le_of_ble_eq_true rfl, Nat.le_of_ble_eq_true rfl⟩) (ci := 0) rfl (cC_at_49 t a S4) rfl hl.1 rfl (Nat.le_of_ble_eq_true rfl) dX0_readShop_15 ⟨Nat.le_refl _, Nat.le_refl _⟩ (fun H locs w => ?_)
  refine lv_istore_n (lv' := [(2, .int r8), (1, .int r5), (0, .ref (a 49))]) hx hb dX0_readShop_18 rfl hl (by decide) rfl (fun ls hl => ?_)
  refine lv_aload_n hx hb dX0_readShop_19 rfl (lv_at hl 2 rfl) ?_
  refine lv_iconst (v := 1) hx hb dX0_readShop_20 (by decide) ?_
  refine lv_bipush (v := 30) hx hb dX0_readShop_21 (by decide) ?_
  obtain ⟨r11, S10, h9, hf⟩ := bd2_o hf
  refine w_callVi (As := [.int 1, .int 30]) (rest := []) hX E w (c_X0_takeNumber l hX hN h9) (cwV 2 hts gX0_readShop_X0_takeNumber rfl rfl rfl hd_X0_takeNumber ⟨Nat.le_of_ble_eq_true rfl, Nat.le_of_ble_eq_true rfl⟩) (ci := 0) rfl (cC_at_49 t a S7) rfl hl.1 rfl (Nat.le_of_ble_eq_true rfl) dX0_readShop_23 ⟨Nat.le_refl _, Nat.le_refl _⟩ (fun H locs w => ?_)
  refine lv_istore_n (lv' := [(3, .int r11), (2, .int r8), (1, .int r5), (0, .ref (a 49))]) hx hb dX0_readShop_26 rfl hl (by decide) rfl (fun ls hl => ?_)
  refine lv_aload_n hx hb dX0_readShop_27 rfl (lv_at hl 3 rfl) ?_
  refine lv_iconst (v := 0) hx hb dX0_readShop_28 (by decide) ?_
  refine lv_sipush (v := 240) hx hb dX0_readShop_29 (by decide) ?_
  obtain ⟨r14, S13, h12, hf⟩ := bd2_o hf
  refine w_callVi (As := [.int 0, .int 240]) (rest := []) hX E w (c_X0_takeNumber l hX hN h12) (cwV 2 hts gX0_readShop_X0_takeNumber rfl rfl rfl hd_X0_takeNumber ⟨Nat.le_of_ble_eq_true rfl, Nat.le_of_ble_eq_true rfl⟩) (ci := 0) rfl (cC_at_49 t a S10) rfl hl.1 rfl (Nat.le_of_ble_eq_true rfl) dX0_readShop_32 ⟨Nat.le_refl _, Nat.le_refl _⟩ (fun H locs w => ?_)
  refine lv_istore (lv' := [(4, .int r14), (3, .int r11), (2, .int r8), (1, .int r5), (0, .ref (a 49))]) hx hb dX0_readShop_35 hl (by decide) rfl (fun ls hl => ?_)
  refine lv_aload_n hx hb dX0_readShop_37 rfl (lv_at hl 4 rfl) ?_
  obtain ⟨r17, S16, h15, hf⟩ := bd2_o hf
  refine w_callVi (As := []) (rest := []) hX E w (c_X0_takeStop l hX h15) (cwV 0 hts gX0_readShop_X0_takeStop rfl rfl rfl hd_X0_takeStop ⟨Nat.le_of_ble_eq_true rfl, Nat.le_of_ble_eq_true rfl⟩) (ci := 0) rfl (cC_at_49 t a S13) rfl hl.1 rfl (Nat.le_of_ble_eq_true rfl) dX0_readShop_38 ⟨Nat.le_refl _, Nat.le_refl _⟩ (fun H locs w => ?_)
  refine lv_if_eq (tgt := 56) hx hb dX0_readShop_41 (by decide) (fun h18 => ?_) (fun h18 => ?_)
  · replace hf := it_t h18 hf
    exact w_retv E w hf dX0_readShop_56
  · replace hf := it_f h18 hf
    refine lv_aload_n hx hb dX0_readShop_44 rfl (lv_at hl 4 rfl) ?_
    refine w_get E w in_X0_readShop_X0 49 (cC_at_49 t a S16) rfl 0 (by decide) fl_X0_readShop_12 rfl rfl dX0_readShop_45 ?_
    refine lv_iload_n hx hb dX0_readShop_48 rfl (lv_at hl 3 rfl) ?_
    refine lv_iload_n hx hb dX0_readShop_49 rfl (lv_at hl 2 rfl) ?_
    refine lv_iload_n hx hb dX0_readShop_50 rfl (lv_at hl 1 rfl) ?_
    refine lv_iload hx hb dX0_readShop_51 (lv_at hl 0 rfl) ?_
    obtain ⟨S20, h19, hf⟩ := bd1_o hf
    refine w_callVv (As := [.int r5, .int r8, .int r11, .int r14]) (rest := []) hX E w (c_X2_addShop_10 l hX h19) (cwV 4 hts gX0_readShop_X2_addShop rfl rfl rfl hd_X2_addShop ⟨Nat.le_of_ble_eq_true rfl, Nat.le_of_ble_eq_true rfl⟩) (ci := 2) rfl (cC_at_10 t a S16) rfl hl.1 rfl (Nat.le_of_ble_eq_true rfl) dX0_readShop_53 ⟨Nat.le_refl _, Nat.le_refl _⟩ (fun H locs w => ?_)
    exact w_retv E w hf dX0_readShop_56
theorem c_X0_readShop (l : Launch) {D : va_G} {t : Nat → ClassId} {a : Nat → Nat} {X : State → Prop} (hX : XOk (aW 56 a) X) {kd vd : Nat → Nat} (hN : ∀ U : State, X U → xR kd vd a U) {N : Nat} {S : ST} {S' : ST} (hf : f_X0_readShop N S = some S') : Co l yX0_readShop wsX0_readShop rmX0_readShop D (cC t a) (aW 56 a) (tyC t) X [.ref (a 49)] S (Qv D (cC t a) (aW 56 a) (tyC t) S') :=
  co_of (cc := cX0_readShop) (maxL := 5) (ret := none) (lv := [(0, .ref (a 49))]) (by decide) rfl rfl (Nat.le_of_ble_eq_true rfl) rfl rfl (fun p e s m below meth c ls E hl w => k_X0_readShop_E hX hN E w hl hf)
-- X2_addBought_10
theorem in_X2_addBought_X2 : ∀ w ∈ u_ws RX2 TX2 16, w ∈ wsX2_addBought := by decide +kernel
theorem fl_X2_addBought_52 : Cond.fieldLink RX2 52 "NextDoor$Street" "bought" "I" ∈ wsX2_addBought := by decide +kernel
theorem fl_X2_addBought_34 : Cond.fieldLink RX2 34 "NextDoor$Street" "errand" "[I" ∈ wsX2_addBought := by decide +kernel
abbrev rmX2_addBought_10 : Room := { frames := 0, cells := 0, slots := 0, locals := 0 }
set_option maxHeartbeats 4000000 in
set_option maxRecDepth 100000 in
theorem k_X2_addBought_10_E {p : Program} {l : Launch} {e : Env} {s : State} {m : MethodId} {args : Array Value} {below : List Frame} {meth : Method} {c : Code} {D : va_G} {t : Nat → ClassId} {a : Nat → Nat} {X : State → Prop} {N : Nat} {S' : ST} (hX : XOk (aW 56 a) X) (E : EN p s m args meth c cX2_addBought RX2 wsX2_addBought none 2) {S : ST} {x1 : Int32} {H : Heap} {locs : List Loc} {ls : Array Slot} (w : Wd D (cC t a) (aW 56 a) (tyC t) X S s H locs) (hl : lv_has ls 2 [(0, .ref (a 10)), (1, .int x1)]) (hf : f_X2_addBought_10 N S x1 = some S') : W p l e rmX2_addBought_10 s m args below meth c H locs 0 0 (MQ below (Qv D (cC t a) (aW 56 a) (tyC t) S') args s 0 0 (aW 56 a)) (F0 m 0 ls []) := by
  obtain ⟨⟨hx, hb, hml, hown, hts⟩, hr, hlk⟩ := id E
  unfold f_X2_addBought_10 at hf
  refine lv_aload_n hx hb dX2_addBought_0 rfl (lv_at hl 0 rfl) ?_
  refine w_get E w in_X2_addBought_X2 10 (cC_at_10 t a S) rfl 9 (by decide) fl_X2_addBought_52 rfl rfl dX2_addBought_1 ?_
  refine lv_bipush (v := 12) hx hb dX2_addBought_4 (by decide) ?_
  refine lv_icmp_ge (tgt := 29) hx hb dX2_addBought_6 (by decide) (fun h1 => ?_) (fun h1 => ?_)
  · replace hf := it_t h1 hf
    exact w_retv E w hf dX2_addBought_29
  · replace hf := it_f h1 hf
    refine lv_aload_n hx hb dX2_addBought_9 rfl (lv_at hl 0 rfl) ?_
    refine w_get E w in_X2_addBought_X2 10 (cC_at_10 t a S) rfl 10 (by decide) fl_X2_addBought_34 rfl rfl dX2_addBought_10 ?_
    refine lv_aload_n hx hb dX2_addBought_13 rfl (lv_at hl 0 rfl) ?_
    refine w_get E w in_X2_addBought_X2 10 (cC_at_10 t a S) rfl 9 (by decide) fl_X2_addBought_52 rfl rfl dX2_addBought_14 ?_
    refine lv_iload_n hx hb dX2_addBought_17 rfl (lv_at hl 1 rfl) ?_
    obtain ⟨h3, hf⟩ := it_n hf
    obtain ⟨S2, eS2, hf⟩ := nm_o hf
    refine w_ast (S1 := S2) E w 16 0 (cC_at_16 t a S) rfl h3 rfl ((cC_st_16 t a S ((S 10 9).toNatClampNeg) x1).trans (congrArg (cC t a) eS2.symm)) dX2_addBought_18 (fun H locs w => ?_)
    refine lv_aload_n hx hb dX2_addBought_19 rfl (lv_at hl 0 rfl) ?_
    refine lv_dup hx hb dX2_addBought_20 rfl ?_
    refine w_get E w in_X2_addBought_X2 10 (cC_at_10 t a S2) rfl 9 (by decide) fl_X2_addBought_52 rfl rfl dX2_addBought_21 ?_
    refine lv_iconst (v := 1) hx hb dX2_addBought_24 (by decide) ?_
    refine lv_iadd hx hb dX2_addBought_25 ?_
    obtain ⟨S4, eS4, hf⟩ := nm_o hf
    refine w_put (S1 := S4) E w in_X2_addBought_X2 tyX2 tyX2_ok nmX2 10 (cC_at_10 t a S2) rfl 9 (by decide) fl_X2_addBought_52 rfl rfl rfl rfl rfl (Nat.le_of_ble_eq_true rfl) ((cC_set_10_9 t a S2 ((S2 10 9) + 1)).trans (congrArg (cC t a) eS4.symm)) dX2_addBought_26 (fun H locs w => ?_)
    exact w_retv E w hf dX2_addBought_29
theorem c_X2_addBought_10 (l : Launch) {D : va_G} {t : Nat → ClassId} {a : Nat → Nat} {X : State → Prop} (hX : XOk (aW 56 a) X) {N : Nat} {S : ST} {x1 : Int32} {S' : ST} (hf : f_X2_addBought_10 N S x1 = some S') : Co l yX2_addBought wsX2_addBought rmX2_addBought_10 D (cC t a) (aW 56 a) (tyC t) X [.ref (a 10), .int x1] S (Qv D (cC t a) (aW 56 a) (tyC t) S') :=
  co_of (cc := cX2_addBought) (maxL := 2) (ret := none) (lv := [(0, .ref (a 10)), (1, .int x1)]) (by decide) rfl rfl (Nat.le_of_ble_eq_true rfl) rfl rfl (fun p e s m below meth c ls E hl w => k_X2_addBought_10_E hX E w hl hf)
-- X0_readBuy
theorem in_X0_readBuy_X0 : ∀ w ∈ u_ws RX0 TX0 9, w ∈ wsX0_readBuy := by decide +kernel
theorem fl_X0_readBuy_12 : Cond.fieldLink RX0 12 "NextDoor$RoadReader" "draft" "LNextDoor$Street;" ∈ wsX0_readBuy := by decide +kernel
theorem in_X0_readBuy_X2 : ∀ w ∈ u_ws RX2 TX2 16, w ∈ wsX0_readBuy := by decide +kernel
theorem fl_X0_readBuy_61 : Cond.fieldLink RX0 61 "NextDoor$Street" "shops" "I" ∈ wsX0_readBuy := by decide +kernel
theorem hd_X2_addBought : yX2_addBought.cls = RX2 ∧ yX2_addBought.cls ≠ "java/lang/invoke/MethodHandle" ∧ yX2_addBought.cls ≠ "java/lang/invoke/VarHandle" ∧ (parseMethodDescriptor yX2_addBought.desc).map (fun d => d.parameters.length) = some 1 := by decide +kernel
abbrev rmX0_readBuy : Room := { frames := 3, cells := 0, slots := 0, locals := 63 }
set_option maxHeartbeats 4000000 in
set_option maxRecDepth 100000 in
theorem k_X0_readBuy_E {p : Program} {l : Launch} {e : Env} {s : State} {m : MethodId} {args : Array Value} {below : List Frame} {meth : Method} {c : Code} {D : va_G} {t : Nat → ClassId} {a : Nat → Nat} {X : State → Prop} {N : Nat} {S' : ST} (hX : XOk (aW 56 a) X) {kd vd : Nat → Nat} (hN : ∀ U : State, X U → xR kd vd a U) (E : EN p s m args meth c cX0_readBuy RX0 wsX0_readBuy none 2) {S : ST} {H : Heap} {locs : List Loc} {ls : Array Slot} (w : Wd D (cC t a) (aW 56 a) (tyC t) X S s H locs) (hl : lv_has ls 2 [(0, .ref (a 49))]) (hf : f_X0_readBuy N S = some S') : W p l e rmX0_readBuy s m args below meth c H locs 0 0 (MQ below (Qv D (cC t a) (aW 56 a) (tyC t) S') args s 0 0 (aW 56 a)) (F0 m 0 ls []) := by
  obtain ⟨⟨hx, hb, hml, hown, hts⟩, hr, hlk⟩ := id E
  unfold f_X0_readBuy at hf
  refine lv_aload_n hx hb dX0_readBuy_0 rfl (lv_at hl 0 rfl) ?_
  obtain ⟨S2, h1, hf⟩ := bd1_o hf
  refine w_callVv (As := []) (rest := []) hX E w (c_X0_goToToken l hX h1) (cwV 0 hts gX0_readBuy_X0_goToToken rfl rfl rfl hd_X0_goToToken ⟨Nat.le_of_ble_eq_true rfl, Nat.le_of_ble_eq_true rfl⟩) (ci := 0) rfl (cC_at_49 t a S) rfl hl.1 rfl (Nat.le_of_ble_eq_true rfl) dX0_readBuy_1 ⟨Nat.le_refl _, Nat.le_refl _⟩ (fun H locs w => ?_)
  refine lv_aload_n hx hb dX0_readBuy_4 rfl (lv_at hl 0 rfl) ?_
  refine lv_iconst (v := 0) hx hb dX0_readBuy_5 (by decide) ?_
  refine lv_aload_n hx hb dX0_readBuy_6 rfl (lv_at hl 0 rfl) ?_
  refine w_get E w in_X0_readBuy_X0 49 (cC_at_49 t a S2) rfl 0 (by decide) fl_X0_readBuy_12 rfl rfl dX0_readBuy_7 ?_
  refine w_get E w in_X0_readBuy_X2 10 (cC_at_10 t a S2) rfl 0 (by decide) fl_X0_readBuy_61 rfl rfl dX0_readBuy_10 ?_
  refine lv_iconst (v := 1) hx hb dX0_readBuy_13 (by decide) ?_
  refine lv_isub hx hb dX0_readBuy_14 ?_
  obtain ⟨r5, S4, h3, hf⟩ := bd2_o hf
  refine w_callVi (As := [.int 0, .int ((S2 10 0) - 1)]) (rest := []) hX E w (c_X0_takeNumber l hX hN h3) (cwV 2 hts gX0_readBuy_X0_takeNumber rfl rfl rfl hd_X0_takeNumber ⟨Nat.le_of_ble_eq_true rfl, Nat.le_of_ble_eq_true rfl⟩) (ci := 0) rfl (cC_at_49 t a S2) rfl hl.1 rfl (Nat.le_of_ble_eq_true rfl) dX0_readBuy_15 ⟨Nat.le_refl _, Nat.le_refl _⟩ (fun H locs w => ?_)
  refine lv_istore_n (lv' := [(1, .int r5), (0, .ref (a 49))]) hx hb dX0_readBuy_18 rfl hl (by decide) rfl (fun ls hl => ?_)
  refine lv_aload_n hx hb dX0_readBuy_19 rfl (lv_at hl 1 rfl) ?_
  obtain ⟨r8, S7, h6, hf⟩ := bd2_o hf
  refine w_callVi (As := []) (rest := []) hX E w (c_X0_takeStop l hX h6) (cwV 0 hts gX0_readBuy_X0_takeStop rfl rfl rfl hd_X0_takeStop ⟨Nat.le_of_ble_eq_true rfl, Nat.le_of_ble_eq_true rfl⟩) (ci := 0) rfl (cC_at_49 t a S4) rfl hl.1 rfl (Nat.le_of_ble_eq_true rfl) dX0_readBuy_20 ⟨Nat.le_refl _, Nat.le_refl _⟩ (fun H locs w => ?_)
  refine lv_if_eq (tgt := 34) hx hb dX0_readBuy_23 (by decide) (fun h9 => ?_) (fun h9 => ?_)
  · replace hf := it_t h9 hf
    exact w_retv E w hf dX0_readBuy_34
  · replace hf := it_f h9 hf
    refine lv_aload_n hx hb dX0_readBuy_26 rfl (lv_at hl 1 rfl) ?_
    refine w_get E w in_X0_readBuy_X0 49 (cC_at_49 t a S7) rfl 0 (by decide) fl_X0_readBuy_12 rfl rfl dX0_readBuy_27 ?_
    refine lv_iload_n hx hb dX0_readBuy_30 rfl (lv_at hl 0 rfl) ?_
    obtain ⟨S11, h10, hf⟩ := bd1_o hf
    refine w_callVv (As := [.int r5]) (rest := []) hX E w (c_X2_addBought_10 l hX h10) (cwV 1 hts gX0_readBuy_X2_addBought rfl rfl rfl hd_X2_addBought ⟨Nat.le_of_ble_eq_true rfl, Nat.le_of_ble_eq_true rfl⟩) (ci := 2) rfl (cC_at_10 t a S7) rfl hl.1 rfl (Nat.le_of_ble_eq_true rfl) dX0_readBuy_31 ⟨Nat.le_refl _, Nat.le_refl _⟩ (fun H locs w => ?_)
    exact w_retv E w hf dX0_readBuy_34
theorem c_X0_readBuy (l : Launch) {D : va_G} {t : Nat → ClassId} {a : Nat → Nat} {X : State → Prop} (hX : XOk (aW 56 a) X) {kd vd : Nat → Nat} (hN : ∀ U : State, X U → xR kd vd a U) {N : Nat} {S : ST} {S' : ST} (hf : f_X0_readBuy N S = some S') : Co l yX0_readBuy wsX0_readBuy rmX0_readBuy D (cC t a) (aW 56 a) (tyC t) X [.ref (a 49)] S (Qv D (cC t a) (aW 56 a) (tyC t) S') :=
  co_of (cc := cX0_readBuy) (maxL := 2) (ret := none) (lv := [(0, .ref (a 49))]) (by decide) rfl rfl (Nat.le_of_ble_eq_true rfl) rfl rfl (fun p e s m below meth c ls E hl w => k_X0_readBuy_E hX hN E w hl hf)
-- X2_setFree_10
abbrev rmX2_setFree_10 : Room := { frames := 0, cells := 0, slots := 0, locals := 0 }
set_option maxHeartbeats 4000000 in
set_option maxRecDepth 100000 in
theorem k_X2_setFree_10_26 {p : Program} {l : Launch} {e : Env} {s : State} {m : MethodId} {args : Array Value} {below : List Frame} {meth : Method} {c : Code} {D : va_G} {t : Nat → ClassId} {a : Nat → Nat} {X : State → Prop} {N : Nat} {S' : ST} (hX : XOk (aW 56 a) X) (E : EN p s m args meth c cX2_setFree RX2 wsX2_setFree none 3) {S : ST} {s1 : Int32} {H : Heap} {locs : List Loc} {ls : Array Slot} (w : Wd D (cC t a) (aW 56 a) (tyC t) X S s H locs) (hl : lv_has ls 3 []) (hf : b_X2_setFree_10_26 N S s1 = some S') : W p l e rmX2_setFree_10 s m args below meth c H locs 0 0 (MQ below (Qv D (cC t a) (aW 56 a) (tyC t) S') args s 0 0 (aW 56 a)) (F0 m 26 ls [.int s1, .ref (a 10)]) := by
  obtain ⟨⟨hx, hb, hml, hown, hts⟩, hr, hlk⟩ := id E
  unfold b_X2_setFree_10_26 at hf
  obtain ⟨S2, eS2, hf⟩ := nm_o hf
  refine w_put (S1 := S2) E w in_X2_setFree_X2 tyX2 tyX2_ok nmX2 10 (cC_at_10 t a S) rfl 6 (by decide) fl_X2_setFree_49 rfl rfl rfl rfl rfl (Nat.le_of_ble_eq_true rfl) ((cC_set_10_6 t a S s1).trans (congrArg (cC t a) eS2.symm)) dX2_setFree_26 (fun H locs w => ?_)
  exact w_retv E w hf dX2_setFree_29
set_option maxHeartbeats 4000000 in
set_option maxRecDepth 100000 in
theorem k_X2_setFree_10_E {p : Program} {l : Launch} {e : Env} {s : State} {m : MethodId} {args : Array Value} {below : List Frame} {meth : Method} {c : Code} {D : va_G} {t : Nat → ClassId} {a : Nat → Nat} {X : State → Prop} {N : Nat} {S' : ST} (hX : XOk (aW 56 a) X) (E : EN p s m args meth c cX2_setFree RX2 wsX2_setFree none 3) {S : ST} {x1 : Int32} {x2 : Int32} {H : Heap} {locs : List Loc} {ls : Array Slot} (w : Wd D (cC t a) (aW 56 a) (tyC t) X S s H locs) (hl : lv_has ls 3 [(0, .ref (a 10)), (1, .int x1), (2, .int x2)]) (hf : f_X2_setFree_10 N S x1 x2 = some S') : W p l e rmX2_setFree_10 s m args below meth c H locs 0 0 (MQ below (Qv D (cC t a) (aW 56 a) (tyC t) S') args s 0 0 (aW 56 a)) (F0 m 0 ls []) := by
  obtain ⟨⟨hx, hb, hml, hown, hts⟩, hr, hlk⟩ := id E
  unfold f_X2_setFree_10 at hf
  refine lv_aload_n hx hb dX2_setFree_0 rfl (lv_at hl 0 rfl) ?_
  refine lv_iload_n hx hb dX2_setFree_1 rfl (lv_at hl 2 rfl) ?_
  refine lv_if_eq (tgt := 16) hx hb dX2_setFree_2 (by decide) (fun h1 => ?_) (fun h1 => ?_)
  · replace hf := it_t h1 hf
    refine lv_aload_n hx hb dX2_setFree_16 rfl (lv_at hl 0 rfl) ?_
    refine w_get E w in_X2_setFree_X2 10 (cC_at_10 t a S) rfl 6 (by decide) fl_X2_setFree_49 rfl rfl dX2_setFree_17 ?_
    refine lv_iconst (v := 1) hx hb dX2_setFree_20 (by decide) ?_
    refine lv_iload_n hx hb dX2_setFree_21 rfl (lv_at hl 1 rfl) ?_
    refine lv_ishl hx hb dX2_setFree_22 ?_
    refine lv_iconst (v := (-1)) hx hb dX2_setFree_23 (by decide) ?_
    refine lv_ixor hx hb dX2_setFree_24 ?_
    refine lv_iand hx hb dX2_setFree_25 ?_
    exact k_X2_setFree_10_26 hX E w (lv_sub hl [] rfl) hf
  · replace hf := it_f h1 hf
    refine lv_aload_n hx hb dX2_setFree_5 rfl (lv_at hl 0 rfl) ?_
    refine w_get E w in_X2_setFree_X2 10 (cC_at_10 t a S) rfl 6 (by decide) fl_X2_setFree_49 rfl rfl dX2_setFree_6 ?_
    refine lv_iconst (v := 1) hx hb dX2_setFree_9 (by decide) ?_
    refine lv_iload_n hx hb dX2_setFree_10 rfl (lv_at hl 1 rfl) ?_
    refine lv_ishl hx hb dX2_setFree_11 ?_
    refine lv_ior hx hb dX2_setFree_12 ?_
    refine lv_goto (tgt := 26) hx hb dX2_setFree_13 (by decide) ?_
    exact k_X2_setFree_10_26 hX E w (lv_sub hl [] rfl) hf
theorem c_X2_setFree_10 (l : Launch) {D : va_G} {t : Nat → ClassId} {a : Nat → Nat} {X : State → Prop} (hX : XOk (aW 56 a) X) {N : Nat} {S : ST} {x1 : Int32} {x2 : Int32} {S' : ST} (hf : f_X2_setFree_10 N S x1 x2 = some S') : Co l yX2_setFree wsX2_setFree rmX2_setFree_10 D (cC t a) (aW 56 a) (tyC t) X [.ref (a 10), .int x1, .int x2] S (Qv D (cC t a) (aW 56 a) (tyC t) S') :=
  co_of (cc := cX2_setFree) (maxL := 3) (ret := none) (lv := [(0, .ref (a 10)), (1, .int x1), (2, .int x2)]) (by decide) rfl rfl (Nat.le_of_ble_eq_true rfl) rfl rfl (fun p e s m below meth c ls E hl w => k_X2_setFree_10_E hX E w hl hf)
-- X0_readFree
theorem in_X0_readFree_X0 : ∀ w ∈ u_ws RX0 TX0 9, w ∈ wsX0_readFree := by decide +kernel
theorem fl_X0_readFree_12 : Cond.fieldLink RX0 12 "NextDoor$RoadReader" "draft" "LNextDoor$Street;" ∈ wsX0_readFree := by decide +kernel
theorem in_X0_readFree_X2 : ∀ w ∈ u_ws RX2 TX2 16, w ∈ wsX0_readFree := by decide +kernel
theorem fl_X0_readFree_61 : Cond.fieldLink RX0 61 "NextDoor$Street" "shops" "I" ∈ wsX0_readFree := by decide +kernel
abbrev rmX0_readFree : Room := { frames := 3, cells := 0, slots := 0, locals := 63 }
set_option maxHeartbeats 4000000 in
set_option maxRecDepth 100000 in
theorem k_X0_readFree_E {p : Program} {l : Launch} {e : Env} {s : State} {m : MethodId} {args : Array Value} {below : List Frame} {meth : Method} {c : Code} {D : va_G} {t : Nat → ClassId} {a : Nat → Nat} {X : State → Prop} {N : Nat} {S' : ST} (hX : XOk (aW 56 a) X) {kd vd : Nat → Nat} (hN : ∀ U : State, X U → xR kd vd a U) (E : EN p s m args meth c cX0_readFree RX0 wsX0_readFree none 2) {S : ST} {H : Heap} {locs : List Loc} {ls : Array Slot} (w : Wd D (cC t a) (aW 56 a) (tyC t) X S s H locs) (hl : lv_has ls 2 [(0, .ref (a 49))]) (hf : f_X0_readFree N S = some S') : W p l e rmX0_readFree s m args below meth c H locs 0 0 (MQ below (Qv D (cC t a) (aW 56 a) (tyC t) S') args s 0 0 (aW 56 a)) (F0 m 0 ls []) := by
  obtain ⟨⟨hx, hb, hml, hown, hts⟩, hr, hlk⟩ := id E
  unfold f_X0_readFree at hf
  refine lv_aload_n hx hb dX0_readFree_0 rfl (lv_at hl 0 rfl) ?_
  obtain ⟨S2, h1, hf⟩ := bd1_o hf
  refine w_callVv (As := []) (rest := []) hX E w (c_X0_goToToken l hX h1) (cwV 0 hts gX0_readFree_X0_goToToken rfl rfl rfl hd_X0_goToToken ⟨Nat.le_of_ble_eq_true rfl, Nat.le_of_ble_eq_true rfl⟩) (ci := 0) rfl (cC_at_49 t a S) rfl hl.1 rfl (Nat.le_of_ble_eq_true rfl) dX0_readFree_1 ⟨Nat.le_refl _, Nat.le_refl _⟩ (fun H locs w => ?_)
  refine lv_aload_n hx hb dX0_readFree_4 rfl (lv_at hl 0 rfl) ?_
  refine lv_iconst (v := 0) hx hb dX0_readFree_5 (by decide) ?_
  refine lv_aload_n hx hb dX0_readFree_6 rfl (lv_at hl 0 rfl) ?_
  refine w_get E w in_X0_readFree_X0 49 (cC_at_49 t a S2) rfl 0 (by decide) fl_X0_readFree_12 rfl rfl dX0_readFree_7 ?_
  refine w_get E w in_X0_readFree_X2 10 (cC_at_10 t a S2) rfl 0 (by decide) fl_X0_readFree_61 rfl rfl dX0_readFree_10 ?_
  refine lv_iconst (v := 1) hx hb dX0_readFree_13 (by decide) ?_
  refine lv_isub hx hb dX0_readFree_14 ?_
  obtain ⟨r5, S4, h3, hf⟩ := bd2_o hf
  refine w_callVi (As := [.int 0, .int ((S2 10 0) - 1)]) (rest := []) hX E w (c_X0_takeNumber l hX hN h3) (cwV 2 hts gX0_readFree_X0_takeNumber rfl rfl rfl hd_X0_takeNumber ⟨Nat.le_of_ble_eq_true rfl, Nat.le_of_ble_eq_true rfl⟩) (ci := 0) rfl (cC_at_49 t a S2) rfl hl.1 rfl (Nat.le_of_ble_eq_true rfl) dX0_readFree_15 ⟨Nat.le_refl _, Nat.le_refl _⟩ (fun H locs w => ?_)
  refine lv_istore_n (lv' := [(1, .int r5), (0, .ref (a 49))]) hx hb dX0_readFree_18 rfl hl (by decide) rfl (fun ls hl => ?_)
  refine lv_aload_n hx hb dX0_readFree_19 rfl (lv_at hl 1 rfl) ?_
  obtain ⟨r8, S7, h6, hf⟩ := bd2_o hf
  refine w_callVi (As := []) (rest := []) hX E w (c_X0_takeStop l hX h6) (cwV 0 hts gX0_readFree_X0_takeStop rfl rfl rfl hd_X0_takeStop ⟨Nat.le_of_ble_eq_true rfl, Nat.le_of_ble_eq_true rfl⟩) (ci := 0) rfl (cC_at_49 t a S4) rfl hl.1 rfl (Nat.le_of_ble_eq_true rfl) dX0_readFree_20 ⟨Nat.le_refl _, Nat.le_refl _⟩ (fun H locs w => ?_)
  refine lv_if_eq (tgt := 35) hx hb dX0_readFree_23 (by decide) (fun h9 => ?_) (fun h9 => ?_)
  · replace hf := it_t h9 hf
    exact w_retv E w hf dX0_readFree_35
  · replace hf := it_f h9 hf
    refine lv_aload_n hx hb dX0_readFree_26 rfl (lv_at hl 1 rfl) ?_
    refine w_get E w in_X0_readFree_X0 49 (cC_at_49 t a S7) rfl 0 (by decide) fl_X0_readFree_12 rfl rfl dX0_readFree_27 ?_
    refine lv_iload_n hx hb dX0_readFree_30 rfl (lv_at hl 0 rfl) ?_
    refine lv_iconst (v := 1) hx hb dX0_readFree_31 (by decide) ?_
    obtain ⟨S11, h10, hf⟩ := bd1_o hf
    refine w_callVv (As := [.int r5, .int 1]) (rest := []) hX E w (c_X2_setFree_10 l hX h10) (cwV 2 hts gX0_readFree_X2_setFree rfl rfl rfl hd_X2_setFree ⟨Nat.le_of_ble_eq_true rfl, Nat.le_of_ble_eq_true rfl⟩) (ci := 2) rfl (cC_at_10 t a S7) rfl hl.1 rfl (Nat.le_of_ble_eq_true rfl) dX0_readFree_32 ⟨Nat.le_refl _, Nat.le_refl _⟩ (fun H locs w => ?_)
    exact w_retv E w hf dX0_readFree_35
theorem c_X0_readFree (l : Launch) {D : va_G} {t : Nat → ClassId} {a : Nat → Nat} {X : State → Prop} (hX : XOk (aW 56 a) X) {kd vd : Nat → Nat} (hN : ∀ U : State, X U → xR kd vd a U) {N : Nat} {S : ST} {S' : ST} (hf : f_X0_readFree N S = some S') : Co l yX0_readFree wsX0_readFree rmX0_readFree D (cC t a) (aW 56 a) (tyC t) X [.ref (a 49)] S (Qv D (cC t a) (aW 56 a) (tyC t) S') :=
  co_of (cc := cX0_readFree) (maxL := 2) (ret := none) (lv := [(0, .ref (a 49))]) (by decide) rfl rfl (Nat.le_of_ble_eq_true rfl) rfl rfl (fun p e s m below meth c ls E hl w => k_X0_readFree_E hX hN E w hl hf)
-- X2_areNear_10
abbrev rmX2_areNear_10 : Room := { frames := 0, cells := 0, slots := 0, locals := 0 }
set_option maxHeartbeats 4000000 in
set_option maxRecDepth 100000 in
theorem k_X2_areNear_10_E {p : Program} {l : Launch} {e : Env} {s : State} {m : MethodId} {args : Array Value} {below : List Frame} {meth : Method} {c : Code} {D : va_G} {t : Nat → ClassId} {a : Nat → Nat} {X : State → Prop} {N : Nat} {r : Int32} {S' : ST} (hX : XOk (aW 56 a) X) (E : EN p s m args meth c cX2_areNear RX2 wsX2_areNear (some .boolean) 3) {S : ST} {x1 : Int32} {x2 : Int32} {H : Heap} {locs : List Loc} {ls : Array Slot} (w : Wd D (cC t a) (aW 56 a) (tyC t) X S s H locs) (hl : lv_has ls 3 [(0, .ref (a 10)), (1, .int x1), (2, .int x2)]) (hf : f_X2_areNear_10 N S x1 x2 = some (r, S')) : W p l e rmX2_areNear_10 s m args below meth c H locs 0 0 (MQ below (Qi D (cC t a) (aW 56 a) (tyC t) r S') args s 0 0 (aW 56 a)) (F0 m 0 ls []) := by
  obtain ⟨⟨hx, hb, hml, hown, hts⟩, hr, hlk⟩ := id E
  unfold f_X2_areNear_10 at hf
  refine lv_aload_n hx hb dX2_areNear_0 rfl (lv_at hl 0 rfl) ?_
  refine w_get E w in_X2_areNear_X2 10 (cC_at_10 t a S) rfl 5 (by decide) fl_X2_areNear_24 rfl rfl dX2_areNear_1 ?_
  refine lv_iload_n hx hb dX2_areNear_4 rfl (lv_at hl 1 rfl) ?_
  obtain ⟨h1, hf⟩ := it_n hf
  refine w_ald E w 15 0 (cC_at_15 t a S) rfl h1 rfl dX2_areNear_5 ?_
  refine lv_iload_n hx hb dX2_areNear_6 rfl (lv_at hl 2 rfl) ?_
  refine lv_ishr hx hb dX2_areNear_7 ?_
  refine lv_iconst (v := 1) hx hb dX2_areNear_8 (by decide) ?_
  refine lv_iand hx hb dX2_areNear_9 ?_
  refine lv_if_eq (tgt := 17) hx hb dX2_areNear_10 (by decide) (fun h2 => ?_) (fun h2 => ?_)
  · replace hf := it_t h2 hf
    refine lv_iconst (v := 0) hx hb dX2_areNear_17 (by decide) ?_
    exact w_retz E w (by decide) hf dX2_areNear_18
  · replace hf := it_f h2 hf
    refine lv_iconst (v := 1) hx hb dX2_areNear_13 (by decide) ?_
    refine lv_goto (tgt := 18) hx hb dX2_areNear_14 (by decide) ?_
    exact w_retz E w (by decide) hf dX2_areNear_18
theorem c_X2_areNear_10 (l : Launch) {D : va_G} {t : Nat → ClassId} {a : Nat → Nat} {X : State → Prop} (hX : XOk (aW 56 a) X) {N : Nat} {S : ST} {x1 : Int32} {x2 : Int32} {r : Int32} {S' : ST} (hf : f_X2_areNear_10 N S x1 x2 = some (r, S')) : Co l yX2_areNear wsX2_areNear rmX2_areNear_10 D (cC t a) (aW 56 a) (tyC t) X [.ref (a 10), .int x1, .int x2] S (Qi D (cC t a) (aW 56 a) (tyC t) r S') :=
  co_of (cc := cX2_areNear) (maxL := 3) (ret := (some .boolean)) (lv := [(0, .ref (a 10)), (1, .int x1), (2, .int x2)]) (by decide) rfl rfl (Nat.le_of_ble_eq_true rfl) rfl rfl (fun p e s m below meth c ls E hl w => k_X2_areNear_10_E hX E w hl hf)
-- X2_setNear_10
abbrev rmX2_setNear_10 : Room := { frames := 0, cells := 0, slots := 0, locals := 0 }
set_option maxHeartbeats 4000000 in
set_option maxRecDepth 100000 in
theorem k_X2_setNear_10_69 {p : Program} {l : Launch} {e : Env} {s : State} {m : MethodId} {args : Array Value} {below : List Frame} {meth : Method} {c : Code} {D : va_G} {t : Nat → ClassId} {a : Nat → Nat} {X : State → Prop} {N : Nat} {S' : ST} (hX : XOk (aW 56 a) X) (E : EN p s m args meth c cX2_setNear RX2 wsX2_setNear none 4) {S : ST} {s1 : Int32} {s2 : Int32} {H : Heap} {locs : List Loc} {ls : Array Slot} (w : Wd D (cC t a) (aW 56 a) (tyC t) X S s H locs) (hl : lv_has ls 4 []) (hf : b_X2_setNear_10_69 N S s1 s2 = some S') : W p l e rmX2_setNear_10 s m args below meth c H locs 0 0 (MQ below (Qv D (cC t a) (aW 56 a) (tyC t) S') args s 0 0 (aW 56 a)) (F0 m 69 ls [.int s2, .int s1, .ref (a 15)]) := by
  obtain ⟨⟨hx, hb, hml, hown, hts⟩, hr, hlk⟩ := id E
  unfold b_X2_setNear_10_69 at hf
  obtain ⟨h10, hf⟩ := it_n hf
  obtain ⟨S9, eS9, hf⟩ := nm_o hf
  refine w_ast (S1 := S9) E w 15 0 (cC_at_15 t a S) rfl h10 rfl ((cC_st_15 t a S s1.toNatClampNeg s2).trans (congrArg (cC t a) eS9.symm)) dX2_setNear_69 (fun H locs w => ?_)
  exact w_retv E w hf dX2_setNear_70
set_option maxHeartbeats 4000000 in
set_option maxRecDepth 100000 in
theorem k_X2_setNear_10_34 {p : Program} {l : Launch} {e : Env} {s : State} {m : MethodId} {args : Array Value} {below : List Frame} {meth : Method} {c : Code} {D : va_G} {t : Nat → ClassId} {a : Nat → Nat} {X : State → Prop} {N : Nat} {S' : ST} (hX : XOk (aW 56 a) X) (E : EN p s m args meth c cX2_setNear RX2 wsX2_setNear none 4) {S : ST} {x1 : Int32} {x2 : Int32} {x3 : Int32} {s1 : Int32} {s2 : Int32} {H : Heap} {locs : List Loc} {ls : Array Slot} (w : Wd D (cC t a) (aW 56 a) (tyC t) X S s H locs) (hl : lv_has ls 4 [(0, .ref (a 10)), (1, .int x1), (2, .int x2), (3, .int x3)]) (hf : b_X2_setNear_10_34 N S x1 x2 x3 s1 s2 = some S') : W p l e rmX2_setNear_10 s m args below meth c H locs 0 0 (MQ below (Qv D (cC t a) (aW 56 a) (tyC t) S') args s 0 0 (aW 56 a)) (F0 m 34 ls [.int s2, .int s1, .ref (a 15)]) := by
  obtain ⟨⟨hx, hb, hml, hown, hts⟩, hr, hlk⟩ := id E
  unfold b_X2_setNear_10_34 at hf
  obtain ⟨h5, hf⟩ := it_n hf
  obtain ⟨S4, eS4, hf⟩ := nm_o hf
  refine w_ast (S1 := S4) E w 15 0 (cC_at_15 t a S) rfl h5 rfl ((cC_st_15 t a S s1.toNatClampNeg s2).trans (congrArg (cC t a) eS4.symm)) dX2_setNear_34 (fun H locs w => ?_)
  refine lv_aload_n hx hb dX2_setNear_35 rfl (lv_at hl 0 rfl) ?_
  refine w_get E w in_X2_setNear_X2 10 (cC_at_10 t a S4) rfl 5 (by decide) fl_X2_setNear_24 rfl rfl dX2_setNear_36 ?_
  refine lv_iload_n hx hb dX2_setNear_39 rfl (lv_at hl 2 rfl) ?_
  refine lv_iload_n hx hb dX2_setNear_40 rfl (lv_at hl 3 rfl) ?_
  refine lv_if_eq (tgt := 57) hx hb dX2_setNear_41 (by decide) (fun h6 => ?_) (fun h6 => ?_)
  · replace hf := it_t h6 hf
    refine lv_aload_n hx hb dX2_setNear_57 rfl (lv_at hl 0 rfl) ?_
    refine w_get E w in_X2_setNear_X2 10 (cC_at_10 t a S4) rfl 5 (by decide) fl_X2_setNear_24 rfl rfl dX2_setNear_58 ?_
    refine lv_iload_n hx hb dX2_setNear_61 rfl (lv_at hl 2 rfl) ?_
    obtain ⟨h7, hf⟩ := it_n hf
    refine w_ald E w 15 0 (cC_at_15 t a S4) rfl h7 rfl dX2_setNear_62 ?_
    refine lv_iconst (v := 1) hx hb dX2_setNear_63 (by decide) ?_
    refine lv_iload_n hx hb dX2_setNear_64 rfl (lv_at hl 1 rfl) ?_
    refine lv_ishl hx hb dX2_setNear_65 ?_
    refine lv_iconst (v := (-1)) hx hb dX2_setNear_66 (by decide) ?_
    refine lv_ixor hx hb dX2_setNear_67 ?_
    refine lv_iand hx hb dX2_setNear_68 ?_
    exact k_X2_setNear_10_69 hX E w (lv_sub hl [] rfl) hf
  · replace hf := it_f h6 hf
    refine lv_aload_n hx hb dX2_setNear_44 rfl (lv_at hl 0 rfl) ?_
    refine w_get E w in_X2_setNear_X2 10 (cC_at_10 t a S4) rfl 5 (by decide) fl_X2_setNear_24 rfl rfl dX2_setNear_45 ?_
    refine lv_iload_n hx hb dX2_setNear_48 rfl (lv_at hl 2 rfl) ?_
    obtain ⟨h8, hf⟩ := it_n hf
    refine w_ald E w 15 0 (cC_at_15 t a S4) rfl h8 rfl dX2_setNear_49 ?_
    refine lv_iconst (v := 1) hx hb dX2_setNear_50 (by decide) ?_
    refine lv_iload_n hx hb dX2_setNear_51 rfl (lv_at hl 1 rfl) ?_
    refine lv_ishl hx hb dX2_setNear_52 ?_
    refine lv_ior hx hb dX2_setNear_53 ?_
    refine lv_goto (tgt := 69) hx hb dX2_setNear_54 (by decide) ?_
    exact k_X2_setNear_10_69 hX E w (lv_sub hl [] rfl) hf
set_option maxHeartbeats 4000000 in
set_option maxRecDepth 100000 in
theorem k_X2_setNear_10_E {p : Program} {l : Launch} {e : Env} {s : State} {m : MethodId} {args : Array Value} {below : List Frame} {meth : Method} {c : Code} {D : va_G} {t : Nat → ClassId} {a : Nat → Nat} {X : State → Prop} {N : Nat} {S' : ST} (hX : XOk (aW 56 a) X) (E : EN p s m args meth c cX2_setNear RX2 wsX2_setNear none 4) {S : ST} {x1 : Int32} {x2 : Int32} {x3 : Int32} {H : Heap} {locs : List Loc} {ls : Array Slot} (w : Wd D (cC t a) (aW 56 a) (tyC t) X S s H locs) (hl : lv_has ls 4 [(0, .ref (a 10)), (1, .int x1), (2, .int x2), (3, .int x3)]) (hf : f_X2_setNear_10 N S x1 x2 x3 = some S') : W p l e rmX2_setNear_10 s m args below meth c H locs 0 0 (MQ below (Qv D (cC t a) (aW 56 a) (tyC t) S') args s 0 0 (aW 56 a)) (F0 m 0 ls []) := by
  obtain ⟨⟨hx, hb, hml, hown, hts⟩, hr, hlk⟩ := id E
  unfold f_X2_setNear_10 at hf
  refine lv_aload_n hx hb dX2_setNear_0 rfl (lv_at hl 0 rfl) ?_
  refine w_get E w in_X2_setNear_X2 10 (cC_at_10 t a S) rfl 5 (by decide) fl_X2_setNear_24 rfl rfl dX2_setNear_1 ?_
  refine lv_iload_n hx hb dX2_setNear_4 rfl (lv_at hl 1 rfl) ?_
  refine lv_iload_n hx hb dX2_setNear_5 rfl (lv_at hl 3 rfl) ?_
  refine lv_if_eq (tgt := 22) hx hb dX2_setNear_6 (by decide) (fun h1 => ?_) (fun h1 => ?_)
  · replace hf := it_t h1 hf
    refine lv_aload_n hx hb dX2_setNear_22 rfl (lv_at hl 0 rfl) ?_
    refine w_get E w in_X2_setNear_X2 10 (cC_at_10 t a S) rfl 5 (by decide) fl_X2_setNear_24 rfl rfl dX2_setNear_23 ?_
    refine lv_iload_n hx hb dX2_setNear_26 rfl (lv_at hl 1 rfl) ?_
    obtain ⟨h2, hf⟩ := it_n hf
    refine w_ald E w 15 0 (cC_at_15 t a S) rfl h2 rfl dX2_setNear_27 ?_
    refine lv_iconst (v := 1) hx hb dX2_setNear_28 (by decide) ?_
    refine lv_iload_n hx hb dX2_setNear_29 rfl (lv_at hl 2 rfl) ?_
    refine lv_ishl hx hb dX2_setNear_30 ?_
    refine lv_iconst (v := (-1)) hx hb dX2_setNear_31 (by decide) ?_
    refine lv_ixor hx hb dX2_setNear_32 ?_
    refine lv_iand hx hb dX2_setNear_33 ?_
    exact k_X2_setNear_10_34 hX E w (lv_sub hl [0, 1, 2, 3] rfl) hf
  · replace hf := it_f h1 hf
    refine lv_aload_n hx hb dX2_setNear_9 rfl (lv_at hl 0 rfl) ?_
    refine w_get E w in_X2_setNear_X2 10 (cC_at_10 t a S) rfl 5 (by decide) fl_X2_setNear_24 rfl rfl dX2_setNear_10 ?_
    refine lv_iload_n hx hb dX2_setNear_13 rfl (lv_at hl 1 rfl) ?_
    obtain ⟨h3, hf⟩ := it_n hf
    refine w_ald E w 15 0 (cC_at_15 t a S) rfl h3 rfl dX2_setNear_14 ?_
    refine lv_iconst (v := 1) hx hb dX2_setNear_15 (by decide) ?_
    refine lv_iload_n hx hb dX2_setNear_16 rfl (lv_at hl 2 rfl) ?_
    refine lv_ishl hx hb dX2_setNear_17 ?_
    refine lv_ior hx hb dX2_setNear_18 ?_
    refine lv_goto (tgt := 34) hx hb dX2_setNear_19 (by decide) ?_
    exact k_X2_setNear_10_34 hX E w (lv_sub hl [0, 1, 2, 3] rfl) hf
theorem c_X2_setNear_10 (l : Launch) {D : va_G} {t : Nat → ClassId} {a : Nat → Nat} {X : State → Prop} (hX : XOk (aW 56 a) X) {N : Nat} {S : ST} {x1 : Int32} {x2 : Int32} {x3 : Int32} {S' : ST} (hf : f_X2_setNear_10 N S x1 x2 x3 = some S') : Co l yX2_setNear wsX2_setNear rmX2_setNear_10 D (cC t a) (aW 56 a) (tyC t) X [.ref (a 10), .int x1, .int x2, .int x3] S (Qv D (cC t a) (aW 56 a) (tyC t) S') :=
  co_of (cc := cX2_setNear) (maxL := 4) (ret := none) (lv := [(0, .ref (a 10)), (1, .int x1), (2, .int x2), (3, .int x3)]) (by decide) rfl rfl (Nat.le_of_ble_eq_true rfl) rfl rfl (fun p e s m below meth c ls E hl w => k_X2_setNear_10_E hX E w hl hf)
