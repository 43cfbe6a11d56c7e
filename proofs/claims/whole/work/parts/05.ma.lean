-- X5_in
abbrev rmX5_in : Room := { frames := 0, cells := 0, slots := 0, locals := 0 }
set_option maxHeartbeats 4000000 in
set_option maxRecDepth 100000 in
theorem k_X5_in_E {p : Program} {l : Launch} {e : Env} {s : State} {m : MethodId} {args : Array Value} {below : List Frame} {meth : Method} {c : Code} {D : va_G} {t : Nat → ClassId} {a : Nat → Nat} {X : State → Prop} {N : Nat} {r : Int32} {S' : ST} (hX : XOk (aW 17 a) X) (E : EN p s m args meth c cX5_in RX5 wsX5_in (some .boolean) 6) {S : ST} {x0 : Int64} {x2 : Int64} {x4 : Int64} {H : Heap} {locs : List Loc} {ls : Array Slot} (w : Wd D (cM t a) (aW 17 a) (tyM t) X S s H locs) (hl : lv_has ls 6 [(0, .long x0), (2, .long x2), (4, .long x4)]) (hf : f_X5_in N S x0 x2 x4 = some (r, S')) : W p l e rmX5_in s m args below meth c H locs 0 0 (MQ below (Qi D (cM t a) (aW 17 a) (tyM t) r S') args s 0 0 (aW 17 a)) (F0 m 0 ls []) := by
  obtain ⟨⟨hx, hb, hml, hown, hts⟩, hr, hlk⟩ := id E
  unfold f_X5_in at hf
  refine lv_lload_n hx hb dX5_in_0 rfl (lv_at hl 0 rfl) ?_
  refine lv_lload_n hx hb dX5_in_1 rfl (lv_at hl 1 rfl) ?_
  refine W.lcmp hx hb dX5_in_2 ?_
  refine lv_if_lt (tgt := 17) hx hb dX5_in_3 (by decide) (fun h1 => ?_) (fun h1 => ?_)
  · replace hf := it_t h1 hf
    refine lv_iconst (v := 0) hx hb dX5_in_17 (by decide) ?_
    exact w_retz E w (by decide) hf dX5_in_18
  · replace hf := it_f h1 hf
    refine lv_lload_n hx hb dX5_in_6 rfl (lv_at hl 0 rfl) ?_
    refine lv_lload hx hb dX5_in_7 (lv_at hl 2 rfl) ?_
    refine W.lcmp hx hb dX5_in_9 ?_
    refine lv_if_gt (tgt := 17) hx hb dX5_in_10 (by decide) (fun h2 => ?_) (fun h2 => ?_)
    · replace hf := it_t h2 hf
      refine lv_iconst (v := 0) hx hb dX5_in_17 (by decide) ?_
      exact w_retz E w (by decide) hf dX5_in_18
    · replace hf := it_f h2 hf
      refine lv_iconst (v := 1) hx hb dX5_in_13 (by decide) ?_
      refine lv_goto (tgt := 18) hx hb dX5_in_14 (by decide) ?_
      exact w_retz E w (by decide) hf dX5_in_18
theorem c_X5_in (l : Launch) {D : va_G} {t : Nat → ClassId} {a : Nat → Nat} {X : State → Prop} (hX : XOk (aW 17 a) X) {N : Nat} {S : ST} {x0 : Int64} {x2 : Int64} {x4 : Int64} {r : Int32} {S' : ST} (hf : f_X5_in N S x0 x2 x4 = some (r, S')) : Co l yX5_in wsX5_in rmX5_in D (cM t a) (aW 17 a) (tyM t) X [.long x0, .long x2, .long x4] S (Qi D (cM t a) (aW 17 a) (tyM t) r S') :=
  co_of (cc := cX5_in) (maxL := 6) (ret := (some .boolean)) (lv := [(0, .long x0), (2, .long x2), (4, .long x4)]) (by decide) rfl rfl (Nat.le_of_ble_eq_true rfl) rfl rfl (fun p e s m below meth c ls E hl w => k_X5_in_E hX E w hl hf)
-- X5_isTold
theorem ct_X5_isTold_67 : Cond.constantLong RX5 67 5 ∈ wsX5_isTold := by decide +kernel
theorem hd_X5_in : yX5_in.cls ≠ "java/lang/invoke/MethodHandle" ∧ yX5_in.cls ≠ "java/lang/invoke/VarHandle" ∧ (parseMethodDescriptor yX5_in.desc).map (fun d => d.parameters.length) = some 3 := by decide +kernel
theorem ct_X5_isTold_69 : Cond.constantLong RX5 69 20 ∈ wsX5_isTold := by decide +kernel
theorem ct_X5_isTold_71 : Cond.constantLong RX5 71 30 ∈ wsX5_isTold := by decide +kernel
theorem ct_X5_isTold_73 : Cond.constantLong RX5 73 240 ∈ wsX5_isTold := by decide +kernel
abbrev rmX5_isTold : Room := { frames := 1, cells := 0, slots := 0, locals := 25 }
set_option maxHeartbeats 4000000 in
set_option maxRecDepth 100000 in
theorem k_X5_isTold_E {p : Program} {l : Launch} {e : Env} {s : State} {m : MethodId} {args : Array Value} {below : List Frame} {meth : Method} {c : Code} {D : va_G} {t : Nat → ClassId} {a : Nat → Nat} {X : State → Prop} {N : Nat} {r : Int32} {S' : ST} (hX : XOk (aW 17 a) X) (E : EN p s m args meth c cX5_isTold RX5 wsX5_isTold (some .boolean) 4) {S : ST} {x0 : Int32} {x1 : Int32} {x2 : Int32} {x3 : Int32} {H : Heap} {locs : List Loc} {ls : Array Slot} (w : Wd D (cM t a) (aW 17 a) (tyM t) X S s H locs) (hl : lv_has ls 4 [(0, .int x0), (1, .int x1), (2, .int x2), (3, .int x3)]) (hf : f_X5_isTold N S x0 x1 x2 x3 = some (r, S')) : W p l e rmX5_isTold s m args below meth c H locs 0 0 (MQ below (Qi D (cM t a) (aW 17 a) (tyM t) r S') args s 0 0 (aW 17 a)) (F0 m 0 ls []) := by
  obtain ⟨⟨hx, hb, hml, hown, hts⟩, hr, hlk⟩ := id E
  unfold f_X5_isTold at hf
  refine lv_iload_n hx hb dX5_isTold_0 rfl (lv_at hl 0 rfl) ?_
  refine lv_i2l hx hb dX5_isTold_1 rfl ?_
  refine lv_lconst (v := 0) hx hb dX5_isTold_2 (by decide) ?_
  refine lv_ldc2 hx hb hown (hts _ ct_X5_isTold_67) dX5_isTold_3 ?_
  obtain ⟨r3, S2, h1, hf⟩ := bd2_o hf
  refine w_callSi (As := [.long ((x0 : Int32).toInt64), .long 0, .long 5]) (rest := []) hX E w (c_X5_in l hX h1) (va_cwS 3 hts gX5_isTold_X5_in rfl rfl rfl hd_X5_in ⟨Nat.le_of_ble_eq_true rfl, Nat.le_of_ble_eq_true rfl⟩) rfl hl.1 rfl (Nat.le_of_ble_eq_true rfl) dX5_isTold_6 ⟨Nat.le_refl _, Nat.le_refl _⟩ (fun H locs w => ?_)
  refine lv_if_eq (tgt := 52) hx hb dX5_isTold_9 (by decide) (fun h4 => ?_) (fun h4 => ?_)
  · replace hf := it_t h4 hf
    refine lv_iconst (v := 0) hx hb dX5_isTold_52 (by decide) ?_
    exact w_retz E w (by decide) hf dX5_isTold_53
  · replace hf := it_f h4 hf
    refine lv_iload_n hx hb dX5_isTold_12 rfl (lv_at hl 1 rfl) ?_
    refine lv_i2l hx hb dX5_isTold_13 rfl ?_
    refine lv_lconst (v := 0) hx hb dX5_isTold_14 (by decide) ?_
    refine lv_ldc2 hx hb hown (hts _ ct_X5_isTold_69) dX5_isTold_15 ?_
    obtain ⟨r7, S6, h5, hf⟩ := bd2_o hf
    refine w_callSi (As := [.long ((x1 : Int32).toInt64), .long 0, .long 20]) (rest := []) hX E w (c_X5_in l hX h5) (va_cwS 3 hts gX5_isTold_X5_in rfl rfl rfl hd_X5_in ⟨Nat.le_of_ble_eq_true rfl, Nat.le_of_ble_eq_true rfl⟩) rfl hl.1 rfl (Nat.le_of_ble_eq_true rfl) dX5_isTold_18 ⟨Nat.le_refl _, Nat.le_refl _⟩ (fun H locs w => ?_)
    refine lv_if_eq (tgt := 52) hx hb dX5_isTold_21 (by decide) (fun h8 => ?_) (fun h8 => ?_)
    · replace hf := it_t h8 hf
      refine lv_iconst (v := 0) hx hb dX5_isTold_52 (by decide) ?_
      exact w_retz E w (by decide) hf dX5_isTold_53
    · replace hf := it_f h8 hf
      refine lv_iload_n hx hb dX5_isTold_24 rfl (lv_at hl 2 rfl) ?_
      refine lv_i2l hx hb dX5_isTold_25 rfl ?_
      refine lv_lconst (v := 1) hx hb dX5_isTold_26 (by decide) ?_
      refine lv_ldc2 hx hb hown (hts _ ct_X5_isTold_71) dX5_isTold_27 ?_
      obtain ⟨r11, S10, h9, hf⟩ := bd2_o hf
      refine w_callSi (As := [.long ((x2 : Int32).toInt64), .long 1, .long 30]) (rest := []) hX E w (c_X5_in l hX h9) (va_cwS 3 hts gX5_isTold_X5_in rfl rfl rfl hd_X5_in ⟨Nat.le_of_ble_eq_true rfl, Nat.le_of_ble_eq_true rfl⟩) rfl hl.1 rfl (Nat.le_of_ble_eq_true rfl) dX5_isTold_30 ⟨Nat.le_refl _, Nat.le_refl _⟩ (fun H locs w => ?_)
      refine lv_if_eq (tgt := 52) hx hb dX5_isTold_33 (by decide) (fun h12 => ?_) (fun h12 => ?_)
      · replace hf := it_t h12 hf
        refine lv_iconst (v := 0) hx hb dX5_isTold_52 (by decide) ?_
        exact w_retz E w (by decide) hf dX5_isTold_53
      · replace hf := it_f h12 hf
        refine lv_iload_n hx hb dX5_isTold_36 rfl (lv_at hl 3 rfl) ?_
        refine lv_i2l hx hb dX5_isTold_37 rfl ?_
        refine lv_lconst (v := 0) hx hb dX5_isTold_38 (by decide) ?_
        refine lv_ldc2 hx hb hown (hts _ ct_X5_isTold_73) dX5_isTold_39 ?_
        obtain ⟨r15, S14, h13, hf⟩ := bd2_o hf
        refine w_callSi (As := [.long ((x3 : Int32).toInt64), .long 0, .long 240]) (rest := []) hX E w (c_X5_in l hX h13) (va_cwS 3 hts gX5_isTold_X5_in rfl rfl rfl hd_X5_in ⟨Nat.le_of_ble_eq_true rfl, Nat.le_of_ble_eq_true rfl⟩) rfl hl.1 rfl (Nat.le_of_ble_eq_true rfl) dX5_isTold_42 ⟨Nat.le_refl _, Nat.le_refl _⟩ (fun H locs w => ?_)
        refine lv_if_eq (tgt := 52) hx hb dX5_isTold_45 (by decide) (fun h16 => ?_) (fun h16 => ?_)
        · replace hf := it_t h16 hf
          refine lv_iconst (v := 0) hx hb dX5_isTold_52 (by decide) ?_
          exact w_retz E w (by decide) hf dX5_isTold_53
        · replace hf := it_f h16 hf
          refine lv_iconst (v := 1) hx hb dX5_isTold_48 (by decide) ?_
          refine lv_goto (tgt := 53) hx hb dX5_isTold_49 (by decide) ?_
          exact w_retz E w (by decide) hf dX5_isTold_53
theorem c_X5_isTold (l : Launch) {D : va_G} {t : Nat → ClassId} {a : Nat → Nat} {X : State → Prop} (hX : XOk (aW 17 a) X) {N : Nat} {S : ST} {x0 : Int32} {x1 : Int32} {x2 : Int32} {x3 : Int32} {r : Int32} {S' : ST} (hf : f_X5_isTold N S x0 x1 x2 x3 = some (r, S')) : Co l yX5_isTold wsX5_isTold rmX5_isTold D (cM t a) (aW 17 a) (tyM t) X [.int x0, .int x1, .int x2, .int x3] S (Qi D (cM t a) (aW 17 a) (tyM t) r S') :=
  co_of (cc := cX5_isTold) (maxL := 4) (ret := (some .boolean)) (lv := [(0, .int x0), (1, .int x1), (2, .int x2), (3, .int x3)]) (by decide) rfl rfl (Nat.le_of_ble_eq_true rfl) rfl rfl (fun p e s m below meth c ls E hl w => k_X5_isTold_E hX E w hl hf)
-- X5_shops
theorem in_X5_shops_X5 : ∀ w ∈ u_ws RX5 TX5 28, w ∈ wsX5_shops := by decide +kernel
theorem fl_X5_shops_7 : Cond.fieldLink RX5 7 "NextDoorModel" "now" "[I" ∈ wsX5_shops := by decide +kernel
abbrev rmX5_shops : Room := { frames := 0, cells := 0, slots := 0, locals := 0 }
set_option maxHeartbeats 4000000 in
set_option maxRecDepth 100000 in
theorem k_X5_shops_E {p : Program} {l : Launch} {e : Env} {s : State} {m : MethodId} {args : Array Value} {below : List Frame} {meth : Method} {c : Code} {D : va_G} {t : Nat → ClassId} {a : Nat → Nat} {X : State → Prop} {N : Nat} {r : Int32} {S' : ST} (hX : XOk (aW 17 a) X) (E : EN p s m args meth c cX5_shops RX5 wsX5_shops (some .int) 1) {S : ST} {H : Heap} {locs : List Loc} {ls : Array Slot} (w : Wd D (cM t a) (aW 17 a) (tyM t) X S s H locs) (hl : lv_has ls 1 [(0, .ref (a 0))]) (hf : f_X5_shops N S = some (r, S')) : W p l e rmX5_shops s m args below meth c H locs 0 0 (MQ below (Qi D (cM t a) (aW 17 a) (tyM t) r S') args s 0 0 (aW 17 a)) (F0 m 0 ls []) := by
  obtain ⟨⟨hx, hb, hml, hown, hts⟩, hr, hlk⟩ := id E
  unfold f_X5_shops at hf
  refine lv_aload_n hx hb dX5_shops_0 rfl (lv_at hl 0 rfl) ?_
  refine w_get E w in_X5_shops_X5 0 (cM_at_0 t a S) rfl 0 (by decide) fl_X5_shops_7 rfl rfl dX5_shops_1 ?_
  refine lv_sipush (v := 259) hx hb dX5_shops_4 (by decide) ?_
  refine w_ald E w 1 0 (cM_at_1 t a S) rfl (by decide) (congrArg (S 1) ix_259) dX5_shops_7 ?_
  exact w_reti E w hf dX5_shops_8
theorem c_X5_shops (l : Launch) {D : va_G} {t : Nat → ClassId} {a : Nat → Nat} {X : State → Prop} (hX : XOk (aW 17 a) X) {N : Nat} {S : ST} {r : Int32} {S' : ST} (hf : f_X5_shops N S = some (r, S')) : Co l yX5_shops wsX5_shops rmX5_shops D (cM t a) (aW 17 a) (tyM t) X [.ref (a 0)] S (Qi D (cM t a) (aW 17 a) (tyM t) r S') :=
  co_of (cc := cX5_shops) (maxL := 1) (ret := (some .int)) (lv := [(0, .ref (a 0))]) (by decide) rfl rfl (Nat.le_of_ble_eq_true rfl) rfl rfl (fun p e s m below meth c ls E hl w => k_X5_shops_E hX E w hl hf)
-- X5_full
theorem in_X5_full_X5 : ∀ w ∈ u_ws RX5 TX5 28, w ∈ wsX5_full := by decide +kernel
theorem fl_X5_full_20 : Cond.fieldLink RX5 20 "NextDoorModel" "refused" "[I" ∈ wsX5_full := by decide +kernel
abbrev rmX5_full : Room := { frames := 0, cells := 0, slots := 0, locals := 0 }
set_option maxHeartbeats 4000000 in
set_option maxRecDepth 100000 in
theorem k_X5_full_E {p : Program} {l : Launch} {e : Env} {s : State} {m : MethodId} {args : Array Value} {below : List Frame} {meth : Method} {c : Code} {D : va_G} {t : Nat → ClassId} {a : Nat → Nat} {X : State → Prop} {N : Nat} {r : Int32} {S' : ST} (hX : XOk (aW 17 a) X) (E : EN p s m args meth c cX5_full RX5 wsX5_full (some .int) 1) {S : ST} {H : Heap} {locs : List Loc} {ls : Array Slot} (w : Wd D (cM t a) (aW 17 a) (tyM t) X S s H locs) (hl : lv_has ls 1 [(0, .ref (a 0))]) (hf : f_X5_full N S = some (r, S')) : W p l e rmX5_full s m args below meth c H locs 0 0 (MQ below (Qi D (cM t a) (aW 17 a) (tyM t) r S') args s 0 0 (aW 17 a)) (F0 m 0 ls []) := by
  obtain ⟨⟨hx, hb, hml, hown, hts⟩, hr, hlk⟩ := id E
  unfold f_X5_full at hf
  refine lv_aload_n hx hb dX5_full_0 rfl (lv_at hl 0 rfl) ?_
  refine w_get E w in_X5_full_X5 0 (cM_at_0 t a S) rfl 3 (by decide) fl_X5_full_20 rfl rfl dX5_full_1 ?_
  refine lv_iconst (v := 2) hx hb dX5_full_4 (by decide) ?_
  refine lv_dup2_11 hx hb dX5_full_5 rfl rfl ?_
  refine w_ald E w 4 0 (cM_at_4 t a S) rfl (by decide) (congrArg (S 4) ix_2) dX5_full_6 ?_
  refine lv_iconst (v := 1) hx hb dX5_full_7 (by decide) ?_
  refine lv_iadd hx hb dX5_full_8 ?_
  obtain ⟨S1, eS1, hf⟩ := nm_o hf
  refine w_ast (S1 := S1) E w 4 0 (cM_at_4 t a S) rfl (by decide) ix_2 ((cM_st_4 t a S 2 ((S 4 2) + 1)).trans (congrArg (cM t a) eS1.symm)) dX5_full_9 (fun H locs w => ?_)
  refine lv_bipush (v := (-4)) hx hb dX5_full_10 (by decide) ?_
  exact w_reti E w hf dX5_full_12
theorem c_X5_full (l : Launch) {D : va_G} {t : Nat → ClassId} {a : Nat → Nat} {X : State → Prop} (hX : XOk (aW 17 a) X) {N : Nat} {S : ST} {r : Int32} {S' : ST} (hf : f_X5_full N S = some (r, S')) : Co l yX5_full wsX5_full rmX5_full D (cM t a) (aW 17 a) (tyM t) X [.ref (a 0)] S (Qi D (cM t a) (aW 17 a) (tyM t) r S') :=
  co_of (cc := cX5_full) (maxL := 1) (ret := (some .int)) (lv := [(0, .ref (a 0))]) (by decide) rfl rfl (Nat.le_of_ble_eq_true rfl) rfl rfl (fun p e s m below meth c ls E hl w => k_X5_full_E hX E w hl hf)
-- X5_bad
theorem in_X5_bad_X5 : ∀ w ∈ u_ws RX5 TX5 28, w ∈ wsX5_bad := by decide +kernel
theorem fl_X5_bad_20 : Cond.fieldLink RX5 20 "NextDoorModel" "refused" "[I" ∈ wsX5_bad := by decide +kernel
abbrev rmX5_bad : Room := { frames := 0, cells := 0, slots := 0, locals := 0 }
set_option maxHeartbeats 4000000 in
set_option maxRecDepth 100000 in
theorem k_X5_bad_E {p : Program} {l : Launch} {e : Env} {s : State} {m : MethodId} {args : Array Value} {below : List Frame} {meth : Method} {c : Code} {D : va_G} {t : Nat → ClassId} {a : Nat → Nat} {X : State → Prop} {N : Nat} {r : Int32} {S' : ST} (hX : XOk (aW 17 a) X) (E : EN p s m args meth c cX5_bad RX5 wsX5_bad (some .int) 2) {S : ST} {x1 : Int32} {H : Heap} {locs : List Loc} {ls : Array Slot} (w : Wd D (cM t a) (aW 17 a) (tyM t) X S s H locs) (hl : lv_has ls 2 [(0, .ref (a 0)), (1, .int x1)]) (hf : f_X5_bad N S x1 = some (r, S')) : W p l e rmX5_bad s m args below meth c H locs 0 0 (MQ below (Qi D (cM t a) (aW 17 a) (tyM t) r S') args s 0 0 (aW 17 a)) (F0 m 0 ls []) := by
  obtain ⟨⟨hx, hb, hml, hown, hts⟩, hr, hlk⟩ := id E
  unfold f_X5_bad at hf
  refine lv_aload_n hx hb dX5_bad_0 rfl (lv_at hl 0 rfl) ?_
  refine w_get E w in_X5_bad_X5 0 (cM_at_0 t a S) rfl 3 (by decide) fl_X5_bad_20 rfl rfl dX5_bad_1 ?_
  refine lv_iconst (v := 0) hx hb dX5_bad_4 (by decide) ?_
  refine lv_dup2_11 hx hb dX5_bad_5 rfl rfl ?_
  refine w_ald E w 4 0 (cM_at_4 t a S) rfl (by decide) (congrArg (S 4) ix_0) dX5_bad_6 ?_
  refine lv_iconst (v := 1) hx hb dX5_bad_7 (by decide) ?_
  refine lv_iadd hx hb dX5_bad_8 ?_
  obtain ⟨S1, eS1, hf⟩ := nm_o hf
  refine w_ast (S1 := S1) E w 4 0 (cM_at_4 t a S) rfl (by decide) ix_0 ((cM_st_4 t a S 0 ((S 4 0) + 1)).trans (congrArg (cM t a) eS1.symm)) dX5_bad_9 (fun H locs w => ?_)
  refine lv_iload_n hx hb dX5_bad_10 rfl (lv_at hl 1 rfl) ?_
  exact w_reti E w hf dX5_bad_11
theorem c_X5_bad (l : Launch) {D : va_G} {t : Nat → ClassId} {a : Nat → Nat} {X : State → Prop} (hX : XOk (aW 17 a) X) {N : Nat} {S : ST} {x1 : Int32} {r : Int32} {S' : ST} (hf : f_X5_bad N S x1 = some (r, S')) : Co l yX5_bad wsX5_bad rmX5_bad D (cM t a) (aW 17 a) (tyM t) X [.ref (a 0), .int x1] S (Qi D (cM t a) (aW 17 a) (tyM t) r S') :=
  co_of (cc := cX5_bad) (maxL := 2) (ret := (some .int)) (lv := [(0, .ref (a 0)), (1, .int x1)]) (by decide) rfl rfl (Nat.le_of_ble_eq_true rfl) rfl rfl (fun p e s m below meth c ls E hl w => k_X5_bad_E hX E w hl hf)
-- X5_shop
theorem hd_X5_isTold : yX5_isTold.cls ≠ "java/lang/invoke/MethodHandle" ∧ yX5_isTold.cls ≠ "java/lang/invoke/VarHandle" ∧ (parseMethodDescriptor yX5_isTold.desc).map (fun d => d.parameters.length) = some 4 := by decide +kernel
theorem hd_X5_shops : yX5_shops.cls = RX5 ∧ yX5_shops.cls ≠ "java/lang/invoke/MethodHandle" ∧ yX5_shops.cls ≠ "java/lang/invoke/VarHandle" ∧ (parseMethodDescriptor yX5_shops.desc).map (fun d => d.parameters.length) = some 0 := by decide +kernel
theorem in_X5_shop_X5 : ∀ w ∈ u_ws RX5 TX5 28, w ∈ wsX5_shop := by decide +kernel
theorem fl_X5_shop_7 : Cond.fieldLink RX5 7 "NextDoorModel" "now" "[I" ∈ wsX5_shop := by decide +kernel
theorem hd_X5_full : yX5_full.cls = RX5 ∧ yX5_full.cls ≠ "java/lang/invoke/MethodHandle" ∧ yX5_full.cls ≠ "java/lang/invoke/VarHandle" ∧ (parseMethodDescriptor yX5_full.desc).map (fun d => d.parameters.length) = some 0 := by decide +kernel
theorem hd_X5_bad : yX5_bad.cls = RX5 ∧ yX5_bad.cls ≠ "java/lang/invoke/MethodHandle" ∧ yX5_bad.cls ≠ "java/lang/invoke/VarHandle" ∧ (parseMethodDescriptor yX5_bad.desc).map (fun d => d.parameters.length) = some 1 := by decide +kernel
abbrev rmX5_shop : Room := { frames := 2, cells := 0, slots := 0, locals := 48 }
set_option maxHeartbeats 4000000 in
set_option maxRecDepth 100000 in
theorem k_X5_shop_E {p : Program} {l : Launch} {e : Env} {s : State} {m : MethodId} {args : Array Value} {below : List Frame} {meth : Method} {c : Code} {D : va_G} {t : Nat → ClassId} {a : Nat → Nat} {X : State → Prop} {N : Nat} {r : Int32} {S' : ST} (hX : XOk (aW 17 a) X) (E : EN p s m args meth c cX5_shop RX5 wsX5_shop (some .int) 6) {S : ST} {x1 : Int32} {x2 : Int32} {x3 : Int32} {x4 : Int32} {H : Heap} {locs : List Loc} {ls : Array Slot} (w : Wd D (cM t a) (aW 17 a) (tyM t) X S s H locs) (hl : lv_has ls 6 [(0, .ref (a 0)), (1, .int x1), (2, .int x2), (3, .int x3), (4, .int x4)]) (hf : f_X5_shop N S x1 x2 x3 x4 = some (r, S')) : W p l e rmX5_shop s m args below meth c H locs 0 0 (MQ below (Qi D (cM t a) (aW 17 a) (tyM t) r S') args s 0 0 (aW 17 a)) (F0 m 0 ls []) := by
  obtain ⟨⟨hx, hb, hml, hown, hts⟩, hr, hlk⟩ := id E
  unfold f_X5_shop at hf
  refine lv_iload_n hx hb dX5_shop_0 rfl (lv_at hl 1 rfl) ?_
  refine lv_iload_n hx hb dX5_shop_1 rfl (lv_at hl 2 rfl) ?_
  refine lv_iload_n hx hb dX5_shop_2 rfl (lv_at hl 3 rfl) ?_
  refine lv_iload hx hb dX5_shop_3 (lv_at hl 4 rfl) ?_
  obtain ⟨r3, S2, h1, hf⟩ := bd2_o hf
  refine w_callSi (As := [.int x1, .int x2, .int x3, .int x4]) (rest := []) hX E w (c_X5_isTold l hX h1) (va_cwS 4 hts gX5_shop_X5_isTold rfl rfl rfl hd_X5_isTold ⟨Nat.le_of_ble_eq_true rfl, Nat.le_of_ble_eq_true rfl⟩) rfl hl.1 rfl (Nat.le_of_ble_eq_true rfl) dX5_shop_5 ⟨Nat.le_refl _, Nat.le_refl _⟩ (fun H locs w => ?_)
  refine lv_if_ne (tgt := 18) hx hb dX5_shop_8 (by decide) (fun h4 => ?_) (fun h4 => ?_)
  · replace hf := it_f h4 hf
    refine lv_aload_n hx hb dX5_shop_18 rfl (lv_at hl 0 rfl) ?_
    obtain ⟨r7, S6, h5, hf⟩ := bd2_o hf
    refine w_callVi (As := []) (rest := []) hX E w (c_X5_shops l hX h5) (cwV 0 hts gX5_shop_X5_shops rfl rfl rfl hd_X5_shops ⟨Nat.le_of_ble_eq_true rfl, Nat.le_of_ble_eq_true rfl⟩) (ci := 5) rfl (cM_at_0 t a S2) rfl hl.1 rfl (Nat.le_of_ble_eq_true rfl) dX5_shop_19 ⟨Nat.le_refl _, Nat.le_refl _⟩ (fun H locs w => ?_)
    refine lv_istore (lv' := [(5, .int r7), (0, .ref (a 0)), (1, .int x1), (2, .int x2), (3, .int x3), (4, .int x4)]) hx hb dX5_shop_22 hl (by decide) rfl (fun ls hl => ?_)
    refine lv_iload hx hb dX5_shop_24 (lv_at hl 0 rfl) ?_
    refine lv_bipush (v := 6) hx hb dX5_shop_26 (by decide) ?_
    refine lv_icmp_ne (tgt := 36) hx hb dX5_shop_28 (by decide) (fun h8 => ?_) (fun h8 => ?_)
    · replace hf := it_f h8 hf
      refine lv_aload_n hx hb dX5_shop_36 rfl (lv_at hl 1 rfl) ?_
      refine w_get E w in_X5_shop_X5 0 (cM_at_0 t a S6) rfl 0 (by decide) fl_X5_shop_7 rfl rfl dX5_shop_37 ?_
      refine lv_iconst (v := 0) hx hb dX5_shop_40 (by decide) ?_
      refine lv_iconst (v := 4) hx hb dX5_shop_41 (by decide) ?_
      refine lv_iload hx hb dX5_shop_42 (lv_at hl 0 rfl) ?_
      refine lv_imul hx hb dX5_shop_44 ?_
      refine lv_iadd hx hb dX5_shop_45 ?_
      refine lv_iload_n hx hb dX5_shop_46 rfl (lv_at hl 2 rfl) ?_
      obtain ⟨h10, hf⟩ := it_n hf
      obtain ⟨S9, eS9, hf⟩ := nm_o hf
      refine w_ast (S1 := S9) E w 1 0 (cM_at_1 t a S6) rfl h10 rfl ((cM_st_1 t a S6 ((0 + (4 * r7)).toNatClampNeg) x1).trans (congrArg (cM t a) eS9.symm)) dX5_shop_47 (fun H locs w => ?_)
      refine lv_aload_n hx hb dX5_shop_48 rfl (lv_at hl 1 rfl) ?_
      refine w_get E w in_X5_shop_X5 0 (cM_at_0 t a S9) rfl 0 (by decide) fl_X5_shop_7 rfl rfl dX5_shop_49 ?_
      refine lv_iconst (v := 0) hx hb dX5_shop_52 (by decide) ?_
      refine lv_iconst (v := 4) hx hb dX5_shop_53 (by decide) ?_
      refine lv_iload hx hb dX5_shop_54 (lv_at hl 0 rfl) ?_
      refine lv_imul hx hb dX5_shop_56 ?_
      refine lv_iadd hx hb dX5_shop_57 ?_
      refine lv_iconst (v := 1) hx hb dX5_shop_58 (by decide) ?_
      refine lv_iadd hx hb dX5_shop_59 ?_
      refine lv_iload_n hx hb dX5_shop_60 rfl (lv_at hl 3 rfl) ?_
      obtain ⟨h12, hf⟩ := it_n hf
      obtain ⟨S11, eS11, hf⟩ := nm_o hf
      refine w_ast (S1 := S11) E w 1 0 (cM_at_1 t a S9) rfl h12 rfl ((cM_st_1 t a S9 (((0 + (4 * r7)) + 1).toNatClampNeg) x2).trans (congrArg (cM t a) eS11.symm)) dX5_shop_61 (fun H locs w => ?_)
      refine lv_aload_n hx hb dX5_shop_62 rfl (lv_at hl 1 rfl) ?_
      refine w_get E w in_X5_shop_X5 0 (cM_at_0 t a S11) rfl 0 (by decide) fl_X5_shop_7 rfl rfl dX5_shop_63 ?_
      refine lv_iconst (v := 0) hx hb dX5_shop_66 (by decide) ?_
      refine lv_iconst (v := 4) hx hb dX5_shop_67 (by decide) ?_
      refine lv_iload hx hb dX5_shop_68 (lv_at hl 0 rfl) ?_
      refine lv_imul hx hb dX5_shop_70 ?_
      refine lv_iadd hx hb dX5_shop_71 ?_
      refine lv_iconst (v := 2) hx hb dX5_shop_72 (by decide) ?_
      refine lv_iadd hx hb dX5_shop_73 ?_
      refine lv_iload_n hx hb dX5_shop_74 rfl (lv_at hl 4 rfl) ?_
      obtain ⟨h14, hf⟩ := it_n hf
      obtain ⟨S13, eS13, hf⟩ := nm_o hf
      refine w_ast (S1 := S13) E w 1 0 (cM_at_1 t a S11) rfl h14 rfl ((cM_st_1 t a S11 (((0 + (4 * r7)) + 2).toNatClampNeg) x3).trans (congrArg (cM t a) eS13.symm)) dX5_shop_75 (fun H locs w => ?_)
      refine lv_aload_n hx hb dX5_shop_76 rfl (lv_at hl 1 rfl) ?_
      refine w_get E w in_X5_shop_X5 0 (cM_at_0 t a S13) rfl 0 (by decide) fl_X5_shop_7 rfl rfl dX5_shop_77 ?_
      refine lv_iconst (v := 0) hx hb dX5_shop_80 (by decide) ?_
      refine lv_iconst (v := 4) hx hb dX5_shop_81 (by decide) ?_
      refine lv_iload hx hb dX5_shop_82 (lv_at hl 0 rfl) ?_
      refine lv_imul hx hb dX5_shop_84 ?_
      refine lv_iadd hx hb dX5_shop_85 ?_
      refine lv_iconst (v := 3) hx hb dX5_shop_86 (by decide) ?_
      refine lv_iadd hx hb dX5_shop_87 ?_
      refine lv_iload hx hb dX5_shop_88 (lv_at hl 5 rfl) ?_
      obtain ⟨h16, hf⟩ := it_n hf
      obtain ⟨S15, eS15, hf⟩ := nm_o hf
      refine w_ast (S1 := S15) E w 1 0 (cM_at_1 t a S13) rfl h16 rfl ((cM_st_1 t a S13 (((0 + (4 * r7)) + 3).toNatClampNeg) x4).trans (congrArg (cM t a) eS15.symm)) dX5_shop_90 (fun H locs w => ?_)
      refine lv_aload_n hx hb dX5_shop_91 rfl (lv_at hl 1 rfl) ?_
      refine w_get E w in_X5_shop_X5 0 (cM_at_0 t a S15) rfl 0 (by decide) fl_X5_shop_7 rfl rfl dX5_shop_92 ?_
      refine lv_bipush (v := 24) hx hb dX5_shop_95 (by decide) ?_
      refine lv_iload hx hb dX5_shop_97 (lv_at hl 0 rfl) ?_
      refine lv_iadd hx hb dX5_shop_99 ?_
      refine lv_iconst (v := 0) hx hb dX5_shop_100 (by decide) ?_
      obtain ⟨h18, hf⟩ := it_n hf
      obtain ⟨S17, eS17, hf⟩ := nm_o hf
      refine w_ast (S1 := S17) E w 1 0 (cM_at_1 t a S15) rfl h18 rfl ((cM_st_1 t a S15 ((24 + r7).toNatClampNeg) 0).trans (congrArg (cM t a) eS17.symm)) dX5_shop_101 (fun H locs w => ?_)
      refine lv_aload_n hx hb dX5_shop_102 rfl (lv_at hl 1 rfl) ?_
      refine w_get E w in_X5_shop_X5 0 (cM_at_0 t a S17) rfl 0 (by decide) fl_X5_shop_7 rfl rfl dX5_shop_103 ?_
      refine lv_sipush (v := 259) hx hb dX5_shop_106 (by decide) ?_
      refine lv_dup2_11 hx hb dX5_shop_109 rfl rfl ?_
      refine w_ald E w 1 0 (cM_at_1 t a S17) rfl (by decide) (congrArg (S17 1) ix_259) dX5_shop_110 ?_
      refine lv_iconst (v := 1) hx hb dX5_shop_111 (by decide) ?_
      refine lv_iadd hx hb dX5_shop_112 ?_
      obtain ⟨S19, eS19, hf⟩ := nm_o hf
      refine w_ast (S1 := S19) E w 1 0 (cM_at_1 t a S17) rfl (by decide) ix_259 ((cM_st_1 t a S17 259 ((S17 1 259) + 1)).trans (congrArg (cM t a) eS19.symm)) dX5_shop_113 (fun H locs w => ?_)
      refine lv_iload hx hb dX5_shop_114 (lv_at hl 0 rfl) ?_
      exact w_reti E w hf dX5_shop_116
    · replace hf := it_t h8 hf
      refine lv_aload_n hx hb dX5_shop_31 rfl (lv_at hl 1 rfl) ?_
      obtain ⟨r22, S21, h20, hf⟩ := bd2_o hf
      refine w_callVi (As := []) (rest := []) hX E w (c_X5_full l hX h20) (cwV 0 hts gX5_shop_X5_full rfl rfl rfl hd_X5_full ⟨Nat.le_of_ble_eq_true rfl, Nat.le_of_ble_eq_true rfl⟩) (ci := 5) rfl (cM_at_0 t a S6) rfl hl.1 rfl (Nat.le_of_ble_eq_true rfl) dX5_shop_32 ⟨Nat.le_refl _, Nat.le_refl _⟩ (fun H locs w => ?_)
      exact w_reti E w hf dX5_shop_35
  · replace hf := it_t h4 hf
    refine lv_aload_n hx hb dX5_shop_11 rfl (lv_at hl 0 rfl) ?_
    refine lv_bipush (v := (-2)) hx hb dX5_shop_12 (by decide) ?_
    obtain ⟨r25, S24, h23, hf⟩ := bd2_o hf
    refine w_callVi (As := [.int (-2)]) (rest := []) hX E w (c_X5_bad l hX h23) (cwV 1 hts gX5_shop_X5_bad rfl rfl rfl hd_X5_bad ⟨Nat.le_of_ble_eq_true rfl, Nat.le_of_ble_eq_true rfl⟩) (ci := 5) rfl (cM_at_0 t a S2) rfl hl.1 rfl (Nat.le_of_ble_eq_true rfl) dX5_shop_14 ⟨Nat.le_refl _, Nat.le_refl _⟩ (fun H locs w => ?_)
    exact w_reti E w hf dX5_shop_17
theorem c_X5_shop (l : Launch) {D : va_G} {t : Nat → ClassId} {a : Nat → Nat} {X : State → Prop} (hX : XOk (aW 17 a) X) {N : Nat} {S : ST} {x1 : Int32} {x2 : Int32} {x3 : Int32} {x4 : Int32} {r : Int32} {S' : ST} (hf : f_X5_shop N S x1 x2 x3 x4 = some (r, S')) : Co l yX5_shop wsX5_shop rmX5_shop D (cM t a) (aW 17 a) (tyM t) X [.ref (a 0), .int x1, .int x2, .int x3, .int x4] S (Qi D (cM t a) (aW 17 a) (tyM t) r S') :=
  co_of (cc := cX5_shop) (maxL := 6) (ret := (some .int)) (lv := [(0, .ref (a 0)), (1, .int x1), (2, .int x2), (3, .int x3), (4, .int x4)]) (by decide) rfl rfl (Nat.le_of_ble_eq_true rfl) rfl rfl (fun p e s m below meth c ls E hl w => k_X5_shop_E hX E w hl hf)
-- X5_isShop
abbrev rmX5_isShop : Room := { frames := 1, cells := 0, slots := 0, locals := 25 }
set_option maxHeartbeats 4000000 in
set_option maxRecDepth 100000 in
theorem k_X5_isShop_E {p : Program} {l : Launch} {e : Env} {s : State} {m : MethodId} {args : Array Value} {below : List Frame} {meth : Method} {c : Code} {D : va_G} {t : Nat → ClassId} {a : Nat → Nat} {X : State → Prop} {N : Nat} {r : Int32} {S' : ST} (hX : XOk (aW 17 a) X) (E : EN p s m args meth c cX5_isShop RX5 wsX5_isShop (some .boolean) 2) {S : ST} {x1 : Int32} {H : Heap} {locs : List Loc} {ls : Array Slot} (w : Wd D (cM t a) (aW 17 a) (tyM t) X S s H locs) (hl : lv_has ls 2 [(0, .ref (a 0)), (1, .int x1)]) (hf : f_X5_isShop N S x1 = some (r, S')) : W p l e rmX5_isShop s m args below meth c H locs 0 0 (MQ below (Qi D (cM t a) (aW 17 a) (tyM t) r S') args s 0 0 (aW 17 a)) (F0 m 0 ls []) := by
  obtain ⟨⟨hx, hb, hml, hown, hts⟩, hr, hlk⟩ := id E
  unfold f_X5_isShop at hf
  refine lv_iload_n hx hb dX5_isShop_0 rfl (lv_at hl 1 rfl) ?_
  refine lv_i2l hx hb dX5_isShop_1 rfl ?_
  refine lv_lconst (v := 0) hx hb dX5_isShop_2 (by decide) ?_
  refine lv_aload_n hx hb dX5_isShop_3 rfl (lv_at hl 0 rfl) ?_
  obtain ⟨r3, S2, h1, hf⟩ := bd2_o hf
  refine w_callVi (As := []) (rest := [.long 0, .long ((x1 : Int32).toInt64)]) hX E w (c_X5_shops l hX h1) (cwV 0 hts gX5_isShop_X5_shops rfl rfl rfl hd_X5_shops ⟨Nat.le_of_ble_eq_true rfl, Nat.le_of_ble_eq_true rfl⟩) (ci := 5) rfl (cM_at_0 t a S) rfl hl.1 rfl (Nat.le_of_ble_eq_true rfl) dX5_isShop_4 ⟨Nat.le_refl _, Nat.le_refl _⟩ (fun H locs w => ?_)
  refine lv_iconst (v := 1) hx hb dX5_isShop_7 (by decide) ?_
  refine lv_isub hx hb dX5_isShop_8 ?_
  refine lv_i2l hx hb dX5_isShop_9 rfl ?_
  obtain ⟨r6, S5, h4, hf⟩ := bd2_o hf
  refine w_callSi (As := [.long ((x1 : Int32).toInt64), .long 0, .long (((r3 - 1) : Int32).toInt64)]) (rest := []) hX E w (c_X5_in l hX h4) (va_cwS 3 hts gX5_isShop_X5_in rfl rfl rfl hd_X5_in ⟨Nat.le_of_ble_eq_true rfl, Nat.le_of_ble_eq_true rfl⟩) rfl hl.1 rfl (Nat.le_of_ble_eq_true rfl) dX5_isShop_10 ⟨Nat.le_refl _, Nat.le_refl _⟩ (fun H locs w => ?_)
  obtain ⟨h7, hf⟩ := it_s hf
  exact w_retz E w h7 hf dX5_isShop_13
theorem c_X5_isShop (l : Launch) {D : va_G} {t : Nat → ClassId} {a : Nat → Nat} {X : State → Prop} (hX : XOk (aW 17 a) X) {N : Nat} {S : ST} {x1 : Int32} {r : Int32} {S' : ST} (hf : f_X5_isShop N S x1 = some (r, S')) : Co l yX5_isShop wsX5_isShop rmX5_isShop D (cM t a) (aW 17 a) (tyM t) X [.ref (a 0), .int x1] S (Qi D (cM t a) (aW 17 a) (tyM t) r S') :=
  co_of (cc := cX5_isShop) (maxL := 2) (ret := (some .boolean)) (lv := [(0, .ref (a 0)), (1, .int x1)]) (by decide) rfl rfl (Nat.le_of_ble_eq_true rfl) rfl rfl (fun p e s m below meth c ls E hl w => k_X5_isShop_E hX E w hl hf)
-- X5_areNear
theorem in_X5_areNear_X5 : ∀ w ∈ u_ws RX5 TX5 28, w ∈ wsX5_areNear := by decide +kernel
theorem fl_X5_areNear_7 : Cond.fieldLink RX5 7 "NextDoorModel" "now" "[I" ∈ wsX5_areNear := by decide +kernel
abbrev rmX5_areNear : Room := { frames := 0, cells := 0, slots := 0, locals := 0 }
set_option maxHeartbeats 4000000 in
set_option maxRecDepth 100000 in
theorem k_X5_areNear_E {p : Program} {l : Launch} {e : Env} {s : State} {m : MethodId} {args : Array Value} {below : List Frame} {meth : Method} {c : Code} {D : va_G} {t : Nat → ClassId} {a : Nat → Nat} {X : State → Prop} {N : Nat} {r : Int32} {S' : ST} (hX : XOk (aW 17 a) X) (E : EN p s m args meth c cX5_areNear RX5 wsX5_areNear (some .boolean) 3) {S : ST} {x1 : Int32} {x2 : Int32} {H : Heap} {locs : List Loc} {ls : Array Slot} (w : Wd D (cM t a) (aW 17 a) (tyM t) X S s H locs) (hl : lv_has ls 3 [(0, .ref (a 0)), (1, .int x1), (2, .int x2)]) (hf : f_X5_areNear N S x1 x2 = some (r, S')) : W p l e rmX5_areNear s m args below meth c H locs 0 0 (MQ below (Qi D (cM t a) (aW 17 a) (tyM t) r S') args s 0 0 (aW 17 a)) (F0 m 0 ls []) := by
  obtain ⟨⟨hx, hb, hml, hown, hts⟩, hr, hlk⟩ := id E
  unfold f_X5_areNear at hf
  refine lv_aload_n hx hb dX5_areNear_0 rfl (lv_at hl 0 rfl) ?_
  refine w_get E w in_X5_areNear_X5 0 (cM_at_0 t a S) rfl 0 (by decide) fl_X5_areNear_7 rfl rfl dX5_areNear_1 ?_
  refine lv_bipush (v := 24) hx hb dX5_areNear_4 (by decide) ?_
  refine lv_iload_n hx hb dX5_areNear_6 rfl (lv_at hl 1 rfl) ?_
  refine lv_iadd hx hb dX5_areNear_7 ?_
  obtain ⟨h1, hf⟩ := it_n hf
  refine w_ald E w 1 0 (cM_at_1 t a S) rfl h1 rfl dX5_areNear_8 ?_
  refine lv_iload_n hx hb dX5_areNear_9 rfl (lv_at hl 2 rfl) ?_
  refine lv_ishr hx hb dX5_areNear_10 ?_
  refine lv_iconst (v := 1) hx hb dX5_areNear_11 (by decide) ?_
  refine lv_iand hx hb dX5_areNear_12 ?_
  refine lv_iconst (v := 1) hx hb dX5_areNear_13 (by decide) ?_
  refine lv_icmp_ne (tgt := 21) hx hb dX5_areNear_14 (by decide) (fun h2 => ?_) (fun h2 => ?_)
  · replace hf := it_f h2 hf
    refine lv_iconst (v := 0) hx hb dX5_areNear_21 (by decide) ?_
    exact w_retz E w (by decide) hf dX5_areNear_22
  · replace hf := it_t h2 hf
    refine lv_iconst (v := 1) hx hb dX5_areNear_17 (by decide) ?_
    refine lv_goto (tgt := 22) hx hb dX5_areNear_18 (by decide) ?_
    exact w_retz E w (by decide) hf dX5_areNear_22
theorem c_X5_areNear (l : Launch) {D : va_G} {t : Nat → ClassId} {a : Nat → Nat} {X : State → Prop} (hX : XOk (aW 17 a) X) {N : Nat} {S : ST} {x1 : Int32} {x2 : Int32} {r : Int32} {S' : ST} (hf : f_X5_areNear N S x1 x2 = some (r, S')) : Co l yX5_areNear wsX5_areNear rmX5_areNear D (cM t a) (aW 17 a) (tyM t) X [.ref (a 0), .int x1, .int x2] S (Qi D (cM t a) (aW 17 a) (tyM t) r S') :=
  co_of (cc := cX5_areNear) (maxL := 3) (ret := (some .boolean)) (lv := [(0, .ref (a 0)), (1, .int x1), (2, .int x2)]) (by decide) rfl rfl (Nat.le_of_ble_eq_true rfl) rfl rfl (fun p e s m below meth c ls E hl w => k_X5_areNear_E hX E w hl hf)
-- X5_turnNear
theorem in_X5_turnNear_X5 : ∀ w ∈ u_ws RX5 TX5 28, w ∈ wsX5_turnNear := by decide +kernel
theorem fl_X5_turnNear_7 : Cond.fieldLink RX5 7 "NextDoorModel" "now" "[I" ∈ wsX5_turnNear := by decide +kernel
abbrev rmX5_turnNear : Room := { frames := 0, cells := 0, slots := 0, locals := 0 }
set_option maxHeartbeats 4000000 in
set_option maxRecDepth 100000 in
theorem k_X5_turnNear_E {p : Program} {l : Launch} {e : Env} {s : State} {m : MethodId} {args : Array Value} {below : List Frame} {meth : Method} {c : Code} {D : va_G} {t : Nat → ClassId} {a : Nat → Nat} {X : State → Prop} {N : Nat} {S' : ST} (hX : XOk (aW 17 a) X) (E : EN p s m args meth c cX5_turnNear RX5 wsX5_turnNear none 3) {S : ST} {x1 : Int32} {x2 : Int32} {H : Heap} {locs : List Loc} {ls : Array Slot} (w : Wd D (cM t a) (aW 17 a) (tyM t) X S s H locs) (hl : lv_has ls 3 [(0, .ref (a 0)), (1, .int x1), (2, .int x2)]) (hf : f_X5_turnNear N S x1 x2 = some S') : W p l e rmX5_turnNear s m args below meth c H locs 0 0 (MQ below (Qv D (cM t a) (aW 17 a) (tyM t) S') args s 0 0 (aW 17 a)) (F0 m 0 ls []) := by
  obtain ⟨⟨hx, hb, hml, hown, hts⟩, hr, hlk⟩ := id E
  unfold f_X5_turnNear at hf
  refine lv_aload_n hx hb dX5_turnNear_0 rfl (lv_at hl 0 rfl) ?_
  refine w_get E w in_X5_turnNear_X5 0 (cM_at_0 t a S) rfl 0 (by decide) fl_X5_turnNear_7 rfl rfl dX5_turnNear_1 ?_
  refine lv_bipush (v := 24) hx hb dX5_turnNear_4 (by decide) ?_
  refine lv_iload_n hx hb dX5_turnNear_6 rfl (lv_at hl 1 rfl) ?_
  refine lv_iadd hx hb dX5_turnNear_7 ?_
  refine lv_dup2_11 hx hb dX5_turnNear_8 rfl rfl ?_
  obtain ⟨h1, hf⟩ := it_n hf
  refine w_ald E w 1 0 (cM_at_1 t a S) rfl h1 rfl dX5_turnNear_9 ?_
  refine lv_iconst (v := 1) hx hb dX5_turnNear_10 (by decide) ?_
  refine lv_iload_n hx hb dX5_turnNear_11 rfl (lv_at hl 2 rfl) ?_
  refine lv_ishl hx hb dX5_turnNear_12 ?_
  refine lv_ixor hx hb dX5_turnNear_13 ?_
  obtain ⟨h3, hf⟩ := it_n hf
  obtain ⟨S2, eS2, hf⟩ := nm_o hf
  refine w_ast (S1 := S2) E w 1 0 (cM_at_1 t a S) rfl h3 rfl ((cM_st_1 t a S ((24 + x1).toNatClampNeg) ((S 1 (24 + x1).toNatClampNeg) ^^^ (1 <<< (x2 &&& 31)))).trans (congrArg (cM t a) eS2.symm)) dX5_turnNear_14 (fun H locs w => ?_)
  refine lv_aload_n hx hb dX5_turnNear_15 rfl (lv_at hl 0 rfl) ?_
  refine w_get E w in_X5_turnNear_X5 0 (cM_at_0 t a S2) rfl 0 (by decide) fl_X5_turnNear_7 rfl rfl dX5_turnNear_16 ?_
  refine lv_bipush (v := 24) hx hb dX5_turnNear_19 (by decide) ?_
  refine lv_iload_n hx hb dX5_turnNear_21 rfl (lv_at hl 2 rfl) ?_
  refine lv_iadd hx hb dX5_turnNear_22 ?_
  refine lv_dup2_11 hx hb dX5_turnNear_23 rfl rfl ?_
  obtain ⟨h4, hf⟩ := it_n hf
  refine w_ald E w 1 0 (cM_at_1 t a S2) rfl h4 rfl dX5_turnNear_24 ?_
  refine lv_iconst (v := 1) hx hb dX5_turnNear_25 (by decide) ?_
  refine lv_iload_n hx hb dX5_turnNear_26 rfl (lv_at hl 1 rfl) ?_
  refine lv_ishl hx hb dX5_turnNear_27 ?_
  refine lv_ixor hx hb dX5_turnNear_28 ?_
  obtain ⟨h6, hf⟩ := it_n hf
  obtain ⟨S5, eS5, hf⟩ := nm_o hf
  refine w_ast (S1 := S5) E w 1 0 (cM_at_1 t a S2) rfl h6 rfl ((cM_st_1 t a S2 ((24 + x2).toNatClampNeg) ((S2 1 (24 + x2).toNatClampNeg) ^^^ (1 <<< (x1 &&& 31)))).trans (congrArg (cM t a) eS5.symm)) dX5_turnNear_29 (fun H locs w => ?_)
  exact w_retv E w hf dX5_turnNear_30
theorem c_X5_turnNear (l : Launch) {D : va_G} {t : Nat → ClassId} {a : Nat → Nat} {X : State → Prop} (hX : XOk (aW 17 a) X) {N : Nat} {S : ST} {x1 : Int32} {x2 : Int32} {S' : ST} (hf : f_X5_turnNear N S x1 x2 = some S') : Co l yX5_turnNear wsX5_turnNear rmX5_turnNear D (cM t a) (aW 17 a) (tyM t) X [.ref (a 0), .int x1, .int x2] S (Qv D (cM t a) (aW 17 a) (tyM t) S') :=
  co_of (cc := cX5_turnNear) (maxL := 3) (ret := none) (lv := [(0, .ref (a 0)), (1, .int x1), (2, .int x2)]) (by decide) rfl rfl (Nat.le_of_ble_eq_true rfl) rfl rfl (fun p e s m below meth c ls E hl w => k_X5_turnNear_E hX E w hl hf)
-- X5_no
theorem in_X5_no_X5 : ∀ w ∈ u_ws RX5 TX5 28, w ∈ wsX5_no := by decide +kernel
theorem fl_X5_no_20 : Cond.fieldLink RX5 20 "NextDoorModel" "refused" "[I" ∈ wsX5_no := by decide +kernel
abbrev rmX5_no : Room := { frames := 0, cells := 0, slots := 0, locals := 0 }
set_option maxHeartbeats 4000000 in
set_option maxRecDepth 100000 in
theorem k_X5_no_E {p : Program} {l : Launch} {e : Env} {s : State} {m : MethodId} {args : Array Value} {below : List Frame} {meth : Method} {c : Code} {D : va_G} {t : Nat → ClassId} {a : Nat → Nat} {X : State → Prop} {N : Nat} {r : Int32} {S' : ST} (hX : XOk (aW 17 a) X) (E : EN p s m args meth c cX5_no RX5 wsX5_no (some .int) 2) {S : ST} {x1 : Int32} {H : Heap} {locs : List Loc} {ls : Array Slot} (w : Wd D (cM t a) (aW 17 a) (tyM t) X S s H locs) (hl : lv_has ls 2 [(0, .ref (a 0)), (1, .int x1)]) (hf : f_X5_no N S x1 = some (r, S')) : W p l e rmX5_no s m args below meth c H locs 0 0 (MQ below (Qi D (cM t a) (aW 17 a) (tyM t) r S') args s 0 0 (aW 17 a)) (F0 m 0 ls []) := by
  obtain ⟨⟨hx, hb, hml, hown, hts⟩, hr, hlk⟩ := id E
  unfold f_X5_no at hf
  refine lv_aload_n hx hb dX5_no_0 rfl (lv_at hl 0 rfl) ?_
  refine w_get E w in_X5_no_X5 0 (cM_at_0 t a S) rfl 3 (by decide) fl_X5_no_20 rfl rfl dX5_no_1 ?_
  refine lv_iconst (v := 1) hx hb dX5_no_4 (by decide) ?_
  refine lv_dup2_11 hx hb dX5_no_5 rfl rfl ?_
  refine w_ald E w 4 0 (cM_at_4 t a S) rfl (by decide) (congrArg (S 4) ix_1) dX5_no_6 ?_
  refine lv_iconst (v := 1) hx hb dX5_no_7 (by decide) ?_
  refine lv_iadd hx hb dX5_no_8 ?_
  obtain ⟨S1, eS1, hf⟩ := nm_o hf
  refine w_ast (S1 := S1) E w 4 0 (cM_at_4 t a S) rfl (by decide) ix_1 ((cM_st_4 t a S 1 ((S 4 1) + 1)).trans (congrArg (cM t a) eS1.symm)) dX5_no_9 (fun H locs w => ?_)
  refine lv_iload_n hx hb dX5_no_10 rfl (lv_at hl 1 rfl) ?_
  exact w_reti E w hf dX5_no_11
theorem c_X5_no (l : Launch) {D : va_G} {t : Nat → ClassId} {a : Nat → Nat} {X : State → Prop} (hX : XOk (aW 17 a) X) {N : Nat} {S : ST} {x1 : Int32} {r : Int32} {S' : ST} (hf : f_X5_no N S x1 = some (r, S')) : Co l yX5_no wsX5_no rmX5_no D (cM t a) (aW 17 a) (tyM t) X [.ref (a 0), .int x1] S (Qi D (cM t a) (aW 17 a) (tyM t) r S') :=
  co_of (cc := cX5_no) (maxL := 2) (ret := (some .int)) (lv := [(0, .ref (a 0)), (1, .int x1)]) (by decide) rfl rfl (Nat.le_of_ble_eq_true rfl) rfl rfl (fun p e s m below meth c ls E hl w => k_X5_no_E hX E w hl hf)
-- X5_next
theorem hd_X5_isShop : yX5_isShop.cls = RX5 ∧ yX5_isShop.cls ≠ "java/lang/invoke/MethodHandle" ∧ yX5_isShop.cls ≠ "java/lang/invoke/VarHandle" ∧ (parseMethodDescriptor yX5_isShop.desc).map (fun d => d.parameters.length) = some 1 := by decide +kernel
theorem hd_X5_areNear : yX5_areNear.cls = RX5 ∧ yX5_areNear.cls ≠ "java/lang/invoke/MethodHandle" ∧ yX5_areNear.cls ≠ "java/lang/invoke/VarHandle" ∧ (parseMethodDescriptor yX5_areNear.desc).map (fun d => d.parameters.length) = some 2 := by decide +kernel
theorem hd_X5_turnNear : yX5_turnNear.cls = RX5 ∧ yX5_turnNear.cls ≠ "java/lang/invoke/MethodHandle" ∧ yX5_turnNear.cls ≠ "java/lang/invoke/VarHandle" ∧ (parseMethodDescriptor yX5_turnNear.desc).map (fun d => d.parameters.length) = some 2 := by decide +kernel
theorem hd_X5_no : yX5_no.cls = RX5 ∧ yX5_no.cls ≠ "java/lang/invoke/MethodHandle" ∧ yX5_no.cls ≠ "java/lang/invoke/VarHandle" ∧ (parseMethodDescriptor yX5_no.desc).map (fun d => d.parameters.length) = some 1 := by decide +kernel
abbrev rmX5_next : Room := { frames := 2, cells := 0, slots := 0, locals := 46 }
set_option maxHeartbeats 4000000 in
set_option maxRecDepth 100000 in
theorem k_X5_next_21 {p : Program} {l : Launch} {e : Env} {s : State} {m : MethodId} {args : Array Value} {below : List Frame} {meth : Method} {c : Code} {D : va_G} {t : Nat → ClassId} {a : Nat → Nat} {X : State → Prop} {N : Nat} {r : Int32} {S' : ST} (hX : XOk (aW 17 a) X) (E : EN p s m args meth c cX5_next RX5 wsX5_next (some .int) 4) {S : ST} {H : Heap} {locs : List Loc} {ls : Array Slot} (w : Wd D (cM t a) (aW 17 a) (tyM t) X S s H locs) (hl : lv_has ls 4 [(0, .ref (a 0))]) (hf : b_X5_next_21 N S = some (r, S')) : W p l e rmX5_next s m args below meth c H locs 0 0 (MQ below (Qi D (cM t a) (aW 17 a) (tyM t) r S') args s 0 0 (aW 17 a)) (F0 m 21 ls []) := by
  obtain ⟨⟨hx, hb, hml, hown, hts⟩, hr, hlk⟩ := id E
  unfold b_X5_next_21 at hf
  refine lv_aload_n hx hb dX5_next_21 rfl (lv_at hl 0 rfl) ?_
  refine lv_bipush (v := (-2)) hx hb dX5_next_22 (by decide) ?_
  obtain ⟨r21, S20, h19, hf⟩ := bd2_o hf
  refine w_callVi (As := [.int (-2)]) (rest := []) hX E w (c_X5_bad l hX h19) (cwV 1 hts gX5_next_X5_bad rfl rfl rfl hd_X5_bad ⟨Nat.le_of_ble_eq_true rfl, Nat.le_of_ble_eq_true rfl⟩) (ci := 5) rfl (cM_at_0 t a S) rfl hl.1 rfl (Nat.le_of_ble_eq_true rfl) dX5_next_24 ⟨Nat.le_refl _, Nat.le_refl _⟩ (fun H locs w => ?_)
  exact w_reti E w hf dX5_next_27
set_option maxHeartbeats 4000000 in
set_option maxRecDepth 100000 in
theorem k_X5_next_E {p : Program} {l : Launch} {e : Env} {s : State} {m : MethodId} {args : Array Value} {below : List Frame} {meth : Method} {c : Code} {D : va_G} {t : Nat → ClassId} {a : Nat → Nat} {X : State → Prop} {N : Nat} {r : Int32} {S' : ST} (hX : XOk (aW 17 a) X) (E : EN p s m args meth c cX5_next RX5 wsX5_next (some .int) 4) {S : ST} {x1 : Int32} {x2 : Int32} {x3 : Int32} {H : Heap} {locs : List Loc} {ls : Array Slot} (w : Wd D (cM t a) (aW 17 a) (tyM t) X S s H locs) (hl : lv_has ls 4 [(0, .ref (a 0)), (1, .int x1), (2, .int x2), (3, .int x3)]) (hf : f_X5_next N S x1 x2 x3 = some (r, S')) : W p l e rmX5_next s m args below meth c H locs 0 0 (MQ below (Qi D (cM t a) (aW 17 a) (tyM t) r S') args s 0 0 (aW 17 a)) (F0 m 0 ls []) := by
  obtain ⟨⟨hx, hb, hml, hown, hts⟩, hr, hlk⟩ := id E
  unfold f_X5_next at hf
  refine lv_aload_n hx hb dX5_next_0 rfl (lv_at hl 0 rfl) ?_
  refine lv_iload_n hx hb dX5_next_1 rfl (lv_at hl 1 rfl) ?_
  obtain ⟨r3, S2, h1, hf⟩ := bd2_o hf
  refine w_callVi (As := [.int x1]) (rest := []) hX E w (c_X5_isShop l hX h1) (cwV 1 hts gX5_next_X5_isShop rfl rfl rfl hd_X5_isShop ⟨Nat.le_of_ble_eq_true rfl, Nat.le_of_ble_eq_true rfl⟩) (ci := 5) rfl (cM_at_0 t a S) rfl hl.1 rfl (Nat.le_of_ble_eq_true rfl) dX5_next_2 ⟨Nat.le_refl _, Nat.le_refl _⟩ (fun H locs w => ?_)
  refine lv_if_eq (tgt := 21) hx hb dX5_next_5 (by decide) (fun h4 => ?_) (fun h4 => ?_)
  · replace hf := it_t h4 hf
    exact k_X5_next_21 hX E w (lv_sub hl [0] rfl) hf
  · replace hf := it_f h4 hf
    refine lv_aload_n hx hb dX5_next_8 rfl (lv_at hl 0 rfl) ?_
    refine lv_iload_n hx hb dX5_next_9 rfl (lv_at hl 2 rfl) ?_
    obtain ⟨r7, S6, h5, hf⟩ := bd2_o hf
    refine w_callVi (As := [.int x2]) (rest := []) hX E w (c_X5_isShop l hX h5) (cwV 1 hts gX5_next_X5_isShop rfl rfl rfl hd_X5_isShop ⟨Nat.le_of_ble_eq_true rfl, Nat.le_of_ble_eq_true rfl⟩) (ci := 5) rfl (cM_at_0 t a S2) rfl hl.1 rfl (Nat.le_of_ble_eq_true rfl) dX5_next_10 ⟨Nat.le_refl _, Nat.le_refl _⟩ (fun H locs w => ?_)
    refine lv_if_eq (tgt := 21) hx hb dX5_next_13 (by decide) (fun h8 => ?_) (fun h8 => ?_)
    · replace hf := it_t h8 hf
      exact k_X5_next_21 hX E w (lv_sub hl [0] rfl) hf
    · replace hf := it_f h8 hf
      refine lv_iload_n hx hb dX5_next_16 rfl (lv_at hl 1 rfl) ?_
      refine lv_iload_n hx hb dX5_next_17 rfl (lv_at hl 2 rfl) ?_
      refine lv_icmp_ne (tgt := 28) hx hb dX5_next_18 (by decide) (fun h9 => ?_) (fun h9 => ?_)
      · replace hf := it_f h9 hf
        refine lv_aload_n hx hb dX5_next_28 rfl (lv_at hl 0 rfl) ?_
        refine lv_iload_n hx hb dX5_next_29 rfl (lv_at hl 1 rfl) ?_
        refine lv_iload_n hx hb dX5_next_30 rfl (lv_at hl 2 rfl) ?_
        obtain ⟨r12, S11, h10, hf⟩ := bd2_o hf
        refine w_callVi (As := [.int x1, .int x2]) (rest := []) hX E w (c_X5_areNear l hX h10) (cwV 2 hts gX5_next_X5_areNear rfl rfl rfl hd_X5_areNear ⟨Nat.le_of_ble_eq_true rfl, Nat.le_of_ble_eq_true rfl⟩) (ci := 5) rfl (cM_at_0 t a S6) rfl hl.1 rfl (Nat.le_of_ble_eq_true rfl) dX5_next_31 ⟨Nat.le_refl _, Nat.le_refl _⟩ (fun H locs w => ?_)
        refine lv_iload_n hx hb dX5_next_34 rfl (lv_at hl 3 rfl) ?_
        refine lv_icmp_ne (tgt := 45) hx hb dX5_next_35 (by decide) (fun h13 => ?_) (fun h13 => ?_)
        · replace hf := it_f h13 hf
          refine lv_aload_n hx hb dX5_next_45 rfl (lv_at hl 0 rfl) ?_
          refine lv_iload_n hx hb dX5_next_46 rfl (lv_at hl 1 rfl) ?_
          refine lv_iload_n hx hb dX5_next_47 rfl (lv_at hl 2 rfl) ?_
          obtain ⟨S15, h14, hf⟩ := bd1_o hf
          refine w_callVv (As := [.int x1, .int x2]) (rest := []) hX E w (c_X5_turnNear l hX h14) (cwV 2 hts gX5_next_X5_turnNear rfl rfl rfl hd_X5_turnNear ⟨Nat.le_of_ble_eq_true rfl, Nat.le_of_ble_eq_true rfl⟩) (ci := 5) rfl (cM_at_0 t a S11) rfl hl.1 rfl (Nat.le_of_ble_eq_true rfl) dX5_next_48 ⟨Nat.le_refl _, Nat.le_refl _⟩ (fun H locs w => ?_)
          refine lv_iconst (v := 1) hx hb dX5_next_51 (by decide) ?_
          exact w_reti E w hf dX5_next_52
        · replace hf := it_t h13 hf
          refine lv_aload_n hx hb dX5_next_38 rfl (lv_at hl 0 rfl) ?_
          refine lv_bipush (v := (-3)) hx hb dX5_next_39 (by decide) ?_
          obtain ⟨r18, S17, h16, hf⟩ := bd2_o hf
          refine w_callVi (As := [.int (-3)]) (rest := []) hX E w (c_X5_no l hX h16) (cwV 1 hts gX5_next_X5_no rfl rfl rfl hd_X5_no ⟨Nat.le_of_ble_eq_true rfl, Nat.le_of_ble_eq_true rfl⟩) (ci := 5) rfl (cM_at_0 t a S11) rfl hl.1 rfl (Nat.le_of_ble_eq_true rfl) dX5_next_41 ⟨Nat.le_refl _, Nat.le_refl _⟩ (fun H locs w => ?_)
          exact w_reti E w hf dX5_next_44
      · replace hf := it_t h9 hf
        exact k_X5_next_21 hX E w (lv_sub hl [0] rfl) hf
theorem c_X5_next (l : Launch) {D : va_G} {t : Nat → ClassId} {a : Nat → Nat} {X : State → Prop} (hX : XOk (aW 17 a) X) {N : Nat} {S : ST} {x1 : Int32} {x2 : Int32} {x3 : Int32} {r : Int32} {S' : ST} (hf : f_X5_next N S x1 x2 x3 = some (r, S')) : Co l yX5_next wsX5_next rmX5_next D (cM t a) (aW 17 a) (tyM t) X [.ref (a 0), .int x1, .int x2, .int x3] S (Qi D (cM t a) (aW 17 a) (tyM t) r S') :=
  co_of (cc := cX5_next) (maxL := 4) (ret := (some .int)) (lv := [(0, .ref (a 0)), (1, .int x1), (2, .int x2), (3, .int x3)]) (by decide) rfl rfl (Nat.le_of_ble_eq_true rfl) rfl rfl (fun p e s m below meth c ls E hl w => k_X5_next_E hX E w hl hf)
-- X5_isFree
theorem in_X5_isFree_X5 : ∀ w ∈ u_ws RX5 TX5 28, w ∈ wsX5_isFree := by decide +kernel
theorem fl_X5_isFree_7 : Cond.fieldLink RX5 7 "NextDoorModel" "now" "[I" ∈ wsX5_isFree := by decide +kernel
abbrev rmX5_isFree : Room := { frames := 0, cells := 0, slots := 0, locals := 0 }
set_option maxHeartbeats 4000000 in
set_option maxRecDepth 100000 in
theorem k_X5_isFree_E {p : Program} {l : Launch} {e : Env} {s : State} {m : MethodId} {args : Array Value} {below : List Frame} {meth : Method} {c : Code} {D : va_G} {t : Nat → ClassId} {a : Nat → Nat} {X : State → Prop} {N : Nat} {r : Int32} {S' : ST} (hX : XOk (aW 17 a) X) (E : EN p s m args meth c cX5_isFree RX5 wsX5_isFree (some .boolean) 2) {S : ST} {x1 : Int32} {H : Heap} {locs : List Loc} {ls : Array Slot} (w : Wd D (cM t a) (aW 17 a) (tyM t) X S s H locs) (hl : lv_has ls 2 [(0, .ref (a 0)), (1, .int x1)]) (hf : f_X5_isFree N S x1 = some (r, S')) : W p l e rmX5_isFree s m args below meth c H locs 0 0 (MQ below (Qi D (cM t a) (aW 17 a) (tyM t) r S') args s 0 0 (aW 17 a)) (F0 m 0 ls []) := by
  obtain ⟨⟨hx, hb, hml, hown, hts⟩, hr, hlk⟩ := id E
  unfold f_X5_isFree at hf
  refine lv_aload_n hx hb dX5_isFree_0 rfl (lv_at hl 0 rfl) ?_
  refine w_get E w in_X5_isFree_X5 0 (cM_at_0 t a S) rfl 0 (by decide) fl_X5_isFree_7 rfl rfl dX5_isFree_1 ?_
  refine lv_bipush (v := 30) hx hb dX5_isFree_4 (by decide) ?_
  refine w_ald E w 1 0 (cM_at_1 t a S) rfl (by decide) (congrArg (S 1) ix_30) dX5_isFree_6 ?_
  refine lv_iload_n hx hb dX5_isFree_7 rfl (lv_at hl 1 rfl) ?_
  refine lv_ishr hx hb dX5_isFree_8 ?_
  refine lv_iconst (v := 1) hx hb dX5_isFree_9 (by decide) ?_
  refine lv_iand hx hb dX5_isFree_10 ?_
  refine lv_iconst (v := 1) hx hb dX5_isFree_11 (by decide) ?_
  refine lv_icmp_ne (tgt := 19) hx hb dX5_isFree_12 (by decide) (fun h1 => ?_) (fun h1 => ?_)
  · replace hf := it_f h1 hf
    refine lv_iconst (v := 0) hx hb dX5_isFree_19 (by decide) ?_
    exact w_retz E w (by decide) hf dX5_isFree_20
  · replace hf := it_t h1 hf
    refine lv_iconst (v := 1) hx hb dX5_isFree_15 (by decide) ?_
    refine lv_goto (tgt := 20) hx hb dX5_isFree_16 (by decide) ?_
    exact w_retz E w (by decide) hf dX5_isFree_20
theorem c_X5_isFree (l : Launch) {D : va_G} {t : Nat → ClassId} {a : Nat → Nat} {X : State → Prop} (hX : XOk (aW 17 a) X) {N : Nat} {S : ST} {x1 : Int32} {r : Int32} {S' : ST} (hf : f_X5_isFree N S x1 = some (r, S')) : Co l yX5_isFree wsX5_isFree rmX5_isFree D (cM t a) (aW 17 a) (tyM t) X [.ref (a 0), .int x1] S (Qi D (cM t a) (aW 17 a) (tyM t) r S') :=
  co_of (cc := cX5_isFree) (maxL := 2) (ret := (some .boolean)) (lv := [(0, .ref (a 0)), (1, .int x1)]) (by decide) rfl rfl (Nat.le_of_ble_eq_true rfl) rfl rfl (fun p e s m below meth c ls E hl w => k_X5_isFree_E hX E w hl hf)
-- X5_free
theorem hd_X5_isFree : yX5_isFree.cls = RX5 ∧ yX5_isFree.cls ≠ "java/lang/invoke/MethodHandle" ∧ yX5_isFree.cls ≠ "java/lang/invoke/VarHandle" ∧ (parseMethodDescriptor yX5_isFree.desc).map (fun d => d.parameters.length) = some 1 := by decide +kernel
theorem in_X5_free_X5 : ∀ w ∈ u_ws RX5 TX5 28, w ∈ wsX5_free := by decide +kernel
theorem fl_X5_free_7 : Cond.fieldLink RX5 7 "NextDoorModel" "now" "[I" ∈ wsX5_free := by decide +kernel
abbrev rmX5_free : Room := { frames := 2, cells := 0, slots := 0, locals := 46 }
set_option maxHeartbeats 4000000 in
set_option maxRecDepth 100000 in
theorem k_X5_free_E {p : Program} {l : Launch} {e : Env} {s : State} {m : MethodId} {args : Array Value} {below : List Frame} {meth : Method} {c : Code} {D : va_G} {t : Nat → ClassId} {a : Nat → Nat} {X : State → Prop} {N : Nat} {r : Int32} {S' : ST} (hX : XOk (aW 17 a) X) (E : EN p s m args meth c cX5_free RX5 wsX5_free (some .int) 3) {S : ST} {x1 : Int32} {x2 : Int32} {H : Heap} {locs : List Loc} {ls : Array Slot} (w : Wd D (cM t a) (aW 17 a) (tyM t) X S s H locs) (hl : lv_has ls 3 [(0, .ref (a 0)), (1, .int x1), (2, .int x2)]) (hf : f_X5_free N S x1 x2 = some (r, S')) : W p l e rmX5_free s m args below meth c H locs 0 0 (MQ below (Qi D (cM t a) (aW 17 a) (tyM t) r S') args s 0 0 (aW 17 a)) (F0 m 0 ls []) := by
  obtain ⟨⟨hx, hb, hml, hown, hts⟩, hr, hlk⟩ := id E
  unfold f_X5_free at hf
  refine lv_aload_n hx hb dX5_free_0 rfl (lv_at hl 0 rfl) ?_
  refine lv_iload_n hx hb dX5_free_1 rfl (lv_at hl 1 rfl) ?_
  obtain ⟨r3, S2, h1, hf⟩ := bd2_o hf
  refine w_callVi (As := [.int x1]) (rest := []) hX E w (c_X5_isShop l hX h1) (cwV 1 hts gX5_free_X5_isShop rfl rfl rfl hd_X5_isShop ⟨Nat.le_of_ble_eq_true rfl, Nat.le_of_ble_eq_true rfl⟩) (ci := 5) rfl (cM_at_0 t a S) rfl hl.1 rfl (Nat.le_of_ble_eq_true rfl) dX5_free_2 ⟨Nat.le_refl _, Nat.le_refl _⟩ (fun H locs w => ?_)
  refine lv_if_ne (tgt := 15) hx hb dX5_free_5 (by decide) (fun h4 => ?_) (fun h4 => ?_)
  · replace hf := it_f h4 hf
    refine lv_aload_n hx hb dX5_free_15 rfl (lv_at hl 0 rfl) ?_
    refine lv_iload_n hx hb dX5_free_16 rfl (lv_at hl 1 rfl) ?_
    obtain ⟨r7, S6, h5, hf⟩ := bd2_o hf
    refine w_callVi (As := [.int x1]) (rest := []) hX E w (c_X5_isFree l hX h5) (cwV 1 hts gX5_free_X5_isFree rfl rfl rfl hd_X5_isFree ⟨Nat.le_of_ble_eq_true rfl, Nat.le_of_ble_eq_true rfl⟩) (ci := 5) rfl (cM_at_0 t a S2) rfl hl.1 rfl (Nat.le_of_ble_eq_true rfl) dX5_free_17 ⟨Nat.le_refl _, Nat.le_refl _⟩ (fun H locs w => ?_)
    refine lv_iload_n hx hb dX5_free_20 rfl (lv_at hl 2 rfl) ?_
    refine lv_icmp_ne (tgt := 31) hx hb dX5_free_21 (by decide) (fun h8 => ?_) (fun h8 => ?_)
    · replace hf := it_f h8 hf
      refine lv_aload_n hx hb dX5_free_31 rfl (lv_at hl 0 rfl) ?_
      refine w_get E w in_X5_free_X5 0 (cM_at_0 t a S6) rfl 0 (by decide) fl_X5_free_7 rfl rfl dX5_free_32 ?_
      refine lv_bipush (v := 30) hx hb dX5_free_35 (by decide) ?_
      refine lv_dup2_11 hx hb dX5_free_37 rfl rfl ?_
      refine w_ald E w 1 0 (cM_at_1 t a S6) rfl (by decide) (congrArg (S6 1) ix_30) dX5_free_38 ?_
      refine lv_iconst (v := 1) hx hb dX5_free_39 (by decide) ?_
      refine lv_iload_n hx hb dX5_free_40 rfl (lv_at hl 1 rfl) ?_
      refine lv_ishl hx hb dX5_free_41 ?_
      refine lv_ixor hx hb dX5_free_42 ?_
      obtain ⟨S9, eS9, hf⟩ := nm_o hf
      refine w_ast (S1 := S9) E w 1 0 (cM_at_1 t a S6) rfl (by decide) ix_30 ((cM_st_1 t a S6 30 ((S6 1 30) ^^^ (1 <<< (x1 &&& 31)))).trans (congrArg (cM t a) eS9.symm)) dX5_free_43 (fun H locs w => ?_)
      refine lv_iconst (v := 1) hx hb dX5_free_44 (by decide) ?_
      exact w_reti E w hf dX5_free_45
    · replace hf := it_t h8 hf
      refine lv_aload_n hx hb dX5_free_24 rfl (lv_at hl 0 rfl) ?_
      refine lv_bipush (v := (-3)) hx hb dX5_free_25 (by decide) ?_
      obtain ⟨r12, S11, h10, hf⟩ := bd2_o hf
      refine w_callVi (As := [.int (-3)]) (rest := []) hX E w (c_X5_no l hX h10) (cwV 1 hts gX5_free_X5_no rfl rfl rfl hd_X5_no ⟨Nat.le_of_ble_eq_true rfl, Nat.le_of_ble_eq_true rfl⟩) (ci := 5) rfl (cM_at_0 t a S6) rfl hl.1 rfl (Nat.le_of_ble_eq_true rfl) dX5_free_27 ⟨Nat.le_refl _, Nat.le_refl _⟩ (fun H locs w => ?_)
      exact w_reti E w hf dX5_free_30
  · replace hf := it_t h4 hf
    refine lv_aload_n hx hb dX5_free_8 rfl (lv_at hl 0 rfl) ?_
    refine lv_bipush (v := (-2)) hx hb dX5_free_9 (by decide) ?_
    obtain ⟨r15, S14, h13, hf⟩ := bd2_o hf
    refine w_callVi (As := [.int (-2)]) (rest := []) hX E w (c_X5_bad l hX h13) (cwV 1 hts gX5_free_X5_bad rfl rfl rfl hd_X5_bad ⟨Nat.le_of_ble_eq_true rfl, Nat.le_of_ble_eq_true rfl⟩) (ci := 5) rfl (cM_at_0 t a S2) rfl hl.1 rfl (Nat.le_of_ble_eq_true rfl) dX5_free_11 ⟨Nat.le_refl _, Nat.le_refl _⟩ (fun H locs w => ?_)
    exact w_reti E w hf dX5_free_14
theorem c_X5_free (l : Launch) {D : va_G} {t : Nat → ClassId} {a : Nat → Nat} {X : State → Prop} (hX : XOk (aW 17 a) X) {N : Nat} {S : ST} {x1 : Int32} {x2 : Int32} {r : Int32} {S' : ST} (hf : f_X5_free N S x1 x2 = some (r, S')) : Co l yX5_free wsX5_free rmX5_free D (cM t a) (aW 17 a) (tyM t) X [.ref (a 0), .int x1, .int x2] S (Qi D (cM t a) (aW 17 a) (tyM t) r S') :=
  co_of (cc := cX5_free) (maxL := 3) (ret := (some .int)) (lv := [(0, .ref (a 0)), (1, .int x1), (2, .int x2)]) (by decide) rfl rfl (Nat.le_of_ble_eq_true rfl) rfl rfl (fun p e s m below meth c ls E hl w => k_X5_free_E hX E w hl hf)
-- X5_put
theorem ct_X5_put_106 : Cond.constantLong RX5 106 6 ∈ wsX5_put := by decide +kernel
theorem ct_X5_put_104 : Cond.constantLong RX5 104 999 ∈ wsX5_put := by decide +kernel
theorem in_X5_put_X5 : ∀ w ∈ u_ws RX5 TX5 28, w ∈ wsX5_put := by decide +kernel
theorem fl_X5_put_7 : Cond.fieldLink RX5 7 "NextDoorModel" "now" "[I" ∈ wsX5_put := by decide +kernel
abbrev rmX5_put : Room := { frames := 1, cells := 0, slots := 0, locals := 25 }
set_option maxHeartbeats 4000000 in
set_option maxRecDepth 100000 in
theorem k_X5_put_33 {p : Program} {l : Launch} {e : Env} {s : State} {m : MethodId} {args : Array Value} {below : List Frame} {meth : Method} {c : Code} {D : va_G} {t : Nat → ClassId} {a : Nat → Nat} {X : State → Prop} {N : Nat} {r : Int32} {S' : ST} (hX : XOk (aW 17 a) X) (E : EN p s m args meth c cX5_put RX5 wsX5_put (some .int) 4) {S : ST} {H : Heap} {locs : List Loc} {ls : Array Slot} (w : Wd D (cM t a) (aW 17 a) (tyM t) X S s H locs) (hl : lv_has ls 4 [(0, .ref (a 0))]) (hf : b_X5_put_33 N S = some (r, S')) : W p l e rmX5_put s m args below meth c H locs 0 0 (MQ below (Qi D (cM t a) (aW 17 a) (tyM t) r S') args s 0 0 (aW 17 a)) (F0 m 33 ls []) := by
  obtain ⟨⟨hx, hb, hml, hown, hts⟩, hr, hlk⟩ := id E
  unfold b_X5_put_33 at hf
  refine lv_aload_n hx hb dX5_put_33 rfl (lv_at hl 0 rfl) ?_
  refine lv_bipush (v := (-2)) hx hb dX5_put_34 (by decide) ?_
  obtain ⟨r15, S14, h13, hf⟩ := bd2_o hf
  refine w_callVi (As := [.int (-2)]) (rest := []) hX E w (c_X5_bad l hX h13) (cwV 1 hts gX5_put_X5_bad rfl rfl rfl hd_X5_bad ⟨Nat.le_of_ble_eq_true rfl, Nat.le_of_ble_eq_true rfl⟩) (ci := 5) rfl (cM_at_0 t a S) rfl hl.1 rfl (Nat.le_of_ble_eq_true rfl) dX5_put_36 ⟨Nat.le_refl _, Nat.le_refl _⟩ (fun H locs w => ?_)
  exact w_reti E w hf dX5_put_39
set_option maxHeartbeats 4000000 in
set_option maxRecDepth 100000 in
theorem k_X5_put_27 {p : Program} {l : Launch} {e : Env} {s : State} {m : MethodId} {args : Array Value} {below : List Frame} {meth : Method} {c : Code} {D : va_G} {t : Nat → ClassId} {a : Nat → Nat} {X : State → Prop} {N : Nat} {r : Int32} {S' : ST} (hX : XOk (aW 17 a) X) (E : EN p s m args meth c cX5_put RX5 wsX5_put (some .int) 4) {S : ST} {x1 : Int32} {x2 : Int32} {s0 : Int64} {s1 : Int64} {s2 : Int64} {H : Heap} {locs : List Loc} {ls : Array Slot} (w : Wd D (cM t a) (aW 17 a) (tyM t) X S s H locs) (hl : lv_has ls 4 [(0, .ref (a 0)), (1, .int x1), (2, .int x2)]) (hf : b_X5_put_27 N S x1 x2 s0 s1 s2 = some (r, S')) : W p l e rmX5_put s m args below meth c H locs 0 0 (MQ below (Qi D (cM t a) (aW 17 a) (tyM t) r S') args s 0 0 (aW 17 a)) (F0 m 27 ls [.long s2, .long s1, .long s0]) := by
  obtain ⟨⟨hx, hb, hml, hown, hts⟩, hr, hlk⟩ := id E
  unfold b_X5_put_27 at hf
  obtain ⟨r8, S7, h6, hf⟩ := bd2_o hf
  refine w_callSi (As := [.long s0, .long s1, .long s2]) (rest := []) hX E w (c_X5_in l hX h6) (va_cwS 3 hts gX5_put_X5_in rfl rfl rfl hd_X5_in ⟨Nat.le_of_ble_eq_true rfl, Nat.le_of_ble_eq_true rfl⟩) rfl hl.1 rfl (Nat.le_of_ble_eq_true rfl) dX5_put_27 ⟨Nat.le_refl _, Nat.le_refl _⟩ (fun H locs w => ?_)
  refine lv_if_ne (tgt := 40) hx hb dX5_put_30 (by decide) (fun h9 => ?_) (fun h9 => ?_)
  · replace hf := it_f h9 hf
    refine lv_aload_n hx hb dX5_put_40 rfl (lv_at hl 0 rfl) ?_
    refine w_get E w in_X5_put_X5 0 (cM_at_0 t a S7) rfl 0 (by decide) fl_X5_put_7 rfl rfl dX5_put_41 ?_
    refine lv_bipush (v := 31) hx hb dX5_put_44 (by decide) ?_
    refine lv_iload_n hx hb dX5_put_46 rfl (lv_at hl 1 rfl) ?_
    refine lv_iadd hx hb dX5_put_47 ?_
    obtain ⟨h10, hf⟩ := it_n hf
    refine w_ald E w 1 0 (cM_at_1 t a S7) rfl h10 rfl dX5_put_48 ?_
    refine lv_istore_n (lv' := [(3, .int (S7 1 (31 + x1).toNatClampNeg)), (0, .ref (a 0)), (1, .int x1), (2, .int x2)]) hx hb dX5_put_49 rfl hl (by decide) rfl (fun ls hl => ?_)
    refine lv_aload_n hx hb dX5_put_50 rfl (lv_at hl 1 rfl) ?_
    refine w_get E w in_X5_put_X5 0 (cM_at_0 t a S7) rfl 0 (by decide) fl_X5_put_7 rfl rfl dX5_put_51 ?_
    refine lv_bipush (v := 31) hx hb dX5_put_54 (by decide) ?_
    refine lv_iload_n hx hb dX5_put_56 rfl (lv_at hl 2 rfl) ?_
    refine lv_iadd hx hb dX5_put_57 ?_
    refine lv_iload_n hx hb dX5_put_58 rfl (lv_at hl 3 rfl) ?_
    obtain ⟨h12, hf⟩ := it_n hf
    obtain ⟨S11, eS11, hf⟩ := nm_o hf
    refine w_ast (S1 := S11) E w 1 0 (cM_at_1 t a S7) rfl h12 rfl ((cM_st_1 t a S7 ((31 + x1).toNatClampNeg) x2).trans (congrArg (cM t a) eS11.symm)) dX5_put_59 (fun H locs w => ?_)
    refine lv_iload_n hx hb dX5_put_60 rfl (lv_at hl 0 rfl) ?_
    exact w_reti E w hf dX5_put_61
  · replace hf := it_t h9 hf
    exact k_X5_put_33 hX E w (lv_sub hl [0] rfl) hf
set_option maxHeartbeats 4000000 in
set_option maxRecDepth 100000 in
theorem k_X5_put_E {p : Program} {l : Launch} {e : Env} {s : State} {m : MethodId} {args : Array Value} {below : List Frame} {meth : Method} {c : Code} {D : va_G} {t : Nat → ClassId} {a : Nat → Nat} {X : State → Prop} {N : Nat} {r : Int32} {S' : ST} (hX : XOk (aW 17 a) X) (E : EN p s m args meth c cX5_put RX5 wsX5_put (some .int) 4) {S : ST} {x1 : Int32} {x2 : Int32} {H : Heap} {locs : List Loc} {ls : Array Slot} (w : Wd D (cM t a) (aW 17 a) (tyM t) X S s H locs) (hl : lv_has ls 4 [(0, .ref (a 0)), (1, .int x1), (2, .int x2)]) (hf : f_X5_put N S x1 x2 = some (r, S')) : W p l e rmX5_put s m args below meth c H locs 0 0 (MQ below (Qi D (cM t a) (aW 17 a) (tyM t) r S') args s 0 0 (aW 17 a)) (F0 m 0 ls []) := by
  obtain ⟨⟨hx, hb, hml, hown, hts⟩, hr, hlk⟩ := id E
  unfold f_X5_put at hf
  refine lv_iload_n hx hb dX5_put_0 rfl (lv_at hl 1 rfl) ?_
  refine lv_i2l hx hb dX5_put_1 rfl ?_
  refine lv_lconst (v := 0) hx hb dX5_put_2 (by decide) ?_
  refine lv_lconst (v := 1) hx hb dX5_put_3 (by decide) ?_
  obtain ⟨r3, S2, h1, hf⟩ := bd2_o hf
  refine w_callSi (As := [.long ((x1 : Int32).toInt64), .long 0, .long 1]) (rest := []) hX E w (c_X5_in l hX h1) (va_cwS 3 hts gX5_put_X5_in rfl rfl rfl hd_X5_in ⟨Nat.le_of_ble_eq_true rfl, Nat.le_of_ble_eq_true rfl⟩) rfl hl.1 rfl (Nat.le_of_ble_eq_true rfl) dX5_put_4 ⟨Nat.le_refl _, Nat.le_refl _⟩ (fun H locs w => ?_)
  refine lv_if_eq (tgt := 33) hx hb dX5_put_7 (by decide) (fun h4 => ?_) (fun h4 => ?_)
  · replace hf := it_t h4 hf
    exact k_X5_put_33 hX E w (lv_sub hl [0] rfl) hf
  · replace hf := it_f h4 hf
    refine lv_iload_n hx hb dX5_put_10 rfl (lv_at hl 2 rfl) ?_
    refine lv_i2l hx hb dX5_put_11 rfl ?_
    refine lv_iload_n hx hb dX5_put_12 rfl (lv_at hl 1 rfl) ?_
    refine lv_i2l hx hb dX5_put_13 rfl ?_
    refine lv_iload_n hx hb dX5_put_14 rfl (lv_at hl 1 rfl) ?_
    refine lv_if_ne (tgt := 24) hx hb dX5_put_15 (by decide) (fun h5 => ?_) (fun h5 => ?_)
    · replace hf := it_f h5 hf
      refine lv_ldc2 hx hb hown (hts _ ct_X5_put_106) dX5_put_24 ?_
      exact k_X5_put_27 hX E w (lv_sub hl [0, 1, 2] rfl) hf
    · replace hf := it_t h5 hf
      refine lv_ldc2 hx hb hown (hts _ ct_X5_put_104) dX5_put_18 ?_
      refine lv_goto (tgt := 27) hx hb dX5_put_21 (by decide) ?_
      exact k_X5_put_27 hX E w (lv_sub hl [0, 1, 2] rfl) hf
theorem c_X5_put (l : Launch) {D : va_G} {t : Nat → ClassId} {a : Nat → Nat} {X : State → Prop} (hX : XOk (aW 17 a) X) {N : Nat} {S : ST} {x1 : Int32} {x2 : Int32} {r : Int32} {S' : ST} (hf : f_X5_put N S x1 x2 = some (r, S')) : Co l yX5_put wsX5_put rmX5_put D (cM t a) (aW 17 a) (tyM t) X [.ref (a 0), .int x1, .int x2] S (Qi D (cM t a) (aW 17 a) (tyM t) r S') :=
  co_of (cc := cX5_put) (maxL := 4) (ret := (some .int)) (lv := [(0, .ref (a 0)), (1, .int x1), (2, .int x2)]) (by decide) rfl rfl (Nat.le_of_ble_eq_true rfl) rfl rfl (fun p e s m below meth c ls E hl w => k_X5_put_E hX E w hl hf)
-- X5_of
theorem in_X5_of_X5 : ∀ w ∈ u_ws RX5 TX5 28, w ∈ wsX5_of := by decide +kernel
theorem fl_X5_of_7 : Cond.fieldLink RX5 7 "NextDoorModel" "now" "[I" ∈ wsX5_of := by decide +kernel
abbrev rmX5_of : Room := { frames := 0, cells := 0, slots := 0, locals := 0 }
set_option maxHeartbeats 4000000 in
set_option maxRecDepth 100000 in
theorem k_X5_of_E {p : Program} {l : Launch} {e : Env} {s : State} {m : MethodId} {args : Array Value} {below : List Frame} {meth : Method} {c : Code} {D : va_G} {t : Nat → ClassId} {a : Nat → Nat} {X : State → Prop} {N : Nat} {r : Int32} {S' : ST} (hX : XOk (aW 17 a) X) (E : EN p s m args meth c cX5_of RX5 wsX5_of (some .int) 3) {S : ST} {x1 : Int32} {x2 : Int32} {H : Heap} {locs : List Loc} {ls : Array Slot} (w : Wd D (cM t a) (aW 17 a) (tyM t) X S s H locs) (hl : lv_has ls 3 [(0, .ref (a 0)), (1, .int x1), (2, .int x2)]) (hf : f_X5_of N S x1 x2 = some (r, S')) : W p l e rmX5_of s m args below meth c H locs 0 0 (MQ below (Qi D (cM t a) (aW 17 a) (tyM t) r S') args s 0 0 (aW 17 a)) (F0 m 0 ls []) := by
  obtain ⟨⟨hx, hb, hml, hown, hts⟩, hr, hlk⟩ := id E
  unfold f_X5_of at hf
  refine lv_aload_n hx hb dX5_of_0 rfl (lv_at hl 0 rfl) ?_
  refine w_get E w in_X5_of_X5 0 (cM_at_0 t a S) rfl 0 (by decide) fl_X5_of_7 rfl rfl dX5_of_1 ?_
  refine lv_iconst (v := 0) hx hb dX5_of_4 (by decide) ?_
  refine lv_iconst (v := 4) hx hb dX5_of_5 (by decide) ?_
  refine lv_iload_n hx hb dX5_of_6 rfl (lv_at hl 1 rfl) ?_
  refine lv_imul hx hb dX5_of_7 ?_
  refine lv_iadd hx hb dX5_of_8 ?_
  refine lv_iload_n hx hb dX5_of_9 rfl (lv_at hl 2 rfl) ?_
  refine lv_iadd hx hb dX5_of_10 ?_
  obtain ⟨h1, hf⟩ := it_n hf
  refine w_ald E w 1 0 (cM_at_1 t a S) rfl h1 rfl dX5_of_11 ?_
  exact w_reti E w hf dX5_of_12
theorem c_X5_of (l : Launch) {D : va_G} {t : Nat → ClassId} {a : Nat → Nat} {X : State → Prop} (hX : XOk (aW 17 a) X) {N : Nat} {S : ST} {x1 : Int32} {x2 : Int32} {r : Int32} {S' : ST} (hf : f_X5_of N S x1 x2 = some (r, S')) : Co l yX5_of wsX5_of rmX5_of D (cM t a) (aW 17 a) (tyM t) X [.ref (a 0), .int x1, .int x2] S (Qi D (cM t a) (aW 17 a) (tyM t) r S') :=
  co_of (cc := cX5_of) (maxL := 3) (ret := (some .int)) (lv := [(0, .ref (a 0)), (1, .int x1), (2, .int x2)]) (by decide) rfl rfl (Nat.le_of_ble_eq_true rfl) rfl rfl (fun p e s m below meth c ls E hl w => k_X5_of_E hX E w hl hf)
-- X5_price
theorem ct_X5_price_69 : Cond.constantLong RX5 69 20 ∈ wsX5_price := by decide +kernel
theorem hd_X5_of : yX5_of.cls = RX5 ∧ yX5_of.cls ≠ "java/lang/invoke/MethodHandle" ∧ yX5_of.cls ≠ "java/lang/invoke/VarHandle" ∧ (parseMethodDescriptor yX5_of.desc).map (fun d => d.parameters.length) = some 2 := by decide +kernel
theorem in_X5_price_X5 : ∀ w ∈ u_ws RX5 TX5 28, w ∈ wsX5_price := by decide +kernel
theorem fl_X5_price_7 : Cond.fieldLink RX5 7 "NextDoorModel" "now" "[I" ∈ wsX5_price := by decide +kernel
abbrev rmX5_price : Room := { frames := 2, cells := 0, slots := 0, locals := 46 }
set_option maxHeartbeats 4000000 in
set_option maxRecDepth 100000 in
theorem k_X5_price_20 {p : Program} {l : Launch} {e : Env} {s : State} {m : MethodId} {args : Array Value} {below : List Frame} {meth : Method} {c : Code} {D : va_G} {t : Nat → ClassId} {a : Nat → Nat} {X : State → Prop} {N : Nat} {r : Int32} {S' : ST} (hX : XOk (aW 17 a) X) (E : EN p s m args meth c cX5_price RX5 wsX5_price (some .int) 4) {S : ST} {H : Heap} {locs : List Loc} {ls : Array Slot} (w : Wd D (cM t a) (aW 17 a) (tyM t) X S s H locs) (hl : lv_has ls 4 [(0, .ref (a 0))]) (hf : b_X5_price_20 N S = some (r, S')) : W p l e rmX5_price s m args below meth c H locs 0 0 (MQ below (Qi D (cM t a) (aW 17 a) (tyM t) r S') args s 0 0 (aW 17 a)) (F0 m 20 ls []) := by
  obtain ⟨⟨hx, hb, hml, hown, hts⟩, hr, hlk⟩ := id E
  unfold b_X5_price_20 at hf
  refine lv_aload_n hx hb dX5_price_20 rfl (lv_at hl 0 rfl) ?_
  refine lv_bipush (v := (-2)) hx hb dX5_price_21 (by decide) ?_
  obtain ⟨r16, S15, h14, hf⟩ := bd2_o hf
  refine w_callVi (As := [.int (-2)]) (rest := []) hX E w (c_X5_bad l hX h14) (cwV 1 hts gX5_price_X5_bad rfl rfl rfl hd_X5_bad ⟨Nat.le_of_ble_eq_true rfl, Nat.le_of_ble_eq_true rfl⟩) (ci := 5) rfl (cM_at_0 t a S) rfl hl.1 rfl (Nat.le_of_ble_eq_true rfl) dX5_price_23 ⟨Nat.le_refl _, Nat.le_refl _⟩ (fun H locs w => ?_)
  exact w_reti E w hf dX5_price_26
set_option maxHeartbeats 4000000 in
set_option maxRecDepth 100000 in
theorem k_X5_price_E {p : Program} {l : Launch} {e : Env} {s : State} {m : MethodId} {args : Array Value} {below : List Frame} {meth : Method} {c : Code} {D : va_G} {t : Nat → ClassId} {a : Nat → Nat} {X : State → Prop} {N : Nat} {r : Int32} {S' : ST} (hX : XOk (aW 17 a) X) (E : EN p s m args meth c cX5_price RX5 wsX5_price (some .int) 4) {S : ST} {x1 : Int32} {x2 : Int32} {H : Heap} {locs : List Loc} {ls : Array Slot} (w : Wd D (cM t a) (aW 17 a) (tyM t) X S s H locs) (hl : lv_has ls 4 [(0, .ref (a 0)), (1, .int x1), (2, .int x2)]) (hf : f_X5_price N S x1 x2 = some (r, S')) : W p l e rmX5_price s m args below meth c H locs 0 0 (MQ below (Qi D (cM t a) (aW 17 a) (tyM t) r S') args s 0 0 (aW 17 a)) (F0 m 0 ls []) := by
  obtain ⟨⟨hx, hb, hml, hown, hts⟩, hr, hlk⟩ := id E
  unfold f_X5_price at hf
  refine lv_aload_n hx hb dX5_price_0 rfl (lv_at hl 0 rfl) ?_
  refine lv_iload_n hx hb dX5_price_1 rfl (lv_at hl 1 rfl) ?_
  obtain ⟨r3, S2, h1, hf⟩ := bd2_o hf
  refine w_callVi (As := [.int x1]) (rest := []) hX E w (c_X5_isShop l hX h1) (cwV 1 hts gX5_price_X5_isShop rfl rfl rfl hd_X5_isShop ⟨Nat.le_of_ble_eq_true rfl, Nat.le_of_ble_eq_true rfl⟩) (ci := 5) rfl (cM_at_0 t a S) rfl hl.1 rfl (Nat.le_of_ble_eq_true rfl) dX5_price_2 ⟨Nat.le_refl _, Nat.le_refl _⟩ (fun H locs w => ?_)
  refine lv_if_eq (tgt := 20) hx hb dX5_price_5 (by decide) (fun h4 => ?_) (fun h4 => ?_)
  · replace hf := it_t h4 hf
    exact k_X5_price_20 hX E w (lv_sub hl [0] rfl) hf
  · replace hf := it_f h4 hf
    refine lv_iload_n hx hb dX5_price_8 rfl (lv_at hl 2 rfl) ?_
    refine lv_i2l hx hb dX5_price_9 rfl ?_
    refine lv_lconst (v := 0) hx hb dX5_price_10 (by decide) ?_
    refine lv_ldc2 hx hb hown (hts _ ct_X5_price_69) dX5_price_11 ?_
    obtain ⟨r7, S6, h5, hf⟩ := bd2_o hf
    refine w_callSi (As := [.long ((x2 : Int32).toInt64), .long 0, .long 20]) (rest := []) hX E w (c_X5_in l hX h5) (va_cwS 3 hts gX5_price_X5_in rfl rfl rfl hd_X5_in ⟨Nat.le_of_ble_eq_true rfl, Nat.le_of_ble_eq_true rfl⟩) rfl hl.1 rfl (Nat.le_of_ble_eq_true rfl) dX5_price_14 ⟨Nat.le_refl _, Nat.le_refl _⟩ (fun H locs w => ?_)
    refine lv_if_ne (tgt := 27) hx hb dX5_price_17 (by decide) (fun h8 => ?_) (fun h8 => ?_)
    · replace hf := it_f h8 hf
      refine lv_aload_n hx hb dX5_price_27 rfl (lv_at hl 0 rfl) ?_
      refine lv_iload_n hx hb dX5_price_28 rfl (lv_at hl 1 rfl) ?_
      refine lv_iconst (v := 1) hx hb dX5_price_29 (by decide) ?_
      obtain ⟨r11, S10, h9, hf⟩ := bd2_o hf
      refine w_callVi (As := [.int x1, .int 1]) (rest := []) hX E w (c_X5_of l hX h9) (cwV 2 hts gX5_price_X5_of rfl rfl rfl hd_X5_of ⟨Nat.le_of_ble_eq_true rfl, Nat.le_of_ble_eq_true rfl⟩) (ci := 5) rfl (cM_at_0 t a S6) rfl hl.1 rfl (Nat.le_of_ble_eq_true rfl) dX5_price_30 ⟨Nat.le_refl _, Nat.le_refl _⟩ (fun H locs w => ?_)
      refine lv_istore_n (lv' := [(3, .int r11), (0, .ref (a 0)), (1, .int x1), (2, .int x2)]) hx hb dX5_price_33 rfl hl (by decide) rfl (fun ls hl => ?_)
      refine lv_aload_n hx hb dX5_price_34 rfl (lv_at hl 1 rfl) ?_
      refine w_get E w in_X5_price_X5 0 (cM_at_0 t a S10) rfl 0 (by decide) fl_X5_price_7 rfl rfl dX5_price_35 ?_
      refine lv_iconst (v := 0) hx hb dX5_price_38 (by decide) ?_
      refine lv_iconst (v := 4) hx hb dX5_price_39 (by decide) ?_
      refine lv_iload_n hx hb dX5_price_40 rfl (lv_at hl 2 rfl) ?_
      refine lv_imul hx hb dX5_price_41 ?_
      refine lv_iadd hx hb dX5_price_42 ?_
      refine lv_iconst (v := 1) hx hb dX5_price_43 (by decide) ?_
      refine lv_iadd hx hb dX5_price_44 ?_
      refine lv_iload_n hx hb dX5_price_45 rfl (lv_at hl 3 rfl) ?_
      obtain ⟨h13, hf⟩ := it_n hf
      obtain ⟨S12, eS12, hf⟩ := nm_o hf
      refine w_ast (S1 := S12) E w 1 0 (cM_at_1 t a S10) rfl h13 rfl ((cM_st_1 t a S10 (((0 + (4 * x1)) + 1).toNatClampNeg) x2).trans (congrArg (cM t a) eS12.symm)) dX5_price_46 (fun H locs w => ?_)
      refine lv_iload_n hx hb dX5_price_47 rfl (lv_at hl 0 rfl) ?_
      exact w_reti E w hf dX5_price_48
    · replace hf := it_t h8 hf
      exact k_X5_price_20 hX E w (lv_sub hl [0] rfl) hf
theorem c_X5_price (l : Launch) {D : va_G} {t : Nat → ClassId} {a : Nat → Nat} {X : State → Prop} (hX : XOk (aW 17 a) X) {N : Nat} {S : ST} {x1 : Int32} {x2 : Int32} {r : Int32} {S' : ST} (hf : f_X5_price N S x1 x2 = some (r, S')) : Co l yX5_price wsX5_price rmX5_price D (cM t a) (aW 17 a) (tyM t) X [.ref (a 0), .int x1, .int x2] S (Qi D (cM t a) (aW 17 a) (tyM t) r S') :=
  co_of (cc := cX5_price) (maxL := 4) (ret := (some .int)) (lv := [(0, .ref (a 0)), (1, .int x1), (2, .int x2)]) (by decide) rfl rfl (Nat.le_of_ble_eq_true rfl) rfl rfl (fun p e s m below meth c ls E hl w => k_X5_price_E hX E w hl hf)
-- X5_textLong
theorem in_X5_textLong_X5 : ∀ w ∈ u_ws RX5 TX5 28, w ∈ wsX5_textLong := by decide +kernel
theorem fl_X5_textLong_7 : Cond.fieldLink RX5 7 "NextDoorModel" "now" "[I" ∈ wsX5_textLong := by decide +kernel
abbrev rmX5_textLong : Room := { frames := 0, cells := 0, slots := 0, locals := 0 }
set_option maxHeartbeats 4000000 in
set_option maxRecDepth 100000 in
theorem k_X5_textLong_E {p : Program} {l : Launch} {e : Env} {s : State} {m : MethodId} {args : Array Value} {below : List Frame} {meth : Method} {c : Code} {D : va_G} {t : Nat → ClassId} {a : Nat → Nat} {X : State → Prop} {N : Nat} {r : Int32} {S' : ST} (hX : XOk (aW 17 a) X) (E : EN p s m args meth c cX5_textLong RX5 wsX5_textLong (some .int) 1) {S : ST} {H : Heap} {locs : List Loc} {ls : Array Slot} (w : Wd D (cM t a) (aW 17 a) (tyM t) X S s H locs) (hl : lv_has ls 1 [(0, .ref (a 0))]) (hf : f_X5_textLong N S = some (r, S')) : W p l e rmX5_textLong s m args below meth c H locs 0 0 (MQ below (Qi D (cM t a) (aW 17 a) (tyM t) r S') args s 0 0 (aW 17 a)) (F0 m 0 ls []) := by
  obtain ⟨⟨hx, hb, hml, hown, hts⟩, hr, hlk⟩ := id E
  unfold f_X5_textLong at hf
  refine lv_aload_n hx hb dX5_textLong_0 rfl (lv_at hl 0 rfl) ?_
  refine w_get E w in_X5_textLong_X5 0 (cM_at_0 t a S) rfl 0 (by decide) fl_X5_textLong_7 rfl rfl dX5_textLong_1 ?_
  refine lv_bipush (v := 46) hx hb dX5_textLong_4 (by decide) ?_
  refine w_ald E w 1 0 (cM_at_1 t a S) rfl (by decide) (congrArg (S 1) ix_46) dX5_textLong_6 ?_
  exact w_reti E w hf dX5_textLong_7
theorem c_X5_textLong (l : Launch) {D : va_G} {t : Nat → ClassId} {a : Nat → Nat} {X : State → Prop} (hX : XOk (aW 17 a) X) {N : Nat} {S : ST} {r : Int32} {S' : ST} (hf : f_X5_textLong N S = some (r, S')) : Co l yX5_textLong wsX5_textLong rmX5_textLong D (cM t a) (aW 17 a) (tyM t) X [.ref (a 0)] S (Qi D (cM t a) (aW 17 a) (tyM t) r S') :=
  co_of (cc := cX5_textLong) (maxL := 1) (ret := (some .int)) (lv := [(0, .ref (a 0))]) (by decide) rfl rfl (Nat.le_of_ble_eq_true rfl) rfl rfl (fun p e s m below meth c ls E hl w => k_X5_textLong_E hX E w hl hf)
-- X5_type
theorem ct_X5_type_158 : Cond.constantLong RX5 158 8 ∈ wsX5_type := by decide +kernel
theorem hd_X5_textLong : yX5_textLong.cls = RX5 ∧ yX5_textLong.cls ≠ "java/lang/invoke/MethodHandle" ∧ yX5_textLong.cls ≠ "java/lang/invoke/VarHandle" ∧ (parseMethodDescriptor yX5_textLong.desc).map (fun d => d.parameters.length) = some 0 := by decide +kernel
theorem in_X5_type_X5 : ∀ w ∈ u_ws RX5 TX5 28, w ∈ wsX5_type := by decide +kernel
theorem fl_X5_type_7 : Cond.fieldLink RX5 7 "NextDoorModel" "now" "[I" ∈ wsX5_type := by decide +kernel
theorem ct_X5_type_163 : Cond.constantLong RX5 163 255 ∈ wsX5_type := by decide +kernel
abbrev rmX5_type : Room := { frames := 1, cells := 0, slots := 0, locals := 25 }
set_option maxHeartbeats 4000000 in
set_option maxRecDepth 100000 in
theorem k_X5_type_41 {p : Program} {l : Launch} {e : Env} {s : State} {m : MethodId} {args : Array Value} {below : List Frame} {meth : Method} {c : Code} {D : va_G} {t : Nat → ClassId} {a : Nat → Nat} {X : State → Prop} {N : Nat} {r : Int32} {S' : ST} (hX : XOk (aW 17 a) X) (E : EN p s m args meth c cX5_type RX5 wsX5_type (some .int) 5) : ∀ (n : Nat) {S : ST} {x1 : Int64} {x4 : Int32} {H : Heap} {locs : List Loc} {ls : Array Slot}, Wd D (cM t a) (aW 17 a) (tyM t) X S s H locs → lv_has ls 5 [(0, .ref (a 0)), (1, .long x1), (4, .int x4)] → b_X5_type_41 N n S x1 x4 = some (r, S') → W p l e rmX5_type s m args below meth c H locs 0 0 (MQ below (Qi D (cM t a) (aW 17 a) (tyM t) r S') args s 0 0 (aW 17 a)) (F0 m 41 ls []) := by
  obtain ⟨⟨hx, hb, hml, hown, hts⟩, hr, hlk⟩ := id E
  intro n
  induction n with
  | zero => intro S x1 x4 H locs ls w hl hf; cases hf
  | succ n ih =>
    intro S x1 x4 H locs ls w hl hf
    unfold b_X5_type_41 at hf
    refine lv_iload hx hb dX5_type_41 (lv_at hl 2 rfl) ?_
    refine lv_if_lt (tgt := 87) hx hb dX5_type_43 (by decide) (fun h15 => ?_) (fun h15 => ?_)
    · replace hf := it_t h15 hf
      refine lv_aload_n hx hb dX5_type_87 rfl (lv_at hl 0 rfl) ?_
      obtain ⟨r18, S17, h16, hf⟩ := bd2_o hf
      refine w_callVi (As := []) (rest := []) hX E w (c_X5_textLong l hX h16) (cwV 0 hts gX5_type_X5_textLong rfl rfl rfl hd_X5_textLong ⟨Nat.le_of_ble_eq_true rfl, Nat.le_of_ble_eq_true rfl⟩) (ci := 5) rfl (cM_at_0 t a S) rfl hl.1 rfl (Nat.le_of_ble_eq_true rfl) dX5_type_88 ⟨Nat.le_refl _, Nat.le_refl _⟩ (fun H locs w => ?_)
      exact w_reti E w hf dX5_type_91
    · replace hf := it_f h15 hf
      refine lv_aload_n hx hb dX5_type_46 rfl (lv_at hl 0 rfl) ?_
      refine w_get E w in_X5_type_X5 0 (cM_at_0 t a S) rfl 0 (by decide) fl_X5_type_7 rfl rfl dX5_type_47 ?_
      refine lv_bipush (v := 47) hx hb dX5_type_50 (by decide) ?_
      refine lv_aload_n hx hb dX5_type_52 rfl (lv_at hl 0 rfl) ?_
      obtain ⟨r21, S20, h19, hf⟩ := bd2_o hf
      refine w_callVi (As := []) (rest := [.int 47, .ref (a 1)]) hX E w (c_X5_textLong l hX h19) (cwV 0 hts gX5_type_X5_textLong rfl rfl rfl hd_X5_textLong ⟨Nat.le_of_ble_eq_true rfl, Nat.le_of_ble_eq_true rfl⟩) (ci := 5) rfl (cM_at_0 t a S) rfl hl.1 rfl (Nat.le_of_ble_eq_true rfl) dX5_type_53 ⟨Nat.le_refl _, Nat.le_refl _⟩ (fun H locs w => ?_)
      refine lv_iadd hx hb dX5_type_56 ?_
      refine lv_lload_n hx hb dX5_type_57 rfl (lv_at hl 1 rfl) ?_
      refine lv_bipush (v := 8) hx hb dX5_type_58 (by decide) ?_
      refine lv_iload hx hb dX5_type_60 (lv_at hl 2 rfl) ?_
      refine lv_imul hx hb dX5_type_62 ?_
      refine lv_lushr hx hb dX5_type_63 rfl ?_
      refine lv_ldc2 hx hb hown (hts _ ct_X5_type_163) dX5_type_64 ?_
      refine lv_land hx hb dX5_type_67 ?_
      refine lv_l2i hx hb dX5_type_68 rfl ?_
      obtain ⟨h23, hf⟩ := it_n hf
      obtain ⟨S22, eS22, hf⟩ := nm_o hf
      refine w_ast (S1 := S22) E w 1 0 (cM_at_1 t a S20) rfl h23 rfl ((cM_st_1 t a S20 ((47 + r21).toNatClampNeg) ((((((x1).toUInt64 >>> ((((8 * x4) : Int32)).toInt64.toUInt64 &&& Int64.toUInt64 63)).toInt64) &&& 255) : Int64).toInt32)).trans (congrArg (cM t a) eS22.symm)) dX5_type_69 (fun H locs w => ?_)
      refine lv_aload_n hx hb dX5_type_70 rfl (lv_at hl 0 rfl) ?_
      refine w_get E w in_X5_type_X5 0 (cM_at_0 t a S22) rfl 0 (by decide) fl_X5_type_7 rfl rfl dX5_type_71 ?_
      refine lv_bipush (v := 46) hx hb dX5_type_74 (by decide) ?_
      refine lv_dup2_11 hx hb dX5_type_76 rfl rfl ?_
      refine w_ald E w 1 0 (cM_at_1 t a S22) rfl (by decide) (congrArg (S22 1) ix_46) dX5_type_77 ?_
      refine lv_iconst (v := 1) hx hb dX5_type_78 (by decide) ?_
      refine lv_iadd hx hb dX5_type_79 ?_
      obtain ⟨S24, eS24, hf⟩ := nm_o hf
      refine w_ast (S1 := S24) E w 1 0 (cM_at_1 t a S22) rfl (by decide) ix_46 ((cM_st_1 t a S22 46 ((S22 1 46) + 1)).trans (congrArg (cM t a) eS24.symm)) dX5_type_80 (fun H locs w => ?_)
      refine lv_iinc (v := x4 + (-1)) (lv' := [(4, .int (x4 + (-1))), (0, .ref (a 0)), (1, .long x1)]) hx hb dX5_type_81 hl (k := 2) rfl rfl (by decide) rfl (fun ls hl => ?_)
      refine lv_goto (tgt := 41) hx hb dX5_type_84 (by decide) ?_
      exact ih w (lv_sub hl [1, 2, 0] rfl) hf
set_option maxHeartbeats 4000000 in
set_option maxRecDepth 100000 in
theorem k_X5_type_E {p : Program} {l : Launch} {e : Env} {s : State} {m : MethodId} {args : Array Value} {below : List Frame} {meth : Method} {c : Code} {D : va_G} {t : Nat → ClassId} {a : Nat → Nat} {X : State → Prop} {N : Nat} {r : Int32} {S' : ST} (hX : XOk (aW 17 a) X) (E : EN p s m args meth c cX5_type RX5 wsX5_type (some .int) 5) {S : ST} {x1 : Int64} {x3 : Int32} {H : Heap} {locs : List Loc} {ls : Array Slot} (w : Wd D (cM t a) (aW 17 a) (tyM t) X S s H locs) (hl : lv_has ls 5 [(0, .ref (a 0)), (1, .long x1), (3, .int x3)]) (hf : f_X5_type N S x1 x3 = some (r, S')) : W p l e rmX5_type s m args below meth c H locs 0 0 (MQ below (Qi D (cM t a) (aW 17 a) (tyM t) r S') args s 0 0 (aW 17 a)) (F0 m 0 ls []) := by
  obtain ⟨⟨hx, hb, hml, hown, hts⟩, hr, hlk⟩ := id E
  unfold f_X5_type at hf
  refine lv_iload_n hx hb dX5_type_0 rfl (lv_at hl 2 rfl) ?_
  refine lv_i2l hx hb dX5_type_1 rfl ?_
  refine lv_lconst (v := 1) hx hb dX5_type_2 (by decide) ?_
  refine lv_ldc2 hx hb hown (hts _ ct_X5_type_158) dX5_type_3 ?_
  obtain ⟨r3, S2, h1, hf⟩ := bd2_o hf
  refine w_callSi (As := [.long ((x3 : Int32).toInt64), .long 1, .long 8]) (rest := []) hX E w (c_X5_in l hX h1) (va_cwS 3 hts gX5_type_X5_in rfl rfl rfl hd_X5_in ⟨Nat.le_of_ble_eq_true rfl, Nat.le_of_ble_eq_true rfl⟩) rfl hl.1 rfl (Nat.le_of_ble_eq_true rfl) dX5_type_6 ⟨Nat.le_refl _, Nat.le_refl _⟩ (fun H locs w => ?_)
  refine lv_if_ne (tgt := 19) hx hb dX5_type_9 (by decide) (fun h4 => ?_) (fun h4 => ?_)
  · replace hf := it_f h4 hf
    refine lv_aload_n hx hb dX5_type_19 rfl (lv_at hl 0 rfl) ?_
    obtain ⟨r7, S6, h5, hf⟩ := bd2_o hf
    refine w_callVi (As := []) (rest := []) hX E w (c_X5_textLong l hX h5) (cwV 0 hts gX5_type_X5_textLong rfl rfl rfl hd_X5_textLong ⟨Nat.le_of_ble_eq_true rfl, Nat.le_of_ble_eq_true rfl⟩) (ci := 5) rfl (cM_at_0 t a S2) rfl hl.1 rfl (Nat.le_of_ble_eq_true rfl) dX5_type_20 ⟨Nat.le_refl _, Nat.le_refl _⟩ (fun H locs w => ?_)
    refine lv_iload_n hx hb dX5_type_23 rfl (lv_at hl 2 rfl) ?_
    refine lv_iadd hx hb dX5_type_24 ?_
    refine lv_sipush (v := 200) hx hb dX5_type_25 (by decide) ?_
    refine lv_icmp_le (tgt := 36) hx hb dX5_type_28 (by decide) (fun h8 => ?_) (fun h8 => ?_)
    · replace hf := it_t h8 hf
      refine lv_iload_n hx hb dX5_type_36 rfl (lv_at hl 2 rfl) ?_
      refine lv_iconst (v := 1) hx hb dX5_type_37 (by decide) ?_
      refine lv_isub hx hb dX5_type_38 ?_
      refine lv_istore (lv' := [(4, .int (x3 - 1)), (0, .ref (a 0)), (1, .long x1), (3, .int x3)]) hx hb dX5_type_39 hl (by decide) rfl (fun ls hl => ?_)
      exact k_X5_type_41 hX E N w (lv_sub hl [1, 2, 0] rfl) hf
    · replace hf := it_f h8 hf
      refine lv_aload_n hx hb dX5_type_31 rfl (lv_at hl 0 rfl) ?_
      obtain ⟨r11, S10, h9, hf⟩ := bd2_o hf
      refine w_callVi (As := []) (rest := []) hX E w (c_X5_full l hX h9) (cwV 0 hts gX5_type_X5_full rfl rfl rfl hd_X5_full ⟨Nat.le_of_ble_eq_true rfl, Nat.le_of_ble_eq_true rfl⟩) (ci := 5) rfl (cM_at_0 t a S6) rfl hl.1 rfl (Nat.le_of_ble_eq_true rfl) dX5_type_32 ⟨Nat.le_refl _, Nat.le_refl _⟩ (fun H locs w => ?_)
      exact w_reti E w hf dX5_type_35
  · replace hf := it_t h4 hf
    refine lv_aload_n hx hb dX5_type_12 rfl (lv_at hl 0 rfl) ?_
    refine lv_bipush (v := (-2)) hx hb dX5_type_13 (by decide) ?_
    obtain ⟨r14, S13, h12, hf⟩ := bd2_o hf
    refine w_callVi (As := [.int (-2)]) (rest := []) hX E w (c_X5_bad l hX h12) (cwV 1 hts gX5_type_X5_bad rfl rfl rfl hd_X5_bad ⟨Nat.le_of_ble_eq_true rfl, Nat.le_of_ble_eq_true rfl⟩) (ci := 5) rfl (cM_at_0 t a S2) rfl hl.1 rfl (Nat.le_of_ble_eq_true rfl) dX5_type_15 ⟨Nat.le_refl _, Nat.le_refl _⟩ (fun H locs w => ?_)
    exact w_reti E w hf dX5_type_18
theorem c_X5_type (l : Launch) {D : va_G} {t : Nat → ClassId} {a : Nat → Nat} {X : State → Prop} (hX : XOk (aW 17 a) X) {N : Nat} {S : ST} {x1 : Int64} {x3 : Int32} {r : Int32} {S' : ST} (hf : f_X5_type N S x1 x3 = some (r, S')) : Co l yX5_type wsX5_type rmX5_type D (cM t a) (aW 17 a) (tyM t) X [.ref (a 0), .long x1, .int x3] S (Qi D (cM t a) (aW 17 a) (tyM t) r S') :=
  co_of (cc := cX5_type) (maxL := 5) (ret := (some .int)) (lv := [(0, .ref (a 0)), (1, .long x1), (3, .int x3)]) (by decide) rfl rfl (Nat.le_of_ble_eq_true rfl) rfl rfl (fun p e s m below meth c ls E hl w => k_X5_type_E hX E w hl hf)
-- X5_clear
theorem in_X5_clear_X5 : ∀ w ∈ u_ws RX5 TX5 28, w ∈ wsX5_clear := by decide +kernel
theorem fl_X5_clear_7 : Cond.fieldLink RX5 7 "NextDoorModel" "now" "[I" ∈ wsX5_clear := by decide +kernel
abbrev rmX5_clear : Room := { frames := 1, cells := 0, slots := 0, locals := 20 }
set_option maxHeartbeats 4000000 in
set_option maxRecDepth 100000 in
theorem k_X5_clear_E {p : Program} {l : Launch} {e : Env} {s : State} {m : MethodId} {args : Array Value} {below : List Frame} {meth : Method} {c : Code} {D : va_G} {t : Nat → ClassId} {a : Nat → Nat} {X : State → Prop} {N : Nat} {r : Int32} {S' : ST} (hX : XOk (aW 17 a) X) (E : EN p s m args meth c cX5_clear RX5 wsX5_clear (some .int) 2) {S : ST} {H : Heap} {locs : List Loc} {ls : Array Slot} (w : Wd D (cM t a) (aW 17 a) (tyM t) X S s H locs) (hl : lv_has ls 2 [(0, .ref (a 0))]) (hf : f_X5_clear N S = some (r, S')) : W p l e rmX5_clear s m args below meth c H locs 0 0 (MQ below (Qi D (cM t a) (aW 17 a) (tyM t) r S') args s 0 0 (aW 17 a)) (F0 m 0 ls []) := by
  obtain ⟨⟨hx, hb, hml, hown, hts⟩, hr, hlk⟩ := id E
  unfold f_X5_clear at hf
  refine lv_aload_n hx hb dX5_clear_0 rfl (lv_at hl 0 rfl) ?_
  obtain ⟨r3, S2, h1, hf⟩ := bd2_o hf
  refine w_callVi (As := []) (rest := []) hX E w (c_X5_textLong l hX h1) (cwV 0 hts gX5_clear_X5_textLong rfl rfl rfl hd_X5_textLong ⟨Nat.le_of_ble_eq_true rfl, Nat.le_of_ble_eq_true rfl⟩) (ci := 5) rfl (cM_at_0 t a S) rfl hl.1 rfl (Nat.le_of_ble_eq_true rfl) dX5_clear_1 ⟨Nat.le_refl _, Nat.le_refl _⟩ (fun H locs w => ?_)
  refine lv_istore_n (lv' := [(1, .int r3), (0, .ref (a 0))]) hx hb dX5_clear_4 rfl hl (by decide) rfl (fun ls hl => ?_)
  refine lv_aload_n hx hb dX5_clear_5 rfl (lv_at hl 1 rfl) ?_
  refine w_get E w in_X5_clear_X5 0 (cM_at_0 t a S2) rfl 0 (by decide) fl_X5_clear_7 rfl rfl dX5_clear_6 ?_
  refine lv_bipush (v := 46) hx hb dX5_clear_9 (by decide) ?_
  refine lv_iconst (v := 0) hx hb dX5_clear_11 (by decide) ?_
  obtain ⟨S4, eS4, hf⟩ := nm_o hf
  refine w_ast (S1 := S4) E w 1 0 (cM_at_1 t a S2) rfl (by decide) ix_46 ((cM_st_1 t a S2 46 0).trans (congrArg (cM t a) eS4.symm)) dX5_clear_12 (fun H locs w => ?_)
  refine lv_iload_n hx hb dX5_clear_13 rfl (lv_at hl 0 rfl) ?_
  exact w_reti E w hf dX5_clear_14
theorem c_X5_clear (l : Launch) {D : va_G} {t : Nat → ClassId} {a : Nat → Nat} {X : State → Prop} (hX : XOk (aW 17 a) X) {N : Nat} {S : ST} {r : Int32} {S' : ST} (hf : f_X5_clear N S = some (r, S')) : Co l yX5_clear wsX5_clear rmX5_clear D (cM t a) (aW 17 a) (tyM t) X [.ref (a 0)] S (Qi D (cM t a) (aW 17 a) (tyM t) r S') :=
  co_of (cc := cX5_clear) (maxL := 2) (ret := (some .int)) (lv := [(0, .ref (a 0))]) (by decide) rfl rfl (Nat.le_of_ble_eq_true rfl) rfl rfl (fun p e s m below meth c ls E hl w => k_X5_clear_E hX E w hl hf)
-- X5_byteAt
theorem in_X5_byteAt_X5 : ∀ w ∈ u_ws RX5 TX5 28, w ∈ wsX5_byteAt := by decide +kernel
theorem fl_X5_byteAt_7 : Cond.fieldLink RX5 7 "NextDoorModel" "now" "[I" ∈ wsX5_byteAt := by decide +kernel
abbrev rmX5_byteAt : Room := { frames := 0, cells := 0, slots := 0, locals := 0 }
set_option maxHeartbeats 4000000 in
set_option maxRecDepth 100000 in
theorem k_X5_byteAt_E {p : Program} {l : Launch} {e : Env} {s : State} {m : MethodId} {args : Array Value} {below : List Frame} {meth : Method} {c : Code} {D : va_G} {t : Nat → ClassId} {a : Nat → Nat} {X : State → Prop} {N : Nat} {r : Int32} {S' : ST} (hX : XOk (aW 17 a) X) (E : EN p s m args meth c cX5_byteAt RX5 wsX5_byteAt (some .int) 2) {S : ST} {x1 : Int32} {H : Heap} {locs : List Loc} {ls : Array Slot} (w : Wd D (cM t a) (aW 17 a) (tyM t) X S s H locs) (hl : lv_has ls 2 [(0, .ref (a 0)), (1, .int x1)]) (hf : f_X5_byteAt N S x1 = some (r, S')) : W p l e rmX5_byteAt s m args below meth c H locs 0 0 (MQ below (Qi D (cM t a) (aW 17 a) (tyM t) r S') args s 0 0 (aW 17 a)) (F0 m 0 ls []) := by
  obtain ⟨⟨hx, hb, hml, hown, hts⟩, hr, hlk⟩ := id E
  unfold f_X5_byteAt at hf
  refine lv_aload_n hx hb dX5_byteAt_0 rfl (lv_at hl 0 rfl) ?_
  refine w_get E w in_X5_byteAt_X5 0 (cM_at_0 t a S) rfl 0 (by decide) fl_X5_byteAt_7 rfl rfl dX5_byteAt_1 ?_
  refine lv_bipush (v := 47) hx hb dX5_byteAt_4 (by decide) ?_
  refine lv_iload_n hx hb dX5_byteAt_6 rfl (lv_at hl 1 rfl) ?_
  refine lv_iadd hx hb dX5_byteAt_7 ?_
  obtain ⟨h1, hf⟩ := it_n hf
  refine w_ald E w 1 0 (cM_at_1 t a S) rfl h1 rfl dX5_byteAt_8 ?_
  exact w_reti E w hf dX5_byteAt_9
theorem c_X5_byteAt (l : Launch) {D : va_G} {t : Nat → ClassId} {a : Nat → Nat} {X : State → Prop} (hX : XOk (aW 17 a) X) {N : Nat} {S : ST} {x1 : Int32} {r : Int32} {S' : ST} (hf : f_X5_byteAt N S x1 = some (r, S')) : Co l yX5_byteAt wsX5_byteAt rmX5_byteAt D (cM t a) (aW 17 a) (tyM t) X [.ref (a 0), .int x1] S (Qi D (cM t a) (aW 17 a) (tyM t) r S') :=
  co_of (cc := cX5_byteAt) (maxL := 2) (ret := (some .int)) (lv := [(0, .ref (a 0)), (1, .int x1)]) (by decide) rfl rfl (Nat.le_of_ble_eq_true rfl) rfl rfl (fun p e s m below meth c ls E hl w => k_X5_byteAt_E hX E w hl hf)
-- X5_isSmall
theorem ct_X5_isSmall_165 : Cond.constantLong RX5 165 97 ∈ wsX5_isSmall := by decide +kernel
theorem ct_X5_isSmall_167 : Cond.constantLong RX5 167 122 ∈ wsX5_isSmall := by decide +kernel
abbrev rmX5_isSmall : Room := { frames := 1, cells := 0, slots := 0, locals := 25 }
set_option maxHeartbeats 4000000 in
set_option maxRecDepth 100000 in
theorem k_X5_isSmall_E {p : Program} {l : Launch} {e : Env} {s : State} {m : MethodId} {args : Array Value} {below : List Frame} {meth : Method} {c : Code} {D : va_G} {t : Nat → ClassId} {a : Nat → Nat} {X : State → Prop} {N : Nat} {r : Int32} {S' : ST} (hX : XOk (aW 17 a) X) (E : EN p s m args meth c cX5_isSmall RX5 wsX5_isSmall (some .boolean) 1) {S : ST} {x0 : Int32} {H : Heap} {locs : List Loc} {ls : Array Slot} (w : Wd D (cM t a) (aW 17 a) (tyM t) X S s H locs) (hl : lv_has ls 1 [(0, .int x0)]) (hf : f_X5_isSmall N S x0 = some (r, S')) : W p l e rmX5_isSmall s m args below meth c H locs 0 0 (MQ below (Qi D (cM t a) (aW 17 a) (tyM t) r S') args s 0 0 (aW 17 a)) (F0 m 0 ls []) := by
  obtain ⟨⟨hx, hb, hml, hown, hts⟩, hr, hlk⟩ := id E
  unfold f_X5_isSmall at hf
  refine lv_iload_n hx hb dX5_isSmall_0 rfl (lv_at hl 0 rfl) ?_
  refine lv_i2l hx hb dX5_isSmall_1 rfl ?_
  refine lv_ldc2 hx hb hown (hts _ ct_X5_isSmall_165) dX5_isSmall_2 ?_
  refine lv_ldc2 hx hb hown (hts _ ct_X5_isSmall_167) dX5_isSmall_5 ?_
  obtain ⟨r3, S2, h1, hf⟩ := bd2_o hf
  refine w_callSi (As := [.long ((x0 : Int32).toInt64), .long 97, .long 122]) (rest := []) hX E w (c_X5_in l hX h1) (va_cwS 3 hts gX5_isSmall_X5_in rfl rfl rfl hd_X5_in ⟨Nat.le_of_ble_eq_true rfl, Nat.le_of_ble_eq_true rfl⟩) rfl hl.1 rfl (Nat.le_of_ble_eq_true rfl) dX5_isSmall_8 ⟨Nat.le_refl _, Nat.le_refl _⟩ (fun H locs w => ?_)
  obtain ⟨h4, hf⟩ := it_s hf
  exact w_retz E w h4 hf dX5_isSmall_11
theorem c_X5_isSmall (l : Launch) {D : va_G} {t : Nat → ClassId} {a : Nat → Nat} {X : State → Prop} (hX : XOk (aW 17 a) X) {N : Nat} {S : ST} {x0 : Int32} {r : Int32} {S' : ST} (hf : f_X5_isSmall N S x0 = some (r, S')) : Co l yX5_isSmall wsX5_isSmall rmX5_isSmall D (cM t a) (aW 17 a) (tyM t) X [.int x0] S (Qi D (cM t a) (aW 17 a) (tyM t) r S') :=
  co_of (cc := cX5_isSmall) (maxL := 1) (ret := (some .boolean)) (lv := [(0, .int x0)]) (by decide) rfl rfl (Nat.le_of_ble_eq_true rfl) rfl rfl (fun p e s m below meth c ls E hl w => k_X5_isSmall_E hX E w hl hf)
-- X5_isFigure
theorem ct_X5_isFigure_169 : Cond.constantLong RX5 169 48 ∈ wsX5_isFigure := by decide +kernel
theorem ct_X5_isFigure_171 : Cond.constantLong RX5 171 57 ∈ wsX5_isFigure := by decide +kernel
abbrev rmX5_isFigure : Room := { frames := 1, cells := 0, slots := 0, locals := 25 }
set_option maxHeartbeats 4000000 in
set_option maxRecDepth 100000 in
theorem k_X5_isFigure_E {p : Program} {l : Launch} {e : Env} {s : State} {m : MethodId} {args : Array Value} {below : List Frame} {meth : Method} {c : Code} {D : va_G} {t : Nat → ClassId} {a : Nat → Nat} {X : State → Prop} {N : Nat} {r : Int32} {S' : ST} (hX : XOk (aW 17 a) X) (E : EN p s m args meth c cX5_isFigure RX5 wsX5_isFigure (some .boolean) 1) {S : ST} {x0 : Int32} {H : Heap} {locs : List Loc} {ls : Array Slot} (w : Wd D (cM t a) (aW 17 a) (tyM t) X S s H locs) (hl : lv_has ls 1 [(0, .int x0)]) (hf : f_X5_isFigure N S x0 = some (r, S')) : W p l e rmX5_isFigure s m args below meth c H locs 0 0 (MQ below (Qi D (cM t a) (aW 17 a) (tyM t) r S') args s 0 0 (aW 17 a)) (F0 m 0 ls []) := by
  obtain ⟨⟨hx, hb, hml, hown, hts⟩, hr, hlk⟩ := id E
  unfold f_X5_isFigure at hf
  refine lv_iload_n hx hb dX5_isFigure_0 rfl (lv_at hl 0 rfl) ?_
  refine lv_i2l hx hb dX5_isFigure_1 rfl ?_
  refine lv_ldc2 hx hb hown (hts _ ct_X5_isFigure_169) dX5_isFigure_2 ?_
  refine lv_ldc2 hx hb hown (hts _ ct_X5_isFigure_171) dX5_isFigure_5 ?_
  obtain ⟨r3, S2, h1, hf⟩ := bd2_o hf
  refine w_callSi (As := [.long ((x0 : Int32).toInt64), .long 48, .long 57]) (rest := []) hX E w (c_X5_in l hX h1) (va_cwS 3 hts gX5_isFigure_X5_in rfl rfl rfl hd_X5_in ⟨Nat.le_of_ble_eq_true rfl, Nat.le_of_ble_eq_true rfl⟩) rfl hl.1 rfl (Nat.le_of_ble_eq_true rfl) dX5_isFigure_8 ⟨Nat.le_refl _, Nat.le_refl _⟩ (fun H locs w => ?_)
  obtain ⟨h4, hf⟩ := it_s hf
  exact w_retz E w h4 hf dX5_isFigure_11
theorem c_X5_isFigure (l : Launch) {D : va_G} {t : Nat → ClassId} {a : Nat → Nat} {X : State → Prop} (hX : XOk (aW 17 a) X) {N : Nat} {S : ST} {x0 : Int32} {r : Int32} {S' : ST} (hf : f_X5_isFigure N S x0 = some (r, S')) : Co l yX5_isFigure wsX5_isFigure rmX5_isFigure D (cM t a) (aW 17 a) (tyM t) X [.int x0] S (Qi D (cM t a) (aW 17 a) (tyM t) r S') :=
  co_of (cc := cX5_isFigure) (maxL := 1) (ret := (some .boolean)) (lv := [(0, .int x0)]) (by decide) rfl rfl (Nat.le_of_ble_eq_true rfl) rfl rfl (fun p e s m below meth c ls E hl w => k_X5_isFigure_E hX E w hl hf)
